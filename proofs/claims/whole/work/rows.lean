section
-- ===== PART A: goes FIRST, ahead of the names: the tables' words, and 'selects' of the private methods out of them =====
/-- a private method of a class that the tables say can be made, by its rows of tables_1 -/
def lw_okq (q : MethodName × Nat) : Prop := (q.1.cls ≠ "java/lang/invoke/MethodHandle" ∧ q.1.cls ≠ "java/lang/invoke/VarHandle") ∧ Cond.instantiable q.1.cls q.2 ∈ tables_1 ∧ Cond.privateMethod q.1 ∈ tables_1 ∧ Cond.instanceMethod q.1 ∈ tables_1
theorem lw_p0 : lw_okq (⟨"TreeClimb", "readText", "()I"⟩, 9) := ⟨⟨by decide +kernel, by decide +kernel⟩, List.mem_of_getElem? (i := 15) (by decide +kernel), List.mem_of_getElem? (i := 229) (by decide +kernel), List.mem_of_getElem? (i := 230) (by decide +kernel)⟩
theorem lw_p1 : lw_okq (⟨"TreeClimb$Text", "readNumber", "()I"⟩, 6) := ⟨⟨by decide +kernel, by decide +kernel⟩, List.mem_of_getElem? (i := 32) (by decide +kernel), List.mem_of_getElem? (i := 252) (by decide +kernel), List.mem_of_getElem? (i := 253) (by decide +kernel)⟩
theorem lw_p2 : lw_okq (⟨"TreeClimb$Text", "readWord", "()I"⟩, 6) := ⟨⟨by decide +kernel, by decide +kernel⟩, List.mem_of_getElem? (i := 32) (by decide +kernel), List.mem_of_getElem? (i := 262) (by decide +kernel), List.mem_of_getElem? (i := 263) (by decide +kernel)⟩
theorem lw_p3 : lw_okq (⟨"TreeClimb$Text", "says", "(Ljava/lang/String;)Z"⟩, 6) := ⟨⟨by decide +kernel, by decide +kernel⟩, List.mem_of_getElem? (i := 32) (by decide +kernel), List.mem_of_getElem? (i := 267) (by decide +kernel), List.mem_of_getElem? (i := 268) (by decide +kernel)⟩
theorem lw_p4 : lw_okq (⟨"TreeClimb", "readBranch", "(I)Z"⟩, 9) := ⟨⟨by decide +kernel, by decide +kernel⟩, List.mem_of_getElem? (i := 15) (by decide +kernel), List.mem_of_getElem? (i := 322) (by decide +kernel), List.mem_of_getElem? (i := 323) (by decide +kernel)⟩
theorem lw_p5 : lw_okq (⟨"TreeClimb", "readBody", "(I)Z"⟩, 9) := ⟨⟨by decide +kernel, by decide +kernel⟩, List.mem_of_getElem? (i := 15) (by decide +kernel), List.mem_of_getElem? (i := 340) (by decide +kernel), List.mem_of_getElem? (i := 341) (by decide +kernel)⟩
theorem lw_p6 : lw_okq (⟨"TreeClimb", "standDraft", "()V"⟩, 9) := ⟨⟨by decide +kernel, by decide +kernel⟩, List.mem_of_getElem? (i := 15) (by decide +kernel), List.mem_of_getElem? (i := 352) (by decide +kernel), List.mem_of_getElem? (i := 353) (by decide +kernel)⟩
theorem lw_p7 : lw_okq (⟨"TreeClimb$Wood", "lowerNear", "(I)I"⟩, 6) := ⟨⟨by decide +kernel, by decide +kernel⟩, List.mem_of_getElem? (i := 155) (by decide +kernel), List.mem_of_getElem? (i := 364) (by decide +kernel), List.mem_of_getElem? (i := 365) (by decide +kernel)⟩
theorem lw_p8 : lw_okq (⟨"TreeClimb", "isBranch", "(I)Z"⟩, 9) := ⟨⟨by decide +kernel, by decide +kernel⟩, List.mem_of_getElem? (i := 15) (by decide +kernel), List.mem_of_getElem? (i := 385) (by decide +kernel), List.mem_of_getElem? (i := 386) (by decide +kernel)⟩
theorem lw_p9 : lw_okq (⟨"TreeClimb", "isSawn", "(I)Z"⟩, 9) := ⟨⟨by decide +kernel, by decide +kernel⟩, List.mem_of_getElem? (i := 15) (by decide +kernel), List.mem_of_getElem? (i := 389) (by decide +kernel), List.mem_of_getElem? (i := 390) (by decide +kernel)⟩
theorem lw_p10 : lw_okq (⟨"TreeClimb", "isBody", "(I)Z"⟩, 9) := ⟨⟨by decide +kernel, by decide +kernel⟩, List.mem_of_getElem? (i := 15) (by decide +kernel), List.mem_of_getElem? (i := 401) (by decide +kernel), List.mem_of_getElem? (i := 402) (by decide +kernel)⟩
theorem lw_p11 : lw_okq (⟨"TreeClimb", "isPlace", "(I)Z"⟩, 9) := ⟨⟨by decide +kernel, by decide +kernel⟩, List.mem_of_getElem? (i := 15) (by decide +kernel), List.mem_of_getElem? (i := 429) (by decide +kernel), List.mem_of_getElem? (i := 430) (by decide +kernel)⟩
theorem lw_p12 : lw_okq (⟨"TreeClimb", "tuned", "(I)I"⟩, 9) := ⟨⟨by decide +kernel, by decide +kernel⟩, List.mem_of_getElem? (i := 15) (by decide +kernel), List.mem_of_getElem? (i := 433) (by decide +kernel), List.mem_of_getElem? (i := 434) (by decide +kernel)⟩
theorem lw_p13 : lw_okq (⟨"TreeClimb", "mayStep", "(IIIII)Z"⟩, 9) := ⟨⟨by decide +kernel, by decide +kernel⟩, List.mem_of_getElem? (i := 15) (by decide +kernel), List.mem_of_getElem? (i := 437) (by decide +kernel), List.mem_of_getElem? (i := 438) (by decide +kernel)⟩
theorem lw_p14 : lw_okq (⟨"TreeClimb", "inReach", "(IIII)Z"⟩, 9) := ⟨⟨by decide +kernel, by decide +kernel⟩, List.mem_of_getElem? (i := 15) (by decide +kernel), List.mem_of_getElem? (i := 441) (by decide +kernel), List.mem_of_getElem? (i := 442) (by decide +kernel)⟩
theorem lw_p15 : lw_okq (⟨"TreeClimb", "bears", "(II)Z"⟩, 9) := ⟨⟨by decide +kernel, by decide +kernel⟩, List.mem_of_getElem? (i := 15) (by decide +kernel), List.mem_of_getElem? (i := 445) (by decide +kernel), List.mem_of_getElem? (i := 446) (by decide +kernel)⟩
def lw_privs_1 : List (MethodName × Nat) := [(⟨"TreeClimb", "readText", "()I"⟩, 9), (⟨"TreeClimb$Text", "readNumber", "()I"⟩, 6), (⟨"TreeClimb$Text", "readWord", "()I"⟩, 6), (⟨"TreeClimb$Text", "says", "(Ljava/lang/String;)Z"⟩, 6), (⟨"TreeClimb", "readBranch", "(I)Z"⟩, 9), (⟨"TreeClimb", "readBody", "(I)Z"⟩, 9), (⟨"TreeClimb", "standDraft", "()V"⟩, 9), (⟨"TreeClimb$Wood", "lowerNear", "(I)I"⟩, 6), (⟨"TreeClimb", "isBranch", "(I)Z"⟩, 9), (⟨"TreeClimb", "isSawn", "(I)Z"⟩, 9), (⟨"TreeClimb", "isBody", "(I)Z"⟩, 9), (⟨"TreeClimb", "isPlace", "(I)Z"⟩, 9), (⟨"TreeClimb", "tuned", "(I)I"⟩, 9), (⟨"TreeClimb", "mayStep", "(IIIII)Z"⟩, 9), (⟨"TreeClimb", "inReach", "(IIII)Z"⟩, 9), (⟨"TreeClimb", "bears", "(II)Z"⟩, 9)]
theorem lw_r1 : ∀ q ∈ lw_privs_1, lw_okq q := List.forall_mem_cons.mpr ⟨lw_p0, List.forall_mem_cons.mpr ⟨lw_p1, List.forall_mem_cons.mpr ⟨lw_p2, List.forall_mem_cons.mpr ⟨lw_p3, List.forall_mem_cons.mpr ⟨lw_p4, List.forall_mem_cons.mpr ⟨lw_p5, List.forall_mem_cons.mpr ⟨lw_p6, List.forall_mem_cons.mpr ⟨lw_p7, List.forall_mem_cons.mpr ⟨lw_p8, List.forall_mem_cons.mpr ⟨lw_p9, List.forall_mem_cons.mpr ⟨lw_p10, List.forall_mem_cons.mpr ⟨lw_p11, List.forall_mem_cons.mpr ⟨lw_p12, List.forall_mem_cons.mpr ⟨lw_p13, List.forall_mem_cons.mpr ⟨lw_p14, List.forall_mem_cons.mpr ⟨lw_p15, fun _ h => absurd h List.not_mem_nil⟩⟩⟩⟩⟩⟩⟩⟩⟩⟩⟩⟩⟩⟩⟩⟩
theorem lw_p16 : lw_okq (⟨"TreeClimb", "tenths", "(II)I"⟩, 9) := ⟨⟨by decide +kernel, by decide +kernel⟩, List.mem_of_getElem? (i := 15) (by decide +kernel), List.mem_of_getElem? (i := 454) (by decide +kernel), List.mem_of_getElem? (i := 455) (by decide +kernel)⟩
theorem lw_p17 : lw_okq (⟨"TreeClimb", "look", "(III)V"⟩, 9) := ⟨⟨by decide +kernel, by decide +kernel⟩, List.mem_of_getElem? (i := 15) (by decide +kernel), List.mem_of_getElem? (i := 466) (by decide +kernel), List.mem_of_getElem? (i := 467) (by decide +kernel)⟩
theorem lw_p18 : lw_okq (⟨"TreeClimb$Ways", "bestInto", "(I)J"⟩, 7) := ⟨⟨by decide +kernel, by decide +kernel⟩, List.mem_of_getElem? (i := 62) (by decide +kernel), List.mem_of_getElem? (i := 490) (by decide +kernel), List.mem_of_getElem? (i := 491) (by decide +kernel)⟩
theorem lw_p19 : lw_okq (⟨"TreeClimb", "reached", "(I)I"⟩, 9) := ⟨⟨by decide +kernel, by decide +kernel⟩, List.mem_of_getElem? (i := 15) (by decide +kernel), List.mem_of_getElem? (i := 519) (by decide +kernel), List.mem_of_getElem? (i := 520) (by decide +kernel)⟩
theorem lw_p20 : lw_okq (⟨"TreeClimb$Ways", "firm", "()I"⟩, 7) := ⟨⟨by decide +kernel, by decide +kernel⟩, List.mem_of_getElem? (i := 62) (by decide +kernel), List.mem_of_getElem? (i := 527) (by decide +kernel), List.mem_of_getElem? (i := 528) (by decide +kernel)⟩
theorem lw_p21 : lw_okq (⟨"TreeClimb", "highest", "(I)I"⟩, 9) := ⟨⟨by decide +kernel, by decide +kernel⟩, List.mem_of_getElem? (i := 15) (by decide +kernel), List.mem_of_getElem? (i := 535) (by decide +kernel), List.mem_of_getElem? (i := 536) (by decide +kernel)⟩
theorem lw_p22 : lw_okq (⟨"TreeClimb", "returning", "(I)I"⟩, 9) := ⟨⟨by decide +kernel, by decide +kernel⟩, List.mem_of_getElem? (i := 15) (by decide +kernel), List.mem_of_getElem? (i := 539) (by decide +kernel), List.mem_of_getElem? (i := 540) (by decide +kernel)⟩
theorem lw_p23 : lw_okq (⟨"TreeClimb", "comesDown", "(I)Z"⟩, 9) := ⟨⟨by decide +kernel, by decide +kernel⟩, List.mem_of_getElem? (i := 15) (by decide +kernel), List.mem_of_getElem? (i := 543) (by decide +kernel), List.mem_of_getElem? (i := 544) (by decide +kernel)⟩
theorem lw_p24 : lw_okq (⟨"TreeClimb$Ways", "ascentsInto", "(LTreeClimb$Wood;II)J"⟩, 7) := ⟨⟨by decide +kernel, by decide +kernel⟩, List.mem_of_getElem? (i := 62) (by decide +kernel), List.mem_of_getElem? (i := 576) (by decide +kernel), List.mem_of_getElem? (i := 577) (by decide +kernel)⟩
theorem lw_p25 : lw_okq (⟨"TreeClimb", "soundShare", "(II)J"⟩, 9) := ⟨⟨by decide +kernel, by decide +kernel⟩, List.mem_of_getElem? (i := 15) (by decide +kernel), List.mem_of_getElem? (i := 584) (by decide +kernel), List.mem_of_getElem? (i := 585) (by decide +kernel)⟩
theorem lw_p26 : lw_okq (⟨"TreeClimb", "unsoundShare", "(III)J"⟩, 9) := ⟨⟨by decide +kernel, by decide +kernel⟩, List.mem_of_getElem? (i := 15) (by decide +kernel), List.mem_of_getElem? (i := 591) (by decide +kernel), List.mem_of_getElem? (i := 592) (by decide +kernel)⟩
theorem lw_p27 : lw_okq (⟨"TreeClimb", "swing", "(III)I"⟩, 9) := ⟨⟨by decide +kernel, by decide +kernel⟩, List.mem_of_getElem? (i := 15) (by decide +kernel), List.mem_of_getElem? (i := 604) (by decide +kernel), List.mem_of_getElem? (i := 605) (by decide +kernel)⟩
theorem lw_p28 : lw_okq (⟨"TreeClimb", "harm", "(II)I"⟩, 9) := ⟨⟨by decide +kernel, by decide +kernel⟩, List.mem_of_getElem? (i := 15) (by decide +kernel), List.mem_of_getElem? (i := 617) (by decide +kernel), List.mem_of_getElem? (i := 618) (by decide +kernel)⟩
theorem lw_p29 : lw_okq (⟨"TreeClimb", "leastToSaw", "(II)I"⟩, 9) := ⟨⟨by decide +kernel, by decide +kernel⟩, List.mem_of_getElem? (i := 15) (by decide +kernel), List.mem_of_getElem? (i := 630) (by decide +kernel), List.mem_of_getElem? (i := 631) (by decide +kernel)⟩
theorem lw_p30 : lw_okq (⟨"TreeClimb", "isSafe", "(III)Z"⟩, 9) := ⟨⟨by decide +kernel, by decide +kernel⟩, List.mem_of_getElem? (i := 15) (by decide +kernel), List.mem_of_getElem? (i := 640) (by decide +kernel), List.mem_of_getElem? (i := 641) (by decide +kernel)⟩
theorem lw_p31 : lw_okq (⟨"TreeClimb$Diary", "isOf", "(IIII)Z"⟩, 4) := ⟨⟨by decide +kernel, by decide +kernel⟩, List.mem_of_getElem? (i := 91) (by decide +kernel), List.mem_of_getElem? (i := 660) (by decide +kernel), List.mem_of_getElem? (i := 661) (by decide +kernel)⟩
def lw_privs_2 : List (MethodName × Nat) := [(⟨"TreeClimb", "tenths", "(II)I"⟩, 9), (⟨"TreeClimb", "look", "(III)V"⟩, 9), (⟨"TreeClimb$Ways", "bestInto", "(I)J"⟩, 7), (⟨"TreeClimb", "reached", "(I)I"⟩, 9), (⟨"TreeClimb$Ways", "firm", "()I"⟩, 7), (⟨"TreeClimb", "highest", "(I)I"⟩, 9), (⟨"TreeClimb", "returning", "(I)I"⟩, 9), (⟨"TreeClimb", "comesDown", "(I)Z"⟩, 9), (⟨"TreeClimb$Ways", "ascentsInto", "(LTreeClimb$Wood;II)J"⟩, 7), (⟨"TreeClimb", "soundShare", "(II)J"⟩, 9), (⟨"TreeClimb", "unsoundShare", "(III)J"⟩, 9), (⟨"TreeClimb", "swing", "(III)I"⟩, 9), (⟨"TreeClimb", "harm", "(II)I"⟩, 9), (⟨"TreeClimb", "leastToSaw", "(II)I"⟩, 9), (⟨"TreeClimb", "isSafe", "(III)Z"⟩, 9), (⟨"TreeClimb$Diary", "isOf", "(IIII)Z"⟩, 4)]
theorem lw_r2 : ∀ q ∈ lw_privs_2, lw_okq q := List.forall_mem_cons.mpr ⟨lw_p16, List.forall_mem_cons.mpr ⟨lw_p17, List.forall_mem_cons.mpr ⟨lw_p18, List.forall_mem_cons.mpr ⟨lw_p19, List.forall_mem_cons.mpr ⟨lw_p20, List.forall_mem_cons.mpr ⟨lw_p21, List.forall_mem_cons.mpr ⟨lw_p22, List.forall_mem_cons.mpr ⟨lw_p23, List.forall_mem_cons.mpr ⟨lw_p24, List.forall_mem_cons.mpr ⟨lw_p25, List.forall_mem_cons.mpr ⟨lw_p26, List.forall_mem_cons.mpr ⟨lw_p27, List.forall_mem_cons.mpr ⟨lw_p28, List.forall_mem_cons.mpr ⟨lw_p29, List.forall_mem_cons.mpr ⟨lw_p30, List.forall_mem_cons.mpr ⟨lw_p31, fun _ h => absurd h List.not_mem_nil⟩⟩⟩⟩⟩⟩⟩⟩⟩⟩⟩⟩⟩⟩⟩⟩
theorem lw_p32 : lw_okq (⟨"TreeClimb", "markBranch", "(I)I"⟩, 9) := ⟨⟨by decide +kernel, by decide +kernel⟩, List.mem_of_getElem? (i := 15) (by decide +kernel), List.mem_of_getElem? (i := 707) (by decide +kernel), List.mem_of_getElem? (i := 708) (by decide +kernel)⟩
theorem lw_p33 : lw_okq (⟨"TreeClimb", "markSound", "(I)I"⟩, 9) := ⟨⟨by decide +kernel, by decide +kernel⟩, List.mem_of_getElem? (i := 15) (by decide +kernel), List.mem_of_getElem? (i := 711) (by decide +kernel), List.mem_of_getElem? (i := 712) (by decide +kernel)⟩
theorem lw_p34 : lw_okq (⟨"TreeClimb", "markDead", "(I)I"⟩, 9) := ⟨⟨by decide +kernel, by decide +kernel⟩, List.mem_of_getElem? (i := 15) (by decide +kernel), List.mem_of_getElem? (i := 716) (by decide +kernel), List.mem_of_getElem? (i := 717) (by decide +kernel)⟩
theorem lw_p35 : lw_okq (⟨"TreeClimb", "markSeeming", "(I)I"⟩, 9) := ⟨⟨by decide +kernel, by decide +kernel⟩, List.mem_of_getElem? (i := 15) (by decide +kernel), List.mem_of_getElem? (i := 720) (by decide +kernel), List.mem_of_getElem? (i := 721) (by decide +kernel)⟩
theorem lw_p36 : lw_okq (⟨"TreeClimb", "markBent", "(I)I"⟩, 9) := ⟨⟨by decide +kernel, by decide +kernel⟩, List.mem_of_getElem? (i := 15) (by decide +kernel), List.mem_of_getElem? (i := 725) (by decide +kernel), List.mem_of_getElem? (i := 726) (by decide +kernel)⟩
theorem lw_p37 : lw_okq (⟨"TreeClimb", "markWet", "(I)I"⟩, 9) := ⟨⟨by decide +kernel, by decide +kernel⟩, List.mem_of_getElem? (i := 15) (by decide +kernel), List.mem_of_getElem? (i := 730) (by decide +kernel), List.mem_of_getElem? (i := 731) (by decide +kernel)⟩
theorem lw_p38 : lw_okq (⟨"TreeClimbModel", "next", "()V"⟩, 36) := ⟨⟨by decide +kernel, by decide +kernel⟩, List.mem_of_getElem? (i := 755) (by decide +kernel), List.mem_of_getElem? (i := 887) (by decide +kernel), List.mem_of_getElem? (i := 888) (by decide +kernel)⟩
theorem lw_p39 : lw_okq (⟨"TreeClimbModel", "here", "()I"⟩, 36) := ⟨⟨by decide +kernel, by decide +kernel⟩, List.mem_of_getElem? (i := 755) (by decide +kernel), List.mem_of_getElem? (i := 891) (by decide +kernel), List.mem_of_getElem? (i := 892) (by decide +kernel)⟩
theorem lw_p40 : lw_okq (⟨"TreeClimbModel", "item", "(I)V"⟩, 36) := ⟨⟨by decide +kernel, by decide +kernel⟩, List.mem_of_getElem? (i := 755) (by decide +kernel), List.mem_of_getElem? (i := 898) (by decide +kernel), List.mem_of_getElem? (i := 899) (by decide +kernel)⟩
theorem lw_p41 : lw_okq (⟨"TreeClimbModel", "due", "(Z)I"⟩, 36) := ⟨⟨by decide +kernel, by decide +kernel⟩, List.mem_of_getElem? (i := 755) (by decide +kernel), List.mem_of_getElem? (i := 902) (by decide +kernel), List.mem_of_getElem? (i := 903) (by decide +kernel)⟩
theorem lw_p42 : lw_okq (⟨"TreeClimbModel", "number", "(II)I"⟩, 36) := ⟨⟨by decide +kernel, by decide +kernel⟩, List.mem_of_getElem? (i := 755) (by decide +kernel), List.mem_of_getElem? (i := 906) (by decide +kernel), List.mem_of_getElem? (i := 907) (by decide +kernel)⟩
theorem lw_p43 : lw_okq (⟨"TreeClimbModel", "optional", "(I)I"⟩, 36) := ⟨⟨by decide +kernel, by decide +kernel⟩, List.mem_of_getElem? (i := 755) (by decide +kernel), List.mem_of_getElem? (i := 910) (by decide +kernel), List.mem_of_getElem? (i := 911) (by decide +kernel)⟩
theorem lw_p44 : lw_okq (⟨"TreeClimbModel", "begin", "(I)V"⟩, 36) := ⟨⟨by decide +kernel, by decide +kernel⟩, List.mem_of_getElem? (i := 755) (by decide +kernel), List.mem_of_getElem? (i := 914) (by decide +kernel), List.mem_of_getElem? (i := 915) (by decide +kernel)⟩
theorem lw_p45 : lw_okq (⟨"TreeClimbModel", "isBranch", "(I)Z"⟩, 36) := ⟨⟨by decide +kernel, by decide +kernel⟩, List.mem_of_getElem? (i := 755) (by decide +kernel), List.mem_of_getElem? (i := 922) (by decide +kernel), List.mem_of_getElem? (i := 923) (by decide +kernel)⟩
theorem lw_p46 : lw_okq (⟨"TreeClimbModel", "isSawn", "(I)Z"⟩, 36) := ⟨⟨by decide +kernel, by decide +kernel⟩, List.mem_of_getElem? (i := 755) (by decide +kernel), List.mem_of_getElem? (i := 926) (by decide +kernel), List.mem_of_getElem? (i := 927) (by decide +kernel)⟩
theorem lw_p47 : lw_okq (⟨"TreeClimbModel", "of", "(II)I"⟩, 36) := ⟨⟨by decide +kernel, by decide +kernel⟩, List.mem_of_getElem? (i := 755) (by decide +kernel), List.mem_of_getElem? (i := 930) (by decide +kernel), List.mem_of_getElem? (i := 931) (by decide +kernel)⟩
def lw_privs_3 : List (MethodName × Nat) := [(⟨"TreeClimb", "markBranch", "(I)I"⟩, 9), (⟨"TreeClimb", "markSound", "(I)I"⟩, 9), (⟨"TreeClimb", "markDead", "(I)I"⟩, 9), (⟨"TreeClimb", "markSeeming", "(I)I"⟩, 9), (⟨"TreeClimb", "markBent", "(I)I"⟩, 9), (⟨"TreeClimb", "markWet", "(I)I"⟩, 9), (⟨"TreeClimbModel", "next", "()V"⟩, 36), (⟨"TreeClimbModel", "here", "()I"⟩, 36), (⟨"TreeClimbModel", "item", "(I)V"⟩, 36), (⟨"TreeClimbModel", "due", "(Z)I"⟩, 36), (⟨"TreeClimbModel", "number", "(II)I"⟩, 36), (⟨"TreeClimbModel", "optional", "(I)I"⟩, 36), (⟨"TreeClimbModel", "begin", "(I)V"⟩, 36), (⟨"TreeClimbModel", "isBranch", "(I)Z"⟩, 36), (⟨"TreeClimbModel", "isSawn", "(I)Z"⟩, 36), (⟨"TreeClimbModel", "of", "(II)I"⟩, 36)]
theorem lw_r3 : ∀ q ∈ lw_privs_3, lw_okq q := List.forall_mem_cons.mpr ⟨lw_p32, List.forall_mem_cons.mpr ⟨lw_p33, List.forall_mem_cons.mpr ⟨lw_p34, List.forall_mem_cons.mpr ⟨lw_p35, List.forall_mem_cons.mpr ⟨lw_p36, List.forall_mem_cons.mpr ⟨lw_p37, List.forall_mem_cons.mpr ⟨lw_p38, List.forall_mem_cons.mpr ⟨lw_p39, List.forall_mem_cons.mpr ⟨lw_p40, List.forall_mem_cons.mpr ⟨lw_p41, List.forall_mem_cons.mpr ⟨lw_p42, List.forall_mem_cons.mpr ⟨lw_p43, List.forall_mem_cons.mpr ⟨lw_p44, List.forall_mem_cons.mpr ⟨lw_p45, List.forall_mem_cons.mpr ⟨lw_p46, List.forall_mem_cons.mpr ⟨lw_p47, fun _ h => absurd h List.not_mem_nil⟩⟩⟩⟩⟩⟩⟩⟩⟩⟩⟩⟩⟩⟩⟩⟩
theorem lw_p48 : lw_okq (⟨"TreeClimbModel", "isBody", "(I)Z"⟩, 36) := ⟨⟨by decide +kernel, by decide +kernel⟩, List.mem_of_getElem? (i := 755) (by decide +kernel), List.mem_of_getElem? (i := 938) (by decide +kernel), List.mem_of_getElem? (i := 939) (by decide +kernel)⟩
theorem lw_p49 : lw_okq (⟨"TreeClimbModel", "bodyOf", "(II)I"⟩, 36) := ⟨⟨by decide +kernel, by decide +kernel⟩, List.mem_of_getElem? (i := 755) (by decide +kernel), List.mem_of_getElem? (i := 942) (by decide +kernel), List.mem_of_getElem? (i := 943) (by decide +kernel)⟩
theorem lw_p50 : lw_okq (⟨"TreeClimbModel", "isPlace", "(I)Z"⟩, 36) := ⟨⟨by decide +kernel, by decide +kernel⟩, List.mem_of_getElem? (i := 755) (by decide +kernel), List.mem_of_getElem? (i := 961) (by decide +kernel), List.mem_of_getElem? (i := 962) (by decide +kernel)⟩
theorem lw_p51 : lw_okq (⟨"TreeClimbModel", "look", "(I)V"⟩, 36) := ⟨⟨by decide +kernel, by decide +kernel⟩, List.mem_of_getElem? (i := 755) (by decide +kernel), List.mem_of_getElem? (i := 965) (by decide +kernel), List.mem_of_getElem? (i := 966) (by decide +kernel)⟩
theorem lw_p52 : lw_okq (⟨"TreeClimbModel", "mayStep", "(II)Z"⟩, 36) := ⟨⟨by decide +kernel, by decide +kernel⟩, List.mem_of_getElem? (i := 755) (by decide +kernel), List.mem_of_getElem? (i := 969) (by decide +kernel), List.mem_of_getElem? (i := 970) (by decide +kernel)⟩
theorem lw_p53 : lw_okq (⟨"TreeClimbModel", "apart", "(II)I"⟩, 36) := ⟨⟨by decide +kernel, by decide +kernel⟩, List.mem_of_getElem? (i := 755) (by decide +kernel), List.mem_of_getElem? (i := 973) (by decide +kernel), List.mem_of_getElem? (i := 974) (by decide +kernel)⟩
theorem lw_p54 : lw_okq (⟨"TreeClimbModel", "heightOf", "(I)I"⟩, 36) := ⟨⟨by decide +kernel, by decide +kernel⟩, List.mem_of_getElem? (i := 755) (by decide +kernel), List.mem_of_getElem? (i := 977) (by decide +kernel), List.mem_of_getElem? (i := 978) (by decide +kernel)⟩
theorem lw_p55 : lw_okq (⟨"TreeClimbModel", "holdsOn", "(I)I"⟩, 36) := ⟨⟨by decide +kernel, by decide +kernel⟩, List.mem_of_getElem? (i := 755) (by decide +kernel), List.mem_of_getElem? (i := 985) (by decide +kernel), List.mem_of_getElem? (i := 986) (by decide +kernel)⟩
theorem lw_p56 : lw_okq (⟨"TreeClimbModel", "goFrom", "(I)V"⟩, 36) := ⟨⟨by decide +kernel, by decide +kernel⟩, List.mem_of_getElem? (i := 755) (by decide +kernel), List.mem_of_getElem? (i := 994) (by decide +kernel), List.mem_of_getElem? (i := 995) (by decide +kernel)⟩
theorem lw_p57 : lw_okq (⟨"TreeClimbModel", "isThere", "(I)Z"⟩, 36) := ⟨⟨by decide +kernel, by decide +kernel⟩, List.mem_of_getElem? (i := 755) (by decide +kernel), List.mem_of_getElem? (i := 999) (by decide +kernel), List.mem_of_getElem? (i := 1000) (by decide +kernel)⟩
theorem lw_p58 : lw_okq (⟨"TreeClimbModel", "highBy", "(I)I"⟩, 36) := ⟨⟨by decide +kernel, by decide +kernel⟩, List.mem_of_getElem? (i := 755) (by decide +kernel), List.mem_of_getElem? (i := 1015) (by decide +kernel), List.mem_of_getElem? (i := 1016) (by decide +kernel)⟩
theorem lw_p59 : lw_okq (⟨"TreeClimbModel", "reached", "()I"⟩, 36) := ⟨⟨by decide +kernel, by decide +kernel⟩, List.mem_of_getElem? (i := 755) (by decide +kernel), List.mem_of_getElem? (i := 1020) (by decide +kernel), List.mem_of_getElem? (i := 1021) (by decide +kernel)⟩
theorem lw_p60 : lw_okq (⟨"TreeClimbModel", "comesDown", "(I)Z"⟩, 36) := ⟨⟨by decide +kernel, by decide +kernel⟩, List.mem_of_getElem? (i := 755) (by decide +kernel), List.mem_of_getElem? (i := 1024) (by decide +kernel), List.mem_of_getElem? (i := 1025) (by decide +kernel)⟩
theorem lw_p61 : lw_okq (⟨"TreeClimbModel", "countUps", "(I)V"⟩, 36) := ⟨⟨by decide +kernel, by decide +kernel⟩, List.mem_of_getElem? (i := 755) (by decide +kernel), List.mem_of_getElem? (i := 1044) (by decide +kernel), List.mem_of_getElem? (i := 1045) (by decide +kernel)⟩
theorem lw_p62 : lw_okq (⟨"TreeClimbModel", "soundBy", "(II)J"⟩, 36) := ⟨⟨by decide +kernel, by decide +kernel⟩, List.mem_of_getElem? (i := 755) (by decide +kernel), List.mem_of_getElem? (i := 1052) (by decide +kernel), List.mem_of_getElem? (i := 1053) (by decide +kernel)⟩
theorem lw_p63 : lw_okq (⟨"TreeClimbModel", "allBy", "(III)J"⟩, 36) := ⟨⟨by decide +kernel, by decide +kernel⟩, List.mem_of_getElem? (i := 755) (by decide +kernel), List.mem_of_getElem? (i := 1059) (by decide +kernel), List.mem_of_getElem? (i := 1060) (by decide +kernel)⟩
def lw_privs_4 : List (MethodName × Nat) := [(⟨"TreeClimbModel", "isBody", "(I)Z"⟩, 36), (⟨"TreeClimbModel", "bodyOf", "(II)I"⟩, 36), (⟨"TreeClimbModel", "isPlace", "(I)Z"⟩, 36), (⟨"TreeClimbModel", "look", "(I)V"⟩, 36), (⟨"TreeClimbModel", "mayStep", "(II)Z"⟩, 36), (⟨"TreeClimbModel", "apart", "(II)I"⟩, 36), (⟨"TreeClimbModel", "heightOf", "(I)I"⟩, 36), (⟨"TreeClimbModel", "holdsOn", "(I)I"⟩, 36), (⟨"TreeClimbModel", "goFrom", "(I)V"⟩, 36), (⟨"TreeClimbModel", "isThere", "(I)Z"⟩, 36), (⟨"TreeClimbModel", "highBy", "(I)I"⟩, 36), (⟨"TreeClimbModel", "reached", "()I"⟩, 36), (⟨"TreeClimbModel", "comesDown", "(I)Z"⟩, 36), (⟨"TreeClimbModel", "countUps", "(I)V"⟩, 36), (⟨"TreeClimbModel", "soundBy", "(II)J"⟩, 36), (⟨"TreeClimbModel", "allBy", "(III)J"⟩, 36)]
theorem lw_r4 : ∀ q ∈ lw_privs_4, lw_okq q := List.forall_mem_cons.mpr ⟨lw_p48, List.forall_mem_cons.mpr ⟨lw_p49, List.forall_mem_cons.mpr ⟨lw_p50, List.forall_mem_cons.mpr ⟨lw_p51, List.forall_mem_cons.mpr ⟨lw_p52, List.forall_mem_cons.mpr ⟨lw_p53, List.forall_mem_cons.mpr ⟨lw_p54, List.forall_mem_cons.mpr ⟨lw_p55, List.forall_mem_cons.mpr ⟨lw_p56, List.forall_mem_cons.mpr ⟨lw_p57, List.forall_mem_cons.mpr ⟨lw_p58, List.forall_mem_cons.mpr ⟨lw_p59, List.forall_mem_cons.mpr ⟨lw_p60, List.forall_mem_cons.mpr ⟨lw_p61, List.forall_mem_cons.mpr ⟨lw_p62, List.forall_mem_cons.mpr ⟨lw_p63, fun _ h => absurd h List.not_mem_nil⟩⟩⟩⟩⟩⟩⟩⟩⟩⟩⟩⟩⟩⟩⟩⟩
theorem lw_p64 : lw_okq (⟨"TreeClimbModel", "swayOn", "(II)I"⟩, 36) := ⟨⟨by decide +kernel, by decide +kernel⟩, List.mem_of_getElem? (i := 755) (by decide +kernel), List.mem_of_getElem? (i := 1071) (by decide +kernel), List.mem_of_getElem? (i := 1072) (by decide +kernel)⟩
theorem lw_p65 : lw_okq (⟨"TreeClimbModel", "harmFrom", "(I)I"⟩, 36) := ⟨⟨by decide +kernel, by decide +kernel⟩, List.mem_of_getElem? (i := 755) (by decide +kernel), List.mem_of_getElem? (i := 1083) (by decide +kernel), List.mem_of_getElem? (i := 1084) (by decide +kernel)⟩
theorem lw_p66 : lw_okq (⟨"TreeClimbModel", "isSafe", "(II)Z"⟩, 36) := ⟨⟨by decide +kernel, by decide +kernel⟩, List.mem_of_getElem? (i := 755) (by decide +kernel), List.mem_of_getElem? (i := 1094) (by decide +kernel), List.mem_of_getElem? (i := 1095) (by decide +kernel)⟩
theorem lw_p67 : lw_okq (⟨"TreeClimbModel", "placeNow", "()I"⟩, 36) := ⟨⟨by decide +kernel, by decide +kernel⟩, List.mem_of_getElem? (i := 755) (by decide +kernel), List.mem_of_getElem? (i := 1120) (by decide +kernel), List.mem_of_getElem? (i := 1121) (by decide +kernel)⟩
theorem lw_p68 : lw_okq (⟨"TreeClimbModel", "copy", "(II)V"⟩, 36) := ⟨⟨by decide +kernel, by decide +kernel⟩, List.mem_of_getElem? (i := 755) (by decide +kernel), List.mem_of_getElem? (i := 1145) (by decide +kernel), List.mem_of_getElem? (i := 1146) (by decide +kernel)⟩
def lw_privs_5 : List (MethodName × Nat) := [(⟨"TreeClimbModel", "swayOn", "(II)I"⟩, 36), (⟨"TreeClimbModel", "harmFrom", "(I)I"⟩, 36), (⟨"TreeClimbModel", "isSafe", "(II)Z"⟩, 36), (⟨"TreeClimbModel", "placeNow", "()I"⟩, 36), (⟨"TreeClimbModel", "copy", "(II)V"⟩, 36)]
theorem lw_r5 : ∀ q ∈ lw_privs_5, lw_okq q := List.forall_mem_cons.mpr ⟨lw_p64, List.forall_mem_cons.mpr ⟨lw_p65, List.forall_mem_cons.mpr ⟨lw_p66, List.forall_mem_cons.mpr ⟨lw_p67, List.forall_mem_cons.mpr ⟨lw_p68, fun _ h => absurd h List.not_mem_nil⟩⟩⟩⟩⟩
def lw_privs : List (MethodName × Nat) := lw_privs_1 ++ (lw_privs_2 ++ (lw_privs_3 ++ (lw_privs_4 ++ (lw_privs_5))))
def lw_tbl : List Cond := k2_sels lw_privs ++ tables_1
theorem lw_privs_ok : ∀ q ∈ lw_privs, lw_okq q := by
  show ∀ q ∈ lw_privs_1 ++ (lw_privs_2 ++ (lw_privs_3 ++ (lw_privs_4 ++ (lw_privs_5)))), lw_okq q
  exact List.forall_mem_append.mpr ⟨lw_r1, List.forall_mem_append.mpr ⟨lw_r2, List.forall_mem_append.mpr ⟨lw_r3, List.forall_mem_append.mpr ⟨lw_r4, lw_r5⟩⟩⟩⟩
end
section
/-! ===== BEGIN words of one list among another's, by their places ===== -/
theorem goodIn_r {big : List Cond} (ws : List Cond) (ps : List Nat) (hp : ws = ps.filterMap (fun i => big[i]?)) (h : ws.all goodWord = true) : GoodIn big ws := by
  intro w hw
  have h1 := List.all_eq_true.mp h w hw
  rw [hp] at hw
  obtain ⟨i, -, hi⟩ := List.mem_filterMap.mp hw
  have hm : w ∈ big := by first | exact List.mem_of_getElem? hi | exact List.getElem?_mem hi
  exact ⟨hm, good_of_word h1⟩
theorem goodIn_app {big a b : List Cond} (ha : GoodIn big a) (hb : GoodIn big b) : GoodIn big (a ++ b) := fun w h => (List.mem_append.mp h).elim (ha w) (hb w)
theorem goodIn_ca {big a b : List Cond} {c : Cond} (ha : GoodIn big (c :: a)) (hb : GoodIn big b) : GoodIn big (c :: (a ++ b)) := fun w h => (List.mem_cons.mp h).elim (fun e => ha w (List.mem_cons.mpr (Or.inl e))) (fun h => (List.mem_append.mp h).elim (fun h => ha w (List.mem_cons.mpr (Or.inr h))) (hb w))
theorem goodIn_sub {big ws : List Cond} (hm : ∀ w ∈ ws, w ∈ big) (h : ws.all goodWord = true) : GoodIn big ws := fun w hw => ⟨hm w hw, good_of_word (List.all_eq_true.mp h w hw)⟩
/-! ===== END ===== -/

def RX0 : String := "TreeClimb$Diary"
def TX0 : u_T := fun k => match k with
  | 0 => ("TreeClimb$Diary", "entries", "I", false)
  | 1 => ("TreeClimb$Diary", "bodies", "[I", true)
  | 2 => ("TreeClimb$Diary", "lookers", "[I", true)
  | _ => ("TreeClimb$Diary", "tops", "[I", true)
def tyX0 : Nat → FieldType := fun k => match k with
  | 0 => .int
  | 1 => .array .int
  | 2 => .array .int
  | _ => .array .int
abbrev wsX00 : List Cond := u_ws RX0 TX0 4
theorem nmX0 : ∀ a, a < 4 → ∀ b, b < 4 → a ≠ b → (TX0 a).2.1 ≠ (TX0 b).2.1 := by decide +kernel
theorem tyX0_ok : ∀ k, k < 4 → parseFieldDescriptor (TX0 k).2.2.1 = some (tyX0 k) := by decide +kernel
abbrev cX0_init : ByteArray := prog_2_method_1_code
def yX0_init : MethodName := ⟨RX0, "<init>", "()V"⟩
abbrev cX0_write : ByteArray := prog_2_method_2_code
def yX0_write : MethodName := ⟨RX0, "write", "(III)Z"⟩
abbrev cX0_howMany : ByteArray := prog_2_method_3_code
def yX0_howMany : MethodName := ⟨RX0, "howMany", "(IIII)I"⟩
abbrev cX0_heights : ByteArray := prog_2_method_4_code
def yX0_heights : MethodName := ⟨RX0, "heights", "(III)I"⟩
abbrev cX0_isOf : ByteArray := prog_2_method_5_code
def yX0_isOf : MethodName := ⟨RX0, "isOf", "(IIII)Z"⟩
def RX1 : String := "TreeClimb$Moment"
def TX1 : u_T := fun k => match k with
  | 0 => ("TreeClimb$Moment", "who", "I", false)
  | 1 => ("TreeClimb$Moment", "where", "I", false)
  | 2 => ("TreeClimb$Moment", "hurt", "I", false)
  | 3 => ("TreeClimb$Moment", "top", "I", false)
  | 4 => ("TreeClimb$Moment", "steps", "I", false)
  | 5 => ("TreeClimb$Moment", "falls", "I", false)
  | 6 => ("TreeClimb$Moment", "lot", "I", false)
  | 7 => ("TreeClimb$Moment", "sawn", "I", false)
  | _ => ("TreeClimb$Moment", "kept", "Z", false)
def tyX1 : Nat → FieldType := fun k => match k with
  | 0 => .int
  | 1 => .int
  | 2 => .int
  | 3 => .int
  | 4 => .int
  | 5 => .int
  | 6 => .int
  | 7 => .int
  | _ => .boolean
abbrev wsX10 : List Cond := u_ws RX1 TX1 9
theorem nmX1 : ∀ a, a < 9 → ∀ b, b < 9 → a ≠ b → (TX1 a).2.1 ≠ (TX1 b).2.1 := by decide +kernel
theorem tyX1_ok : ∀ k, k < 9 → parseFieldDescriptor (TX1 k).2.2.1 = some (tyX1 k) := by decide +kernel
abbrev cX1_init : ByteArray := prog_3_method_1_code
def yX1_init : MethodName := ⟨RX1, "<init>", "()V"⟩
abbrev cX1_begin : ByteArray := prog_3_method_2_code
def yX1_begin : MethodName := ⟨RX1, "begin", "(I)V"⟩
abbrev cX1_become : ByteArray := prog_3_method_3_code
def yX1_become : MethodName := ⟨RX1, "become", "(LTreeClimb$Moment;)V"⟩
abbrev cX1_draw : ByteArray := prog_3_method_4_code
def yX1_draw : MethodName := ⟨RX1, "draw", "()I"⟩
abbrev cX1_arrive : ByteArray := prog_3_method_5_code
def yX1_arrive : MethodName := ⟨RX1, "arrive", "(II)V"⟩
abbrev cX1_drop : ByteArray := prog_3_method_6_code
def yX1_drop : MethodName := ⟨RX1, "drop", "(I)V"⟩
def RX2 : String := "TreeClimb$Text"
def TX2 : u_T := fun k => match k with
  | 0 => ("TreeClimb$Text", "bytes", "[I", true)
  | 1 => ("TreeClimb$Text", "length", "I", false)
  | 2 => ("TreeClimb$Text", "at", "I", false)
  | 3 => ("TreeClimb$Text", "start", "I", false)
  | 4 => ("TreeClimb$Text", "token", "I", false)
  | _ => ("TreeClimb$Text", "number", "I", false)
def tyX2 : Nat → FieldType := fun k => match k with
  | 0 => .array .int
  | 1 => .int
  | 2 => .int
  | 3 => .int
  | 4 => .int
  | _ => .int
abbrev wsX20 : List Cond := u_ws RX2 TX2 6
theorem nmX2 : ∀ a, a < 6 → ∀ b, b < 6 → a ≠ b → (TX2 a).2.1 ≠ (TX2 b).2.1 := by decide +kernel
theorem tyX2_ok : ∀ k, k < 6 → parseFieldDescriptor (TX2 k).2.2.1 = some (tyX2 k) := by decide +kernel
abbrev cX2_init : ByteArray := prog_4_method_1_code
def yX2_init : MethodName := ⟨RX2, "<init>", "()V"⟩
abbrev cX2_append : ByteArray := prog_4_method_2_code
def yX2_append : MethodName := ⟨RX2, "append", "(JI)Z"⟩
abbrev cX2_rewind : ByteArray := prog_4_method_3_code
def yX2_rewind : MethodName := ⟨RX2, "rewind", "()V"⟩
abbrev cX2_byteAt : ByteArray := prog_4_method_4_code
def yX2_byteAt : MethodName := ⟨RX2, "byteAt", "(I)I"⟩
abbrev cX2_advance : ByteArray := prog_4_method_5_code
def yX2_advance : MethodName := ⟨RX2, "advance", "()V"⟩
abbrev cX2_readNumber : ByteArray := prog_4_method_6_code
def yX2_readNumber : MethodName := ⟨RX2, "readNumber", "()I"⟩
abbrev cX2_readWord : ByteArray := prog_4_method_7_code
def yX2_readWord : MethodName := ⟨RX2, "readWord", "()I"⟩
abbrev cX2_says : ByteArray := prog_4_method_8_code
def yX2_says : MethodName := ⟨RX2, "says", "(Ljava/lang/String;)Z"⟩
abbrev cX2_isDigit : ByteArray := prog_4_method_9_code
def yX2_isDigit : MethodName := ⟨RX2, "isDigit", "(I)Z"⟩
abbrev cX2_isLetter : ByteArray := prog_4_method_10_code
def yX2_isLetter : MethodName := ⟨RX2, "isLetter", "(I)Z"⟩
def RX3 : String := "TreeClimb$Ways"
def TX3 : u_T := fun k => match k with
  | 0 => ("TreeClimb$Ways", "next", "[I", true)
  | 1 => ("TreeClimb$Ways", "tenths", "[I", true)
  | 2 => ("TreeClimb$Ways", "steps", "[I", true)
  | 3 => ("TreeClimb$Ways", "odds", "[J", true)
  | 4 => ("TreeClimb$Ways", "counts", "[J", true)
  | 5 => ("TreeClimb$Ways", "before", "[J", false)
  | _ => ("TreeClimb$Ways", "after", "[J", false)
def tyX3 : Nat → FieldType := fun k => match k with
  | 0 => .array .int
  | 1 => .array .int
  | 2 => .array .int
  | 3 => .array .long
  | 4 => .array .long
  | 5 => .array .long
  | _ => .array .long
abbrev wsX30 : List Cond := u_ws RX3 TX3 7
theorem nmX3 : ∀ a, a < 7 → ∀ b, b < 7 → a ≠ b → (TX3 a).2.1 ≠ (TX3 b).2.1 := by decide +kernel
theorem tyX3_ok : ∀ k, k < 7 → parseFieldDescriptor (TX3 k).2.2.1 = some (tyX3 k) := by decide +kernel
abbrev cX3_init : ByteArray := prog_5_method_1_code
def yX3_init : MethodName := ⟨RX3, "<init>", "()V"⟩
abbrev cX3_forget : ByteArray := prog_5_method_2_code
def yX3_forget : MethodName := ⟨RX3, "forget", "()V"⟩
abbrev cX3_setTenths : ByteArray := prog_5_method_3_code
def yX3_setTenths : MethodName := ⟨RX3, "setTenths", "(II)V"⟩
abbrev cX3_join : ByteArray := prog_5_method_4_code
def yX3_join : MethodName := ⟨RX3, "join", "(II)V"⟩
abbrev cX3_oddsOf : ByteArray := prog_5_method_5_code
def yX3_oddsOf : MethodName := ⟨RX3, "oddsOf", "(I)J"⟩
abbrev cX3_stepsTo : ByteArray := prog_5_method_6_code
def yX3_stepsTo : MethodName := ⟨RX3, "stepsTo", "(I)I"⟩
abbrev cX3_flood : ByteArray := prog_5_method_7_code
def yX3_flood : MethodName := ⟨RX3, "flood", "(II)I"⟩
abbrev cX3_firm : ByteArray := prog_5_method_8_code
def yX3_firm : MethodName := ⟨RX3, "firm", "()I"⟩
abbrev cX3_weigh : ByteArray := prog_5_method_9_code
def yX3_weigh : MethodName := ⟨RX3, "weigh", "(I)V"⟩
abbrev cX3_bestInto : ByteArray := prog_5_method_10_code
def yX3_bestInto : MethodName := ⟨RX3, "bestInto", "(I)J"⟩
abbrev cX3_ascents : ByteArray := prog_5_method_11_code
def yX3_ascents : MethodName := ⟨RX3, "ascents", "(LTreeClimb$Wood;II)J"⟩
abbrev cX3_ascentsInto : ByteArray := prog_5_method_12_code
def yX3_ascentsInto : MethodName := ⟨RX3, "ascentsInto", "(LTreeClimb$Wood;II)J"⟩
abbrev cX3_skips : ByteArray := prog_5_method_13_code
def yX3_skips : MethodName := ⟨RX3, "skips", "(LTreeClimb$Wood;III)Z"⟩
abbrev cX3_isIn : ByteArray := prog_5_method_14_code
def yX3_isIn : MethodName := ⟨RX3, "isIn", "(I)Z"⟩
def RX4 : String := "TreeClimb$Wood"
def TX4 : u_T := fun k => match k with
  | 0 => ("TreeClimb$Wood", "branches", "I", false)
  | 1 => ("TreeClimb$Wood", "bodies", "I", false)
  | 2 => ("TreeClimb$Wood", "features", "[[I", true)
  | 3 => ("TreeClimb$Wood", "powers", "[[I", true)
  | 4 => ("TreeClimb$Wood", "downward", "[I", true)
  | _ => ("TreeClimb$Wood", "under", "[I", true)
def tyX4 : Nat → FieldType := fun k => match k with
  | 0 => .int
  | 1 => .int
  | 2 => .array (.array .int)
  | 3 => .array (.array .int)
  | 4 => .array .int
  | _ => .array .int
abbrev wsX40 : List Cond := u_ws RX4 TX4 6
theorem nmX4 : ∀ a, a < 6 → ∀ b, b < 6 → a ≠ b → (TX4 a).2.1 ≠ (TX4 b).2.1 := by decide +kernel
theorem tyX4_ok : ∀ k, k < 6 → parseFieldDescriptor (TX4 k).2.2.1 = some (tyX4 k) := by decide +kernel
abbrev cX4_init : ByteArray := prog_6_method_1_code
def yX4_init : MethodName := ⟨RX4, "<init>", "()V"⟩
abbrev cX4_empty : ByteArray := prog_6_method_2_code
def yX4_empty : MethodName := ⟨RX4, "empty", "()V"⟩
abbrev cX4_feature : ByteArray := prog_6_method_3_code
def yX4_feature : MethodName := ⟨RX4, "feature", "(II)I"⟩
abbrev cX4_setFeature : ByteArray := prog_6_method_4_code
def yX4_setFeature : MethodName := ⟨RX4, "setFeature", "(III)V"⟩
abbrev cX4_power : ByteArray := prog_6_method_5_code
def yX4_power : MethodName := ⟨RX4, "power", "(II)I"⟩
abbrev cX4_setPower : ByteArray := prog_6_method_6_code
def yX4_setPower : MethodName := ⟨RX4, "setPower", "(III)V"⟩
abbrev cX4_all : ByteArray := prog_6_method_7_code
def yX4_all : MethodName := ⟨RX4, "all", "()I"⟩
abbrev cX4_sidesApart : ByteArray := prog_6_method_8_code
def yX4_sidesApart : MethodName := ⟨RX4, "sidesApart", "(II)I"⟩
abbrev cX4_downward : ByteArray := prog_6_method_9_code
def yX4_downward : MethodName := ⟨RX4, "downward", "(I)I"⟩
abbrev cX4_below : ByteArray := prog_6_method_10_code
def yX4_below : MethodName := ⟨RX4, "below", "(I)I"⟩
abbrev cX4_order : ByteArray := prog_6_method_11_code
def yX4_order : MethodName := ⟨RX4, "order", "()V"⟩
abbrev cX4_lowerNear : ByteArray := prog_6_method_12_code
def yX4_lowerNear : MethodName := ⟨RX4, "lowerNear", "(I)I"⟩
def RX5 : String := "TreeClimb"
def TX5 : u_T := fun k => match k with
  | 0 => ("TreeClimb", "tunes", "[I", true)
  | 1 => ("TreeClimb", "text", "LTreeClimb$Text;", true)
  | 2 => ("TreeClimb", "ways", "LTreeClimb$Ways;", true)
  | 3 => ("TreeClimb", "diary", "LTreeClimb$Diary;", true)
  | 4 => ("TreeClimb", "present", "LTreeClimb$Moment;", true)
  | 5 => ("TreeClimb", "images", "[LTreeClimb$Moment;", true)
  | 6 => ("TreeClimb", "wood", "LTreeClimb$Wood;", false)
  | 7 => ("TreeClimb", "draft", "LTreeClimb$Wood;", false)
  | _ => ("TreeClimb", "asked", "J", false)
def tyX5 : Nat → FieldType := fun k => match k with
  | 0 => .array .int
  | 1 => .object "TreeClimb$Text"
  | 2 => .object "TreeClimb$Ways"
  | 3 => .object "TreeClimb$Diary"
  | 4 => .object "TreeClimb$Moment"
  | 5 => .array (.object "TreeClimb$Moment")
  | 6 => .object "TreeClimb$Wood"
  | 7 => .object "TreeClimb$Wood"
  | _ => .long
abbrev wsX50 : List Cond := u_ws RX5 TX5 9
theorem nmX5 : ∀ a, a < 9 → ∀ b, b < 9 → a ≠ b → (TX5 a).2.1 ≠ (TX5 b).2.1 := by decide +kernel
theorem tyX5_ok : ∀ k, k < 9 → parseFieldDescriptor (TX5 k).2.2.1 = some (tyX5 k) := by decide +kernel
abbrev cX5_init : ByteArray := prog_1_method_1_code
def yX5_init : MethodName := ⟨RX5, "<init>", "()V"⟩
abbrev cX5_type : ByteArray := prog_1_method_2_code
def yX5_type : MethodName := ⟨RX5, "type", "(JI)I"⟩
abbrev cX5_clear : ByteArray := prog_1_method_3_code
def yX5_clear : MethodName := ⟨RX5, "clear", "()I"⟩
abbrev cX5_tree : ByteArray := prog_1_method_4_code
def yX5_tree : MethodName := ⟨RX5, "tree", "()I"⟩
abbrev cX5_branch : ByteArray := prog_1_method_5_code
def yX5_branch : MethodName := ⟨RX5, "branch", "(II)I"⟩
abbrev cX5_body : ByteArray := prog_1_method_6_code
def yX5_body : MethodName := ⟨RX5, "body", "(II)I"⟩
abbrev cX5_tune : ByteArray := prog_1_method_7_code
def yX5_tune : MethodName := ⟨RX5, "tune", "(II)I"⟩
abbrev cX5_sawn : ByteArray := prog_1_method_8_code
def yX5_sawn : MethodName := ⟨RX5, "sawn", "(I)I"⟩
abbrev cX5_step : ByteArray := prog_1_method_9_code
def yX5_step : MethodName := ⟨RX5, "step", "(III)I"⟩
abbrev cX5_holds : ByteArray := prog_1_method_10_code
def yX5_holds : MethodName := ⟨RX5, "holds", "(II)I"⟩
abbrev cX5_best : ByteArray := prog_1_method_11_code
def yX5_best : MethodName := ⟨RX5, "best", "(IIII)J"⟩
abbrev cX5_high : ByteArray := prog_1_method_12_code
def yX5_high : MethodName := ⟨RX5, "high", "(II)I"⟩
abbrev cX5_sure : ByteArray := prog_1_method_13_code
def yX5_sure : MethodName := ⟨RX5, "sure", "(II)I"⟩
abbrev cX5_help : ByteArray := prog_1_method_14_code
def yX5_help : MethodName := ⟨RX5, "help", "(II)I"⟩
abbrev cX5_stuck : ByteArray := prog_1_method_15_code
def yX5_stuck : MethodName := ⟨RX5, "stuck", "(II)I"⟩
abbrev cX5_rubbed : ByteArray := prog_1_method_16_code
def yX5_rubbed : MethodName := ⟨RX5, "rubbed", "(III)J"⟩
abbrev cX5_tried : ByteArray := prog_1_method_17_code
def yX5_tried : MethodName := ⟨RX5, "tried", "(IIII)J"⟩
abbrev cX5_tries : ByteArray := prog_1_method_18_code
def yX5_tries : MethodName := ⟨RX5, "tries", "(III)I"⟩
abbrev cX5_sway : ByteArray := prog_1_method_19_code
def yX5_sway : MethodName := ⟨RX5, "sway", "(III)I"⟩
abbrev cX5_calm : ByteArray := prog_1_method_20_code
def yX5_calm : MethodName := ⟨RX5, "calm", "(III)I"⟩
abbrev cX5_fall : ByteArray := prog_1_method_21_code
def yX5_fall : MethodName := ⟨RX5, "fall", "(II)I"⟩
abbrev cX5_saw : ByteArray := prog_1_method_22_code
def yX5_saw : MethodName := ⟨RX5, "saw", "(IIII)I"⟩
abbrev cX5_afternoon : ByteArray := prog_1_method_23_code
def yX5_afternoon : MethodName := ⟨RX5, "afternoon", "(III)I"⟩
abbrev cX5_dares : ByteArray := prog_1_method_24_code
def yX5_dares : MethodName := ⟨RX5, "dares", "(IIII)I"⟩
abbrev cX5_looked : ByteArray := prog_1_method_25_code
def yX5_looked : MethodName := ⟨RX5, "looked", "(I)I"⟩
abbrev cX5_goes : ByteArray := prog_1_method_26_code
def yX5_goes : MethodName := ⟨RX5, "goes", "(I)I"⟩
abbrev cX5_climb : ByteArray := prog_1_method_27_code
def yX5_climb : MethodName := ⟨RX5, "climb", "(I)I"⟩
abbrev cX5_now : ByteArray := prog_1_method_28_code
def yX5_now : MethodName := ⟨RX5, "now", "(I)I"⟩
abbrev cX5_lot : ByteArray := prog_1_method_29_code
def yX5_lot : MethodName := ⟨RX5, "lot", "(I)I"⟩
abbrev cX5_mark : ByteArray := prog_1_method_30_code
def yX5_mark : MethodName := ⟨RX5, "mark", "(II)I"⟩
abbrev cX5_keep : ByteArray := prog_1_method_31_code
def yX5_keep : MethodName := ⟨RX5, "keep", "(I)I"⟩
abbrev cX5_back : ByteArray := prog_1_method_32_code
def yX5_back : MethodName := ⟨RX5, "back", "(I)I"⟩
abbrev cX5_count : ByteArray := prog_1_method_33_code
def yX5_count : MethodName := ⟨RX5, "count", "(I)I"⟩
abbrev cX5_trace : ByteArray := prog_1_method_34_code
def yX5_trace : MethodName := ⟨RX5, "trace", "()J"⟩
abbrev cX5_isBranch : ByteArray := prog_1_method_35_code
def yX5_isBranch : MethodName := ⟨RX5, "isBranch", "(I)Z"⟩
abbrev cX5_isPlace : ByteArray := prog_1_method_36_code
def yX5_isPlace : MethodName := ⟨RX5, "isPlace", "(I)Z"⟩
abbrev cX5_isBody : ByteArray := prog_1_method_37_code
def yX5_isBody : MethodName := ⟨RX5, "isBody", "(I)Z"⟩
abbrev cX5_isSawn : ByteArray := prog_1_method_38_code
def yX5_isSawn : MethodName := ⟨RX5, "isSawn", "(I)Z"⟩
abbrev cX5_tuned : ByteArray := prog_1_method_39_code
def yX5_tuned : MethodName := ⟨RX5, "tuned", "(I)I"⟩
abbrev cX5_has : ByteArray := prog_1_method_40_code
def yX5_has : MethodName := ⟨RX5, "has", "(II)Z"⟩
abbrev cX5_bit : ByteArray := prog_1_method_41_code
def yX5_bit : MethodName := ⟨RX5, "bit", "(Z)I"⟩
abbrev cX5_within : ByteArray := prog_1_method_42_code
def yX5_within : MethodName := ⟨RX5, "within", "(I[I[II)Z"⟩
abbrev cX5_readText : ByteArray := prog_1_method_43_code
def yX5_readText : MethodName := ⟨RX5, "readText", "()I"⟩
abbrev cX5_readBranch : ByteArray := prog_1_method_44_code
def yX5_readBranch : MethodName := ⟨RX5, "readBranch", "(I)Z"⟩
abbrev cX5_readBody : ByteArray := prog_1_method_45_code
def yX5_readBody : MethodName := ⟨RX5, "readBody", "(I)Z"⟩
abbrev cX5_standDraft : ByteArray := prog_1_method_46_code
def yX5_standDraft : MethodName := ⟨RX5, "standDraft", "()V"⟩
abbrev cX5_mayStep : ByteArray := prog_1_method_47_code
def yX5_mayStep : MethodName := ⟨RX5, "mayStep", "(IIIII)Z"⟩
abbrev cX5_inReach : ByteArray := prog_1_method_48_code
def yX5_inReach : MethodName := ⟨RX5, "inReach", "(IIII)Z"⟩
abbrev cX5_bears : ByteArray := prog_1_method_49_code
def yX5_bears : MethodName := ⟨RX5, "bears", "(II)Z"⟩
abbrev cX5_tenths : ByteArray := prog_1_method_50_code
def yX5_tenths : MethodName := ⟨RX5, "tenths", "(II)I"⟩
abbrev cX5_look : ByteArray := prog_1_method_51_code
def yX5_look : MethodName := ⟨RX5, "look", "(III)V"⟩
abbrev cX5_reached : ByteArray := prog_1_method_52_code
def yX5_reached : MethodName := ⟨RX5, "reached", "(I)I"⟩
abbrev cX5_comesDown : ByteArray := prog_1_method_53_code
def yX5_comesDown : MethodName := ⟨RX5, "comesDown", "(I)Z"⟩
abbrev cX5_returning : ByteArray := prog_1_method_54_code
def yX5_returning : MethodName := ⟨RX5, "returning", "(I)I"⟩
abbrev cX5_highest : ByteArray := prog_1_method_55_code
def yX5_highest : MethodName := ⟨RX5, "highest", "(I)I"⟩
abbrev cX5_soundShare : ByteArray := prog_1_method_56_code
def yX5_soundShare : MethodName := ⟨RX5, "soundShare", "(II)J"⟩
abbrev cX5_unsoundShare : ByteArray := prog_1_method_57_code
def yX5_unsoundShare : MethodName := ⟨RX5, "unsoundShare", "(III)J"⟩
abbrev cX5_power : ByteArray := prog_1_method_58_code
def yX5_power : MethodName := ⟨RX5, "power", "(II)J"⟩
abbrev cX5_leastTerms : ByteArray := prog_1_method_59_code
def yX5_leastTerms : MethodName := ⟨RX5, "leastTerms", "(JJI)J"⟩
abbrev cX5_commonDivisor : ByteArray := prog_1_method_60_code
def yX5_commonDivisor : MethodName := ⟨RX5, "commonDivisor", "(JJ)J"⟩
abbrev cX5_swing : ByteArray := prog_1_method_61_code
def yX5_swing : MethodName := ⟨RX5, "swing", "(III)I"⟩
abbrev cX5_harm : ByteArray := prog_1_method_62_code
def yX5_harm : MethodName := ⟨RX5, "harm", "(II)I"⟩
abbrev cX5_leastToSaw : ByteArray := prog_1_method_63_code
def yX5_leastToSaw : MethodName := ⟨RX5, "leastToSaw", "(II)I"⟩
abbrev cX5_isSafe : ByteArray := prog_1_method_64_code
def yX5_isSafe : MethodName := ⟨RX5, "isSafe", "(III)Z"⟩
abbrev cX5_markBranch : ByteArray := prog_1_method_65_code
def yX5_markBranch : MethodName := ⟨RX5, "markBranch", "(I)I"⟩
abbrev cX5_markSound : ByteArray := prog_1_method_66_code
def yX5_markSound : MethodName := ⟨RX5, "markSound", "(I)I"⟩
abbrev cX5_markDead : ByteArray := prog_1_method_67_code
def yX5_markDead : MethodName := ⟨RX5, "markDead", "(I)I"⟩
abbrev cX5_markSeeming : ByteArray := prog_1_method_68_code
def yX5_markSeeming : MethodName := ⟨RX5, "markSeeming", "(I)I"⟩
abbrev cX5_markBent : ByteArray := prog_1_method_69_code
def yX5_markBent : MethodName := ⟨RX5, "markBent", "(I)I"⟩
abbrev cX5_markWet : ByteArray := prog_1_method_70_code
def yX5_markWet : MethodName := ⟨RX5, "markWet", "(I)I"⟩
def RX6 : String := "TreeClimbModel"
def TX6 : u_T := fun k => match k with
  | 0 => ("TreeClimbModel", "trace", "J", false)
  | 1 => ("TreeClimbModel", "text", "[B", true)
  | 2 => ("TreeClimbModel", "typed", "I", false)
  | 3 => ("TreeClimbModel", "branches", "[I", true)
  | 4 => ("TreeClimbModel", "told", "[I", true)
  | 5 => ("TreeClimbModel", "bodies", "[I", true)
  | 6 => ("TreeClimbModel", "bodyTold", "[I", true)
  | 7 => ("TreeClimbModel", "tune", "[I", true)
  | 8 => ("TreeClimbModel", "at", "I", false)
  | 9 => ("TreeClimbModel", "start", "I", false)
  | 10 => ("TreeClimbModel", "sort", "I", false)
  | 11 => ("TreeClimbModel", "value", "I", false)
  | 12 => ("TreeClimbModel", "fault", "I", false)
  | 13 => ("TreeClimbModel", "sawnOnes", "[I", true)
  | 14 => ("TreeClimbModel", "reach", "I", false)
  | 15 => ("TreeClimbModel", "weight", "I", false)
  | 16 => ("TreeClimbModel", "grip", "I", false)
  | 17 => ("TreeClimbModel", "backs", "I", false)
  | 18 => ("TreeClimbModel", "odds", "[J", true)
  | 19 => ("TreeClimbModel", "steps", "[I", true)
  | 20 => ("TreeClimbModel", "nows", "[J", true)
  | 21 => ("TreeClimbModel", "then", "[J", true)
  | 22 => ("TreeClimbModel", "ups", "[J", true)
  | 23 => ("TreeClimbModel", "struck", "I", false)
  | 24 => ("TreeClimbModel", "afternoons", "I", false)
  | 25 => ("TreeClimbModel", "whose", "[I", true)
  | 26 => ("TreeClimbModel", "looks", "[I", true)
  | 27 => ("TreeClimbModel", "highs", "[I", true)
  | 28 => ("TreeClimbModel", "who", "[I", true)
  | 29 => ("TreeClimbModel", "where", "[I", true)
  | 30 => ("TreeClimbModel", "hurt", "[I", true)
  | 31 => ("TreeClimbModel", "tops", "[I", true)
  | 32 => ("TreeClimbModel", "held", "[I", true)
  | 33 => ("TreeClimbModel", "falls", "[I", true)
  | 34 => ("TreeClimbModel", "lots", "[I", true)
  | _ => ("TreeClimbModel", "isKept", "[Z", true)
def tyX6 : Nat → FieldType := fun k => match k with
  | 0 => .long
  | 1 => .array .byte
  | 2 => .int
  | 3 => .array .int
  | 4 => .array .int
  | 5 => .array .int
  | 6 => .array .int
  | 7 => .array .int
  | 8 => .int
  | 9 => .int
  | 10 => .int
  | 11 => .int
  | 12 => .int
  | 13 => .array .int
  | 14 => .int
  | 15 => .int
  | 16 => .int
  | 17 => .int
  | 18 => .array .long
  | 19 => .array .int
  | 20 => .array .long
  | 21 => .array .long
  | 22 => .array .long
  | 23 => .int
  | 24 => .int
  | 25 => .array .int
  | 26 => .array .int
  | 27 => .array .int
  | 28 => .array .int
  | 29 => .array .int
  | 30 => .array .int
  | 31 => .array .int
  | 32 => .array .int
  | 33 => .array .int
  | 34 => .array .int
  | _ => .array .boolean
abbrev wsX60 : List Cond := u_ws RX6 TX6 36
theorem nmX6 : ∀ a, a < 36 → ∀ b, b < 36 → a ≠ b → (TX6 a).2.1 ≠ (TX6 b).2.1 := by decide +kernel
theorem tyX6_ok : ∀ k, k < 36 → parseFieldDescriptor (TX6 k).2.2.1 = some (tyX6 k) := by decide +kernel
abbrev cX6_init : ByteArray := prog_8_method_1_code
def yX6_init : MethodName := ⟨RX6, "<init>", "()V"⟩
abbrev cX6_in : ByteArray := prog_8_method_3_code
def yX6_in : MethodName := ⟨RX6, "in", "(III)Z"⟩
abbrev cX6_type : ByteArray := prog_8_method_4_code
def yX6_type : MethodName := ⟨RX6, "type", "(JI)I"⟩
abbrev cX6_clear : ByteArray := prog_8_method_5_code
def yX6_clear : MethodName := ⟨RX6, "clear", "()I"⟩
abbrev cX6_here : ByteArray := prog_8_method_6_code
def yX6_here : MethodName := ⟨RX6, "here", "()I"⟩
abbrev cX6_next : ByteArray := prog_8_method_7_code
def yX6_next : MethodName := ⟨RX6, "next", "()V"⟩
abbrev cX6_due : ByteArray := prog_8_method_8_code
def yX6_due : MethodName := ⟨RX6, "due", "(Z)I"⟩
abbrev cX6_number : ByteArray := prog_8_method_9_code
def yX6_number : MethodName := ⟨RX6, "number", "(II)I"⟩
abbrev cX6_optional : ByteArray := prog_8_method_10_code
def yX6_optional : MethodName := ⟨RX6, "optional", "(I)I"⟩
abbrev cX6_item : ByteArray := prog_8_method_11_code
def yX6_item : MethodName := ⟨RX6, "item", "(I)V"⟩
abbrev cX6_tree : ByteArray := prog_8_method_12_code
def yX6_tree : MethodName := ⟨RX6, "tree", "()I"⟩
abbrev cX6_isBranch : ByteArray := prog_8_method_13_code
def yX6_isBranch : MethodName := ⟨RX6, "isBranch", "(I)Z"⟩
abbrev cX6_isBody : ByteArray := prog_8_method_14_code
def yX6_isBody : MethodName := ⟨RX6, "isBody", "(I)Z"⟩
abbrev cX6_isPlace : ByteArray := prog_8_method_15_code
def yX6_isPlace : MethodName := ⟨RX6, "isPlace", "(I)Z"⟩
abbrev cX6_of : ByteArray := prog_8_method_16_code
def yX6_of : MethodName := ⟨RX6, "of", "(II)I"⟩
abbrev cX6_bodyOf : ByteArray := prog_8_method_17_code
def yX6_bodyOf : MethodName := ⟨RX6, "bodyOf", "(II)I"⟩
abbrev cX6_isSawn : ByteArray := prog_8_method_18_code
def yX6_isSawn : MethodName := ⟨RX6, "isSawn", "(I)Z"⟩
abbrev cX6_branch : ByteArray := prog_8_method_19_code
def yX6_branch : MethodName := ⟨RX6, "branch", "(II)I"⟩
abbrev cX6_body : ByteArray := prog_8_method_20_code
def yX6_body : MethodName := ⟨RX6, "body", "(II)I"⟩
abbrev cX6_highOf : ByteArray := prog_8_method_21_code
def yX6_highOf : MethodName := ⟨RX6, "highOf", "(I)I"⟩
abbrev cX6_tune : ByteArray := prog_8_method_22_code
def yX6_tune : MethodName := ⟨RX6, "tune", "(II)I"⟩
abbrev cX6_sawn : ByteArray := prog_8_method_23_code
def yX6_sawn : MethodName := ⟨RX6, "sawn", "(I)I"⟩
abbrev cX6_heightOf : ByteArray := prog_8_method_24_code
def yX6_heightOf : MethodName := ⟨RX6, "heightOf", "(I)I"⟩
abbrev cX6_apart : ByteArray := prog_8_method_25_code
def yX6_apart : MethodName := ⟨RX6, "apart", "(II)I"⟩
abbrev cX6_look : ByteArray := prog_8_method_26_code
def yX6_look : MethodName := ⟨RX6, "look", "(I)V"⟩
abbrev cX6_mayStep : ByteArray := prog_8_method_27_code
def yX6_mayStep : MethodName := ⟨RX6, "mayStep", "(II)Z"⟩
abbrev cX6_holdsOn : ByteArray := prog_8_method_28_code
def yX6_holdsOn : MethodName := ⟨RX6, "holdsOn", "(I)I"⟩
abbrev cX6_step : ByteArray := prog_8_method_29_code
def yX6_step : MethodName := ⟨RX6, "step", "(III)I"⟩
abbrev cX6_holds : ByteArray := prog_8_method_30_code
def yX6_holds : MethodName := ⟨RX6, "holds", "(II)I"⟩
abbrev cX6_isThere : ByteArray := prog_8_method_31_code
def yX6_isThere : MethodName := ⟨RX6, "isThere", "(I)Z"⟩
abbrev cX6_goFrom : ByteArray := prog_8_method_32_code
def yX6_goFrom : MethodName := ⟨RX6, "goFrom", "(I)V"⟩
abbrev cX6_common : ByteArray := prog_8_method_33_code
def yX6_common : MethodName := ⟨RX6, "common", "(JJ)J"⟩
abbrev cX6_inLeast : ByteArray := prog_8_method_34_code
def yX6_inLeast : MethodName := ⟨RX6, "inLeast", "(JJI)J"⟩
abbrev cX6_best : ByteArray := prog_8_method_35_code
def yX6_best : MethodName := ⟨RX6, "best", "(IIII)J"⟩
abbrev cX6_highBy : ByteArray := prog_8_method_36_code
def yX6_highBy : MethodName := ⟨RX6, "highBy", "(I)I"⟩
abbrev cX6_comesDown : ByteArray := prog_8_method_37_code
def yX6_comesDown : MethodName := ⟨RX6, "comesDown", "(I)Z"⟩
abbrev cX6_reached : ByteArray := prog_8_method_38_code
def yX6_reached : MethodName := ⟨RX6, "reached", "()I"⟩
abbrev cX6_high : ByteArray := prog_8_method_39_code
def yX6_high : MethodName := ⟨RX6, "high", "(II)I"⟩
abbrev cX6_sure : ByteArray := prog_8_method_40_code
def yX6_sure : MethodName := ⟨RX6, "sure", "(II)I"⟩
abbrev cX6_help : ByteArray := prog_8_method_41_code
def yX6_help : MethodName := ⟨RX6, "help", "(II)I"⟩
abbrev cX6_stuck : ByteArray := prog_8_method_42_code
def yX6_stuck : MethodName := ⟨RX6, "stuck", "(II)I"⟩
abbrev cX6_countUps : ByteArray := prog_8_method_43_code
def yX6_countUps : MethodName := ⟨RX6, "countUps", "(I)V"⟩
abbrev cX6_rubbed : ByteArray := prog_8_method_44_code
def yX6_rubbed : MethodName := ⟨RX6, "rubbed", "(III)J"⟩
abbrev cX6_power : ByteArray := prog_8_method_45_code
def yX6_power : MethodName := ⟨RX6, "power", "(II)J"⟩
abbrev cX6_soundBy : ByteArray := prog_8_method_46_code
def yX6_soundBy : MethodName := ⟨RX6, "soundBy", "(II)J"⟩
abbrev cX6_allBy : ByteArray := prog_8_method_47_code
def yX6_allBy : MethodName := ⟨RX6, "allBy", "(III)J"⟩
abbrev cX6_tried : ByteArray := prog_8_method_48_code
def yX6_tried : MethodName := ⟨RX6, "tried", "(IIII)J"⟩
abbrev cX6_tries : ByteArray := prog_8_method_49_code
def yX6_tries : MethodName := ⟨RX6, "tries", "(III)I"⟩
abbrev cX6_swayOn : ByteArray := prog_8_method_50_code
def yX6_swayOn : MethodName := ⟨RX6, "swayOn", "(II)I"⟩
abbrev cX6_sway : ByteArray := prog_8_method_51_code
def yX6_sway : MethodName := ⟨RX6, "sway", "(III)I"⟩
abbrev cX6_calm : ByteArray := prog_8_method_52_code
def yX6_calm : MethodName := ⟨RX6, "calm", "(III)I"⟩
abbrev cX6_harmFrom : ByteArray := prog_8_method_53_code
def yX6_harmFrom : MethodName := ⟨RX6, "harmFrom", "(I)I"⟩
abbrev cX6_fall : ByteArray := prog_8_method_54_code
def yX6_fall : MethodName := ⟨RX6, "fall", "(II)I"⟩
abbrev cX6_bitsIn : ByteArray := prog_8_method_55_code
def yX6_bitsIn : MethodName := ⟨RX6, "bitsIn", "(I)I"⟩
abbrev cX6_isSafe : ByteArray := prog_8_method_56_code
def yX6_isSafe : MethodName := ⟨RX6, "isSafe", "(II)Z"⟩
abbrev cX6_saw : ByteArray := prog_8_method_57_code
def yX6_saw : MethodName := ⟨RX6, "saw", "(IIII)I"⟩
abbrev cX6_afternoon : ByteArray := prog_8_method_58_code
def yX6_afternoon : MethodName := ⟨RX6, "afternoon", "(III)I"⟩
abbrev cX6_dares : ByteArray := prog_8_method_59_code
def yX6_dares : MethodName := ⟨RX6, "dares", "(IIII)I"⟩
abbrev cX6_looked : ByteArray := prog_8_method_60_code
def yX6_looked : MethodName := ⟨RX6, "looked", "(I)I"⟩
abbrev cX6_begin : ByteArray := prog_8_method_61_code
def yX6_begin : MethodName := ⟨RX6, "begin", "(I)V"⟩
abbrev cX6_goes : ByteArray := prog_8_method_62_code
def yX6_goes : MethodName := ⟨RX6, "goes", "(I)I"⟩
abbrev cX6_placeNow : ByteArray := prog_8_method_63_code
def yX6_placeNow : MethodName := ⟨RX6, "placeNow", "()I"⟩
abbrev cX6_climb : ByteArray := prog_8_method_64_code
def yX6_climb : MethodName := ⟨RX6, "climb", "(I)I"⟩
abbrev cX6_now : ByteArray := prog_8_method_65_code
def yX6_now : MethodName := ⟨RX6, "now", "(I)I"⟩
abbrev cX6_lot : ByteArray := prog_8_method_66_code
def yX6_lot : MethodName := ⟨RX6, "lot", "(I)I"⟩
abbrev cX6_mark : ByteArray := prog_8_method_67_code
def yX6_mark : MethodName := ⟨RX6, "mark", "(II)I"⟩
abbrev cX6_copy : ByteArray := prog_8_method_68_code
def yX6_copy : MethodName := ⟨RX6, "copy", "(II)V"⟩
abbrev cX6_keep : ByteArray := prog_8_method_69_code
def yX6_keep : MethodName := ⟨RX6, "keep", "(I)I"⟩
abbrev cX6_back : ByteArray := prog_8_method_70_code
def yX6_back : MethodName := ⟨RX6, "back", "(I)I"⟩
abbrev cX6_count : ByteArray := prog_8_method_71_code
def yX6_count : MethodName := ⟨RX6, "count", "(I)I"⟩
abbrev cX6_trace : ByteArray := prog_8_method_72_code
def yX6_trace : MethodName := ⟨RX6, "trace", "()J"⟩
def RJx8e188 : String := "java/lang/Cloneable"
def TJx8e188 : u_T := fun k => match k with
  | _ => ("", "", "", false)
def tyJx8e188 : Nat → FieldType := fun k => match k with
  | _ => .int
abbrev wsJx8e1880 : List Cond := u_ws RJx8e188 TJx8e188 0
theorem nmJx8e188 : ∀ a, a < 0 → ∀ b, b < 0 → a ≠ b → (TJx8e188 a).2.1 ≠ (TJx8e188 b).2.1 := by decide +kernel
theorem tyJx8e188_ok : ∀ k, k < 0 → parseFieldDescriptor (TJx8e188 k).2.2.1 = some (tyJx8e188 k) := by decide +kernel
def RJ6 : String := "java/lang/Integer"
def TJ6 : u_T := fun k => match k with
  | _ => ("", "", "", false)
def tyJ6 : Nat → FieldType := fun k => match k with
  | _ => .int
abbrev wsJ60 : List Cond := u_ws RJ6 TJ6 0
theorem nmJ6 : ∀ a, a < 0 → ∀ b, b < 0 → a ≠ b → (TJ6 a).2.1 ≠ (TJ6 b).2.1 := by decide +kernel
theorem tyJ6_ok : ∀ k, k < 0 → parseFieldDescriptor (TJ6 k).2.2.1 = some (tyJ6 k) := by decide +kernel
abbrev cJ6_numberOfTrailingZeros_0f7a4 : ByteArray := prog_10_method_48_code
def yJ6_numberOfTrailingZeros_0f7a4 : MethodName := ⟨RJ6, "numberOfTrailingZeros", "(I)I"⟩
abbrev cJ6_bitCount_0f7a4 : ByteArray := prog_10_method_49_code
def yJ6_bitCount_0f7a4 : MethodName := ⟨RJ6, "bitCount", "(I)I"⟩
def RJ9 : String := "java/lang/Math"
def TJ9 : u_T := fun k => match k with
  | _ => ("", "", "", false)
def tyJ9 : Nat → FieldType := fun k => match k with
  | _ => .int
abbrev wsJ90 : List Cond := u_ws RJ9 TJ9 0
theorem nmJ9 : ∀ a, a < 0 → ∀ b, b < 0 → a ≠ b → (TJ9 a).2.1 ≠ (TJ9 b).2.1 := by decide +kernel
theorem tyJ9_ok : ∀ k, k < 0 → parseFieldDescriptor (TJ9 k).2.2.1 = some (tyJ9 k) := by decide +kernel
abbrev cJ9_abs_0f7a4 : ByteArray := prog_11_method_59_code
def yJ9_abs_0f7a4 : MethodName := ⟨RJ9, "abs", "(I)I"⟩
abbrev cJ9_max_7cf53 : ByteArray := prog_11_method_65_code
def yJ9_max_7cf53 : MethodName := ⟨RJ9, "max", "(II)I"⟩
abbrev cJ9_max_f86c9 : ByteArray := prog_11_method_66_code
def yJ9_max_f86c9 : MethodName := ⟨RJ9, "max", "(JJ)J"⟩
abbrev cJ9_min_7cf53 : ByteArray := prog_11_method_69_code
def yJ9_min_7cf53 : MethodName := ⟨RJ9, "min", "(II)I"⟩
def RJ0 : String := "java/lang/String"
def TJ0 : u_T := fun k => match k with
  | _ => ("", "", "", false)
def tyJ0 : Nat → FieldType := fun k => match k with
  | _ => .int
abbrev wsJ00 : List Cond := u_ws RJ0 TJ0 0
theorem nmJ0 : ∀ a, a < 0 → ∀ b, b < 0 → a ≠ b → (TJ0 a).2.1 ≠ (TJ0 b).2.1 := by decide +kernel
theorem tyJ0_ok : ∀ k, k < 0 → parseFieldDescriptor (TJ0 k).2.2.1 = some (tyJ0 k) := by decide +kernel
abbrev cJ0_length_8abf5 : ByteArray := prog_12_method_54_code
def yJ0_length_8abf5 : MethodName := ⟨RJ0, "length", "()I"⟩
abbrev cJ0_charAt_5068e : ByteArray := prog_12_method_56_code
def yJ0_charAt_5068e : MethodName := ⟨RJ0, "charAt", "(I)C"⟩
abbrev cJ0_coder_7d493 : ByteArray := prog_12_method_152_code
def yJ0_coder_7d493 : MethodName := ⟨RJ0, "coder", "()B"⟩
abbrev cJ0_isLatin1_aae02 : ByteArray := prog_12_method_154_code
def yJ0_isLatin1_aae02 : MethodName := ⟨RJ0, "isLatin1", "()Z"⟩
abbrev cJ0_checkIndex_df160 : ByteArray := prog_12_method_155_code
def yJ0_checkIndex_df160 : MethodName := ⟨RJ0, "checkIndex", "(II)V"⟩
def RJ1 : String := "java/lang/StringLatin1"
def TJ1 : u_T := fun k => match k with
  | _ => ("", "", "", false)
def tyJ1 : Nat → FieldType := fun k => match k with
  | _ => .int
abbrev wsJ10 : List Cond := u_ws RJ1 TJ1 0
theorem nmJ1 : ∀ a, a < 0 → ∀ b, b < 0 → a ≠ b → (TJ1 a).2.1 ≠ (TJ1 b).2.1 := by decide +kernel
theorem tyJ1_ok : ∀ k, k < 0 → parseFieldDescriptor (TJ1 k).2.2.1 = some (tyJ1 k) := by decide +kernel
abbrev cJ1_charAt_3b067 : ByteArray := prog_13_method_2_code
def yJ1_charAt_3b067 : MethodName := ⟨RJ1, "charAt", "([BI)C"⟩
def RJ2 : String := "java/lang/StringUTF16"
def TJ2 : u_T := fun k => match k with
  | _ => ("", "", "", false)
def tyJ2 : Nat → FieldType := fun k => match k with
  | _ => .int
abbrev wsJ20 : List Cond := u_ws RJ2 TJ2 0
theorem nmJ2 : ∀ a, a < 0 → ∀ b, b < 0 → a ≠ b → (TJ2 a).2.1 ≠ (TJ2 b).2.1 := by decide +kernel
theorem tyJ2_ok : ∀ k, k < 0 → parseFieldDescriptor (TJ2 k).2.2.1 = some (tyJ2 k) := by decide +kernel
abbrev cJ2_getChar_3b067 : ByteArray := prog_14_method_5_code
def yJ2_getChar_3b067 : MethodName := ⟨RJ2, "getChar", "([BI)C"⟩
abbrev cJ2_length_9d52b : ByteArray := prog_14_method_6_code
def yJ2_length_9d52b : MethodName := ⟨RJ2, "length", "([B)I"⟩
abbrev cJ2_charAt_3b067 : ByteArray := prog_14_method_83_code
def yJ2_charAt_3b067 : MethodName := ⟨RJ2, "charAt", "([BI)C"⟩
abbrev cJ2_checkIndex_2214a : ByteArray := prog_14_method_91_code
def yJ2_checkIndex_2214a : MethodName := ⟨RJ2, "checkIndex", "(I[B)V"⟩
def RJ3 : String := "jdk/internal/util/Preconditions"
def TJ3 : u_T := fun k => match k with
  | _ => ("", "", "", false)
def tyJ3 : Nat → FieldType := fun k => match k with
  | _ => .int
abbrev wsJ30 : List Cond := u_ws RJ3 TJ3 0
theorem nmJ3 : ∀ a, a < 0 → ∀ b, b < 0 → a ≠ b → (TJ3 a).2.1 ≠ (TJ3 b).2.1 := by decide +kernel
theorem tyJ3_ok : ∀ k, k < 0 → parseFieldDescriptor (TJ3 k).2.2.1 = some (tyJ3 k) := by decide +kernel
abbrev cJ3_checkIndex_8e157 : ByteArray := prog_15_method_11_code
def yJ3_checkIndex_8e157 : MethodName := ⟨RJ3, "checkIndex", "(IILjava/util/function/BiFunction;)I"⟩
def RL : String := "TreeClimbLaw"
abbrev cL_law : ByteArray := code
def yL_law : MethodName := ⟨RL, "law", "([I)Z"⟩
def wsL_law_r1 : List Cond := [Cond.classLink RL 7 RX5, Cond.instantiable RX5 9, Cond.initialized RX5, Cond.classLink RL 10 RX6, Cond.instantiable RX6 36, Cond.initialized RX6, Cond.constantLong RL 13 (4294967295), Cond.methodLink RL 9 yX5_init, Cond.instanceMethod yX5_init, Cond.code yX5_init cX5_init 2 none, Cond.methodLink RX5 3 objectInit, Cond.instanceMethod objectInit, Cond.code objectInit ⟨#[0xb1]⟩ 1 none, Cond.fieldLink RX5 9 "TreeClimb" "FIRST_TUNE" "[I", Cond.methodLink RX5 13 ⟨"[I", "clone", "()Ljava/lang/Object;"⟩, Cond.sameMethod "[I" "java/lang/Object" "clone" "()Ljava/lang/Object;", Cond.native ⟨"java/lang/Object", "clone", "()Ljava/lang/Object;"⟩, Cond.instanceMethod ⟨"java/lang/Object", "clone", "()Ljava/lang/Object;"⟩, Cond.selects "[I" ⟨"[I", "clone", "()Ljava/lang/Object;"⟩ ⟨"java/lang/Object", "clone", "()Ljava/lang/Object;"⟩, Cond.classLink RX5 14 "[I", Cond.fieldLink RX5 18 "TreeClimb" "tunes" "[I", Cond.classLink RX5 21 RX2, Cond.instantiable RX2 6, Cond.initialized RX2]
def wsL_law_r2 : List Cond := [Cond.fieldLink RX5 24 "TreeClimb" "text" "LTreeClimb$Text;", Cond.classLink RX5 28 RX3, Cond.instantiable RX3 7, Cond.initialized RX3, Cond.fieldLink RX5 31 "TreeClimb" "ways" "LTreeClimb$Ways;", Cond.classLink RX5 35 RX0, Cond.instantiable RX0 4, Cond.initialized RX0, Cond.fieldLink RX5 38 "TreeClimb" "diary" "LTreeClimb$Diary;", Cond.classLink RX5 42 RX1, Cond.instantiable RX1 9, Cond.initialized RX1, Cond.fieldLink RX5 45 "TreeClimb" "present" "LTreeClimb$Moment;", Cond.fieldLink RX5 49 "TreeClimb" "images" "[LTreeClimb$Moment;", Cond.classLink RX5 53 RX4, Cond.instantiable RX4 6, Cond.initialized RX4, Cond.fieldLink RX5 56 "TreeClimb" "wood" "LTreeClimb$Wood;", Cond.fieldLink RX5 60 "TreeClimb" "draft" "LTreeClimb$Wood;", Cond.fieldLink RX5 63 "TreeClimb" "asked" "J", Cond.fieldLink RX5 67 "TreeClimb$Moment" "lot" "I", Cond.instanceMethod yX2_init, Cond.code yX2_init cX2_init 1 none, Cond.methodLink RX2 3 objectInit]
def wsL_law_r3 : List Cond := [Cond.arrayClass .int, Cond.fieldLink RX2 9 "TreeClimb$Text" "bytes" "[I", Cond.fieldLink RX2 15 "TreeClimb$Text" "length" "I", Cond.fieldLink RX2 19 "TreeClimb$Text" "at" "I", Cond.fieldLink RX2 22 "TreeClimb$Text" "start" "I", Cond.fieldLink RX2 25 "TreeClimb$Text" "token" "I", Cond.fieldLink RX2 28 "TreeClimb$Text" "number" "I", Cond.instanceMethod yX3_init, Cond.code yX3_init cX3_init 1 none, Cond.methodLink RX3 3 objectInit, Cond.fieldLink RX3 9 "TreeClimb$Ways" "next" "[I", Cond.fieldLink RX3 15 "TreeClimb$Ways" "tenths" "[I", Cond.fieldLink RX3 18 "TreeClimb$Ways" "steps" "[I", Cond.arrayClass .long, Cond.fieldLink RX3 21 "TreeClimb$Ways" "odds" "[J", Cond.fieldLink RX3 25 "TreeClimb$Ways" "counts" "[J", Cond.fieldLink RX3 28 "TreeClimb$Ways" "before" "[J", Cond.fieldLink RX3 31 "TreeClimb$Ways" "after" "[J", Cond.instanceMethod yX0_init, Cond.code yX0_init cX0_init 1 none, Cond.methodLink RX0 3 objectInit, Cond.fieldLink RX0 9 "TreeClimb$Diary" "entries" "I", Cond.fieldLink RX0 15 "TreeClimb$Diary" "bodies" "[I", Cond.fieldLink RX0 19 "TreeClimb$Diary" "lookers" "[I"]
def wsL_law_r4 : List Cond := [Cond.fieldLink RX0 22 "TreeClimb$Diary" "tops" "[I", Cond.instanceMethod yX1_init, Cond.code yX1_init cX1_init 1 none, Cond.methodLink RX1 3 objectInit, Cond.fieldLink RX1 9 "TreeClimb$Moment" "who" "I", Cond.fieldLink RX1 15 "TreeClimb$Moment" "where" "I", Cond.fieldLink RX1 18 "TreeClimb$Moment" "hurt" "I", Cond.fieldLink RX1 21 "TreeClimb$Moment" "top" "I", Cond.fieldLink RX1 24 "TreeClimb$Moment" "steps" "I", Cond.fieldLink RX1 27 "TreeClimb$Moment" "falls" "I", Cond.fieldLink RX1 30 "TreeClimb$Moment" "lot" "I", Cond.fieldLink RX1 33 "TreeClimb$Moment" "sawn" "I", Cond.fieldLink RX1 36 "TreeClimb$Moment" "kept" "Z", Cond.instanceMethod yX4_init, Cond.code yX4_init cX4_init 1 none, Cond.methodLink RX4 3 objectInit, Cond.fieldLink RX4 9 "TreeClimb$Wood" "branches" "I", Cond.fieldLink RX4 15 "TreeClimb$Wood" "bodies" "I", Cond.classLink RX4 18 "[[I", Cond.fieldLink RX4 20 "TreeClimb$Wood" "features" "[[I", Cond.fieldLink RX4 23 "TreeClimb$Wood" "powers" "[[I", Cond.fieldLink RX4 26 "TreeClimb$Wood" "downward" "[I", Cond.fieldLink RX4 30 "TreeClimb$Wood" "under" "[I", Cond.methodLink RL 12 yX6_init]
def wsL_law_r5 : List Cond := [Cond.instanceMethod yX6_init, Cond.code yX6_init cX6_init 1 none, Cond.methodLink RX6 1 objectInit, Cond.arrayClass .byte, Cond.fieldLink RX6 7 "TreeClimbModel" "text" "[B", Cond.fieldLink RX6 13 "TreeClimbModel" "branches" "[I", Cond.fieldLink RX6 17 "TreeClimbModel" "told" "[I", Cond.fieldLink RX6 20 "TreeClimbModel" "bodies" "[I", Cond.fieldLink RX6 23 "TreeClimbModel" "bodyTold" "[I", Cond.fieldLink RX6 26 "TreeClimbModel" "tune" "[I", Cond.fieldLink RX6 29 "TreeClimbModel" "sawnOnes" "[I", Cond.fieldLink RX6 32 "TreeClimbModel" "odds" "[J", Cond.fieldLink RX6 36 "TreeClimbModel" "steps" "[I", Cond.fieldLink RX6 39 "TreeClimbModel" "nows" "[J", Cond.fieldLink RX6 42 "TreeClimbModel" "then" "[J", Cond.fieldLink RX6 45 "TreeClimbModel" "ups" "[J", Cond.fieldLink RX6 48 "TreeClimbModel" "whose" "[I", Cond.fieldLink RX6 51 "TreeClimbModel" "looks" "[I", Cond.fieldLink RX6 54 "TreeClimbModel" "highs" "[I", Cond.fieldLink RX6 57 "TreeClimbModel" "who" "[I", Cond.fieldLink RX6 60 "TreeClimbModel" "where" "[I", Cond.fieldLink RX6 63 "TreeClimbModel" "hurt" "[I", Cond.fieldLink RX6 66 "TreeClimbModel" "tops" "[I", Cond.fieldLink RX6 69 "TreeClimbModel" "held" "[I"]
def wsL_law_r6 : List Cond := [Cond.fieldLink RX6 72 "TreeClimbModel" "falls" "[I", Cond.fieldLink RX6 75 "TreeClimbModel" "lots" "[I", Cond.arrayClass .boolean, Cond.fieldLink RX6 78 "TreeClimbModel" "isKept" "[Z", Cond.methodLink RL 15 yX5_type, Cond.instanceMethod yX5_type, Cond.selects RX5 yX5_type yX5_type, Cond.code yX5_type cX5_type 4 (some .int), Cond.fieldLink RX5 75 "TreeClimb$Text" "length" "I", Cond.methodLink RX5 71 yX2_append, Cond.instanceMethod yX2_append, Cond.selects RX2 yX2_append yX2_append, Cond.code yX2_append cX2_append 5 (some .boolean), Cond.methodLink RL 19 yX6_type, Cond.instanceMethod yX6_type, Cond.selects RX6 yX6_type yX6_type, Cond.code yX6_type cX6_type 5 (some .int), Cond.fieldLink RX6 86 "TreeClimbModel" "typed" "I", Cond.constantLong RX6 90 (255), Cond.methodLink RX6 82 yX6_in, Cond.static yX6_in, Cond.code yX6_in cX6_in 3 (some .boolean), Cond.methodLink RL 20 yX5_clear, Cond.instanceMethod yX5_clear]
def wsL_law_r7 : List Cond := [Cond.selects RX5 yX5_clear yX5_clear, Cond.code yX5_clear cX5_clear 2 (some .int), Cond.methodLink RL 24 yX6_clear, Cond.instanceMethod yX6_clear, Cond.selects RX6 yX6_clear yX6_clear, Cond.code yX6_clear cX6_clear 2 (some .int), Cond.methodLink RL 25 yX5_tree, Cond.instanceMethod yX5_tree, Cond.selects RX5 yX5_tree yX5_tree, Cond.code yX5_tree cX5_tree 3 (some .int), Cond.fieldLink RX5 89 "TreeClimb$Moment" "sawn" "I", Cond.fieldLink RX5 92 "TreeClimb$Diary" "entries" "I", Cond.fieldLink RX5 95 "TreeClimb$Moment" "kept" "Z", Cond.fieldLink RX5 99 "TreeClimb$Wood" "branches" "I", Cond.fieldLink RX5 102 "TreeClimb$Wood" "bodies" "I", Cond.methodLink RX5 78 yX5_readText, Cond.instanceMethod yX5_readText, Cond.selects RX5 yX5_readText yX5_readText, Cond.code yX5_readText cX5_readText 3 (some .int), Cond.fieldLink RX5 304 "TreeClimb$Text" "token" "I", Cond.fieldLink RX5 313 "TreeClimb$Text" "start" "I", Cond.methodLink RX5 295 yX4_empty, Cond.instanceMethod yX4_empty, Cond.selects RX4 yX4_empty yX4_empty]
def wsL_law_r8 : List Cond := [Cond.code yX4_empty cX4_empty 1 none, Cond.methodLink RX5 298 yX2_rewind, Cond.instanceMethod yX2_rewind, Cond.selects RX2 yX2_rewind yX2_rewind, Cond.code yX2_rewind cX2_rewind 1 none, Cond.methodLink RX5 301 yX2_advance, Cond.instanceMethod yX2_advance, Cond.selects RX2 yX2_advance yX2_advance, Cond.code yX2_advance cX2_advance 2 none, Cond.methodLink RX2 31 yX2_byteAt, Cond.instanceMethod yX2_byteAt, Cond.selects RX2 yX2_byteAt yX2_byteAt, Cond.code yX2_byteAt cX2_byteAt 2 (some .int), Cond.methodLink RX2 35 yX2_isDigit, Cond.static yX2_isDigit, Cond.code yX2_isDigit cX2_isDigit 1 (some .boolean), Cond.methodLink RX2 39 yX2_readNumber, Cond.instanceMethod yX2_readNumber, Cond.selects RX2 yX2_readNumber yX2_readNumber, Cond.code yX2_readNumber cX2_readNumber 3 (some .int), Cond.methodLink RX2 49 Lib.Math.min.name, Cond.static Lib.Math.min.name, Cond.initialized "java/lang/Math", Cond.code Lib.Math.min.name Lib.Math.min.code 2 (some .int)]
def wsL_law_r9 : List Cond := [Cond.methodLink RX2 43 yX2_isLetter, Cond.static yX2_isLetter, Cond.code yX2_isLetter cX2_isLetter 1 (some .boolean), Cond.methodLink RX2 46 yX2_readWord, Cond.instanceMethod yX2_readWord, Cond.selects RX2 yX2_readWord yX2_readWord, Cond.code yX2_readWord cX2_readWord 1 (some .int), Cond.methodLink RX2 57 yX2_says, Cond.instanceMethod yX2_says, Cond.selects RX2 yX2_says yX2_says, Cond.code yX2_says cX2_says 3 (some .boolean), Cond.methodLink RX2 67 yJ0_length_8abf5, Cond.instanceMethod yJ0_length_8abf5, Cond.selects RJ0 yJ0_length_8abf5 yJ0_length_8abf5, Cond.initialized RJ0, Cond.code yJ0_length_8abf5 cJ0_length_8abf5 1 (some .int), Cond.fieldLink RJ0 9 "java/lang/String" "value" "[B", Cond.methodLink RJ0 335 yJ0_coder_7d493, Cond.instanceMethod yJ0_coder_7d493, Cond.selects RJ0 yJ0_coder_7d493 yJ0_coder_7d493, Cond.code yJ0_coder_7d493 cJ0_coder_7d493 1 (some .byte), Cond.fieldLink RJ0 38 "java/lang/String" "COMPACT_STRINGS" "Z", Cond.fieldLink RJ0 15 "java/lang/String" "coder" "B", Cond.methodLink RX2 71 yJ0_charAt_5068e]
def wsL_law_r10 : List Cond := [Cond.instanceMethod yJ0_charAt_5068e, Cond.selects RJ0 yJ0_charAt_5068e yJ0_charAt_5068e, Cond.code yJ0_charAt_5068e cJ0_charAt_5068e 2 (some .char), Cond.methodLink RJ0 492 yJ0_isLatin1_aae02, Cond.instanceMethod yJ0_isLatin1_aae02, Cond.selects RJ0 yJ0_isLatin1_aae02 yJ0_isLatin1_aae02, Cond.code yJ0_isLatin1_aae02 cJ0_isLatin1_aae02 1 (some .boolean), Cond.methodLink RJ0 495 yJ1_charAt_3b067, Cond.static yJ1_charAt_3b067, Cond.initialized RJ1, Cond.code yJ1_charAt_3b067 cJ1_charAt_3b067 2 (some .char), Cond.methodLink RJ1 9 yJ0_checkIndex_df160, Cond.static yJ0_checkIndex_df160, Cond.code yJ0_checkIndex_df160 cJ0_checkIndex_df160 2 none, Cond.fieldLink RJ0 1053 "jdk/internal/util/Preconditions" "SIOOBE_FORMATTER" "Ljava/util/function/BiFunction;", Cond.methodLink RJ0 1059 yJ3_checkIndex_8e157, Cond.static yJ3_checkIndex_8e157, Cond.initialized RJ3, Cond.code yJ3_checkIndex_8e157 cJ3_checkIndex_8e157 3 (some .int), Cond.methodLink RJ0 498 yJ2_charAt_3b067, Cond.static yJ2_charAt_3b067, Cond.initialized RJ2, Cond.code yJ2_charAt_3b067 cJ2_charAt_3b067 2 (some .char), Cond.methodLink RJ2 67 yJ2_checkIndex_2214a]
def wsL_law_r11 : List Cond := [Cond.static yJ2_checkIndex_2214a, Cond.code yJ2_checkIndex_2214a cJ2_checkIndex_2214a 2 none, Cond.methodLink RJ2 48 yJ2_length_9d52b, Cond.static yJ2_length_9d52b, Cond.code yJ2_length_9d52b cJ2_length_9d52b 1 (some .int), Cond.methodLink RJ2 414 yJ0_checkIndex_df160, Cond.methodLink RJ2 71 yJ2_getChar_3b067, Cond.static yJ2_getChar_3b067, Cond.code yJ2_getChar_3b067 cJ2_getChar_3b067 2 (some .char), Cond.fieldLink RJ2 44 "java/lang/StringUTF16" "$assertionsDisabled" "Z", Cond.fieldLink RJ2 59 "java/lang/StringUTF16" "HI_BYTE_SHIFT" "I", Cond.fieldLink RJ2 63 "java/lang/StringUTF16" "LO_BYTE_SHIFT" "I", Cond.methodLink RX5 307 yX5_readBranch, Cond.instanceMethod yX5_readBranch, Cond.selects RX5 yX5_readBranch yX5_readBranch, Cond.code yX5_readBranch cX5_readBranch 4 (some .boolean), Cond.fieldLink RX5 316 "TreeClimb$Text" "number" "I", Cond.fieldLink RX5 319 "TreeClimb" "LEAST_OF_BRANCH" "[I", Cond.fieldLink RX5 322 "TreeClimb" "MOST_OF_BRANCH" "[I", Cond.methodLink RX5 132 yX5_within, Cond.static yX5_within, Cond.code yX5_within cX5_within 4 (some .boolean), Cond.methodLink RX5 325 yX4_setFeature, Cond.instanceMethod yX4_setFeature]
def wsL_law_r12 : List Cond := [Cond.selects RX4 yX4_setFeature yX4_setFeature, Cond.code yX4_setFeature cX4_setFeature 4 none, Cond.methodLink RX5 112 yX5_bit, Cond.static yX5_bit, Cond.code yX5_bit cX5_bit 1 (some .int), Cond.methodLink RX5 310 yX5_readBody, Cond.instanceMethod yX5_readBody, Cond.selects RX5 yX5_readBody yX5_readBody, Cond.code yX5_readBody cX5_readBody 3 (some .boolean), Cond.fieldLink RX5 328 "TreeClimb" "LEAST_OF_BODY" "[I", Cond.fieldLink RX5 331 "TreeClimb" "MOST_OF_BODY" "[I", Cond.methodLink RX5 334 yX4_setPower, Cond.instanceMethod yX4_setPower, Cond.selects RX4 yX4_setPower yX4_setPower, Cond.code yX4_setPower cX4_setPower 4 none, Cond.methodLink RX5 82 yX5_standDraft, Cond.instanceMethod yX5_standDraft, Cond.selects RX5 yX5_standDraft yX5_standDraft, Cond.code yX5_standDraft cX5_standDraft 2 none, Cond.methodLink RX5 337 yX4_order, Cond.instanceMethod yX4_order, Cond.selects RX4 yX4_order yX4_order, Cond.code yX4_order cX4_order 3 none, Cond.methodLink RX4 33 yX4_feature]
def wsL_law_r13 : List Cond := [Cond.instanceMethod yX4_feature, Cond.selects RX4 yX4_feature yX4_feature, Cond.code yX4_feature cX4_feature 3 (some .int), Cond.methodLink RX4 46 yX4_lowerNear, Cond.instanceMethod yX4_lowerNear, Cond.selects RX4 yX4_lowerNear yX4_lowerNear, Cond.code yX4_lowerNear cX4_lowerNear 4 (some .int), Cond.methodLink RX4 49 yX4_sidesApart, Cond.instanceMethod yX4_sidesApart, Cond.selects RX4 yX4_sidesApart yX4_sidesApart, Cond.code yX4_sidesApart cX4_sidesApart 4 (some .int), Cond.methodLink RX4 37 Lib.Math.abs.name, Cond.static Lib.Math.abs.name, Cond.code Lib.Math.abs.name Lib.Math.abs.code 1 (some .int), Cond.methodLink RX4 43 Lib.Math.min.name, Cond.methodLink RX5 85 yX1_begin, Cond.instanceMethod yX1_begin, Cond.selects RX1 yX1_begin yX1_begin, Cond.code yX1_begin cX1_begin 2 none, Cond.methodLink RL 28 yX6_tree, Cond.instanceMethod yX6_tree, Cond.selects RX6 yX6_tree yX6_tree, Cond.code yX6_tree cX6_tree 3 (some .int), Cond.fieldLink RX6 92 "TreeClimbModel" "at" "I"]
def wsL_law_r14 : List Cond := [Cond.fieldLink RX6 111 "TreeClimbModel" "fault" "I", Cond.fieldLink RX6 105 "TreeClimbModel" "sort" "I", Cond.fieldLink RX6 136 "TreeClimbModel" "afternoons" "I", Cond.methodLink RX6 114 yX6_next, Cond.instanceMethod yX6_next, Cond.selects RX6 yX6_next yX6_next, Cond.code yX6_next cX6_next 3 none, Cond.fieldLink RX6 99 "TreeClimbModel" "start" "I", Cond.fieldLink RX6 102 "TreeClimbModel" "value" "I", Cond.constant RX6 108 (38293730), Cond.constant RX6 109 (279740), Cond.constant RX6 110 (50434), Cond.methodLink RX6 95 yX6_here, Cond.instanceMethod yX6_here, Cond.selects RX6 yX6_here yX6_here, Cond.code yX6_here cX6_here 1 (some .int), Cond.methodLink RX6 129 yX6_item, Cond.instanceMethod yX6_item, Cond.selects RX6 yX6_item yX6_item, Cond.code yX6_item cX6_item 3 none, Cond.methodLink RX6 117 yX6_due, Cond.instanceMethod yX6_due, Cond.selects RX6 yX6_due yX6_due, Cond.code yX6_due cX6_due 3 (some .int)]
def wsL_law_r15 : List Cond := [Cond.methodLink RX6 121 yX6_number, Cond.instanceMethod yX6_number, Cond.selects RX6 yX6_number yX6_number, Cond.code yX6_number cX6_number 3 (some .int), Cond.methodLink RX6 125 yX6_optional, Cond.instanceMethod yX6_optional, Cond.selects RX6 yX6_optional yX6_optional, Cond.code yX6_optional cX6_optional 3 (some .int), Cond.methodLink RX6 133 yX6_begin, Cond.instanceMethod yX6_begin, Cond.selects RX6 yX6_begin yX6_begin, Cond.code yX6_begin cX6_begin 2 none, Cond.methodLink RL 29 yX5_branch, Cond.instanceMethod yX5_branch, Cond.selects RX5 yX5_branch yX5_branch, Cond.code yX5_branch cX5_branch 3 (some .int), Cond.methodLink RX5 105 yX5_isBranch, Cond.instanceMethod yX5_isBranch, Cond.selects RX5 yX5_isBranch yX5_isBranch, Cond.code yX5_isBranch cX5_isBranch 2 (some .boolean), Cond.methodLink RX5 109 yX5_isSawn, Cond.instanceMethod yX5_isSawn, Cond.selects RX5 yX5_isSawn yX5_isSawn, Cond.code yX5_isSawn cX5_isSawn 2 (some .boolean)]
def wsL_law_r16 : List Cond := [Cond.methodLink RX5 291 yX5_has, Cond.static yX5_has, Cond.code yX5_has cX5_has 2 (some .boolean), Cond.methodLink RX5 116 yX4_feature, Cond.methodLink RL 33 yX6_branch, Cond.instanceMethod yX6_branch, Cond.selects RX6 yX6_branch yX6_branch, Cond.code yX6_branch cX6_branch 3 (some .int), Cond.methodLink RX6 139 yX6_isBranch, Cond.instanceMethod yX6_isBranch, Cond.selects RX6 yX6_isBranch yX6_isBranch, Cond.code yX6_isBranch cX6_isBranch 2 (some .boolean), Cond.methodLink RX6 143 yX6_isSawn, Cond.instanceMethod yX6_isSawn, Cond.selects RX6 yX6_isSawn yX6_isSawn, Cond.code yX6_isSawn cX6_isSawn 2 (some .boolean), Cond.methodLink RX6 146 yX6_of, Cond.instanceMethod yX6_of, Cond.selects RX6 yX6_of yX6_of, Cond.code yX6_of cX6_of 3 (some .int), Cond.methodLink RL 34 yX5_body, Cond.instanceMethod yX5_body, Cond.selects RX5 yX5_body yX5_body, Cond.code yX5_body cX5_body 3 (some .int)]
def wsL_law_r17 : List Cond := [Cond.methodLink RX5 120 yX5_isBody, Cond.instanceMethod yX5_isBody, Cond.selects RX5 yX5_isBody yX5_isBody, Cond.code yX5_isBody cX5_isBody 2 (some .boolean), Cond.methodLink RX5 123 yX4_power, Cond.instanceMethod yX4_power, Cond.selects RX4 yX4_power yX4_power, Cond.code yX4_power cX4_power 3 (some .int), Cond.methodLink RL 37 yX6_body, Cond.instanceMethod yX6_body, Cond.selects RX6 yX6_body yX6_body, Cond.code yX6_body cX6_body 3 (some .int), Cond.methodLink RX6 149 yX6_isBody, Cond.instanceMethod yX6_isBody, Cond.selects RX6 yX6_isBody yX6_isBody, Cond.code yX6_isBody cX6_isBody 2 (some .boolean), Cond.methodLink RX6 152 yX6_bodyOf, Cond.instanceMethod yX6_bodyOf, Cond.selects RX6 yX6_bodyOf yX6_bodyOf, Cond.code yX6_bodyOf cX6_bodyOf 3 (some .int), Cond.methodLink RL 38 yX5_tune, Cond.instanceMethod yX5_tune, Cond.selects RX5 yX5_tune yX5_tune, Cond.code yX5_tune cX5_tune 4 (some .int)]
def wsL_law_r18 : List Cond := [Cond.fieldLink RX5 126 "TreeClimb" "LEAST_TUNE" "[I", Cond.fieldLink RX5 129 "TreeClimb" "MOST_TUNE" "[I", Cond.methodLink RL 41 yX6_tune, Cond.instanceMethod yX6_tune, Cond.selects RX6 yX6_tune yX6_tune, Cond.code yX6_tune cX6_tune 4 (some .int), Cond.methodLink RX6 155 yX6_highOf, Cond.static yX6_highOf, Cond.code yX6_highOf cX6_highOf 1 (some .int), Cond.methodLink RL 42 yX5_sawn, Cond.instanceMethod yX5_sawn, Cond.selects RX5 yX5_sawn yX5_sawn, Cond.code yX5_sawn cX5_sawn 3 (some .int), Cond.methodLink RX5 136 yX4_all, Cond.instanceMethod yX4_all, Cond.selects RX4 yX4_all yX4_all, Cond.code yX4_all cX4_all 1 (some .int), Cond.methodLink RL 46 yX6_sawn, Cond.instanceMethod yX6_sawn, Cond.selects RX6 yX6_sawn yX6_sawn, Cond.code yX6_sawn cX6_sawn 3 (some .int), Cond.methodLink RL 47 yX5_step, Cond.instanceMethod yX5_step, Cond.selects RX5 yX5_step yX5_step]
def wsL_law_r19 : List Cond := [Cond.code yX5_step cX5_step 4 (some .int), Cond.methodLink RX5 139 yX5_isPlace, Cond.instanceMethod yX5_isPlace, Cond.selects RX5 yX5_isPlace yX5_isPlace, Cond.code yX5_isPlace cX5_isPlace 2 (some .boolean), Cond.methodLink RX5 142 yX5_tuned, Cond.instanceMethod yX5_tuned, Cond.selects RX5 yX5_tuned yX5_tuned, Cond.code yX5_tuned cX5_tuned 2 (some .int), Cond.methodLink RX5 146 yX5_mayStep, Cond.instanceMethod yX5_mayStep, Cond.selects RX5 yX5_mayStep yX5_mayStep, Cond.code yX5_mayStep cX5_mayStep 6 (some .boolean), Cond.methodLink RX5 340 yX5_inReach, Cond.instanceMethod yX5_inReach, Cond.selects RX5 yX5_inReach yX5_inReach, Cond.code yX5_inReach cX5_inReach 5 (some .boolean), Cond.methodLink RX5 344 yX5_bears, Cond.instanceMethod yX5_bears, Cond.selects RX5 yX5_bears yX5_bears, Cond.code yX5_bears cX5_bears 3 (some .boolean), Cond.methodLink RX5 347 yX4_sidesApart, Cond.methodLink RL 51 yX6_step, Cond.instanceMethod yX6_step]
def wsL_law_r20 : List Cond := [Cond.selects RX6 yX6_step yX6_step, Cond.code yX6_step cX6_step 4 (some .int), Cond.methodLink RX6 176 yX6_isPlace, Cond.instanceMethod yX6_isPlace, Cond.selects RX6 yX6_isPlace yX6_isPlace, Cond.code yX6_isPlace cX6_isPlace 2 (some .boolean), Cond.methodLink RX6 179 yX6_look, Cond.instanceMethod yX6_look, Cond.selects RX6 yX6_look yX6_look, Cond.code yX6_look cX6_look 2 none, Cond.fieldLink RX6 158 "TreeClimbModel" "reach" "I", Cond.fieldLink RX6 161 "TreeClimbModel" "weight" "I", Cond.fieldLink RX6 164 "TreeClimbModel" "grip" "I", Cond.fieldLink RX6 167 "TreeClimbModel" "backs" "I", Cond.methodLink RX6 182 yX6_mayStep, Cond.instanceMethod yX6_mayStep, Cond.selects RX6 yX6_mayStep yX6_mayStep, Cond.code yX6_mayStep cX6_mayStep 4 (some .boolean), Cond.methodLink RX6 170 yX6_apart, Cond.instanceMethod yX6_apart, Cond.selects RX6 yX6_apart yX6_apart, Cond.code yX6_apart cX6_apart 4 (some .int), Cond.methodLink RX6 173 yX6_heightOf, Cond.instanceMethod yX6_heightOf]
def wsL_law_r21 : List Cond := [Cond.selects RX6 yX6_heightOf yX6_heightOf, Cond.code yX6_heightOf cX6_heightOf 2 (some .int), Cond.methodLink RL 52 yX5_holds, Cond.instanceMethod yX5_holds, Cond.selects RX5 yX5_holds yX5_holds, Cond.code yX5_holds cX5_holds 3 (some .int), Cond.methodLink RX5 150 yX5_tenths, Cond.instanceMethod yX5_tenths, Cond.selects RX5 yX5_tenths yX5_tenths, Cond.code yX5_tenths cX5_tenths 4 (some .int), Cond.methodLink RX5 188 Lib.Math.max.name, Cond.static Lib.Math.max.name, Cond.code Lib.Math.max.name Lib.Math.max.code 2 (some .int), Cond.methodLink RL 55 yX6_holds, Cond.instanceMethod yX6_holds, Cond.selects RX6 yX6_holds yX6_holds, Cond.code yX6_holds cX6_holds 3 (some .int), Cond.methodLink RX6 186 yX6_holdsOn, Cond.instanceMethod yX6_holdsOn, Cond.selects RX6 yX6_holdsOn yX6_holdsOn, Cond.code yX6_holdsOn cX6_holdsOn 4 (some .int), Cond.methodLink RL 56 yX5_best, Cond.instanceMethod yX5_best, Cond.selects RX5 yX5_best yX5_best]
def wsL_law_r22 : List Cond := [Cond.code yX5_best cX5_best 7 (some .long), Cond.constantLong RX5 153 (-1), Cond.constantLong RX5 166 (-9), Cond.constantLong RX5 171 (1000000000000), Cond.methodLink RX5 155 yX5_look, Cond.instanceMethod yX5_look, Cond.selects RX5 yX5_look yX5_look, Cond.code yX5_look cX5_look 7 none, Cond.methodLink RX5 350 yX3_forget, Cond.instanceMethod yX3_forget, Cond.selects RX3 yX3_forget yX3_forget, Cond.code yX3_forget cX3_forget 2 none, Cond.methodLink RX5 353 yX3_setTenths, Cond.instanceMethod yX3_setTenths, Cond.selects RX3 yX3_setTenths yX3_setTenths, Cond.code yX3_setTenths cX3_setTenths 3 none, Cond.methodLink RX3 34 yX3_isIn, Cond.static yX3_isIn, Cond.code yX3_isIn cX3_isIn 1 (some .boolean), Cond.methodLink RX5 356 yX3_join, Cond.instanceMethod yX3_join, Cond.selects RX3 yX3_join yX3_join, Cond.code yX3_join cX3_join 3 none, Cond.methodLink RX5 159 yX3_weigh]
def wsL_law_r23 : List Cond := [Cond.instanceMethod yX3_weigh, Cond.selects RX3 yX3_weigh yX3_weigh, Cond.code yX3_weigh cX3_weigh 4 none, Cond.constantLong RX3 48 (1000000000000), Cond.methodLink RX3 50 yX3_bestInto, Cond.instanceMethod yX3_bestInto, Cond.selects RX3 yX3_bestInto yX3_bestInto, Cond.code yX3_bestInto cX3_bestInto 5 (some .long), Cond.methodLink RX3 58 Lib.MathLoose.max_long.x, Cond.static Lib.MathLoose.max_long.x, Cond.code Lib.MathLoose.max_long.x Lib.MathLoose.max_long.code 4 (some .long), Cond.constantLong RX3 64 (10), Cond.methodLink RX5 162 yX3_oddsOf, Cond.instanceMethod yX3_oddsOf, Cond.selects RX3 yX3_oddsOf yX3_oddsOf, Cond.code yX3_oddsOf cX3_oddsOf 2 (some .long), Cond.methodLink RX5 168 yX3_stepsTo, Cond.instanceMethod yX3_stepsTo, Cond.selects RX3 yX3_stepsTo yX3_stepsTo, Cond.code yX3_stepsTo cX3_stepsTo 2 (some .int), Cond.methodLink RX5 173 yX5_leastTerms, Cond.static yX5_leastTerms, Cond.code yX5_leastTerms cX5_leastTerms 7 (some .long), Cond.methodLink RX5 364 yX5_commonDivisor]
def wsL_law_r24 : List Cond := [Cond.static yX5_commonDivisor, Cond.code yX5_commonDivisor cX5_commonDivisor 7 (some .long), Cond.methodLink RL 60 yX6_best, Cond.instanceMethod yX6_best, Cond.selects RX6 yX6_best yX6_best, Cond.code yX6_best cX6_best 6 (some .long), Cond.constantLong RX6 200 (-1), Cond.constantLong RX6 205 (-9), Cond.constantLong RX6 189 (1000000000000), Cond.methodLink RX6 202 yX6_goFrom, Cond.instanceMethod yX6_goFrom, Cond.selects RX6 yX6_goFrom yX6_goFrom, Cond.code yX6_goFrom cX6_goFrom 7 none, Cond.constantLong RX6 194 (10), Cond.methodLink RX6 191 yX6_isThere, Cond.instanceMethod yX6_isThere, Cond.selects RX6 yX6_isThere yX6_isThere, Cond.code yX6_isThere cX6_isThere 2 (some .boolean), Cond.methodLink RX6 207 yX6_inLeast, Cond.static yX6_inLeast, Cond.code yX6_inLeast cX6_inLeast 7 (some .long), Cond.methodLink RX6 196 yX6_common, Cond.static yX6_common, Cond.code yX6_common cX6_common 10 (some .long)]
def wsL_law_r25 : List Cond := [Cond.methodLink RL 61 yX5_high, Cond.instanceMethod yX5_high, Cond.selects RX5 yX5_high yX5_high, Cond.code yX5_high cX5_high 3 (some .int), Cond.methodLink RX5 177 yX5_reached, Cond.instanceMethod yX5_reached, Cond.selects RX5 yX5_reached yX5_reached, Cond.code yX5_reached cX5_reached 2 (some .int), Cond.methodLink RX5 359 yX3_flood, Cond.instanceMethod yX3_flood, Cond.selects RX3 yX3_flood yX3_flood, Cond.code yX3_flood cX3_flood 9 (some .int), Cond.methodLink RX3 38 yX3_firm, Cond.instanceMethod yX3_firm, Cond.selects RX3 yX3_firm yX3_firm, Cond.code yX3_firm cX3_firm 3 (some .int), Cond.methodLink RX3 42 yJ6_numberOfTrailingZeros_0f7a4, Cond.static yJ6_numberOfTrailingZeros_0f7a4, Cond.initialized RJ6, Cond.code yJ6_numberOfTrailingZeros_0f7a4 cJ6_numberOfTrailingZeros_0f7a4 2 (some .int), Cond.constant RJ6 264 (65536), Cond.methodLink RX5 180 yX5_highest, Cond.instanceMethod yX5_highest, Cond.selects RX5 yX5_highest yX5_highest]
def wsL_law_r26 : List Cond := [Cond.code yX5_highest cX5_highest 4 (some .int), Cond.methodLink RX5 183 yX5_returning, Cond.instanceMethod yX5_returning, Cond.selects RX5 yX5_returning yX5_returning, Cond.code yX5_returning cX5_returning 4 (some .int), Cond.methodLink RX5 193 yX5_comesDown, Cond.instanceMethod yX5_comesDown, Cond.selects RX5 yX5_comesDown yX5_comesDown, Cond.code yX5_comesDown cX5_comesDown 2 (some .boolean), Cond.methodLink RL 64 yX6_high, Cond.instanceMethod yX6_high, Cond.selects RX6 yX6_high yX6_high, Cond.code yX6_high cX6_high 7 (some .int), Cond.methodLink RX6 213 yX6_highBy, Cond.instanceMethod yX6_highBy, Cond.selects RX6 yX6_highBy yX6_highBy, Cond.code yX6_highBy cX6_highBy 5 (some .int), Cond.constantLong RX6 211 (100), Cond.methodLink RX6 216 yX6_reached, Cond.instanceMethod yX6_reached, Cond.selects RX6 yX6_reached yX6_reached, Cond.code yX6_reached cX6_reached 3 (some .int), Cond.methodLink RX6 219 yX6_comesDown, Cond.instanceMethod yX6_comesDown]
def wsL_law_r27 : List Cond := [Cond.selects RX6 yX6_comesDown yX6_comesDown, Cond.code yX6_comesDown cX6_comesDown 2 (some .boolean), Cond.methodLink RL 65 yX5_sure, Cond.instanceMethod yX5_sure, Cond.selects RX5 yX5_sure yX5_sure, Cond.code yX5_sure cX5_sure 7 (some .int), Cond.constantLong RX5 186 (100), Cond.methodLink RL 68 yX6_sure, Cond.instanceMethod yX6_sure, Cond.selects RX6 yX6_sure yX6_sure, Cond.code yX6_sure cX6_sure 3 (some .int), Cond.methodLink RL 69 yX5_help, Cond.instanceMethod yX5_help, Cond.selects RX5 yX5_help yX5_help, Cond.code yX5_help cX5_help 4 (some .int), Cond.methodLink RL 72 yX6_help, Cond.instanceMethod yX6_help, Cond.selects RX6 yX6_help yX6_help, Cond.code yX6_help cX6_help 4 (some .int), Cond.methodLink RL 73 yX5_stuck, Cond.instanceMethod yX5_stuck, Cond.selects RX5 yX5_stuck yX5_stuck, Cond.code yX5_stuck cX5_stuck 4 (some .int), Cond.methodLink RL 76 yX6_stuck]
def wsL_law_r28 : List Cond := [Cond.instanceMethod yX6_stuck, Cond.selects RX6 yX6_stuck yX6_stuck, Cond.code yX6_stuck cX6_stuck 5 (some .int), Cond.methodLink RL 77 yX5_rubbed, Cond.instanceMethod yX5_rubbed, Cond.selects RX5 yX5_rubbed yX5_rubbed, Cond.code yX5_rubbed cX5_rubbed 4 (some .long), Cond.methodLink RX5 196 yX3_ascents, Cond.instanceMethod yX3_ascents, Cond.selects RX3 yX3_ascents yX3_ascents, Cond.code yX3_ascents cX3_ascents 6 (some .long), Cond.fieldLink RX3 70 "TreeClimb$Wood" "branches" "I", Cond.methodLink RX3 66 yX3_skips, Cond.static yX3_skips, Cond.code yX3_skips cX3_skips 8 (some .boolean), Cond.methodLink RX3 83 yX4_feature, Cond.methodLink RX3 76 yX4_downward, Cond.instanceMethod yX4_downward, Cond.selects RX4 yX4_downward yX4_downward, Cond.code yX4_downward cX4_downward 2 (some .int), Cond.methodLink RX3 79 yX3_ascentsInto, Cond.instanceMethod yX3_ascentsInto, Cond.selects RX3 yX3_ascentsInto yX3_ascentsInto, Cond.code yX3_ascentsInto cX3_ascentsInto 8 (some .long)]
def wsL_law_r29 : List Cond := [Cond.methodLink RL 81 yX6_rubbed, Cond.instanceMethod yX6_rubbed, Cond.selects RX6 yX6_rubbed yX6_rubbed, Cond.code yX6_rubbed cX6_rubbed 11 (some .long), Cond.methodLink RX6 222 yX6_countUps, Cond.instanceMethod yX6_countUps, Cond.selects RX6 yX6_countUps yX6_countUps, Cond.code yX6_countUps cX6_countUps 5 none, Cond.methodLink RL 82 yX5_tried, Cond.instanceMethod yX5_tried, Cond.selects RX5 yX5_tried yX5_tried, Cond.code yX5_tried cX5_tried 7 (some .long), Cond.methodLink RX5 208 Lib.MathLoose.max_long.x, Cond.methodLink RX5 200 yX5_soundShare, Cond.instanceMethod yX5_soundShare, Cond.selects RX5 yX5_soundShare yX5_soundShare, Cond.code yX5_soundShare cX5_soundShare 3 (some .long), Cond.methodLink RX5 362 yX5_power, Cond.static yX5_power, Cond.code yX5_power cX5_power 5 (some .long), Cond.methodLink RX5 204 yX5_unsoundShare, Cond.instanceMethod yX5_unsoundShare, Cond.selects RX5 yX5_unsoundShare yX5_unsoundShare, Cond.code yX5_unsoundShare cX5_unsoundShare 4 (some .long)]
def wsL_law_r30 : List Cond := [Cond.methodLink RL 85 yX6_tried, Cond.instanceMethod yX6_tried, Cond.selects RX6 yX6_tried yX6_tried, Cond.code yX6_tried cX6_tried 5 (some .long), Cond.methodLink RX6 229 yX6_soundBy, Cond.instanceMethod yX6_soundBy, Cond.selects RX6 yX6_soundBy yX6_soundBy, Cond.code yX6_soundBy cX6_soundBy 3 (some .long), Cond.methodLink RX6 225 yX6_power, Cond.static yX6_power, Cond.code yX6_power cX6_power 5 (some .long), Cond.methodLink RX6 232 yX6_allBy, Cond.instanceMethod yX6_allBy, Cond.selects RX6 yX6_allBy yX6_allBy, Cond.code yX6_allBy cX6_allBy 4 (some .long), Cond.methodLink RL 86 yX5_tries, Cond.instanceMethod yX5_tries, Cond.selects RX5 yX5_tries yX5_tries, Cond.code yX5_tries cX5_tries 7 (some .int), Cond.methodLink RL 89 yX6_tries, Cond.instanceMethod yX6_tries, Cond.selects RX6 yX6_tries yX6_tries, Cond.code yX6_tries cX6_tries 7 (some .int), Cond.methodLink RL 90 yX5_sway]
def wsL_law_r31 : List Cond := [Cond.instanceMethod yX5_sway, Cond.selects RX5 yX5_sway yX5_sway, Cond.code yX5_sway cX5_sway 4 (some .int), Cond.methodLink RX5 211 yX5_swing, Cond.instanceMethod yX5_swing, Cond.selects RX5 yX5_swing yX5_swing, Cond.code yX5_swing cX5_swing 10 (some .int), Cond.methodLink RX5 367 Lib.Math.abs.name, Cond.methodLink RL 93 yX6_sway, Cond.instanceMethod yX6_sway, Cond.selects RX6 yX6_sway yX6_sway, Cond.code yX6_sway cX6_sway 4 (some .int), Cond.methodLink RX6 236 yX6_swayOn, Cond.instanceMethod yX6_swayOn, Cond.selects RX6 yX6_swayOn yX6_swayOn, Cond.code yX6_swayOn cX6_swayOn 9 (some .int), Cond.methodLink RL 94 yX5_calm, Cond.instanceMethod yX5_calm, Cond.selects RX5 yX5_calm yX5_calm, Cond.code yX5_calm cX5_calm 5 (some .int), Cond.methodLink RL 97 yX6_calm, Cond.instanceMethod yX6_calm, Cond.selects RX6 yX6_calm yX6_calm, Cond.code yX6_calm cX6_calm 5 (some .int)]
def wsL_law_r32 : List Cond := [Cond.methodLink RL 98 yX5_fall, Cond.instanceMethod yX5_fall, Cond.selects RX5 yX5_fall yX5_fall, Cond.code yX5_fall cX5_fall 3 (some .int), Cond.methodLink RX5 215 yX5_harm, Cond.instanceMethod yX5_harm, Cond.selects RX5 yX5_harm yX5_harm, Cond.code yX5_harm cX5_harm 9 (some .int), Cond.methodLink RX5 218 yX4_below, Cond.instanceMethod yX4_below, Cond.selects RX4 yX4_below yX4_below, Cond.code yX4_below cX4_below 2 (some .int), Cond.methodLink RX5 370 yX4_downward, Cond.methodLink RL 101 yX6_fall, Cond.instanceMethod yX6_fall, Cond.selects RX6 yX6_fall yX6_fall, Cond.code yX6_fall cX6_fall 4 (some .int), Cond.fieldLink RX6 239 "TreeClimbModel" "struck" "I", Cond.methodLink RX6 242 yX6_harmFrom, Cond.instanceMethod yX6_harmFrom, Cond.selects RX6 yX6_harmFrom yX6_harmFrom, Cond.code yX6_harmFrom cX6_harmFrom 7 (some .int), Cond.methodLink RL 102 yX5_saw, Cond.instanceMethod yX5_saw]
def wsL_law_r33 : List Cond := [Cond.selects RX5 yX5_saw yX5_saw, Cond.code yX5_saw cX5_saw 7 (some .int), Cond.methodLink RX5 221 yX5_leastToSaw, Cond.instanceMethod yX5_leastToSaw, Cond.selects RX5 yX5_leastToSaw yX5_leastToSaw, Cond.code yX5_leastToSaw cX5_leastToSaw 7 (some .int), Cond.methodLink RX5 224 yJ6_bitCount_0f7a4, Cond.static yJ6_bitCount_0f7a4, Cond.code yJ6_bitCount_0f7a4 cJ6_bitCount_0f7a4 1 (some .int), Cond.constant RJ6 265 (1431655765), Cond.constant RJ6 266 (858993459), Cond.constant RJ6 267 (252645135), Cond.methodLink RX5 373 yX5_isSafe, Cond.instanceMethod yX5_isSafe, Cond.selects RX5 yX5_isSafe yX5_isSafe, Cond.code yX5_isSafe cX5_isSafe 6 (some .boolean), Cond.methodLink RL 106 yX6_saw, Cond.instanceMethod yX6_saw, Cond.selects RX6 yX6_saw yX6_saw, Cond.code yX6_saw cX6_saw 9 (some .int), Cond.methodLink RX6 245 yX6_bitsIn, Cond.static yX6_bitsIn, Cond.code yX6_bitsIn cX6_bitsIn 3 (some .int), Cond.methodLink RX6 248 yX6_isSafe]
def wsL_law_r34 : List Cond := [Cond.instanceMethod yX6_isSafe, Cond.selects RX6 yX6_isSafe yX6_isSafe, Cond.code yX6_isSafe cX6_isSafe 6 (some .boolean), Cond.methodLink RL 107 yX5_afternoon, Cond.instanceMethod yX5_afternoon, Cond.selects RX5 yX5_afternoon yX5_afternoon, Cond.code yX5_afternoon cX5_afternoon 4 (some .int), Cond.methodLink RX5 229 yX0_write, Cond.instanceMethod yX0_write, Cond.selects RX0 yX0_write yX0_write, Cond.code yX0_write cX0_write 4 (some .boolean), Cond.methodLink RL 110 yX6_afternoon, Cond.instanceMethod yX6_afternoon, Cond.selects RX6 yX6_afternoon yX6_afternoon, Cond.code yX6_afternoon cX6_afternoon 4 (some .int), Cond.methodLink RL 111 yX5_dares, Cond.instanceMethod yX5_dares, Cond.selects RX5 yX5_dares yX5_dares, Cond.code yX5_dares cX5_dares 7 (some .int), Cond.methodLink RX5 233 yX0_howMany, Cond.instanceMethod yX0_howMany, Cond.selects RX0 yX0_howMany yX0_howMany, Cond.code yX0_howMany cX0_howMany 7 (some .int), Cond.methodLink RX0 25 yX0_isOf]
def wsL_law_r35 : List Cond := [Cond.instanceMethod yX0_isOf, Cond.selects RX0 yX0_isOf yX0_isOf, Cond.code yX0_isOf cX0_isOf 5 (some .boolean), Cond.methodLink RL 114 yX6_dares, Cond.instanceMethod yX6_dares, Cond.selects RX6 yX6_dares yX6_dares, Cond.code yX6_dares cX6_dares 9 (some .int), Cond.methodLink RL 115 yX5_looked, Cond.instanceMethod yX5_looked, Cond.selects RX5 yX5_looked yX5_looked, Cond.code yX5_looked cX5_looked 4 (some .int), Cond.constant RX5 237 (-1000000), Cond.methodLink RX5 238 yX0_heights, Cond.instanceMethod yX0_heights, Cond.selects RX0 yX0_heights yX0_heights, Cond.code yX0_heights cX0_heights 6 (some .int), Cond.methodLink RL 118 yX6_looked, Cond.instanceMethod yX6_looked, Cond.selects RX6 yX6_looked yX6_looked, Cond.code yX6_looked cX6_looked 8 (some .int), Cond.constant RX6 251 (-1000000), Cond.methodLink RL 119 yX5_goes, Cond.instanceMethod yX5_goes, Cond.selects RX5 yX5_goes yX5_goes]
def wsL_law_r36 : List Cond := [Cond.code yX5_goes cX5_goes 3 (some .int), Cond.fieldLink RX5 241 "TreeClimb$Moment" "who" "I", Cond.methodLink RL 122 yX6_goes, Cond.instanceMethod yX6_goes, Cond.selects RX6 yX6_goes yX6_goes, Cond.code yX6_goes cX6_goes 3 (some .int), Cond.methodLink RL 123 yX5_climb, Cond.instanceMethod yX5_climb, Cond.selects RX5 yX5_climb yX5_climb, Cond.code yX5_climb cX5_climb 4 (some .int), Cond.fieldLink RX5 244 "TreeClimb$Moment" "where" "I", Cond.methodLink RX5 247 yX1_draw, Cond.instanceMethod yX1_draw, Cond.selects RX1 yX1_draw yX1_draw, Cond.code yX1_draw cX1_draw 1 (some .int), Cond.constant RX1 40 (1103515245), Cond.methodLink RX5 250 yX1_arrive, Cond.instanceMethod yX1_arrive, Cond.selects RX1 yX1_arrive yX1_arrive, Cond.code yX1_arrive cX1_arrive 3 none, Cond.methodLink RX1 41 Lib.Math.max.name, Cond.methodLink RX5 254 yX1_drop, Cond.instanceMethod yX1_drop, Cond.selects RX1 yX1_drop yX1_drop]
def wsL_law_r37 : List Cond := [Cond.code yX1_drop cX1_drop 2 none, Cond.methodLink RL 126 yX6_climb, Cond.instanceMethod yX6_climb, Cond.selects RX6 yX6_climb yX6_climb, Cond.code yX6_climb cX6_climb 4 (some .int), Cond.constant RX6 252 (1103515245), Cond.methodLink RX6 253 yX6_placeNow, Cond.instanceMethod yX6_placeNow, Cond.selects RX6 yX6_placeNow yX6_placeNow, Cond.code yX6_placeNow cX6_placeNow 1 (some .int), Cond.methodLink RL 127 yX5_now, Cond.instanceMethod yX5_now, Cond.selects RX5 yX5_now yX5_now, Cond.code yX5_now cX5_now 2 (some .int), Cond.fieldLink RX5 257 "TreeClimb$Moment" "hurt" "I", Cond.fieldLink RX5 260 "TreeClimb$Moment" "top" "I", Cond.fieldLink RX5 263 "TreeClimb$Moment" "steps" "I", Cond.fieldLink RX5 266 "TreeClimb$Moment" "falls" "I", Cond.methodLink RL 130 yX6_now, Cond.instanceMethod yX6_now, Cond.selects RX6 yX6_now yX6_now, Cond.code yX6_now cX6_now 2 (some .int), Cond.methodLink RL 131 yX5_lot, Cond.instanceMethod yX5_lot]
def wsL_law_r38 : List Cond := [Cond.selects RX5 yX5_lot yX5_lot, Cond.code yX5_lot cX5_lot 3 (some .int), Cond.methodLink RL 134 yX6_lot, Cond.instanceMethod yX6_lot, Cond.selects RX6 yX6_lot yX6_lot, Cond.code yX6_lot cX6_lot 3 (some .int), Cond.methodLink RL 135 yX5_mark, Cond.instanceMethod yX5_mark, Cond.selects RX5 yX5_mark yX5_mark, Cond.code yX5_mark cX5_mark 3 (some .int), Cond.methodLink RX5 269 yX5_markBranch, Cond.instanceMethod yX5_markBranch, Cond.selects RX5 yX5_markBranch yX5_markBranch, Cond.code yX5_markBranch cX5_markBranch 2 (some .int), Cond.methodLink RX5 272 yX5_markSound, Cond.instanceMethod yX5_markSound, Cond.selects RX5 yX5_markSound yX5_markSound, Cond.code yX5_markSound cX5_markSound 2 (some .int), Cond.constantLong RX5 376 (10), Cond.methodLink RX5 275 yX5_markDead, Cond.instanceMethod yX5_markDead, Cond.selects RX5 yX5_markDead yX5_markDead, Cond.code yX5_markDead cX5_markDead 2 (some .int), Cond.methodLink RX5 278 yX5_markSeeming]
def wsL_law_r39 : List Cond := [Cond.instanceMethod yX5_markSeeming, Cond.selects RX5 yX5_markSeeming yX5_markSeeming, Cond.code yX5_markSeeming cX5_markSeeming 2 (some .int), Cond.constantLong RX5 378 (1000), Cond.methodLink RX5 281 yX5_markBent, Cond.instanceMethod yX5_markBent, Cond.selects RX5 yX5_markBent yX5_markBent, Cond.code yX5_markBent cX5_markBent 2 (some .int), Cond.constantLong RX5 380 (10000), Cond.methodLink RX5 284 yX5_markWet, Cond.instanceMethod yX5_markWet, Cond.selects RX5 yX5_markWet yX5_markWet, Cond.code yX5_markWet cX5_markWet 2 (some .int), Cond.constantLong RX5 382 (100000), Cond.methodLink RL 138 yX6_mark, Cond.instanceMethod yX6_mark, Cond.selects RX6 yX6_mark yX6_mark, Cond.code yX6_mark cX6_mark 5 (some .int), Cond.fieldLink RX6 256 "TreeClimbModel" "trace" "J", Cond.constantLong RX6 260 (11), Cond.constantLong RX6 262 (101), Cond.constantLong RX6 264 (1101), Cond.constantLong RX6 266 (10011), Cond.constantLong RX6 268 (100001)]
def wsL_law_r40 : List Cond := [Cond.methodLink RL 139 yX5_keep, Cond.instanceMethod yX5_keep, Cond.selects RX5 yX5_keep yX5_keep, Cond.code yX5_keep cX5_keep 2 (some .int), Cond.methodLink RX5 287 yX1_become, Cond.instanceMethod yX1_become, Cond.selects RX1 yX1_become yX1_become, Cond.code yX1_become cX1_become 2 none, Cond.methodLink RL 142 yX6_keep, Cond.instanceMethod yX6_keep, Cond.selects RX6 yX6_keep yX6_keep, Cond.code yX6_keep cX6_keep 2 (some .int), Cond.methodLink RX6 270 yX6_copy, Cond.instanceMethod yX6_copy, Cond.selects RX6 yX6_copy yX6_copy, Cond.code yX6_copy cX6_copy 3 none, Cond.methodLink RL 143 yX5_back, Cond.instanceMethod yX5_back, Cond.selects RX5 yX5_back yX5_back, Cond.code yX5_back cX5_back 2 (some .int), Cond.methodLink RL 146 yX6_back, Cond.instanceMethod yX6_back, Cond.selects RX6 yX6_back yX6_back, Cond.code yX6_back cX6_back 2 (some .int)]
def wsL_law_r41 : List Cond := [Cond.methodLink RL 147 yX5_count, Cond.instanceMethod yX5_count, Cond.selects RX5 yX5_count yX5_count, Cond.code yX5_count cX5_count 2 (some .int), Cond.methodLink RL 150 yX6_count, Cond.instanceMethod yX6_count, Cond.selects RX6 yX6_count yX6_count, Cond.code yX6_count cX6_count 2 (some .int), Cond.methodLink RL 151 yX5_trace, Cond.instanceMethod yX5_trace, Cond.selects RX5 yX5_trace yX5_trace, Cond.code yX5_trace cX5_trace 1 (some .long), Cond.methodLink RL 155 yX6_trace, Cond.instanceMethod yX6_trace, Cond.selects RX6 yX6_trace yX6_trace, Cond.code yX6_trace cX6_trace 1 (some .long)]
def wsL_law : List Cond := (wsL_law_r1 ++ (wsL_law_r2 ++ (wsL_law_r3 ++ (wsL_law_r4 ++ (wsL_law_r5 ++ (wsL_law_r6 ++ (wsL_law_r7 ++ (wsL_law_r8 ++ (wsL_law_r9 ++ (wsL_law_r10 ++ (wsL_law_r11 ++ (wsL_law_r12 ++ (wsL_law_r13 ++ (wsL_law_r14 ++ (wsL_law_r15 ++ (wsL_law_r16 ++ (wsL_law_r17 ++ (wsL_law_r18 ++ (wsL_law_r19 ++ (wsL_law_r20 ++ (wsL_law_r21 ++ (wsL_law_r22 ++ (wsL_law_r23 ++ (wsL_law_r24 ++ (wsL_law_r25 ++ (wsL_law_r26 ++ (wsL_law_r27 ++ (wsL_law_r28 ++ (wsL_law_r29 ++ (wsL_law_r30 ++ (wsL_law_r31 ++ (wsL_law_r32 ++ (wsL_law_r33 ++ (wsL_law_r34 ++ (wsL_law_r35 ++ (wsL_law_r36 ++ (wsL_law_r37 ++ (wsL_law_r38 ++ (wsL_law_r39 ++ (wsL_law_r40 ++ wsL_law_r41)))))))))))))))))))))))))))))))))))))))) ++ wsX50 ++ wsX60 ++ wsX20 ++ wsX30 ++ wsX00 ++ wsX10 ++ wsX40 ++ ([] : List Cond)
theorem inlX0 : ∀ w ∈ wsX00, w ∈ wsL_law := fun _ h => List.mem_append_left _ (List.mem_append_left _ (List.mem_append_left _ (List.mem_append_right _ h)))
theorem inlX1 : ∀ w ∈ wsX10, w ∈ wsL_law := fun _ h => List.mem_append_left _ (List.mem_append_left _ (List.mem_append_right _ h))
theorem inlX2 : ∀ w ∈ wsX20, w ∈ wsL_law := fun _ h => List.mem_append_left _ (List.mem_append_left _ (List.mem_append_left _ (List.mem_append_left _ (List.mem_append_left _ (List.mem_append_right _ h)))))
theorem inlX3 : ∀ w ∈ wsX30, w ∈ wsL_law := fun _ h => List.mem_append_left _ (List.mem_append_left _ (List.mem_append_left _ (List.mem_append_left _ (List.mem_append_right _ h))))
theorem inlX4 : ∀ w ∈ wsX40, w ∈ wsL_law := fun _ h => List.mem_append_left _ (List.mem_append_right _ h)
theorem inlX5 : ∀ w ∈ wsX50, w ∈ wsL_law := fun _ h => List.mem_append_left _ (List.mem_append_left _ (List.mem_append_left _ (List.mem_append_left _ (List.mem_append_left _ (List.mem_append_left _ (List.mem_append_left _ (List.mem_append_right _ h)))))))
theorem inlX6 : ∀ w ∈ wsX60, w ∈ wsL_law := fun _ h => List.mem_append_left _ (List.mem_append_left _ (List.mem_append_left _ (List.mem_append_left _ (List.mem_append_left _ (List.mem_append_left _ (List.mem_append_right _ h))))))
abbrev vwCl : List vw_C := [(RX0, TX0, 4), (RX1, TX1, 9), (RX2, TX2, 6), (RX3, TX3, 7), (RX4, TX4, 6), (RX5, TX5, 9), (RX6, TX6, 36)]
end
section
theorem dJ6_numberOfTrailingZeros_0f7a4_0 : decode cJ6_numberOfTrailingZeros_0f7a4 0 = .ok (.iload_n 0, 1) := by decide +kernel
theorem dJ6_numberOfTrailingZeros_0f7a4_1 : decode cJ6_numberOfTrailingZeros_0f7a4 1 = .ok (.iconst (-1), 1) := by decide +kernel
theorem dJ6_numberOfTrailingZeros_0f7a4_2 : decode cJ6_numberOfTrailingZeros_0f7a4 2 = .ok (.ixor, 1) := by decide +kernel
theorem dJ6_numberOfTrailingZeros_0f7a4_3 : decode cJ6_numberOfTrailingZeros_0f7a4 3 = .ok (.iload_n 0, 1) := by decide +kernel
theorem dJ6_numberOfTrailingZeros_0f7a4_4 : decode cJ6_numberOfTrailingZeros_0f7a4 4 = .ok (.iconst 1, 1) := by decide +kernel
theorem dJ6_numberOfTrailingZeros_0f7a4_5 : decode cJ6_numberOfTrailingZeros_0f7a4 5 = .ok (.isub, 1) := by decide +kernel
theorem dJ6_numberOfTrailingZeros_0f7a4_6 : decode cJ6_numberOfTrailingZeros_0f7a4 6 = .ok (.iand, 1) := by decide +kernel
theorem dJ6_numberOfTrailingZeros_0f7a4_7 : decode cJ6_numberOfTrailingZeros_0f7a4 7 = .ok (.istore_n 0, 1) := by decide +kernel
theorem dJ6_numberOfTrailingZeros_0f7a4_8 : decode cJ6_numberOfTrailingZeros_0f7a4 8 = .ok (.iload_n 0, 1) := by decide +kernel
theorem dJ6_numberOfTrailingZeros_0f7a4_9 : decode cJ6_numberOfTrailingZeros_0f7a4 9 = .ok (.ifCond .gt 8, 3) := by decide +kernel
theorem dJ6_numberOfTrailingZeros_0f7a4_12 : decode cJ6_numberOfTrailingZeros_0f7a4 12 = .ok (.iload_n 0, 1) := by decide +kernel
theorem dJ6_numberOfTrailingZeros_0f7a4_13 : decode cJ6_numberOfTrailingZeros_0f7a4 13 = .ok (.bipush 32, 2) := by decide +kernel
theorem dJ6_numberOfTrailingZeros_0f7a4_15 : decode cJ6_numberOfTrailingZeros_0f7a4 15 = .ok (.iand, 1) := by decide +kernel
theorem dJ6_numberOfTrailingZeros_0f7a4_16 : decode cJ6_numberOfTrailingZeros_0f7a4 16 = .ok (.ireturn, 1) := by decide +kernel
theorem dJ6_numberOfTrailingZeros_0f7a4_17 : decode cJ6_numberOfTrailingZeros_0f7a4 17 = .ok (.iconst 1, 1) := by decide +kernel
theorem dJ6_numberOfTrailingZeros_0f7a4_18 : decode cJ6_numberOfTrailingZeros_0f7a4 18 = .ok (.istore_n 1, 1) := by decide +kernel
theorem dJ6_numberOfTrailingZeros_0f7a4_19 : decode cJ6_numberOfTrailingZeros_0f7a4 19 = .ok (.iload_n 0, 1) := by decide +kernel
theorem dJ6_numberOfTrailingZeros_0f7a4_20 : decode cJ6_numberOfTrailingZeros_0f7a4 20 = .ok (.ldc_w 264, 3) := by decide +kernel
theorem dJ6_numberOfTrailingZeros_0f7a4_23 : decode cJ6_numberOfTrailingZeros_0f7a4 23 = .ok (.if_icmp .le 11, 3) := by decide +kernel
theorem dJ6_numberOfTrailingZeros_0f7a4_26 : decode cJ6_numberOfTrailingZeros_0f7a4 26 = .ok (.iinc 1 16, 3) := by decide +kernel
theorem dJ6_numberOfTrailingZeros_0f7a4_29 : decode cJ6_numberOfTrailingZeros_0f7a4 29 = .ok (.iload_n 0, 1) := by decide +kernel
theorem dJ6_numberOfTrailingZeros_0f7a4_30 : decode cJ6_numberOfTrailingZeros_0f7a4 30 = .ok (.bipush 16, 2) := by decide +kernel
theorem dJ6_numberOfTrailingZeros_0f7a4_32 : decode cJ6_numberOfTrailingZeros_0f7a4 32 = .ok (.iushr, 1) := by decide +kernel
theorem dJ6_numberOfTrailingZeros_0f7a4_33 : decode cJ6_numberOfTrailingZeros_0f7a4 33 = .ok (.istore_n 0, 1) := by decide +kernel
theorem dJ6_numberOfTrailingZeros_0f7a4_34 : decode cJ6_numberOfTrailingZeros_0f7a4 34 = .ok (.iload_n 0, 1) := by decide +kernel
theorem dJ6_numberOfTrailingZeros_0f7a4_35 : decode cJ6_numberOfTrailingZeros_0f7a4 35 = .ok (.sipush 256, 3) := by decide +kernel
theorem dJ6_numberOfTrailingZeros_0f7a4_38 : decode cJ6_numberOfTrailingZeros_0f7a4 38 = .ok (.if_icmp .le 11, 3) := by decide +kernel
theorem dJ6_numberOfTrailingZeros_0f7a4_41 : decode cJ6_numberOfTrailingZeros_0f7a4 41 = .ok (.iinc 1 8, 3) := by decide +kernel
theorem dJ6_numberOfTrailingZeros_0f7a4_44 : decode cJ6_numberOfTrailingZeros_0f7a4 44 = .ok (.iload_n 0, 1) := by decide +kernel
theorem dJ6_numberOfTrailingZeros_0f7a4_45 : decode cJ6_numberOfTrailingZeros_0f7a4 45 = .ok (.bipush 8, 2) := by decide +kernel
theorem dJ6_numberOfTrailingZeros_0f7a4_47 : decode cJ6_numberOfTrailingZeros_0f7a4 47 = .ok (.iushr, 1) := by decide +kernel
theorem dJ6_numberOfTrailingZeros_0f7a4_48 : decode cJ6_numberOfTrailingZeros_0f7a4 48 = .ok (.istore_n 0, 1) := by decide +kernel
theorem dJ6_numberOfTrailingZeros_0f7a4_49 : decode cJ6_numberOfTrailingZeros_0f7a4 49 = .ok (.iload_n 0, 1) := by decide +kernel
theorem dJ6_numberOfTrailingZeros_0f7a4_50 : decode cJ6_numberOfTrailingZeros_0f7a4 50 = .ok (.bipush 16, 2) := by decide +kernel
theorem dJ6_numberOfTrailingZeros_0f7a4_52 : decode cJ6_numberOfTrailingZeros_0f7a4 52 = .ok (.if_icmp .le 10, 3) := by decide +kernel
theorem dJ6_numberOfTrailingZeros_0f7a4_55 : decode cJ6_numberOfTrailingZeros_0f7a4 55 = .ok (.iinc 1 4, 3) := by decide +kernel
theorem dJ6_numberOfTrailingZeros_0f7a4_58 : decode cJ6_numberOfTrailingZeros_0f7a4 58 = .ok (.iload_n 0, 1) := by decide +kernel
theorem dJ6_numberOfTrailingZeros_0f7a4_59 : decode cJ6_numberOfTrailingZeros_0f7a4 59 = .ok (.iconst 4, 1) := by decide +kernel
theorem dJ6_numberOfTrailingZeros_0f7a4_60 : decode cJ6_numberOfTrailingZeros_0f7a4 60 = .ok (.iushr, 1) := by decide +kernel
theorem dJ6_numberOfTrailingZeros_0f7a4_61 : decode cJ6_numberOfTrailingZeros_0f7a4 61 = .ok (.istore_n 0, 1) := by decide +kernel
theorem dJ6_numberOfTrailingZeros_0f7a4_62 : decode cJ6_numberOfTrailingZeros_0f7a4 62 = .ok (.iload_n 0, 1) := by decide +kernel
theorem dJ6_numberOfTrailingZeros_0f7a4_63 : decode cJ6_numberOfTrailingZeros_0f7a4 63 = .ok (.iconst 4, 1) := by decide +kernel
theorem dJ6_numberOfTrailingZeros_0f7a4_64 : decode cJ6_numberOfTrailingZeros_0f7a4 64 = .ok (.if_icmp .le 10, 3) := by decide +kernel
theorem dJ6_numberOfTrailingZeros_0f7a4_67 : decode cJ6_numberOfTrailingZeros_0f7a4 67 = .ok (.iinc 1 2, 3) := by decide +kernel
theorem dJ6_numberOfTrailingZeros_0f7a4_70 : decode cJ6_numberOfTrailingZeros_0f7a4 70 = .ok (.iload_n 0, 1) := by decide +kernel
theorem dJ6_numberOfTrailingZeros_0f7a4_71 : decode cJ6_numberOfTrailingZeros_0f7a4 71 = .ok (.iconst 2, 1) := by decide +kernel
theorem dJ6_numberOfTrailingZeros_0f7a4_72 : decode cJ6_numberOfTrailingZeros_0f7a4 72 = .ok (.iushr, 1) := by decide +kernel
theorem dJ6_numberOfTrailingZeros_0f7a4_73 : decode cJ6_numberOfTrailingZeros_0f7a4 73 = .ok (.istore_n 0, 1) := by decide +kernel
theorem dJ6_numberOfTrailingZeros_0f7a4_74 : decode cJ6_numberOfTrailingZeros_0f7a4 74 = .ok (.iload_n 1, 1) := by decide +kernel
theorem dJ6_numberOfTrailingZeros_0f7a4_75 : decode cJ6_numberOfTrailingZeros_0f7a4 75 = .ok (.iload_n 0, 1) := by decide +kernel
theorem dJ6_numberOfTrailingZeros_0f7a4_76 : decode cJ6_numberOfTrailingZeros_0f7a4 76 = .ok (.iconst 1, 1) := by decide +kernel
theorem dJ6_numberOfTrailingZeros_0f7a4_77 : decode cJ6_numberOfTrailingZeros_0f7a4 77 = .ok (.iushr, 1) := by decide +kernel
theorem dJ6_numberOfTrailingZeros_0f7a4_78 : decode cJ6_numberOfTrailingZeros_0f7a4 78 = .ok (.iadd, 1) := by decide +kernel
theorem dJ6_numberOfTrailingZeros_0f7a4_79 : decode cJ6_numberOfTrailingZeros_0f7a4 79 = .ok (.ireturn, 1) := by decide +kernel
theorem dJ6_bitCount_0f7a4_0 : decode cJ6_bitCount_0f7a4 0 = .ok (.iload_n 0, 1) := by decide +kernel
theorem dJ6_bitCount_0f7a4_1 : decode cJ6_bitCount_0f7a4 1 = .ok (.iload_n 0, 1) := by decide +kernel
theorem dJ6_bitCount_0f7a4_2 : decode cJ6_bitCount_0f7a4 2 = .ok (.iconst 1, 1) := by decide +kernel
theorem dJ6_bitCount_0f7a4_3 : decode cJ6_bitCount_0f7a4 3 = .ok (.iushr, 1) := by decide +kernel
theorem dJ6_bitCount_0f7a4_4 : decode cJ6_bitCount_0f7a4 4 = .ok (.ldc_w 265, 3) := by decide +kernel
theorem dJ6_bitCount_0f7a4_7 : decode cJ6_bitCount_0f7a4 7 = .ok (.iand, 1) := by decide +kernel
theorem dJ6_bitCount_0f7a4_8 : decode cJ6_bitCount_0f7a4 8 = .ok (.isub, 1) := by decide +kernel
theorem dJ6_bitCount_0f7a4_9 : decode cJ6_bitCount_0f7a4 9 = .ok (.istore_n 0, 1) := by decide +kernel
theorem dJ6_bitCount_0f7a4_10 : decode cJ6_bitCount_0f7a4 10 = .ok (.iload_n 0, 1) := by decide +kernel
theorem dJ6_bitCount_0f7a4_11 : decode cJ6_bitCount_0f7a4 11 = .ok (.ldc_w 266, 3) := by decide +kernel
theorem dJ6_bitCount_0f7a4_14 : decode cJ6_bitCount_0f7a4 14 = .ok (.iand, 1) := by decide +kernel
theorem dJ6_bitCount_0f7a4_15 : decode cJ6_bitCount_0f7a4 15 = .ok (.iload_n 0, 1) := by decide +kernel
theorem dJ6_bitCount_0f7a4_16 : decode cJ6_bitCount_0f7a4 16 = .ok (.iconst 2, 1) := by decide +kernel
theorem dJ6_bitCount_0f7a4_17 : decode cJ6_bitCount_0f7a4 17 = .ok (.iushr, 1) := by decide +kernel
theorem dJ6_bitCount_0f7a4_18 : decode cJ6_bitCount_0f7a4 18 = .ok (.ldc_w 266, 3) := by decide +kernel
theorem dJ6_bitCount_0f7a4_21 : decode cJ6_bitCount_0f7a4 21 = .ok (.iand, 1) := by decide +kernel
theorem dJ6_bitCount_0f7a4_22 : decode cJ6_bitCount_0f7a4 22 = .ok (.iadd, 1) := by decide +kernel
theorem dJ6_bitCount_0f7a4_23 : decode cJ6_bitCount_0f7a4 23 = .ok (.istore_n 0, 1) := by decide +kernel
theorem dJ6_bitCount_0f7a4_24 : decode cJ6_bitCount_0f7a4 24 = .ok (.iload_n 0, 1) := by decide +kernel
theorem dJ6_bitCount_0f7a4_25 : decode cJ6_bitCount_0f7a4 25 = .ok (.iload_n 0, 1) := by decide +kernel
theorem dJ6_bitCount_0f7a4_26 : decode cJ6_bitCount_0f7a4 26 = .ok (.iconst 4, 1) := by decide +kernel
theorem dJ6_bitCount_0f7a4_27 : decode cJ6_bitCount_0f7a4 27 = .ok (.iushr, 1) := by decide +kernel
theorem dJ6_bitCount_0f7a4_28 : decode cJ6_bitCount_0f7a4 28 = .ok (.iadd, 1) := by decide +kernel
theorem dJ6_bitCount_0f7a4_29 : decode cJ6_bitCount_0f7a4 29 = .ok (.ldc_w 267, 3) := by decide +kernel
theorem dJ6_bitCount_0f7a4_32 : decode cJ6_bitCount_0f7a4 32 = .ok (.iand, 1) := by decide +kernel
theorem dJ6_bitCount_0f7a4_33 : decode cJ6_bitCount_0f7a4 33 = .ok (.istore_n 0, 1) := by decide +kernel
theorem dJ6_bitCount_0f7a4_34 : decode cJ6_bitCount_0f7a4 34 = .ok (.iload_n 0, 1) := by decide +kernel
theorem dJ6_bitCount_0f7a4_35 : decode cJ6_bitCount_0f7a4 35 = .ok (.iload_n 0, 1) := by decide +kernel
theorem dJ6_bitCount_0f7a4_36 : decode cJ6_bitCount_0f7a4 36 = .ok (.bipush 8, 2) := by decide +kernel
theorem dJ6_bitCount_0f7a4_38 : decode cJ6_bitCount_0f7a4 38 = .ok (.iushr, 1) := by decide +kernel
theorem dJ6_bitCount_0f7a4_39 : decode cJ6_bitCount_0f7a4 39 = .ok (.iadd, 1) := by decide +kernel
theorem dJ6_bitCount_0f7a4_40 : decode cJ6_bitCount_0f7a4 40 = .ok (.istore_n 0, 1) := by decide +kernel
theorem dJ6_bitCount_0f7a4_41 : decode cJ6_bitCount_0f7a4 41 = .ok (.iload_n 0, 1) := by decide +kernel
theorem dJ6_bitCount_0f7a4_42 : decode cJ6_bitCount_0f7a4 42 = .ok (.iload_n 0, 1) := by decide +kernel
theorem dJ6_bitCount_0f7a4_43 : decode cJ6_bitCount_0f7a4 43 = .ok (.bipush 16, 2) := by decide +kernel
theorem dJ6_bitCount_0f7a4_45 : decode cJ6_bitCount_0f7a4 45 = .ok (.iushr, 1) := by decide +kernel
theorem dJ6_bitCount_0f7a4_46 : decode cJ6_bitCount_0f7a4 46 = .ok (.iadd, 1) := by decide +kernel
theorem dJ6_bitCount_0f7a4_47 : decode cJ6_bitCount_0f7a4 47 = .ok (.istore_n 0, 1) := by decide +kernel
theorem dJ6_bitCount_0f7a4_48 : decode cJ6_bitCount_0f7a4 48 = .ok (.iload_n 0, 1) := by decide +kernel
theorem dJ6_bitCount_0f7a4_49 : decode cJ6_bitCount_0f7a4 49 = .ok (.bipush 63, 2) := by decide +kernel
theorem dJ6_bitCount_0f7a4_51 : decode cJ6_bitCount_0f7a4 51 = .ok (.iand, 1) := by decide +kernel
theorem dJ6_bitCount_0f7a4_52 : decode cJ6_bitCount_0f7a4 52 = .ok (.ireturn, 1) := by decide +kernel
theorem dJ9_abs_0f7a4_0 : decode cJ9_abs_0f7a4 0 = .ok (.iload_n 0, 1) := by decide +kernel
theorem dJ9_abs_0f7a4_1 : decode cJ9_abs_0f7a4 1 = .ok (.ifCond .ge 8, 3) := by decide +kernel
theorem dJ9_abs_0f7a4_4 : decode cJ9_abs_0f7a4 4 = .ok (.iload_n 0, 1) := by decide +kernel
theorem dJ9_abs_0f7a4_5 : decode cJ9_abs_0f7a4 5 = .ok (.ineg, 1) := by decide +kernel
theorem dJ9_abs_0f7a4_6 : decode cJ9_abs_0f7a4 6 = .ok (.goto 4, 3) := by decide +kernel
theorem dJ9_abs_0f7a4_9 : decode cJ9_abs_0f7a4 9 = .ok (.iload_n 0, 1) := by decide +kernel
theorem dJ9_abs_0f7a4_10 : decode cJ9_abs_0f7a4 10 = .ok (.ireturn, 1) := by decide +kernel
theorem dJ9_max_7cf53_0 : decode cJ9_max_7cf53 0 = .ok (.iload_n 0, 1) := by decide +kernel
theorem dJ9_max_7cf53_1 : decode cJ9_max_7cf53 1 = .ok (.iload_n 1, 1) := by decide +kernel
theorem dJ9_max_7cf53_2 : decode cJ9_max_7cf53 2 = .ok (.if_icmp .lt 7, 3) := by decide +kernel
theorem dJ9_max_7cf53_5 : decode cJ9_max_7cf53 5 = .ok (.iload_n 0, 1) := by decide +kernel
theorem dJ9_max_7cf53_6 : decode cJ9_max_7cf53 6 = .ok (.goto 4, 3) := by decide +kernel
theorem dJ9_max_7cf53_9 : decode cJ9_max_7cf53 9 = .ok (.iload_n 1, 1) := by decide +kernel
theorem dJ9_max_7cf53_10 : decode cJ9_max_7cf53 10 = .ok (.ireturn, 1) := by decide +kernel
theorem dJ9_max_f86c9_0 : decode cJ9_max_f86c9 0 = .ok (.lload_n 0, 1) := by decide +kernel
theorem dJ9_max_f86c9_1 : decode cJ9_max_f86c9 1 = .ok (.lload_n 2, 1) := by decide +kernel
theorem dJ9_max_f86c9_2 : decode cJ9_max_f86c9 2 = .ok (.lcmp, 1) := by decide +kernel
theorem dJ9_max_f86c9_3 : decode cJ9_max_f86c9 3 = .ok (.ifCond .lt 7, 3) := by decide +kernel
theorem dJ9_max_f86c9_6 : decode cJ9_max_f86c9 6 = .ok (.lload_n 0, 1) := by decide +kernel
theorem dJ9_max_f86c9_7 : decode cJ9_max_f86c9 7 = .ok (.goto 4, 3) := by decide +kernel
theorem dJ9_max_f86c9_10 : decode cJ9_max_f86c9 10 = .ok (.lload_n 2, 1) := by decide +kernel
theorem dJ9_max_f86c9_11 : decode cJ9_max_f86c9 11 = .ok (.lreturn, 1) := by decide +kernel
theorem dJ9_min_7cf53_0 : decode cJ9_min_7cf53 0 = .ok (.iload_n 0, 1) := by decide +kernel
theorem dJ9_min_7cf53_1 : decode cJ9_min_7cf53 1 = .ok (.iload_n 1, 1) := by decide +kernel
theorem dJ9_min_7cf53_2 : decode cJ9_min_7cf53 2 = .ok (.if_icmp .gt 7, 3) := by decide +kernel
theorem dJ9_min_7cf53_5 : decode cJ9_min_7cf53 5 = .ok (.iload_n 0, 1) := by decide +kernel
theorem dJ9_min_7cf53_6 : decode cJ9_min_7cf53 6 = .ok (.goto 4, 3) := by decide +kernel
theorem dJ9_min_7cf53_9 : decode cJ9_min_7cf53 9 = .ok (.iload_n 1, 1) := by decide +kernel
theorem dJ9_min_7cf53_10 : decode cJ9_min_7cf53 10 = .ok (.ireturn, 1) := by decide +kernel
theorem dJ0_length_8abf5_0 : decode cJ0_length_8abf5 0 = .ok (.aload_n 0, 1) := by decide +kernel
theorem dJ0_length_8abf5_1 : decode cJ0_length_8abf5 1 = .ok (.getfield 9, 3) := by decide +kernel
theorem dJ0_length_8abf5_4 : decode cJ0_length_8abf5 4 = .ok (.arraylength, 1) := by decide +kernel
theorem dJ0_length_8abf5_5 : decode cJ0_length_8abf5 5 = .ok (.aload_n 0, 1) := by decide +kernel
theorem dJ0_length_8abf5_6 : decode cJ0_length_8abf5 6 = .ok (.invokevirtual 335, 3) := by decide +kernel
theorem dJ0_length_8abf5_9 : decode cJ0_length_8abf5 9 = .ok (.ishr, 1) := by decide +kernel
theorem dJ0_length_8abf5_10 : decode cJ0_length_8abf5 10 = .ok (.ireturn, 1) := by decide +kernel
theorem dJ0_charAt_5068e_0 : decode cJ0_charAt_5068e 0 = .ok (.aload_n 0, 1) := by decide +kernel
theorem dJ0_charAt_5068e_1 : decode cJ0_charAt_5068e 1 = .ok (.invokevirtual 492, 3) := by decide +kernel
theorem dJ0_charAt_5068e_4 : decode cJ0_charAt_5068e 4 = .ok (.ifCond .eq 12, 3) := by decide +kernel
theorem dJ0_charAt_5068e_7 : decode cJ0_charAt_5068e 7 = .ok (.aload_n 0, 1) := by decide +kernel
theorem dJ0_charAt_5068e_8 : decode cJ0_charAt_5068e 8 = .ok (.getfield 9, 3) := by decide +kernel
theorem dJ0_charAt_5068e_11 : decode cJ0_charAt_5068e 11 = .ok (.iload_n 1, 1) := by decide +kernel
theorem dJ0_charAt_5068e_12 : decode cJ0_charAt_5068e 12 = .ok (.invokestatic 495, 3) := by decide +kernel
theorem dJ0_charAt_5068e_15 : decode cJ0_charAt_5068e 15 = .ok (.ireturn, 1) := by decide +kernel
theorem dJ0_charAt_5068e_16 : decode cJ0_charAt_5068e 16 = .ok (.aload_n 0, 1) := by decide +kernel
theorem dJ0_charAt_5068e_17 : decode cJ0_charAt_5068e 17 = .ok (.getfield 9, 3) := by decide +kernel
theorem dJ0_charAt_5068e_20 : decode cJ0_charAt_5068e 20 = .ok (.iload_n 1, 1) := by decide +kernel
theorem dJ0_charAt_5068e_21 : decode cJ0_charAt_5068e 21 = .ok (.invokestatic 498, 3) := by decide +kernel
theorem dJ0_charAt_5068e_24 : decode cJ0_charAt_5068e 24 = .ok (.ireturn, 1) := by decide +kernel
theorem dJ0_coder_7d493_0 : decode cJ0_coder_7d493 0 = .ok (.getstatic 38, 3) := by decide +kernel
theorem dJ0_coder_7d493_3 : decode cJ0_coder_7d493 3 = .ok (.ifCond .eq 10, 3) := by decide +kernel
theorem dJ0_coder_7d493_6 : decode cJ0_coder_7d493 6 = .ok (.aload_n 0, 1) := by decide +kernel
theorem dJ0_coder_7d493_7 : decode cJ0_coder_7d493 7 = .ok (.getfield 15, 3) := by decide +kernel
theorem dJ0_coder_7d493_10 : decode cJ0_coder_7d493 10 = .ok (.goto 4, 3) := by decide +kernel
theorem dJ0_coder_7d493_13 : decode cJ0_coder_7d493 13 = .ok (.iconst 1, 1) := by decide +kernel
theorem dJ0_coder_7d493_14 : decode cJ0_coder_7d493 14 = .ok (.ireturn, 1) := by decide +kernel
theorem dJ0_isLatin1_aae02_0 : decode cJ0_isLatin1_aae02 0 = .ok (.getstatic 38, 3) := by decide +kernel
theorem dJ0_isLatin1_aae02_3 : decode cJ0_isLatin1_aae02 3 = .ok (.ifCond .eq 14, 3) := by decide +kernel
theorem dJ0_isLatin1_aae02_6 : decode cJ0_isLatin1_aae02 6 = .ok (.aload_n 0, 1) := by decide +kernel
theorem dJ0_isLatin1_aae02_7 : decode cJ0_isLatin1_aae02 7 = .ok (.getfield 15, 3) := by decide +kernel
theorem dJ0_isLatin1_aae02_10 : decode cJ0_isLatin1_aae02 10 = .ok (.ifCond .ne 7, 3) := by decide +kernel
theorem dJ0_isLatin1_aae02_13 : decode cJ0_isLatin1_aae02 13 = .ok (.iconst 1, 1) := by decide +kernel
theorem dJ0_isLatin1_aae02_14 : decode cJ0_isLatin1_aae02 14 = .ok (.goto 4, 3) := by decide +kernel
theorem dJ0_isLatin1_aae02_17 : decode cJ0_isLatin1_aae02 17 = .ok (.iconst 0, 1) := by decide +kernel
theorem dJ0_isLatin1_aae02_18 : decode cJ0_isLatin1_aae02 18 = .ok (.ireturn, 1) := by decide +kernel
theorem dJ0_checkIndex_df160_0 : decode cJ0_checkIndex_df160 0 = .ok (.iload_n 0, 1) := by decide +kernel
theorem dJ0_checkIndex_df160_1 : decode cJ0_checkIndex_df160 1 = .ok (.iload_n 1, 1) := by decide +kernel
theorem dJ0_checkIndex_df160_2 : decode cJ0_checkIndex_df160 2 = .ok (.getstatic 1053, 3) := by decide +kernel
theorem dJ0_checkIndex_df160_5 : decode cJ0_checkIndex_df160 5 = .ok (.invokestatic 1059, 3) := by decide +kernel
theorem dJ0_checkIndex_df160_8 : decode cJ0_checkIndex_df160 8 = .ok (.pop, 1) := by decide +kernel
theorem dJ0_checkIndex_df160_9 : decode cJ0_checkIndex_df160 9 = .ok (.return_, 1) := by decide +kernel
theorem dJ1_charAt_3b067_0 : decode cJ1_charAt_3b067 0 = .ok (.iload_n 1, 1) := by decide +kernel
theorem dJ1_charAt_3b067_1 : decode cJ1_charAt_3b067 1 = .ok (.aload_n 0, 1) := by decide +kernel
theorem dJ1_charAt_3b067_2 : decode cJ1_charAt_3b067 2 = .ok (.arraylength, 1) := by decide +kernel
theorem dJ1_charAt_3b067_3 : decode cJ1_charAt_3b067 3 = .ok (.invokestatic 9, 3) := by decide +kernel
theorem dJ1_charAt_3b067_6 : decode cJ1_charAt_3b067 6 = .ok (.aload_n 0, 1) := by decide +kernel
theorem dJ1_charAt_3b067_7 : decode cJ1_charAt_3b067 7 = .ok (.iload_n 1, 1) := by decide +kernel
theorem dJ1_charAt_3b067_8 : decode cJ1_charAt_3b067 8 = .ok (.baload, 1) := by decide +kernel
theorem dJ1_charAt_3b067_9 : decode cJ1_charAt_3b067 9 = .ok (.sipush 255, 3) := by decide +kernel
theorem dJ1_charAt_3b067_12 : decode cJ1_charAt_3b067 12 = .ok (.iand, 1) := by decide +kernel
theorem dJ1_charAt_3b067_13 : decode cJ1_charAt_3b067 13 = .ok (.i2c, 1) := by decide +kernel
theorem dJ1_charAt_3b067_14 : decode cJ1_charAt_3b067 14 = .ok (.ireturn, 1) := by decide +kernel
theorem dJ2_getChar_3b067_0 : decode cJ2_getChar_3b067 0 = .ok (.getstatic 44, 3) := by decide +kernel
theorem dJ2_getChar_3b067_3 : decode cJ2_getChar_3b067 3 = .ok (.ifCond .ne 25, 3) := by decide +kernel
theorem dJ2_getChar_3b067_6 : decode cJ2_getChar_3b067 6 = .ok (.iload_n 1, 1) := by decide +kernel
theorem dJ2_getChar_3b067_7 : decode cJ2_getChar_3b067 7 = .ok (.ifCond .lt 11, 3) := by decide +kernel
theorem dJ2_getChar_3b067_10 : decode cJ2_getChar_3b067 10 = .ok (.iload_n 1, 1) := by decide +kernel
theorem dJ2_getChar_3b067_11 : decode cJ2_getChar_3b067 11 = .ok (.aload_n 0, 1) := by decide +kernel
theorem dJ2_getChar_3b067_12 : decode cJ2_getChar_3b067 12 = .ok (.invokestatic 48, 3) := by decide +kernel
theorem dJ2_getChar_3b067_15 : decode cJ2_getChar_3b067 15 = .ok (.if_icmp .lt 13, 3) := by decide +kernel
theorem dJ2_getChar_3b067_18 : decode cJ2_getChar_3b067 18 = .ok (.new 52, 3) := by decide +kernel
theorem dJ2_getChar_3b067_21 : decode cJ2_getChar_3b067 21 = .ok (.dup, 1) := by decide +kernel
theorem dJ2_getChar_3b067_22 : decode cJ2_getChar_3b067 22 = .ok (.ldc 54, 2) := by decide +kernel
theorem dJ2_getChar_3b067_24 : decode cJ2_getChar_3b067 24 = .ok (.invokespecial 56, 3) := by decide +kernel
theorem dJ2_getChar_3b067_27 : decode cJ2_getChar_3b067 27 = .ok (.athrow, 1) := by decide +kernel
theorem dJ2_getChar_3b067_28 : decode cJ2_getChar_3b067 28 = .ok (.iload_n 1, 1) := by decide +kernel
theorem dJ2_getChar_3b067_29 : decode cJ2_getChar_3b067 29 = .ok (.iconst 1, 1) := by decide +kernel
theorem dJ2_getChar_3b067_30 : decode cJ2_getChar_3b067 30 = .ok (.ishl, 1) := by decide +kernel
theorem dJ2_getChar_3b067_31 : decode cJ2_getChar_3b067 31 = .ok (.istore_n 1, 1) := by decide +kernel
theorem dJ2_getChar_3b067_32 : decode cJ2_getChar_3b067 32 = .ok (.aload_n 0, 1) := by decide +kernel
theorem dJ2_getChar_3b067_33 : decode cJ2_getChar_3b067 33 = .ok (.iload_n 1, 1) := by decide +kernel
theorem dJ2_getChar_3b067_34 : decode cJ2_getChar_3b067 34 = .ok (.iinc 1 1, 3) := by decide +kernel
theorem dJ2_getChar_3b067_37 : decode cJ2_getChar_3b067 37 = .ok (.baload, 1) := by decide +kernel
theorem dJ2_getChar_3b067_38 : decode cJ2_getChar_3b067 38 = .ok (.sipush 255, 3) := by decide +kernel
theorem dJ2_getChar_3b067_41 : decode cJ2_getChar_3b067 41 = .ok (.iand, 1) := by decide +kernel
theorem dJ2_getChar_3b067_42 : decode cJ2_getChar_3b067 42 = .ok (.getstatic 59, 3) := by decide +kernel
theorem dJ2_getChar_3b067_45 : decode cJ2_getChar_3b067 45 = .ok (.ishl, 1) := by decide +kernel
theorem dJ2_getChar_3b067_46 : decode cJ2_getChar_3b067 46 = .ok (.aload_n 0, 1) := by decide +kernel
theorem dJ2_getChar_3b067_47 : decode cJ2_getChar_3b067 47 = .ok (.iload_n 1, 1) := by decide +kernel
theorem dJ2_getChar_3b067_48 : decode cJ2_getChar_3b067 48 = .ok (.baload, 1) := by decide +kernel
theorem dJ2_getChar_3b067_49 : decode cJ2_getChar_3b067 49 = .ok (.sipush 255, 3) := by decide +kernel
theorem dJ2_getChar_3b067_52 : decode cJ2_getChar_3b067 52 = .ok (.iand, 1) := by decide +kernel
theorem dJ2_getChar_3b067_53 : decode cJ2_getChar_3b067 53 = .ok (.getstatic 63, 3) := by decide +kernel
theorem dJ2_getChar_3b067_56 : decode cJ2_getChar_3b067 56 = .ok (.ishl, 1) := by decide +kernel
theorem dJ2_getChar_3b067_57 : decode cJ2_getChar_3b067 57 = .ok (.ior, 1) := by decide +kernel
theorem dJ2_getChar_3b067_58 : decode cJ2_getChar_3b067 58 = .ok (.i2c, 1) := by decide +kernel
theorem dJ2_getChar_3b067_59 : decode cJ2_getChar_3b067 59 = .ok (.ireturn, 1) := by decide +kernel
theorem dJ2_length_9d52b_0 : decode cJ2_length_9d52b 0 = .ok (.aload_n 0, 1) := by decide +kernel
theorem dJ2_length_9d52b_1 : decode cJ2_length_9d52b 1 = .ok (.arraylength, 1) := by decide +kernel
theorem dJ2_length_9d52b_2 : decode cJ2_length_9d52b 2 = .ok (.iconst 1, 1) := by decide +kernel
theorem dJ2_length_9d52b_3 : decode cJ2_length_9d52b 3 = .ok (.ishr, 1) := by decide +kernel
theorem dJ2_length_9d52b_4 : decode cJ2_length_9d52b 4 = .ok (.ireturn, 1) := by decide +kernel
theorem dJ2_charAt_3b067_0 : decode cJ2_charAt_3b067 0 = .ok (.iload_n 1, 1) := by decide +kernel
theorem dJ2_charAt_3b067_1 : decode cJ2_charAt_3b067 1 = .ok (.aload_n 0, 1) := by decide +kernel
theorem dJ2_charAt_3b067_2 : decode cJ2_charAt_3b067 2 = .ok (.invokestatic 67, 3) := by decide +kernel
theorem dJ2_charAt_3b067_5 : decode cJ2_charAt_3b067 5 = .ok (.aload_n 0, 1) := by decide +kernel
theorem dJ2_charAt_3b067_6 : decode cJ2_charAt_3b067 6 = .ok (.iload_n 1, 1) := by decide +kernel
theorem dJ2_charAt_3b067_7 : decode cJ2_charAt_3b067 7 = .ok (.invokestatic 71, 3) := by decide +kernel
theorem dJ2_charAt_3b067_10 : decode cJ2_charAt_3b067 10 = .ok (.ireturn, 1) := by decide +kernel
theorem dJ2_checkIndex_2214a_0 : decode cJ2_checkIndex_2214a 0 = .ok (.iload_n 0, 1) := by decide +kernel
theorem dJ2_checkIndex_2214a_1 : decode cJ2_checkIndex_2214a 1 = .ok (.aload_n 1, 1) := by decide +kernel
theorem dJ2_checkIndex_2214a_2 : decode cJ2_checkIndex_2214a 2 = .ok (.invokestatic 48, 3) := by decide +kernel
theorem dJ2_checkIndex_2214a_5 : decode cJ2_checkIndex_2214a 5 = .ok (.invokestatic 414, 3) := by decide +kernel
theorem dJ2_checkIndex_2214a_8 : decode cJ2_checkIndex_2214a 8 = .ok (.return_, 1) := by decide +kernel
theorem dJ3_checkIndex_8e157_0 : decode cJ3_checkIndex_8e157 0 = .ok (.iload_n 0, 1) := by decide +kernel
theorem dJ3_checkIndex_8e157_1 : decode cJ3_checkIndex_8e157 1 = .ok (.ifCond .lt 8, 3) := by decide +kernel
theorem dJ3_checkIndex_8e157_4 : decode cJ3_checkIndex_8e157 4 = .ok (.iload_n 0, 1) := by decide +kernel
theorem dJ3_checkIndex_8e157_5 : decode cJ3_checkIndex_8e157 5 = .ok (.iload_n 1, 1) := by decide +kernel
theorem dJ3_checkIndex_8e157_6 : decode cJ3_checkIndex_8e157 6 = .ok (.if_icmp .lt 10, 3) := by decide +kernel
theorem dJ3_checkIndex_8e157_9 : decode cJ3_checkIndex_8e157 9 = .ok (.aload_n 2, 1) := by decide +kernel
theorem dJ3_checkIndex_8e157_10 : decode cJ3_checkIndex_8e157 10 = .ok (.iload_n 0, 1) := by decide +kernel
theorem dJ3_checkIndex_8e157_11 : decode cJ3_checkIndex_8e157 11 = .ok (.iload_n 1, 1) := by decide +kernel
theorem dJ3_checkIndex_8e157_12 : decode cJ3_checkIndex_8e157 12 = .ok (.invokestatic 95, 3) := by decide +kernel
theorem dJ3_checkIndex_8e157_15 : decode cJ3_checkIndex_8e157 15 = .ok (.athrow, 1) := by decide +kernel
theorem dJ3_checkIndex_8e157_16 : decode cJ3_checkIndex_8e157 16 = .ok (.iload_n 0, 1) := by decide +kernel
theorem dJ3_checkIndex_8e157_17 : decode cJ3_checkIndex_8e157 17 = .ok (.ireturn, 1) := by decide +kernel
end
section
theorem dX0_init_0 : decode cX0_init 0 = .ok (.aload_n 0, 1) := by decide +kernel
theorem dX0_init_1 : decode cX0_init 1 = .ok (.invokespecial 3, 3) := by decide +kernel
theorem dX0_init_4 : decode cX0_init 4 = .ok (.aload_n 0, 1) := by decide +kernel
theorem dX0_init_5 : decode cX0_init 5 = .ok (.iconst 0, 1) := by decide +kernel
theorem dX0_init_6 : decode cX0_init 6 = .ok (.putfield 9, 3) := by decide +kernel
theorem dX0_init_9 : decode cX0_init 9 = .ok (.aload_n 0, 1) := by decide +kernel
theorem dX0_init_10 : decode cX0_init 10 = .ok (.bipush 40, 2) := by decide +kernel
theorem dX0_init_12 : decode cX0_init 12 = .ok (.newarray .int, 2) := by decide +kernel
theorem dX0_init_14 : decode cX0_init 14 = .ok (.putfield 15, 3) := by decide +kernel
theorem dX0_init_17 : decode cX0_init 17 = .ok (.aload_n 0, 1) := by decide +kernel
theorem dX0_init_18 : decode cX0_init 18 = .ok (.bipush 40, 2) := by decide +kernel
theorem dX0_init_20 : decode cX0_init 20 = .ok (.newarray .int, 2) := by decide +kernel
theorem dX0_init_22 : decode cX0_init 22 = .ok (.putfield 19, 3) := by decide +kernel
theorem dX0_init_25 : decode cX0_init 25 = .ok (.aload_n 0, 1) := by decide +kernel
theorem dX0_init_26 : decode cX0_init 26 = .ok (.bipush 40, 2) := by decide +kernel
theorem dX0_init_28 : decode cX0_init 28 = .ok (.newarray .int, 2) := by decide +kernel
theorem dX0_init_30 : decode cX0_init 30 = .ok (.putfield 22, 3) := by decide +kernel
theorem dX0_init_33 : decode cX0_init 33 = .ok (.return_, 1) := by decide +kernel
theorem dX0_write_0 : decode cX0_write 0 = .ok (.aload_n 0, 1) := by decide +kernel
theorem dX0_write_1 : decode cX0_write 1 = .ok (.getfield 9, 3) := by decide +kernel
theorem dX0_write_4 : decode cX0_write 4 = .ok (.ifCond .lt 12, 3) := by decide +kernel
theorem dX0_write_7 : decode cX0_write 7 = .ok (.aload_n 0, 1) := by decide +kernel
theorem dX0_write_8 : decode cX0_write 8 = .ok (.getfield 9, 3) := by decide +kernel
theorem dX0_write_11 : decode cX0_write 11 = .ok (.bipush 40, 2) := by decide +kernel
theorem dX0_write_13 : decode cX0_write 13 = .ok (.if_icmp .lt 5, 3) := by decide +kernel
theorem dX0_write_16 : decode cX0_write 16 = .ok (.iconst 0, 1) := by decide +kernel
theorem dX0_write_17 : decode cX0_write 17 = .ok (.ireturn, 1) := by decide +kernel
theorem dX0_write_18 : decode cX0_write 18 = .ok (.aload_n 0, 1) := by decide +kernel
theorem dX0_write_19 : decode cX0_write 19 = .ok (.getfield 15, 3) := by decide +kernel
theorem dX0_write_22 : decode cX0_write 22 = .ok (.aload_n 0, 1) := by decide +kernel
theorem dX0_write_23 : decode cX0_write 23 = .ok (.getfield 9, 3) := by decide +kernel
theorem dX0_write_26 : decode cX0_write 26 = .ok (.iload_n 1, 1) := by decide +kernel
theorem dX0_write_27 : decode cX0_write 27 = .ok (.iastore, 1) := by decide +kernel
theorem dX0_write_28 : decode cX0_write 28 = .ok (.aload_n 0, 1) := by decide +kernel
theorem dX0_write_29 : decode cX0_write 29 = .ok (.getfield 19, 3) := by decide +kernel
theorem dX0_write_32 : decode cX0_write 32 = .ok (.aload_n 0, 1) := by decide +kernel
theorem dX0_write_33 : decode cX0_write 33 = .ok (.getfield 9, 3) := by decide +kernel
theorem dX0_write_36 : decode cX0_write 36 = .ok (.iload_n 2, 1) := by decide +kernel
theorem dX0_write_37 : decode cX0_write 37 = .ok (.iastore, 1) := by decide +kernel
theorem dX0_write_38 : decode cX0_write 38 = .ok (.aload_n 0, 1) := by decide +kernel
theorem dX0_write_39 : decode cX0_write 39 = .ok (.getfield 22, 3) := by decide +kernel
theorem dX0_write_42 : decode cX0_write 42 = .ok (.aload_n 0, 1) := by decide +kernel
theorem dX0_write_43 : decode cX0_write 43 = .ok (.getfield 9, 3) := by decide +kernel
theorem dX0_write_46 : decode cX0_write 46 = .ok (.iload_n 3, 1) := by decide +kernel
theorem dX0_write_47 : decode cX0_write 47 = .ok (.iastore, 1) := by decide +kernel
theorem dX0_write_48 : decode cX0_write 48 = .ok (.aload_n 0, 1) := by decide +kernel
theorem dX0_write_49 : decode cX0_write 49 = .ok (.dup, 1) := by decide +kernel
theorem dX0_write_50 : decode cX0_write 50 = .ok (.getfield 9, 3) := by decide +kernel
theorem dX0_write_53 : decode cX0_write 53 = .ok (.iconst 1, 1) := by decide +kernel
theorem dX0_write_54 : decode cX0_write 54 = .ok (.iadd, 1) := by decide +kernel
theorem dX0_write_55 : decode cX0_write 55 = .ok (.putfield 9, 3) := by decide +kernel
theorem dX0_write_58 : decode cX0_write 58 = .ok (.iconst 1, 1) := by decide +kernel
theorem dX0_write_59 : decode cX0_write 59 = .ok (.ireturn, 1) := by decide +kernel
theorem dX0_howMany_0 : decode cX0_howMany 0 = .ok (.iconst 0, 1) := by decide +kernel
theorem dX0_howMany_1 : decode cX0_howMany 1 = .ok (.istore 5, 2) := by decide +kernel
theorem dX0_howMany_3 : decode cX0_howMany 3 = .ok (.iconst 0, 1) := by decide +kernel
theorem dX0_howMany_4 : decode cX0_howMany 4 = .ok (.istore 6, 2) := by decide +kernel
theorem dX0_howMany_6 : decode cX0_howMany 6 = .ok (.iload 6, 2) := by decide +kernel
theorem dX0_howMany_8 : decode cX0_howMany 8 = .ok (.aload_n 0, 1) := by decide +kernel
theorem dX0_howMany_9 : decode cX0_howMany 9 = .ok (.getfield 9, 3) := by decide +kernel
theorem dX0_howMany_12 : decode cX0_howMany 12 = .ok (.if_icmp .ge 43, 3) := by decide +kernel
theorem dX0_howMany_15 : decode cX0_howMany 15 = .ok (.iload 6, 2) := by decide +kernel
theorem dX0_howMany_17 : decode cX0_howMany 17 = .ok (.bipush 40, 2) := by decide +kernel
theorem dX0_howMany_19 : decode cX0_howMany 19 = .ok (.if_icmp .ge 36, 3) := by decide +kernel
theorem dX0_howMany_22 : decode cX0_howMany 22 = .ok (.aload_n 0, 1) := by decide +kernel
theorem dX0_howMany_23 : decode cX0_howMany 23 = .ok (.iload 6, 2) := by decide +kernel
theorem dX0_howMany_25 : decode cX0_howMany 25 = .ok (.iload_n 1, 1) := by decide +kernel
theorem dX0_howMany_26 : decode cX0_howMany 26 = .ok (.iload_n 2, 1) := by decide +kernel
theorem dX0_howMany_27 : decode cX0_howMany 27 = .ok (.iload_n 3, 1) := by decide +kernel
theorem dX0_howMany_28 : decode cX0_howMany 28 = .ok (.invokevirtual 25, 3) := by decide +kernel
theorem dX0_howMany_31 : decode cX0_howMany 31 = .ok (.ifCond .eq 18, 3) := by decide +kernel
theorem dX0_howMany_34 : decode cX0_howMany 34 = .ok (.aload_n 0, 1) := by decide +kernel
theorem dX0_howMany_35 : decode cX0_howMany 35 = .ok (.getfield 22, 3) := by decide +kernel
theorem dX0_howMany_38 : decode cX0_howMany 38 = .ok (.iload 6, 2) := by decide +kernel
theorem dX0_howMany_40 : decode cX0_howMany 40 = .ok (.iaload, 1) := by decide +kernel
theorem dX0_howMany_41 : decode cX0_howMany 41 = .ok (.iload 4, 2) := by decide +kernel
theorem dX0_howMany_43 : decode cX0_howMany 43 = .ok (.if_icmp .lt 6, 3) := by decide +kernel
theorem dX0_howMany_46 : decode cX0_howMany 46 = .ok (.iinc 5 1, 3) := by decide +kernel
theorem dX0_howMany_49 : decode cX0_howMany 49 = .ok (.iinc 6 1, 3) := by decide +kernel
theorem dX0_howMany_52 : decode cX0_howMany 52 = .ok (.goto (-46), 3) := by decide +kernel
theorem dX0_howMany_55 : decode cX0_howMany 55 = .ok (.iload 5, 2) := by decide +kernel
theorem dX0_howMany_57 : decode cX0_howMany 57 = .ok (.ireturn, 1) := by decide +kernel
theorem dX0_heights_0 : decode cX0_heights 0 = .ok (.iconst 0, 1) := by decide +kernel
theorem dX0_heights_1 : decode cX0_heights 1 = .ok (.istore 4, 2) := by decide +kernel
theorem dX0_heights_3 : decode cX0_heights 3 = .ok (.iconst 0, 1) := by decide +kernel
theorem dX0_heights_4 : decode cX0_heights 4 = .ok (.istore 5, 2) := by decide +kernel
theorem dX0_heights_6 : decode cX0_heights 6 = .ok (.iload 5, 2) := by decide +kernel
theorem dX0_heights_8 : decode cX0_heights 8 = .ok (.aload_n 0, 1) := by decide +kernel
theorem dX0_heights_9 : decode cX0_heights 9 = .ok (.getfield 9, 3) := by decide +kernel
theorem dX0_heights_12 : decode cX0_heights 12 = .ok (.if_icmp .ge 40, 3) := by decide +kernel
theorem dX0_heights_15 : decode cX0_heights 15 = .ok (.iload 5, 2) := by decide +kernel
theorem dX0_heights_17 : decode cX0_heights 17 = .ok (.bipush 40, 2) := by decide +kernel
theorem dX0_heights_19 : decode cX0_heights 19 = .ok (.if_icmp .ge 33, 3) := by decide +kernel
theorem dX0_heights_22 : decode cX0_heights 22 = .ok (.aload_n 0, 1) := by decide +kernel
theorem dX0_heights_23 : decode cX0_heights 23 = .ok (.iload 5, 2) := by decide +kernel
theorem dX0_heights_25 : decode cX0_heights 25 = .ok (.iload_n 1, 1) := by decide +kernel
theorem dX0_heights_26 : decode cX0_heights 26 = .ok (.iload_n 2, 1) := by decide +kernel
theorem dX0_heights_27 : decode cX0_heights 27 = .ok (.iload_n 3, 1) := by decide +kernel
theorem dX0_heights_28 : decode cX0_heights 28 = .ok (.invokevirtual 25, 3) := by decide +kernel
theorem dX0_heights_31 : decode cX0_heights 31 = .ok (.ifCond .eq 15, 3) := by decide +kernel
theorem dX0_heights_34 : decode cX0_heights 34 = .ok (.iload 4, 2) := by decide +kernel
theorem dX0_heights_36 : decode cX0_heights 36 = .ok (.aload_n 0, 1) := by decide +kernel
theorem dX0_heights_37 : decode cX0_heights 37 = .ok (.getfield 22, 3) := by decide +kernel
theorem dX0_heights_40 : decode cX0_heights 40 = .ok (.iload 5, 2) := by decide +kernel
theorem dX0_heights_42 : decode cX0_heights 42 = .ok (.iaload, 1) := by decide +kernel
theorem dX0_heights_43 : decode cX0_heights 43 = .ok (.iadd, 1) := by decide +kernel
theorem dX0_heights_44 : decode cX0_heights 44 = .ok (.istore 4, 2) := by decide +kernel
theorem dX0_heights_46 : decode cX0_heights 46 = .ok (.iinc 5 1, 3) := by decide +kernel
theorem dX0_heights_49 : decode cX0_heights 49 = .ok (.goto (-43), 3) := by decide +kernel
theorem dX0_heights_52 : decode cX0_heights 52 = .ok (.iload 4, 2) := by decide +kernel
theorem dX0_heights_54 : decode cX0_heights 54 = .ok (.ireturn, 1) := by decide +kernel
theorem dX0_isOf_0 : decode cX0_isOf 0 = .ok (.iload_n 1, 1) := by decide +kernel
theorem dX0_isOf_1 : decode cX0_isOf 1 = .ok (.ifCond .lt 19, 3) := by decide +kernel
theorem dX0_isOf_4 : decode cX0_isOf 4 = .ok (.iload_n 1, 1) := by decide +kernel
theorem dX0_isOf_5 : decode cX0_isOf 5 = .ok (.bipush 40, 2) := by decide +kernel
theorem dX0_isOf_7 : decode cX0_isOf 7 = .ok (.if_icmp .ge 13, 3) := by decide +kernel
theorem dX0_isOf_10 : decode cX0_isOf 10 = .ok (.aload_n 0, 1) := by decide +kernel
theorem dX0_isOf_11 : decode cX0_isOf 11 = .ok (.getfield 15, 3) := by decide +kernel
theorem dX0_isOf_14 : decode cX0_isOf 14 = .ok (.iload_n 1, 1) := by decide +kernel
theorem dX0_isOf_15 : decode cX0_isOf 15 = .ok (.iaload, 1) := by decide +kernel
theorem dX0_isOf_16 : decode cX0_isOf 16 = .ok (.iload_n 2, 1) := by decide +kernel
theorem dX0_isOf_17 : decode cX0_isOf 17 = .ok (.if_icmp .eq 5, 3) := by decide +kernel
theorem dX0_isOf_20 : decode cX0_isOf 20 = .ok (.iconst 0, 1) := by decide +kernel
theorem dX0_isOf_21 : decode cX0_isOf 21 = .ok (.ireturn, 1) := by decide +kernel
theorem dX0_isOf_22 : decode cX0_isOf 22 = .ok (.aload_n 0, 1) := by decide +kernel
theorem dX0_isOf_23 : decode cX0_isOf 23 = .ok (.getfield 19, 3) := by decide +kernel
theorem dX0_isOf_26 : decode cX0_isOf 26 = .ok (.iload_n 1, 1) := by decide +kernel
theorem dX0_isOf_27 : decode cX0_isOf 27 = .ok (.iaload, 1) := by decide +kernel
theorem dX0_isOf_28 : decode cX0_isOf 28 = .ok (.iload_n 3, 1) := by decide +kernel
theorem dX0_isOf_29 : decode cX0_isOf 29 = .ok (.if_icmp .lt 18, 3) := by decide +kernel
theorem dX0_isOf_32 : decode cX0_isOf 32 = .ok (.aload_n 0, 1) := by decide +kernel
theorem dX0_isOf_33 : decode cX0_isOf 33 = .ok (.getfield 19, 3) := by decide +kernel
theorem dX0_isOf_36 : decode cX0_isOf 36 = .ok (.iload_n 1, 1) := by decide +kernel
theorem dX0_isOf_37 : decode cX0_isOf 37 = .ok (.iaload, 1) := by decide +kernel
theorem dX0_isOf_38 : decode cX0_isOf 38 = .ok (.iload 4, 2) := by decide +kernel
theorem dX0_isOf_40 : decode cX0_isOf 40 = .ok (.if_icmp .gt 7, 3) := by decide +kernel
theorem dX0_isOf_43 : decode cX0_isOf 43 = .ok (.iconst 1, 1) := by decide +kernel
theorem dX0_isOf_44 : decode cX0_isOf 44 = .ok (.goto 4, 3) := by decide +kernel
theorem dX0_isOf_47 : decode cX0_isOf 47 = .ok (.iconst 0, 1) := by decide +kernel
theorem dX0_isOf_48 : decode cX0_isOf 48 = .ok (.ireturn, 1) := by decide +kernel
theorem dX1_init_0 : decode cX1_init 0 = .ok (.aload_n 0, 1) := by decide +kernel
theorem dX1_init_1 : decode cX1_init 1 = .ok (.invokespecial 3, 3) := by decide +kernel
theorem dX1_init_4 : decode cX1_init 4 = .ok (.aload_n 0, 1) := by decide +kernel
theorem dX1_init_5 : decode cX1_init 5 = .ok (.iconst 0, 1) := by decide +kernel
theorem dX1_init_6 : decode cX1_init 6 = .ok (.putfield 9, 3) := by decide +kernel
theorem dX1_init_9 : decode cX1_init 9 = .ok (.aload_n 0, 1) := by decide +kernel
theorem dX1_init_10 : decode cX1_init 10 = .ok (.iconst (-1), 1) := by decide +kernel
theorem dX1_init_11 : decode cX1_init 11 = .ok (.putfield 15, 3) := by decide +kernel
theorem dX1_init_14 : decode cX1_init 14 = .ok (.aload_n 0, 1) := by decide +kernel
theorem dX1_init_15 : decode cX1_init 15 = .ok (.iconst 0, 1) := by decide +kernel
theorem dX1_init_16 : decode cX1_init 16 = .ok (.putfield 18, 3) := by decide +kernel
theorem dX1_init_19 : decode cX1_init 19 = .ok (.aload_n 0, 1) := by decide +kernel
theorem dX1_init_20 : decode cX1_init 20 = .ok (.iconst 0, 1) := by decide +kernel
theorem dX1_init_21 : decode cX1_init 21 = .ok (.putfield 21, 3) := by decide +kernel
theorem dX1_init_24 : decode cX1_init 24 = .ok (.aload_n 0, 1) := by decide +kernel
theorem dX1_init_25 : decode cX1_init 25 = .ok (.iconst 0, 1) := by decide +kernel
theorem dX1_init_26 : decode cX1_init 26 = .ok (.putfield 24, 3) := by decide +kernel
theorem dX1_init_29 : decode cX1_init 29 = .ok (.aload_n 0, 1) := by decide +kernel
theorem dX1_init_30 : decode cX1_init 30 = .ok (.iconst 0, 1) := by decide +kernel
theorem dX1_init_31 : decode cX1_init 31 = .ok (.putfield 27, 3) := by decide +kernel
theorem dX1_init_34 : decode cX1_init 34 = .ok (.aload_n 0, 1) := by decide +kernel
theorem dX1_init_35 : decode cX1_init 35 = .ok (.iconst 0, 1) := by decide +kernel
theorem dX1_init_36 : decode cX1_init 36 = .ok (.putfield 30, 3) := by decide +kernel
theorem dX1_init_39 : decode cX1_init 39 = .ok (.aload_n 0, 1) := by decide +kernel
theorem dX1_init_40 : decode cX1_init 40 = .ok (.iconst 0, 1) := by decide +kernel
theorem dX1_init_41 : decode cX1_init 41 = .ok (.putfield 33, 3) := by decide +kernel
theorem dX1_init_44 : decode cX1_init 44 = .ok (.aload_n 0, 1) := by decide +kernel
theorem dX1_init_45 : decode cX1_init 45 = .ok (.iconst 0, 1) := by decide +kernel
theorem dX1_init_46 : decode cX1_init 46 = .ok (.putfield 36, 3) := by decide +kernel
theorem dX1_init_49 : decode cX1_init 49 = .ok (.return_, 1) := by decide +kernel
theorem dX1_begin_0 : decode cX1_begin 0 = .ok (.aload_n 0, 1) := by decide +kernel
theorem dX1_begin_1 : decode cX1_begin 1 = .ok (.iload_n 1, 1) := by decide +kernel
theorem dX1_begin_2 : decode cX1_begin 2 = .ok (.putfield 9, 3) := by decide +kernel
theorem dX1_begin_5 : decode cX1_begin 5 = .ok (.aload_n 0, 1) := by decide +kernel
theorem dX1_begin_6 : decode cX1_begin 6 = .ok (.iconst (-1), 1) := by decide +kernel
theorem dX1_begin_7 : decode cX1_begin 7 = .ok (.putfield 15, 3) := by decide +kernel
theorem dX1_begin_10 : decode cX1_begin 10 = .ok (.aload_n 0, 1) := by decide +kernel
theorem dX1_begin_11 : decode cX1_begin 11 = .ok (.iconst 0, 1) := by decide +kernel
theorem dX1_begin_12 : decode cX1_begin 12 = .ok (.putfield 18, 3) := by decide +kernel
theorem dX1_begin_15 : decode cX1_begin 15 = .ok (.aload_n 0, 1) := by decide +kernel
theorem dX1_begin_16 : decode cX1_begin 16 = .ok (.iconst 0, 1) := by decide +kernel
theorem dX1_begin_17 : decode cX1_begin 17 = .ok (.putfield 21, 3) := by decide +kernel
theorem dX1_begin_20 : decode cX1_begin 20 = .ok (.aload_n 0, 1) := by decide +kernel
theorem dX1_begin_21 : decode cX1_begin 21 = .ok (.iconst 0, 1) := by decide +kernel
theorem dX1_begin_22 : decode cX1_begin 22 = .ok (.putfield 24, 3) := by decide +kernel
theorem dX1_begin_25 : decode cX1_begin 25 = .ok (.aload_n 0, 1) := by decide +kernel
theorem dX1_begin_26 : decode cX1_begin 26 = .ok (.iconst 0, 1) := by decide +kernel
theorem dX1_begin_27 : decode cX1_begin 27 = .ok (.putfield 27, 3) := by decide +kernel
theorem dX1_begin_30 : decode cX1_begin 30 = .ok (.return_, 1) := by decide +kernel
theorem dX1_become_0 : decode cX1_become 0 = .ok (.aload_n 0, 1) := by decide +kernel
theorem dX1_become_1 : decode cX1_become 1 = .ok (.aload_n 1, 1) := by decide +kernel
theorem dX1_become_2 : decode cX1_become 2 = .ok (.getfield 9, 3) := by decide +kernel
theorem dX1_become_5 : decode cX1_become 5 = .ok (.putfield 9, 3) := by decide +kernel
theorem dX1_become_8 : decode cX1_become 8 = .ok (.aload_n 0, 1) := by decide +kernel
theorem dX1_become_9 : decode cX1_become 9 = .ok (.aload_n 1, 1) := by decide +kernel
theorem dX1_become_10 : decode cX1_become 10 = .ok (.getfield 15, 3) := by decide +kernel
theorem dX1_become_13 : decode cX1_become 13 = .ok (.putfield 15, 3) := by decide +kernel
theorem dX1_become_16 : decode cX1_become 16 = .ok (.aload_n 0, 1) := by decide +kernel
theorem dX1_become_17 : decode cX1_become 17 = .ok (.aload_n 1, 1) := by decide +kernel
theorem dX1_become_18 : decode cX1_become 18 = .ok (.getfield 18, 3) := by decide +kernel
theorem dX1_become_21 : decode cX1_become 21 = .ok (.putfield 18, 3) := by decide +kernel
theorem dX1_become_24 : decode cX1_become 24 = .ok (.aload_n 0, 1) := by decide +kernel
theorem dX1_become_25 : decode cX1_become 25 = .ok (.aload_n 1, 1) := by decide +kernel
theorem dX1_become_26 : decode cX1_become 26 = .ok (.getfield 21, 3) := by decide +kernel
theorem dX1_become_29 : decode cX1_become 29 = .ok (.putfield 21, 3) := by decide +kernel
theorem dX1_become_32 : decode cX1_become 32 = .ok (.aload_n 0, 1) := by decide +kernel
theorem dX1_become_33 : decode cX1_become 33 = .ok (.aload_n 1, 1) := by decide +kernel
theorem dX1_become_34 : decode cX1_become 34 = .ok (.getfield 24, 3) := by decide +kernel
theorem dX1_become_37 : decode cX1_become 37 = .ok (.putfield 24, 3) := by decide +kernel
theorem dX1_become_40 : decode cX1_become 40 = .ok (.aload_n 0, 1) := by decide +kernel
theorem dX1_become_41 : decode cX1_become 41 = .ok (.aload_n 1, 1) := by decide +kernel
theorem dX1_become_42 : decode cX1_become 42 = .ok (.getfield 27, 3) := by decide +kernel
theorem dX1_become_45 : decode cX1_become 45 = .ok (.putfield 27, 3) := by decide +kernel
theorem dX1_become_48 : decode cX1_become 48 = .ok (.aload_n 0, 1) := by decide +kernel
theorem dX1_become_49 : decode cX1_become 49 = .ok (.aload_n 1, 1) := by decide +kernel
theorem dX1_become_50 : decode cX1_become 50 = .ok (.getfield 30, 3) := by decide +kernel
theorem dX1_become_53 : decode cX1_become 53 = .ok (.putfield 30, 3) := by decide +kernel
theorem dX1_become_56 : decode cX1_become 56 = .ok (.aload_n 0, 1) := by decide +kernel
theorem dX1_become_57 : decode cX1_become 57 = .ok (.aload_n 1, 1) := by decide +kernel
theorem dX1_become_58 : decode cX1_become 58 = .ok (.getfield 33, 3) := by decide +kernel
theorem dX1_become_61 : decode cX1_become 61 = .ok (.putfield 33, 3) := by decide +kernel
theorem dX1_become_64 : decode cX1_become 64 = .ok (.return_, 1) := by decide +kernel
theorem dX1_draw_0 : decode cX1_draw 0 = .ok (.aload_n 0, 1) := by decide +kernel
theorem dX1_draw_1 : decode cX1_draw 1 = .ok (.aload_n 0, 1) := by decide +kernel
theorem dX1_draw_2 : decode cX1_draw 2 = .ok (.getfield 30, 3) := by decide +kernel
theorem dX1_draw_5 : decode cX1_draw 5 = .ok (.ldc 40, 2) := by decide +kernel
theorem dX1_draw_7 : decode cX1_draw 7 = .ok (.imul, 1) := by decide +kernel
theorem dX1_draw_8 : decode cX1_draw 8 = .ok (.sipush 12345, 3) := by decide +kernel
theorem dX1_draw_11 : decode cX1_draw 11 = .ok (.iadd, 1) := by decide +kernel
theorem dX1_draw_12 : decode cX1_draw 12 = .ok (.putfield 30, 3) := by decide +kernel
theorem dX1_draw_15 : decode cX1_draw 15 = .ok (.aload_n 0, 1) := by decide +kernel
theorem dX1_draw_16 : decode cX1_draw 16 = .ok (.getfield 30, 3) := by decide +kernel
theorem dX1_draw_19 : decode cX1_draw 19 = .ok (.bipush 16, 2) := by decide +kernel
theorem dX1_draw_21 : decode cX1_draw 21 = .ok (.iushr, 1) := by decide +kernel
theorem dX1_draw_22 : decode cX1_draw 22 = .ok (.bipush 10, 2) := by decide +kernel
theorem dX1_draw_24 : decode cX1_draw 24 = .ok (.irem, 1) := by decide +kernel
theorem dX1_draw_25 : decode cX1_draw 25 = .ok (.ireturn, 1) := by decide +kernel
theorem dX1_arrive_0 : decode cX1_arrive 0 = .ok (.aload_n 0, 1) := by decide +kernel
theorem dX1_arrive_1 : decode cX1_arrive 1 = .ok (.iload_n 1, 1) := by decide +kernel
theorem dX1_arrive_2 : decode cX1_arrive 2 = .ok (.putfield 15, 3) := by decide +kernel
theorem dX1_arrive_5 : decode cX1_arrive 5 = .ok (.aload_n 0, 1) := by decide +kernel
theorem dX1_arrive_6 : decode cX1_arrive 6 = .ok (.aload_n 0, 1) := by decide +kernel
theorem dX1_arrive_7 : decode cX1_arrive 7 = .ok (.getfield 21, 3) := by decide +kernel
theorem dX1_arrive_10 : decode cX1_arrive 10 = .ok (.iload_n 2, 1) := by decide +kernel
theorem dX1_arrive_11 : decode cX1_arrive 11 = .ok (.invokestatic 41, 3) := by decide +kernel
theorem dX1_arrive_14 : decode cX1_arrive 14 = .ok (.putfield 21, 3) := by decide +kernel
theorem dX1_arrive_17 : decode cX1_arrive 17 = .ok (.aload_n 0, 1) := by decide +kernel
theorem dX1_arrive_18 : decode cX1_arrive 18 = .ok (.dup, 1) := by decide +kernel
theorem dX1_arrive_19 : decode cX1_arrive 19 = .ok (.getfield 24, 3) := by decide +kernel
theorem dX1_arrive_22 : decode cX1_arrive 22 = .ok (.iconst 1, 1) := by decide +kernel
theorem dX1_arrive_23 : decode cX1_arrive 23 = .ok (.iadd, 1) := by decide +kernel
theorem dX1_arrive_24 : decode cX1_arrive 24 = .ok (.putfield 24, 3) := by decide +kernel
theorem dX1_arrive_27 : decode cX1_arrive 27 = .ok (.return_, 1) := by decide +kernel
theorem dX1_drop_0 : decode cX1_drop 0 = .ok (.aload_n 0, 1) := by decide +kernel
theorem dX1_drop_1 : decode cX1_drop 1 = .ok (.iconst (-1), 1) := by decide +kernel
theorem dX1_drop_2 : decode cX1_drop 2 = .ok (.putfield 15, 3) := by decide +kernel
theorem dX1_drop_5 : decode cX1_drop 5 = .ok (.aload_n 0, 1) := by decide +kernel
theorem dX1_drop_6 : decode cX1_drop 6 = .ok (.dup, 1) := by decide +kernel
theorem dX1_drop_7 : decode cX1_drop 7 = .ok (.getfield 18, 3) := by decide +kernel
theorem dX1_drop_10 : decode cX1_drop 10 = .ok (.iload_n 1, 1) := by decide +kernel
theorem dX1_drop_11 : decode cX1_drop 11 = .ok (.iadd, 1) := by decide +kernel
theorem dX1_drop_12 : decode cX1_drop 12 = .ok (.putfield 18, 3) := by decide +kernel
theorem dX1_drop_15 : decode cX1_drop 15 = .ok (.aload_n 0, 1) := by decide +kernel
theorem dX1_drop_16 : decode cX1_drop 16 = .ok (.dup, 1) := by decide +kernel
theorem dX1_drop_17 : decode cX1_drop 17 = .ok (.getfield 27, 3) := by decide +kernel
theorem dX1_drop_20 : decode cX1_drop 20 = .ok (.iconst 1, 1) := by decide +kernel
theorem dX1_drop_21 : decode cX1_drop 21 = .ok (.iadd, 1) := by decide +kernel
theorem dX1_drop_22 : decode cX1_drop 22 = .ok (.putfield 27, 3) := by decide +kernel
theorem dX1_drop_25 : decode cX1_drop 25 = .ok (.return_, 1) := by decide +kernel
theorem dX2_init_0 : decode cX2_init 0 = .ok (.aload_n 0, 1) := by decide +kernel
theorem dX2_init_1 : decode cX2_init 1 = .ok (.invokespecial 3, 3) := by decide +kernel
theorem dX2_init_4 : decode cX2_init 4 = .ok (.aload_n 0, 1) := by decide +kernel
theorem dX2_init_5 : decode cX2_init 5 = .ok (.sipush 400, 3) := by decide +kernel
theorem dX2_init_8 : decode cX2_init 8 = .ok (.newarray .int, 2) := by decide +kernel
theorem dX2_init_10 : decode cX2_init 10 = .ok (.putfield 9, 3) := by decide +kernel
theorem dX2_init_13 : decode cX2_init 13 = .ok (.aload_n 0, 1) := by decide +kernel
theorem dX2_init_14 : decode cX2_init 14 = .ok (.iconst 0, 1) := by decide +kernel
theorem dX2_init_15 : decode cX2_init 15 = .ok (.putfield 15, 3) := by decide +kernel
theorem dX2_init_18 : decode cX2_init 18 = .ok (.aload_n 0, 1) := by decide +kernel
theorem dX2_init_19 : decode cX2_init 19 = .ok (.iconst 0, 1) := by decide +kernel
theorem dX2_init_20 : decode cX2_init 20 = .ok (.putfield 19, 3) := by decide +kernel
theorem dX2_init_23 : decode cX2_init 23 = .ok (.aload_n 0, 1) := by decide +kernel
theorem dX2_init_24 : decode cX2_init 24 = .ok (.iconst 0, 1) := by decide +kernel
theorem dX2_init_25 : decode cX2_init 25 = .ok (.putfield 22, 3) := by decide +kernel
theorem dX2_init_28 : decode cX2_init 28 = .ok (.aload_n 0, 1) := by decide +kernel
theorem dX2_init_29 : decode cX2_init 29 = .ok (.iconst 0, 1) := by decide +kernel
theorem dX2_init_30 : decode cX2_init 30 = .ok (.putfield 25, 3) := by decide +kernel
theorem dX2_init_33 : decode cX2_init 33 = .ok (.aload_n 0, 1) := by decide +kernel
theorem dX2_init_34 : decode cX2_init 34 = .ok (.iconst 0, 1) := by decide +kernel
theorem dX2_init_35 : decode cX2_init 35 = .ok (.putfield 28, 3) := by decide +kernel
theorem dX2_init_38 : decode cX2_init 38 = .ok (.return_, 1) := by decide +kernel
theorem dX2_append_0 : decode cX2_append 0 = .ok (.iload_n 3, 1) := by decide +kernel
theorem dX2_append_1 : decode cX2_append 1 = .ok (.iconst 1, 1) := by decide +kernel
theorem dX2_append_2 : decode cX2_append 2 = .ok (.if_icmp .lt 23, 3) := by decide +kernel
theorem dX2_append_5 : decode cX2_append 5 = .ok (.iload_n 3, 1) := by decide +kernel
theorem dX2_append_6 : decode cX2_append 6 = .ok (.bipush 8, 2) := by decide +kernel
theorem dX2_append_8 : decode cX2_append 8 = .ok (.if_icmp .gt 17, 3) := by decide +kernel
theorem dX2_append_11 : decode cX2_append 11 = .ok (.aload_n 0, 1) := by decide +kernel
theorem dX2_append_12 : decode cX2_append 12 = .ok (.getfield 15, 3) := by decide +kernel
theorem dX2_append_15 : decode cX2_append 15 = .ok (.iload_n 3, 1) := by decide +kernel
theorem dX2_append_16 : decode cX2_append 16 = .ok (.iadd, 1) := by decide +kernel
theorem dX2_append_17 : decode cX2_append 17 = .ok (.aload_n 0, 1) := by decide +kernel
theorem dX2_append_18 : decode cX2_append 18 = .ok (.getfield 9, 3) := by decide +kernel
theorem dX2_append_21 : decode cX2_append 21 = .ok (.arraylength, 1) := by decide +kernel
theorem dX2_append_22 : decode cX2_append 22 = .ok (.if_icmp .le 5, 3) := by decide +kernel
theorem dX2_append_25 : decode cX2_append 25 = .ok (.iconst 0, 1) := by decide +kernel
theorem dX2_append_26 : decode cX2_append 26 = .ok (.ireturn, 1) := by decide +kernel
theorem dX2_append_27 : decode cX2_append 27 = .ok (.iload_n 3, 1) := by decide +kernel
theorem dX2_append_28 : decode cX2_append 28 = .ok (.iconst 1, 1) := by decide +kernel
theorem dX2_append_29 : decode cX2_append 29 = .ok (.isub, 1) := by decide +kernel
theorem dX2_append_30 : decode cX2_append 30 = .ok (.istore 4, 2) := by decide +kernel
theorem dX2_append_32 : decode cX2_append 32 = .ok (.iload 4, 2) := by decide +kernel
theorem dX2_append_34 : decode cX2_append 34 = .ok (.ifCond .lt 40, 3) := by decide +kernel
theorem dX2_append_37 : decode cX2_append 37 = .ok (.aload_n 0, 1) := by decide +kernel
theorem dX2_append_38 : decode cX2_append 38 = .ok (.getfield 9, 3) := by decide +kernel
theorem dX2_append_41 : decode cX2_append 41 = .ok (.aload_n 0, 1) := by decide +kernel
theorem dX2_append_42 : decode cX2_append 42 = .ok (.getfield 15, 3) := by decide +kernel
theorem dX2_append_45 : decode cX2_append 45 = .ok (.lload_n 1, 1) := by decide +kernel
theorem dX2_append_46 : decode cX2_append 46 = .ok (.bipush 8, 2) := by decide +kernel
theorem dX2_append_48 : decode cX2_append 48 = .ok (.iload 4, 2) := by decide +kernel
theorem dX2_append_50 : decode cX2_append 50 = .ok (.imul, 1) := by decide +kernel
theorem dX2_append_51 : decode cX2_append 51 = .ok (.lushr, 1) := by decide +kernel
theorem dX2_append_52 : decode cX2_append 52 = .ok (.l2i, 1) := by decide +kernel
theorem dX2_append_53 : decode cX2_append 53 = .ok (.sipush 255, 3) := by decide +kernel
theorem dX2_append_56 : decode cX2_append 56 = .ok (.iand, 1) := by decide +kernel
theorem dX2_append_57 : decode cX2_append 57 = .ok (.iastore, 1) := by decide +kernel
theorem dX2_append_58 : decode cX2_append 58 = .ok (.aload_n 0, 1) := by decide +kernel
theorem dX2_append_59 : decode cX2_append 59 = .ok (.dup, 1) := by decide +kernel
theorem dX2_append_60 : decode cX2_append 60 = .ok (.getfield 15, 3) := by decide +kernel
theorem dX2_append_63 : decode cX2_append 63 = .ok (.iconst 1, 1) := by decide +kernel
theorem dX2_append_64 : decode cX2_append 64 = .ok (.iadd, 1) := by decide +kernel
theorem dX2_append_65 : decode cX2_append 65 = .ok (.putfield 15, 3) := by decide +kernel
theorem dX2_append_68 : decode cX2_append 68 = .ok (.iinc 4 (-1), 3) := by decide +kernel
theorem dX2_append_71 : decode cX2_append 71 = .ok (.goto (-39), 3) := by decide +kernel
theorem dX2_append_74 : decode cX2_append 74 = .ok (.iconst 1, 1) := by decide +kernel
theorem dX2_append_75 : decode cX2_append 75 = .ok (.ireturn, 1) := by decide +kernel
theorem dX2_rewind_0 : decode cX2_rewind 0 = .ok (.aload_n 0, 1) := by decide +kernel
theorem dX2_rewind_1 : decode cX2_rewind 1 = .ok (.iconst 0, 1) := by decide +kernel
theorem dX2_rewind_2 : decode cX2_rewind 2 = .ok (.putfield 19, 3) := by decide +kernel
theorem dX2_rewind_5 : decode cX2_rewind 5 = .ok (.return_, 1) := by decide +kernel
theorem dX2_byteAt_0 : decode cX2_byteAt 0 = .ok (.iload_n 1, 1) := by decide +kernel
theorem dX2_byteAt_1 : decode cX2_byteAt 1 = .ok (.ifCond .lt 29, 3) := by decide +kernel
theorem dX2_byteAt_4 : decode cX2_byteAt 4 = .ok (.iload_n 1, 1) := by decide +kernel
theorem dX2_byteAt_5 : decode cX2_byteAt 5 = .ok (.aload_n 0, 1) := by decide +kernel
theorem dX2_byteAt_6 : decode cX2_byteAt 6 = .ok (.getfield 15, 3) := by decide +kernel
theorem dX2_byteAt_9 : decode cX2_byteAt 9 = .ok (.if_icmp .ge 21, 3) := by decide +kernel
theorem dX2_byteAt_12 : decode cX2_byteAt 12 = .ok (.iload_n 1, 1) := by decide +kernel
theorem dX2_byteAt_13 : decode cX2_byteAt 13 = .ok (.aload_n 0, 1) := by decide +kernel
theorem dX2_byteAt_14 : decode cX2_byteAt 14 = .ok (.getfield 9, 3) := by decide +kernel
theorem dX2_byteAt_17 : decode cX2_byteAt 17 = .ok (.arraylength, 1) := by decide +kernel
theorem dX2_byteAt_18 : decode cX2_byteAt 18 = .ok (.if_icmp .ge 12, 3) := by decide +kernel
theorem dX2_byteAt_21 : decode cX2_byteAt 21 = .ok (.aload_n 0, 1) := by decide +kernel
theorem dX2_byteAt_22 : decode cX2_byteAt 22 = .ok (.getfield 9, 3) := by decide +kernel
theorem dX2_byteAt_25 : decode cX2_byteAt 25 = .ok (.iload_n 1, 1) := by decide +kernel
theorem dX2_byteAt_26 : decode cX2_byteAt 26 = .ok (.iaload, 1) := by decide +kernel
theorem dX2_byteAt_27 : decode cX2_byteAt 27 = .ok (.goto 4, 3) := by decide +kernel
theorem dX2_byteAt_30 : decode cX2_byteAt 30 = .ok (.iconst (-1), 1) := by decide +kernel
theorem dX2_byteAt_31 : decode cX2_byteAt 31 = .ok (.ireturn, 1) := by decide +kernel
theorem dX2_advance_0 : decode cX2_advance 0 = .ok (.aload_n 0, 1) := by decide +kernel
theorem dX2_advance_1 : decode cX2_advance 1 = .ok (.getfield 19, 3) := by decide +kernel
theorem dX2_advance_4 : decode cX2_advance 4 = .ok (.aload_n 0, 1) := by decide +kernel
theorem dX2_advance_5 : decode cX2_advance 5 = .ok (.getfield 15, 3) := by decide +kernel
theorem dX2_advance_8 : decode cX2_advance 8 = .ok (.if_icmp .ge 29, 3) := by decide +kernel
theorem dX2_advance_11 : decode cX2_advance 11 = .ok (.aload_n 0, 1) := by decide +kernel
theorem dX2_advance_12 : decode cX2_advance 12 = .ok (.aload_n 0, 1) := by decide +kernel
theorem dX2_advance_13 : decode cX2_advance 13 = .ok (.getfield 19, 3) := by decide +kernel
theorem dX2_advance_16 : decode cX2_advance 16 = .ok (.invokevirtual 31, 3) := by decide +kernel
theorem dX2_advance_19 : decode cX2_advance 19 = .ok (.bipush 32, 2) := by decide +kernel
theorem dX2_advance_21 : decode cX2_advance 21 = .ok (.if_icmp .ne 16, 3) := by decide +kernel
theorem dX2_advance_24 : decode cX2_advance 24 = .ok (.aload_n 0, 1) := by decide +kernel
theorem dX2_advance_25 : decode cX2_advance 25 = .ok (.dup, 1) := by decide +kernel
theorem dX2_advance_26 : decode cX2_advance 26 = .ok (.getfield 19, 3) := by decide +kernel
theorem dX2_advance_29 : decode cX2_advance 29 = .ok (.iconst 1, 1) := by decide +kernel
theorem dX2_advance_30 : decode cX2_advance 30 = .ok (.iadd, 1) := by decide +kernel
theorem dX2_advance_31 : decode cX2_advance 31 = .ok (.putfield 19, 3) := by decide +kernel
theorem dX2_advance_34 : decode cX2_advance 34 = .ok (.goto (-34), 3) := by decide +kernel
theorem dX2_advance_37 : decode cX2_advance 37 = .ok (.aload_n 0, 1) := by decide +kernel
theorem dX2_advance_38 : decode cX2_advance 38 = .ok (.aload_n 0, 1) := by decide +kernel
theorem dX2_advance_39 : decode cX2_advance 39 = .ok (.getfield 19, 3) := by decide +kernel
theorem dX2_advance_42 : decode cX2_advance 42 = .ok (.putfield 22, 3) := by decide +kernel
theorem dX2_advance_45 : decode cX2_advance 45 = .ok (.aload_n 0, 1) := by decide +kernel
theorem dX2_advance_46 : decode cX2_advance 46 = .ok (.aload_n 0, 1) := by decide +kernel
theorem dX2_advance_47 : decode cX2_advance 47 = .ok (.getfield 19, 3) := by decide +kernel
theorem dX2_advance_50 : decode cX2_advance 50 = .ok (.invokevirtual 31, 3) := by decide +kernel
theorem dX2_advance_53 : decode cX2_advance 53 = .ok (.istore_n 1, 1) := by decide +kernel
theorem dX2_advance_54 : decode cX2_advance 54 = .ok (.iload_n 1, 1) := by decide +kernel
theorem dX2_advance_55 : decode cX2_advance 55 = .ok (.ifCond .ge 11, 3) := by decide +kernel
theorem dX2_advance_58 : decode cX2_advance 58 = .ok (.aload_n 0, 1) := by decide +kernel
theorem dX2_advance_59 : decode cX2_advance 59 = .ok (.iconst 0, 1) := by decide +kernel
theorem dX2_advance_60 : decode cX2_advance 60 = .ok (.putfield 25, 3) := by decide +kernel
theorem dX2_advance_63 : decode cX2_advance 63 = .ok (.goto 69, 3) := by decide +kernel
theorem dX2_advance_66 : decode cX2_advance 66 = .ok (.iload_n 1, 1) := by decide +kernel
theorem dX2_advance_67 : decode cX2_advance 67 = .ok (.bipush 59, 2) := by decide +kernel
theorem dX2_advance_69 : decode cX2_advance 69 = .ok (.if_icmp .ne 21, 3) := by decide +kernel
theorem dX2_advance_72 : decode cX2_advance 72 = .ok (.aload_n 0, 1) := by decide +kernel
theorem dX2_advance_73 : decode cX2_advance 73 = .ok (.dup, 1) := by decide +kernel
theorem dX2_advance_74 : decode cX2_advance 74 = .ok (.getfield 19, 3) := by decide +kernel
theorem dX2_advance_77 : decode cX2_advance 77 = .ok (.iconst 1, 1) := by decide +kernel
theorem dX2_advance_78 : decode cX2_advance 78 = .ok (.iadd, 1) := by decide +kernel
theorem dX2_advance_79 : decode cX2_advance 79 = .ok (.putfield 19, 3) := by decide +kernel
theorem dX2_advance_82 : decode cX2_advance 82 = .ok (.aload_n 0, 1) := by decide +kernel
theorem dX2_advance_83 : decode cX2_advance 83 = .ok (.iconst 1, 1) := by decide +kernel
theorem dX2_advance_84 : decode cX2_advance 84 = .ok (.putfield 25, 3) := by decide +kernel
theorem dX2_advance_87 : decode cX2_advance 87 = .ok (.goto 45, 3) := by decide +kernel
theorem dX2_advance_90 : decode cX2_advance 90 = .ok (.iload_n 1, 1) := by decide +kernel
theorem dX2_advance_91 : decode cX2_advance 91 = .ok (.invokestatic 35, 3) := by decide +kernel
theorem dX2_advance_94 : decode cX2_advance 94 = .ok (.ifCond .eq 14, 3) := by decide +kernel
theorem dX2_advance_97 : decode cX2_advance 97 = .ok (.aload_n 0, 1) := by decide +kernel
theorem dX2_advance_98 : decode cX2_advance 98 = .ok (.aload_n 0, 1) := by decide +kernel
theorem dX2_advance_99 : decode cX2_advance 99 = .ok (.invokevirtual 39, 3) := by decide +kernel
theorem dX2_advance_102 : decode cX2_advance 102 = .ok (.putfield 25, 3) := by decide +kernel
theorem dX2_advance_105 : decode cX2_advance 105 = .ok (.goto 27, 3) := by decide +kernel
theorem dX2_advance_108 : decode cX2_advance 108 = .ok (.iload_n 1, 1) := by decide +kernel
theorem dX2_advance_109 : decode cX2_advance 109 = .ok (.invokestatic 43, 3) := by decide +kernel
theorem dX2_advance_112 : decode cX2_advance 112 = .ok (.ifCond .eq 14, 3) := by decide +kernel
theorem dX2_advance_115 : decode cX2_advance 115 = .ok (.aload_n 0, 1) := by decide +kernel
theorem dX2_advance_116 : decode cX2_advance 116 = .ok (.aload_n 0, 1) := by decide +kernel
theorem dX2_advance_117 : decode cX2_advance 117 = .ok (.invokevirtual 46, 3) := by decide +kernel
theorem dX2_advance_120 : decode cX2_advance 120 = .ok (.putfield 25, 3) := by decide +kernel
theorem dX2_advance_123 : decode cX2_advance 123 = .ok (.goto 9, 3) := by decide +kernel
theorem dX2_advance_126 : decode cX2_advance 126 = .ok (.aload_n 0, 1) := by decide +kernel
theorem dX2_advance_127 : decode cX2_advance 127 = .ok (.bipush 7, 2) := by decide +kernel
theorem dX2_advance_129 : decode cX2_advance 129 = .ok (.putfield 25, 3) := by decide +kernel
theorem dX2_advance_132 : decode cX2_advance 132 = .ok (.return_, 1) := by decide +kernel
theorem dX2_readNumber_0 : decode cX2_readNumber 0 = .ok (.iconst 0, 1) := by decide +kernel
theorem dX2_readNumber_1 : decode cX2_readNumber 1 = .ok (.istore_n 1, 1) := by decide +kernel
theorem dX2_readNumber_2 : decode cX2_readNumber 2 = .ok (.aload_n 0, 1) := by decide +kernel
theorem dX2_readNumber_3 : decode cX2_readNumber 3 = .ok (.getfield 19, 3) := by decide +kernel
theorem dX2_readNumber_6 : decode cX2_readNumber 6 = .ok (.aload_n 0, 1) := by decide +kernel
theorem dX2_readNumber_7 : decode cX2_readNumber 7 = .ok (.getfield 15, 3) := by decide +kernel
theorem dX2_readNumber_10 : decode cX2_readNumber 10 = .ok (.if_icmp .ge 52, 3) := by decide +kernel
theorem dX2_readNumber_13 : decode cX2_readNumber 13 = .ok (.aload_n 0, 1) := by decide +kernel
theorem dX2_readNumber_14 : decode cX2_readNumber 14 = .ok (.aload_n 0, 1) := by decide +kernel
theorem dX2_readNumber_15 : decode cX2_readNumber 15 = .ok (.getfield 19, 3) := by decide +kernel
theorem dX2_readNumber_18 : decode cX2_readNumber 18 = .ok (.invokevirtual 31, 3) := by decide +kernel
theorem dX2_readNumber_21 : decode cX2_readNumber 21 = .ok (.invokestatic 35, 3) := by decide +kernel
theorem dX2_readNumber_24 : decode cX2_readNumber 24 = .ok (.ifCond .eq 38, 3) := by decide +kernel
theorem dX2_readNumber_27 : decode cX2_readNumber 27 = .ok (.bipush 100, 2) := by decide +kernel
theorem dX2_readNumber_29 : decode cX2_readNumber 29 = .ok (.iload_n 1, 1) := by decide +kernel
theorem dX2_readNumber_30 : decode cX2_readNumber 30 = .ok (.bipush 10, 2) := by decide +kernel
theorem dX2_readNumber_32 : decode cX2_readNumber 32 = .ok (.imul, 1) := by decide +kernel
theorem dX2_readNumber_33 : decode cX2_readNumber 33 = .ok (.aload_n 0, 1) := by decide +kernel
theorem dX2_readNumber_34 : decode cX2_readNumber 34 = .ok (.aload_n 0, 1) := by decide +kernel
theorem dX2_readNumber_35 : decode cX2_readNumber 35 = .ok (.getfield 19, 3) := by decide +kernel
theorem dX2_readNumber_38 : decode cX2_readNumber 38 = .ok (.invokevirtual 31, 3) := by decide +kernel
theorem dX2_readNumber_41 : decode cX2_readNumber 41 = .ok (.iadd, 1) := by decide +kernel
theorem dX2_readNumber_42 : decode cX2_readNumber 42 = .ok (.bipush 48, 2) := by decide +kernel
theorem dX2_readNumber_44 : decode cX2_readNumber 44 = .ok (.isub, 1) := by decide +kernel
theorem dX2_readNumber_45 : decode cX2_readNumber 45 = .ok (.invokestatic 49, 3) := by decide +kernel
theorem dX2_readNumber_48 : decode cX2_readNumber 48 = .ok (.istore_n 1, 1) := by decide +kernel
theorem dX2_readNumber_49 : decode cX2_readNumber 49 = .ok (.aload_n 0, 1) := by decide +kernel
theorem dX2_readNumber_50 : decode cX2_readNumber 50 = .ok (.dup, 1) := by decide +kernel
theorem dX2_readNumber_51 : decode cX2_readNumber 51 = .ok (.getfield 19, 3) := by decide +kernel
theorem dX2_readNumber_54 : decode cX2_readNumber 54 = .ok (.iconst 1, 1) := by decide +kernel
theorem dX2_readNumber_55 : decode cX2_readNumber 55 = .ok (.iadd, 1) := by decide +kernel
theorem dX2_readNumber_56 : decode cX2_readNumber 56 = .ok (.putfield 19, 3) := by decide +kernel
theorem dX2_readNumber_59 : decode cX2_readNumber 59 = .ok (.goto (-57), 3) := by decide +kernel
theorem dX2_readNumber_62 : decode cX2_readNumber 62 = .ok (.aload_n 0, 1) := by decide +kernel
theorem dX2_readNumber_63 : decode cX2_readNumber 63 = .ok (.iload_n 1, 1) := by decide +kernel
theorem dX2_readNumber_64 : decode cX2_readNumber 64 = .ok (.putfield 28, 3) := by decide +kernel
theorem dX2_readNumber_67 : decode cX2_readNumber 67 = .ok (.aload_n 0, 1) := by decide +kernel
theorem dX2_readNumber_68 : decode cX2_readNumber 68 = .ok (.aload_n 0, 1) := by decide +kernel
theorem dX2_readNumber_69 : decode cX2_readNumber 69 = .ok (.getfield 22, 3) := by decide +kernel
theorem dX2_readNumber_72 : decode cX2_readNumber 72 = .ok (.invokevirtual 31, 3) := by decide +kernel
theorem dX2_readNumber_75 : decode cX2_readNumber 75 = .ok (.bipush 48, 2) := by decide +kernel
theorem dX2_readNumber_77 : decode cX2_readNumber 77 = .ok (.if_icmp .ne 20, 3) := by decide +kernel
theorem dX2_readNumber_80 : decode cX2_readNumber 80 = .ok (.aload_n 0, 1) := by decide +kernel
theorem dX2_readNumber_81 : decode cX2_readNumber 81 = .ok (.getfield 19, 3) := by decide +kernel
theorem dX2_readNumber_84 : decode cX2_readNumber 84 = .ok (.aload_n 0, 1) := by decide +kernel
theorem dX2_readNumber_85 : decode cX2_readNumber 85 = .ok (.getfield 22, 3) := by decide +kernel
theorem dX2_readNumber_88 : decode cX2_readNumber 88 = .ok (.isub, 1) := by decide +kernel
theorem dX2_readNumber_89 : decode cX2_readNumber 89 = .ok (.iconst 1, 1) := by decide +kernel
theorem dX2_readNumber_90 : decode cX2_readNumber 90 = .ok (.if_icmp .le 7, 3) := by decide +kernel
theorem dX2_readNumber_93 : decode cX2_readNumber 93 = .ok (.iconst 1, 1) := by decide +kernel
theorem dX2_readNumber_94 : decode cX2_readNumber 94 = .ok (.goto 4, 3) := by decide +kernel
theorem dX2_readNumber_97 : decode cX2_readNumber 97 = .ok (.iconst 0, 1) := by decide +kernel
theorem dX2_readNumber_98 : decode cX2_readNumber 98 = .ok (.istore_n 2, 1) := by decide +kernel
theorem dX2_readNumber_99 : decode cX2_readNumber 99 = .ok (.iload_n 2, 1) := by decide +kernel
theorem dX2_readNumber_100 : decode cX2_readNumber 100 = .ok (.ifCond .ne 9, 3) := by decide +kernel
theorem dX2_readNumber_103 : decode cX2_readNumber 103 = .ok (.iload_n 1, 1) := by decide +kernel
theorem dX2_readNumber_104 : decode cX2_readNumber 104 = .ok (.bipush 99, 2) := by decide +kernel
theorem dX2_readNumber_106 : decode cX2_readNumber 106 = .ok (.if_icmp .le 8, 3) := by decide +kernel
theorem dX2_readNumber_109 : decode cX2_readNumber 109 = .ok (.bipush 7, 2) := by decide +kernel
theorem dX2_readNumber_111 : decode cX2_readNumber 111 = .ok (.goto 4, 3) := by decide +kernel
theorem dX2_readNumber_114 : decode cX2_readNumber 114 = .ok (.iconst 2, 1) := by decide +kernel
theorem dX2_readNumber_115 : decode cX2_readNumber 115 = .ok (.ireturn, 1) := by decide +kernel
theorem dX2_readWord_0 : decode cX2_readWord 0 = .ok (.aload_n 0, 1) := by decide +kernel
theorem dX2_readWord_1 : decode cX2_readWord 1 = .ok (.getfield 19, 3) := by decide +kernel
theorem dX2_readWord_4 : decode cX2_readWord 4 = .ok (.aload_n 0, 1) := by decide +kernel
theorem dX2_readWord_5 : decode cX2_readWord 5 = .ok (.getfield 15, 3) := by decide +kernel
theorem dX2_readWord_8 : decode cX2_readWord 8 = .ok (.if_icmp .ge 30, 3) := by decide +kernel
theorem dX2_readWord_11 : decode cX2_readWord 11 = .ok (.aload_n 0, 1) := by decide +kernel
theorem dX2_readWord_12 : decode cX2_readWord 12 = .ok (.aload_n 0, 1) := by decide +kernel
theorem dX2_readWord_13 : decode cX2_readWord 13 = .ok (.getfield 19, 3) := by decide +kernel
theorem dX2_readWord_16 : decode cX2_readWord 16 = .ok (.invokevirtual 31, 3) := by decide +kernel
theorem dX2_readWord_19 : decode cX2_readWord 19 = .ok (.invokestatic 43, 3) := by decide +kernel
theorem dX2_readWord_22 : decode cX2_readWord 22 = .ok (.ifCond .eq 16, 3) := by decide +kernel
theorem dX2_readWord_25 : decode cX2_readWord 25 = .ok (.aload_n 0, 1) := by decide +kernel
theorem dX2_readWord_26 : decode cX2_readWord 26 = .ok (.dup, 1) := by decide +kernel
theorem dX2_readWord_27 : decode cX2_readWord 27 = .ok (.getfield 19, 3) := by decide +kernel
theorem dX2_readWord_30 : decode cX2_readWord 30 = .ok (.iconst 1, 1) := by decide +kernel
theorem dX2_readWord_31 : decode cX2_readWord 31 = .ok (.iadd, 1) := by decide +kernel
theorem dX2_readWord_32 : decode cX2_readWord 32 = .ok (.putfield 19, 3) := by decide +kernel
theorem dX2_readWord_35 : decode cX2_readWord 35 = .ok (.goto (-35), 3) := by decide +kernel
theorem dX2_readWord_38 : decode cX2_readWord 38 = .ok (.aload_n 0, 1) := by decide +kernel
theorem dX2_readWord_39 : decode cX2_readWord 39 = .ok (.ldc 55, 2) := by decide +kernel
theorem dX2_readWord_41 : decode cX2_readWord 41 = .ok (.invokevirtual 57, 3) := by decide +kernel
theorem dX2_readWord_44 : decode cX2_readWord 44 = .ok (.ifCond .eq 5, 3) := by decide +kernel
theorem dX2_readWord_47 : decode cX2_readWord 47 = .ok (.iconst 3, 1) := by decide +kernel
theorem dX2_readWord_48 : decode cX2_readWord 48 = .ok (.ireturn, 1) := by decide +kernel
theorem dX2_readWord_49 : decode cX2_readWord 49 = .ok (.aload_n 0, 1) := by decide +kernel
theorem dX2_readWord_50 : decode cX2_readWord 50 = .ok (.ldc 61, 2) := by decide +kernel
theorem dX2_readWord_52 : decode cX2_readWord 52 = .ok (.invokevirtual 57, 3) := by decide +kernel
theorem dX2_readWord_55 : decode cX2_readWord 55 = .ok (.ifCond .eq 5, 3) := by decide +kernel
theorem dX2_readWord_58 : decode cX2_readWord 58 = .ok (.iconst 4, 1) := by decide +kernel
theorem dX2_readWord_59 : decode cX2_readWord 59 = .ok (.ireturn, 1) := by decide +kernel
theorem dX2_readWord_60 : decode cX2_readWord 60 = .ok (.aload_n 0, 1) := by decide +kernel
theorem dX2_readWord_61 : decode cX2_readWord 61 = .ok (.ldc 63, 2) := by decide +kernel
theorem dX2_readWord_63 : decode cX2_readWord 63 = .ok (.invokevirtual 57, 3) := by decide +kernel
theorem dX2_readWord_66 : decode cX2_readWord 66 = .ok (.ifCond .eq 5, 3) := by decide +kernel
theorem dX2_readWord_69 : decode cX2_readWord 69 = .ok (.iconst 5, 1) := by decide +kernel
theorem dX2_readWord_70 : decode cX2_readWord 70 = .ok (.ireturn, 1) := by decide +kernel
theorem dX2_readWord_71 : decode cX2_readWord 71 = .ok (.aload_n 0, 1) := by decide +kernel
theorem dX2_readWord_72 : decode cX2_readWord 72 = .ok (.ldc 65, 2) := by decide +kernel
theorem dX2_readWord_74 : decode cX2_readWord 74 = .ok (.invokevirtual 57, 3) := by decide +kernel
theorem dX2_readWord_77 : decode cX2_readWord 77 = .ok (.ifCond .eq 8, 3) := by decide +kernel
theorem dX2_readWord_80 : decode cX2_readWord 80 = .ok (.bipush 6, 2) := by decide +kernel
theorem dX2_readWord_82 : decode cX2_readWord 82 = .ok (.goto 5, 3) := by decide +kernel
theorem dX2_readWord_85 : decode cX2_readWord 85 = .ok (.bipush 7, 2) := by decide +kernel
theorem dX2_readWord_87 : decode cX2_readWord 87 = .ok (.ireturn, 1) := by decide +kernel
theorem dX2_says_0 : decode cX2_says 0 = .ok (.aload_n 0, 1) := by decide +kernel
theorem dX2_says_1 : decode cX2_says 1 = .ok (.getfield 19, 3) := by decide +kernel
theorem dX2_says_4 : decode cX2_says 4 = .ok (.aload_n 0, 1) := by decide +kernel
theorem dX2_says_5 : decode cX2_says 5 = .ok (.getfield 22, 3) := by decide +kernel
theorem dX2_says_8 : decode cX2_says 8 = .ok (.isub, 1) := by decide +kernel
theorem dX2_says_9 : decode cX2_says 9 = .ok (.aload_n 1, 1) := by decide +kernel
theorem dX2_says_10 : decode cX2_says 10 = .ok (.invokevirtual 67, 3) := by decide +kernel
theorem dX2_says_13 : decode cX2_says 13 = .ok (.if_icmp .eq 5, 3) := by decide +kernel
theorem dX2_says_16 : decode cX2_says 16 = .ok (.iconst 0, 1) := by decide +kernel
theorem dX2_says_17 : decode cX2_says 17 = .ok (.ireturn, 1) := by decide +kernel
theorem dX2_says_18 : decode cX2_says 18 = .ok (.iconst 0, 1) := by decide +kernel
theorem dX2_says_19 : decode cX2_says 19 = .ok (.istore_n 2, 1) := by decide +kernel
theorem dX2_says_20 : decode cX2_says 20 = .ok (.iload_n 2, 1) := by decide +kernel
theorem dX2_says_21 : decode cX2_says 21 = .ok (.aload_n 1, 1) := by decide +kernel
theorem dX2_says_22 : decode cX2_says 22 = .ok (.invokevirtual 67, 3) := by decide +kernel
theorem dX2_says_25 : decode cX2_says 25 = .ok (.if_icmp .ge 29, 3) := by decide +kernel
theorem dX2_says_28 : decode cX2_says 28 = .ok (.aload_n 0, 1) := by decide +kernel
theorem dX2_says_29 : decode cX2_says 29 = .ok (.aload_n 0, 1) := by decide +kernel
theorem dX2_says_30 : decode cX2_says 30 = .ok (.getfield 22, 3) := by decide +kernel
theorem dX2_says_33 : decode cX2_says 33 = .ok (.iload_n 2, 1) := by decide +kernel
theorem dX2_says_34 : decode cX2_says 34 = .ok (.iadd, 1) := by decide +kernel
theorem dX2_says_35 : decode cX2_says 35 = .ok (.invokevirtual 31, 3) := by decide +kernel
theorem dX2_says_38 : decode cX2_says 38 = .ok (.aload_n 1, 1) := by decide +kernel
theorem dX2_says_39 : decode cX2_says 39 = .ok (.iload_n 2, 1) := by decide +kernel
theorem dX2_says_40 : decode cX2_says 40 = .ok (.invokevirtual 71, 3) := by decide +kernel
theorem dX2_says_43 : decode cX2_says 43 = .ok (.if_icmp .eq 5, 3) := by decide +kernel
theorem dX2_says_46 : decode cX2_says 46 = .ok (.iconst 0, 1) := by decide +kernel
theorem dX2_says_47 : decode cX2_says 47 = .ok (.ireturn, 1) := by decide +kernel
theorem dX2_says_48 : decode cX2_says 48 = .ok (.iinc 2 1, 3) := by decide +kernel
theorem dX2_says_51 : decode cX2_says 51 = .ok (.goto (-31), 3) := by decide +kernel
theorem dX2_says_54 : decode cX2_says 54 = .ok (.iconst 1, 1) := by decide +kernel
theorem dX2_says_55 : decode cX2_says 55 = .ok (.ireturn, 1) := by decide +kernel
theorem dX2_isDigit_0 : decode cX2_isDigit 0 = .ok (.iload_n 0, 1) := by decide +kernel
theorem dX2_isDigit_1 : decode cX2_isDigit 1 = .ok (.bipush 48, 2) := by decide +kernel
theorem dX2_isDigit_3 : decode cX2_isDigit 3 = .ok (.if_icmp .lt 13, 3) := by decide +kernel
theorem dX2_isDigit_6 : decode cX2_isDigit 6 = .ok (.iload_n 0, 1) := by decide +kernel
theorem dX2_isDigit_7 : decode cX2_isDigit 7 = .ok (.bipush 57, 2) := by decide +kernel
theorem dX2_isDigit_9 : decode cX2_isDigit 9 = .ok (.if_icmp .gt 7, 3) := by decide +kernel
theorem dX2_isDigit_12 : decode cX2_isDigit 12 = .ok (.iconst 1, 1) := by decide +kernel
theorem dX2_isDigit_13 : decode cX2_isDigit 13 = .ok (.goto 4, 3) := by decide +kernel
theorem dX2_isDigit_16 : decode cX2_isDigit 16 = .ok (.iconst 0, 1) := by decide +kernel
theorem dX2_isDigit_17 : decode cX2_isDigit 17 = .ok (.ireturn, 1) := by decide +kernel
theorem dX2_isLetter_0 : decode cX2_isLetter 0 = .ok (.iload_n 0, 1) := by decide +kernel
theorem dX2_isLetter_1 : decode cX2_isLetter 1 = .ok (.bipush 97, 2) := by decide +kernel
theorem dX2_isLetter_3 : decode cX2_isLetter 3 = .ok (.if_icmp .lt 13, 3) := by decide +kernel
theorem dX2_isLetter_6 : decode cX2_isLetter 6 = .ok (.iload_n 0, 1) := by decide +kernel
theorem dX2_isLetter_7 : decode cX2_isLetter 7 = .ok (.bipush 122, 2) := by decide +kernel
theorem dX2_isLetter_9 : decode cX2_isLetter 9 = .ok (.if_icmp .gt 7, 3) := by decide +kernel
theorem dX2_isLetter_12 : decode cX2_isLetter 12 = .ok (.iconst 1, 1) := by decide +kernel
theorem dX2_isLetter_13 : decode cX2_isLetter 13 = .ok (.goto 4, 3) := by decide +kernel
theorem dX2_isLetter_16 : decode cX2_isLetter 16 = .ok (.iconst 0, 1) := by decide +kernel
theorem dX2_isLetter_17 : decode cX2_isLetter 17 = .ok (.ireturn, 1) := by decide +kernel
theorem dX3_init_0 : decode cX3_init 0 = .ok (.aload_n 0, 1) := by decide +kernel
theorem dX3_init_1 : decode cX3_init 1 = .ok (.invokespecial 3, 3) := by decide +kernel
theorem dX3_init_4 : decode cX3_init 4 = .ok (.aload_n 0, 1) := by decide +kernel
theorem dX3_init_5 : decode cX3_init 5 = .ok (.bipush 13, 2) := by decide +kernel
theorem dX3_init_7 : decode cX3_init 7 = .ok (.newarray .int, 2) := by decide +kernel
theorem dX3_init_9 : decode cX3_init 9 = .ok (.putfield 9, 3) := by decide +kernel
theorem dX3_init_12 : decode cX3_init 12 = .ok (.aload_n 0, 1) := by decide +kernel
theorem dX3_init_13 : decode cX3_init 13 = .ok (.bipush 13, 2) := by decide +kernel
theorem dX3_init_15 : decode cX3_init 15 = .ok (.newarray .int, 2) := by decide +kernel
theorem dX3_init_17 : decode cX3_init 17 = .ok (.putfield 15, 3) := by decide +kernel
theorem dX3_init_20 : decode cX3_init 20 = .ok (.aload_n 0, 1) := by decide +kernel
theorem dX3_init_21 : decode cX3_init 21 = .ok (.bipush 13, 2) := by decide +kernel
theorem dX3_init_23 : decode cX3_init 23 = .ok (.newarray .int, 2) := by decide +kernel
theorem dX3_init_25 : decode cX3_init 25 = .ok (.putfield 18, 3) := by decide +kernel
theorem dX3_init_28 : decode cX3_init 28 = .ok (.aload_n 0, 1) := by decide +kernel
theorem dX3_init_29 : decode cX3_init 29 = .ok (.bipush 13, 2) := by decide +kernel
theorem dX3_init_31 : decode cX3_init 31 = .ok (.newarray .long, 2) := by decide +kernel
theorem dX3_init_33 : decode cX3_init 33 = .ok (.putfield 21, 3) := by decide +kernel
theorem dX3_init_36 : decode cX3_init 36 = .ok (.aload_n 0, 1) := by decide +kernel
theorem dX3_init_37 : decode cX3_init 37 = .ok (.bipush 13, 2) := by decide +kernel
theorem dX3_init_39 : decode cX3_init 39 = .ok (.newarray .long, 2) := by decide +kernel
theorem dX3_init_41 : decode cX3_init 41 = .ok (.putfield 25, 3) := by decide +kernel
theorem dX3_init_44 : decode cX3_init 44 = .ok (.aload_n 0, 1) := by decide +kernel
theorem dX3_init_45 : decode cX3_init 45 = .ok (.bipush 13, 2) := by decide +kernel
theorem dX3_init_47 : decode cX3_init 47 = .ok (.newarray .long, 2) := by decide +kernel
theorem dX3_init_49 : decode cX3_init 49 = .ok (.putfield 28, 3) := by decide +kernel
theorem dX3_init_52 : decode cX3_init 52 = .ok (.aload_n 0, 1) := by decide +kernel
theorem dX3_init_53 : decode cX3_init 53 = .ok (.bipush 13, 2) := by decide +kernel
theorem dX3_init_55 : decode cX3_init 55 = .ok (.newarray .long, 2) := by decide +kernel
theorem dX3_init_57 : decode cX3_init 57 = .ok (.putfield 31, 3) := by decide +kernel
theorem dX3_init_60 : decode cX3_init 60 = .ok (.return_, 1) := by decide +kernel
theorem dX3_forget_0 : decode cX3_forget 0 = .ok (.iconst 0, 1) := by decide +kernel
theorem dX3_forget_1 : decode cX3_forget 1 = .ok (.istore_n 1, 1) := by decide +kernel
theorem dX3_forget_2 : decode cX3_forget 2 = .ok (.iload_n 1, 1) := by decide +kernel
theorem dX3_forget_3 : decode cX3_forget 3 = .ok (.bipush 13, 2) := by decide +kernel
theorem dX3_forget_5 : decode cX3_forget 5 = .ok (.if_icmp .ge 23, 3) := by decide +kernel
theorem dX3_forget_8 : decode cX3_forget 8 = .ok (.aload_n 0, 1) := by decide +kernel
theorem dX3_forget_9 : decode cX3_forget 9 = .ok (.getfield 9, 3) := by decide +kernel
theorem dX3_forget_12 : decode cX3_forget 12 = .ok (.iload_n 1, 1) := by decide +kernel
theorem dX3_forget_13 : decode cX3_forget 13 = .ok (.iconst 0, 1) := by decide +kernel
theorem dX3_forget_14 : decode cX3_forget 14 = .ok (.iastore, 1) := by decide +kernel
theorem dX3_forget_15 : decode cX3_forget 15 = .ok (.aload_n 0, 1) := by decide +kernel
theorem dX3_forget_16 : decode cX3_forget 16 = .ok (.getfield 15, 3) := by decide +kernel
theorem dX3_forget_19 : decode cX3_forget 19 = .ok (.iload_n 1, 1) := by decide +kernel
theorem dX3_forget_20 : decode cX3_forget 20 = .ok (.iconst 0, 1) := by decide +kernel
theorem dX3_forget_21 : decode cX3_forget 21 = .ok (.iastore, 1) := by decide +kernel
theorem dX3_forget_22 : decode cX3_forget 22 = .ok (.iinc 1 1, 3) := by decide +kernel
theorem dX3_forget_25 : decode cX3_forget 25 = .ok (.goto (-23), 3) := by decide +kernel
theorem dX3_forget_28 : decode cX3_forget 28 = .ok (.return_, 1) := by decide +kernel
theorem dX3_setTenths_0 : decode cX3_setTenths 0 = .ok (.iload_n 1, 1) := by decide +kernel
theorem dX3_setTenths_1 : decode cX3_setTenths 1 = .ok (.invokestatic 34, 3) := by decide +kernel
theorem dX3_setTenths_4 : decode cX3_setTenths 4 = .ok (.ifCond .eq 10, 3) := by decide +kernel
theorem dX3_setTenths_7 : decode cX3_setTenths 7 = .ok (.aload_n 0, 1) := by decide +kernel
theorem dX3_setTenths_8 : decode cX3_setTenths 8 = .ok (.getfield 15, 3) := by decide +kernel
theorem dX3_setTenths_11 : decode cX3_setTenths 11 = .ok (.iload_n 1, 1) := by decide +kernel
theorem dX3_setTenths_12 : decode cX3_setTenths 12 = .ok (.iload_n 2, 1) := by decide +kernel
theorem dX3_setTenths_13 : decode cX3_setTenths 13 = .ok (.iastore, 1) := by decide +kernel
theorem dX3_setTenths_14 : decode cX3_setTenths 14 = .ok (.return_, 1) := by decide +kernel
theorem dX3_join_0 : decode cX3_join 0 = .ok (.iload_n 1, 1) := by decide +kernel
theorem dX3_join_1 : decode cX3_join 1 = .ok (.invokestatic 34, 3) := by decide +kernel
theorem dX3_join_4 : decode cX3_join 4 = .ok (.ifCond .eq 22, 3) := by decide +kernel
theorem dX3_join_7 : decode cX3_join 7 = .ok (.iload_n 2, 1) := by decide +kernel
theorem dX3_join_8 : decode cX3_join 8 = .ok (.invokestatic 34, 3) := by decide +kernel
theorem dX3_join_11 : decode cX3_join 11 = .ok (.ifCond .eq 15, 3) := by decide +kernel
theorem dX3_join_14 : decode cX3_join 14 = .ok (.aload_n 0, 1) := by decide +kernel
theorem dX3_join_15 : decode cX3_join 15 = .ok (.getfield 9, 3) := by decide +kernel
theorem dX3_join_18 : decode cX3_join 18 = .ok (.iload_n 1, 1) := by decide +kernel
theorem dX3_join_19 : decode cX3_join 19 = .ok (.dup2, 1) := by decide +kernel
theorem dX3_join_20 : decode cX3_join 20 = .ok (.iaload, 1) := by decide +kernel
theorem dX3_join_21 : decode cX3_join 21 = .ok (.iconst 1, 1) := by decide +kernel
theorem dX3_join_22 : decode cX3_join 22 = .ok (.iload_n 2, 1) := by decide +kernel
theorem dX3_join_23 : decode cX3_join 23 = .ok (.ishl, 1) := by decide +kernel
theorem dX3_join_24 : decode cX3_join 24 = .ok (.ior, 1) := by decide +kernel
theorem dX3_join_25 : decode cX3_join 25 = .ok (.iastore, 1) := by decide +kernel
theorem dX3_join_26 : decode cX3_join 26 = .ok (.return_, 1) := by decide +kernel
theorem dX3_oddsOf_0 : decode cX3_oddsOf 0 = .ok (.iload_n 1, 1) := by decide +kernel
theorem dX3_oddsOf_1 : decode cX3_oddsOf 1 = .ok (.invokestatic 34, 3) := by decide +kernel
theorem dX3_oddsOf_4 : decode cX3_oddsOf 4 = .ok (.ifCond .eq 12, 3) := by decide +kernel
theorem dX3_oddsOf_7 : decode cX3_oddsOf 7 = .ok (.aload_n 0, 1) := by decide +kernel
theorem dX3_oddsOf_8 : decode cX3_oddsOf 8 = .ok (.getfield 21, 3) := by decide +kernel
theorem dX3_oddsOf_11 : decode cX3_oddsOf 11 = .ok (.iload_n 1, 1) := by decide +kernel
theorem dX3_oddsOf_12 : decode cX3_oddsOf 12 = .ok (.laload, 1) := by decide +kernel
theorem dX3_oddsOf_13 : decode cX3_oddsOf 13 = .ok (.goto 4, 3) := by decide +kernel
theorem dX3_oddsOf_16 : decode cX3_oddsOf 16 = .ok (.lconst 0, 1) := by decide +kernel
theorem dX3_oddsOf_17 : decode cX3_oddsOf 17 = .ok (.lreturn, 1) := by decide +kernel
theorem dX3_stepsTo_0 : decode cX3_stepsTo 0 = .ok (.iload_n 1, 1) := by decide +kernel
theorem dX3_stepsTo_1 : decode cX3_stepsTo 1 = .ok (.invokestatic 34, 3) := by decide +kernel
theorem dX3_stepsTo_4 : decode cX3_stepsTo 4 = .ok (.ifCond .eq 12, 3) := by decide +kernel
theorem dX3_stepsTo_7 : decode cX3_stepsTo 7 = .ok (.aload_n 0, 1) := by decide +kernel
theorem dX3_stepsTo_8 : decode cX3_stepsTo 8 = .ok (.getfield 18, 3) := by decide +kernel
theorem dX3_stepsTo_11 : decode cX3_stepsTo 11 = .ok (.iload_n 1, 1) := by decide +kernel
theorem dX3_stepsTo_12 : decode cX3_stepsTo 12 = .ok (.iaload, 1) := by decide +kernel
theorem dX3_stepsTo_13 : decode cX3_stepsTo 13 = .ok (.goto 4, 3) := by decide +kernel
theorem dX3_stepsTo_16 : decode cX3_stepsTo 16 = .ok (.iconst 0, 1) := by decide +kernel
theorem dX3_stepsTo_17 : decode cX3_stepsTo 17 = .ok (.ireturn, 1) := by decide +kernel
theorem dX3_flood_0 : decode cX3_flood 0 = .ok (.iload_n 2, 1) := by decide +kernel
theorem dX3_flood_1 : decode cX3_flood 1 = .ok (.aload_n 0, 1) := by decide +kernel
theorem dX3_flood_2 : decode cX3_flood 2 = .ok (.invokevirtual 38, 3) := by decide +kernel
theorem dX3_flood_5 : decode cX3_flood 5 = .ok (.iand, 1) := by decide +kernel
theorem dX3_flood_6 : decode cX3_flood 6 = .ok (.istore_n 3, 1) := by decide +kernel
theorem dX3_flood_7 : decode cX3_flood 7 = .ok (.iload_n 1, 1) := by decide +kernel
theorem dX3_flood_8 : decode cX3_flood 8 = .ok (.invokestatic 34, 3) := by decide +kernel
theorem dX3_flood_11 : decode cX3_flood 11 = .ok (.ifCond .eq 9, 3) := by decide +kernel
theorem dX3_flood_14 : decode cX3_flood 14 = .ok (.iconst 1, 1) := by decide +kernel
theorem dX3_flood_15 : decode cX3_flood 15 = .ok (.iload_n 1, 1) := by decide +kernel
theorem dX3_flood_16 : decode cX3_flood 16 = .ok (.ishl, 1) := by decide +kernel
theorem dX3_flood_17 : decode cX3_flood 17 = .ok (.goto 4, 3) := by decide +kernel
theorem dX3_flood_20 : decode cX3_flood 20 = .ok (.iconst 0, 1) := by decide +kernel
theorem dX3_flood_21 : decode cX3_flood 21 = .ok (.istore 4, 2) := by decide +kernel
theorem dX3_flood_23 : decode cX3_flood 23 = .ok (.iload 4, 2) := by decide +kernel
theorem dX3_flood_25 : decode cX3_flood 25 = .ok (.istore 5, 2) := by decide +kernel
theorem dX3_flood_27 : decode cX3_flood 27 = .ok (.iconst 0, 1) := by decide +kernel
theorem dX3_flood_28 : decode cX3_flood 28 = .ok (.istore 6, 2) := by decide +kernel
theorem dX3_flood_30 : decode cX3_flood 30 = .ok (.iload 6, 2) := by decide +kernel
theorem dX3_flood_32 : decode cX3_flood 32 = .ok (.bipush 13, 2) := by decide +kernel
theorem dX3_flood_34 : decode cX3_flood 34 = .ok (.if_icmp .ge 72, 3) := by decide +kernel
theorem dX3_flood_37 : decode cX3_flood 37 = .ok (.iload 5, 2) := by decide +kernel
theorem dX3_flood_39 : decode cX3_flood 39 = .ok (.ifCond .eq 67, 3) := by decide +kernel
theorem dX3_flood_42 : decode cX3_flood 42 = .ok (.iload 5, 2) := by decide +kernel
theorem dX3_flood_44 : decode cX3_flood 44 = .ok (.invokestatic 42, 3) := by decide +kernel
theorem dX3_flood_47 : decode cX3_flood 47 = .ok (.istore 7, 2) := by decide +kernel
theorem dX3_flood_49 : decode cX3_flood 49 = .ok (.iload 5, 2) := by decide +kernel
theorem dX3_flood_51 : decode cX3_flood 51 = .ok (.iload 5, 2) := by decide +kernel
theorem dX3_flood_53 : decode cX3_flood 53 = .ok (.iconst 1, 1) := by decide +kernel
theorem dX3_flood_54 : decode cX3_flood 54 = .ok (.isub, 1) := by decide +kernel
theorem dX3_flood_55 : decode cX3_flood 55 = .ok (.iand, 1) := by decide +kernel
theorem dX3_flood_56 : decode cX3_flood 56 = .ok (.istore 5, 2) := by decide +kernel
theorem dX3_flood_58 : decode cX3_flood 58 = .ok (.iload 7, 2) := by decide +kernel
theorem dX3_flood_60 : decode cX3_flood 60 = .ok (.invokestatic 34, 3) := by decide +kernel
theorem dX3_flood_63 : decode cX3_flood 63 = .ok (.ifCond .eq 20, 3) := by decide +kernel
theorem dX3_flood_66 : decode cX3_flood 66 = .ok (.aload_n 0, 1) := by decide +kernel
theorem dX3_flood_67 : decode cX3_flood 67 = .ok (.getfield 9, 3) := by decide +kernel
theorem dX3_flood_70 : decode cX3_flood 70 = .ok (.iload 7, 2) := by decide +kernel
theorem dX3_flood_72 : decode cX3_flood 72 = .ok (.iaload, 1) := by decide +kernel
theorem dX3_flood_73 : decode cX3_flood 73 = .ok (.iload_n 3, 1) := by decide +kernel
theorem dX3_flood_74 : decode cX3_flood 74 = .ok (.iand, 1) := by decide +kernel
theorem dX3_flood_75 : decode cX3_flood 75 = .ok (.iload 4, 2) := by decide +kernel
theorem dX3_flood_77 : decode cX3_flood 77 = .ok (.iconst (-1), 1) := by decide +kernel
theorem dX3_flood_78 : decode cX3_flood 78 = .ok (.ixor, 1) := by decide +kernel
theorem dX3_flood_79 : decode cX3_flood 79 = .ok (.iand, 1) := by decide +kernel
theorem dX3_flood_80 : decode cX3_flood 80 = .ok (.goto 4, 3) := by decide +kernel
theorem dX3_flood_83 : decode cX3_flood 83 = .ok (.iconst 0, 1) := by decide +kernel
theorem dX3_flood_84 : decode cX3_flood 84 = .ok (.istore 8, 2) := by decide +kernel
theorem dX3_flood_86 : decode cX3_flood 86 = .ok (.iload 4, 2) := by decide +kernel
theorem dX3_flood_88 : decode cX3_flood 88 = .ok (.iload 8, 2) := by decide +kernel
theorem dX3_flood_90 : decode cX3_flood 90 = .ok (.ior, 1) := by decide +kernel
theorem dX3_flood_91 : decode cX3_flood 91 = .ok (.istore 4, 2) := by decide +kernel
theorem dX3_flood_93 : decode cX3_flood 93 = .ok (.iload 5, 2) := by decide +kernel
theorem dX3_flood_95 : decode cX3_flood 95 = .ok (.iload 8, 2) := by decide +kernel
theorem dX3_flood_97 : decode cX3_flood 97 = .ok (.ior, 1) := by decide +kernel
theorem dX3_flood_98 : decode cX3_flood 98 = .ok (.istore 5, 2) := by decide +kernel
theorem dX3_flood_100 : decode cX3_flood 100 = .ok (.iinc 6 1, 3) := by decide +kernel
theorem dX3_flood_103 : decode cX3_flood 103 = .ok (.goto (-73), 3) := by decide +kernel
theorem dX3_flood_106 : decode cX3_flood 106 = .ok (.iload 4, 2) := by decide +kernel
theorem dX3_flood_108 : decode cX3_flood 108 = .ok (.ireturn, 1) := by decide +kernel
theorem dX3_firm_0 : decode cX3_firm 0 = .ok (.iconst 0, 1) := by decide +kernel
theorem dX3_firm_1 : decode cX3_firm 1 = .ok (.istore_n 1, 1) := by decide +kernel
theorem dX3_firm_2 : decode cX3_firm 2 = .ok (.iconst 0, 1) := by decide +kernel
theorem dX3_firm_3 : decode cX3_firm 3 = .ok (.istore_n 2, 1) := by decide +kernel
theorem dX3_firm_4 : decode cX3_firm 4 = .ok (.iload_n 2, 1) := by decide +kernel
theorem dX3_firm_5 : decode cX3_firm 5 = .ok (.bipush 13, 2) := by decide +kernel
theorem dX3_firm_7 : decode cX3_firm 7 = .ok (.if_icmp .ge 24, 3) := by decide +kernel
theorem dX3_firm_10 : decode cX3_firm 10 = .ok (.aload_n 0, 1) := by decide +kernel
theorem dX3_firm_11 : decode cX3_firm 11 = .ok (.getfield 15, 3) := by decide +kernel
theorem dX3_firm_14 : decode cX3_firm 14 = .ok (.iload_n 2, 1) := by decide +kernel
theorem dX3_firm_15 : decode cX3_firm 15 = .ok (.iaload, 1) := by decide +kernel
theorem dX3_firm_16 : decode cX3_firm 16 = .ok (.ifCond .le 9, 3) := by decide +kernel
theorem dX3_firm_19 : decode cX3_firm 19 = .ok (.iload_n 1, 1) := by decide +kernel
theorem dX3_firm_20 : decode cX3_firm 20 = .ok (.iconst 1, 1) := by decide +kernel
theorem dX3_firm_21 : decode cX3_firm 21 = .ok (.iload_n 2, 1) := by decide +kernel
theorem dX3_firm_22 : decode cX3_firm 22 = .ok (.ishl, 1) := by decide +kernel
theorem dX3_firm_23 : decode cX3_firm 23 = .ok (.ior, 1) := by decide +kernel
theorem dX3_firm_24 : decode cX3_firm 24 = .ok (.istore_n 1, 1) := by decide +kernel
theorem dX3_firm_25 : decode cX3_firm 25 = .ok (.iinc 2 1, 3) := by decide +kernel
theorem dX3_firm_28 : decode cX3_firm 28 = .ok (.goto (-24), 3) := by decide +kernel
theorem dX3_firm_31 : decode cX3_firm 31 = .ok (.iload_n 1, 1) := by decide +kernel
theorem dX3_firm_32 : decode cX3_firm 32 = .ok (.ireturn, 1) := by decide +kernel
theorem dX3_weigh_0 : decode cX3_weigh 0 = .ok (.iconst 0, 1) := by decide +kernel
theorem dX3_weigh_1 : decode cX3_weigh 1 = .ok (.istore_n 2, 1) := by decide +kernel
theorem dX3_weigh_2 : decode cX3_weigh 2 = .ok (.iload_n 2, 1) := by decide +kernel
theorem dX3_weigh_3 : decode cX3_weigh 3 = .ok (.bipush 13, 2) := by decide +kernel
theorem dX3_weigh_5 : decode cX3_weigh 5 = .ok (.if_icmp .ge 46, 3) := by decide +kernel
theorem dX3_weigh_8 : decode cX3_weigh 8 = .ok (.aload_n 0, 1) := by decide +kernel
theorem dX3_weigh_9 : decode cX3_weigh 9 = .ok (.getfield 28, 3) := by decide +kernel
theorem dX3_weigh_12 : decode cX3_weigh 12 = .ok (.iload_n 2, 1) := by decide +kernel
theorem dX3_weigh_13 : decode cX3_weigh 13 = .ok (.iload_n 2, 1) := by decide +kernel
theorem dX3_weigh_14 : decode cX3_weigh 14 = .ok (.iload_n 1, 1) := by decide +kernel
theorem dX3_weigh_15 : decode cX3_weigh 15 = .ok (.if_icmp .ne 9, 3) := by decide +kernel
theorem dX3_weigh_18 : decode cX3_weigh 18 = .ok (.ldc2_w 48, 3) := by decide +kernel
theorem dX3_weigh_21 : decode cX3_weigh 21 = .ok (.goto 4, 3) := by decide +kernel
theorem dX3_weigh_24 : decode cX3_weigh 24 = .ok (.lconst 0, 1) := by decide +kernel
theorem dX3_weigh_25 : decode cX3_weigh 25 = .ok (.lastore, 1) := by decide +kernel
theorem dX3_weigh_26 : decode cX3_weigh 26 = .ok (.aload_n 0, 1) := by decide +kernel
theorem dX3_weigh_27 : decode cX3_weigh 27 = .ok (.getfield 21, 3) := by decide +kernel
theorem dX3_weigh_30 : decode cX3_weigh 30 = .ok (.iload_n 2, 1) := by decide +kernel
theorem dX3_weigh_31 : decode cX3_weigh 31 = .ok (.aload_n 0, 1) := by decide +kernel
theorem dX3_weigh_32 : decode cX3_weigh 32 = .ok (.getfield 28, 3) := by decide +kernel
theorem dX3_weigh_35 : decode cX3_weigh 35 = .ok (.iload_n 2, 1) := by decide +kernel
theorem dX3_weigh_36 : decode cX3_weigh 36 = .ok (.laload, 1) := by decide +kernel
theorem dX3_weigh_37 : decode cX3_weigh 37 = .ok (.lastore, 1) := by decide +kernel
theorem dX3_weigh_38 : decode cX3_weigh 38 = .ok (.aload_n 0, 1) := by decide +kernel
theorem dX3_weigh_39 : decode cX3_weigh 39 = .ok (.getfield 18, 3) := by decide +kernel
theorem dX3_weigh_42 : decode cX3_weigh 42 = .ok (.iload_n 2, 1) := by decide +kernel
theorem dX3_weigh_43 : decode cX3_weigh 43 = .ok (.iconst 0, 1) := by decide +kernel
theorem dX3_weigh_44 : decode cX3_weigh 44 = .ok (.iastore, 1) := by decide +kernel
theorem dX3_weigh_45 : decode cX3_weigh 45 = .ok (.iinc 2 1, 3) := by decide +kernel
theorem dX3_weigh_48 : decode cX3_weigh 48 = .ok (.goto (-46), 3) := by decide +kernel
theorem dX3_weigh_51 : decode cX3_weigh 51 = .ok (.iconst 1, 1) := by decide +kernel
theorem dX3_weigh_52 : decode cX3_weigh 52 = .ok (.istore_n 2, 1) := by decide +kernel
theorem dX3_weigh_53 : decode cX3_weigh 53 = .ok (.iload_n 2, 1) := by decide +kernel
theorem dX3_weigh_54 : decode cX3_weigh 54 = .ok (.bipush 13, 2) := by decide +kernel
theorem dX3_weigh_56 : decode cX3_weigh 56 = .ok (.if_icmp .ge 87, 3) := by decide +kernel
theorem dX3_weigh_59 : decode cX3_weigh 59 = .ok (.iconst 0, 1) := by decide +kernel
theorem dX3_weigh_60 : decode cX3_weigh 60 = .ok (.istore_n 3, 1) := by decide +kernel
theorem dX3_weigh_61 : decode cX3_weigh 61 = .ok (.iload_n 3, 1) := by decide +kernel
theorem dX3_weigh_62 : decode cX3_weigh 62 = .ok (.bipush 13, 2) := by decide +kernel
theorem dX3_weigh_64 : decode cX3_weigh 64 = .ok (.if_icmp .ge 55, 3) := by decide +kernel
theorem dX3_weigh_67 : decode cX3_weigh 67 = .ok (.aload_n 0, 1) := by decide +kernel
theorem dX3_weigh_68 : decode cX3_weigh 68 = .ok (.getfield 31, 3) := by decide +kernel
theorem dX3_weigh_71 : decode cX3_weigh 71 = .ok (.iload_n 3, 1) := by decide +kernel
theorem dX3_weigh_72 : decode cX3_weigh 72 = .ok (.aload_n 0, 1) := by decide +kernel
theorem dX3_weigh_73 : decode cX3_weigh 73 = .ok (.iload_n 3, 1) := by decide +kernel
theorem dX3_weigh_74 : decode cX3_weigh 74 = .ok (.invokevirtual 50, 3) := by decide +kernel
theorem dX3_weigh_77 : decode cX3_weigh 77 = .ok (.lastore, 1) := by decide +kernel
theorem dX3_weigh_78 : decode cX3_weigh 78 = .ok (.aload_n 0, 1) := by decide +kernel
theorem dX3_weigh_79 : decode cX3_weigh 79 = .ok (.getfield 31, 3) := by decide +kernel
theorem dX3_weigh_82 : decode cX3_weigh 82 = .ok (.iload_n 3, 1) := by decide +kernel
theorem dX3_weigh_83 : decode cX3_weigh 83 = .ok (.laload, 1) := by decide +kernel
theorem dX3_weigh_84 : decode cX3_weigh 84 = .ok (.aload_n 0, 1) := by decide +kernel
theorem dX3_weigh_85 : decode cX3_weigh 85 = .ok (.getfield 21, 3) := by decide +kernel
theorem dX3_weigh_88 : decode cX3_weigh 88 = .ok (.iload_n 3, 1) := by decide +kernel
theorem dX3_weigh_89 : decode cX3_weigh 89 = .ok (.laload, 1) := by decide +kernel
theorem dX3_weigh_90 : decode cX3_weigh 90 = .ok (.lcmp, 1) := by decide +kernel
theorem dX3_weigh_91 : decode cX3_weigh 91 = .ok (.ifCond .le 22, 3) := by decide +kernel
theorem dX3_weigh_94 : decode cX3_weigh 94 = .ok (.aload_n 0, 1) := by decide +kernel
theorem dX3_weigh_95 : decode cX3_weigh 95 = .ok (.getfield 21, 3) := by decide +kernel
theorem dX3_weigh_98 : decode cX3_weigh 98 = .ok (.iload_n 3, 1) := by decide +kernel
theorem dX3_weigh_99 : decode cX3_weigh 99 = .ok (.aload_n 0, 1) := by decide +kernel
theorem dX3_weigh_100 : decode cX3_weigh 100 = .ok (.getfield 31, 3) := by decide +kernel
theorem dX3_weigh_103 : decode cX3_weigh 103 = .ok (.iload_n 3, 1) := by decide +kernel
theorem dX3_weigh_104 : decode cX3_weigh 104 = .ok (.laload, 1) := by decide +kernel
theorem dX3_weigh_105 : decode cX3_weigh 105 = .ok (.lastore, 1) := by decide +kernel
theorem dX3_weigh_106 : decode cX3_weigh 106 = .ok (.aload_n 0, 1) := by decide +kernel
theorem dX3_weigh_107 : decode cX3_weigh 107 = .ok (.getfield 18, 3) := by decide +kernel
theorem dX3_weigh_110 : decode cX3_weigh 110 = .ok (.iload_n 3, 1) := by decide +kernel
theorem dX3_weigh_111 : decode cX3_weigh 111 = .ok (.iload_n 2, 1) := by decide +kernel
theorem dX3_weigh_112 : decode cX3_weigh 112 = .ok (.iastore, 1) := by decide +kernel
theorem dX3_weigh_113 : decode cX3_weigh 113 = .ok (.iinc 3 1, 3) := by decide +kernel
theorem dX3_weigh_116 : decode cX3_weigh 116 = .ok (.goto (-55), 3) := by decide +kernel
theorem dX3_weigh_119 : decode cX3_weigh 119 = .ok (.aload_n 0, 1) := by decide +kernel
theorem dX3_weigh_120 : decode cX3_weigh 120 = .ok (.getfield 28, 3) := by decide +kernel
theorem dX3_weigh_123 : decode cX3_weigh 123 = .ok (.astore_n 3, 1) := by decide +kernel
theorem dX3_weigh_124 : decode cX3_weigh 124 = .ok (.aload_n 0, 1) := by decide +kernel
theorem dX3_weigh_125 : decode cX3_weigh 125 = .ok (.aload_n 0, 1) := by decide +kernel
theorem dX3_weigh_126 : decode cX3_weigh 126 = .ok (.getfield 31, 3) := by decide +kernel
theorem dX3_weigh_129 : decode cX3_weigh 129 = .ok (.putfield 28, 3) := by decide +kernel
theorem dX3_weigh_132 : decode cX3_weigh 132 = .ok (.aload_n 0, 1) := by decide +kernel
theorem dX3_weigh_133 : decode cX3_weigh 133 = .ok (.aload_n 3, 1) := by decide +kernel
theorem dX3_weigh_134 : decode cX3_weigh 134 = .ok (.putfield 31, 3) := by decide +kernel
theorem dX3_weigh_137 : decode cX3_weigh 137 = .ok (.iinc 2 1, 3) := by decide +kernel
theorem dX3_weigh_140 : decode cX3_weigh 140 = .ok (.goto (-87), 3) := by decide +kernel
theorem dX3_weigh_143 : decode cX3_weigh 143 = .ok (.return_, 1) := by decide +kernel
theorem dX3_bestInto_0 : decode cX3_bestInto 0 = .ok (.iload_n 1, 1) := by decide +kernel
theorem dX3_bestInto_1 : decode cX3_bestInto 1 = .ok (.invokestatic 34, 3) := by decide +kernel
theorem dX3_bestInto_4 : decode cX3_bestInto 4 = .ok (.ifCond .ne 5, 3) := by decide +kernel
theorem dX3_bestInto_7 : decode cX3_bestInto 7 = .ok (.lconst 0, 1) := by decide +kernel
theorem dX3_bestInto_8 : decode cX3_bestInto 8 = .ok (.lreturn, 1) := by decide +kernel
theorem dX3_bestInto_9 : decode cX3_bestInto 9 = .ok (.lconst 0, 1) := by decide +kernel
theorem dX3_bestInto_10 : decode cX3_bestInto 10 = .ok (.lstore_n 2, 1) := by decide +kernel
theorem dX3_bestInto_11 : decode cX3_bestInto 11 = .ok (.iconst 0, 1) := by decide +kernel
theorem dX3_bestInto_12 : decode cX3_bestInto 12 = .ok (.istore 4, 2) := by decide +kernel
theorem dX3_bestInto_14 : decode cX3_bestInto 14 = .ok (.iload 4, 2) := by decide +kernel
theorem dX3_bestInto_16 : decode cX3_bestInto 16 = .ok (.bipush 13, 2) := by decide +kernel
theorem dX3_bestInto_18 : decode cX3_bestInto 18 = .ok (.if_icmp .ge 35, 3) := by decide +kernel
theorem dX3_bestInto_21 : decode cX3_bestInto 21 = .ok (.aload_n 0, 1) := by decide +kernel
theorem dX3_bestInto_22 : decode cX3_bestInto 22 = .ok (.getfield 9, 3) := by decide +kernel
theorem dX3_bestInto_25 : decode cX3_bestInto 25 = .ok (.iload 4, 2) := by decide +kernel
theorem dX3_bestInto_27 : decode cX3_bestInto 27 = .ok (.iaload, 1) := by decide +kernel
theorem dX3_bestInto_28 : decode cX3_bestInto 28 = .ok (.iload_n 1, 1) := by decide +kernel
theorem dX3_bestInto_29 : decode cX3_bestInto 29 = .ok (.invokestatic 54, 3) := by decide +kernel
theorem dX3_bestInto_32 : decode cX3_bestInto 32 = .ok (.ifCond .eq 15, 3) := by decide +kernel
theorem dX3_bestInto_35 : decode cX3_bestInto 35 = .ok (.lload_n 2, 1) := by decide +kernel
theorem dX3_bestInto_36 : decode cX3_bestInto 36 = .ok (.aload_n 0, 1) := by decide +kernel
theorem dX3_bestInto_37 : decode cX3_bestInto 37 = .ok (.getfield 28, 3) := by decide +kernel
theorem dX3_bestInto_40 : decode cX3_bestInto 40 = .ok (.iload 4, 2) := by decide +kernel
theorem dX3_bestInto_42 : decode cX3_bestInto 42 = .ok (.laload, 1) := by decide +kernel
theorem dX3_bestInto_43 : decode cX3_bestInto 43 = .ok (.invokestatic 58, 3) := by decide +kernel
theorem dX3_bestInto_46 : decode cX3_bestInto 46 = .ok (.lstore_n 2, 1) := by decide +kernel
theorem dX3_bestInto_47 : decode cX3_bestInto 47 = .ok (.iinc 4 1, 3) := by decide +kernel
theorem dX3_bestInto_50 : decode cX3_bestInto 50 = .ok (.goto (-36), 3) := by decide +kernel
theorem dX3_bestInto_53 : decode cX3_bestInto 53 = .ok (.lload_n 2, 1) := by decide +kernel
theorem dX3_bestInto_54 : decode cX3_bestInto 54 = .ok (.aload_n 0, 1) := by decide +kernel
theorem dX3_bestInto_55 : decode cX3_bestInto 55 = .ok (.getfield 15, 3) := by decide +kernel
theorem dX3_bestInto_58 : decode cX3_bestInto 58 = .ok (.iload_n 1, 1) := by decide +kernel
theorem dX3_bestInto_59 : decode cX3_bestInto 59 = .ok (.iaload, 1) := by decide +kernel
theorem dX3_bestInto_60 : decode cX3_bestInto 60 = .ok (.i2l, 1) := by decide +kernel
theorem dX3_bestInto_61 : decode cX3_bestInto 61 = .ok (.lmul, 1) := by decide +kernel
theorem dX3_bestInto_62 : decode cX3_bestInto 62 = .ok (.ldc2_w 64, 3) := by decide +kernel
theorem dX3_bestInto_65 : decode cX3_bestInto 65 = .ok (.ldiv, 1) := by decide +kernel
theorem dX3_bestInto_66 : decode cX3_bestInto 66 = .ok (.lreturn, 1) := by decide +kernel
theorem dX3_ascents_0 : decode cX3_ascents 0 = .ok (.aload_n 1, 1) := by decide +kernel
theorem dX3_ascents_1 : decode cX3_ascents 1 = .ok (.iload_n 2, 1) := by decide +kernel
theorem dX3_ascents_2 : decode cX3_ascents 2 = .ok (.bipush 12, 2) := by decide +kernel
theorem dX3_ascents_4 : decode cX3_ascents 4 = .ok (.iload_n 3, 1) := by decide +kernel
theorem dX3_ascents_5 : decode cX3_ascents 5 = .ok (.invokestatic 66, 3) := by decide +kernel
theorem dX3_ascents_8 : decode cX3_ascents 8 = .ok (.ifCond .eq 5, 3) := by decide +kernel
theorem dX3_ascents_11 : decode cX3_ascents 11 = .ok (.lconst 0, 1) := by decide +kernel
theorem dX3_ascents_12 : decode cX3_ascents 12 = .ok (.lreturn, 1) := by decide +kernel
theorem dX3_ascents_13 : decode cX3_ascents 13 = .ok (.iconst 0, 1) := by decide +kernel
theorem dX3_ascents_14 : decode cX3_ascents 14 = .ok (.istore 4, 2) := by decide +kernel
theorem dX3_ascents_16 : decode cX3_ascents 16 = .ok (.iload 4, 2) := by decide +kernel
theorem dX3_ascents_18 : decode cX3_ascents 18 = .ok (.bipush 13, 2) := by decide +kernel
theorem dX3_ascents_20 : decode cX3_ascents 20 = .ok (.if_icmp .ge 26, 3) := by decide +kernel
theorem dX3_ascents_23 : decode cX3_ascents 23 = .ok (.aload_n 0, 1) := by decide +kernel
theorem dX3_ascents_24 : decode cX3_ascents 24 = .ok (.getfield 25, 3) := by decide +kernel
theorem dX3_ascents_27 : decode cX3_ascents 27 = .ok (.iload 4, 2) := by decide +kernel
theorem dX3_ascents_29 : decode cX3_ascents 29 = .ok (.iload 4, 2) := by decide +kernel
theorem dX3_ascents_31 : decode cX3_ascents 31 = .ok (.ifCond .ne 7, 3) := by decide +kernel
theorem dX3_ascents_34 : decode cX3_ascents 34 = .ok (.lconst 1, 1) := by decide +kernel
theorem dX3_ascents_35 : decode cX3_ascents 35 = .ok (.goto 4, 3) := by decide +kernel
theorem dX3_ascents_38 : decode cX3_ascents 38 = .ok (.lconst 0, 1) := by decide +kernel
theorem dX3_ascents_39 : decode cX3_ascents 39 = .ok (.lastore, 1) := by decide +kernel
theorem dX3_ascents_40 : decode cX3_ascents 40 = .ok (.iinc 4 1, 3) := by decide +kernel
theorem dX3_ascents_43 : decode cX3_ascents 43 = .ok (.goto (-27), 3) := by decide +kernel
theorem dX3_ascents_46 : decode cX3_ascents 46 = .ok (.aload_n 1, 1) := by decide +kernel
theorem dX3_ascents_47 : decode cX3_ascents 47 = .ok (.getfield 70, 3) := by decide +kernel
theorem dX3_ascents_50 : decode cX3_ascents 50 = .ok (.iconst 1, 1) := by decide +kernel
theorem dX3_ascents_51 : decode cX3_ascents 51 = .ok (.isub, 1) := by decide +kernel
theorem dX3_ascents_52 : decode cX3_ascents 52 = .ok (.istore 4, 2) := by decide +kernel
theorem dX3_ascents_54 : decode cX3_ascents 54 = .ok (.iload 4, 2) := by decide +kernel
theorem dX3_ascents_56 : decode cX3_ascents 56 = .ok (.ifCond .lt 44, 3) := by decide +kernel
theorem dX3_ascents_59 : decode cX3_ascents 59 = .ok (.aload_n 1, 1) := by decide +kernel
theorem dX3_ascents_60 : decode cX3_ascents 60 = .ok (.iload 4, 2) := by decide +kernel
theorem dX3_ascents_62 : decode cX3_ascents 62 = .ok (.invokevirtual 76, 3) := by decide +kernel
theorem dX3_ascents_65 : decode cX3_ascents 65 = .ok (.istore 5, 2) := by decide +kernel
theorem dX3_ascents_67 : decode cX3_ascents 67 = .ok (.iload 5, 2) := by decide +kernel
theorem dX3_ascents_69 : decode cX3_ascents 69 = .ok (.iconst 1, 1) := by decide +kernel
theorem dX3_ascents_70 : decode cX3_ascents 70 = .ok (.iadd, 1) := by decide +kernel
theorem dX3_ascents_71 : decode cX3_ascents 71 = .ok (.invokestatic 34, 3) := by decide +kernel
theorem dX3_ascents_74 : decode cX3_ascents 74 = .ok (.ifCond .eq 20, 3) := by decide +kernel
theorem dX3_ascents_77 : decode cX3_ascents 77 = .ok (.aload_n 0, 1) := by decide +kernel
theorem dX3_ascents_78 : decode cX3_ascents 78 = .ok (.getfield 25, 3) := by decide +kernel
theorem dX3_ascents_81 : decode cX3_ascents 81 = .ok (.iload 5, 2) := by decide +kernel
theorem dX3_ascents_83 : decode cX3_ascents 83 = .ok (.iconst 1, 1) := by decide +kernel
theorem dX3_ascents_84 : decode cX3_ascents 84 = .ok (.iadd, 1) := by decide +kernel
theorem dX3_ascents_85 : decode cX3_ascents 85 = .ok (.aload_n 0, 1) := by decide +kernel
theorem dX3_ascents_86 : decode cX3_ascents 86 = .ok (.aload_n 1, 1) := by decide +kernel
theorem dX3_ascents_87 : decode cX3_ascents 87 = .ok (.iload 5, 2) := by decide +kernel
theorem dX3_ascents_89 : decode cX3_ascents 89 = .ok (.iload_n 3, 1) := by decide +kernel
theorem dX3_ascents_90 : decode cX3_ascents 90 = .ok (.invokevirtual 79, 3) := by decide +kernel
theorem dX3_ascents_93 : decode cX3_ascents 93 = .ok (.lastore, 1) := by decide +kernel
theorem dX3_ascents_94 : decode cX3_ascents 94 = .ok (.iinc 4 (-1), 3) := by decide +kernel
theorem dX3_ascents_97 : decode cX3_ascents 97 = .ok (.goto (-43), 3) := by decide +kernel
theorem dX3_ascents_100 : decode cX3_ascents 100 = .ok (.iload_n 2, 1) := by decide +kernel
theorem dX3_ascents_101 : decode cX3_ascents 101 = .ok (.iconst 1, 1) := by decide +kernel
theorem dX3_ascents_102 : decode cX3_ascents 102 = .ok (.iadd, 1) := by decide +kernel
theorem dX3_ascents_103 : decode cX3_ascents 103 = .ok (.invokestatic 34, 3) := by decide +kernel
theorem dX3_ascents_106 : decode cX3_ascents 106 = .ok (.ifCond .eq 14, 3) := by decide +kernel
theorem dX3_ascents_109 : decode cX3_ascents 109 = .ok (.aload_n 0, 1) := by decide +kernel
theorem dX3_ascents_110 : decode cX3_ascents 110 = .ok (.getfield 25, 3) := by decide +kernel
theorem dX3_ascents_113 : decode cX3_ascents 113 = .ok (.iload_n 2, 1) := by decide +kernel
theorem dX3_ascents_114 : decode cX3_ascents 114 = .ok (.iconst 1, 1) := by decide +kernel
theorem dX3_ascents_115 : decode cX3_ascents 115 = .ok (.iadd, 1) := by decide +kernel
theorem dX3_ascents_116 : decode cX3_ascents 116 = .ok (.laload, 1) := by decide +kernel
theorem dX3_ascents_117 : decode cX3_ascents 117 = .ok (.goto 4, 3) := by decide +kernel
theorem dX3_ascents_120 : decode cX3_ascents 120 = .ok (.lconst 0, 1) := by decide +kernel
theorem dX3_ascents_121 : decode cX3_ascents 121 = .ok (.lreturn, 1) := by decide +kernel
theorem dX3_ascentsInto_0 : decode cX3_ascentsInto 0 = .ok (.lconst 0, 1) := by decide +kernel
theorem dX3_ascentsInto_1 : decode cX3_ascentsInto 1 = .ok (.lstore 4, 2) := by decide +kernel
theorem dX3_ascentsInto_3 : decode cX3_ascentsInto 3 = .ok (.iconst (-1), 1) := by decide +kernel
theorem dX3_ascentsInto_4 : decode cX3_ascentsInto 4 = .ok (.istore 6, 2) := by decide +kernel
theorem dX3_ascentsInto_6 : decode cX3_ascentsInto 6 = .ok (.iload 6, 2) := by decide +kernel
theorem dX3_ascentsInto_8 : decode cX3_ascentsInto 8 = .ok (.aload_n 1, 1) := by decide +kernel
theorem dX3_ascentsInto_9 : decode cX3_ascentsInto 9 = .ok (.getfield 70, 3) := by decide +kernel
theorem dX3_ascentsInto_12 : decode cX3_ascentsInto 12 = .ok (.if_icmp .ge 89, 3) := by decide +kernel
theorem dX3_ascentsInto_15 : decode cX3_ascentsInto 15 = .ok (.iload 6, 2) := by decide +kernel
theorem dX3_ascentsInto_17 : decode cX3_ascentsInto 17 = .ok (.iconst 1, 1) := by decide +kernel
theorem dX3_ascentsInto_18 : decode cX3_ascentsInto 18 = .ok (.iadd, 1) := by decide +kernel
theorem dX3_ascentsInto_19 : decode cX3_ascentsInto 19 = .ok (.bipush 13, 2) := by decide +kernel
theorem dX3_ascentsInto_21 : decode cX3_ascentsInto 21 = .ok (.if_icmp .ge 80, 3) := by decide +kernel
theorem dX3_ascentsInto_24 : decode cX3_ascentsInto 24 = .ok (.aload_n 1, 1) := by decide +kernel
theorem dX3_ascentsInto_25 : decode cX3_ascentsInto 25 = .ok (.iload 6, 2) := by decide +kernel
theorem dX3_ascentsInto_27 : decode cX3_ascentsInto 27 = .ok (.iconst 0, 1) := by decide +kernel
theorem dX3_ascentsInto_28 : decode cX3_ascentsInto 28 = .ok (.invokevirtual 83, 3) := by decide +kernel
theorem dX3_ascentsInto_31 : decode cX3_ascentsInto 31 = .ok (.aload_n 1, 1) := by decide +kernel
theorem dX3_ascentsInto_32 : decode cX3_ascentsInto 32 = .ok (.iload_n 2, 1) := by decide +kernel
theorem dX3_ascentsInto_33 : decode cX3_ascentsInto 33 = .ok (.iconst 0, 1) := by decide +kernel
theorem dX3_ascentsInto_34 : decode cX3_ascentsInto 34 = .ok (.invokevirtual 83, 3) := by decide +kernel
theorem dX3_ascentsInto_37 : decode cX3_ascentsInto 37 = .ok (.if_icmp .ge 7, 3) := by decide +kernel
theorem dX3_ascentsInto_40 : decode cX3_ascentsInto 40 = .ok (.iconst 1, 1) := by decide +kernel
theorem dX3_ascentsInto_41 : decode cX3_ascentsInto 41 = .ok (.goto 4, 3) := by decide +kernel
theorem dX3_ascentsInto_44 : decode cX3_ascentsInto 44 = .ok (.iconst 0, 1) := by decide +kernel
theorem dX3_ascentsInto_45 : decode cX3_ascentsInto 45 = .ok (.istore 7, 2) := by decide +kernel
theorem dX3_ascentsInto_47 : decode cX3_ascentsInto 47 = .ok (.iload 7, 2) := by decide +kernel
theorem dX3_ascentsInto_49 : decode cX3_ascentsInto 49 = .ok (.ifCond .eq 46, 3) := by decide +kernel
theorem dX3_ascentsInto_52 : decode cX3_ascentsInto 52 = .ok (.aload_n 0, 1) := by decide +kernel
theorem dX3_ascentsInto_53 : decode cX3_ascentsInto 53 = .ok (.getfield 9, 3) := by decide +kernel
theorem dX3_ascentsInto_56 : decode cX3_ascentsInto 56 = .ok (.iload 6, 2) := by decide +kernel
theorem dX3_ascentsInto_58 : decode cX3_ascentsInto 58 = .ok (.iconst 1, 1) := by decide +kernel
theorem dX3_ascentsInto_59 : decode cX3_ascentsInto 59 = .ok (.iadd, 1) := by decide +kernel
theorem dX3_ascentsInto_60 : decode cX3_ascentsInto 60 = .ok (.iaload, 1) := by decide +kernel
theorem dX3_ascentsInto_61 : decode cX3_ascentsInto 61 = .ok (.iload_n 2, 1) := by decide +kernel
theorem dX3_ascentsInto_62 : decode cX3_ascentsInto 62 = .ok (.iconst 1, 1) := by decide +kernel
theorem dX3_ascentsInto_63 : decode cX3_ascentsInto 63 = .ok (.iadd, 1) := by decide +kernel
theorem dX3_ascentsInto_64 : decode cX3_ascentsInto 64 = .ok (.invokestatic 54, 3) := by decide +kernel
theorem dX3_ascentsInto_67 : decode cX3_ascentsInto 67 = .ok (.ifCond .eq 28, 3) := by decide +kernel
theorem dX3_ascentsInto_70 : decode cX3_ascentsInto 70 = .ok (.aload_n 1, 1) := by decide +kernel
theorem dX3_ascentsInto_71 : decode cX3_ascentsInto 71 = .ok (.iload 6, 2) := by decide +kernel
theorem dX3_ascentsInto_73 : decode cX3_ascentsInto 73 = .ok (.iload_n 2, 1) := by decide +kernel
theorem dX3_ascentsInto_74 : decode cX3_ascentsInto 74 = .ok (.iload_n 3, 1) := by decide +kernel
theorem dX3_ascentsInto_75 : decode cX3_ascentsInto 75 = .ok (.invokestatic 66, 3) := by decide +kernel
theorem dX3_ascentsInto_78 : decode cX3_ascentsInto 78 = .ok (.ifCond .ne 17, 3) := by decide +kernel
theorem dX3_ascentsInto_81 : decode cX3_ascentsInto 81 = .ok (.lload 4, 2) := by decide +kernel
theorem dX3_ascentsInto_83 : decode cX3_ascentsInto 83 = .ok (.aload_n 0, 1) := by decide +kernel
theorem dX3_ascentsInto_84 : decode cX3_ascentsInto 84 = .ok (.getfield 25, 3) := by decide +kernel
theorem dX3_ascentsInto_87 : decode cX3_ascentsInto 87 = .ok (.iload 6, 2) := by decide +kernel
theorem dX3_ascentsInto_89 : decode cX3_ascentsInto 89 = .ok (.iconst 1, 1) := by decide +kernel
theorem dX3_ascentsInto_90 : decode cX3_ascentsInto 90 = .ok (.iadd, 1) := by decide +kernel
theorem dX3_ascentsInto_91 : decode cX3_ascentsInto 91 = .ok (.laload, 1) := by decide +kernel
theorem dX3_ascentsInto_92 : decode cX3_ascentsInto 92 = .ok (.ladd, 1) := by decide +kernel
theorem dX3_ascentsInto_93 : decode cX3_ascentsInto 93 = .ok (.lstore 4, 2) := by decide +kernel
theorem dX3_ascentsInto_95 : decode cX3_ascentsInto 95 = .ok (.iinc 6 1, 3) := by decide +kernel
theorem dX3_ascentsInto_98 : decode cX3_ascentsInto 98 = .ok (.goto (-92), 3) := by decide +kernel
theorem dX3_ascentsInto_101 : decode cX3_ascentsInto 101 = .ok (.lload 4, 2) := by decide +kernel
theorem dX3_ascentsInto_103 : decode cX3_ascentsInto 103 = .ok (.lreturn, 1) := by decide +kernel
theorem dX3_skips_0 : decode cX3_skips 0 = .ok (.aload_n 0, 1) := by decide +kernel
theorem dX3_skips_1 : decode cX3_skips 1 = .ok (.iload_n 1, 1) := by decide +kernel
theorem dX3_skips_2 : decode cX3_skips 2 = .ok (.iconst 0, 1) := by decide +kernel
theorem dX3_skips_3 : decode cX3_skips 3 = .ok (.invokevirtual 83, 3) := by decide +kernel
theorem dX3_skips_6 : decode cX3_skips 6 = .ok (.istore 4, 2) := by decide +kernel
theorem dX3_skips_8 : decode cX3_skips 8 = .ok (.iload_n 2, 1) := by decide +kernel
theorem dX3_skips_9 : decode cX3_skips 9 = .ok (.bipush 12, 2) := by decide +kernel
theorem dX3_skips_11 : decode cX3_skips 11 = .ok (.if_icmp .ne 8, 3) := by decide +kernel
theorem dX3_skips_14 : decode cX3_skips 14 = .ok (.bipush 99, 2) := by decide +kernel
theorem dX3_skips_16 : decode cX3_skips 16 = .ok (.goto 9, 3) := by decide +kernel
theorem dX3_skips_19 : decode cX3_skips 19 = .ok (.aload_n 0, 1) := by decide +kernel
theorem dX3_skips_20 : decode cX3_skips 20 = .ok (.iload_n 2, 1) := by decide +kernel
theorem dX3_skips_21 : decode cX3_skips 21 = .ok (.iconst 0, 1) := by decide +kernel
theorem dX3_skips_22 : decode cX3_skips 22 = .ok (.invokevirtual 83, 3) := by decide +kernel
theorem dX3_skips_25 : decode cX3_skips 25 = .ok (.istore 5, 2) := by decide +kernel
theorem dX3_skips_27 : decode cX3_skips 27 = .ok (.iconst 0, 1) := by decide +kernel
theorem dX3_skips_28 : decode cX3_skips 28 = .ok (.istore 6, 2) := by decide +kernel
theorem dX3_skips_30 : decode cX3_skips 30 = .ok (.iload 6, 2) := by decide +kernel
theorem dX3_skips_32 : decode cX3_skips 32 = .ok (.aload_n 0, 1) := by decide +kernel
theorem dX3_skips_33 : decode cX3_skips 33 = .ok (.getfield 70, 3) := by decide +kernel
theorem dX3_skips_36 : decode cX3_skips 36 = .ok (.if_icmp .ge 55, 3) := by decide +kernel
theorem dX3_skips_39 : decode cX3_skips 39 = .ok (.aload_n 0, 1) := by decide +kernel
theorem dX3_skips_40 : decode cX3_skips 40 = .ok (.iload 6, 2) := by decide +kernel
theorem dX3_skips_42 : decode cX3_skips 42 = .ok (.iconst 0, 1) := by decide +kernel
theorem dX3_skips_43 : decode cX3_skips 43 = .ok (.invokevirtual 83, 3) := by decide +kernel
theorem dX3_skips_46 : decode cX3_skips 46 = .ok (.istore 7, 2) := by decide +kernel
theorem dX3_skips_48 : decode cX3_skips 48 = .ok (.iload_n 3, 1) := by decide +kernel
theorem dX3_skips_49 : decode cX3_skips 49 = .ok (.iload 6, 2) := by decide +kernel
theorem dX3_skips_51 : decode cX3_skips 51 = .ok (.invokestatic 54, 3) := by decide +kernel
theorem dX3_skips_54 : decode cX3_skips 54 = .ok (.ifCond .eq 31, 3) := by decide +kernel
theorem dX3_skips_57 : decode cX3_skips 57 = .ok (.iload 6, 2) := by decide +kernel
theorem dX3_skips_59 : decode cX3_skips 59 = .ok (.iload_n 1, 1) := by decide +kernel
theorem dX3_skips_60 : decode cX3_skips 60 = .ok (.if_icmp .eq 25, 3) := by decide +kernel
theorem dX3_skips_63 : decode cX3_skips 63 = .ok (.iload 6, 2) := by decide +kernel
theorem dX3_skips_65 : decode cX3_skips 65 = .ok (.iload_n 2, 1) := by decide +kernel
theorem dX3_skips_66 : decode cX3_skips 66 = .ok (.if_icmp .eq 19, 3) := by decide +kernel
theorem dX3_skips_69 : decode cX3_skips 69 = .ok (.iload 7, 2) := by decide +kernel
theorem dX3_skips_71 : decode cX3_skips 71 = .ok (.iload 4, 2) := by decide +kernel
theorem dX3_skips_73 : decode cX3_skips 73 = .ok (.if_icmp .lt 12, 3) := by decide +kernel
theorem dX3_skips_76 : decode cX3_skips 76 = .ok (.iload 7, 2) := by decide +kernel
theorem dX3_skips_78 : decode cX3_skips 78 = .ok (.iload 5, 2) := by decide +kernel
theorem dX3_skips_80 : decode cX3_skips 80 = .ok (.if_icmp .gt 5, 3) := by decide +kernel
theorem dX3_skips_83 : decode cX3_skips 83 = .ok (.iconst 1, 1) := by decide +kernel
theorem dX3_skips_84 : decode cX3_skips 84 = .ok (.ireturn, 1) := by decide +kernel
theorem dX3_skips_85 : decode cX3_skips 85 = .ok (.iinc 6 1, 3) := by decide +kernel
theorem dX3_skips_88 : decode cX3_skips 88 = .ok (.goto (-58), 3) := by decide +kernel
theorem dX3_skips_91 : decode cX3_skips 91 = .ok (.iconst 0, 1) := by decide +kernel
theorem dX3_skips_92 : decode cX3_skips 92 = .ok (.ireturn, 1) := by decide +kernel
theorem dX3_isIn_0 : decode cX3_isIn 0 = .ok (.iload_n 0, 1) := by decide +kernel
theorem dX3_isIn_1 : decode cX3_isIn 1 = .ok (.ifCond .lt 13, 3) := by decide +kernel
theorem dX3_isIn_4 : decode cX3_isIn 4 = .ok (.iload_n 0, 1) := by decide +kernel
theorem dX3_isIn_5 : decode cX3_isIn 5 = .ok (.bipush 13, 2) := by decide +kernel
theorem dX3_isIn_7 : decode cX3_isIn 7 = .ok (.if_icmp .ge 7, 3) := by decide +kernel
theorem dX3_isIn_10 : decode cX3_isIn 10 = .ok (.iconst 1, 1) := by decide +kernel
theorem dX3_isIn_11 : decode cX3_isIn 11 = .ok (.goto 4, 3) := by decide +kernel
theorem dX3_isIn_14 : decode cX3_isIn 14 = .ok (.iconst 0, 1) := by decide +kernel
theorem dX3_isIn_15 : decode cX3_isIn 15 = .ok (.ireturn, 1) := by decide +kernel
theorem dX4_init_0 : decode cX4_init 0 = .ok (.aload_n 0, 1) := by decide +kernel
theorem dX4_init_1 : decode cX4_init 1 = .ok (.invokespecial 3, 3) := by decide +kernel
theorem dX4_init_4 : decode cX4_init 4 = .ok (.aload_n 0, 1) := by decide +kernel
theorem dX4_init_5 : decode cX4_init 5 = .ok (.iconst 0, 1) := by decide +kernel
theorem dX4_init_6 : decode cX4_init 6 = .ok (.putfield 9, 3) := by decide +kernel
theorem dX4_init_9 : decode cX4_init 9 = .ok (.aload_n 0, 1) := by decide +kernel
theorem dX4_init_10 : decode cX4_init 10 = .ok (.iconst 0, 1) := by decide +kernel
theorem dX4_init_11 : decode cX4_init 11 = .ok (.putfield 15, 3) := by decide +kernel
theorem dX4_init_14 : decode cX4_init 14 = .ok (.aload_n 0, 1) := by decide +kernel
theorem dX4_init_15 : decode cX4_init 15 = .ok (.bipush 6, 2) := by decide +kernel
theorem dX4_init_17 : decode cX4_init 17 = .ok (.bipush 12, 2) := by decide +kernel
theorem dX4_init_19 : decode cX4_init 19 = .ok (.multianewarray 18 2, 4) := by decide +kernel
theorem dX4_init_23 : decode cX4_init 23 = .ok (.putfield 20, 3) := by decide +kernel
theorem dX4_init_26 : decode cX4_init 26 = .ok (.aload_n 0, 1) := by decide +kernel
theorem dX4_init_27 : decode cX4_init 27 = .ok (.iconst 3, 1) := by decide +kernel
theorem dX4_init_28 : decode cX4_init 28 = .ok (.iconst 3, 1) := by decide +kernel
theorem dX4_init_29 : decode cX4_init 29 = .ok (.multianewarray 18 2, 4) := by decide +kernel
theorem dX4_init_33 : decode cX4_init 33 = .ok (.putfield 23, 3) := by decide +kernel
theorem dX4_init_36 : decode cX4_init 36 = .ok (.aload_n 0, 1) := by decide +kernel
theorem dX4_init_37 : decode cX4_init 37 = .ok (.bipush 12, 2) := by decide +kernel
theorem dX4_init_39 : decode cX4_init 39 = .ok (.newarray .int, 2) := by decide +kernel
theorem dX4_init_41 : decode cX4_init 41 = .ok (.putfield 26, 3) := by decide +kernel
theorem dX4_init_44 : decode cX4_init 44 = .ok (.aload_n 0, 1) := by decide +kernel
theorem dX4_init_45 : decode cX4_init 45 = .ok (.bipush 12, 2) := by decide +kernel
theorem dX4_init_47 : decode cX4_init 47 = .ok (.newarray .int, 2) := by decide +kernel
theorem dX4_init_49 : decode cX4_init 49 = .ok (.putfield 30, 3) := by decide +kernel
theorem dX4_init_52 : decode cX4_init 52 = .ok (.return_, 1) := by decide +kernel
theorem dX4_empty_0 : decode cX4_empty 0 = .ok (.aload_n 0, 1) := by decide +kernel
theorem dX4_empty_1 : decode cX4_empty 1 = .ok (.iconst 0, 1) := by decide +kernel
theorem dX4_empty_2 : decode cX4_empty 2 = .ok (.putfield 9, 3) := by decide +kernel
theorem dX4_empty_5 : decode cX4_empty 5 = .ok (.aload_n 0, 1) := by decide +kernel
theorem dX4_empty_6 : decode cX4_empty 6 = .ok (.iconst 0, 1) := by decide +kernel
theorem dX4_empty_7 : decode cX4_empty 7 = .ok (.putfield 15, 3) := by decide +kernel
theorem dX4_empty_10 : decode cX4_empty 10 = .ok (.return_, 1) := by decide +kernel
theorem dX4_feature_0 : decode cX4_feature 0 = .ok (.iload_n 1, 1) := by decide +kernel
theorem dX4_feature_1 : decode cX4_feature 1 = .ok (.ifCond .lt 30, 3) := by decide +kernel
theorem dX4_feature_4 : decode cX4_feature 4 = .ok (.iload_n 1, 1) := by decide +kernel
theorem dX4_feature_5 : decode cX4_feature 5 = .ok (.bipush 12, 2) := by decide +kernel
theorem dX4_feature_7 : decode cX4_feature 7 = .ok (.if_icmp .ge 24, 3) := by decide +kernel
theorem dX4_feature_10 : decode cX4_feature 10 = .ok (.iload_n 2, 1) := by decide +kernel
theorem dX4_feature_11 : decode cX4_feature 11 = .ok (.ifCond .lt 20, 3) := by decide +kernel
theorem dX4_feature_14 : decode cX4_feature 14 = .ok (.iload_n 2, 1) := by decide +kernel
theorem dX4_feature_15 : decode cX4_feature 15 = .ok (.bipush 6, 2) := by decide +kernel
theorem dX4_feature_17 : decode cX4_feature 17 = .ok (.if_icmp .ge 14, 3) := by decide +kernel
theorem dX4_feature_20 : decode cX4_feature 20 = .ok (.aload_n 0, 1) := by decide +kernel
theorem dX4_feature_21 : decode cX4_feature 21 = .ok (.getfield 20, 3) := by decide +kernel
theorem dX4_feature_24 : decode cX4_feature 24 = .ok (.iload_n 2, 1) := by decide +kernel
theorem dX4_feature_25 : decode cX4_feature 25 = .ok (.aaload, 1) := by decide +kernel
theorem dX4_feature_26 : decode cX4_feature 26 = .ok (.iload_n 1, 1) := by decide +kernel
theorem dX4_feature_27 : decode cX4_feature 27 = .ok (.iaload, 1) := by decide +kernel
theorem dX4_feature_28 : decode cX4_feature 28 = .ok (.goto 4, 3) := by decide +kernel
theorem dX4_feature_31 : decode cX4_feature 31 = .ok (.iconst 0, 1) := by decide +kernel
theorem dX4_feature_32 : decode cX4_feature 32 = .ok (.ireturn, 1) := by decide +kernel
theorem dX4_setFeature_0 : decode cX4_setFeature 0 = .ok (.iload_n 1, 1) := by decide +kernel
theorem dX4_setFeature_1 : decode cX4_setFeature 1 = .ok (.ifCond .lt 28, 3) := by decide +kernel
theorem dX4_setFeature_4 : decode cX4_setFeature 4 = .ok (.iload_n 1, 1) := by decide +kernel
theorem dX4_setFeature_5 : decode cX4_setFeature 5 = .ok (.bipush 12, 2) := by decide +kernel
theorem dX4_setFeature_7 : decode cX4_setFeature 7 = .ok (.if_icmp .ge 22, 3) := by decide +kernel
theorem dX4_setFeature_10 : decode cX4_setFeature 10 = .ok (.iload_n 2, 1) := by decide +kernel
theorem dX4_setFeature_11 : decode cX4_setFeature 11 = .ok (.ifCond .lt 18, 3) := by decide +kernel
theorem dX4_setFeature_14 : decode cX4_setFeature 14 = .ok (.iload_n 2, 1) := by decide +kernel
theorem dX4_setFeature_15 : decode cX4_setFeature 15 = .ok (.bipush 6, 2) := by decide +kernel
theorem dX4_setFeature_17 : decode cX4_setFeature 17 = .ok (.if_icmp .ge 12, 3) := by decide +kernel
theorem dX4_setFeature_20 : decode cX4_setFeature 20 = .ok (.aload_n 0, 1) := by decide +kernel
theorem dX4_setFeature_21 : decode cX4_setFeature 21 = .ok (.getfield 20, 3) := by decide +kernel
theorem dX4_setFeature_24 : decode cX4_setFeature 24 = .ok (.iload_n 2, 1) := by decide +kernel
theorem dX4_setFeature_25 : decode cX4_setFeature 25 = .ok (.aaload, 1) := by decide +kernel
theorem dX4_setFeature_26 : decode cX4_setFeature 26 = .ok (.iload_n 1, 1) := by decide +kernel
theorem dX4_setFeature_27 : decode cX4_setFeature 27 = .ok (.iload_n 3, 1) := by decide +kernel
theorem dX4_setFeature_28 : decode cX4_setFeature 28 = .ok (.iastore, 1) := by decide +kernel
theorem dX4_setFeature_29 : decode cX4_setFeature 29 = .ok (.return_, 1) := by decide +kernel
theorem dX4_power_0 : decode cX4_power 0 = .ok (.iload_n 1, 1) := by decide +kernel
theorem dX4_power_1 : decode cX4_power 1 = .ok (.ifCond .lt 28, 3) := by decide +kernel
theorem dX4_power_4 : decode cX4_power 4 = .ok (.iload_n 1, 1) := by decide +kernel
theorem dX4_power_5 : decode cX4_power 5 = .ok (.iconst 3, 1) := by decide +kernel
theorem dX4_power_6 : decode cX4_power 6 = .ok (.if_icmp .ge 23, 3) := by decide +kernel
theorem dX4_power_9 : decode cX4_power 9 = .ok (.iload_n 2, 1) := by decide +kernel
theorem dX4_power_10 : decode cX4_power 10 = .ok (.ifCond .lt 19, 3) := by decide +kernel
theorem dX4_power_13 : decode cX4_power 13 = .ok (.iload_n 2, 1) := by decide +kernel
theorem dX4_power_14 : decode cX4_power 14 = .ok (.iconst 3, 1) := by decide +kernel
theorem dX4_power_15 : decode cX4_power 15 = .ok (.if_icmp .ge 14, 3) := by decide +kernel
theorem dX4_power_18 : decode cX4_power 18 = .ok (.aload_n 0, 1) := by decide +kernel
theorem dX4_power_19 : decode cX4_power 19 = .ok (.getfield 23, 3) := by decide +kernel
theorem dX4_power_22 : decode cX4_power 22 = .ok (.iload_n 2, 1) := by decide +kernel
theorem dX4_power_23 : decode cX4_power 23 = .ok (.aaload, 1) := by decide +kernel
theorem dX4_power_24 : decode cX4_power 24 = .ok (.iload_n 1, 1) := by decide +kernel
theorem dX4_power_25 : decode cX4_power 25 = .ok (.iaload, 1) := by decide +kernel
theorem dX4_power_26 : decode cX4_power 26 = .ok (.goto 4, 3) := by decide +kernel
theorem dX4_power_29 : decode cX4_power 29 = .ok (.iconst 0, 1) := by decide +kernel
theorem dX4_power_30 : decode cX4_power 30 = .ok (.ireturn, 1) := by decide +kernel
theorem dX4_setPower_0 : decode cX4_setPower 0 = .ok (.iload_n 1, 1) := by decide +kernel
theorem dX4_setPower_1 : decode cX4_setPower 1 = .ok (.ifCond .lt 26, 3) := by decide +kernel
theorem dX4_setPower_4 : decode cX4_setPower 4 = .ok (.iload_n 1, 1) := by decide +kernel
theorem dX4_setPower_5 : decode cX4_setPower 5 = .ok (.iconst 3, 1) := by decide +kernel
theorem dX4_setPower_6 : decode cX4_setPower 6 = .ok (.if_icmp .ge 21, 3) := by decide +kernel
theorem dX4_setPower_9 : decode cX4_setPower 9 = .ok (.iload_n 2, 1) := by decide +kernel
theorem dX4_setPower_10 : decode cX4_setPower 10 = .ok (.ifCond .lt 17, 3) := by decide +kernel
theorem dX4_setPower_13 : decode cX4_setPower 13 = .ok (.iload_n 2, 1) := by decide +kernel
theorem dX4_setPower_14 : decode cX4_setPower 14 = .ok (.iconst 3, 1) := by decide +kernel
theorem dX4_setPower_15 : decode cX4_setPower 15 = .ok (.if_icmp .ge 12, 3) := by decide +kernel
theorem dX4_setPower_18 : decode cX4_setPower 18 = .ok (.aload_n 0, 1) := by decide +kernel
theorem dX4_setPower_19 : decode cX4_setPower 19 = .ok (.getfield 23, 3) := by decide +kernel
theorem dX4_setPower_22 : decode cX4_setPower 22 = .ok (.iload_n 2, 1) := by decide +kernel
theorem dX4_setPower_23 : decode cX4_setPower 23 = .ok (.aaload, 1) := by decide +kernel
theorem dX4_setPower_24 : decode cX4_setPower 24 = .ok (.iload_n 1, 1) := by decide +kernel
theorem dX4_setPower_25 : decode cX4_setPower 25 = .ok (.iload_n 3, 1) := by decide +kernel
theorem dX4_setPower_26 : decode cX4_setPower 26 = .ok (.iastore, 1) := by decide +kernel
theorem dX4_setPower_27 : decode cX4_setPower 27 = .ok (.return_, 1) := by decide +kernel
theorem dX4_all_0 : decode cX4_all 0 = .ok (.iconst 1, 1) := by decide +kernel
theorem dX4_all_1 : decode cX4_all 1 = .ok (.aload_n 0, 1) := by decide +kernel
theorem dX4_all_2 : decode cX4_all 2 = .ok (.getfield 9, 3) := by decide +kernel
theorem dX4_all_5 : decode cX4_all 5 = .ok (.ishl, 1) := by decide +kernel
theorem dX4_all_6 : decode cX4_all 6 = .ok (.iconst 1, 1) := by decide +kernel
theorem dX4_all_7 : decode cX4_all 7 = .ok (.isub, 1) := by decide +kernel
theorem dX4_all_8 : decode cX4_all 8 = .ok (.ireturn, 1) := by decide +kernel
theorem dX4_sidesApart_0 : decode cX4_sidesApart 0 = .ok (.aload_n 0, 1) := by decide +kernel
theorem dX4_sidesApart_1 : decode cX4_sidesApart 1 = .ok (.iload_n 1, 1) := by decide +kernel
theorem dX4_sidesApart_2 : decode cX4_sidesApart 2 = .ok (.iconst 1, 1) := by decide +kernel
theorem dX4_sidesApart_3 : decode cX4_sidesApart 3 = .ok (.invokevirtual 33, 3) := by decide +kernel
theorem dX4_sidesApart_6 : decode cX4_sidesApart 6 = .ok (.aload_n 0, 1) := by decide +kernel
theorem dX4_sidesApart_7 : decode cX4_sidesApart 7 = .ok (.iload_n 2, 1) := by decide +kernel
theorem dX4_sidesApart_8 : decode cX4_sidesApart 8 = .ok (.iconst 1, 1) := by decide +kernel
theorem dX4_sidesApart_9 : decode cX4_sidesApart 9 = .ok (.invokevirtual 33, 3) := by decide +kernel
theorem dX4_sidesApart_12 : decode cX4_sidesApart 12 = .ok (.isub, 1) := by decide +kernel
theorem dX4_sidesApart_13 : decode cX4_sidesApart 13 = .ok (.invokestatic 37, 3) := by decide +kernel
theorem dX4_sidesApart_16 : decode cX4_sidesApart 16 = .ok (.istore_n 3, 1) := by decide +kernel
theorem dX4_sidesApart_17 : decode cX4_sidesApart 17 = .ok (.iload_n 3, 1) := by decide +kernel
theorem dX4_sidesApart_18 : decode cX4_sidesApart 18 = .ok (.bipush 8, 2) := by decide +kernel
theorem dX4_sidesApart_20 : decode cX4_sidesApart 20 = .ok (.iload_n 3, 1) := by decide +kernel
theorem dX4_sidesApart_21 : decode cX4_sidesApart 21 = .ok (.isub, 1) := by decide +kernel
theorem dX4_sidesApart_22 : decode cX4_sidesApart 22 = .ok (.invokestatic 43, 3) := by decide +kernel
theorem dX4_sidesApart_25 : decode cX4_sidesApart 25 = .ok (.ireturn, 1) := by decide +kernel
theorem dX4_downward_0 : decode cX4_downward 0 = .ok (.iload_n 1, 1) := by decide +kernel
theorem dX4_downward_1 : decode cX4_downward 1 = .ok (.ifCond .lt 21, 3) := by decide +kernel
theorem dX4_downward_4 : decode cX4_downward 4 = .ok (.iload_n 1, 1) := by decide +kernel
theorem dX4_downward_5 : decode cX4_downward 5 = .ok (.aload_n 0, 1) := by decide +kernel
theorem dX4_downward_6 : decode cX4_downward 6 = .ok (.getfield 26, 3) := by decide +kernel
theorem dX4_downward_9 : decode cX4_downward 9 = .ok (.arraylength, 1) := by decide +kernel
theorem dX4_downward_10 : decode cX4_downward 10 = .ok (.if_icmp .ge 12, 3) := by decide +kernel
theorem dX4_downward_13 : decode cX4_downward 13 = .ok (.aload_n 0, 1) := by decide +kernel
theorem dX4_downward_14 : decode cX4_downward 14 = .ok (.getfield 26, 3) := by decide +kernel
theorem dX4_downward_17 : decode cX4_downward 17 = .ok (.iload_n 1, 1) := by decide +kernel
theorem dX4_downward_18 : decode cX4_downward 18 = .ok (.iaload, 1) := by decide +kernel
theorem dX4_downward_19 : decode cX4_downward 19 = .ok (.goto 4, 3) := by decide +kernel
theorem dX4_downward_22 : decode cX4_downward 22 = .ok (.iconst 0, 1) := by decide +kernel
theorem dX4_downward_23 : decode cX4_downward 23 = .ok (.ireturn, 1) := by decide +kernel
theorem dX4_below_0 : decode cX4_below 0 = .ok (.iload_n 1, 1) := by decide +kernel
theorem dX4_below_1 : decode cX4_below 1 = .ok (.ifCond .lt 21, 3) := by decide +kernel
theorem dX4_below_4 : decode cX4_below 4 = .ok (.iload_n 1, 1) := by decide +kernel
theorem dX4_below_5 : decode cX4_below 5 = .ok (.aload_n 0, 1) := by decide +kernel
theorem dX4_below_6 : decode cX4_below 6 = .ok (.getfield 30, 3) := by decide +kernel
theorem dX4_below_9 : decode cX4_below 9 = .ok (.arraylength, 1) := by decide +kernel
theorem dX4_below_10 : decode cX4_below 10 = .ok (.if_icmp .ge 12, 3) := by decide +kernel
theorem dX4_below_13 : decode cX4_below 13 = .ok (.aload_n 0, 1) := by decide +kernel
theorem dX4_below_14 : decode cX4_below 14 = .ok (.getfield 30, 3) := by decide +kernel
theorem dX4_below_17 : decode cX4_below 17 = .ok (.iload_n 1, 1) := by decide +kernel
theorem dX4_below_18 : decode cX4_below 18 = .ok (.iaload, 1) := by decide +kernel
theorem dX4_below_19 : decode cX4_below 19 = .ok (.goto 4, 3) := by decide +kernel
theorem dX4_below_22 : decode cX4_below 22 = .ok (.iconst 0, 1) := by decide +kernel
theorem dX4_below_23 : decode cX4_below 23 = .ok (.ireturn, 1) := by decide +kernel
theorem dX4_order_0 : decode cX4_order 0 = .ok (.iconst 0, 1) := by decide +kernel
theorem dX4_order_1 : decode cX4_order 1 = .ok (.istore_n 1, 1) := by decide +kernel
theorem dX4_order_2 : decode cX4_order 2 = .ok (.iload_n 1, 1) := by decide +kernel
theorem dX4_order_3 : decode cX4_order 3 = .ok (.aload_n 0, 1) := by decide +kernel
theorem dX4_order_4 : decode cX4_order 4 = .ok (.getfield 9, 3) := by decide +kernel
theorem dX4_order_7 : decode cX4_order 7 = .ok (.if_icmp .ge 81, 3) := by decide +kernel
theorem dX4_order_10 : decode cX4_order 10 = .ok (.iload_n 1, 1) := by decide +kernel
theorem dX4_order_11 : decode cX4_order 11 = .ok (.bipush 12, 2) := by decide +kernel
theorem dX4_order_13 : decode cX4_order 13 = .ok (.if_icmp .ge 75, 3) := by decide +kernel
theorem dX4_order_16 : decode cX4_order 16 = .ok (.iload_n 1, 1) := by decide +kernel
theorem dX4_order_17 : decode cX4_order 17 = .ok (.istore_n 2, 1) := by decide +kernel
theorem dX4_order_18 : decode cX4_order 18 = .ok (.iload_n 2, 1) := by decide +kernel
theorem dX4_order_19 : decode cX4_order 19 = .ok (.ifCond .le 45, 3) := by decide +kernel
theorem dX4_order_22 : decode cX4_order 22 = .ok (.aload_n 0, 1) := by decide +kernel
theorem dX4_order_23 : decode cX4_order 23 = .ok (.aload_n 0, 1) := by decide +kernel
theorem dX4_order_24 : decode cX4_order 24 = .ok (.getfield 26, 3) := by decide +kernel
theorem dX4_order_27 : decode cX4_order 27 = .ok (.iload_n 2, 1) := by decide +kernel
theorem dX4_order_28 : decode cX4_order 28 = .ok (.iconst 1, 1) := by decide +kernel
theorem dX4_order_29 : decode cX4_order 29 = .ok (.isub, 1) := by decide +kernel
theorem dX4_order_30 : decode cX4_order 30 = .ok (.iaload, 1) := by decide +kernel
theorem dX4_order_31 : decode cX4_order 31 = .ok (.iconst 0, 1) := by decide +kernel
theorem dX4_order_32 : decode cX4_order 32 = .ok (.invokevirtual 33, 3) := by decide +kernel
theorem dX4_order_35 : decode cX4_order 35 = .ok (.aload_n 0, 1) := by decide +kernel
theorem dX4_order_36 : decode cX4_order 36 = .ok (.iload_n 1, 1) := by decide +kernel
theorem dX4_order_37 : decode cX4_order 37 = .ok (.iconst 0, 1) := by decide +kernel
theorem dX4_order_38 : decode cX4_order 38 = .ok (.invokevirtual 33, 3) := by decide +kernel
theorem dX4_order_41 : decode cX4_order 41 = .ok (.if_icmp .ge 23, 3) := by decide +kernel
theorem dX4_order_44 : decode cX4_order 44 = .ok (.aload_n 0, 1) := by decide +kernel
theorem dX4_order_45 : decode cX4_order 45 = .ok (.getfield 26, 3) := by decide +kernel
theorem dX4_order_48 : decode cX4_order 48 = .ok (.iload_n 2, 1) := by decide +kernel
theorem dX4_order_49 : decode cX4_order 49 = .ok (.aload_n 0, 1) := by decide +kernel
theorem dX4_order_50 : decode cX4_order 50 = .ok (.getfield 26, 3) := by decide +kernel
theorem dX4_order_53 : decode cX4_order 53 = .ok (.iload_n 2, 1) := by decide +kernel
theorem dX4_order_54 : decode cX4_order 54 = .ok (.iconst 1, 1) := by decide +kernel
theorem dX4_order_55 : decode cX4_order 55 = .ok (.isub, 1) := by decide +kernel
theorem dX4_order_56 : decode cX4_order 56 = .ok (.iaload, 1) := by decide +kernel
theorem dX4_order_57 : decode cX4_order 57 = .ok (.iastore, 1) := by decide +kernel
theorem dX4_order_58 : decode cX4_order 58 = .ok (.iinc 2 (-1), 3) := by decide +kernel
theorem dX4_order_61 : decode cX4_order 61 = .ok (.goto (-43), 3) := by decide +kernel
theorem dX4_order_64 : decode cX4_order 64 = .ok (.aload_n 0, 1) := by decide +kernel
theorem dX4_order_65 : decode cX4_order 65 = .ok (.getfield 26, 3) := by decide +kernel
theorem dX4_order_68 : decode cX4_order 68 = .ok (.iload_n 2, 1) := by decide +kernel
theorem dX4_order_69 : decode cX4_order 69 = .ok (.iload_n 1, 1) := by decide +kernel
theorem dX4_order_70 : decode cX4_order 70 = .ok (.iastore, 1) := by decide +kernel
theorem dX4_order_71 : decode cX4_order 71 = .ok (.aload_n 0, 1) := by decide +kernel
theorem dX4_order_72 : decode cX4_order 72 = .ok (.getfield 30, 3) := by decide +kernel
theorem dX4_order_75 : decode cX4_order 75 = .ok (.iload_n 1, 1) := by decide +kernel
theorem dX4_order_76 : decode cX4_order 76 = .ok (.aload_n 0, 1) := by decide +kernel
theorem dX4_order_77 : decode cX4_order 77 = .ok (.iload_n 1, 1) := by decide +kernel
theorem dX4_order_78 : decode cX4_order 78 = .ok (.invokevirtual 46, 3) := by decide +kernel
theorem dX4_order_81 : decode cX4_order 81 = .ok (.iastore, 1) := by decide +kernel
theorem dX4_order_82 : decode cX4_order 82 = .ok (.iinc 1 1, 3) := by decide +kernel
theorem dX4_order_85 : decode cX4_order 85 = .ok (.goto (-83), 3) := by decide +kernel
theorem dX4_order_88 : decode cX4_order 88 = .ok (.return_, 1) := by decide +kernel
theorem dX4_lowerNear_0 : decode cX4_lowerNear 0 = .ok (.iconst 0, 1) := by decide +kernel
theorem dX4_lowerNear_1 : decode cX4_lowerNear 1 = .ok (.istore_n 2, 1) := by decide +kernel
theorem dX4_lowerNear_2 : decode cX4_lowerNear 2 = .ok (.iconst 0, 1) := by decide +kernel
theorem dX4_lowerNear_3 : decode cX4_lowerNear 3 = .ok (.istore_n 3, 1) := by decide +kernel
theorem dX4_lowerNear_4 : decode cX4_lowerNear 4 = .ok (.iload_n 3, 1) := by decide +kernel
theorem dX4_lowerNear_5 : decode cX4_lowerNear 5 = .ok (.aload_n 0, 1) := by decide +kernel
theorem dX4_lowerNear_6 : decode cX4_lowerNear 6 = .ok (.getfield 9, 3) := by decide +kernel
theorem dX4_lowerNear_9 : decode cX4_lowerNear 9 = .ok (.if_icmp .ge 40, 3) := by decide +kernel
theorem dX4_lowerNear_12 : decode cX4_lowerNear 12 = .ok (.aload_n 0, 1) := by decide +kernel
theorem dX4_lowerNear_13 : decode cX4_lowerNear 13 = .ok (.iload_n 3, 1) := by decide +kernel
theorem dX4_lowerNear_14 : decode cX4_lowerNear 14 = .ok (.iconst 0, 1) := by decide +kernel
theorem dX4_lowerNear_15 : decode cX4_lowerNear 15 = .ok (.invokevirtual 33, 3) := by decide +kernel
theorem dX4_lowerNear_18 : decode cX4_lowerNear 18 = .ok (.aload_n 0, 1) := by decide +kernel
theorem dX4_lowerNear_19 : decode cX4_lowerNear 19 = .ok (.iload_n 1, 1) := by decide +kernel
theorem dX4_lowerNear_20 : decode cX4_lowerNear 20 = .ok (.iconst 0, 1) := by decide +kernel
theorem dX4_lowerNear_21 : decode cX4_lowerNear 21 = .ok (.invokevirtual 33, 3) := by decide +kernel
theorem dX4_lowerNear_24 : decode cX4_lowerNear 24 = .ok (.if_icmp .ge 19, 3) := by decide +kernel
theorem dX4_lowerNear_27 : decode cX4_lowerNear 27 = .ok (.aload_n 0, 1) := by decide +kernel
theorem dX4_lowerNear_28 : decode cX4_lowerNear 28 = .ok (.iload_n 3, 1) := by decide +kernel
theorem dX4_lowerNear_29 : decode cX4_lowerNear 29 = .ok (.iload_n 1, 1) := by decide +kernel
theorem dX4_lowerNear_30 : decode cX4_lowerNear 30 = .ok (.invokevirtual 49, 3) := by decide +kernel
theorem dX4_lowerNear_33 : decode cX4_lowerNear 33 = .ok (.iconst 1, 1) := by decide +kernel
theorem dX4_lowerNear_34 : decode cX4_lowerNear 34 = .ok (.if_icmp .gt 9, 3) := by decide +kernel
theorem dX4_lowerNear_37 : decode cX4_lowerNear 37 = .ok (.iload_n 2, 1) := by decide +kernel
theorem dX4_lowerNear_38 : decode cX4_lowerNear 38 = .ok (.iconst 1, 1) := by decide +kernel
theorem dX4_lowerNear_39 : decode cX4_lowerNear 39 = .ok (.iload_n 3, 1) := by decide +kernel
theorem dX4_lowerNear_40 : decode cX4_lowerNear 40 = .ok (.ishl, 1) := by decide +kernel
theorem dX4_lowerNear_41 : decode cX4_lowerNear 41 = .ok (.ior, 1) := by decide +kernel
theorem dX4_lowerNear_42 : decode cX4_lowerNear 42 = .ok (.istore_n 2, 1) := by decide +kernel
theorem dX4_lowerNear_43 : decode cX4_lowerNear 43 = .ok (.iinc 3 1, 3) := by decide +kernel
theorem dX4_lowerNear_46 : decode cX4_lowerNear 46 = .ok (.goto (-42), 3) := by decide +kernel
theorem dX4_lowerNear_49 : decode cX4_lowerNear 49 = .ok (.iload_n 2, 1) := by decide +kernel
theorem dX4_lowerNear_50 : decode cX4_lowerNear 50 = .ok (.ireturn, 1) := by decide +kernel
theorem dX5_init_0 : decode cX5_init 0 = .ok (.aload_n 0, 1) := by decide +kernel
theorem dX5_init_1 : decode cX5_init 1 = .ok (.invokespecial 3, 3) := by decide +kernel
theorem dX5_init_4 : decode cX5_init 4 = .ok (.aload_n 0, 1) := by decide +kernel
theorem dX5_init_5 : decode cX5_init 5 = .ok (.getstatic 9, 3) := by decide +kernel
theorem dX5_init_8 : decode cX5_init 8 = .ok (.invokevirtual 13, 3) := by decide +kernel
theorem dX5_init_11 : decode cX5_init 11 = .ok (.checkcast 14, 3) := by decide +kernel
theorem dX5_init_14 : decode cX5_init 14 = .ok (.putfield 18, 3) := by decide +kernel
theorem dX5_init_17 : decode cX5_init 17 = .ok (.aload_n 0, 1) := by decide +kernel
theorem dX5_init_18 : decode cX5_init 18 = .ok (.new 21, 3) := by decide +kernel
theorem dX5_init_21 : decode cX5_init 21 = .ok (.dup, 1) := by decide +kernel
theorem dX5_init_22 : decode cX5_init 22 = .ok (.invokespecial 23, 3) := by decide +kernel
theorem dX5_init_25 : decode cX5_init 25 = .ok (.putfield 24, 3) := by decide +kernel
theorem dX5_init_28 : decode cX5_init 28 = .ok (.aload_n 0, 1) := by decide +kernel
theorem dX5_init_29 : decode cX5_init 29 = .ok (.new 28, 3) := by decide +kernel
theorem dX5_init_32 : decode cX5_init 32 = .ok (.dup, 1) := by decide +kernel
theorem dX5_init_33 : decode cX5_init 33 = .ok (.invokespecial 30, 3) := by decide +kernel
theorem dX5_init_36 : decode cX5_init 36 = .ok (.putfield 31, 3) := by decide +kernel
theorem dX5_init_39 : decode cX5_init 39 = .ok (.aload_n 0, 1) := by decide +kernel
theorem dX5_init_40 : decode cX5_init 40 = .ok (.new 35, 3) := by decide +kernel
theorem dX5_init_43 : decode cX5_init 43 = .ok (.dup, 1) := by decide +kernel
theorem dX5_init_44 : decode cX5_init 44 = .ok (.invokespecial 37, 3) := by decide +kernel
theorem dX5_init_47 : decode cX5_init 47 = .ok (.putfield 38, 3) := by decide +kernel
theorem dX5_init_50 : decode cX5_init 50 = .ok (.aload_n 0, 1) := by decide +kernel
theorem dX5_init_51 : decode cX5_init 51 = .ok (.new 42, 3) := by decide +kernel
theorem dX5_init_54 : decode cX5_init 54 = .ok (.dup, 1) := by decide +kernel
theorem dX5_init_55 : decode cX5_init 55 = .ok (.invokespecial 44, 3) := by decide +kernel
theorem dX5_init_58 : decode cX5_init 58 = .ok (.putfield 45, 3) := by decide +kernel
theorem dX5_init_61 : decode cX5_init 61 = .ok (.aload_n 0, 1) := by decide +kernel
theorem dX5_init_62 : decode cX5_init 62 = .ok (.iconst 2, 1) := by decide +kernel
theorem dX5_init_63 : decode cX5_init 63 = .ok (.anewarray 42, 3) := by decide +kernel
theorem dX5_init_66 : decode cX5_init 66 = .ok (.putfield 49, 3) := by decide +kernel
theorem dX5_init_69 : decode cX5_init 69 = .ok (.aload_n 0, 1) := by decide +kernel
theorem dX5_init_70 : decode cX5_init 70 = .ok (.new 53, 3) := by decide +kernel
theorem dX5_init_73 : decode cX5_init 73 = .ok (.dup, 1) := by decide +kernel
theorem dX5_init_74 : decode cX5_init 74 = .ok (.invokespecial 55, 3) := by decide +kernel
theorem dX5_init_77 : decode cX5_init 77 = .ok (.putfield 56, 3) := by decide +kernel
theorem dX5_init_80 : decode cX5_init 80 = .ok (.aload_n 0, 1) := by decide +kernel
theorem dX5_init_81 : decode cX5_init 81 = .ok (.new 53, 3) := by decide +kernel
theorem dX5_init_84 : decode cX5_init 84 = .ok (.dup, 1) := by decide +kernel
theorem dX5_init_85 : decode cX5_init 85 = .ok (.invokespecial 55, 3) := by decide +kernel
theorem dX5_init_88 : decode cX5_init 88 = .ok (.putfield 60, 3) := by decide +kernel
theorem dX5_init_91 : decode cX5_init 91 = .ok (.aload_n 0, 1) := by decide +kernel
theorem dX5_init_92 : decode cX5_init 92 = .ok (.lconst 0, 1) := by decide +kernel
theorem dX5_init_93 : decode cX5_init 93 = .ok (.putfield 63, 3) := by decide +kernel
theorem dX5_init_96 : decode cX5_init 96 = .ok (.iconst 0, 1) := by decide +kernel
theorem dX5_init_97 : decode cX5_init 97 = .ok (.istore_n 1, 1) := by decide +kernel
theorem dX5_init_98 : decode cX5_init 98 = .ok (.iload_n 1, 1) := by decide +kernel
theorem dX5_init_99 : decode cX5_init 99 = .ok (.aload_n 0, 1) := by decide +kernel
theorem dX5_init_100 : decode cX5_init 100 = .ok (.getfield 49, 3) := by decide +kernel
theorem dX5_init_103 : decode cX5_init 103 = .ok (.arraylength, 1) := by decide +kernel
theorem dX5_init_104 : decode cX5_init 104 = .ok (.if_icmp .ge 22, 3) := by decide +kernel
theorem dX5_init_107 : decode cX5_init 107 = .ok (.aload_n 0, 1) := by decide +kernel
theorem dX5_init_108 : decode cX5_init 108 = .ok (.getfield 49, 3) := by decide +kernel
theorem dX5_init_111 : decode cX5_init 111 = .ok (.iload_n 1, 1) := by decide +kernel
theorem dX5_init_112 : decode cX5_init 112 = .ok (.new 42, 3) := by decide +kernel
theorem dX5_init_115 : decode cX5_init 115 = .ok (.dup, 1) := by decide +kernel
theorem dX5_init_116 : decode cX5_init 116 = .ok (.invokespecial 44, 3) := by decide +kernel
theorem dX5_init_119 : decode cX5_init 119 = .ok (.aastore, 1) := by decide +kernel
theorem dX5_init_120 : decode cX5_init 120 = .ok (.iinc 1 1, 3) := by decide +kernel
theorem dX5_init_123 : decode cX5_init 123 = .ok (.goto (-25), 3) := by decide +kernel
theorem dX5_init_126 : decode cX5_init 126 = .ok (.aload_n 0, 1) := by decide +kernel
theorem dX5_init_127 : decode cX5_init 127 = .ok (.getfield 45, 3) := by decide +kernel
theorem dX5_init_130 : decode cX5_init 130 = .ok (.iconst 1, 1) := by decide +kernel
theorem dX5_init_131 : decode cX5_init 131 = .ok (.putfield 67, 3) := by decide +kernel
theorem dX5_init_134 : decode cX5_init 134 = .ok (.return_, 1) := by decide +kernel
theorem dX5_type_0 : decode cX5_type 0 = .ok (.iload_n 3, 1) := by decide +kernel
theorem dX5_type_1 : decode cX5_type 1 = .ok (.iconst 1, 1) := by decide +kernel
theorem dX5_type_2 : decode cX5_type 2 = .ok (.if_icmp .lt 9, 3) := by decide +kernel
theorem dX5_type_5 : decode cX5_type 5 = .ok (.iload_n 3, 1) := by decide +kernel
theorem dX5_type_6 : decode cX5_type 6 = .ok (.bipush 8, 2) := by decide +kernel
theorem dX5_type_8 : decode cX5_type 8 = .ok (.if_icmp .le 5, 3) := by decide +kernel
theorem dX5_type_11 : decode cX5_type 11 = .ok (.iconst (-1), 1) := by decide +kernel
theorem dX5_type_12 : decode cX5_type 12 = .ok (.ireturn, 1) := by decide +kernel
theorem dX5_type_13 : decode cX5_type 13 = .ok (.aload_n 0, 1) := by decide +kernel
theorem dX5_type_14 : decode cX5_type 14 = .ok (.getfield 24, 3) := by decide +kernel
theorem dX5_type_17 : decode cX5_type 17 = .ok (.lload_n 1, 1) := by decide +kernel
theorem dX5_type_18 : decode cX5_type 18 = .ok (.iload_n 3, 1) := by decide +kernel
theorem dX5_type_19 : decode cX5_type 19 = .ok (.invokevirtual 71, 3) := by decide +kernel
theorem dX5_type_22 : decode cX5_type 22 = .ok (.ifCond .eq 13, 3) := by decide +kernel
theorem dX5_type_25 : decode cX5_type 25 = .ok (.aload_n 0, 1) := by decide +kernel
theorem dX5_type_26 : decode cX5_type 26 = .ok (.getfield 24, 3) := by decide +kernel
theorem dX5_type_29 : decode cX5_type 29 = .ok (.getfield 75, 3) := by decide +kernel
theorem dX5_type_32 : decode cX5_type 32 = .ok (.goto 5, 3) := by decide +kernel
theorem dX5_type_35 : decode cX5_type 35 = .ok (.bipush (-3), 2) := by decide +kernel
theorem dX5_type_37 : decode cX5_type 37 = .ok (.ireturn, 1) := by decide +kernel
theorem dX5_clear_0 : decode cX5_clear 0 = .ok (.aload_n 0, 1) := by decide +kernel
theorem dX5_clear_1 : decode cX5_clear 1 = .ok (.getfield 24, 3) := by decide +kernel
theorem dX5_clear_4 : decode cX5_clear 4 = .ok (.getfield 75, 3) := by decide +kernel
theorem dX5_clear_7 : decode cX5_clear 7 = .ok (.istore_n 1, 1) := by decide +kernel
theorem dX5_clear_8 : decode cX5_clear 8 = .ok (.aload_n 0, 1) := by decide +kernel
theorem dX5_clear_9 : decode cX5_clear 9 = .ok (.getfield 24, 3) := by decide +kernel
theorem dX5_clear_12 : decode cX5_clear 12 = .ok (.iconst 0, 1) := by decide +kernel
theorem dX5_clear_13 : decode cX5_clear 13 = .ok (.putfield 75, 3) := by decide +kernel
theorem dX5_clear_16 : decode cX5_clear 16 = .ok (.iload_n 1, 1) := by decide +kernel
theorem dX5_clear_17 : decode cX5_clear 17 = .ok (.ireturn, 1) := by decide +kernel
theorem dX5_tree_0 : decode cX5_tree 0 = .ok (.aload_n 0, 1) := by decide +kernel
theorem dX5_tree_1 : decode cX5_tree 1 = .ok (.invokevirtual 78, 3) := by decide +kernel
theorem dX5_tree_4 : decode cX5_tree 4 = .ok (.istore_n 1, 1) := by decide +kernel
theorem dX5_tree_5 : decode cX5_tree 5 = .ok (.iload_n 1, 1) := by decide +kernel
theorem dX5_tree_6 : decode cX5_tree 6 = .ok (.ifCond .lt 8, 3) := by decide +kernel
theorem dX5_tree_9 : decode cX5_tree 9 = .ok (.bipush (-10), 2) := by decide +kernel
theorem dX5_tree_11 : decode cX5_tree 11 = .ok (.iload_n 1, 1) := by decide +kernel
theorem dX5_tree_12 : decode cX5_tree 12 = .ok (.isub, 1) := by decide +kernel
theorem dX5_tree_13 : decode cX5_tree 13 = .ok (.ireturn, 1) := by decide +kernel
theorem dX5_tree_14 : decode cX5_tree 14 = .ok (.aload_n 0, 1) := by decide +kernel
theorem dX5_tree_15 : decode cX5_tree 15 = .ok (.getfield 24, 3) := by decide +kernel
theorem dX5_tree_18 : decode cX5_tree 18 = .ok (.iconst 0, 1) := by decide +kernel
theorem dX5_tree_19 : decode cX5_tree 19 = .ok (.putfield 75, 3) := by decide +kernel
theorem dX5_tree_22 : decode cX5_tree 22 = .ok (.aload_n 0, 1) := by decide +kernel
theorem dX5_tree_23 : decode cX5_tree 23 = .ok (.invokevirtual 82, 3) := by decide +kernel
theorem dX5_tree_26 : decode cX5_tree 26 = .ok (.aload_n 0, 1) := by decide +kernel
theorem dX5_tree_27 : decode cX5_tree 27 = .ok (.getfield 45, 3) := by decide +kernel
theorem dX5_tree_30 : decode cX5_tree 30 = .ok (.iconst 0, 1) := by decide +kernel
theorem dX5_tree_31 : decode cX5_tree 31 = .ok (.invokevirtual 85, 3) := by decide +kernel
theorem dX5_tree_34 : decode cX5_tree 34 = .ok (.aload_n 0, 1) := by decide +kernel
theorem dX5_tree_35 : decode cX5_tree 35 = .ok (.getfield 45, 3) := by decide +kernel
theorem dX5_tree_38 : decode cX5_tree 38 = .ok (.iconst 0, 1) := by decide +kernel
theorem dX5_tree_39 : decode cX5_tree 39 = .ok (.putfield 89, 3) := by decide +kernel
theorem dX5_tree_42 : decode cX5_tree 42 = .ok (.aload_n 0, 1) := by decide +kernel
theorem dX5_tree_43 : decode cX5_tree 43 = .ok (.getfield 38, 3) := by decide +kernel
theorem dX5_tree_46 : decode cX5_tree 46 = .ok (.iconst 0, 1) := by decide +kernel
theorem dX5_tree_47 : decode cX5_tree 47 = .ok (.putfield 92, 3) := by decide +kernel
theorem dX5_tree_50 : decode cX5_tree 50 = .ok (.iconst 0, 1) := by decide +kernel
theorem dX5_tree_51 : decode cX5_tree 51 = .ok (.istore_n 2, 1) := by decide +kernel
theorem dX5_tree_52 : decode cX5_tree 52 = .ok (.iload_n 2, 1) := by decide +kernel
theorem dX5_tree_53 : decode cX5_tree 53 = .ok (.aload_n 0, 1) := by decide +kernel
theorem dX5_tree_54 : decode cX5_tree 54 = .ok (.getfield 49, 3) := by decide +kernel
theorem dX5_tree_57 : decode cX5_tree 57 = .ok (.arraylength, 1) := by decide +kernel
theorem dX5_tree_58 : decode cX5_tree 58 = .ok (.if_icmp .ge 19, 3) := by decide +kernel
theorem dX5_tree_61 : decode cX5_tree 61 = .ok (.aload_n 0, 1) := by decide +kernel
theorem dX5_tree_62 : decode cX5_tree 62 = .ok (.getfield 49, 3) := by decide +kernel
theorem dX5_tree_65 : decode cX5_tree 65 = .ok (.iload_n 2, 1) := by decide +kernel
theorem dX5_tree_66 : decode cX5_tree 66 = .ok (.aaload, 1) := by decide +kernel
theorem dX5_tree_67 : decode cX5_tree 67 = .ok (.iconst 0, 1) := by decide +kernel
theorem dX5_tree_68 : decode cX5_tree 68 = .ok (.putfield 95, 3) := by decide +kernel
theorem dX5_tree_71 : decode cX5_tree 71 = .ok (.iinc 2 1, 3) := by decide +kernel
theorem dX5_tree_74 : decode cX5_tree 74 = .ok (.goto (-22), 3) := by decide +kernel
theorem dX5_tree_77 : decode cX5_tree 77 = .ok (.aload_n 0, 1) := by decide +kernel
theorem dX5_tree_78 : decode cX5_tree 78 = .ok (.getfield 56, 3) := by decide +kernel
theorem dX5_tree_81 : decode cX5_tree 81 = .ok (.getfield 99, 3) := by decide +kernel
theorem dX5_tree_84 : decode cX5_tree 84 = .ok (.aload_n 0, 1) := by decide +kernel
theorem dX5_tree_85 : decode cX5_tree 85 = .ok (.getfield 56, 3) := by decide +kernel
theorem dX5_tree_88 : decode cX5_tree 88 = .ok (.getfield 102, 3) := by decide +kernel
theorem dX5_tree_91 : decode cX5_tree 91 = .ok (.iadd, 1) := by decide +kernel
theorem dX5_tree_92 : decode cX5_tree 92 = .ok (.ireturn, 1) := by decide +kernel
theorem dX5_branch_0 : decode cX5_branch 0 = .ok (.aload_n 0, 1) := by decide +kernel
theorem dX5_branch_1 : decode cX5_branch 1 = .ok (.iload_n 1, 1) := by decide +kernel
theorem dX5_branch_2 : decode cX5_branch 2 = .ok (.invokevirtual 105, 3) := by decide +kernel
theorem dX5_branch_5 : decode cX5_branch 5 = .ok (.ifCond .eq 13, 3) := by decide +kernel
theorem dX5_branch_8 : decode cX5_branch 8 = .ok (.iload_n 2, 1) := by decide +kernel
theorem dX5_branch_9 : decode cX5_branch 9 = .ok (.ifCond .lt 9, 3) := by decide +kernel
theorem dX5_branch_12 : decode cX5_branch 12 = .ok (.iload_n 2, 1) := by decide +kernel
theorem dX5_branch_13 : decode cX5_branch 13 = .ok (.bipush 6, 2) := by decide +kernel
theorem dX5_branch_15 : decode cX5_branch 15 = .ok (.if_icmp .le 5, 3) := by decide +kernel
theorem dX5_branch_18 : decode cX5_branch 18 = .ok (.iconst (-1), 1) := by decide +kernel
theorem dX5_branch_19 : decode cX5_branch 19 = .ok (.ireturn, 1) := by decide +kernel
theorem dX5_branch_20 : decode cX5_branch 20 = .ok (.iload_n 2, 1) := by decide +kernel
theorem dX5_branch_21 : decode cX5_branch 21 = .ok (.bipush 6, 2) := by decide +kernel
theorem dX5_branch_23 : decode cX5_branch 23 = .ok (.if_icmp .ne 14, 3) := by decide +kernel
theorem dX5_branch_26 : decode cX5_branch 26 = .ok (.aload_n 0, 1) := by decide +kernel
theorem dX5_branch_27 : decode cX5_branch 27 = .ok (.iload_n 1, 1) := by decide +kernel
theorem dX5_branch_28 : decode cX5_branch 28 = .ok (.invokevirtual 109, 3) := by decide +kernel
theorem dX5_branch_31 : decode cX5_branch 31 = .ok (.invokestatic 112, 3) := by decide +kernel
theorem dX5_branch_34 : decode cX5_branch 34 = .ok (.goto 12, 3) := by decide +kernel
theorem dX5_branch_37 : decode cX5_branch 37 = .ok (.aload_n 0, 1) := by decide +kernel
theorem dX5_branch_38 : decode cX5_branch 38 = .ok (.getfield 56, 3) := by decide +kernel
theorem dX5_branch_41 : decode cX5_branch 41 = .ok (.iload_n 1, 1) := by decide +kernel
theorem dX5_branch_42 : decode cX5_branch 42 = .ok (.iload_n 2, 1) := by decide +kernel
theorem dX5_branch_43 : decode cX5_branch 43 = .ok (.invokevirtual 116, 3) := by decide +kernel
theorem dX5_branch_46 : decode cX5_branch 46 = .ok (.ireturn, 1) := by decide +kernel
theorem dX5_body_0 : decode cX5_body 0 = .ok (.aload_n 0, 1) := by decide +kernel
theorem dX5_body_1 : decode cX5_body 1 = .ok (.iload_n 1, 1) := by decide +kernel
theorem dX5_body_2 : decode cX5_body 2 = .ok (.invokevirtual 120, 3) := by decide +kernel
theorem dX5_body_5 : decode cX5_body 5 = .ok (.ifCond .eq 24, 3) := by decide +kernel
theorem dX5_body_8 : decode cX5_body 8 = .ok (.iload_n 2, 1) := by decide +kernel
theorem dX5_body_9 : decode cX5_body 9 = .ok (.ifCond .lt 20, 3) := by decide +kernel
theorem dX5_body_12 : decode cX5_body 12 = .ok (.iload_n 2, 1) := by decide +kernel
theorem dX5_body_13 : decode cX5_body 13 = .ok (.iconst 2, 1) := by decide +kernel
theorem dX5_body_14 : decode cX5_body 14 = .ok (.if_icmp .gt 15, 3) := by decide +kernel
theorem dX5_body_17 : decode cX5_body 17 = .ok (.aload_n 0, 1) := by decide +kernel
theorem dX5_body_18 : decode cX5_body 18 = .ok (.getfield 56, 3) := by decide +kernel
theorem dX5_body_21 : decode cX5_body 21 = .ok (.iload_n 1, 1) := by decide +kernel
theorem dX5_body_22 : decode cX5_body 22 = .ok (.iload_n 2, 1) := by decide +kernel
theorem dX5_body_23 : decode cX5_body 23 = .ok (.invokevirtual 123, 3) := by decide +kernel
theorem dX5_body_26 : decode cX5_body 26 = .ok (.goto 4, 3) := by decide +kernel
theorem dX5_body_29 : decode cX5_body 29 = .ok (.iconst (-1), 1) := by decide +kernel
theorem dX5_body_30 : decode cX5_body 30 = .ok (.ireturn, 1) := by decide +kernel
theorem dX5_tune_0 : decode cX5_tune 0 = .ok (.iload_n 1, 1) := by decide +kernel
theorem dX5_tune_1 : decode cX5_tune 1 = .ok (.ifCond .lt 26, 3) := by decide +kernel
theorem dX5_tune_4 : decode cX5_tune 4 = .ok (.iload_n 1, 1) := by decide +kernel
theorem dX5_tune_5 : decode cX5_tune 5 = .ok (.aload_n 0, 1) := by decide +kernel
theorem dX5_tune_6 : decode cX5_tune 6 = .ok (.getfield 18, 3) := by decide +kernel
theorem dX5_tune_9 : decode cX5_tune 9 = .ok (.arraylength, 1) := by decide +kernel
theorem dX5_tune_10 : decode cX5_tune 10 = .ok (.if_icmp .ge 17, 3) := by decide +kernel
theorem dX5_tune_13 : decode cX5_tune 13 = .ok (.iload_n 2, 1) := by decide +kernel
theorem dX5_tune_14 : decode cX5_tune 14 = .ok (.getstatic 126, 3) := by decide +kernel
theorem dX5_tune_17 : decode cX5_tune 17 = .ok (.getstatic 129, 3) := by decide +kernel
theorem dX5_tune_20 : decode cX5_tune 20 = .ok (.iload_n 1, 1) := by decide +kernel
theorem dX5_tune_21 : decode cX5_tune 21 = .ok (.invokestatic 132, 3) := by decide +kernel
theorem dX5_tune_24 : decode cX5_tune 24 = .ok (.ifCond .ne 5, 3) := by decide +kernel
theorem dX5_tune_27 : decode cX5_tune 27 = .ok (.iconst (-1), 1) := by decide +kernel
theorem dX5_tune_28 : decode cX5_tune 28 = .ok (.ireturn, 1) := by decide +kernel
theorem dX5_tune_29 : decode cX5_tune 29 = .ok (.aload_n 0, 1) := by decide +kernel
theorem dX5_tune_30 : decode cX5_tune 30 = .ok (.getfield 18, 3) := by decide +kernel
theorem dX5_tune_33 : decode cX5_tune 33 = .ok (.iload_n 1, 1) := by decide +kernel
theorem dX5_tune_34 : decode cX5_tune 34 = .ok (.iaload, 1) := by decide +kernel
theorem dX5_tune_35 : decode cX5_tune 35 = .ok (.istore_n 3, 1) := by decide +kernel
theorem dX5_tune_36 : decode cX5_tune 36 = .ok (.aload_n 0, 1) := by decide +kernel
theorem dX5_tune_37 : decode cX5_tune 37 = .ok (.getfield 18, 3) := by decide +kernel
theorem dX5_tune_40 : decode cX5_tune 40 = .ok (.iload_n 1, 1) := by decide +kernel
theorem dX5_tune_41 : decode cX5_tune 41 = .ok (.iload_n 2, 1) := by decide +kernel
theorem dX5_tune_42 : decode cX5_tune 42 = .ok (.iastore, 1) := by decide +kernel
theorem dX5_tune_43 : decode cX5_tune 43 = .ok (.iload_n 3, 1) := by decide +kernel
theorem dX5_tune_44 : decode cX5_tune 44 = .ok (.ireturn, 1) := by decide +kernel
theorem dX5_sawn_0 : decode cX5_sawn 0 = .ok (.aload_n 0, 1) := by decide +kernel
theorem dX5_sawn_1 : decode cX5_sawn 1 = .ok (.getfield 45, 3) := by decide +kernel
theorem dX5_sawn_4 : decode cX5_sawn 4 = .ok (.getfield 89, 3) := by decide +kernel
theorem dX5_sawn_7 : decode cX5_sawn 7 = .ok (.istore_n 2, 1) := by decide +kernel
theorem dX5_sawn_8 : decode cX5_sawn 8 = .ok (.aload_n 0, 1) := by decide +kernel
theorem dX5_sawn_9 : decode cX5_sawn 9 = .ok (.getfield 45, 3) := by decide +kernel
theorem dX5_sawn_12 : decode cX5_sawn 12 = .ok (.iload_n 1, 1) := by decide +kernel
theorem dX5_sawn_13 : decode cX5_sawn 13 = .ok (.aload_n 0, 1) := by decide +kernel
theorem dX5_sawn_14 : decode cX5_sawn 14 = .ok (.getfield 56, 3) := by decide +kernel
theorem dX5_sawn_17 : decode cX5_sawn 17 = .ok (.invokevirtual 136, 3) := by decide +kernel
theorem dX5_sawn_20 : decode cX5_sawn 20 = .ok (.iand, 1) := by decide +kernel
theorem dX5_sawn_21 : decode cX5_sawn 21 = .ok (.putfield 89, 3) := by decide +kernel
theorem dX5_sawn_24 : decode cX5_sawn 24 = .ok (.iload_n 2, 1) := by decide +kernel
theorem dX5_sawn_25 : decode cX5_sawn 25 = .ok (.ireturn, 1) := by decide +kernel
theorem dX5_step_0 : decode cX5_step 0 = .ok (.aload_n 0, 1) := by decide +kernel
theorem dX5_step_1 : decode cX5_step 1 = .ok (.iload_n 1, 1) := by decide +kernel
theorem dX5_step_2 : decode cX5_step 2 = .ok (.invokevirtual 120, 3) := by decide +kernel
theorem dX5_step_5 : decode cX5_step 5 = .ok (.ifCond .eq 24, 3) := by decide +kernel
theorem dX5_step_8 : decode cX5_step 8 = .ok (.aload_n 0, 1) := by decide +kernel
theorem dX5_step_9 : decode cX5_step 9 = .ok (.iload_n 2, 1) := by decide +kernel
theorem dX5_step_10 : decode cX5_step 10 = .ok (.invokevirtual 139, 3) := by decide +kernel
theorem dX5_step_13 : decode cX5_step 13 = .ok (.ifCond .eq 16, 3) := by decide +kernel
theorem dX5_step_16 : decode cX5_step 16 = .ok (.aload_n 0, 1) := by decide +kernel
theorem dX5_step_17 : decode cX5_step 17 = .ok (.iload_n 3, 1) := by decide +kernel
theorem dX5_step_18 : decode cX5_step 18 = .ok (.invokevirtual 139, 3) := by decide +kernel
theorem dX5_step_21 : decode cX5_step 21 = .ok (.ifCond .eq 8, 3) := by decide +kernel
theorem dX5_step_24 : decode cX5_step 24 = .ok (.iload_n 2, 1) := by decide +kernel
theorem dX5_step_25 : decode cX5_step 25 = .ok (.iload_n 3, 1) := by decide +kernel
theorem dX5_step_26 : decode cX5_step 26 = .ok (.if_icmp .ne 5, 3) := by decide +kernel
theorem dX5_step_29 : decode cX5_step 29 = .ok (.iconst (-1), 1) := by decide +kernel
theorem dX5_step_30 : decode cX5_step 30 = .ok (.ireturn, 1) := by decide +kernel
theorem dX5_step_31 : decode cX5_step 31 = .ok (.aload_n 0, 1) := by decide +kernel
theorem dX5_step_32 : decode cX5_step 32 = .ok (.iload_n 1, 1) := by decide +kernel
theorem dX5_step_33 : decode cX5_step 33 = .ok (.iload_n 2, 1) := by decide +kernel
theorem dX5_step_34 : decode cX5_step 34 = .ok (.iload_n 3, 1) := by decide +kernel
theorem dX5_step_35 : decode cX5_step 35 = .ok (.aload_n 0, 1) := by decide +kernel
theorem dX5_step_36 : decode cX5_step 36 = .ok (.getfield 56, 3) := by decide +kernel
theorem dX5_step_39 : decode cX5_step 39 = .ok (.iload_n 1, 1) := by decide +kernel
theorem dX5_step_40 : decode cX5_step 40 = .ok (.iconst 0, 1) := by decide +kernel
theorem dX5_step_41 : decode cX5_step 41 = .ok (.invokevirtual 123, 3) := by decide +kernel
theorem dX5_step_44 : decode cX5_step 44 = .ok (.aload_n 0, 1) := by decide +kernel
theorem dX5_step_45 : decode cX5_step 45 = .ok (.iconst 5, 1) := by decide +kernel
theorem dX5_step_46 : decode cX5_step 46 = .ok (.invokevirtual 142, 3) := by decide +kernel
theorem dX5_step_49 : decode cX5_step 49 = .ok (.invokevirtual 146, 3) := by decide +kernel
theorem dX5_step_52 : decode cX5_step 52 = .ok (.invokestatic 112, 3) := by decide +kernel
theorem dX5_step_55 : decode cX5_step 55 = .ok (.ireturn, 1) := by decide +kernel
theorem dX5_holds_0 : decode cX5_holds 0 = .ok (.aload_n 0, 1) := by decide +kernel
theorem dX5_holds_1 : decode cX5_holds 1 = .ok (.iload_n 1, 1) := by decide +kernel
theorem dX5_holds_2 : decode cX5_holds 2 = .ok (.invokevirtual 120, 3) := by decide +kernel
theorem dX5_holds_5 : decode cX5_holds 5 = .ok (.ifCond .eq 20, 3) := by decide +kernel
theorem dX5_holds_8 : decode cX5_holds 8 = .ok (.aload_n 0, 1) := by decide +kernel
theorem dX5_holds_9 : decode cX5_holds 9 = .ok (.iload_n 2, 1) := by decide +kernel
theorem dX5_holds_10 : decode cX5_holds 10 = .ok (.invokevirtual 105, 3) := by decide +kernel
theorem dX5_holds_13 : decode cX5_holds 13 = .ok (.ifCond .eq 12, 3) := by decide +kernel
theorem dX5_holds_16 : decode cX5_holds 16 = .ok (.aload_n 0, 1) := by decide +kernel
theorem dX5_holds_17 : decode cX5_holds 17 = .ok (.iload_n 1, 1) := by decide +kernel
theorem dX5_holds_18 : decode cX5_holds 18 = .ok (.iload_n 2, 1) := by decide +kernel
theorem dX5_holds_19 : decode cX5_holds 19 = .ok (.invokevirtual 150, 3) := by decide +kernel
theorem dX5_holds_22 : decode cX5_holds 22 = .ok (.goto 4, 3) := by decide +kernel
theorem dX5_holds_25 : decode cX5_holds 25 = .ok (.iconst (-1), 1) := by decide +kernel
theorem dX5_holds_26 : decode cX5_holds 26 = .ok (.ireturn, 1) := by decide +kernel
theorem dX5_best_0 : decode cX5_best 0 = .ok (.aload_n 0, 1) := by decide +kernel
theorem dX5_best_1 : decode cX5_best 1 = .ok (.iload_n 1, 1) := by decide +kernel
theorem dX5_best_2 : decode cX5_best 2 = .ok (.invokevirtual 120, 3) := by decide +kernel
theorem dX5_best_5 : decode cX5_best 5 = .ok (.ifCond .eq 30, 3) := by decide +kernel
theorem dX5_best_8 : decode cX5_best 8 = .ok (.aload_n 0, 1) := by decide +kernel
theorem dX5_best_9 : decode cX5_best 9 = .ok (.iload_n 2, 1) := by decide +kernel
theorem dX5_best_10 : decode cX5_best 10 = .ok (.invokevirtual 139, 3) := by decide +kernel
theorem dX5_best_13 : decode cX5_best 13 = .ok (.ifCond .eq 22, 3) := by decide +kernel
theorem dX5_best_16 : decode cX5_best 16 = .ok (.aload_n 0, 1) := by decide +kernel
theorem dX5_best_17 : decode cX5_best 17 = .ok (.iload_n 3, 1) := by decide +kernel
theorem dX5_best_18 : decode cX5_best 18 = .ok (.invokevirtual 139, 3) := by decide +kernel
theorem dX5_best_21 : decode cX5_best 21 = .ok (.ifCond .eq 14, 3) := by decide +kernel
theorem dX5_best_24 : decode cX5_best 24 = .ok (.iload 4, 2) := by decide +kernel
theorem dX5_best_26 : decode cX5_best 26 = .ok (.ifCond .lt 9, 3) := by decide +kernel
theorem dX5_best_29 : decode cX5_best 29 = .ok (.iload 4, 2) := by decide +kernel
theorem dX5_best_31 : decode cX5_best 31 = .ok (.iconst 2, 1) := by decide +kernel
theorem dX5_best_32 : decode cX5_best 32 = .ok (.if_icmp .le 7, 3) := by decide +kernel
theorem dX5_best_35 : decode cX5_best 35 = .ok (.ldc2_w 153, 3) := by decide +kernel
theorem dX5_best_38 : decode cX5_best 38 = .ok (.lreturn, 1) := by decide +kernel
theorem dX5_best_39 : decode cX5_best 39 = .ok (.aload_n 0, 1) := by decide +kernel
theorem dX5_best_40 : decode cX5_best 40 = .ok (.iload_n 1, 1) := by decide +kernel
theorem dX5_best_41 : decode cX5_best 41 = .ok (.iconst 0, 1) := by decide +kernel
theorem dX5_best_42 : decode cX5_best 42 = .ok (.aload_n 0, 1) := by decide +kernel
theorem dX5_best_43 : decode cX5_best 43 = .ok (.iconst 5, 1) := by decide +kernel
theorem dX5_best_44 : decode cX5_best 44 = .ok (.invokevirtual 142, 3) := by decide +kernel
theorem dX5_best_47 : decode cX5_best 47 = .ok (.invokevirtual 155, 3) := by decide +kernel
theorem dX5_best_50 : decode cX5_best 50 = .ok (.aload_n 0, 1) := by decide +kernel
theorem dX5_best_51 : decode cX5_best 51 = .ok (.getfield 31, 3) := by decide +kernel
theorem dX5_best_54 : decode cX5_best 54 = .ok (.iload_n 2, 1) := by decide +kernel
theorem dX5_best_55 : decode cX5_best 55 = .ok (.iconst 1, 1) := by decide +kernel
theorem dX5_best_56 : decode cX5_best 56 = .ok (.iadd, 1) := by decide +kernel
theorem dX5_best_57 : decode cX5_best 57 = .ok (.invokevirtual 159, 3) := by decide +kernel
theorem dX5_best_60 : decode cX5_best 60 = .ok (.aload_n 0, 1) := by decide +kernel
theorem dX5_best_61 : decode cX5_best 61 = .ok (.getfield 31, 3) := by decide +kernel
theorem dX5_best_64 : decode cX5_best 64 = .ok (.iload_n 3, 1) := by decide +kernel
theorem dX5_best_65 : decode cX5_best 65 = .ok (.iconst 1, 1) := by decide +kernel
theorem dX5_best_66 : decode cX5_best 66 = .ok (.iadd, 1) := by decide +kernel
theorem dX5_best_67 : decode cX5_best 67 = .ok (.invokevirtual 162, 3) := by decide +kernel
theorem dX5_best_70 : decode cX5_best 70 = .ok (.lstore 5, 2) := by decide +kernel
theorem dX5_best_72 : decode cX5_best 72 = .ok (.lload 5, 2) := by decide +kernel
theorem dX5_best_74 : decode cX5_best 74 = .ok (.lconst 0, 1) := by decide +kernel
theorem dX5_best_75 : decode cX5_best 75 = .ok (.lcmp, 1) := by decide +kernel
theorem dX5_best_76 : decode cX5_best 76 = .ok (.ifCond .ne 7, 3) := by decide +kernel
theorem dX5_best_79 : decode cX5_best 79 = .ok (.ldc2_w 166, 3) := by decide +kernel
theorem dX5_best_82 : decode cX5_best 82 = .ok (.lreturn, 1) := by decide +kernel
theorem dX5_best_83 : decode cX5_best 83 = .ok (.iload 4, 2) := by decide +kernel
theorem dX5_best_85 : decode cX5_best 85 = .ok (.iconst 2, 1) := by decide +kernel
theorem dX5_best_86 : decode cX5_best 86 = .ok (.if_icmp .ne 17, 3) := by decide +kernel
theorem dX5_best_89 : decode cX5_best 89 = .ok (.aload_n 0, 1) := by decide +kernel
theorem dX5_best_90 : decode cX5_best 90 = .ok (.getfield 31, 3) := by decide +kernel
theorem dX5_best_93 : decode cX5_best 93 = .ok (.iload_n 3, 1) := by decide +kernel
theorem dX5_best_94 : decode cX5_best 94 = .ok (.iconst 1, 1) := by decide +kernel
theorem dX5_best_95 : decode cX5_best 95 = .ok (.iadd, 1) := by decide +kernel
theorem dX5_best_96 : decode cX5_best 96 = .ok (.invokevirtual 168, 3) := by decide +kernel
theorem dX5_best_99 : decode cX5_best 99 = .ok (.i2l, 1) := by decide +kernel
theorem dX5_best_100 : decode cX5_best 100 = .ok (.goto 13, 3) := by decide +kernel
theorem dX5_best_103 : decode cX5_best 103 = .ok (.lload 5, 2) := by decide +kernel
theorem dX5_best_105 : decode cX5_best 105 = .ok (.ldc2_w 171, 3) := by decide +kernel
theorem dX5_best_108 : decode cX5_best 108 = .ok (.iload 4, 2) := by decide +kernel
theorem dX5_best_110 : decode cX5_best 110 = .ok (.invokestatic 173, 3) := by decide +kernel
theorem dX5_best_113 : decode cX5_best 113 = .ok (.lreturn, 1) := by decide +kernel
theorem dX5_high_0 : decode cX5_high 0 = .ok (.aload_n 0, 1) := by decide +kernel
theorem dX5_high_1 : decode cX5_high 1 = .ok (.iload_n 1, 1) := by decide +kernel
theorem dX5_high_2 : decode cX5_high 2 = .ok (.invokevirtual 120, 3) := by decide +kernel
theorem dX5_high_5 : decode cX5_high 5 = .ok (.ifCond .eq 12, 3) := by decide +kernel
theorem dX5_high_8 : decode cX5_high 8 = .ok (.iload_n 2, 1) := by decide +kernel
theorem dX5_high_9 : decode cX5_high 9 = .ok (.ifCond .lt 8, 3) := by decide +kernel
theorem dX5_high_12 : decode cX5_high 12 = .ok (.iload_n 2, 1) := by decide +kernel
theorem dX5_high_13 : decode cX5_high 13 = .ok (.iconst 1, 1) := by decide +kernel
theorem dX5_high_14 : decode cX5_high 14 = .ok (.if_icmp .le 5, 3) := by decide +kernel
theorem dX5_high_17 : decode cX5_high 17 = .ok (.iconst (-1), 1) := by decide +kernel
theorem dX5_high_18 : decode cX5_high 18 = .ok (.ireturn, 1) := by decide +kernel
theorem dX5_high_19 : decode cX5_high 19 = .ok (.aload_n 0, 1) := by decide +kernel
theorem dX5_high_20 : decode cX5_high 20 = .ok (.iload_n 1, 1) := by decide +kernel
theorem dX5_high_21 : decode cX5_high 21 = .ok (.iconst 0, 1) := by decide +kernel
theorem dX5_high_22 : decode cX5_high 22 = .ok (.aload_n 0, 1) := by decide +kernel
theorem dX5_high_23 : decode cX5_high 23 = .ok (.iconst 5, 1) := by decide +kernel
theorem dX5_high_24 : decode cX5_high 24 = .ok (.invokevirtual 142, 3) := by decide +kernel
theorem dX5_high_27 : decode cX5_high 27 = .ok (.invokevirtual 155, 3) := by decide +kernel
theorem dX5_high_30 : decode cX5_high 30 = .ok (.iload_n 2, 1) := by decide +kernel
theorem dX5_high_31 : decode cX5_high 31 = .ok (.ifCond .ne 21, 3) := by decide +kernel
theorem dX5_high_34 : decode cX5_high 34 = .ok (.aload_n 0, 1) := by decide +kernel
theorem dX5_high_35 : decode cX5_high 35 = .ok (.aload_n 0, 1) := by decide +kernel
theorem dX5_high_36 : decode cX5_high 36 = .ok (.aload_n 0, 1) := by decide +kernel
theorem dX5_high_37 : decode cX5_high 37 = .ok (.getfield 45, 3) := by decide +kernel
theorem dX5_high_40 : decode cX5_high 40 = .ok (.getfield 89, 3) := by decide +kernel
theorem dX5_high_43 : decode cX5_high 43 = .ok (.invokevirtual 177, 3) := by decide +kernel
theorem dX5_high_46 : decode cX5_high 46 = .ok (.invokevirtual 180, 3) := by decide +kernel
theorem dX5_high_49 : decode cX5_high 49 = .ok (.goto 22, 3) := by decide +kernel
theorem dX5_high_52 : decode cX5_high 52 = .ok (.aload_n 0, 1) := by decide +kernel
theorem dX5_high_53 : decode cX5_high 53 = .ok (.aload_n 0, 1) := by decide +kernel
theorem dX5_high_54 : decode cX5_high 54 = .ok (.aload_n 0, 1) := by decide +kernel
theorem dX5_high_55 : decode cX5_high 55 = .ok (.aload_n 0, 1) := by decide +kernel
theorem dX5_high_56 : decode cX5_high 56 = .ok (.getfield 45, 3) := by decide +kernel
theorem dX5_high_59 : decode cX5_high 59 = .ok (.getfield 89, 3) := by decide +kernel
theorem dX5_high_62 : decode cX5_high 62 = .ok (.invokevirtual 177, 3) := by decide +kernel
theorem dX5_high_65 : decode cX5_high 65 = .ok (.invokevirtual 183, 3) := by decide +kernel
theorem dX5_high_68 : decode cX5_high 68 = .ok (.invokevirtual 180, 3) := by decide +kernel
theorem dX5_high_71 : decode cX5_high 71 = .ok (.ireturn, 1) := by decide +kernel
theorem dX5_sure_0 : decode cX5_sure 0 = .ok (.aload_n 0, 1) := by decide +kernel
theorem dX5_sure_1 : decode cX5_sure 1 = .ok (.iload_n 1, 1) := by decide +kernel
theorem dX5_sure_2 : decode cX5_sure 2 = .ok (.invokevirtual 120, 3) := by decide +kernel
theorem dX5_sure_5 : decode cX5_sure 5 = .ok (.ifCond .eq 13, 3) := by decide +kernel
theorem dX5_sure_8 : decode cX5_sure 8 = .ok (.iload_n 2, 1) := by decide +kernel
theorem dX5_sure_9 : decode cX5_sure 9 = .ok (.ifCond .lt 9, 3) := by decide +kernel
theorem dX5_sure_12 : decode cX5_sure 12 = .ok (.iload_n 2, 1) := by decide +kernel
theorem dX5_sure_13 : decode cX5_sure 13 = .ok (.bipush 100, 2) := by decide +kernel
theorem dX5_sure_15 : decode cX5_sure 15 = .ok (.if_icmp .le 5, 3) := by decide +kernel
theorem dX5_sure_18 : decode cX5_sure 18 = .ok (.iconst (-1), 1) := by decide +kernel
theorem dX5_sure_19 : decode cX5_sure 19 = .ok (.ireturn, 1) := by decide +kernel
theorem dX5_sure_20 : decode cX5_sure 20 = .ok (.aload_n 0, 1) := by decide +kernel
theorem dX5_sure_21 : decode cX5_sure 21 = .ok (.iload_n 1, 1) := by decide +kernel
theorem dX5_sure_22 : decode cX5_sure 22 = .ok (.iconst 0, 1) := by decide +kernel
theorem dX5_sure_23 : decode cX5_sure 23 = .ok (.aload_n 0, 1) := by decide +kernel
theorem dX5_sure_24 : decode cX5_sure 24 = .ok (.iconst 5, 1) := by decide +kernel
theorem dX5_sure_25 : decode cX5_sure 25 = .ok (.invokevirtual 142, 3) := by decide +kernel
theorem dX5_sure_28 : decode cX5_sure 28 = .ok (.invokevirtual 155, 3) := by decide +kernel
theorem dX5_sure_31 : decode cX5_sure 31 = .ok (.aload_n 0, 1) := by decide +kernel
theorem dX5_sure_32 : decode cX5_sure 32 = .ok (.getfield 31, 3) := by decide +kernel
theorem dX5_sure_35 : decode cX5_sure 35 = .ok (.iconst 0, 1) := by decide +kernel
theorem dX5_sure_36 : decode cX5_sure 36 = .ok (.invokevirtual 159, 3) := by decide +kernel
theorem dX5_sure_39 : decode cX5_sure 39 = .ok (.iconst 0, 1) := by decide +kernel
theorem dX5_sure_40 : decode cX5_sure 40 = .ok (.istore_n 3, 1) := by decide +kernel
theorem dX5_sure_41 : decode cX5_sure 41 = .ok (.iconst 0, 1) := by decide +kernel
theorem dX5_sure_42 : decode cX5_sure 42 = .ok (.istore 4, 2) := by decide +kernel
theorem dX5_sure_44 : decode cX5_sure 44 = .ok (.iload 4, 2) := by decide +kernel
theorem dX5_sure_46 : decode cX5_sure 46 = .ok (.aload_n 0, 1) := by decide +kernel
theorem dX5_sure_47 : decode cX5_sure 47 = .ok (.getfield 56, 3) := by decide +kernel
theorem dX5_sure_50 : decode cX5_sure 50 = .ok (.getfield 99, 3) := by decide +kernel
theorem dX5_sure_53 : decode cX5_sure 53 = .ok (.if_icmp .ge 60, 3) := by decide +kernel
theorem dX5_sure_56 : decode cX5_sure 56 = .ok (.aload_n 0, 1) := by decide +kernel
theorem dX5_sure_57 : decode cX5_sure 57 = .ok (.getfield 31, 3) := by decide +kernel
theorem dX5_sure_60 : decode cX5_sure 60 = .ok (.iload 4, 2) := by decide +kernel
theorem dX5_sure_62 : decode cX5_sure 62 = .ok (.iconst 1, 1) := by decide +kernel
theorem dX5_sure_63 : decode cX5_sure 63 = .ok (.iadd, 1) := by decide +kernel
theorem dX5_sure_64 : decode cX5_sure 64 = .ok (.invokevirtual 162, 3) := by decide +kernel
theorem dX5_sure_67 : decode cX5_sure 67 = .ok (.lstore 5, 2) := by decide +kernel
theorem dX5_sure_69 : decode cX5_sure 69 = .ok (.lload 5, 2) := by decide +kernel
theorem dX5_sure_71 : decode cX5_sure 71 = .ok (.lconst 0, 1) := by decide +kernel
theorem dX5_sure_72 : decode cX5_sure 72 = .ok (.lcmp, 1) := by decide +kernel
theorem dX5_sure_73 : decode cX5_sure 73 = .ok (.ifCond .le 34, 3) := by decide +kernel
theorem dX5_sure_76 : decode cX5_sure 76 = .ok (.lload 5, 2) := by decide +kernel
theorem dX5_sure_78 : decode cX5_sure 78 = .ok (.ldc2_w 186, 3) := by decide +kernel
theorem dX5_sure_81 : decode cX5_sure 81 = .ok (.lmul, 1) := by decide +kernel
theorem dX5_sure_82 : decode cX5_sure 82 = .ok (.iload_n 2, 1) := by decide +kernel
theorem dX5_sure_83 : decode cX5_sure 83 = .ok (.i2l, 1) := by decide +kernel
theorem dX5_sure_84 : decode cX5_sure 84 = .ok (.ldc2_w 171, 3) := by decide +kernel
theorem dX5_sure_87 : decode cX5_sure 87 = .ok (.lmul, 1) := by decide +kernel
theorem dX5_sure_88 : decode cX5_sure 88 = .ok (.lcmp, 1) := by decide +kernel
theorem dX5_sure_89 : decode cX5_sure 89 = .ok (.ifCond .lt 18, 3) := by decide +kernel
theorem dX5_sure_92 : decode cX5_sure 92 = .ok (.iload_n 3, 1) := by decide +kernel
theorem dX5_sure_93 : decode cX5_sure 93 = .ok (.aload_n 0, 1) := by decide +kernel
theorem dX5_sure_94 : decode cX5_sure 94 = .ok (.getfield 56, 3) := by decide +kernel
theorem dX5_sure_97 : decode cX5_sure 97 = .ok (.iload 4, 2) := by decide +kernel
end
section
/-! THE CORE. KT: all that a frame of the machine stands in; GT: where things lie; V: from any heap that holds the world w, with these locals and this stack, W. -/
abbrev KT : Type := Program × Launch × Env × Room × State × MethodId × Array Value × List Frame × Method × Code × (State → Prop) × Nat × Nat × Nat
abbrev GT : Type := va_G × Nat × (Nat → Nat) × (Nat → Nat) × (Nat → ClassId) × (Nat → Nat) × (Nat → Nat) × (Nat → Nat)
abbrev gD (G : GT) : va_G := G.1
def gA (G : GT) : Nat → Prop := fun q => G.2.1 ≤ q
abbrev aX (G : GT) : Nat → Nat := G.2.2.1
abbrev aM (G : GT) : Nat → Nat := G.2.2.2.1
abbrev gC (G : GT) : Nat → ClassId := G.2.2.2.2.1
abbrev gT (G : GT) : Nat → Nat := G.2.2.2.2.2.1
abbrev gK (G : GT) : Nat → Nat := G.2.2.2.2.2.2.1
abbrev gV (G : GT) : Nat → Nat := G.2.2.2.2.2.2.2
def tysG (G : GT) : List (ClassId × FieldType) := [(gC G 0, .int), (gC G 1, .long), (gC G 2, .byte), (gC G 3, .boolean), (gC G 4, .object "TreeClimb$Moment"), (gC G 5, .array .int)]
def tabs : List (String × List Int32) := [("FIRST_TUNE", [3, 2, 2, 4, 3, 0]), ("LEAST_OF_BRANCH", [1, 0, 1, 0]), ("MOST_OF_BRANCH", [99, 7, 30, 10]), ("LEAST_OF_BODY", [1, 1, 0]), ("MOST_OF_BODY", [30, 99, 9]), ("LEAST_TUNE", [1, 0, 0, 0, 1, 0]), ("MOST_TUNE", [9, 4, 9, 10, 9, 20])]
def tnm (i : Nat) : String := (tabs.getD i ("", [])).1
def tvl (i : Nat) : List Int32 := (tabs.getD i ("", [])).2
def strs : List (String × Nat × List Int32) := [("branch", 55, [98, 114, 97, 110, 99, 104]), ("wet", 61, [119, 101, 116]), ("nest", 63, [110, 101, 115, 116]), ("body", 65, [98, 111, 100, 121])]
def sTx (i : Nat) : String := (strs.getD i ("", 0, [])).1
def sIx (i : Nat) : Nat := (strs.getD i ("", 0, [])).2.1
def sByt : List (List Int32) := strs.map fun x => x.2.2
def sLen : List Nat := sByt.map List.length
def nestW : List (String × Nat × MethodName × String) := [(RX5, 23, yX2_init, RX5), (RX5, 30, yX3_init, RX5), (RX5, 37, yX0_init, RX5), (RX5, 44, yX1_init, RX5), (RX5, 55, yX4_init, RX5), (RX3, 54, yX5_has, RX5)]
/-- what lies below: tables, strings, statics, links of nest mates -/
def Stat (G : GT) (U : State) (H : Heap) : Prop :=
  (∀ i : Nat, i < 7 → va_Z "TreeClimb" (tnm i) "[I" (.ref (gT G i)) (gA G) U H ∧ va_T .int (gT G i) (tvl i).length (fun j => .int ((tvl i).getD j 0)) (gA G) U H) ∧
  vk_S 4 sLen sByt (gK G) (gV G) (gA G) U H ∧
  (∀ i : Nat, i < 4 → vk_R "TreeClimb$Text" (sIx i) (sTx i) (gK G i) U) ∧
  va_Z "java/lang/String" "COMPACT_STRINGS" "Z" (.int 1) (gA G) U H ∧
  va_Zq "jdk/internal/util/Preconditions" "SIOOBE_FORMATTER" "Ljava/util/function/BiFunction;" (gA G) U H ∧
  ∀ x ∈ nestW, va_Nw (.methodLinkNest x.1 x.2.1 x.2.2.1 x.2.2.2) U
theorem Stat.go {G : GT} {s U : State} {H : Heap} {locs : List Loc} (h : Stat G s s.heap) (hS : va_S (gA G) s.heap H locs) (hW : s.WarmedH U.vm) : Stat G U H := by
  obtain ⟨h1, h2, h3, h4, h5, h6⟩ := h
  exact ⟨fun i hi => ⟨((h1 i hi).1.moved hW.alike).kept hS.2.1, ((h1 i hi).2.moved hW.alike).kept hS.2.1⟩, (h2.moved hW.alike).kept hS.2.1, fun i hi => (h3 i hi).warm hW, (h4.moved hW.alike).kept hS.2.1, (h5.moved hW.alike).kept hS.2.1, fun x hx => va_Nw.warmM hW (h6 x hx)⟩
/-- the picture of a world, of a state -/
def PW (G : GT) (w : va_W) (U : State) : Prop := G.2.1 ≤ U.heap.size ∧ va_P G.1 vwCl w U.heap ∧ va_K G.1 vwCl (tysG G) U ∧ va_D (gA G) w ∧ Stat G U U.heap
def V (G : GT) (K : KT) (w : va_W) (pc : Nat) (lv : List (Nat × Value)) (st : List Value) : Prop :=
  match K with
  | (p, l, e, R, s, m, args, below, meth, c, Q, cells, slots, nL) => ∀ (H : Heap) (locs : List Loc) (ls : Array Slot), va_P G.1 vwCl w H → va_D (gA G) w → va_S (gA G) s.heap H locs → lv_has ls nL lv → W p l e R s m args below meth c H locs cells slots Q (F0 m pc ls st)
def Ctx (G : GT) (K : KT) (cc : ByteArray) (own : String) (nl fr lo : Nat) : Prop :=
  match K with
  | (p, _, _, R, s, m, args, _, meth, c, _, cells, slots, nL) => p.tables.exec = Jvm.exec ∧ c.code = cc ∧ c.maxLocals = nL ∧ s.vm.findClass own = some m.cls ∧ (∀ w ∈ wsL_law, w.before args s = true) ∧ meth.locks = false ∧ va_K G.1 vwCl (tysG G) s ∧ Stat G s s.heap ∧ G.2.1 ≤ s.heap.size ∧ fr ≤ R.frames ∧ lo ≤ R.locals ∧ cells ≤ R.cells ∧ slots ≤ R.slots ∧ nL = nl
def tp {α : Type} (x : Option α) (Φ : α → Prop) : Prop := ∃ a, x = some a ∧ Φ a
theorem tp_some {α : Type} {a : α} {Φ : α → Prop} (h : Φ a) : tp (some a) Φ := ⟨a, rfl, h⟩
theorem tp_of {α : Type} {x : Option α} {a : α} {Φ : α → Prop} (hx : x = some a) (h : Φ a) : tp x Φ := ⟨a, hx, h⟩
theorem tp_eq {α : Type} {x y : Option α} {Φ : α → Prop} {X : Prop} (h : x = y) (k : tp y Φ → X) : tp x Φ → X := fun q => k (h ▸ q)
theorem tp_no {α : Type} {Φ : α → Prop} {X : Prop} : tp (none : Option α) Φ → X := fun ⟨_, h, _⟩ => by cases h
theorem tp_out {α : Type} {a : α} {Φ : α → Prop} {X : Prop} (k : Φ a → X) : tp (some a) Φ → X := fun ⟨_, h, q⟩ => by cases h; exact k q
/-- a name for a value -/
def lt {α β : Type} (a : α) (f : α → β) : β := f a
/-- a guard -/
def gd {α : Type} (c : Prop) [Decidable c] (x : Option α) : Option α := if c then x else none
/-- a call whose answer goes on -/
def bd {α β : Type} (x : Option α) (f : α → Option β) : Option β := match x with | some a => f a | none => none
def bd2 {α β γ : Type} (x : Option (α × β)) (f : α → β → Option γ) : Option γ := match x with | some a => f a.1 a.2 | none => none
def u2 {α β : Type} (Ψ : α → β → Prop) : α × β → Prop := fun o => Ψ o.1 o.2
/-- a loop with a way out by a return: .inl: it ends, .inr: it returns -/
def bdS {α ρ β : Type} (x : Option (α ⊕ ρ)) (f : α → Option β) (g : ρ → Option β) : Option β := match x with | some (.inl a) => f a | some (.inr r) => g r | none => none
def uS {α ρ : Type} (Ψ : α → Prop) (Φ : ρ → Prop) : α ⊕ ρ → Prop := fun o => match o with | .inl a => Ψ a | .inr r => Φ r
theorem r_bd {α β : Type} {x : Option α} {f : α → Option β} {Φ : β → Prop} {X : Prop} (k : tp x (fun a => tp (f a) Φ) → X) : tp (bd x f) Φ → X := by
  intro ⟨b, h, q⟩
  cases x with
  | none => cases h
  | some a => exact k ⟨a, rfl, b, h, q⟩
theorem r_bd2 {α β γ : Type} {x : Option (α × β)} {f : α → β → Option γ} {Φ : γ → Prop} {X : Prop} (k : tp x (u2 fun a b => tp (f a b) Φ) → X) : tp (bd2 x f) Φ → X := by
  intro ⟨b, h, q⟩
  cases x with
  | none => cases h
  | some a => exact k ⟨a, rfl, b, h, q⟩
theorem r_bdS {α ρ β : Type} {x : Option (α ⊕ ρ)} {f : α → Option β} {g : ρ → Option β} {Φ : β → Prop} {X : Prop} (k : tp x (uS (fun a => tp (f a) Φ) (fun r => tp (g r) Φ)) → X) : tp (bdS x f g) Φ → X := by
  intro ⟨b, h, q⟩
  cases x with
  | none => cases h
  | some a =>
    cases a with
    | inl a => exact k ⟨.inl a, rfl, b, h, q⟩
    | inr r => exact k ⟨.inr r, rfl, b, h, q⟩
theorem r_if {α : Type} {c : Prop} [Decidable c] {A B : Option α} {Φ : α → Prop} {X : Prop} (ka : c → tp A Φ → X) (kb : ¬ c → tp B Φ → X) : tp (if c then A else B) Φ → X := by
  intro h
  by_cases hc : c
  · rw [if_pos hc] at h; exact ka hc h
  · rw [if_neg hc] at h; exact kb hc h
theorem r_gd {α : Type} {c : Prop} [Decidable c] {A : Option α} {Φ : α → Prop} {X : Prop} (ka : c → tp A Φ → X) : tp (gd c A) Φ → X := by
  intro h
  unfold gd at h
  by_cases hc : c
  · rw [if_pos hc] at h; exact ka hc h
  · rw [if_neg hc] at h; exact tp_no h
theorem r_lt {α β : Type} {a : α} {f : α → Option β} {Φ : β → Prop} {X : α → Prop} (k : ∀ x, tp (f x) Φ → X x) : tp (lt a f) Φ → X a := fun h => k a h
theorem r_lj {α β : Type} {a : α} {f : α → Option β} {Φ : β → Prop} {X : Prop} {J : α → Prop} (hj : J a) (k : ∀ x, J x → tp (f x) Φ → X) : tp (lt a f) Φ → X := fun h => k a hj h

section ROWS
variable {G : GT} {K : KT} {cc : ByteArray} {own : String} {nl fr lo : Nat} {w w' : va_W} {pc : Nat} {lv lv' : List (Nat × Value)} {rest st : List Value} {F : Prop} {cells slots : Nat}

theorem v_iadd (C : Ctx G K cc own nl fr lo) {x y : Int32} (hd : decode cc pc = .ok (.iadd, 1)) (k : F → V G K w (pc + 1) lv (.int (x + y) :: rest)) : F → V G K w pc lv (.int y :: .int x :: rest) := by
  obtain ⟨p, l, e, R, s, m, args, below, meth, c, Q, cells, slots, nL⟩ := K
  obtain ⟨hx, hb, hml, hown, hts, hlk, hK, hst, hN, hfr, hlo, hc, hs, rfl⟩ := C
  intro hF H locs ls hP hD hS hl
  exact lv_iadd hx hb hd (k hF H locs ls hP hD hS hl)
theorem v_isub (C : Ctx G K cc own nl fr lo) {x y : Int32} (hd : decode cc pc = .ok (.isub, 1)) (k : F → V G K w (pc + 1) lv (.int (x - y) :: rest)) : F → V G K w pc lv (.int y :: .int x :: rest) := by
  obtain ⟨p, l, e, R, s, m, args, below, meth, c, Q, cells, slots, nL⟩ := K
  obtain ⟨hx, hb, hml, hown, hts, hlk, hK, hst, hN, hfr, hlo, hc, hs, rfl⟩ := C
  intro hF H locs ls hP hD hS hl
  exact lv_isub hx hb hd (k hF H locs ls hP hD hS hl)
theorem v_imul (C : Ctx G K cc own nl fr lo) {x y : Int32} (hd : decode cc pc = .ok (.imul, 1)) (k : F → V G K w (pc + 1) lv (.int (x * y) :: rest)) : F → V G K w pc lv (.int y :: .int x :: rest) := by
  obtain ⟨p, l, e, R, s, m, args, below, meth, c, Q, cells, slots, nL⟩ := K
  obtain ⟨hx, hb, hml, hown, hts, hlk, hK, hst, hN, hfr, hlo, hc, hs, rfl⟩ := C
  intro hF H locs ls hP hD hS hl
  exact lv_imul hx hb hd (k hF H locs ls hP hD hS hl)
theorem v_iand (C : Ctx G K cc own nl fr lo) {x y : Int32} (hd : decode cc pc = .ok (.iand, 1)) (k : F → V G K w (pc + 1) lv (.int (x &&& y) :: rest)) : F → V G K w pc lv (.int y :: .int x :: rest) := by
  obtain ⟨p, l, e, R, s, m, args, below, meth, c, Q, cells, slots, nL⟩ := K
  obtain ⟨hx, hb, hml, hown, hts, hlk, hK, hst, hN, hfr, hlo, hc, hs, rfl⟩ := C
  intro hF H locs ls hP hD hS hl
  exact lv_iand hx hb hd (k hF H locs ls hP hD hS hl)
theorem v_ior (C : Ctx G K cc own nl fr lo) {x y : Int32} (hd : decode cc pc = .ok (.ior, 1)) (k : F → V G K w (pc + 1) lv (.int (x ||| y) :: rest)) : F → V G K w pc lv (.int y :: .int x :: rest) := by
  obtain ⟨p, l, e, R, s, m, args, below, meth, c, Q, cells, slots, nL⟩ := K
  obtain ⟨hx, hb, hml, hown, hts, hlk, hK, hst, hN, hfr, hlo, hc, hs, rfl⟩ := C
  intro hF H locs ls hP hD hS hl
  exact lv_ior hx hb hd (k hF H locs ls hP hD hS hl)
theorem v_ixor (C : Ctx G K cc own nl fr lo) {x y : Int32} (hd : decode cc pc = .ok (.ixor, 1)) (k : F → V G K w (pc + 1) lv (.int (x ^^^ y) :: rest)) : F → V G K w pc lv (.int y :: .int x :: rest) := by
  obtain ⟨p, l, e, R, s, m, args, below, meth, c, Q, cells, slots, nL⟩ := K
  obtain ⟨hx, hb, hml, hown, hts, hlk, hK, hst, hN, hfr, hlo, hc, hs, rfl⟩ := C
  intro hF H locs ls hP hD hS hl
  exact lv_ixor hx hb hd (k hF H locs ls hP hD hS hl)
theorem v_ishl (C : Ctx G K cc own nl fr lo) {x y : Int32} (hd : decode cc pc = .ok (.ishl, 1)) (k : F → V G K w (pc + 1) lv (.int (x <<< (y &&& 31)) :: rest)) : F → V G K w pc lv (.int y :: .int x :: rest) := by
  obtain ⟨p, l, e, R, s, m, args, below, meth, c, Q, cells, slots, nL⟩ := K
  obtain ⟨hx, hb, hml, hown, hts, hlk, hK, hst, hN, hfr, hlo, hc, hs, rfl⟩ := C
  intro hF H locs ls hP hD hS hl
  exact lv_ishl hx hb hd (k hF H locs ls hP hD hS hl)
theorem v_ishr (C : Ctx G K cc own nl fr lo) {x y : Int32} (hd : decode cc pc = .ok (.ishr, 1)) (k : F → V G K w (pc + 1) lv (.int (x >>> (y &&& 31)) :: rest)) : F → V G K w pc lv (.int y :: .int x :: rest) := by
  obtain ⟨p, l, e, R, s, m, args, below, meth, c, Q, cells, slots, nL⟩ := K
  obtain ⟨hx, hb, hml, hown, hts, hlk, hK, hst, hN, hfr, hlo, hc, hs, rfl⟩ := C
  intro hF H locs ls hP hD hS hl
  exact lv_ishr hx hb hd (k hF H locs ls hP hD hS hl)
theorem v_idiv (C : Ctx G K cc own nl fr lo) {x y : Int32} (hd : decode cc pc = .ok (.idiv, 1)) (hne : ¬ y = 0) (k : F → V G K w (pc + 1) lv (.int (x / y) :: rest)) : F → V G K w pc lv (.int y :: .int x :: rest) := by
  obtain ⟨p, l, e, R, s, m, args, below, meth, c, Q, cells, slots, nL⟩ := K
  obtain ⟨hx, hb, hml, hown, hts, hlk, hK, hst, hN, hfr, hlo, hc, hs, rfl⟩ := C
  intro hF H locs ls hP hD hS hl
  exact lv_idiv hx hb hd hne (k hF H locs ls hP hD hS hl)
theorem v_irem (C : Ctx G K cc own nl fr lo) {x y : Int32} (hd : decode cc pc = .ok (.irem, 1)) (hne : ¬ y = 0) (k : F → V G K w (pc + 1) lv (.int (x - x / y * y) :: rest)) : F → V G K w pc lv (.int y :: .int x :: rest) := by
  obtain ⟨p, l, e, R, s, m, args, below, meth, c, Q, cells, slots, nL⟩ := K
  obtain ⟨hx, hb, hml, hown, hts, hlk, hK, hst, hN, hfr, hlo, hc, hs, rfl⟩ := C
  intro hF H locs ls hP hD hS hl
  exact lv_irem hx hb hd hne (k hF H locs ls hP hD hS hl)
theorem v_ladd (C : Ctx G K cc own nl fr lo) {x y : Int64} (hd : decode cc pc = .ok (.ladd, 1)) (k : F → V G K w (pc + 1) lv (.long (x + y) :: rest)) : F → V G K w pc lv (.long y :: .long x :: rest) := by
  obtain ⟨p, l, e, R, s, m, args, below, meth, c, Q, cells, slots, nL⟩ := K
  obtain ⟨hx, hb, hml, hown, hts, hlk, hK, hst, hN, hfr, hlo, hc, hs, rfl⟩ := C
  intro hF H locs ls hP hD hS hl
  exact lv_ladd hx hb hd (k hF H locs ls hP hD hS hl)
theorem v_lsub (C : Ctx G K cc own nl fr lo) {x y : Int64} (hd : decode cc pc = .ok (.lsub, 1)) (k : F → V G K w (pc + 1) lv (.long (x - y) :: rest)) : F → V G K w pc lv (.long y :: .long x :: rest) := by
  obtain ⟨p, l, e, R, s, m, args, below, meth, c, Q, cells, slots, nL⟩ := K
  obtain ⟨hx, hb, hml, hown, hts, hlk, hK, hst, hN, hfr, hlo, hc, hs, rfl⟩ := C
  intro hF H locs ls hP hD hS hl
  exact lv_lsub hx hb hd (k hF H locs ls hP hD hS hl)
theorem v_lmul (C : Ctx G K cc own nl fr lo) {x y : Int64} (hd : decode cc pc = .ok (.lmul, 1)) (k : F → V G K w (pc + 1) lv (.long (x * y) :: rest)) : F → V G K w pc lv (.long y :: .long x :: rest) := by
  obtain ⟨p, l, e, R, s, m, args, below, meth, c, Q, cells, slots, nL⟩ := K
  obtain ⟨hx, hb, hml, hown, hts, hlk, hK, hst, hN, hfr, hlo, hc, hs, rfl⟩ := C
  intro hF H locs ls hP hD hS hl
  exact lv_lmul hx hb hd (k hF H locs ls hP hD hS hl)
theorem v_land (C : Ctx G K cc own nl fr lo) {x y : Int64} (hd : decode cc pc = .ok (.land, 1)) (k : F → V G K w (pc + 1) lv (.long (x &&& y) :: rest)) : F → V G K w pc lv (.long y :: .long x :: rest) := by
  obtain ⟨p, l, e, R, s, m, args, below, meth, c, Q, cells, slots, nL⟩ := K
  obtain ⟨hx, hb, hml, hown, hts, hlk, hK, hst, hN, hfr, hlo, hc, hs, rfl⟩ := C
  intro hF H locs ls hP hD hS hl
  exact lv_land hx hb hd (k hF H locs ls hP hD hS hl)
theorem v_lor (C : Ctx G K cc own nl fr lo) {x y : Int64} (hd : decode cc pc = .ok (.lor, 1)) (k : F → V G K w (pc + 1) lv (.long (x ||| y) :: rest)) : F → V G K w pc lv (.long y :: .long x :: rest) := by
  obtain ⟨p, l, e, R, s, m, args, below, meth, c, Q, cells, slots, nL⟩ := K
  obtain ⟨hx, hb, hml, hown, hts, hlk, hK, hst, hN, hfr, hlo, hc, hs, rfl⟩ := C
  intro hF H locs ls hP hD hS hl
  exact lv_lor hx hb hd (k hF H locs ls hP hD hS hl)
theorem v_ldiv (C : Ctx G K cc own nl fr lo) {x y : Int64} (hd : decode cc pc = .ok (.ldiv, 1)) (hne : ¬ y = 0) (k : F → V G K w (pc + 1) lv (.long (x / y) :: rest)) : F → V G K w pc lv (.long y :: .long x :: rest) := by
  obtain ⟨p, l, e, R, s, m, args, below, meth, c, Q, cells, slots, nL⟩ := K
  obtain ⟨hx, hb, hml, hown, hts, hlk, hK, hst, hN, hfr, hlo, hc, hs, rfl⟩ := C
  intro hF H locs ls hP hD hS hl
  exact lv_ldiv hx hb hd hne (k hF H locs ls hP hD hS hl)
theorem v_lrem (C : Ctx G K cc own nl fr lo) {x y : Int64} (hd : decode cc pc = .ok (.lrem, 1)) (hne : ¬ y = 0) (k : F → V G K w (pc + 1) lv (.long (x - x / y * y) :: rest)) : F → V G K w pc lv (.long y :: .long x :: rest) := by
  obtain ⟨p, l, e, R, s, m, args, below, meth, c, Q, cells, slots, nL⟩ := K
  obtain ⟨hx, hb, hml, hown, hts, hlk, hK, hst, hN, hfr, hlo, hc, hs, rfl⟩ := C
  intro hF H locs ls hP hD hS hl
  exact lv_lrem hx hb hd hne (k hF H locs ls hP hD hS hl)
theorem v_ineg (C : Ctx G K cc own nl fr lo) {x : Int32} (hd : decode cc pc = .ok (.ineg, 1)) (k : F → V G K w (pc + 1) lv (.int (-x) :: rest)) : F → V G K w pc lv (.int x :: rest) := by
  obtain ⟨p, l, e, R, s, m, args, below, meth, c, Q, cells, slots, nL⟩ := K
  obtain ⟨hx, hb, hml, hown, hts, hlk, hK, hst, hN, hfr, hlo, hc, hs, rfl⟩ := C
  intro hF H locs ls hP hD hS hl
  exact lv_ineg hx hb hd (k hF H locs ls hP hD hS hl)
theorem v_iushr (C : Ctx G K cc own nl fr lo) {x y : Int32} (hd : decode cc pc = .ok (.iushr, 1)) (k : F → V G K w (pc + 1) lv (.int (x.toUInt32 >>> (y.toUInt32 &&& Int32.toUInt32 31)).toInt32 :: rest)) : F → V G K w pc lv (.int y :: .int x :: rest) := by
  obtain ⟨p, l, e, R, s, m, args, below, meth, c, Q, cells, slots, nL⟩ := K
  obtain ⟨hx, hb, hml, hown, hts, hlk, hK, hst, hN, hfr, hlo, hc, hs, rfl⟩ := C
  intro hF H locs ls hP hD hS hl
  exact lv_iushr hx hb hd rfl (k hF H locs ls hP hD hS hl)
theorem v_lushr (C : Ctx G K cc own nl fr lo) {x : Int64} {y : Int32} (hd : decode cc pc = .ok (.lushr, 1)) (k : F → V G K w (pc + 1) lv (.long (x.toUInt64 >>> (y.toInt64.toUInt64 &&& Int64.toUInt64 63)).toInt64 :: rest)) : F → V G K w pc lv (.int y :: .long x :: rest) := by
  obtain ⟨p, l, e, R, s, m, args, below, meth, c, Q, cells, slots, nL⟩ := K
  obtain ⟨hx, hb, hml, hown, hts, hlk, hK, hst, hN, hfr, hlo, hc, hs, rfl⟩ := C
  intro hF H locs ls hP hD hS hl
  exact lv_lushr hx hb hd rfl (k hF H locs ls hP hD hS hl)
theorem v_lshl (C : Ctx G K cc own nl fr lo) {x : Int64} {y : Int32} (hd : decode cc pc = .ok (.lshl, 1)) (k : F → V G K w (pc + 1) lv (.long (x <<< (y.toInt64 &&& 63)) :: rest)) : F → V G K w pc lv (.int y :: .long x :: rest) := by
  obtain ⟨p, l, e, R, s, m, args, below, meth, c, Q, cells, slots, nL⟩ := K
  obtain ⟨hx, hb, hml, hown, hts, hlk, hK, hst, hN, hfr, hlo, hc, hs, rfl⟩ := C
  intro hF H locs ls hP hD hS hl
  exact lv_lshl hx hb hd rfl (k hF H locs ls hP hD hS hl)
theorem v_lshr (C : Ctx G K cc own nl fr lo) {x : Int64} {y : Int32} (hd : decode cc pc = .ok (.lshr, 1)) (k : F → V G K w (pc + 1) lv (.long (x >>> (y.toInt64 &&& 63)) :: rest)) : F → V G K w pc lv (.int y :: .long x :: rest) := by
  obtain ⟨p, l, e, R, s, m, args, below, meth, c, Q, cells, slots, nL⟩ := K
  obtain ⟨hx, hb, hml, hown, hts, hlk, hK, hst, hN, hfr, hlo, hc, hs, rfl⟩ := C
  intro hF H locs ls hP hD hS hl
  exact lv_lshr hx hb hd rfl (k hF H locs ls hP hD hS hl)
theorem v_i2l (C : Ctx G K cc own nl fr lo) {x : Int32} (hd : decode cc pc = .ok (.i2l, 1)) (k : F → V G K w (pc + 1) lv (.long x.toInt64 :: rest)) : F → V G K w pc lv (.int x :: rest) := by
  obtain ⟨p, l, e, R, s, m, args, below, meth, c, Q, cells, slots, nL⟩ := K
  obtain ⟨hx, hb, hml, hown, hts, hlk, hK, hst, hN, hfr, hlo, hc, hs, rfl⟩ := C
  intro hF H locs ls hP hD hS hl
  exact lv_i2l hx hb hd rfl (k hF H locs ls hP hD hS hl)
theorem v_l2i (C : Ctx G K cc own nl fr lo) {x : Int64} (hd : decode cc pc = .ok (.l2i, 1)) (k : F → V G K w (pc + 1) lv (.int x.toInt32 :: rest)) : F → V G K w pc lv (.long x :: rest) := by
  obtain ⟨p, l, e, R, s, m, args, below, meth, c, Q, cells, slots, nL⟩ := K
  obtain ⟨hx, hb, hml, hown, hts, hlk, hK, hst, hN, hfr, hlo, hc, hs, rfl⟩ := C
  intro hF H locs ls hP hD hS hl
  exact lv_l2i hx hb hd rfl (k hF H locs ls hP hD hS hl)
theorem v_i2b (C : Ctx G K cc own nl fr lo) {x : Int32} (hd : decode cc pc = .ok (.i2b, 1)) (k : F → V G K w (pc + 1) lv (.int x.toInt8.toInt32 :: rest)) : F → V G K w pc lv (.int x :: rest) := by
  obtain ⟨p, l, e, R, s, m, args, below, meth, c, Q, cells, slots, nL⟩ := K
  obtain ⟨hx, hb, hml, hown, hts, hlk, hK, hst, hN, hfr, hlo, hc, hs, rfl⟩ := C
  intro hF H locs ls hP hD hS hl
  exact lv_i2b hx hb hd rfl (k hF H locs ls hP hD hS hl)
theorem v_i2c (C : Ctx G K cc own nl fr lo) {x : Int32} (hd : decode cc pc = .ok (.i2c, 1)) (k : F → V G K w (pc + 1) lv (.int (x.toUInt32 % 65536).toInt32 :: rest)) : F → V G K w pc lv (.int x :: rest) := by
  obtain ⟨p, l, e, R, s, m, args, below, meth, c, Q, cells, slots, nL⟩ := K
  obtain ⟨hx, hb, hml, hown, hts, hlk, hK, hst, hN, hfr, hlo, hc, hs, rfl⟩ := C
  intro hF H locs ls hP hD hS hl
  exact lv_i2c hx hb hd rfl (k hF H locs ls hP hD hS hl)
theorem v_lcmp (C : Ctx G K cc own nl fr lo) {x y : Int64} (hd : decode cc pc = .ok (.lcmp, 1)) (k : F → V G K w (pc + 1) lv (.int (lg_cmp x y) :: rest)) : F → V G K w pc lv (.long y :: .long x :: rest) := by
  obtain ⟨p, l, e, R, s, m, args, below, meth, c, Q, cells, slots, nL⟩ := K
  obtain ⟨hx, hb, hml, hown, hts, hlk, hK, hst, hN, hfr, hlo, hc, hs, rfl⟩ := C
  intro hF H locs ls hP hD hS hl
  exact W.lcmp hx hb hd (k hF H locs ls hP hD hS hl)
theorem v_iconst (C : Ctx G K cc own nl fr lo) {n : Int} (v : Int32) (hd : decode cc pc = .ok (.iconst n, 1)) (hv : Int32.ofInt n = v) (k : F → V G K w (pc + 1) lv (.int v :: st)) : F → V G K w pc lv st := by
  obtain ⟨p, l, e, R, s, m, args, below, meth, c, Q, cells, slots, nL⟩ := K
  obtain ⟨hx, hb, hml, hown, hts, hlk, hK, hst, hN, hfr, hlo, hc, hs, rfl⟩ := C
  intro hF H locs ls hP hD hS hl
  exact lv_iconst hx hb hd hv (k hF H locs ls hP hD hS hl)
theorem v_bipush (C : Ctx G K cc own nl fr lo) {n : Int} (v : Int32) (hd : decode cc pc = .ok (.bipush n, 2)) (hv : (Int8.ofInt n).toInt32 = v) (k : F → V G K w (pc + 2) lv (.int v :: st)) : F → V G K w pc lv st := by
  obtain ⟨p, l, e, R, s, m, args, below, meth, c, Q, cells, slots, nL⟩ := K
  obtain ⟨hx, hb, hml, hown, hts, hlk, hK, hst, hN, hfr, hlo, hc, hs, rfl⟩ := C
  intro hF H locs ls hP hD hS hl
  exact lv_bipush hx hb hd hv (k hF H locs ls hP hD hS hl)
theorem v_sipush (C : Ctx G K cc own nl fr lo) {n : Int} (v : Int32) (hd : decode cc pc = .ok (.sipush n, 3)) (hv : (Int16.ofInt n).toInt32 = v) (k : F → V G K w (pc + 3) lv (.int v :: st)) : F → V G K w pc lv st := by
  obtain ⟨p, l, e, R, s, m, args, below, meth, c, Q, cells, slots, nL⟩ := K
  obtain ⟨hx, hb, hml, hown, hts, hlk, hK, hst, hN, hfr, hlo, hc, hs, rfl⟩ := C
  intro hF H locs ls hP hD hS hl
  exact lv_sipush hx hb hd hv (k hF H locs ls hP hD hS hl)
theorem v_lconst (C : Ctx G K cc own nl fr lo) {n : Fin 2} (v : Int64) (hd : decode cc pc = .ok (.lconst n, 1)) (hv : Int64.ofNat (n : Nat) = v) (k : F → V G K w (pc + 1) lv (.long v :: st)) : F → V G K w pc lv st := by
  obtain ⟨p, l, e, R, s, m, args, below, meth, c, Q, cells, slots, nL⟩ := K
  obtain ⟨hx, hb, hml, hown, hts, hlk, hK, hst, hN, hfr, hlo, hc, hs, rfl⟩ := C
  intro hF H locs ls hP hD hS hl
  exact lv_lconst hx hb hd hv (k hF H locs ls hP hD hS hl)
theorem v_ldc (C : Ctx G K cc own nl fr lo) {index : Nat} {v : Int32} (hq : Cond.constant own index v ∈ wsL_law) (hd : decode cc pc = .ok (.ldc index, 2)) (k : F → V G K w (pc + 2) lv (.int v :: st)) : F → V G K w pc lv st := by
  obtain ⟨p, l, e, R, s, m, args, below, meth, c, Q, cells, slots, nL⟩ := K
  obtain ⟨hx, hb, hml, hown, hts, hlk, hK, hst, hN, hfr, hlo, hc, hs, rfl⟩ := C
  intro hF H locs ls hP hD hS hl
  exact lv_ldc hx hb hown (hts _ hq) hd (k hF H locs ls hP hD hS hl)
theorem v_ldc2 (C : Ctx G K cc own nl fr lo) {index : Nat} {v : Int64} (hq : Cond.constantLong own index v ∈ wsL_law) (hd : decode cc pc = .ok (.ldc2_w index, 3)) (k : F → V G K w (pc + 3) lv (.long v :: st)) : F → V G K w pc lv st := by
  obtain ⟨p, l, e, R, s, m, args, below, meth, c, Q, cells, slots, nL⟩ := K
  obtain ⟨hx, hb, hml, hown, hts, hlk, hK, hst, hN, hfr, hlo, hc, hs, rfl⟩ := C
  intro hF H locs ls hP hD hS hl
  exact lv_ldc2 hx hb hown (hts _ hq) hd (k hF H locs ls hP hD hS hl)
theorem v_dup (C : Ctx G K cc own nl fr lo) {a : Value} (hd : decode cc pc = .ok (.dup, 1)) (ha : a.category = 1) (k : F → V G K w (pc + 1) lv (a :: a :: rest)) : F → V G K w pc lv (a :: rest) := by
  obtain ⟨p, l, e, R, s, m, args, below, meth, c, Q, cells, slots, nL⟩ := K
  obtain ⟨hx, hb, hml, hown, hts, hlk, hK, hst, hN, hfr, hlo, hc, hs, rfl⟩ := C
  intro hF H locs ls hP hD hS hl
  exact lv_dup hx hb hd ha (k hF H locs ls hP hD hS hl)
theorem v_pop (C : Ctx G K cc own nl fr lo) {a : Value} (hd : decode cc pc = .ok (.pop, 1)) (ha : a.category = 1) (k : F → V G K w (pc + 1) lv rest) : F → V G K w pc lv (a :: rest) := by
  obtain ⟨p, l, e, R, s, m, args, below, meth, c, Q, cells, slots, nL⟩ := K
  obtain ⟨hx, hb, hml, hown, hts, hlk, hK, hst, hN, hfr, hlo, hc, hs, rfl⟩ := C
  intro hF H locs ls hP hD hS hl
  exact lv_pop hx hb hd ha (k hF H locs ls hP hD hS hl)
theorem v_dup2 (C : Ctx G K cc own nl fr lo) {a b : Value} (hd : decode cc pc = .ok (.dup2, 1)) (ha : a.category = 1) (hb2 : b.category = 1) (k : F → V G K w (pc + 1) lv (a :: b :: a :: b :: rest)) : F → V G K w pc lv (a :: b :: rest) := by
  obtain ⟨p, l, e, R, s, m, args, below, meth, c, Q, cells, slots, nL⟩ := K
  obtain ⟨hx, hb, hml, hown, hts, hlk, hK, hst, hN, hfr, hlo, hc, hs, rfl⟩ := C
  intro hF H locs ls hP hD hS hl
  exact lv_dup2_11 hx hb hd ha hb2 (k hF H locs ls hP hD hS hl)
theorem v_dup_x1 (C : Ctx G K cc own nl fr lo) {a b : Value} (hd : decode cc pc = .ok (.dup_x1, 1)) (ha : a.category = 1) (hb2 : b.category = 1) (k : F → V G K w (pc + 1) lv (a :: b :: a :: rest)) : F → V G K w pc lv (a :: b :: rest) := by
  obtain ⟨p, l, e, R, s, m, args, below, meth, c, Q, cells, slots, nL⟩ := K
  obtain ⟨hx, hb, hml, hown, hts, hlk, hK, hst, hN, hfr, hlo, hc, hs, rfl⟩ := C
  intro hF H locs ls hP hD hS hl
  exact lv_dup_x1 hx hb hd ha hb2 (k hF H locs ls hP hD hS hl)
theorem v_iload_n (C : Ctx G K cc own nl fr lo) {kf : Fin 4} {x : Int32} (q : Nat) (hq : lv[q]? = some ((kf : Nat), .int x)) (hd : decode cc pc = .ok (.iload_n kf, 1)) (k : F → V G K w (pc + 1) lv (.int x :: st)) : F → V G K w pc lv st := by
  obtain ⟨p, l, e, R, s, m, args, below, meth, c, Q, cells, slots, nL⟩ := K
  obtain ⟨hx, hb, hml, hown, hts, hlk, hK, hst, hN, hfr, hlo, hc, hs, rfl⟩ := C
  intro hF H locs ls hP hD hS hl
  exact lv_iload_n hx hb hd rfl (lv_at hl q hq) (k hF H locs ls hP hD hS hl)
theorem v_iload (C : Ctx G K cc own nl fr lo) {i : Nat} {x : Int32} (q : Nat) (hq : lv[q]? = some (i, .int x)) (hd : decode cc pc = .ok (.iload i, 2)) (k : F → V G K w (pc + 2) lv (.int x :: st)) : F → V G K w pc lv st := by
  obtain ⟨p, l, e, R, s, m, args, below, meth, c, Q, cells, slots, nL⟩ := K
  obtain ⟨hx, hb, hml, hown, hts, hlk, hK, hst, hN, hfr, hlo, hc, hs, rfl⟩ := C
  intro hF H locs ls hP hD hS hl
  exact lv_iload hx hb hd (lv_at hl q hq) (k hF H locs ls hP hD hS hl)
theorem v_lload_n (C : Ctx G K cc own nl fr lo) {kf : Fin 4} {x : Int64} (q : Nat) (hq : lv[q]? = some ((kf : Nat), .long x)) (hd : decode cc pc = .ok (.lload_n kf, 1)) (k : F → V G K w (pc + 1) lv (.long x :: st)) : F → V G K w pc lv st := by
  obtain ⟨p, l, e, R, s, m, args, below, meth, c, Q, cells, slots, nL⟩ := K
  obtain ⟨hx, hb, hml, hown, hts, hlk, hK, hst, hN, hfr, hlo, hc, hs, rfl⟩ := C
  intro hF H locs ls hP hD hS hl
  exact lv_lload_n hx hb hd rfl (lv_at hl q hq) (k hF H locs ls hP hD hS hl)
theorem v_lload (C : Ctx G K cc own nl fr lo) {i : Nat} {x : Int64} (q : Nat) (hq : lv[q]? = some (i, .long x)) (hd : decode cc pc = .ok (.lload i, 2)) (k : F → V G K w (pc + 2) lv (.long x :: st)) : F → V G K w pc lv st := by
  obtain ⟨p, l, e, R, s, m, args, below, meth, c, Q, cells, slots, nL⟩ := K
  obtain ⟨hx, hb, hml, hown, hts, hlk, hK, hst, hN, hfr, hlo, hc, hs, rfl⟩ := C
  intro hF H locs ls hP hD hS hl
  exact lv_lload hx hb hd (lv_at hl q hq) (k hF H locs ls hP hD hS hl)
theorem v_aload_n (C : Ctx G K cc own nl fr lo) {kf : Fin 4} {x : Nat} (q : Nat) (hq : lv[q]? = some ((kf : Nat), .ref x)) (hd : decode cc pc = .ok (.aload_n kf, 1)) (k : F → V G K w (pc + 1) lv (.ref x :: st)) : F → V G K w pc lv st := by
  obtain ⟨p, l, e, R, s, m, args, below, meth, c, Q, cells, slots, nL⟩ := K
  obtain ⟨hx, hb, hml, hown, hts, hlk, hK, hst, hN, hfr, hlo, hc, hs, rfl⟩ := C
  intro hF H locs ls hP hD hS hl
  exact lv_aload_n hx hb hd rfl (lv_at hl q hq) (k hF H locs ls hP hD hS hl)
theorem v_aload (C : Ctx G K cc own nl fr lo) {i : Nat} {x : Nat} (q : Nat) (hq : lv[q]? = some (i, .ref x)) (hd : decode cc pc = .ok (.aload i, 2)) (k : F → V G K w (pc + 2) lv (.ref x :: st)) : F → V G K w pc lv st := by
  obtain ⟨p, l, e, R, s, m, args, below, meth, c, Q, cells, slots, nL⟩ := K
  obtain ⟨hx, hb, hml, hown, hts, hlk, hK, hst, hN, hfr, hlo, hc, hs, rfl⟩ := C
  intro hF H locs ls hP hD hS hl
  exact lv_aload hx hb hd (lv_at hl q hq) (k hF H locs ls hP hD hS hl)
theorem v_istore_n (C : Ctx G K cc own nl fr lo) {kf : Fin 4} {x : Int32} (hd : decode cc pc = .ok (.istore_n kf, 1)) (hn : (kf : Nat) < nl) (hl2 : ((kf : Nat), Value.int x) :: lv.filter (fun q => !(q.1 == (kf : Nat)) && !(q.1 + 1 == (kf : Nat) && q.2.category == 2)) = lv') (k : F → V G K w (pc + 1) lv' rest) : F → V G K w pc lv (.int x :: rest) := by
  obtain ⟨p, l, e, R, s, m, args, below, meth, c, Q, cells, slots, nL⟩ := K
  obtain ⟨hx, hb, hml, hown, hts, hlk, hK, hst, hN, hfr, hlo, hc, hs, rfl⟩ := C
  intro hF H locs ls hP hD hS hl
  exact lv_istore_n hx hb hd rfl hl hn hl2 (fun ls hl => (k hF H locs ls hP hD hS hl))
theorem v_istore (C : Ctx G K cc own nl fr lo) {i : Nat} {x : Int32} (hd : decode cc pc = .ok (.istore i, 2)) (hn : i < nl) (hl2 : (i, Value.int x) :: lv.filter (fun q => !(q.1 == i) && !(q.1 + 1 == i && q.2.category == 2)) = lv') (k : F → V G K w (pc + 2) lv' rest) : F → V G K w pc lv (.int x :: rest) := by
  obtain ⟨p, l, e, R, s, m, args, below, meth, c, Q, cells, slots, nL⟩ := K
  obtain ⟨hx, hb, hml, hown, hts, hlk, hK, hst, hN, hfr, hlo, hc, hs, rfl⟩ := C
  intro hF H locs ls hP hD hS hl
  exact lv_istore hx hb hd hl hn hl2 (fun ls hl => (k hF H locs ls hP hD hS hl))
theorem v_astore_n (C : Ctx G K cc own nl fr lo) {kf : Fin 4} {x : Nat} (hd : decode cc pc = .ok (.astore_n kf, 1)) (hn : (kf : Nat) < nl) (hl2 : ((kf : Nat), Value.ref x) :: lv.filter (fun q => !(q.1 == (kf : Nat)) && !(q.1 + 1 == (kf : Nat) && q.2.category == 2)) = lv') (k : F → V G K w (pc + 1) lv' rest) : F → V G K w pc lv (.ref x :: rest) := by
  obtain ⟨p, l, e, R, s, m, args, below, meth, c, Q, cells, slots, nL⟩ := K
  obtain ⟨hx, hb, hml, hown, hts, hlk, hK, hst, hN, hfr, hlo, hc, hs, rfl⟩ := C
  intro hF H locs ls hP hD hS hl
  exact lv_astore_n hx hb hd rfl hl hn hl2 (fun ls hl => (k hF H locs ls hP hD hS hl))
theorem v_astore (C : Ctx G K cc own nl fr lo) {i : Nat} {x : Nat} (hd : decode cc pc = .ok (.astore i, 2)) (hn : i < nl) (hl2 : (i, Value.ref x) :: lv.filter (fun q => !(q.1 == i) && !(q.1 + 1 == i && q.2.category == 2)) = lv') (k : F → V G K w (pc + 2) lv' rest) : F → V G K w pc lv (.ref x :: rest) := by
  obtain ⟨p, l, e, R, s, m, args, below, meth, c, Q, cells, slots, nL⟩ := K
  obtain ⟨hx, hb, hml, hown, hts, hlk, hK, hst, hN, hfr, hlo, hc, hs, rfl⟩ := C
  intro hF H locs ls hP hD hS hl
  exact lv_astore hx hb hd hl hn hl2 (fun ls hl => (k hF H locs ls hP hD hS hl))
theorem v_lstore_n (C : Ctx G K cc own nl fr lo) {kf : Fin 4} {x : Int64} (hd : decode cc pc = .ok (.lstore_n kf, 1)) (hn : (kf : Nat) + 1 < nl) (hl2 : ((kf : Nat), Value.long x) :: lv.filter (fun q => !(q.1 == (kf : Nat)) && (!(q.1 == (kf : Nat) + 1) && !(q.1 + 1 == (kf : Nat) && q.2.category == 2))) = lv') (k : F → V G K w (pc + 1) lv' rest) : F → V G K w pc lv (.long x :: rest) := by
  obtain ⟨p, l, e, R, s, m, args, below, meth, c, Q, cells, slots, nL⟩ := K
  obtain ⟨hx, hb, hml, hown, hts, hlk, hK, hst, hN, hfr, hlo, hc, hs, rfl⟩ := C
  intro hF H locs ls hP hD hS hl
  exact lv_lstore_n hx hb hd rfl hl hn hl2 (fun ls hl => (k hF H locs ls hP hD hS hl))
theorem v_lstore (C : Ctx G K cc own nl fr lo) {i : Nat} {x : Int64} (hd : decode cc pc = .ok (.lstore i, 2)) (hn : i + 1 < nl) (hl2 : (i, Value.long x) :: lv.filter (fun q => !(q.1 == i) && (!(q.1 == i + 1) && !(q.1 + 1 == i && q.2.category == 2))) = lv') (k : F → V G K w (pc + 2) lv' rest) : F → V G K w pc lv (.long x :: rest) := by
  obtain ⟨p, l, e, R, s, m, args, below, meth, c, Q, cells, slots, nL⟩ := K
  obtain ⟨hx, hb, hml, hown, hts, hlk, hK, hst, hN, hfr, hlo, hc, hs, rfl⟩ := C
  intro hF H locs ls hP hD hS hl
  exact lv_lstore hx hb hd hl hn hl2 (fun ls hl => (k hF H locs ls hP hD hS hl))
theorem v_iinc (C : Ctx G K cc own nl fr lo) {i : Nat} {n : Int} {x : Int32} (v : Int32) (q : Nat) (hd : decode cc pc = .ok (.iinc i n, 3)) (hq : lv[q]? = some (i, .int x)) (hv : Int32.ofInt n = v) (hn : i < nl) (hl2 : (i, Value.int (x + v)) :: lv.filter (fun q => !(q.1 == i) && !(q.1 + 1 == i && q.2.category == 2)) = lv') (k : F → V G K w (pc + 3) lv' st) : F → V G K w pc lv st := by
  obtain ⟨p, l, e, R, s, m, args, below, meth, c, Q, cells, slots, nL⟩ := K
  obtain ⟨hx, hb, hml, hown, hts, hlk, hK, hst, hN, hfr, hlo, hc, hs, rfl⟩ := C
  intro hF H locs ls hP hD hS hl
  exact lv_iinc hx hb hd hl hq (by rw [hv]) hn hl2 (fun ls hl => (k hF H locs ls hP hD hS hl))
theorem v_sub (ks : List Nat) (h : lv_pick lv ks = lv') (k : F → V G K w pc lv' st) : F → V G K w pc lv st := by
  obtain ⟨p, l, e, R, s, m, args, below, meth, c, Q, cells, slots, nL⟩ := K
  intro hF H locs ls hP hD hS hl
  exact k hF H locs ls hP hD hS (lv_sub hl ks h)
theorem v_goto (C : Ctx G K cc own nl fr lo) {off : Int} (tgt : Nat) (hd : decode cc pc = .ok (.goto off, 3)) (ht : (pc : Int) + off = (tgt : Int)) (k : F → V G K w tgt lv st) : F → V G K w pc lv st := by
  obtain ⟨p, l, e, R, s, m, args, below, meth, c, Q, cells, slots, nL⟩ := K
  obtain ⟨hx, hb, hml, hown, hts, hlk, hK, hst, hN, hfr, hlo, hc, hs, rfl⟩ := C
  intro hF H locs ls hP hD hS hl
  exact lv_goto hx hb hd ht (k hF H locs ls hP hD hS hl)
theorem ip {α : Type} {c : Prop} [Decidable c] {A B : Option α} {Φ : α → Prop} (h : c) (q : tp (if c then A else B) Φ) : tp A Φ := by rw [if_pos h] at q; exact q
theorem inn {α : Type} {c : Prop} [Decidable c] {A B : Option α} {Φ : α → Prop} (h : ¬ c) (q : tp (if c then A else B) Φ) : tp B Φ := by rw [if_neg h] at q; exact q
theorem n_le {x y : Int32} (h : y ≤ x) : ¬ x < y := Int32.not_lt.mpr h
theorem n_lt {x y : Int32} (h : y < x) : ¬ x ≤ y := Int32.not_le.mpr h
theorem n_nle {x y : Int32} (h : ¬ y ≤ x) : x < y := Int32.not_le.mp h
theorem n_nlt {x y : Int32} (h : ¬ y < x) : x ≤ y := Int32.not_lt.mp h
theorem v_if_eq (C : Ctx G K cc own nl fr lo) {x : Int32} {off : Int} (tgt : Nat) {α : Type} {A B : Option α} {Φ : α → Prop} [Decidable (x = 0)] (hd : decode cc pc = .ok (.ifCond .eq off, 3)) (ht : (pc : Int) + off = (tgt : Int)) (kp : tp A Φ → V G K w tgt lv rest) (kn : tp B Φ → V G K w (pc + 3) lv rest) : tp (if x = 0 then A else B) Φ → V G K w pc lv (.int x :: rest) := by
  obtain ⟨p, l, e, R, s, m, args, below, meth, c, Q, cells, slots, nL⟩ := K
  obtain ⟨hx, hb, hml, hown, hts, hlk, hK, hst, hN, hfr, hlo, hc, hs, rfl⟩ := C
  intro hF H locs ls hP hD hS hl
  exact lv_if_eq hx hb hd ht (fun h => kp (ip h hF) H locs ls hP hD hS hl) (fun h => kn (inn h hF) H locs ls hP hD hS hl)
theorem v_icmp_eq (C : Ctx G K cc own nl fr lo) {x y : Int32} {off : Int} (tgt : Nat) {α : Type} {A B : Option α} {Φ : α → Prop} [Decidable (x = y)] (hd : decode cc pc = .ok (.if_icmp .eq off, 3)) (ht : (pc : Int) + off = (tgt : Int)) (kp : tp A Φ → V G K w tgt lv rest) (kn : tp B Φ → V G K w (pc + 3) lv rest) : tp (if x = y then A else B) Φ → V G K w pc lv (.int y :: .int x :: rest) := by
  obtain ⟨p, l, e, R, s, m, args, below, meth, c, Q, cells, slots, nL⟩ := K
  obtain ⟨hx, hb, hml, hown, hts, hlk, hK, hst, hN, hfr, hlo, hc, hs, rfl⟩ := C
  intro hF H locs ls hP hD hS hl
  exact lv_icmp_eq hx hb hd ht (fun h => kp (ip h hF) H locs ls hP hD hS hl) (fun h => kn (inn h hF) H locs ls hP hD hS hl)
theorem v_if_ne (C : Ctx G K cc own nl fr lo) {x : Int32} {off : Int} (tgt : Nat) {α : Type} {A B : Option α} {Φ : α → Prop} [Decidable (x = 0)] (hd : decode cc pc = .ok (.ifCond .ne off, 3)) (ht : (pc : Int) + off = (tgt : Int)) (kp : tp A Φ → V G K w (pc + 3) lv rest) (kn : tp B Φ → V G K w tgt lv rest) : tp (if x = 0 then A else B) Φ → V G K w pc lv (.int x :: rest) := by
  obtain ⟨p, l, e, R, s, m, args, below, meth, c, Q, cells, slots, nL⟩ := K
  obtain ⟨hx, hb, hml, hown, hts, hlk, hK, hst, hN, hfr, hlo, hc, hs, rfl⟩ := C
  intro hF H locs ls hP hD hS hl
  exact lv_if_ne hx hb hd ht (fun h => kn (inn h hF) H locs ls hP hD hS hl) (fun h => kp (ip h hF) H locs ls hP hD hS hl)
theorem v_icmp_ne (C : Ctx G K cc own nl fr lo) {x y : Int32} {off : Int} (tgt : Nat) {α : Type} {A B : Option α} {Φ : α → Prop} [Decidable (x = y)] (hd : decode cc pc = .ok (.if_icmp .ne off, 3)) (ht : (pc : Int) + off = (tgt : Int)) (kp : tp A Φ → V G K w (pc + 3) lv rest) (kn : tp B Φ → V G K w tgt lv rest) : tp (if x = y then A else B) Φ → V G K w pc lv (.int y :: .int x :: rest) := by
  obtain ⟨p, l, e, R, s, m, args, below, meth, c, Q, cells, slots, nL⟩ := K
  obtain ⟨hx, hb, hml, hown, hts, hlk, hK, hst, hN, hfr, hlo, hc, hs, rfl⟩ := C
  intro hF H locs ls hP hD hS hl
  exact lv_icmp_ne hx hb hd ht (fun h => kn (inn h hF) H locs ls hP hD hS hl) (fun h => kp (ip h hF) H locs ls hP hD hS hl)
theorem v_if_lt (C : Ctx G K cc own nl fr lo) {x : Int32} {off : Int} (tgt : Nat) {α : Type} {A B : Option α} {Φ : α → Prop} [Decidable (x < 0)] (hd : decode cc pc = .ok (.ifCond .lt off, 3)) (ht : (pc : Int) + off = (tgt : Int)) (kp : tp A Φ → V G K w tgt lv rest) (kn : tp B Φ → V G K w (pc + 3) lv rest) : tp (if x < 0 then A else B) Φ → V G K w pc lv (.int x :: rest) := by
  obtain ⟨p, l, e, R, s, m, args, below, meth, c, Q, cells, slots, nL⟩ := K
  obtain ⟨hx, hb, hml, hown, hts, hlk, hK, hst, hN, hfr, hlo, hc, hs, rfl⟩ := C
  intro hF H locs ls hP hD hS hl
  exact lv_if_lt hx hb hd ht (fun h => kp (ip h hF) H locs ls hP hD hS hl) (fun h => kn (inn h hF) H locs ls hP hD hS hl)
theorem v_icmp_lt (C : Ctx G K cc own nl fr lo) {x y : Int32} {off : Int} (tgt : Nat) {α : Type} {A B : Option α} {Φ : α → Prop} [Decidable (x < y)] (hd : decode cc pc = .ok (.if_icmp .lt off, 3)) (ht : (pc : Int) + off = (tgt : Int)) (kp : tp A Φ → V G K w tgt lv rest) (kn : tp B Φ → V G K w (pc + 3) lv rest) : tp (if x < y then A else B) Φ → V G K w pc lv (.int y :: .int x :: rest) := by
  obtain ⟨p, l, e, R, s, m, args, below, meth, c, Q, cells, slots, nL⟩ := K
  obtain ⟨hx, hb, hml, hown, hts, hlk, hK, hst, hN, hfr, hlo, hc, hs, rfl⟩ := C
  intro hF H locs ls hP hD hS hl
  exact lv_icmp_lt hx hb hd ht (fun h => kp (ip h hF) H locs ls hP hD hS hl) (fun h => kn (inn h hF) H locs ls hP hD hS hl)
theorem v_if_ge (C : Ctx G K cc own nl fr lo) {x : Int32} {off : Int} (tgt : Nat) {α : Type} {A B : Option α} {Φ : α → Prop} [Decidable (x < 0)] (hd : decode cc pc = .ok (.ifCond .ge off, 3)) (ht : (pc : Int) + off = (tgt : Int)) (kp : tp A Φ → V G K w (pc + 3) lv rest) (kn : tp B Φ → V G K w tgt lv rest) : tp (if x < 0 then A else B) Φ → V G K w pc lv (.int x :: rest) := by
  obtain ⟨p, l, e, R, s, m, args, below, meth, c, Q, cells, slots, nL⟩ := K
  obtain ⟨hx, hb, hml, hown, hts, hlk, hK, hst, hN, hfr, hlo, hc, hs, rfl⟩ := C
  intro hF H locs ls hP hD hS hl
  exact lv_if_ge hx hb hd ht (fun h => kn (inn (n_le h) hF) H locs ls hP hD hS hl) (fun h => kp (ip (n_nle h) hF) H locs ls hP hD hS hl)
theorem v_icmp_ge (C : Ctx G K cc own nl fr lo) {x y : Int32} {off : Int} (tgt : Nat) {α : Type} {A B : Option α} {Φ : α → Prop} [Decidable (x < y)] (hd : decode cc pc = .ok (.if_icmp .ge off, 3)) (ht : (pc : Int) + off = (tgt : Int)) (kp : tp A Φ → V G K w (pc + 3) lv rest) (kn : tp B Φ → V G K w tgt lv rest) : tp (if x < y then A else B) Φ → V G K w pc lv (.int y :: .int x :: rest) := by
  obtain ⟨p, l, e, R, s, m, args, below, meth, c, Q, cells, slots, nL⟩ := K
  obtain ⟨hx, hb, hml, hown, hts, hlk, hK, hst, hN, hfr, hlo, hc, hs, rfl⟩ := C
  intro hF H locs ls hP hD hS hl
  exact lv_icmp_ge hx hb hd ht (fun h => kn (inn (n_le h) hF) H locs ls hP hD hS hl) (fun h => kp (ip (n_nle h) hF) H locs ls hP hD hS hl)
theorem v_if_gt (C : Ctx G K cc own nl fr lo) {x : Int32} {off : Int} (tgt : Nat) {α : Type} {A B : Option α} {Φ : α → Prop} [Decidable (x ≤ 0)] (hd : decode cc pc = .ok (.ifCond .gt off, 3)) (ht : (pc : Int) + off = (tgt : Int)) (kp : tp A Φ → V G K w (pc + 3) lv rest) (kn : tp B Φ → V G K w tgt lv rest) : tp (if x ≤ 0 then A else B) Φ → V G K w pc lv (.int x :: rest) := by
  obtain ⟨p, l, e, R, s, m, args, below, meth, c, Q, cells, slots, nL⟩ := K
  obtain ⟨hx, hb, hml, hown, hts, hlk, hK, hst, hN, hfr, hlo, hc, hs, rfl⟩ := C
  intro hF H locs ls hP hD hS hl
  exact lv_if_gt hx hb hd ht (fun h => kn (inn (n_lt h) hF) H locs ls hP hD hS hl) (fun h => kp (ip (n_nlt h) hF) H locs ls hP hD hS hl)
theorem v_icmp_gt (C : Ctx G K cc own nl fr lo) {x y : Int32} {off : Int} (tgt : Nat) {α : Type} {A B : Option α} {Φ : α → Prop} [Decidable (x ≤ y)] (hd : decode cc pc = .ok (.if_icmp .gt off, 3)) (ht : (pc : Int) + off = (tgt : Int)) (kp : tp A Φ → V G K w (pc + 3) lv rest) (kn : tp B Φ → V G K w tgt lv rest) : tp (if x ≤ y then A else B) Φ → V G K w pc lv (.int y :: .int x :: rest) := by
  obtain ⟨p, l, e, R, s, m, args, below, meth, c, Q, cells, slots, nL⟩ := K
  obtain ⟨hx, hb, hml, hown, hts, hlk, hK, hst, hN, hfr, hlo, hc, hs, rfl⟩ := C
  intro hF H locs ls hP hD hS hl
  exact lv_icmp_gt hx hb hd ht (fun h => kn (inn (n_lt h) hF) H locs ls hP hD hS hl) (fun h => kp (ip (n_nlt h) hF) H locs ls hP hD hS hl)
theorem v_if_le (C : Ctx G K cc own nl fr lo) {x : Int32} {off : Int} (tgt : Nat) {α : Type} {A B : Option α} {Φ : α → Prop} [Decidable (x ≤ 0)] (hd : decode cc pc = .ok (.ifCond .le off, 3)) (ht : (pc : Int) + off = (tgt : Int)) (kp : tp A Φ → V G K w tgt lv rest) (kn : tp B Φ → V G K w (pc + 3) lv rest) : tp (if x ≤ 0 then A else B) Φ → V G K w pc lv (.int x :: rest) := by
  obtain ⟨p, l, e, R, s, m, args, below, meth, c, Q, cells, slots, nL⟩ := K
  obtain ⟨hx, hb, hml, hown, hts, hlk, hK, hst, hN, hfr, hlo, hc, hs, rfl⟩ := C
  intro hF H locs ls hP hD hS hl
  exact lv_if_le hx hb hd ht (fun h => kp (ip h hF) H locs ls hP hD hS hl) (fun h => kn (inn h hF) H locs ls hP hD hS hl)
theorem v_icmp_le (C : Ctx G K cc own nl fr lo) {x y : Int32} {off : Int} (tgt : Nat) {α : Type} {A B : Option α} {Φ : α → Prop} [Decidable (x ≤ y)] (hd : decode cc pc = .ok (.if_icmp .le off, 3)) (ht : (pc : Int) + off = (tgt : Int)) (kp : tp A Φ → V G K w tgt lv rest) (kn : tp B Φ → V G K w (pc + 3) lv rest) : tp (if x ≤ y then A else B) Φ → V G K w pc lv (.int y :: .int x :: rest) := by
  obtain ⟨p, l, e, R, s, m, args, below, meth, c, Q, cells, slots, nL⟩ := K
  obtain ⟨hx, hb, hml, hown, hts, hlk, hK, hst, hN, hfr, hlo, hc, hs, rfl⟩ := C
  intro hF H locs ls hP hD hS hl
  exact lv_icmp_le hx hb hd ht (fun h => kp (ip h hF) H locs ls hP hD hS hl) (fun h => kn (inn h hF) H locs ls hP hD hS hl)
theorem lgc {x y : Int64} : lg_cmp x y = 1 ∧ y < x ∨ lg_cmp x y = 0 ∧ x = y ∨ lg_cmp x y = -1 ∧ x < y := by
  unfold lg_cmp
  by_cases h1 : x > y
  · rw [if_pos h1]; exact Or.inl ⟨rfl, h1⟩
  · rw [if_neg h1]
    by_cases h2 : x = y
    · rw [if_pos h2]; exact Or.inr (Or.inl ⟨rfl, h2⟩)
    · rw [if_neg h2]
      refine Or.inr (Or.inr ⟨rfl, ?_⟩)
      rw [Int64.lt_iff_toInt_lt]
      have h3 : ¬ y.toInt < x.toInt := fun h => h1 (Int64.lt_iff_toInt_lt.mpr h)
      have h4 : x.toInt ≠ y.toInt := fun h => h2 (Int64.toInt_inj.mp h)
      omega
theorem lgc_eq {x y : Int64} : lg_cmp x y = 0 ↔ x = y := by
  rcases lgc (x := x) (y := y) with ⟨h, q⟩ | ⟨h, q⟩ | ⟨h, q⟩
  · rw [h]; exact ⟨fun z => absurd z (by decide), fun z => by subst z; exact absurd q (Int64.lt_irrefl)⟩
  · rw [h]; exact ⟨fun _ => q, fun _ => rfl⟩
  · rw [h]; exact ⟨fun z => absurd z (by decide), fun z => by subst z; exact absurd q (Int64.lt_irrefl)⟩
theorem lgc_lt {x y : Int64} : lg_cmp x y < 0 ↔ x < y := by
  rcases lgc (x := x) (y := y) with ⟨h, q⟩ | ⟨h, q⟩ | ⟨h, q⟩
  · rw [h]; exact ⟨fun z => absurd z (by decide), fun z => absurd (Int64.lt_trans z q) Int64.lt_irrefl⟩
  · rw [h]; subst q; exact ⟨fun z => absurd z (by decide), fun z => absurd z Int64.lt_irrefl⟩
  · rw [h]; exact ⟨fun _ => q, fun _ => by decide⟩
theorem lgc_le {x y : Int64} : lg_cmp x y ≤ 0 ↔ x ≤ y := by
  rcases lgc (x := x) (y := y) with ⟨h, q⟩ | ⟨h, q⟩ | ⟨h, q⟩
  · rw [h]; exact ⟨fun z => absurd z (by decide), fun z => absurd q (Int64.not_lt.mpr z)⟩
  · rw [h]; subst q; exact ⟨fun _ => Int64.le_refl _, fun _ => by decide⟩
  · rw [h]; exact ⟨fun _ => Int64.le_of_lt q, fun _ => by decide⟩
theorem v_lcmp_eq (C : Ctx G K cc own nl fr lo) {x y : Int64} {off : Int} (tgt : Nat) {α : Type} {A B : Option α} {Φ : α → Prop} [Decidable (x = y)] (hd1 : decode cc pc = .ok (.lcmp, 1)) (hd : decode cc (pc + 1) = .ok (.ifCond .eq off, 3)) (ht : ((pc + 1 : Nat) : Int) + off = (tgt : Int)) (kp : tp A Φ → V G K w tgt lv rest) (kn : tp B Φ → V G K w (pc + 1 + 3) lv rest) : tp (if x = y then A else B) Φ → V G K w pc lv (.long y :: .long x :: rest) := by
  obtain ⟨p, l, e, R, s, m, args, below, meth, c, Q, cells, slots, nL⟩ := K
  obtain ⟨hx, hb, hml, hown, hts, hlk, hK, hst, hN, hfr, hlo, hc, hs, rfl⟩ := C
  intro hF H locs ls hP hD hS hl
  exact W.lcmp hx hb hd1 (lv_if_eq hx hb hd ht (fun h => kp (ip (lgc_eq.mp h) hF) H locs ls hP hD hS hl) (fun h => kn (inn (fun z => h (lgc_eq.mpr z)) hF) H locs ls hP hD hS hl))
theorem v_lcmp_ne (C : Ctx G K cc own nl fr lo) {x y : Int64} {off : Int} (tgt : Nat) {α : Type} {A B : Option α} {Φ : α → Prop} [Decidable (x = y)] (hd1 : decode cc pc = .ok (.lcmp, 1)) (hd : decode cc (pc + 1) = .ok (.ifCond .ne off, 3)) (ht : ((pc + 1 : Nat) : Int) + off = (tgt : Int)) (kp : tp A Φ → V G K w (pc + 1 + 3) lv rest) (kn : tp B Φ → V G K w tgt lv rest) : tp (if x = y then A else B) Φ → V G K w pc lv (.long y :: .long x :: rest) := by
  obtain ⟨p, l, e, R, s, m, args, below, meth, c, Q, cells, slots, nL⟩ := K
  obtain ⟨hx, hb, hml, hown, hts, hlk, hK, hst, hN, hfr, hlo, hc, hs, rfl⟩ := C
  intro hF H locs ls hP hD hS hl
  exact W.lcmp hx hb hd1 (lv_if_ne hx hb hd ht (fun h => kn (inn (fun z => h (lgc_eq.mpr z)) hF) H locs ls hP hD hS hl) (fun h => kp (ip (lgc_eq.mp h) hF) H locs ls hP hD hS hl))
theorem v_lcmp_lt (C : Ctx G K cc own nl fr lo) {x y : Int64} {off : Int} (tgt : Nat) {α : Type} {A B : Option α} {Φ : α → Prop} [Decidable (x < y)] (hd1 : decode cc pc = .ok (.lcmp, 1)) (hd : decode cc (pc + 1) = .ok (.ifCond .lt off, 3)) (ht : ((pc + 1 : Nat) : Int) + off = (tgt : Int)) (kp : tp A Φ → V G K w tgt lv rest) (kn : tp B Φ → V G K w (pc + 1 + 3) lv rest) : tp (if x < y then A else B) Φ → V G K w pc lv (.long y :: .long x :: rest) := by
  obtain ⟨p, l, e, R, s, m, args, below, meth, c, Q, cells, slots, nL⟩ := K
  obtain ⟨hx, hb, hml, hown, hts, hlk, hK, hst, hN, hfr, hlo, hc, hs, rfl⟩ := C
  intro hF H locs ls hP hD hS hl
  exact W.lcmp hx hb hd1 (lv_if_lt hx hb hd ht (fun h => kp (ip (lgc_lt.mp h) hF) H locs ls hP hD hS hl) (fun h => kn (inn (fun z => h (lgc_lt.mpr z)) hF) H locs ls hP hD hS hl))
theorem v_lcmp_ge (C : Ctx G K cc own nl fr lo) {x y : Int64} {off : Int} (tgt : Nat) {α : Type} {A B : Option α} {Φ : α → Prop} [Decidable (x < y)] (hd1 : decode cc pc = .ok (.lcmp, 1)) (hd : decode cc (pc + 1) = .ok (.ifCond .ge off, 3)) (ht : ((pc + 1 : Nat) : Int) + off = (tgt : Int)) (kp : tp A Φ → V G K w (pc + 1 + 3) lv rest) (kn : tp B Φ → V G K w tgt lv rest) : tp (if x < y then A else B) Φ → V G K w pc lv (.long y :: .long x :: rest) := by
  obtain ⟨p, l, e, R, s, m, args, below, meth, c, Q, cells, slots, nL⟩ := K
  obtain ⟨hx, hb, hml, hown, hts, hlk, hK, hst, hN, hfr, hlo, hc, hs, rfl⟩ := C
  intro hF H locs ls hP hD hS hl
  exact W.lcmp hx hb hd1 (lv_if_ge hx hb hd ht (fun h => kn (inn (fun z => n_le h (lgc_lt.mpr z)) hF) H locs ls hP hD hS hl) (fun h => kp (ip (lgc_lt.mp (n_nle h)) hF) H locs ls hP hD hS hl))
theorem v_lcmp_gt (C : Ctx G K cc own nl fr lo) {x y : Int64} {off : Int} (tgt : Nat) {α : Type} {A B : Option α} {Φ : α → Prop} [Decidable (x ≤ y)] (hd1 : decode cc pc = .ok (.lcmp, 1)) (hd : decode cc (pc + 1) = .ok (.ifCond .gt off, 3)) (ht : ((pc + 1 : Nat) : Int) + off = (tgt : Int)) (kp : tp A Φ → V G K w (pc + 1 + 3) lv rest) (kn : tp B Φ → V G K w tgt lv rest) : tp (if x ≤ y then A else B) Φ → V G K w pc lv (.long y :: .long x :: rest) := by
  obtain ⟨p, l, e, R, s, m, args, below, meth, c, Q, cells, slots, nL⟩ := K
  obtain ⟨hx, hb, hml, hown, hts, hlk, hK, hst, hN, hfr, hlo, hc, hs, rfl⟩ := C
  intro hF H locs ls hP hD hS hl
  exact W.lcmp hx hb hd1 (lv_if_gt hx hb hd ht (fun h => kn (inn (fun z => n_lt h (lgc_le.mpr z)) hF) H locs ls hP hD hS hl) (fun h => kp (ip (lgc_le.mp (n_nlt h)) hF) H locs ls hP hD hS hl))
theorem v_lcmp_le (C : Ctx G K cc own nl fr lo) {x y : Int64} {off : Int} (tgt : Nat) {α : Type} {A B : Option α} {Φ : α → Prop} [Decidable (x ≤ y)] (hd1 : decode cc pc = .ok (.lcmp, 1)) (hd : decode cc (pc + 1) = .ok (.ifCond .le off, 3)) (ht : ((pc + 1 : Nat) : Int) + off = (tgt : Int)) (kp : tp A Φ → V G K w tgt lv rest) (kn : tp B Φ → V G K w (pc + 1 + 3) lv rest) : tp (if x ≤ y then A else B) Φ → V G K w pc lv (.long y :: .long x :: rest) := by
  obtain ⟨p, l, e, R, s, m, args, below, meth, c, Q, cells, slots, nL⟩ := K
  obtain ⟨hx, hb, hml, hown, hts, hlk, hK, hst, hN, hfr, hlo, hc, hs, rfl⟩ := C
  intro hF H locs ls hP hD hS hl
  exact W.lcmp hx hb hd1 (lv_if_le hx hb hd ht (fun h => kp (ip (lgc_le.mp h) hF) H locs ls hP hD hS hl) (fun h => kn (inn (fun z => h (lgc_le.mpr z)) hF) H locs ls hP hD hS hl))
theorem v_tableOut (C : Ctx G K cc own nl fr lo) {dflt lo2 hi : Int} {offs : Array Int} {len : Nat} {x : Int32} (tgt : Nat) (hd : decode cc pc = .ok (.tableswitch dflt lo2 hi offs, len)) (h : x.toInt < lo2 ∨ hi < x.toInt) (ht : (pc : Int) + dflt = (tgt : Int)) (k : F → V G K w tgt lv rest) : F → V G K w pc lv (.int x :: rest) := by
  obtain ⟨p, l, e, R, s, m, args, below, meth, c, Q, cells, slots, nL⟩ := K
  obtain ⟨hx, hb, hml, hown, hts, hlk, hK, hst, hN, hfr, hlo, hc, hs, rfl⟩ := C
  intro hF H locs ls hP hD hS hl
  exact lv_tableOut hx hb hd h ht (k hF H locs ls hP hD hS hl)
theorem v_tableIn (C : Ctx G K cc own nl fr lo) {dflt lo2 hi : Int} {offs : Array Int} {len : Nat} {x : Int32} {off : Int} (tgt : Nat) (hd : decode cc pc = .ok (.tableswitch dflt lo2 hi offs, len)) (h1 : ¬ x.toInt < lo2) (h2 : ¬ hi < x.toInt) (ho : offs[(x.toInt - lo2).toNat]? = some off) (ht : (pc : Int) + off = (tgt : Int)) (k : F → V G K w tgt lv rest) : F → V G K w pc lv (.int x :: rest) := by
  obtain ⟨p, l, e, R, s, m, args, below, meth, c, Q, cells, slots, nL⟩ := K
  obtain ⟨hx, hb, hml, hown, hts, hlk, hK, hst, hN, hfr, hlo, hc, hs, rfl⟩ := C
  intro hF H locs ls hP hD hS hl
  exact lv_tableIn hx hb hd h1 h2 ho ht (k hF H locs ls hP hD hS hl)
theorem v_get (C : Ctx G K cc own nl fr lo) {a ci : Nat} {fs : List Value} {Cn : String} {T : u_T} {N index : Nat} (q0 : Nat) (he : w[q0]? = some (a, .inr (ci, fs))) (hcl : vwCl[ci]? = some (Cn, T, N)) (hin : ∀ x ∈ u_ws Cn T N, x ∈ wsL_law) (j : Nat) (hj : j < N) (hT : (T j).1 = Cn) (hq : Cond.fieldLink own index Cn (T j).2.1 (T j).2.2.1 ∈ wsL_law) {v : Value} (hv : fs[j]? = some v) (hd : decode cc pc = .ok (.getfield index, 3)) (k : F → V G K w (pc + 3) lv (v :: rest)) : F → V G K w pc lv (.ref a :: rest) := by
  obtain ⟨p, l, e, R, s, m, args, below, meth, c, Q, cells, slots, nL⟩ := K
  obtain ⟨hx, hb, hml, hown, hts, hlk, hK, hst, hN, hfr, hlo, hc, hs, rfl⟩ := C
  intro hF H locs ls hP hD hS hl
  exact va_get (D := G.1) hx hb hts hin hown hK hP q0 he hcl j hj (hts _ hq) (fun _ h => by rw [hT] at h; exact h) hv hd (k hF H locs ls hP hD hS hl)
theorem v_put (C : Ctx G K cc own nl fr lo) {a ci : Nat} {fs : List Value} {Cn : String} {T : u_T} {N index : Nat} (q0 : Nat) (he : w[q0]? = some (a, .inr (ci, fs))) (hcl : vwCl[ci]? = some (Cn, T, N)) (hin : ∀ x ∈ u_ws Cn T N, x ∈ wsL_law) (ty0 : Nat → FieldType) (hty : ∀ k, k < N → parseFieldDescriptor (T k).2.2.1 = some (ty0 k)) (hnm : ∀ a, a < N → ∀ b, b < N → a ≠ b → (T a).2.1 ≠ (T b).2.1) (j : Nat) (hj : j < N) (hT : (T j).1 = Cn) (hq : Cond.fieldLink own index Cn (T j).2.1 (T j).2.2.1 ∈ wsL_law) (hfin : (T j).2.2.2 = false) {v : Value} (hn : narrow (ty0 j) v = v) (hfit : fits (ty0 j) v = true) (hlen : j < fs.length) (hset : w.set q0 (a, .inr (ci, fs.set j v)) = w') (hd : decode cc pc = .ok (.putfield index, 3)) (k : F → V G K w' (pc + 3) lv rest) : F → V G K w pc lv (v :: .ref a :: rest) := by
  obtain ⟨p, l, e, R, s, m, args, below, meth, c, Q, cells, slots, nL⟩ := K
  obtain ⟨hx, hb, hml, hown, hts, hlk, hK, hst, hN, hfr, hlo, hc, hs, rfl⟩ := C
  intro hF H locs ls hP hD hS hl
  subst hset
  exact va_put (D := G.1) hx hb hts hin ty0 hty hnm hown hK hP hD hS q0 he hcl j hj (hts _ hq) (fun _ h => by rw [hT] at h; exact h) hfin (hty j hj) hn hfit hlen hd (fun H locs hP hD hS => k hF H locs ls hP hD hS hl)
/-- an index within -/
abbrev inb (i : Int32) (n : Nat) : Prop := ¬ (i < 0) ∧ i.toNatClampNeg < n
theorem inb_vp {i : Int32} {n : Nat} (h : inb i n) : vp_in i n := fun q => q.elim (fun z => h.1 z) (fun z => Nat.not_lt.mpr z h.2)
theorem v_iald (C : Ctx G K cc own nl fr lo) {a n : Nat} {f : Nat → Int32} {i : Int32} (q0 : Nat) (he : w[q0]? = some (a, .inl (gC G 0, n, .inl f))) {α : Type} {A : Option α} {Φ : α → Prop} [Decidable (inb i n)] (hd : decode cc pc = .ok (.iaload, 1)) (k : tp A Φ → V G K w (pc + 1) lv (.int (f i.toNatClampNeg) :: rest)) : tp (gd (inb i n) A) Φ → V G K w pc lv (.int i :: .ref a :: rest) := by
  refine r_gd (fun hi => ?_)
  obtain ⟨p, l, e, R, s, m, args, below, meth, c, Q, cells, slots, nL⟩ := K
  obtain ⟨hx, hb, hml, hown, hts, hlk, hK, hst, hN, hfr, hlo, hc, hs, rfl⟩ := C
  intro hF H locs ls hP hD hS hl
  exact va_iald (D := G.1) hx hb hK hP q0 0 he rfl (inb_vp hi) hd (k hF H locs ls hP hD hS hl)
theorem v_iast (C : Ctx G K cc own nl fr lo) {a n : Nat} {f : Nat → Int32} {i : Int32} {x : Int32} (q0 : Nat) (he : w[q0]? = some (a, .inl (gC G 0, n, .inl f))) (hset : w.set q0 (a, .inl (gC G 0, n, .inl (upd f i.toNatClampNeg x))) = w') {α : Type} {A : Option α} {Φ : α → Prop} [Decidable (inb i n)] (hd : decode cc pc = .ok (.iastore, 1)) (k : tp A Φ → V G K w' (pc + 1) lv rest) : tp (gd (inb i n) A) Φ → V G K w pc lv (.int x :: .int i :: .ref a :: rest) := by
  refine r_gd (fun hi => ?_)
  obtain ⟨p, l, e, R, s, m, args, below, meth, c, Q, cells, slots, nL⟩ := K
  obtain ⟨hx, hb, hml, hown, hts, hlk, hK, hst, hN, hfr, hlo, hc, hs, rfl⟩ := C
  intro hF H locs ls hP hD hS hl
  subst hset
  exact va_iast (D := G.1) hx hb hK hP hD hS q0 0 he rfl (inb_vp hi) hd (fun H locs hP hD hS => k hF H locs ls hP hD hS hl)
theorem v_lald (C : Ctx G K cc own nl fr lo) {a n : Nat} {f : Nat → Int64} {i : Int32} (q0 : Nat) (he : w[q0]? = some (a, .inl (gC G 1, n, .inr (.inl f)))) {α : Type} {A : Option α} {Φ : α → Prop} [Decidable (inb i n)] (hd : decode cc pc = .ok (.laload, 1)) (k : tp A Φ → V G K w (pc + 1) lv (.long (f i.toNatClampNeg) :: rest)) : tp (gd (inb i n) A) Φ → V G K w pc lv (.int i :: .ref a :: rest) := by
  refine r_gd (fun hi => ?_)
  obtain ⟨p, l, e, R, s, m, args, below, meth, c, Q, cells, slots, nL⟩ := K
  obtain ⟨hx, hb, hml, hown, hts, hlk, hK, hst, hN, hfr, hlo, hc, hs, rfl⟩ := C
  intro hF H locs ls hP hD hS hl
  exact va_lald (D := G.1) hx hb hK hP q0 1 he rfl (inb_vp hi) hd (k hF H locs ls hP hD hS hl)
theorem v_last (C : Ctx G K cc own nl fr lo) {a n : Nat} {f : Nat → Int64} {i : Int32} {x : Int64} (q0 : Nat) (he : w[q0]? = some (a, .inl (gC G 1, n, .inr (.inl f)))) (hset : w.set q0 (a, .inl (gC G 1, n, .inr (.inl (vp_updL f i.toNatClampNeg x)))) = w') {α : Type} {A : Option α} {Φ : α → Prop} [Decidable (inb i n)] (hd : decode cc pc = .ok (.lastore, 1)) (k : tp A Φ → V G K w' (pc + 1) lv rest) : tp (gd (inb i n) A) Φ → V G K w pc lv (.long x :: .int i :: .ref a :: rest) := by
  refine r_gd (fun hi => ?_)
  obtain ⟨p, l, e, R, s, m, args, below, meth, c, Q, cells, slots, nL⟩ := K
  obtain ⟨hx, hb, hml, hown, hts, hlk, hK, hst, hN, hfr, hlo, hc, hs, rfl⟩ := C
  intro hF H locs ls hP hD hS hl
  subst hset
  exact va_last (D := G.1) hx hb hK hP hD hS q0 1 he rfl (inb_vp hi) hd (fun H locs hP hD hS => k hF H locs ls hP hD hS hl)
theorem v_bald (C : Ctx G K cc own nl fr lo) {a n : Nat} {f : Nat → Int32} {i : Int32} (q0 : Nat) (he : w[q0]? = some (a, .inl (gC G 2, n, .inl f))) {α : Type} {A : Option α} {Φ : α → Prop} [Decidable (inb i n)] (hd : decode cc pc = .ok (.baload, 1)) (k : tp A Φ → V G K w (pc + 1) lv (.int (f i.toNatClampNeg) :: rest)) : tp (gd (inb i n) A) Φ → V G K w pc lv (.int i :: .ref a :: rest) := by
  refine r_gd (fun hi => ?_)
  obtain ⟨p, l, e, R, s, m, args, below, meth, c, Q, cells, slots, nL⟩ := K
  obtain ⟨hx, hb, hml, hown, hts, hlk, hK, hst, hN, hfr, hlo, hc, hs, rfl⟩ := C
  intro hF H locs ls hP hD hS hl
  exact va_bald (D := G.1) hx hb hK hP q0 2 he rfl (inb_vp hi) hd (k hF H locs ls hP hD hS hl)
theorem v_bast (C : Ctx G K cc own nl fr lo) {a n : Nat} {f : Nat → Int32} {i : Int32} {x : Int32} (q0 : Nat) (he : w[q0]? = some (a, .inl (gC G 2, n, .inl f))) (hset : w.set q0 (a, .inl (gC G 2, n, .inl (upd f i.toNatClampNeg (vp_nar .byte x)))) = w') {α : Type} {A : Option α} {Φ : α → Prop} [Decidable (inb i n)] (hd : decode cc pc = .ok (.bastore, 1)) (k : tp A Φ → V G K w' (pc + 1) lv rest) : tp (gd (inb i n) A) Φ → V G K w pc lv (.int x :: .int i :: .ref a :: rest) := by
  refine r_gd (fun hi => ?_)
  obtain ⟨p, l, e, R, s, m, args, below, meth, c, Q, cells, slots, nL⟩ := K
  obtain ⟨hx, hb, hml, hown, hts, hlk, hK, hst, hN, hfr, hlo, hc, hs, rfl⟩ := C
  intro hF H locs ls hP hD hS hl
  subst hset
  exact va_bast (D := G.1) hx hb hK hP hD hS q0 2 he rfl (inb_vp hi) hd (fun H locs hP hD hS => k hF H locs ls hP hD hS hl)
theorem v_zald (C : Ctx G K cc own nl fr lo) {a n : Nat} {f : Nat → Int32} {i : Int32} (q0 : Nat) (he : w[q0]? = some (a, .inl (gC G 3, n, .inl f))) {α : Type} {A : Option α} {Φ : α → Prop} [Decidable (inb i n)] (hd : decode cc pc = .ok (.baload, 1)) (k : tp A Φ → V G K w (pc + 1) lv (.int (f i.toNatClampNeg) :: rest)) : tp (gd (inb i n) A) Φ → V G K w pc lv (.int i :: .ref a :: rest) := by
  refine r_gd (fun hi => ?_)
  obtain ⟨p, l, e, R, s, m, args, below, meth, c, Q, cells, slots, nL⟩ := K
  obtain ⟨hx, hb, hml, hown, hts, hlk, hK, hst, hN, hfr, hlo, hc, hs, rfl⟩ := C
  intro hF H locs ls hP hD hS hl
  exact va_zald (D := G.1) hx hb hK hP q0 3 he rfl (inb_vp hi) hd (k hF H locs ls hP hD hS hl)
theorem v_zast (C : Ctx G K cc own nl fr lo) {a n : Nat} {f : Nat → Int32} {i : Int32} {x : Int32} (q0 : Nat) (he : w[q0]? = some (a, .inl (gC G 3, n, .inl f))) (hset : w.set q0 (a, .inl (gC G 3, n, .inl (upd f i.toNatClampNeg (vp_nar .boolean x)))) = w') {α : Type} {A : Option α} {Φ : α → Prop} [Decidable (inb i n)] (hd : decode cc pc = .ok (.bastore, 1)) (k : tp A Φ → V G K w' (pc + 1) lv rest) : tp (gd (inb i n) A) Φ → V G K w pc lv (.int x :: .int i :: .ref a :: rest) := by
  refine r_gd (fun hi => ?_)
  obtain ⟨p, l, e, R, s, m, args, below, meth, c, Q, cells, slots, nL⟩ := K
  obtain ⟨hx, hb, hml, hown, hts, hlk, hK, hst, hN, hfr, hlo, hc, hs, rfl⟩ := C
  intro hF H locs ls hP hD hS hl
  subst hset
  exact va_zast (D := G.1) hx hb hK hP hD hS q0 3 he rfl (inb_vp hi) hd (fun H locs hP hD hS => k hF H locs ls hP hD hS hl)
theorem v_aldq (C : Ctx G K cc own nl fr lo) {a n b : Nat} {f : Nat → Option Nat} {i : Int32} (q0 : Nat) (he : w[q0]? = some (a, .inl (gC G 4, n, .inr (.inr (.inr (.inr f)))))) {α : Type} {A : Option α} {Φ : α → Prop} [Decidable (inb i n)] (hv : inb i n → f i.toNatClampNeg = some b) (hd : decode cc pc = .ok (.aaload, 1)) (k : inb i n → tp A Φ → V G K w (pc + 1) lv (.ref b :: rest)) : tp (gd (inb i n) A) Φ → V G K w pc lv (.int i :: .ref a :: rest) := by
  refine r_gd (fun hi => ?_)
  obtain ⟨p, l, e, R, s, m, args, below, meth, c, Q, cells, slots, nL⟩ := K
  obtain ⟨hx, hb, hml, hown, hts, hlk, hK, hst, hN, hfr, hlo, hc, hs, rfl⟩ := C
  intro hF H locs ls hP hD hS hl
  exact va_aldq (D := G.1) hx hb hK hP q0 4 he rfl (inb_vp hi) hd (by rw [hv hi]; exact k hi hF H locs ls hP hD hS hl)
theorem v_aldA (C : Ctx G K cc own nl fr lo) {a n b : Nat} {f : Nat → Option Nat} {i : Int32} (q0 : Nat) (he : w[q0]? = some (a, .inl (gC G 5, n, .inr (.inr (.inr (.inr f)))))) {α : Type} {A : Option α} {Φ : α → Prop} [Decidable (inb i n)] (hv : inb i n → f i.toNatClampNeg = some b) (hd : decode cc pc = .ok (.aaload, 1)) (k : inb i n → tp A Φ → V G K w (pc + 1) lv (.ref b :: rest)) : tp (gd (inb i n) A) Φ → V G K w pc lv (.int i :: .ref a :: rest) := by
  refine r_gd (fun hi => ?_)
  obtain ⟨p, l, e, R, s, m, args, below, meth, c, Q, cells, slots, nL⟩ := K
  obtain ⟨hx, hb, hml, hown, hts, hlk, hK, hst, hN, hfr, hlo, hc, hs, rfl⟩ := C
  intro hF H locs ls hP hD hS hl
  exact W.aald (v := .ref b) (ty := .array .int) hx hb (hP q0 _ he) ((hK.2 5 _ rfl).1 n (fun j => va_rf (f j))) rfl (fun q => by cases q) (by show ¬ (i < 0 ∨ (arrV _ _ _).slots.size ≤ _); rw [arrV_size]; exact inb_vp hi) (by show (arrV _ _ _).slots[_]? = _; rw [arrV_read _ _ hi.2, hv hi]; rfl) rfl rfl hd (k hi hF H locs ls hP hD hS hl)
theorem v_alen (C : Ctx G K cc own nl fr lo) {a : Nat} {cA : ClassId} {x : vp_A} {ty : FieldType} (q0 t0 : Nat) (he : w[q0]? = some (a, .inl (cA, x))) (ht : (tysG G)[t0]? = some (cA, ty)) {v : Int32} (hv : Int32.ofNat x.1 = v) (hd : decode cc pc = .ok (.arraylength, 1)) (k : F → V G K w (pc + 1) lv (.int v :: rest)) : F → V G K w pc lv (.ref a :: rest) := by
  obtain ⟨p, l, e, R, s, m, args, below, meth, c, Q, cells, slots, nL⟩ := K
  obtain ⟨hx, hb, hml, hown, hts, hlk, hK, hst, hN, hfr, hlo, hc, hs, rfl⟩ := C
  intro hF H locs ls hP hD hS hl
  exact va_alen (D := G.1) hx hb hK hP q0 t0 he ht hv hd (k hF H locs ls hP hD hS hl)
theorem v_gets (C : Ctx G K cc own nl fr lo) {index : Nat} (i : Nat) (hi : i < 7) (hq : Cond.fieldLink own index "TreeClimb" (tnm i) "[I" ∈ wsL_law) (hd : decode cc pc = .ok (.getstatic index, 3)) (k : F → V G K w (pc + 3) lv (.ref (gT G i) :: st)) : F → V G K w pc lv st := by
  obtain ⟨p, l, e, R, s, m, args, below, meth, c, Q, cells, slots, nL⟩ := K
  obtain ⟨hx, hb, hml, hown, hts, hlk, hK, hst, hN, hfr, hlo, hc, hs, rfl⟩ := C
  intro hF H locs ls hP hD hS hl
  exact va_gets hx hb (hst.1 i hi).1 hS hown (hts _ hq) (fun _ h => h) hd (k hF H locs ls hP hD hS hl)
theorem v_tald (C : Ctx G K cc own nl fr lo) {i : Int32} (t : Nat) (ht : t < 7) {α : Type} {A : Option α} {Φ : α → Prop} [Decidable (inb i (tvl t).length)] (hd : decode cc pc = .ok (.iaload, 1)) (k : tp A Φ → V G K w (pc + 1) lv (.int ((tvl t).getD i.toNatClampNeg 0) :: rest)) : tp (gd (inb i (tvl t).length) A) Φ → V G K w pc lv (.int i :: .ref (gT G t) :: rest) := by
  refine r_gd (fun hi => ?_)
  obtain ⟨p, l, e, R, s, m, args, below, meth, c, Q, cells, slots, nL⟩ := K
  obtain ⟨hx, hb, hml, hown, hts, hlk, hK, hst, hN, hfr, hlo, hc, hs, rfl⟩ := C
  intro hF H locs ls hP hD hS hl
  exact va_ti hx hb (hst.1 t ht).2 hS (inb_vp hi) rfl hd (k hF H locs ls hP hD hS hl)
theorem v_tlen (C : Ctx G K cc own nl fr lo) (t : Nat) (ht : t < 7) (hd : decode cc pc = .ok (.arraylength, 1)) (k : F → V G K w (pc + 1) lv (.int (Int32.ofNat (tvl t).length) :: rest)) : F → V G K w pc lv (.ref (gT G t) :: rest) := by
  obtain ⟨p, l, e, R, s, m, args, below, meth, c, Q, cells, slots, nL⟩ := K
  obtain ⟨hx, hb, hml, hown, hts, hlk, hK, hst, hN, hfr, hlo, hc, hs, rfl⟩ := C
  intro hF H locs ls hP hD hS hl
  exact va_tlen hx hb (hst.1 t ht).2 hS rfl hd (k hF H locs ls hP hD hS hl)
theorem v_mmax (C : Ctx G K cc own nl fr lo) {x y : Int32} {index : Nat} (hq : Cond.methodLink own index Lib.Math.max.name ∈ wsL_law) (h0 : Cond.static Lib.Math.max.name ∈ wsL_law) (h1 : Cond.initialized "java/lang/Math" ∈ wsL_law) (h2 : Cond.code Lib.Math.max.name Lib.Math.max.code 2 (some .int) ∈ wsL_law) (hfr1 : 1 ≤ fr) (hlo1 : (rest.map fun v => v.category).sum + 13 ≤ lo) (hd : decode cc pc = .ok (.invokestatic index, 3)) (k : F → V G K w (pc + 3) lv (.int (if x < y then y else x) :: rest)) : F → V G K w pc lv (.int y :: .int x :: rest) := by
  obtain ⟨p, l, e, R, s, m, args, below, meth, c, Q, cells, slots, nL⟩ := K
  obtain ⟨hx, hb, hml, hown, hts, hlk, hK, hst, hN, hfr, hlo, hc, hs, rfl⟩ := C
  intro hF H locs ls hP hD hS hl
  exact va_mmax hx hb (hml.trans hl.1.symm) hown (hts _ hq) (hts _ h0) (hts _ h1) (hts _ h2) (Nat.le_trans hfr1 hfr) (Nat.le_trans hlo1 hlo) hc hs hd (k hF H locs ls hP hD hS hl)
theorem v_mmin (C : Ctx G K cc own nl fr lo) {x y : Int32} {index : Nat} (hq : Cond.methodLink own index Lib.Math.min.name ∈ wsL_law) (h0 : Cond.static Lib.Math.min.name ∈ wsL_law) (h1 : Cond.initialized "java/lang/Math" ∈ wsL_law) (h2 : Cond.code Lib.Math.min.name Lib.Math.min.code 2 (some .int) ∈ wsL_law) (hfr1 : 1 ≤ fr) (hlo1 : (rest.map fun v => v.category).sum + 13 ≤ lo) (hd : decode cc pc = .ok (.invokestatic index, 3)) (k : F → V G K w (pc + 3) lv (.int (if y < x then y else x) :: rest)) : F → V G K w pc lv (.int y :: .int x :: rest) := by
  obtain ⟨p, l, e, R, s, m, args, below, meth, c, Q, cells, slots, nL⟩ := K
  obtain ⟨hx, hb, hml, hown, hts, hlk, hK, hst, hN, hfr, hlo, hc, hs, rfl⟩ := C
  intro hF H locs ls hP hD hS hl
  exact va_mmin hx hb (hml.trans hl.1.symm) hown (hts _ hq) (hts _ h0) (hts _ h1) (hts _ h2) (Nat.le_trans hfr1 hfr) (Nat.le_trans hlo1 hlo) hc hs hd (k hF H locs ls hP hD hS hl)
theorem v_mabs (C : Ctx G K cc own nl fr lo) {x : Int32} {index : Nat} (hq : Cond.methodLink own index Lib.Math.abs.name ∈ wsL_law) (h0 : Cond.static Lib.Math.abs.name ∈ wsL_law) (h1 : Cond.initialized "java/lang/Math" ∈ wsL_law) (h2 : Cond.code Lib.Math.abs.name Lib.Math.abs.code 1 (some .int) ∈ wsL_law) (hfr1 : 1 ≤ fr) (hlo1 : (rest.map fun v => v.category).sum + 13 ≤ lo) (hd : decode cc pc = .ok (.invokestatic index, 3)) (k : F → V G K w (pc + 3) lv (.int (if 0 ≤ x then x else 0 - x) :: rest)) : F → V G K w pc lv (.int x :: rest) := by
  obtain ⟨p, l, e, R, s, m, args, below, meth, c, Q, cells, slots, nL⟩ := K
  obtain ⟨hx, hb, hml, hown, hts, hlk, hK, hst, hN, hfr, hlo, hc, hs, rfl⟩ := C
  intro hF H locs ls hP hD hS hl
  exact va_mabs hx hb (hml.trans hl.1.symm) hown (hts _ hq) (hts _ h0) (hts _ h1) (hts _ h2) (Nat.le_trans hfr1 hfr) (Nat.le_trans hlo1 hlo) hc hs hd (k hF H locs ls hP hD hS hl)
theorem v_mmaxl (C : Ctx G K cc own nl fr lo) {x y : Int64} {index : Nat} (hq : Cond.methodLink own index Lib.MathLoose.max_long.x ∈ wsL_law) (h0 : Cond.static Lib.MathLoose.max_long.x ∈ wsL_law) (h1 : Cond.initialized "java/lang/Math" ∈ wsL_law) (h2 : Cond.code Lib.MathLoose.max_long.x Lib.MathLoose.max_long.code 4 (some .long) ∈ wsL_law) (hfr1 : 1 ≤ fr) (hlo1 : (rest.map fun v => v.category).sum + 15 ≤ lo) (hd : decode cc pc = .ok (.invokestatic index, 3)) (k : F → V G K w (pc + 3) lv (.long (if y < x then x else y) :: rest)) : F → V G K w pc lv (.long y :: .long x :: rest) := by
  obtain ⟨p, l, e, R, s, m, args, below, meth, c, Q, cells, slots, nL⟩ := K
  obtain ⟨hx, hb, hml, hown, hts, hlk, hK, hst, hN, hfr, hlo, hc, hs, rfl⟩ := C
  intro hF H locs ls hP hD hS hl
  exact va_mmax_long hx hb (hml.trans hl.1.symm) hown (hts _ hq) (hts _ h0) (hts _ h1) (hts _ h2) (Nat.le_trans hfr1 hfr) (Nat.le_trans hlo1 hlo) hc hs hd (k hF H locs ls hP hD hS hl)
end ROWS
/-- contracts of methods that make nothing: from the world w1, with these arguments, the answer r and the world w2 -/
def mrm (fr lo : Nat) : Room := { frames := fr, cells := 0, slots := 0, locals := lo }
def MI (G : GT) (l : Launch) (y : MethodName) (c : ByteArray) (n : Nat) (ret : Option FieldType) (fr lo : Nat) (av : List Value) (w1 : va_W) (r : Int32) (w2 : va_W) : Prop := Met l y (.code y c n ret :: wsL_law) (mrm fr lo) (va_Pc av (PW G w1)) (va_Qi (fun (q : Int32) (_ : Unit) => q = r) (fun _ t => PW G w2 t) (gA G)) 0 0 (gA G)
def ML (G : GT) (l : Launch) (y : MethodName) (c : ByteArray) (n : Nat) (ret : Option FieldType) (fr lo : Nat) (av : List Value) (w1 : va_W) (r : Int64) (w2 : va_W) : Prop := Met l y (.code y c n ret :: wsL_law) (mrm fr lo) (va_Pc av (PW G w1)) (va_Ql (fun (q : Int64) (_ : Unit) => q = r) (fun _ t => PW G w2 t) (gA G)) 0 0 (gA G)
def MV (G : GT) (l : Launch) (y : MethodName) (c : ByteArray) (n : Nat) (ret : Option FieldType) (fr lo : Nat) (av : List Value) (w1 : va_W) (w2 : va_W) : Prop := Met l y (.code y c n ret :: wsL_law) (mrm fr lo) (va_Pc av (PW G w1)) (va_Qv (fun (_ : Unit) => True) (fun _ t => PW G w2 t) (gA G)) 0 0 (gA G)
theorem PW.pass {G : GT} {w : va_W} {av : List Value} {a : Array Value} {U : State} {g : JFrame} {mk : MethodId} (h : va_Pc av (PW G w) a U) : va_Pc av (PW G w) a (U.calling g mk a) := by
  obtain ⟨h0, h1, h2, h3, h4, h5, h6, h7, h8, h9, h10⟩ := h
  exact ⟨h0, h1, h2, va_K.moved (u := U) (U := U.calling g mk a) (Vm.Alike.refl U.vm) h3, h4, h5, h6, fun i hi => (h7 i hi).same rfl, h8, h9, fun x hx => va_Nw.same rfl rfl (h10 x hx)⟩

def RetI (G : GT) (K : KT) (cc : ByteArray) (Φ : Int32 → va_W → Prop) : Prop := ∀ (r : Int32) (w : va_W) (pc : Nat) (lv : List (Nat × Value)), Φ r w → decode cc pc = .ok (.ireturn, 1) → V G K w pc lv [.int r]
def RetL (G : GT) (K : KT) (cc : ByteArray) (Φ : Int64 → va_W → Prop) : Prop := ∀ (r : Int64) (w : va_W) (pc : Nat) (lv : List (Nat × Value)), Φ r w → decode cc pc = .ok (.lreturn, 1) → V G K w pc lv [.long r]
def RetZ (G : GT) (K : KT) (cc : ByteArray) (Φ : Int32 → va_W → Prop) : Prop := ∀ (r : Int32) (w : va_W) (pc : Nat) (lv : List (Nat × Value)), Φ r w → (r = 0 ∨ r = 1) → decode cc pc = .ok (.ireturn, 1) → V G K w pc lv [.int r]
def RetC (G : GT) (K : KT) (cc : ByteArray) (ty : FieldType) (Φ : Int32 → va_W → Prop) : Prop := ∀ (r : Int32) (w : va_W) (pc : Nat) (lv : List (Nat × Value)), Φ r w → narrow ty (.int r) = .int r → decode cc pc = .ok (.ireturn, 1) → V G K w pc lv [.int r]
def RetV (G : GT) (K : KT) (cc : ByteArray) (Φ : va_W → Prop) : Prop := ∀ (w : va_W) (pc : Nat) (lv : List (Nat × Value)), Φ w → decode cc pc = .ok (.return_, 1) → V G K w pc lv []
theorem MI.start {G : GT} {l : Launch} {y : MethodName} {cc : ByteArray} {n fr lo : Nat} {av : List Value} {w1 w2 : va_W} {r : Int32} (hy : plainName y.cls = true) (hn : (lg_sl av).length ≤ n) (h : ∀ K : KT, K.2.1 = l → Ctx G K cc y.cls n fr lo → RetI G K cc (fun q w => q = r ∧ w = w2) → V G K w1 0 (lv_args 0 av) []) : MI G l y cc n (some .int) fr lo av w1 r w2 := by
  refine Met.ofW (cc := cc) (maxL := n) (ret := (some .int)) hy rfl ?_
  intro p e s m args below meth c s₁ B hml hv
  obtain ⟨rfl, hN, hP, hK, hD, hst⟩ := hv
  have hts := atoms_spec (ws := .code y cc n (some .int) :: wsL_law) B.pre
  rw [lg_entry_eq]
  refine h (p, l, e, mrm fr lo, s, m, av.toArray, below, meth, c, MQ below (va_Qi (fun (q : Int32) (_ : Unit) => q = r) (fun _ t => PW G w2 t) (gA G)) av.toArray s 0 0 (gA G), 0, 0, n) rfl ⟨B.exec, B.bytes, hml, findClass_of_methodNamed B.named, fun x hx => hts x (List.mem_cons_of_mem _ hx), B.notSynchronized, hK, hst, hN, Nat.le_refl _, Nat.le_refl _, Nat.le_refl _, Nat.le_refl _, rfl⟩ ?_ s.heap [] _ hP hD va_S.rf (lv_entry av hn)
  intro q w pc lv ⟨hq, hw⟩ hd H locs ls hP2 hD2 hS2 hl2
  subst hw
  exact W.iret (v := q) B.exec B.bytes B.returns (fun t ht hW => ⟨⟨q, (), rfl, hq, by rw [ht]; exact Nat.le_trans hN hS2.1, by rw [ht]; exact hP2, va_K.moved hW.alike hK, hD2, by rw [ht]; exact hst.go hS2 hW⟩, hS2.F ht⟩) hS2.2.2 hd
theorem MI.startZ {G : GT} {l : Launch} {y : MethodName} {cc : ByteArray} {n fr lo : Nat} {av : List Value} {w1 w2 : va_W} {r : Int32} (hy : plainName y.cls = true) (hn : (lg_sl av).length ≤ n) (h : ∀ K : KT, K.2.1 = l → Ctx G K cc y.cls n fr lo → RetZ G K cc (fun q w => q = r ∧ w = w2) → V G K w1 0 (lv_args 0 av) []) : MI G l y cc n (some .boolean) fr lo av w1 r w2 := by
  refine Met.ofW (cc := cc) (maxL := n) (ret := (some .boolean)) hy rfl ?_
  intro p e s m args below meth c s₁ B hml hv
  obtain ⟨rfl, hN, hP, hK, hD, hst⟩ := hv
  have hts := atoms_spec (ws := .code y cc n (some .boolean) :: wsL_law) B.pre
  rw [lg_entry_eq]
  refine h (p, l, e, mrm fr lo, s, m, av.toArray, below, meth, c, MQ below (va_Qi (fun (q : Int32) (_ : Unit) => q = r) (fun _ t => PW G w2 t) (gA G)) av.toArray s 0 0 (gA G), 0, 0, n) rfl ⟨B.exec, B.bytes, hml, findClass_of_methodNamed B.named, fun x hx => hts x (List.mem_cons_of_mem _ hx), B.notSynchronized, hK, hst, hN, Nat.le_refl _, Nat.le_refl _, Nat.le_refl _, Nat.le_refl _, rfl⟩ ?_ s.heap [] _ hP hD va_S.rf (lv_entry av hn)
  intro q w pc lv ⟨hq, hw⟩ hz hd H locs ls hP2 hD2 hS2 hl2
  subst hw
  exact W.zret (v := q) B.exec B.bytes B.returns (by rcases hz with h | h <;> subst h <;> rfl) (fun t ht hW => ⟨⟨q, (), rfl, hq, by rw [ht]; exact Nat.le_trans hN hS2.1, by rw [ht]; exact hP2, va_K.moved hW.alike hK, hD2, by rw [ht]; exact hst.go hS2 hW⟩, hS2.F ht⟩) hS2.2.2 hd
theorem MI.startC {G : GT} {l : Launch} {y : MethodName} {cc : ByteArray} {n fr lo : Nat} {av : List Value} {w1 w2 : va_W} {r : Int32} {ty : FieldType} (hy : plainName y.cls = true) (hn : (lg_sl av).length ≤ n) (h : ∀ K : KT, K.2.1 = l → Ctx G K cc y.cls n fr lo → RetC G K cc ty (fun q w => q = r ∧ w = w2) → V G K w1 0 (lv_args 0 av) []) : MI G l y cc n (some ty) fr lo av w1 r w2 := by
  refine Met.ofW (cc := cc) (maxL := n) (ret := (some ty)) hy rfl ?_
  intro p e s m args below meth c s₁ B hml hv
  obtain ⟨rfl, hN, hP, hK, hD, hst⟩ := hv
  have hts := atoms_spec (ws := .code y cc n (some ty) :: wsL_law) B.pre
  rw [lg_entry_eq]
  refine h (p, l, e, mrm fr lo, s, m, av.toArray, below, meth, c, MQ below (va_Qi (fun (q : Int32) (_ : Unit) => q = r) (fun _ t => PW G w2 t) (gA G)) av.toArray s 0 0 (gA G), 0, 0, n) rfl ⟨B.exec, B.bytes, hml, findClass_of_methodNamed B.named, fun x hx => hts x (List.mem_cons_of_mem _ hx), B.notSynchronized, hK, hst, hN, Nat.le_refl _, Nat.le_refl _, Nat.le_refl _, Nat.le_refl _, rfl⟩ ?_ s.heap [] _ hP hD va_S.rf (lv_entry av hn)
  intro q w pc lv ⟨hq, hw⟩ hz hd H locs ls hP2 hD2 hS2 hl2
  subst hw
  exact W.zret (v := q) B.exec B.bytes B.returns hz (fun t ht hW => ⟨⟨q, (), rfl, hq, by rw [ht]; exact Nat.le_trans hN hS2.1, by rw [ht]; exact hP2, va_K.moved hW.alike hK, hD2, by rw [ht]; exact hst.go hS2 hW⟩, hS2.F ht⟩) hS2.2.2 hd
theorem ML.start {G : GT} {l : Launch} {y : MethodName} {cc : ByteArray} {n fr lo : Nat} {av : List Value} {w1 w2 : va_W} {r : Int64} (hy : plainName y.cls = true) (hn : (lg_sl av).length ≤ n) (h : ∀ K : KT, K.2.1 = l → Ctx G K cc y.cls n fr lo → RetL G K cc (fun q w => q = r ∧ w = w2) → V G K w1 0 (lv_args 0 av) []) : ML G l y cc n (some .long) fr lo av w1 r w2 := by
  refine Met.ofW (cc := cc) (maxL := n) (ret := (some .long)) hy rfl ?_
  intro p e s m args below meth c s₁ B hml hv
  obtain ⟨rfl, hN, hP, hK, hD, hst⟩ := hv
  have hts := atoms_spec (ws := .code y cc n (some .long) :: wsL_law) B.pre
  rw [lg_entry_eq]
  refine h (p, l, e, mrm fr lo, s, m, av.toArray, below, meth, c, MQ below (va_Ql (fun (q : Int64) (_ : Unit) => q = r) (fun _ t => PW G w2 t) (gA G)) av.toArray s 0 0 (gA G), 0, 0, n) rfl ⟨B.exec, B.bytes, hml, findClass_of_methodNamed B.named, fun x hx => hts x (List.mem_cons_of_mem _ hx), B.notSynchronized, hK, hst, hN, Nat.le_refl _, Nat.le_refl _, Nat.le_refl _, Nat.le_refl _, rfl⟩ ?_ s.heap [] _ hP hD va_S.rf (lv_entry av hn)
  intro q w pc lv ⟨hq, hw⟩ hd H locs ls hP2 hD2 hS2 hl2
  subst hw
  exact W.lret (v := q) B.exec B.bytes B.returns (fun t ht hW => ⟨⟨q, (), rfl, hq, by rw [ht]; exact Nat.le_trans hN hS2.1, by rw [ht]; exact hP2, va_K.moved hW.alike hK, hD2, by rw [ht]; exact hst.go hS2 hW⟩, hS2.F ht⟩) hS2.2.2 hd
theorem MV.start {G : GT} {l : Launch} {y : MethodName} {cc : ByteArray} {n fr lo : Nat} {av : List Value} {w1 w2 : va_W} (hy : plainName y.cls = true) (hn : (lg_sl av).length ≤ n) (h : ∀ K : KT, K.2.1 = l → Ctx G K cc y.cls n fr lo → RetV G K cc (fun w => w = w2) → V G K w1 0 (lv_args 0 av) []) : MV G l y cc n none fr lo av w1 w2 := by
  refine Met.ofW (cc := cc) (maxL := n) (ret := none) hy rfl ?_
  intro p e s m args below meth c s₁ B hml hv
  obtain ⟨rfl, hN, hP, hK, hD, hst⟩ := hv
  have hts := atoms_spec (ws := .code y cc n none :: wsL_law) B.pre
  rw [lg_entry_eq]
  refine h (p, l, e, mrm fr lo, s, m, av.toArray, below, meth, c, MQ below (va_Qv (fun (_ : Unit) => True) (fun _ t => PW G w2 t) (gA G)) av.toArray s 0 0 (gA G), 0, 0, n) rfl ⟨B.exec, B.bytes, hml, findClass_of_methodNamed B.named, fun x hx => hts x (List.mem_cons_of_mem _ hx), B.notSynchronized, hK, hst, hN, Nat.le_refl _, Nat.le_refl _, Nat.le_refl _, Nat.le_refl _, rfl⟩ ?_ s.heap [] _ hP hD va_S.rf (lv_entry av hn)
  intro w pc lv hw hd H locs ls hP2 hD2 hS2 hl2
  subst hw
  exact W.vret B.exec B.bytes B.returns (fun t ht hW => ⟨⟨(), rfl, trivial, by rw [ht]; exact Nat.le_trans hN hS2.1, by rw [ht]; exact hP2, va_K.moved hW.alike hK, hD2, by rw [ht]; exact hst.go hS2 hW⟩, hS2.F ht⟩) hS2.2.2 hd
section CALLS
variable {G : GT} {K : KT} {cc : ByteArray} {own : String} {nl fr lo : Nat} {w w2 : va_W} {pc : Nat} {lv lv' : List (Nat × Value)} {rest : List Value} {F : Prop}
theorem good_all : wsL_law.all goodWord = true := by decide +kernel
theorem good_in {Ts : List Cond} (hT : ∀ w ∈ wsL_law, w ∈ Ts) {c : Cond} (hc : c ∈ wsL_law) : GoodIn Ts (c :: wsL_law) := by
  intro x hx
  have hx2 : x ∈ wsL_law := by
    rcases List.mem_cons.mp hx with h | h
    · rw [h]; exact hc
    · exact h
  exact ⟨hT x hx2, good_of_word (List.all_eq_true.mp good_all x hx2)⟩

theorem v_callIv (C : Ctx G K cc own nl fr lo) {y : MethodName} {bytes : ByteArray} {n fc lc nargs index : Nat} {ret : Option FieldType} {As : List Value} {r : Int32} {b : Nat} (hM : MI G K.2.1 y bytes n ret fc lc (.ref b :: As) w r w2) (h0 : Cond.methodLink own index y ∈ wsL_law) (h1 : Cond.instanceMethod y ∈ wsL_law) (h2 : Cond.selects y.cls y y ∈ wsL_law) (h3 : Cond.initialized y.cls ∈ wsL_law) (h4 : Cond.code y bytes n ret ∈ wsL_law) (hrecv : ∃ (q0 ci : Nat) (fs : List Value) (T : u_T) (N : Nat), vwCl[ci]? = some (y.cls, T, N) ∧ w[q0]? = some (b, .inr (ci, fs))) (hd : y.cls ≠ "java/lang/invoke/MethodHandle" ∧ y.cls ≠ "java/lang/invoke/VarHandle" ∧ (parseMethodDescriptor y.desc).map (fun d => d.parameters.length) = some nargs) (hR : fc + 1 ≤ fr ∧ 8 + (n + 11) + lc ≤ lo) (hlen : As.length = nargs) (hcat : (rest.map fun v => v.category).sum ≤ 8) (hdg : decode cc pc = .ok (.invokevirtual index, 3)) (k : F → V G K w2 (pc + 3) lv (.int r :: rest)) : F → V G K w pc lv (As.reverse ++ .ref b :: rest) := by
  obtain ⟨p, l, e, R, s, m, args, below, meth, c, Q, cells, slots, nL⟩ := K
  obtain ⟨hx, hb, hml, hown, hts, hlk, hK, hst, hN, hfr, hlo, hc, hs, rfl⟩ := C
  intro hF H locs ls hP hD hS hl
  obtain ⟨q0, ci, fs, T, N, hrc, hre⟩ := hrecv
  refine va_calli (va_runV (As := As) (rest := rest) ⟨hx, hb, hml, hown, hts⟩ hM ⟨callB_of nargs hts (good_in (fun _ h => h) h4) rfl rfl rfl (hts _ h3) (hts _ h0) hd ⟨Nat.le_trans hR.1 hfr, Nat.le_trans hR.2 hlo⟩, hts _ h1, hts _ h2⟩ ⟨fun a U g mk q => PW.pass q, va_recv hK hP hrc hre, fun U hU hW => ⟨rfl, by rw [hU]; exact Nat.le_trans hN hS.1, by rw [hU]; exact hP, va_K.moved hW.alike hK, hD, by rw [hU]; exact hst.go hS hW⟩⟩ rfl hlen hl.1 rfl (lv_room hcat) hdg ⟨hc, hs⟩) hS (fun q _ h => h) (fun q h => h) (fun q u t H1 locs1 ht hvm hw hB hz1 hk1 hS1 => ?_)
  obtain ⟨hN1, hP1, hK1, hD1, hst1⟩ := hB
  rw [ht] at hP1
  subst hw
  exact k hF H1 locs1 ls hP1 hD1 hS1 hl
theorem v_callIs (C : Ctx G K cc own nl fr lo) {y : MethodName} {bytes : ByteArray} {n fc lc nargs index : Nat} {ret : Option FieldType} {As : List Value} {r : Int32} (hM : MI G K.2.1 y bytes n ret fc lc As w r w2) (h0 : Cond.methodLink own index y ∈ wsL_law) (h1 : Cond.static y ∈ wsL_law) (h3 : Cond.initialized y.cls ∈ wsL_law) (h4 : Cond.code y bytes n ret ∈ wsL_law) (hd : y.cls ≠ "java/lang/invoke/MethodHandle" ∧ y.cls ≠ "java/lang/invoke/VarHandle" ∧ (parseMethodDescriptor y.desc).map (fun d => d.parameters.length) = some nargs) (hR : fc + 1 ≤ fr ∧ 8 + (n + 11) + lc ≤ lo) (hlen : As.length = nargs) (hcat : (rest.map fun v => v.category).sum ≤ 8) (hdg : decode cc pc = .ok (.invokestatic index, 3)) (k : F → V G K w2 (pc + 3) lv (.int r :: rest)) : F → V G K w pc lv (As.reverse ++ rest) := by
  obtain ⟨p, l, e, R, s, m, args, below, meth, c, Q, cells, slots, nL⟩ := K
  obtain ⟨hx, hb, hml, hown, hts, hlk, hK, hst, hN, hfr, hlo, hc, hs, rfl⟩ := C
  intro hF H locs ls hP hD hS hl
  refine va_calli (va_runS (As := As) (rest := rest) ⟨hx, hb, hml, hown, hts⟩ hM ⟨callB_of nargs hts (good_in (fun _ h => h) h4) rfl rfl rfl (hts _ h3) (hts _ h0) hd ⟨Nat.le_trans hR.1 hfr, Nat.le_trans hR.2 hlo⟩, hts _ h1⟩ ⟨fun a U g mk q => PW.pass q, fun U hU hW => ⟨rfl, by rw [hU]; exact Nat.le_trans hN hS.1, by rw [hU]; exact hP, va_K.moved hW.alike hK, hD, by rw [hU]; exact hst.go hS hW⟩⟩ rfl hlen hl.1 rfl (lv_room hcat) hdg ⟨hc, hs⟩) hS (fun q _ h => h) (fun q h => h) (fun q u t H1 locs1 ht hvm hw hB hz1 hk1 hS1 => ?_)
  obtain ⟨hN1, hP1, hK1, hD1, hst1⟩ := hB
  rw [ht] at hP1
  subst hw
  exact k hF H1 locs1 ls hP1 hD1 hS1 hl
theorem v_callLv (C : Ctx G K cc own nl fr lo) {y : MethodName} {bytes : ByteArray} {n fc lc nargs index : Nat} {ret : Option FieldType} {As : List Value} {r : Int64} {b : Nat} (hM : ML G K.2.1 y bytes n ret fc lc (.ref b :: As) w r w2) (h0 : Cond.methodLink own index y ∈ wsL_law) (h1 : Cond.instanceMethod y ∈ wsL_law) (h2 : Cond.selects y.cls y y ∈ wsL_law) (h3 : Cond.initialized y.cls ∈ wsL_law) (h4 : Cond.code y bytes n ret ∈ wsL_law) (hrecv : ∃ (q0 ci : Nat) (fs : List Value) (T : u_T) (N : Nat), vwCl[ci]? = some (y.cls, T, N) ∧ w[q0]? = some (b, .inr (ci, fs))) (hd : y.cls ≠ "java/lang/invoke/MethodHandle" ∧ y.cls ≠ "java/lang/invoke/VarHandle" ∧ (parseMethodDescriptor y.desc).map (fun d => d.parameters.length) = some nargs) (hR : fc + 1 ≤ fr ∧ 8 + (n + 11) + lc ≤ lo) (hlen : As.length = nargs) (hcat : (rest.map fun v => v.category).sum ≤ 8) (hdg : decode cc pc = .ok (.invokevirtual index, 3)) (k : F → V G K w2 (pc + 3) lv (.long r :: rest)) : F → V G K w pc lv (As.reverse ++ .ref b :: rest) := by
  obtain ⟨p, l, e, R, s, m, args, below, meth, c, Q, cells, slots, nL⟩ := K
  obtain ⟨hx, hb, hml, hown, hts, hlk, hK, hst, hN, hfr, hlo, hc, hs, rfl⟩ := C
  intro hF H locs ls hP hD hS hl
  obtain ⟨q0, ci, fs, T, N, hrc, hre⟩ := hrecv
  refine va_calll (va_runV (As := As) (rest := rest) ⟨hx, hb, hml, hown, hts⟩ hM ⟨callB_of nargs hts (good_in (fun _ h => h) h4) rfl rfl rfl (hts _ h3) (hts _ h0) hd ⟨Nat.le_trans hR.1 hfr, Nat.le_trans hR.2 hlo⟩, hts _ h1, hts _ h2⟩ ⟨fun a U g mk q => PW.pass q, va_recv hK hP hrc hre, fun U hU hW => ⟨rfl, by rw [hU]; exact Nat.le_trans hN hS.1, by rw [hU]; exact hP, va_K.moved hW.alike hK, hD, by rw [hU]; exact hst.go hS hW⟩⟩ rfl hlen hl.1 rfl (lv_room hcat) hdg ⟨hc, hs⟩) hS (fun q _ h => h) (fun q h => h) (fun q u t H1 locs1 ht hvm hw hB hz1 hk1 hS1 => ?_)
  obtain ⟨hN1, hP1, hK1, hD1, hst1⟩ := hB
  rw [ht] at hP1
  subst hw
  exact k hF H1 locs1 ls hP1 hD1 hS1 hl
theorem v_callLs (C : Ctx G K cc own nl fr lo) {y : MethodName} {bytes : ByteArray} {n fc lc nargs index : Nat} {ret : Option FieldType} {As : List Value} {r : Int64} (hM : ML G K.2.1 y bytes n ret fc lc As w r w2) (h0 : Cond.methodLink own index y ∈ wsL_law) (h1 : Cond.static y ∈ wsL_law) (h3 : Cond.initialized y.cls ∈ wsL_law) (h4 : Cond.code y bytes n ret ∈ wsL_law) (hd : y.cls ≠ "java/lang/invoke/MethodHandle" ∧ y.cls ≠ "java/lang/invoke/VarHandle" ∧ (parseMethodDescriptor y.desc).map (fun d => d.parameters.length) = some nargs) (hR : fc + 1 ≤ fr ∧ 8 + (n + 11) + lc ≤ lo) (hlen : As.length = nargs) (hcat : (rest.map fun v => v.category).sum ≤ 8) (hdg : decode cc pc = .ok (.invokestatic index, 3)) (k : F → V G K w2 (pc + 3) lv (.long r :: rest)) : F → V G K w pc lv (As.reverse ++ rest) := by
  obtain ⟨p, l, e, R, s, m, args, below, meth, c, Q, cells, slots, nL⟩ := K
  obtain ⟨hx, hb, hml, hown, hts, hlk, hK, hst, hN, hfr, hlo, hc, hs, rfl⟩ := C
  intro hF H locs ls hP hD hS hl
  refine va_calll (va_runS (As := As) (rest := rest) ⟨hx, hb, hml, hown, hts⟩ hM ⟨callB_of nargs hts (good_in (fun _ h => h) h4) rfl rfl rfl (hts _ h3) (hts _ h0) hd ⟨Nat.le_trans hR.1 hfr, Nat.le_trans hR.2 hlo⟩, hts _ h1⟩ ⟨fun a U g mk q => PW.pass q, fun U hU hW => ⟨rfl, by rw [hU]; exact Nat.le_trans hN hS.1, by rw [hU]; exact hP, va_K.moved hW.alike hK, hD, by rw [hU]; exact hst.go hS hW⟩⟩ rfl hlen hl.1 rfl (lv_room hcat) hdg ⟨hc, hs⟩) hS (fun q _ h => h) (fun q h => h) (fun q u t H1 locs1 ht hvm hw hB hz1 hk1 hS1 => ?_)
  obtain ⟨hN1, hP1, hK1, hD1, hst1⟩ := hB
  rw [ht] at hP1
  subst hw
  exact k hF H1 locs1 ls hP1 hD1 hS1 hl
theorem v_callVv (C : Ctx G K cc own nl fr lo) {y : MethodName} {bytes : ByteArray} {n fc lc nargs index : Nat} {ret : Option FieldType} {As : List Value} {b : Nat} (hM : MV G K.2.1 y bytes n ret fc lc (.ref b :: As) w w2) (h0 : Cond.methodLink own index y ∈ wsL_law) (h1 : Cond.instanceMethod y ∈ wsL_law) (h2 : Cond.selects y.cls y y ∈ wsL_law) (h3 : Cond.initialized y.cls ∈ wsL_law) (h4 : Cond.code y bytes n ret ∈ wsL_law) (hrecv : ∃ (q0 ci : Nat) (fs : List Value) (T : u_T) (N : Nat), vwCl[ci]? = some (y.cls, T, N) ∧ w[q0]? = some (b, .inr (ci, fs))) (hd : y.cls ≠ "java/lang/invoke/MethodHandle" ∧ y.cls ≠ "java/lang/invoke/VarHandle" ∧ (parseMethodDescriptor y.desc).map (fun d => d.parameters.length) = some nargs) (hR : fc + 1 ≤ fr ∧ 8 + (n + 11) + lc ≤ lo) (hlen : As.length = nargs) (hcat : (rest.map fun v => v.category).sum ≤ 8) (hdg : decode cc pc = .ok (.invokevirtual index, 3)) (k : F → V G K w2 (pc + 3) lv (rest)) : F → V G K w pc lv (As.reverse ++ .ref b :: rest) := by
  obtain ⟨p, l, e, R, s, m, args, below, meth, c, Q, cells, slots, nL⟩ := K
  obtain ⟨hx, hb, hml, hown, hts, hlk, hK, hst, hN, hfr, hlo, hc, hs, rfl⟩ := C
  intro hF H locs ls hP hD hS hl
  obtain ⟨q0, ci, fs, T, N, hrc, hre⟩ := hrecv
  refine va_callv (va_runV (As := As) (rest := rest) ⟨hx, hb, hml, hown, hts⟩ hM ⟨callB_of nargs hts (good_in (fun _ h => h) h4) rfl rfl rfl (hts _ h3) (hts _ h0) hd ⟨Nat.le_trans hR.1 hfr, Nat.le_trans hR.2 hlo⟩, hts _ h1, hts _ h2⟩ ⟨fun a U g mk q => PW.pass q, va_recv hK hP hrc hre, fun U hU hW => ⟨rfl, by rw [hU]; exact Nat.le_trans hN hS.1, by rw [hU]; exact hP, va_K.moved hW.alike hK, hD, by rw [hU]; exact hst.go hS hW⟩⟩ rfl hlen hl.1 rfl (lv_room hcat) hdg ⟨hc, hs⟩) hS (fun q _ h => h) (fun q h => h) (fun u t H1 locs1 ht hvm hw hB hz1 hk1 hS1 => ?_)
  obtain ⟨hN1, hP1, hK1, hD1, hst1⟩ := hB
  rw [ht] at hP1
  exact k hF H1 locs1 ls hP1 hD1 hS1 hl
theorem v_callVs (C : Ctx G K cc own nl fr lo) {y : MethodName} {bytes : ByteArray} {n fc lc nargs index : Nat} {ret : Option FieldType} {As : List Value} (hM : MV G K.2.1 y bytes n ret fc lc As w w2) (h0 : Cond.methodLink own index y ∈ wsL_law) (h1 : Cond.static y ∈ wsL_law) (h3 : Cond.initialized y.cls ∈ wsL_law) (h4 : Cond.code y bytes n ret ∈ wsL_law) (hd : y.cls ≠ "java/lang/invoke/MethodHandle" ∧ y.cls ≠ "java/lang/invoke/VarHandle" ∧ (parseMethodDescriptor y.desc).map (fun d => d.parameters.length) = some nargs) (hR : fc + 1 ≤ fr ∧ 8 + (n + 11) + lc ≤ lo) (hlen : As.length = nargs) (hcat : (rest.map fun v => v.category).sum ≤ 8) (hdg : decode cc pc = .ok (.invokestatic index, 3)) (k : F → V G K w2 (pc + 3) lv (rest)) : F → V G K w pc lv (As.reverse ++ rest) := by
  obtain ⟨p, l, e, R, s, m, args, below, meth, c, Q, cells, slots, nL⟩ := K
  obtain ⟨hx, hb, hml, hown, hts, hlk, hK, hst, hN, hfr, hlo, hc, hs, rfl⟩ := C
  intro hF H locs ls hP hD hS hl
  refine va_callv (va_runS (As := As) (rest := rest) ⟨hx, hb, hml, hown, hts⟩ hM ⟨callB_of nargs hts (good_in (fun _ h => h) h4) rfl rfl rfl (hts _ h3) (hts _ h0) hd ⟨Nat.le_trans hR.1 hfr, Nat.le_trans hR.2 hlo⟩, hts _ h1⟩ ⟨fun a U g mk q => PW.pass q, fun U hU hW => ⟨rfl, by rw [hU]; exact Nat.le_trans hN hS.1, by rw [hU]; exact hP, va_K.moved hW.alike hK, hD, by rw [hU]; exact hst.go hS hW⟩⟩ rfl hlen hl.1 rfl (lv_room hcat) hdg ⟨hc, hs⟩) hS (fun q _ h => h) (fun q h => h) (fun u t H1 locs1 ht hvm hw hB hz1 hk1 hS1 => ?_)
  obtain ⟨hN1, hP1, hK1, hD1, hst1⟩ := hB
  rw [ht] at hP1
  exact k hF H1 locs1 ls hP1 hD1 hS1 hl
theorem v_callIn (C : Ctx G K cc own nl fr lo) {y : MethodName} {host : String} {bytes : ByteArray} {n fc lc nargs index : Nat} {ret : Option FieldType} {As : List Value} {r : Int32} (hM : MI G K.2.1 y bytes n ret fc lc As w r w2) (hnst : (own, index, y, host) ∈ nestW) (h1 : Cond.static y ∈ wsL_law) (h3 : Cond.initialized y.cls ∈ wsL_law) (h4 : Cond.code y bytes n ret ∈ wsL_law) (hd : y.cls ≠ "java/lang/invoke/MethodHandle" ∧ y.cls ≠ "java/lang/invoke/VarHandle" ∧ (parseMethodDescriptor y.desc).map (fun d => d.parameters.length) = some nargs) (hR : fc + 1 ≤ fr ∧ 8 + (n + 11) + lc ≤ lo) (hlen : As.length = nargs) (hcat : (rest.map fun v => v.category).sum ≤ 8) (hdg : decode cc pc = .ok (.invokestatic index, 3)) (k : F → V G K w2 (pc + 3) lv (.int r :: rest)) : F → V G K w pc lv (As.reverse ++ rest) := by
  obtain ⟨p, l, e, R, s, m, args, below, meth, c, Q, cells, slots, nL⟩ := K
  obtain ⟨hx, hb, hml, hown, hts, hlk, hK, hst, hN, hfr, hlo, hc, hs, rfl⟩ := C
  intro hF H locs ls hP hD hS hl
  refine va_calli (va_runSN (As := As) (rest := rest) (host := host) ⟨hx, hb, hml, hown, hts⟩ hM ⟨va_cnB nargs hts (good_in (fun _ h => h) h4) rfl rfl rfl (hst.2.2.2.2.2 _ hnst) (hts _ h3) hd ⟨Nat.le_trans hR.1 hfr, Nat.le_trans hR.2 hlo⟩, hts _ h1, trivial⟩ ⟨fun a U g mk q => PW.pass q, fun U hU hW => ⟨rfl, by rw [hU]; exact Nat.le_trans hN hS.1, by rw [hU]; exact hP, va_K.moved hW.alike hK, hD, by rw [hU]; exact hst.go hS hW⟩⟩ rfl hlen hl.1 rfl (lv_room hcat) hdg ⟨hc, hs⟩) hS (fun q _ h => h) (fun q h => h) (fun q u t H1 locs1 ht hvm hw hB hz1 hk1 hS1 => ?_)
  obtain ⟨hN1, hP1, hK1, hD1, hst1⟩ := hB
  rw [ht] at hP1
  subst hw
  exact k hF H1 locs1 ls hP1 hD1 hS1 hl
end CALLS
end
section
theorem mw_0 : Cond.classLink RL 7 RX5 ∈ wsL_law := List.mem_of_getElem? (i := 0) (by decide +kernel)
theorem mw_1 : Cond.instantiable RX5 9 ∈ wsL_law := List.mem_of_getElem? (i := 1) (by decide +kernel)
theorem mw_2 : Cond.initialized RX5 ∈ wsL_law := List.mem_of_getElem? (i := 2) (by decide +kernel)
theorem mw_3 : Cond.classLink RL 10 RX6 ∈ wsL_law := List.mem_of_getElem? (i := 3) (by decide +kernel)
theorem mw_4 : Cond.instantiable RX6 36 ∈ wsL_law := List.mem_of_getElem? (i := 4) (by decide +kernel)
theorem mw_5 : Cond.initialized RX6 ∈ wsL_law := List.mem_of_getElem? (i := 5) (by decide +kernel)
theorem mw_6 : Cond.constantLong RL 13 (4294967295) ∈ wsL_law := List.mem_of_getElem? (i := 6) (by decide +kernel)
theorem mw_7 : Cond.methodLink RL 9 yX5_init ∈ wsL_law := List.mem_of_getElem? (i := 7) (by decide +kernel)
theorem mw_8 : Cond.instanceMethod yX5_init ∈ wsL_law := List.mem_of_getElem? (i := 8) (by decide +kernel)
theorem mw_9 : Cond.code yX5_init cX5_init 2 none ∈ wsL_law := List.mem_of_getElem? (i := 9) (by decide +kernel)
theorem mw_10 : Cond.methodLink RX5 3 objectInit ∈ wsL_law := List.mem_of_getElem? (i := 10) (by decide +kernel)
theorem mw_11 : Cond.instanceMethod objectInit ∈ wsL_law := List.mem_of_getElem? (i := 11) (by decide +kernel)
theorem mw_12 : Cond.code objectInit ⟨#[0xb1]⟩ 1 none ∈ wsL_law := List.mem_of_getElem? (i := 12) (by decide +kernel)
theorem mw_13 : Cond.fieldLink RX5 9 "TreeClimb" "FIRST_TUNE" "[I" ∈ wsL_law := List.mem_of_getElem? (i := 13) (by decide +kernel)
theorem mw_14 : Cond.methodLink RX5 13 ⟨"[I", "clone", "()Ljava/lang/Object;"⟩ ∈ wsL_law := List.mem_of_getElem? (i := 14) (by decide +kernel)
theorem mw_15 : Cond.sameMethod "[I" "java/lang/Object" "clone" "()Ljava/lang/Object;" ∈ wsL_law := List.mem_of_getElem? (i := 15) (by decide +kernel)
theorem mw_16 : Cond.native ⟨"java/lang/Object", "clone", "()Ljava/lang/Object;"⟩ ∈ wsL_law := List.mem_of_getElem? (i := 16) (by decide +kernel)
theorem mw_17 : Cond.instanceMethod ⟨"java/lang/Object", "clone", "()Ljava/lang/Object;"⟩ ∈ wsL_law := List.mem_of_getElem? (i := 17) (by decide +kernel)
theorem mw_18 : Cond.selects "[I" ⟨"[I", "clone", "()Ljava/lang/Object;"⟩ ⟨"java/lang/Object", "clone", "()Ljava/lang/Object;"⟩ ∈ wsL_law := List.mem_of_getElem? (i := 18) (by decide +kernel)
theorem mw_19 : Cond.classLink RX5 14 "[I" ∈ wsL_law := List.mem_of_getElem? (i := 19) (by decide +kernel)
theorem mw_20 : Cond.fieldLink RX5 18 "TreeClimb" "tunes" "[I" ∈ wsL_law := List.mem_of_getElem? (i := 20) (by decide +kernel)
theorem mw_21 : Cond.classLink RX5 21 RX2 ∈ wsL_law := List.mem_of_getElem? (i := 21) (by decide +kernel)
theorem mw_22 : Cond.instantiable RX2 6 ∈ wsL_law := List.mem_of_getElem? (i := 22) (by decide +kernel)
theorem mw_23 : Cond.initialized RX2 ∈ wsL_law := List.mem_of_getElem? (i := 23) (by decide +kernel)
theorem mw_24 : Cond.fieldLink RX5 24 "TreeClimb" "text" "LTreeClimb$Text;" ∈ wsL_law := List.mem_of_getElem? (i := 24) (by decide +kernel)
theorem mw_25 : Cond.classLink RX5 28 RX3 ∈ wsL_law := List.mem_of_getElem? (i := 25) (by decide +kernel)
theorem mw_26 : Cond.instantiable RX3 7 ∈ wsL_law := List.mem_of_getElem? (i := 26) (by decide +kernel)
theorem mw_27 : Cond.initialized RX3 ∈ wsL_law := List.mem_of_getElem? (i := 27) (by decide +kernel)
theorem mw_28 : Cond.fieldLink RX5 31 "TreeClimb" "ways" "LTreeClimb$Ways;" ∈ wsL_law := List.mem_of_getElem? (i := 28) (by decide +kernel)
theorem mw_29 : Cond.classLink RX5 35 RX0 ∈ wsL_law := List.mem_of_getElem? (i := 29) (by decide +kernel)
theorem mw_30 : Cond.instantiable RX0 4 ∈ wsL_law := List.mem_of_getElem? (i := 30) (by decide +kernel)
theorem mw_31 : Cond.initialized RX0 ∈ wsL_law := List.mem_of_getElem? (i := 31) (by decide +kernel)
theorem mw_32 : Cond.fieldLink RX5 38 "TreeClimb" "diary" "LTreeClimb$Diary;" ∈ wsL_law := List.mem_of_getElem? (i := 32) (by decide +kernel)
theorem mw_33 : Cond.classLink RX5 42 RX1 ∈ wsL_law := List.mem_of_getElem? (i := 33) (by decide +kernel)
theorem mw_34 : Cond.instantiable RX1 9 ∈ wsL_law := List.mem_of_getElem? (i := 34) (by decide +kernel)
theorem mw_35 : Cond.initialized RX1 ∈ wsL_law := List.mem_of_getElem? (i := 35) (by decide +kernel)
theorem mw_36 : Cond.fieldLink RX5 45 "TreeClimb" "present" "LTreeClimb$Moment;" ∈ wsL_law := List.mem_of_getElem? (i := 36) (by decide +kernel)
theorem mw_37 : Cond.fieldLink RX5 49 "TreeClimb" "images" "[LTreeClimb$Moment;" ∈ wsL_law := List.mem_of_getElem? (i := 37) (by decide +kernel)
theorem mw_38 : Cond.classLink RX5 53 RX4 ∈ wsL_law := List.mem_of_getElem? (i := 38) (by decide +kernel)
theorem mw_39 : Cond.instantiable RX4 6 ∈ wsL_law := List.mem_of_getElem? (i := 39) (by decide +kernel)
theorem mw_40 : Cond.initialized RX4 ∈ wsL_law := List.mem_of_getElem? (i := 40) (by decide +kernel)
theorem mw_41 : Cond.fieldLink RX5 56 "TreeClimb" "wood" "LTreeClimb$Wood;" ∈ wsL_law := List.mem_of_getElem? (i := 41) (by decide +kernel)
theorem mw_42 : Cond.fieldLink RX5 60 "TreeClimb" "draft" "LTreeClimb$Wood;" ∈ wsL_law := List.mem_of_getElem? (i := 42) (by decide +kernel)
theorem mw_43 : Cond.fieldLink RX5 63 "TreeClimb" "asked" "J" ∈ wsL_law := List.mem_of_getElem? (i := 43) (by decide +kernel)
theorem mw_44 : Cond.fieldLink RX5 67 "TreeClimb$Moment" "lot" "I" ∈ wsL_law := List.mem_of_getElem? (i := 44) (by decide +kernel)
theorem mw_45 : Cond.instanceMethod yX2_init ∈ wsL_law := List.mem_of_getElem? (i := 45) (by decide +kernel)
theorem mw_46 : Cond.code yX2_init cX2_init 1 none ∈ wsL_law := List.mem_of_getElem? (i := 46) (by decide +kernel)
theorem mw_47 : Cond.methodLink RX2 3 objectInit ∈ wsL_law := List.mem_of_getElem? (i := 47) (by decide +kernel)
theorem mw_48 : Cond.arrayClass .int ∈ wsL_law := List.mem_of_getElem? (i := 48) (by decide +kernel)
theorem mw_49 : Cond.fieldLink RX2 9 "TreeClimb$Text" "bytes" "[I" ∈ wsL_law := List.mem_of_getElem? (i := 49) (by decide +kernel)
theorem mw_50 : Cond.fieldLink RX2 15 "TreeClimb$Text" "length" "I" ∈ wsL_law := List.mem_of_getElem? (i := 50) (by decide +kernel)
theorem mw_51 : Cond.fieldLink RX2 19 "TreeClimb$Text" "at" "I" ∈ wsL_law := List.mem_of_getElem? (i := 51) (by decide +kernel)
theorem mw_52 : Cond.fieldLink RX2 22 "TreeClimb$Text" "start" "I" ∈ wsL_law := List.mem_of_getElem? (i := 52) (by decide +kernel)
theorem mw_53 : Cond.fieldLink RX2 25 "TreeClimb$Text" "token" "I" ∈ wsL_law := List.mem_of_getElem? (i := 53) (by decide +kernel)
theorem mw_54 : Cond.fieldLink RX2 28 "TreeClimb$Text" "number" "I" ∈ wsL_law := List.mem_of_getElem? (i := 54) (by decide +kernel)
theorem mw_55 : Cond.instanceMethod yX3_init ∈ wsL_law := List.mem_of_getElem? (i := 55) (by decide +kernel)
theorem mw_56 : Cond.code yX3_init cX3_init 1 none ∈ wsL_law := List.mem_of_getElem? (i := 56) (by decide +kernel)
theorem mw_57 : Cond.methodLink RX3 3 objectInit ∈ wsL_law := List.mem_of_getElem? (i := 57) (by decide +kernel)
theorem mw_58 : Cond.fieldLink RX3 9 "TreeClimb$Ways" "next" "[I" ∈ wsL_law := List.mem_of_getElem? (i := 58) (by decide +kernel)
theorem mw_59 : Cond.fieldLink RX3 15 "TreeClimb$Ways" "tenths" "[I" ∈ wsL_law := List.mem_of_getElem? (i := 59) (by decide +kernel)
theorem mw_60 : Cond.fieldLink RX3 18 "TreeClimb$Ways" "steps" "[I" ∈ wsL_law := List.mem_of_getElem? (i := 60) (by decide +kernel)
theorem mw_61 : Cond.arrayClass .long ∈ wsL_law := List.mem_of_getElem? (i := 61) (by decide +kernel)
theorem mw_62 : Cond.fieldLink RX3 21 "TreeClimb$Ways" "odds" "[J" ∈ wsL_law := List.mem_of_getElem? (i := 62) (by decide +kernel)
theorem mw_63 : Cond.fieldLink RX3 25 "TreeClimb$Ways" "counts" "[J" ∈ wsL_law := List.mem_of_getElem? (i := 63) (by decide +kernel)
theorem mw_64 : Cond.fieldLink RX3 28 "TreeClimb$Ways" "before" "[J" ∈ wsL_law := List.mem_of_getElem? (i := 64) (by decide +kernel)
theorem mw_65 : Cond.fieldLink RX3 31 "TreeClimb$Ways" "after" "[J" ∈ wsL_law := List.mem_of_getElem? (i := 65) (by decide +kernel)
theorem mw_66 : Cond.instanceMethod yX0_init ∈ wsL_law := List.mem_of_getElem? (i := 66) (by decide +kernel)
theorem mw_67 : Cond.code yX0_init cX0_init 1 none ∈ wsL_law := List.mem_of_getElem? (i := 67) (by decide +kernel)
theorem mw_68 : Cond.methodLink RX0 3 objectInit ∈ wsL_law := List.mem_of_getElem? (i := 68) (by decide +kernel)
theorem mw_69 : Cond.fieldLink RX0 9 "TreeClimb$Diary" "entries" "I" ∈ wsL_law := List.mem_of_getElem? (i := 69) (by decide +kernel)
theorem mw_70 : Cond.fieldLink RX0 15 "TreeClimb$Diary" "bodies" "[I" ∈ wsL_law := List.mem_of_getElem? (i := 70) (by decide +kernel)
theorem mw_71 : Cond.fieldLink RX0 19 "TreeClimb$Diary" "lookers" "[I" ∈ wsL_law := List.mem_of_getElem? (i := 71) (by decide +kernel)
theorem mw_72 : Cond.fieldLink RX0 22 "TreeClimb$Diary" "tops" "[I" ∈ wsL_law := List.mem_of_getElem? (i := 72) (by decide +kernel)
theorem mw_73 : Cond.instanceMethod yX1_init ∈ wsL_law := List.mem_of_getElem? (i := 73) (by decide +kernel)
theorem mw_74 : Cond.code yX1_init cX1_init 1 none ∈ wsL_law := List.mem_of_getElem? (i := 74) (by decide +kernel)
theorem mw_75 : Cond.methodLink RX1 3 objectInit ∈ wsL_law := List.mem_of_getElem? (i := 75) (by decide +kernel)
theorem mw_76 : Cond.fieldLink RX1 9 "TreeClimb$Moment" "who" "I" ∈ wsL_law := List.mem_of_getElem? (i := 76) (by decide +kernel)
theorem mw_77 : Cond.fieldLink RX1 15 "TreeClimb$Moment" "where" "I" ∈ wsL_law := List.mem_of_getElem? (i := 77) (by decide +kernel)
theorem mw_78 : Cond.fieldLink RX1 18 "TreeClimb$Moment" "hurt" "I" ∈ wsL_law := List.mem_of_getElem? (i := 78) (by decide +kernel)
theorem mw_79 : Cond.fieldLink RX1 21 "TreeClimb$Moment" "top" "I" ∈ wsL_law := List.mem_of_getElem? (i := 79) (by decide +kernel)
theorem mw_80 : Cond.fieldLink RX1 24 "TreeClimb$Moment" "steps" "I" ∈ wsL_law := List.mem_of_getElem? (i := 80) (by decide +kernel)
theorem mw_81 : Cond.fieldLink RX1 27 "TreeClimb$Moment" "falls" "I" ∈ wsL_law := List.mem_of_getElem? (i := 81) (by decide +kernel)
theorem mw_82 : Cond.fieldLink RX1 30 "TreeClimb$Moment" "lot" "I" ∈ wsL_law := List.mem_of_getElem? (i := 82) (by decide +kernel)
theorem mw_83 : Cond.fieldLink RX1 33 "TreeClimb$Moment" "sawn" "I" ∈ wsL_law := List.mem_of_getElem? (i := 83) (by decide +kernel)
theorem mw_84 : Cond.fieldLink RX1 36 "TreeClimb$Moment" "kept" "Z" ∈ wsL_law := List.mem_of_getElem? (i := 84) (by decide +kernel)
theorem mw_85 : Cond.instanceMethod yX4_init ∈ wsL_law := List.mem_of_getElem? (i := 85) (by decide +kernel)
theorem mw_86 : Cond.code yX4_init cX4_init 1 none ∈ wsL_law := List.mem_of_getElem? (i := 86) (by decide +kernel)
theorem mw_87 : Cond.methodLink RX4 3 objectInit ∈ wsL_law := List.mem_of_getElem? (i := 87) (by decide +kernel)
theorem mw_88 : Cond.fieldLink RX4 9 "TreeClimb$Wood" "branches" "I" ∈ wsL_law := List.mem_of_getElem? (i := 88) (by decide +kernel)
theorem mw_89 : Cond.fieldLink RX4 15 "TreeClimb$Wood" "bodies" "I" ∈ wsL_law := List.mem_of_getElem? (i := 89) (by decide +kernel)
theorem mw_90 : Cond.classLink RX4 18 "[[I" ∈ wsL_law := List.mem_of_getElem? (i := 90) (by decide +kernel)
theorem mw_91 : Cond.fieldLink RX4 20 "TreeClimb$Wood" "features" "[[I" ∈ wsL_law := List.mem_of_getElem? (i := 91) (by decide +kernel)
theorem mw_92 : Cond.fieldLink RX4 23 "TreeClimb$Wood" "powers" "[[I" ∈ wsL_law := List.mem_of_getElem? (i := 92) (by decide +kernel)
theorem mw_93 : Cond.fieldLink RX4 26 "TreeClimb$Wood" "downward" "[I" ∈ wsL_law := List.mem_of_getElem? (i := 93) (by decide +kernel)
theorem mw_94 : Cond.fieldLink RX4 30 "TreeClimb$Wood" "under" "[I" ∈ wsL_law := List.mem_of_getElem? (i := 94) (by decide +kernel)
theorem mw_95 : Cond.methodLink RL 12 yX6_init ∈ wsL_law := List.mem_of_getElem? (i := 95) (by decide +kernel)
theorem mw_96 : Cond.instanceMethod yX6_init ∈ wsL_law := List.mem_of_getElem? (i := 96) (by decide +kernel)
theorem mw_97 : Cond.code yX6_init cX6_init 1 none ∈ wsL_law := List.mem_of_getElem? (i := 97) (by decide +kernel)
theorem mw_98 : Cond.methodLink RX6 1 objectInit ∈ wsL_law := List.mem_of_getElem? (i := 98) (by decide +kernel)
theorem mw_99 : Cond.arrayClass .byte ∈ wsL_law := List.mem_of_getElem? (i := 99) (by decide +kernel)
theorem mw_100 : Cond.fieldLink RX6 7 "TreeClimbModel" "text" "[B" ∈ wsL_law := List.mem_of_getElem? (i := 100) (by decide +kernel)
theorem mw_101 : Cond.fieldLink RX6 13 "TreeClimbModel" "branches" "[I" ∈ wsL_law := List.mem_of_getElem? (i := 101) (by decide +kernel)
theorem mw_102 : Cond.fieldLink RX6 17 "TreeClimbModel" "told" "[I" ∈ wsL_law := List.mem_of_getElem? (i := 102) (by decide +kernel)
theorem mw_103 : Cond.fieldLink RX6 20 "TreeClimbModel" "bodies" "[I" ∈ wsL_law := List.mem_of_getElem? (i := 103) (by decide +kernel)
theorem mw_104 : Cond.fieldLink RX6 23 "TreeClimbModel" "bodyTold" "[I" ∈ wsL_law := List.mem_of_getElem? (i := 104) (by decide +kernel)
theorem mw_105 : Cond.fieldLink RX6 26 "TreeClimbModel" "tune" "[I" ∈ wsL_law := List.mem_of_getElem? (i := 105) (by decide +kernel)
theorem mw_106 : Cond.fieldLink RX6 29 "TreeClimbModel" "sawnOnes" "[I" ∈ wsL_law := List.mem_of_getElem? (i := 106) (by decide +kernel)
theorem mw_107 : Cond.fieldLink RX6 32 "TreeClimbModel" "odds" "[J" ∈ wsL_law := List.mem_of_getElem? (i := 107) (by decide +kernel)
theorem mw_108 : Cond.fieldLink RX6 36 "TreeClimbModel" "steps" "[I" ∈ wsL_law := List.mem_of_getElem? (i := 108) (by decide +kernel)
theorem mw_109 : Cond.fieldLink RX6 39 "TreeClimbModel" "nows" "[J" ∈ wsL_law := List.mem_of_getElem? (i := 109) (by decide +kernel)
theorem mw_110 : Cond.fieldLink RX6 42 "TreeClimbModel" "then" "[J" ∈ wsL_law := List.mem_of_getElem? (i := 110) (by decide +kernel)
theorem mw_111 : Cond.fieldLink RX6 45 "TreeClimbModel" "ups" "[J" ∈ wsL_law := List.mem_of_getElem? (i := 111) (by decide +kernel)
theorem mw_112 : Cond.fieldLink RX6 48 "TreeClimbModel" "whose" "[I" ∈ wsL_law := List.mem_of_getElem? (i := 112) (by decide +kernel)
theorem mw_113 : Cond.fieldLink RX6 51 "TreeClimbModel" "looks" "[I" ∈ wsL_law := List.mem_of_getElem? (i := 113) (by decide +kernel)
theorem mw_114 : Cond.fieldLink RX6 54 "TreeClimbModel" "highs" "[I" ∈ wsL_law := List.mem_of_getElem? (i := 114) (by decide +kernel)
theorem mw_115 : Cond.fieldLink RX6 57 "TreeClimbModel" "who" "[I" ∈ wsL_law := List.mem_of_getElem? (i := 115) (by decide +kernel)
theorem mw_116 : Cond.fieldLink RX6 60 "TreeClimbModel" "where" "[I" ∈ wsL_law := List.mem_of_getElem? (i := 116) (by decide +kernel)
theorem mw_117 : Cond.fieldLink RX6 63 "TreeClimbModel" "hurt" "[I" ∈ wsL_law := List.mem_of_getElem? (i := 117) (by decide +kernel)
theorem mw_118 : Cond.fieldLink RX6 66 "TreeClimbModel" "tops" "[I" ∈ wsL_law := List.mem_of_getElem? (i := 118) (by decide +kernel)
theorem mw_119 : Cond.fieldLink RX6 69 "TreeClimbModel" "held" "[I" ∈ wsL_law := List.mem_of_getElem? (i := 119) (by decide +kernel)
theorem mw_120 : Cond.fieldLink RX6 72 "TreeClimbModel" "falls" "[I" ∈ wsL_law := List.mem_of_getElem? (i := 120) (by decide +kernel)
theorem mw_121 : Cond.fieldLink RX6 75 "TreeClimbModel" "lots" "[I" ∈ wsL_law := List.mem_of_getElem? (i := 121) (by decide +kernel)
theorem mw_122 : Cond.arrayClass .boolean ∈ wsL_law := List.mem_of_getElem? (i := 122) (by decide +kernel)
theorem mw_123 : Cond.fieldLink RX6 78 "TreeClimbModel" "isKept" "[Z" ∈ wsL_law := List.mem_of_getElem? (i := 123) (by decide +kernel)
theorem mw_124 : Cond.methodLink RL 15 yX5_type ∈ wsL_law := List.mem_of_getElem? (i := 124) (by decide +kernel)
theorem mw_125 : Cond.instanceMethod yX5_type ∈ wsL_law := List.mem_of_getElem? (i := 125) (by decide +kernel)
theorem mw_126 : Cond.selects RX5 yX5_type yX5_type ∈ wsL_law := List.mem_of_getElem? (i := 126) (by decide +kernel)
theorem mw_127 : Cond.code yX5_type cX5_type 4 (some .int) ∈ wsL_law := List.mem_of_getElem? (i := 127) (by decide +kernel)
theorem mw_128 : Cond.fieldLink RX5 75 "TreeClimb$Text" "length" "I" ∈ wsL_law := List.mem_of_getElem? (i := 128) (by decide +kernel)
theorem mw_129 : Cond.methodLink RX5 71 yX2_append ∈ wsL_law := List.mem_of_getElem? (i := 129) (by decide +kernel)
theorem mw_130 : Cond.instanceMethod yX2_append ∈ wsL_law := List.mem_of_getElem? (i := 130) (by decide +kernel)
theorem mw_131 : Cond.selects RX2 yX2_append yX2_append ∈ wsL_law := List.mem_of_getElem? (i := 131) (by decide +kernel)
theorem mw_132 : Cond.code yX2_append cX2_append 5 (some .boolean) ∈ wsL_law := List.mem_of_getElem? (i := 132) (by decide +kernel)
theorem mw_133 : Cond.methodLink RL 19 yX6_type ∈ wsL_law := List.mem_of_getElem? (i := 133) (by decide +kernel)
theorem mw_134 : Cond.instanceMethod yX6_type ∈ wsL_law := List.mem_of_getElem? (i := 134) (by decide +kernel)
theorem mw_135 : Cond.selects RX6 yX6_type yX6_type ∈ wsL_law := List.mem_of_getElem? (i := 135) (by decide +kernel)
theorem mw_136 : Cond.code yX6_type cX6_type 5 (some .int) ∈ wsL_law := List.mem_of_getElem? (i := 136) (by decide +kernel)
theorem mw_137 : Cond.fieldLink RX6 86 "TreeClimbModel" "typed" "I" ∈ wsL_law := List.mem_of_getElem? (i := 137) (by decide +kernel)
theorem mw_138 : Cond.constantLong RX6 90 (255) ∈ wsL_law := List.mem_of_getElem? (i := 138) (by decide +kernel)
theorem mw_139 : Cond.methodLink RX6 82 yX6_in ∈ wsL_law := List.mem_of_getElem? (i := 139) (by decide +kernel)
theorem mw_140 : Cond.static yX6_in ∈ wsL_law := List.mem_of_getElem? (i := 140) (by decide +kernel)
theorem mw_141 : Cond.code yX6_in cX6_in 3 (some .boolean) ∈ wsL_law := List.mem_of_getElem? (i := 141) (by decide +kernel)
theorem mw_142 : Cond.methodLink RL 20 yX5_clear ∈ wsL_law := List.mem_of_getElem? (i := 142) (by decide +kernel)
theorem mw_143 : Cond.instanceMethod yX5_clear ∈ wsL_law := List.mem_of_getElem? (i := 143) (by decide +kernel)
theorem mw_144 : Cond.selects RX5 yX5_clear yX5_clear ∈ wsL_law := List.mem_of_getElem? (i := 144) (by decide +kernel)
theorem mw_145 : Cond.code yX5_clear cX5_clear 2 (some .int) ∈ wsL_law := List.mem_of_getElem? (i := 145) (by decide +kernel)
theorem mw_146 : Cond.methodLink RL 24 yX6_clear ∈ wsL_law := List.mem_of_getElem? (i := 146) (by decide +kernel)
theorem mw_147 : Cond.instanceMethod yX6_clear ∈ wsL_law := List.mem_of_getElem? (i := 147) (by decide +kernel)
theorem mw_148 : Cond.selects RX6 yX6_clear yX6_clear ∈ wsL_law := List.mem_of_getElem? (i := 148) (by decide +kernel)
theorem mw_149 : Cond.code yX6_clear cX6_clear 2 (some .int) ∈ wsL_law := List.mem_of_getElem? (i := 149) (by decide +kernel)
theorem mw_150 : Cond.methodLink RL 25 yX5_tree ∈ wsL_law := List.mem_of_getElem? (i := 150) (by decide +kernel)
theorem mw_151 : Cond.instanceMethod yX5_tree ∈ wsL_law := List.mem_of_getElem? (i := 151) (by decide +kernel)
theorem mw_152 : Cond.selects RX5 yX5_tree yX5_tree ∈ wsL_law := List.mem_of_getElem? (i := 152) (by decide +kernel)
theorem mw_153 : Cond.code yX5_tree cX5_tree 3 (some .int) ∈ wsL_law := List.mem_of_getElem? (i := 153) (by decide +kernel)
theorem mw_154 : Cond.fieldLink RX5 89 "TreeClimb$Moment" "sawn" "I" ∈ wsL_law := List.mem_of_getElem? (i := 154) (by decide +kernel)
theorem mw_155 : Cond.fieldLink RX5 92 "TreeClimb$Diary" "entries" "I" ∈ wsL_law := List.mem_of_getElem? (i := 155) (by decide +kernel)
theorem mw_156 : Cond.fieldLink RX5 95 "TreeClimb$Moment" "kept" "Z" ∈ wsL_law := List.mem_of_getElem? (i := 156) (by decide +kernel)
theorem mw_157 : Cond.fieldLink RX5 99 "TreeClimb$Wood" "branches" "I" ∈ wsL_law := List.mem_of_getElem? (i := 157) (by decide +kernel)
theorem mw_158 : Cond.fieldLink RX5 102 "TreeClimb$Wood" "bodies" "I" ∈ wsL_law := List.mem_of_getElem? (i := 158) (by decide +kernel)
theorem mw_159 : Cond.methodLink RX5 78 yX5_readText ∈ wsL_law := List.mem_of_getElem? (i := 159) (by decide +kernel)
theorem mw_160 : Cond.instanceMethod yX5_readText ∈ wsL_law := List.mem_of_getElem? (i := 160) (by decide +kernel)
theorem mw_161 : Cond.selects RX5 yX5_readText yX5_readText ∈ wsL_law := List.mem_of_getElem? (i := 161) (by decide +kernel)
theorem mw_162 : Cond.code yX5_readText cX5_readText 3 (some .int) ∈ wsL_law := List.mem_of_getElem? (i := 162) (by decide +kernel)
theorem mw_163 : Cond.fieldLink RX5 304 "TreeClimb$Text" "token" "I" ∈ wsL_law := List.mem_of_getElem? (i := 163) (by decide +kernel)
theorem mw_164 : Cond.fieldLink RX5 313 "TreeClimb$Text" "start" "I" ∈ wsL_law := List.mem_of_getElem? (i := 164) (by decide +kernel)
theorem mw_165 : Cond.methodLink RX5 295 yX4_empty ∈ wsL_law := List.mem_of_getElem? (i := 165) (by decide +kernel)
theorem mw_166 : Cond.instanceMethod yX4_empty ∈ wsL_law := List.mem_of_getElem? (i := 166) (by decide +kernel)
theorem mw_167 : Cond.selects RX4 yX4_empty yX4_empty ∈ wsL_law := List.mem_of_getElem? (i := 167) (by decide +kernel)
theorem mw_168 : Cond.code yX4_empty cX4_empty 1 none ∈ wsL_law := List.mem_of_getElem? (i := 168) (by decide +kernel)
theorem mw_169 : Cond.methodLink RX5 298 yX2_rewind ∈ wsL_law := List.mem_of_getElem? (i := 169) (by decide +kernel)
theorem mw_170 : Cond.instanceMethod yX2_rewind ∈ wsL_law := List.mem_of_getElem? (i := 170) (by decide +kernel)
theorem mw_171 : Cond.selects RX2 yX2_rewind yX2_rewind ∈ wsL_law := List.mem_of_getElem? (i := 171) (by decide +kernel)
theorem mw_172 : Cond.code yX2_rewind cX2_rewind 1 none ∈ wsL_law := List.mem_of_getElem? (i := 172) (by decide +kernel)
theorem mw_173 : Cond.methodLink RX5 301 yX2_advance ∈ wsL_law := List.mem_of_getElem? (i := 173) (by decide +kernel)
theorem mw_174 : Cond.instanceMethod yX2_advance ∈ wsL_law := List.mem_of_getElem? (i := 174) (by decide +kernel)
theorem mw_175 : Cond.selects RX2 yX2_advance yX2_advance ∈ wsL_law := List.mem_of_getElem? (i := 175) (by decide +kernel)
theorem mw_176 : Cond.code yX2_advance cX2_advance 2 none ∈ wsL_law := List.mem_of_getElem? (i := 176) (by decide +kernel)
theorem mw_177 : Cond.methodLink RX2 31 yX2_byteAt ∈ wsL_law := List.mem_of_getElem? (i := 177) (by decide +kernel)
theorem mw_178 : Cond.instanceMethod yX2_byteAt ∈ wsL_law := List.mem_of_getElem? (i := 178) (by decide +kernel)
theorem mw_179 : Cond.selects RX2 yX2_byteAt yX2_byteAt ∈ wsL_law := List.mem_of_getElem? (i := 179) (by decide +kernel)
theorem mw_180 : Cond.code yX2_byteAt cX2_byteAt 2 (some .int) ∈ wsL_law := List.mem_of_getElem? (i := 180) (by decide +kernel)
theorem mw_181 : Cond.methodLink RX2 35 yX2_isDigit ∈ wsL_law := List.mem_of_getElem? (i := 181) (by decide +kernel)
theorem mw_182 : Cond.static yX2_isDigit ∈ wsL_law := List.mem_of_getElem? (i := 182) (by decide +kernel)
theorem mw_183 : Cond.code yX2_isDigit cX2_isDigit 1 (some .boolean) ∈ wsL_law := List.mem_of_getElem? (i := 183) (by decide +kernel)
theorem mw_184 : Cond.methodLink RX2 39 yX2_readNumber ∈ wsL_law := List.mem_of_getElem? (i := 184) (by decide +kernel)
theorem mw_185 : Cond.instanceMethod yX2_readNumber ∈ wsL_law := List.mem_of_getElem? (i := 185) (by decide +kernel)
theorem mw_186 : Cond.selects RX2 yX2_readNumber yX2_readNumber ∈ wsL_law := List.mem_of_getElem? (i := 186) (by decide +kernel)
theorem mw_187 : Cond.code yX2_readNumber cX2_readNumber 3 (some .int) ∈ wsL_law := List.mem_of_getElem? (i := 187) (by decide +kernel)
theorem mw_188 : Cond.methodLink RX2 49 Lib.Math.min.name ∈ wsL_law := List.mem_of_getElem? (i := 188) (by decide +kernel)
theorem mw_189 : Cond.static Lib.Math.min.name ∈ wsL_law := List.mem_of_getElem? (i := 189) (by decide +kernel)
theorem mw_190 : Cond.initialized "java/lang/Math" ∈ wsL_law := List.mem_of_getElem? (i := 190) (by decide +kernel)
theorem mw_191 : Cond.code Lib.Math.min.name Lib.Math.min.code 2 (some .int) ∈ wsL_law := List.mem_of_getElem? (i := 191) (by decide +kernel)
theorem mw_192 : Cond.methodLink RX2 43 yX2_isLetter ∈ wsL_law := List.mem_of_getElem? (i := 192) (by decide +kernel)
theorem mw_193 : Cond.static yX2_isLetter ∈ wsL_law := List.mem_of_getElem? (i := 193) (by decide +kernel)
theorem mw_194 : Cond.code yX2_isLetter cX2_isLetter 1 (some .boolean) ∈ wsL_law := List.mem_of_getElem? (i := 194) (by decide +kernel)
theorem mw_195 : Cond.methodLink RX2 46 yX2_readWord ∈ wsL_law := List.mem_of_getElem? (i := 195) (by decide +kernel)
theorem mw_196 : Cond.instanceMethod yX2_readWord ∈ wsL_law := List.mem_of_getElem? (i := 196) (by decide +kernel)
theorem mw_197 : Cond.selects RX2 yX2_readWord yX2_readWord ∈ wsL_law := List.mem_of_getElem? (i := 197) (by decide +kernel)
theorem mw_198 : Cond.code yX2_readWord cX2_readWord 1 (some .int) ∈ wsL_law := List.mem_of_getElem? (i := 198) (by decide +kernel)
theorem mw_199 : Cond.methodLink RX2 57 yX2_says ∈ wsL_law := List.mem_of_getElem? (i := 199) (by decide +kernel)
theorem mw_200 : Cond.instanceMethod yX2_says ∈ wsL_law := List.mem_of_getElem? (i := 200) (by decide +kernel)
theorem mw_201 : Cond.selects RX2 yX2_says yX2_says ∈ wsL_law := List.mem_of_getElem? (i := 201) (by decide +kernel)
theorem mw_202 : Cond.code yX2_says cX2_says 3 (some .boolean) ∈ wsL_law := List.mem_of_getElem? (i := 202) (by decide +kernel)
theorem mw_203 : Cond.methodLink RX2 67 yJ0_length_8abf5 ∈ wsL_law := List.mem_of_getElem? (i := 203) (by decide +kernel)
theorem mw_204 : Cond.instanceMethod yJ0_length_8abf5 ∈ wsL_law := List.mem_of_getElem? (i := 204) (by decide +kernel)
theorem mw_205 : Cond.selects RJ0 yJ0_length_8abf5 yJ0_length_8abf5 ∈ wsL_law := List.mem_of_getElem? (i := 205) (by decide +kernel)
theorem mw_206 : Cond.initialized RJ0 ∈ wsL_law := List.mem_of_getElem? (i := 206) (by decide +kernel)
theorem mw_207 : Cond.code yJ0_length_8abf5 cJ0_length_8abf5 1 (some .int) ∈ wsL_law := List.mem_of_getElem? (i := 207) (by decide +kernel)
theorem mw_208 : Cond.fieldLink RJ0 9 "java/lang/String" "value" "[B" ∈ wsL_law := List.mem_of_getElem? (i := 208) (by decide +kernel)
theorem mw_209 : Cond.methodLink RJ0 335 yJ0_coder_7d493 ∈ wsL_law := List.mem_of_getElem? (i := 209) (by decide +kernel)
theorem mw_210 : Cond.instanceMethod yJ0_coder_7d493 ∈ wsL_law := List.mem_of_getElem? (i := 210) (by decide +kernel)
theorem mw_211 : Cond.selects RJ0 yJ0_coder_7d493 yJ0_coder_7d493 ∈ wsL_law := List.mem_of_getElem? (i := 211) (by decide +kernel)
theorem mw_212 : Cond.code yJ0_coder_7d493 cJ0_coder_7d493 1 (some .byte) ∈ wsL_law := List.mem_of_getElem? (i := 212) (by decide +kernel)
theorem mw_213 : Cond.fieldLink RJ0 38 "java/lang/String" "COMPACT_STRINGS" "Z" ∈ wsL_law := List.mem_of_getElem? (i := 213) (by decide +kernel)
theorem mw_214 : Cond.fieldLink RJ0 15 "java/lang/String" "coder" "B" ∈ wsL_law := List.mem_of_getElem? (i := 214) (by decide +kernel)
theorem mw_215 : Cond.methodLink RX2 71 yJ0_charAt_5068e ∈ wsL_law := List.mem_of_getElem? (i := 215) (by decide +kernel)
theorem mw_216 : Cond.instanceMethod yJ0_charAt_5068e ∈ wsL_law := List.mem_of_getElem? (i := 216) (by decide +kernel)
theorem mw_217 : Cond.selects RJ0 yJ0_charAt_5068e yJ0_charAt_5068e ∈ wsL_law := List.mem_of_getElem? (i := 217) (by decide +kernel)
theorem mw_218 : Cond.code yJ0_charAt_5068e cJ0_charAt_5068e 2 (some .char) ∈ wsL_law := List.mem_of_getElem? (i := 218) (by decide +kernel)
theorem mw_219 : Cond.methodLink RJ0 492 yJ0_isLatin1_aae02 ∈ wsL_law := List.mem_of_getElem? (i := 219) (by decide +kernel)
theorem mw_220 : Cond.instanceMethod yJ0_isLatin1_aae02 ∈ wsL_law := List.mem_of_getElem? (i := 220) (by decide +kernel)
theorem mw_221 : Cond.selects RJ0 yJ0_isLatin1_aae02 yJ0_isLatin1_aae02 ∈ wsL_law := List.mem_of_getElem? (i := 221) (by decide +kernel)
theorem mw_222 : Cond.code yJ0_isLatin1_aae02 cJ0_isLatin1_aae02 1 (some .boolean) ∈ wsL_law := List.mem_of_getElem? (i := 222) (by decide +kernel)
theorem mw_223 : Cond.methodLink RJ0 495 yJ1_charAt_3b067 ∈ wsL_law := List.mem_of_getElem? (i := 223) (by decide +kernel)
theorem mw_224 : Cond.static yJ1_charAt_3b067 ∈ wsL_law := List.mem_of_getElem? (i := 224) (by decide +kernel)
theorem mw_225 : Cond.initialized RJ1 ∈ wsL_law := List.mem_of_getElem? (i := 225) (by decide +kernel)
theorem mw_226 : Cond.code yJ1_charAt_3b067 cJ1_charAt_3b067 2 (some .char) ∈ wsL_law := List.mem_of_getElem? (i := 226) (by decide +kernel)
theorem mw_227 : Cond.methodLink RJ1 9 yJ0_checkIndex_df160 ∈ wsL_law := List.mem_of_getElem? (i := 227) (by decide +kernel)
theorem mw_228 : Cond.static yJ0_checkIndex_df160 ∈ wsL_law := List.mem_of_getElem? (i := 228) (by decide +kernel)
theorem mw_229 : Cond.code yJ0_checkIndex_df160 cJ0_checkIndex_df160 2 none ∈ wsL_law := List.mem_of_getElem? (i := 229) (by decide +kernel)
theorem mw_230 : Cond.fieldLink RJ0 1053 "jdk/internal/util/Preconditions" "SIOOBE_FORMATTER" "Ljava/util/function/BiFunction;" ∈ wsL_law := List.mem_of_getElem? (i := 230) (by decide +kernel)
theorem mw_231 : Cond.methodLink RJ0 1059 yJ3_checkIndex_8e157 ∈ wsL_law := List.mem_of_getElem? (i := 231) (by decide +kernel)
theorem mw_232 : Cond.static yJ3_checkIndex_8e157 ∈ wsL_law := List.mem_of_getElem? (i := 232) (by decide +kernel)
theorem mw_233 : Cond.initialized RJ3 ∈ wsL_law := List.mem_of_getElem? (i := 233) (by decide +kernel)
theorem mw_234 : Cond.code yJ3_checkIndex_8e157 cJ3_checkIndex_8e157 3 (some .int) ∈ wsL_law := List.mem_of_getElem? (i := 234) (by decide +kernel)
theorem mw_235 : Cond.methodLink RJ0 498 yJ2_charAt_3b067 ∈ wsL_law := List.mem_of_getElem? (i := 235) (by decide +kernel)
theorem mw_236 : Cond.static yJ2_charAt_3b067 ∈ wsL_law := List.mem_of_getElem? (i := 236) (by decide +kernel)
theorem mw_237 : Cond.initialized RJ2 ∈ wsL_law := List.mem_of_getElem? (i := 237) (by decide +kernel)
theorem mw_238 : Cond.code yJ2_charAt_3b067 cJ2_charAt_3b067 2 (some .char) ∈ wsL_law := List.mem_of_getElem? (i := 238) (by decide +kernel)
theorem mw_239 : Cond.methodLink RJ2 67 yJ2_checkIndex_2214a ∈ wsL_law := List.mem_of_getElem? (i := 239) (by decide +kernel)
theorem mw_240 : Cond.static yJ2_checkIndex_2214a ∈ wsL_law := List.mem_of_getElem? (i := 240) (by decide +kernel)
theorem mw_241 : Cond.code yJ2_checkIndex_2214a cJ2_checkIndex_2214a 2 none ∈ wsL_law := List.mem_of_getElem? (i := 241) (by decide +kernel)
theorem mw_242 : Cond.methodLink RJ2 48 yJ2_length_9d52b ∈ wsL_law := List.mem_of_getElem? (i := 242) (by decide +kernel)
theorem mw_243 : Cond.static yJ2_length_9d52b ∈ wsL_law := List.mem_of_getElem? (i := 243) (by decide +kernel)
theorem mw_244 : Cond.code yJ2_length_9d52b cJ2_length_9d52b 1 (some .int) ∈ wsL_law := List.mem_of_getElem? (i := 244) (by decide +kernel)
theorem mw_245 : Cond.methodLink RJ2 414 yJ0_checkIndex_df160 ∈ wsL_law := List.mem_of_getElem? (i := 245) (by decide +kernel)
theorem mw_246 : Cond.methodLink RJ2 71 yJ2_getChar_3b067 ∈ wsL_law := List.mem_of_getElem? (i := 246) (by decide +kernel)
theorem mw_247 : Cond.static yJ2_getChar_3b067 ∈ wsL_law := List.mem_of_getElem? (i := 247) (by decide +kernel)
theorem mw_248 : Cond.code yJ2_getChar_3b067 cJ2_getChar_3b067 2 (some .char) ∈ wsL_law := List.mem_of_getElem? (i := 248) (by decide +kernel)
theorem mw_249 : Cond.fieldLink RJ2 44 "java/lang/StringUTF16" "$assertionsDisabled" "Z" ∈ wsL_law := List.mem_of_getElem? (i := 249) (by decide +kernel)
theorem mw_250 : Cond.fieldLink RJ2 59 "java/lang/StringUTF16" "HI_BYTE_SHIFT" "I" ∈ wsL_law := List.mem_of_getElem? (i := 250) (by decide +kernel)
theorem mw_251 : Cond.fieldLink RJ2 63 "java/lang/StringUTF16" "LO_BYTE_SHIFT" "I" ∈ wsL_law := List.mem_of_getElem? (i := 251) (by decide +kernel)
theorem mw_252 : Cond.methodLink RX5 307 yX5_readBranch ∈ wsL_law := List.mem_of_getElem? (i := 252) (by decide +kernel)
theorem mw_253 : Cond.instanceMethod yX5_readBranch ∈ wsL_law := List.mem_of_getElem? (i := 253) (by decide +kernel)
theorem mw_254 : Cond.selects RX5 yX5_readBranch yX5_readBranch ∈ wsL_law := List.mem_of_getElem? (i := 254) (by decide +kernel)
theorem mw_255 : Cond.code yX5_readBranch cX5_readBranch 4 (some .boolean) ∈ wsL_law := List.mem_of_getElem? (i := 255) (by decide +kernel)
theorem mw_256 : Cond.fieldLink RX5 316 "TreeClimb$Text" "number" "I" ∈ wsL_law := List.mem_of_getElem? (i := 256) (by decide +kernel)
theorem mw_257 : Cond.fieldLink RX5 319 "TreeClimb" "LEAST_OF_BRANCH" "[I" ∈ wsL_law := List.mem_of_getElem? (i := 257) (by decide +kernel)
theorem mw_258 : Cond.fieldLink RX5 322 "TreeClimb" "MOST_OF_BRANCH" "[I" ∈ wsL_law := List.mem_of_getElem? (i := 258) (by decide +kernel)
theorem mw_259 : Cond.methodLink RX5 132 yX5_within ∈ wsL_law := List.mem_of_getElem? (i := 259) (by decide +kernel)
theorem mw_260 : Cond.static yX5_within ∈ wsL_law := List.mem_of_getElem? (i := 260) (by decide +kernel)
theorem mw_261 : Cond.code yX5_within cX5_within 4 (some .boolean) ∈ wsL_law := List.mem_of_getElem? (i := 261) (by decide +kernel)
theorem mw_262 : Cond.methodLink RX5 325 yX4_setFeature ∈ wsL_law := List.mem_of_getElem? (i := 262) (by decide +kernel)
theorem mw_263 : Cond.instanceMethod yX4_setFeature ∈ wsL_law := List.mem_of_getElem? (i := 263) (by decide +kernel)
theorem mw_264 : Cond.selects RX4 yX4_setFeature yX4_setFeature ∈ wsL_law := List.mem_of_getElem? (i := 264) (by decide +kernel)
theorem mw_265 : Cond.code yX4_setFeature cX4_setFeature 4 none ∈ wsL_law := List.mem_of_getElem? (i := 265) (by decide +kernel)
theorem mw_266 : Cond.methodLink RX5 112 yX5_bit ∈ wsL_law := List.mem_of_getElem? (i := 266) (by decide +kernel)
theorem mw_267 : Cond.static yX5_bit ∈ wsL_law := List.mem_of_getElem? (i := 267) (by decide +kernel)
theorem mw_268 : Cond.code yX5_bit cX5_bit 1 (some .int) ∈ wsL_law := List.mem_of_getElem? (i := 268) (by decide +kernel)
theorem mw_269 : Cond.methodLink RX5 310 yX5_readBody ∈ wsL_law := List.mem_of_getElem? (i := 269) (by decide +kernel)
theorem mw_270 : Cond.instanceMethod yX5_readBody ∈ wsL_law := List.mem_of_getElem? (i := 270) (by decide +kernel)
theorem mw_271 : Cond.selects RX5 yX5_readBody yX5_readBody ∈ wsL_law := List.mem_of_getElem? (i := 271) (by decide +kernel)
theorem mw_272 : Cond.code yX5_readBody cX5_readBody 3 (some .boolean) ∈ wsL_law := List.mem_of_getElem? (i := 272) (by decide +kernel)
theorem mw_273 : Cond.fieldLink RX5 328 "TreeClimb" "LEAST_OF_BODY" "[I" ∈ wsL_law := List.mem_of_getElem? (i := 273) (by decide +kernel)
theorem mw_274 : Cond.fieldLink RX5 331 "TreeClimb" "MOST_OF_BODY" "[I" ∈ wsL_law := List.mem_of_getElem? (i := 274) (by decide +kernel)
theorem mw_275 : Cond.methodLink RX5 334 yX4_setPower ∈ wsL_law := List.mem_of_getElem? (i := 275) (by decide +kernel)
theorem mw_276 : Cond.instanceMethod yX4_setPower ∈ wsL_law := List.mem_of_getElem? (i := 276) (by decide +kernel)
theorem mw_277 : Cond.selects RX4 yX4_setPower yX4_setPower ∈ wsL_law := List.mem_of_getElem? (i := 277) (by decide +kernel)
theorem mw_278 : Cond.code yX4_setPower cX4_setPower 4 none ∈ wsL_law := List.mem_of_getElem? (i := 278) (by decide +kernel)
theorem mw_279 : Cond.methodLink RX5 82 yX5_standDraft ∈ wsL_law := List.mem_of_getElem? (i := 279) (by decide +kernel)
theorem mw_280 : Cond.instanceMethod yX5_standDraft ∈ wsL_law := List.mem_of_getElem? (i := 280) (by decide +kernel)
theorem mw_281 : Cond.selects RX5 yX5_standDraft yX5_standDraft ∈ wsL_law := List.mem_of_getElem? (i := 281) (by decide +kernel)
theorem mw_282 : Cond.code yX5_standDraft cX5_standDraft 2 none ∈ wsL_law := List.mem_of_getElem? (i := 282) (by decide +kernel)
theorem mw_283 : Cond.methodLink RX5 337 yX4_order ∈ wsL_law := List.mem_of_getElem? (i := 283) (by decide +kernel)
theorem mw_284 : Cond.instanceMethod yX4_order ∈ wsL_law := List.mem_of_getElem? (i := 284) (by decide +kernel)
theorem mw_285 : Cond.selects RX4 yX4_order yX4_order ∈ wsL_law := List.mem_of_getElem? (i := 285) (by decide +kernel)
theorem mw_286 : Cond.code yX4_order cX4_order 3 none ∈ wsL_law := List.mem_of_getElem? (i := 286) (by decide +kernel)
theorem mw_287 : Cond.methodLink RX4 33 yX4_feature ∈ wsL_law := List.mem_of_getElem? (i := 287) (by decide +kernel)
theorem mw_288 : Cond.instanceMethod yX4_feature ∈ wsL_law := List.mem_of_getElem? (i := 288) (by decide +kernel)
theorem mw_289 : Cond.selects RX4 yX4_feature yX4_feature ∈ wsL_law := List.mem_of_getElem? (i := 289) (by decide +kernel)
theorem mw_290 : Cond.code yX4_feature cX4_feature 3 (some .int) ∈ wsL_law := List.mem_of_getElem? (i := 290) (by decide +kernel)
theorem mw_291 : Cond.methodLink RX4 46 yX4_lowerNear ∈ wsL_law := List.mem_of_getElem? (i := 291) (by decide +kernel)
theorem mw_292 : Cond.instanceMethod yX4_lowerNear ∈ wsL_law := List.mem_of_getElem? (i := 292) (by decide +kernel)
theorem mw_293 : Cond.selects RX4 yX4_lowerNear yX4_lowerNear ∈ wsL_law := List.mem_of_getElem? (i := 293) (by decide +kernel)
theorem mw_294 : Cond.code yX4_lowerNear cX4_lowerNear 4 (some .int) ∈ wsL_law := List.mem_of_getElem? (i := 294) (by decide +kernel)
theorem mw_295 : Cond.methodLink RX4 49 yX4_sidesApart ∈ wsL_law := List.mem_of_getElem? (i := 295) (by decide +kernel)
theorem mw_296 : Cond.instanceMethod yX4_sidesApart ∈ wsL_law := List.mem_of_getElem? (i := 296) (by decide +kernel)
theorem mw_297 : Cond.selects RX4 yX4_sidesApart yX4_sidesApart ∈ wsL_law := List.mem_of_getElem? (i := 297) (by decide +kernel)
theorem mw_298 : Cond.code yX4_sidesApart cX4_sidesApart 4 (some .int) ∈ wsL_law := List.mem_of_getElem? (i := 298) (by decide +kernel)
theorem mw_299 : Cond.methodLink RX4 37 Lib.Math.abs.name ∈ wsL_law := List.mem_of_getElem? (i := 299) (by decide +kernel)
theorem mw_300 : Cond.static Lib.Math.abs.name ∈ wsL_law := List.mem_of_getElem? (i := 300) (by decide +kernel)
theorem mw_301 : Cond.code Lib.Math.abs.name Lib.Math.abs.code 1 (some .int) ∈ wsL_law := List.mem_of_getElem? (i := 301) (by decide +kernel)
theorem mw_302 : Cond.methodLink RX4 43 Lib.Math.min.name ∈ wsL_law := List.mem_of_getElem? (i := 302) (by decide +kernel)
theorem mw_303 : Cond.methodLink RX5 85 yX1_begin ∈ wsL_law := List.mem_of_getElem? (i := 303) (by decide +kernel)
theorem mw_304 : Cond.instanceMethod yX1_begin ∈ wsL_law := List.mem_of_getElem? (i := 304) (by decide +kernel)
theorem mw_305 : Cond.selects RX1 yX1_begin yX1_begin ∈ wsL_law := List.mem_of_getElem? (i := 305) (by decide +kernel)
theorem mw_306 : Cond.code yX1_begin cX1_begin 2 none ∈ wsL_law := List.mem_of_getElem? (i := 306) (by decide +kernel)
theorem mw_307 : Cond.methodLink RL 28 yX6_tree ∈ wsL_law := List.mem_of_getElem? (i := 307) (by decide +kernel)
theorem mw_308 : Cond.instanceMethod yX6_tree ∈ wsL_law := List.mem_of_getElem? (i := 308) (by decide +kernel)
theorem mw_309 : Cond.selects RX6 yX6_tree yX6_tree ∈ wsL_law := List.mem_of_getElem? (i := 309) (by decide +kernel)
theorem mw_310 : Cond.code yX6_tree cX6_tree 3 (some .int) ∈ wsL_law := List.mem_of_getElem? (i := 310) (by decide +kernel)
theorem mw_311 : Cond.fieldLink RX6 92 "TreeClimbModel" "at" "I" ∈ wsL_law := List.mem_of_getElem? (i := 311) (by decide +kernel)
theorem mw_312 : Cond.fieldLink RX6 111 "TreeClimbModel" "fault" "I" ∈ wsL_law := List.mem_of_getElem? (i := 312) (by decide +kernel)
theorem mw_313 : Cond.fieldLink RX6 105 "TreeClimbModel" "sort" "I" ∈ wsL_law := List.mem_of_getElem? (i := 313) (by decide +kernel)
theorem mw_314 : Cond.fieldLink RX6 136 "TreeClimbModel" "afternoons" "I" ∈ wsL_law := List.mem_of_getElem? (i := 314) (by decide +kernel)
theorem mw_315 : Cond.methodLink RX6 114 yX6_next ∈ wsL_law := List.mem_of_getElem? (i := 315) (by decide +kernel)
theorem mw_316 : Cond.instanceMethod yX6_next ∈ wsL_law := List.mem_of_getElem? (i := 316) (by decide +kernel)
theorem mw_317 : Cond.selects RX6 yX6_next yX6_next ∈ wsL_law := List.mem_of_getElem? (i := 317) (by decide +kernel)
theorem mw_318 : Cond.code yX6_next cX6_next 3 none ∈ wsL_law := List.mem_of_getElem? (i := 318) (by decide +kernel)
theorem mw_319 : Cond.fieldLink RX6 99 "TreeClimbModel" "start" "I" ∈ wsL_law := List.mem_of_getElem? (i := 319) (by decide +kernel)
theorem mw_320 : Cond.fieldLink RX6 102 "TreeClimbModel" "value" "I" ∈ wsL_law := List.mem_of_getElem? (i := 320) (by decide +kernel)
theorem mw_321 : Cond.constant RX6 108 (38293730) ∈ wsL_law := List.mem_of_getElem? (i := 321) (by decide +kernel)
theorem mw_322 : Cond.constant RX6 109 (279740) ∈ wsL_law := List.mem_of_getElem? (i := 322) (by decide +kernel)
theorem mw_323 : Cond.constant RX6 110 (50434) ∈ wsL_law := List.mem_of_getElem? (i := 323) (by decide +kernel)
theorem mw_324 : Cond.methodLink RX6 95 yX6_here ∈ wsL_law := List.mem_of_getElem? (i := 324) (by decide +kernel)
theorem mw_325 : Cond.instanceMethod yX6_here ∈ wsL_law := List.mem_of_getElem? (i := 325) (by decide +kernel)
theorem mw_326 : Cond.selects RX6 yX6_here yX6_here ∈ wsL_law := List.mem_of_getElem? (i := 326) (by decide +kernel)
theorem mw_327 : Cond.code yX6_here cX6_here 1 (some .int) ∈ wsL_law := List.mem_of_getElem? (i := 327) (by decide +kernel)
theorem mw_328 : Cond.methodLink RX6 129 yX6_item ∈ wsL_law := List.mem_of_getElem? (i := 328) (by decide +kernel)
theorem mw_329 : Cond.instanceMethod yX6_item ∈ wsL_law := List.mem_of_getElem? (i := 329) (by decide +kernel)
theorem mw_330 : Cond.selects RX6 yX6_item yX6_item ∈ wsL_law := List.mem_of_getElem? (i := 330) (by decide +kernel)
theorem mw_331 : Cond.code yX6_item cX6_item 3 none ∈ wsL_law := List.mem_of_getElem? (i := 331) (by decide +kernel)
theorem mw_332 : Cond.methodLink RX6 117 yX6_due ∈ wsL_law := List.mem_of_getElem? (i := 332) (by decide +kernel)
theorem mw_333 : Cond.instanceMethod yX6_due ∈ wsL_law := List.mem_of_getElem? (i := 333) (by decide +kernel)
theorem mw_334 : Cond.selects RX6 yX6_due yX6_due ∈ wsL_law := List.mem_of_getElem? (i := 334) (by decide +kernel)
theorem mw_335 : Cond.code yX6_due cX6_due 3 (some .int) ∈ wsL_law := List.mem_of_getElem? (i := 335) (by decide +kernel)
theorem mw_336 : Cond.methodLink RX6 121 yX6_number ∈ wsL_law := List.mem_of_getElem? (i := 336) (by decide +kernel)
theorem mw_337 : Cond.instanceMethod yX6_number ∈ wsL_law := List.mem_of_getElem? (i := 337) (by decide +kernel)
theorem mw_338 : Cond.selects RX6 yX6_number yX6_number ∈ wsL_law := List.mem_of_getElem? (i := 338) (by decide +kernel)
theorem mw_339 : Cond.code yX6_number cX6_number 3 (some .int) ∈ wsL_law := List.mem_of_getElem? (i := 339) (by decide +kernel)
theorem mw_340 : Cond.methodLink RX6 125 yX6_optional ∈ wsL_law := List.mem_of_getElem? (i := 340) (by decide +kernel)
theorem mw_341 : Cond.instanceMethod yX6_optional ∈ wsL_law := List.mem_of_getElem? (i := 341) (by decide +kernel)
theorem mw_342 : Cond.selects RX6 yX6_optional yX6_optional ∈ wsL_law := List.mem_of_getElem? (i := 342) (by decide +kernel)
theorem mw_343 : Cond.code yX6_optional cX6_optional 3 (some .int) ∈ wsL_law := List.mem_of_getElem? (i := 343) (by decide +kernel)
theorem mw_344 : Cond.methodLink RX6 133 yX6_begin ∈ wsL_law := List.mem_of_getElem? (i := 344) (by decide +kernel)
theorem mw_345 : Cond.instanceMethod yX6_begin ∈ wsL_law := List.mem_of_getElem? (i := 345) (by decide +kernel)
theorem mw_346 : Cond.selects RX6 yX6_begin yX6_begin ∈ wsL_law := List.mem_of_getElem? (i := 346) (by decide +kernel)
theorem mw_347 : Cond.code yX6_begin cX6_begin 2 none ∈ wsL_law := List.mem_of_getElem? (i := 347) (by decide +kernel)
theorem mw_348 : Cond.methodLink RL 29 yX5_branch ∈ wsL_law := List.mem_of_getElem? (i := 348) (by decide +kernel)
theorem mw_349 : Cond.instanceMethod yX5_branch ∈ wsL_law := List.mem_of_getElem? (i := 349) (by decide +kernel)
theorem mw_350 : Cond.selects RX5 yX5_branch yX5_branch ∈ wsL_law := List.mem_of_getElem? (i := 350) (by decide +kernel)
theorem mw_351 : Cond.code yX5_branch cX5_branch 3 (some .int) ∈ wsL_law := List.mem_of_getElem? (i := 351) (by decide +kernel)
theorem mw_352 : Cond.methodLink RX5 105 yX5_isBranch ∈ wsL_law := List.mem_of_getElem? (i := 352) (by decide +kernel)
theorem mw_353 : Cond.instanceMethod yX5_isBranch ∈ wsL_law := List.mem_of_getElem? (i := 353) (by decide +kernel)
theorem mw_354 : Cond.selects RX5 yX5_isBranch yX5_isBranch ∈ wsL_law := List.mem_of_getElem? (i := 354) (by decide +kernel)
theorem mw_355 : Cond.code yX5_isBranch cX5_isBranch 2 (some .boolean) ∈ wsL_law := List.mem_of_getElem? (i := 355) (by decide +kernel)
theorem mw_356 : Cond.methodLink RX5 109 yX5_isSawn ∈ wsL_law := List.mem_of_getElem? (i := 356) (by decide +kernel)
theorem mw_357 : Cond.instanceMethod yX5_isSawn ∈ wsL_law := List.mem_of_getElem? (i := 357) (by decide +kernel)
theorem mw_358 : Cond.selects RX5 yX5_isSawn yX5_isSawn ∈ wsL_law := List.mem_of_getElem? (i := 358) (by decide +kernel)
theorem mw_359 : Cond.code yX5_isSawn cX5_isSawn 2 (some .boolean) ∈ wsL_law := List.mem_of_getElem? (i := 359) (by decide +kernel)
theorem mw_360 : Cond.methodLink RX5 291 yX5_has ∈ wsL_law := List.mem_of_getElem? (i := 360) (by decide +kernel)
theorem mw_361 : Cond.static yX5_has ∈ wsL_law := List.mem_of_getElem? (i := 361) (by decide +kernel)
theorem mw_362 : Cond.code yX5_has cX5_has 2 (some .boolean) ∈ wsL_law := List.mem_of_getElem? (i := 362) (by decide +kernel)
theorem mw_363 : Cond.methodLink RX5 116 yX4_feature ∈ wsL_law := List.mem_of_getElem? (i := 363) (by decide +kernel)
theorem mw_364 : Cond.methodLink RL 33 yX6_branch ∈ wsL_law := List.mem_of_getElem? (i := 364) (by decide +kernel)
theorem mw_365 : Cond.instanceMethod yX6_branch ∈ wsL_law := List.mem_of_getElem? (i := 365) (by decide +kernel)
theorem mw_366 : Cond.selects RX6 yX6_branch yX6_branch ∈ wsL_law := List.mem_of_getElem? (i := 366) (by decide +kernel)
theorem mw_367 : Cond.code yX6_branch cX6_branch 3 (some .int) ∈ wsL_law := List.mem_of_getElem? (i := 367) (by decide +kernel)
theorem mw_368 : Cond.methodLink RX6 139 yX6_isBranch ∈ wsL_law := List.mem_of_getElem? (i := 368) (by decide +kernel)
theorem mw_369 : Cond.instanceMethod yX6_isBranch ∈ wsL_law := List.mem_of_getElem? (i := 369) (by decide +kernel)
theorem mw_370 : Cond.selects RX6 yX6_isBranch yX6_isBranch ∈ wsL_law := List.mem_of_getElem? (i := 370) (by decide +kernel)
theorem mw_371 : Cond.code yX6_isBranch cX6_isBranch 2 (some .boolean) ∈ wsL_law := List.mem_of_getElem? (i := 371) (by decide +kernel)
theorem mw_372 : Cond.methodLink RX6 143 yX6_isSawn ∈ wsL_law := List.mem_of_getElem? (i := 372) (by decide +kernel)
theorem mw_373 : Cond.instanceMethod yX6_isSawn ∈ wsL_law := List.mem_of_getElem? (i := 373) (by decide +kernel)
theorem mw_374 : Cond.selects RX6 yX6_isSawn yX6_isSawn ∈ wsL_law := List.mem_of_getElem? (i := 374) (by decide +kernel)
theorem mw_375 : Cond.code yX6_isSawn cX6_isSawn 2 (some .boolean) ∈ wsL_law := List.mem_of_getElem? (i := 375) (by decide +kernel)
theorem mw_376 : Cond.methodLink RX6 146 yX6_of ∈ wsL_law := List.mem_of_getElem? (i := 376) (by decide +kernel)
theorem mw_377 : Cond.instanceMethod yX6_of ∈ wsL_law := List.mem_of_getElem? (i := 377) (by decide +kernel)
theorem mw_378 : Cond.selects RX6 yX6_of yX6_of ∈ wsL_law := List.mem_of_getElem? (i := 378) (by decide +kernel)
theorem mw_379 : Cond.code yX6_of cX6_of 3 (some .int) ∈ wsL_law := List.mem_of_getElem? (i := 379) (by decide +kernel)
theorem mw_380 : Cond.methodLink RL 34 yX5_body ∈ wsL_law := List.mem_of_getElem? (i := 380) (by decide +kernel)
theorem mw_381 : Cond.instanceMethod yX5_body ∈ wsL_law := List.mem_of_getElem? (i := 381) (by decide +kernel)
theorem mw_382 : Cond.selects RX5 yX5_body yX5_body ∈ wsL_law := List.mem_of_getElem? (i := 382) (by decide +kernel)
theorem mw_383 : Cond.code yX5_body cX5_body 3 (some .int) ∈ wsL_law := List.mem_of_getElem? (i := 383) (by decide +kernel)
theorem mw_384 : Cond.methodLink RX5 120 yX5_isBody ∈ wsL_law := List.mem_of_getElem? (i := 384) (by decide +kernel)
theorem mw_385 : Cond.instanceMethod yX5_isBody ∈ wsL_law := List.mem_of_getElem? (i := 385) (by decide +kernel)
theorem mw_386 : Cond.selects RX5 yX5_isBody yX5_isBody ∈ wsL_law := List.mem_of_getElem? (i := 386) (by decide +kernel)
theorem mw_387 : Cond.code yX5_isBody cX5_isBody 2 (some .boolean) ∈ wsL_law := List.mem_of_getElem? (i := 387) (by decide +kernel)
theorem mw_388 : Cond.methodLink RX5 123 yX4_power ∈ wsL_law := List.mem_of_getElem? (i := 388) (by decide +kernel)
theorem mw_389 : Cond.instanceMethod yX4_power ∈ wsL_law := List.mem_of_getElem? (i := 389) (by decide +kernel)
theorem mw_390 : Cond.selects RX4 yX4_power yX4_power ∈ wsL_law := List.mem_of_getElem? (i := 390) (by decide +kernel)
theorem mw_391 : Cond.code yX4_power cX4_power 3 (some .int) ∈ wsL_law := List.mem_of_getElem? (i := 391) (by decide +kernel)
theorem mw_392 : Cond.methodLink RL 37 yX6_body ∈ wsL_law := List.mem_of_getElem? (i := 392) (by decide +kernel)
theorem mw_393 : Cond.instanceMethod yX6_body ∈ wsL_law := List.mem_of_getElem? (i := 393) (by decide +kernel)
theorem mw_394 : Cond.selects RX6 yX6_body yX6_body ∈ wsL_law := List.mem_of_getElem? (i := 394) (by decide +kernel)
theorem mw_395 : Cond.code yX6_body cX6_body 3 (some .int) ∈ wsL_law := List.mem_of_getElem? (i := 395) (by decide +kernel)
theorem mw_396 : Cond.methodLink RX6 149 yX6_isBody ∈ wsL_law := List.mem_of_getElem? (i := 396) (by decide +kernel)
theorem mw_397 : Cond.instanceMethod yX6_isBody ∈ wsL_law := List.mem_of_getElem? (i := 397) (by decide +kernel)
theorem mw_398 : Cond.selects RX6 yX6_isBody yX6_isBody ∈ wsL_law := List.mem_of_getElem? (i := 398) (by decide +kernel)
theorem mw_399 : Cond.code yX6_isBody cX6_isBody 2 (some .boolean) ∈ wsL_law := List.mem_of_getElem? (i := 399) (by decide +kernel)
theorem mw_400 : Cond.methodLink RX6 152 yX6_bodyOf ∈ wsL_law := List.mem_of_getElem? (i := 400) (by decide +kernel)
theorem mw_401 : Cond.instanceMethod yX6_bodyOf ∈ wsL_law := List.mem_of_getElem? (i := 401) (by decide +kernel)
theorem mw_402 : Cond.selects RX6 yX6_bodyOf yX6_bodyOf ∈ wsL_law := List.mem_of_getElem? (i := 402) (by decide +kernel)
theorem mw_403 : Cond.code yX6_bodyOf cX6_bodyOf 3 (some .int) ∈ wsL_law := List.mem_of_getElem? (i := 403) (by decide +kernel)
theorem mw_404 : Cond.methodLink RL 38 yX5_tune ∈ wsL_law := List.mem_of_getElem? (i := 404) (by decide +kernel)
theorem mw_405 : Cond.instanceMethod yX5_tune ∈ wsL_law := List.mem_of_getElem? (i := 405) (by decide +kernel)
theorem mw_406 : Cond.selects RX5 yX5_tune yX5_tune ∈ wsL_law := List.mem_of_getElem? (i := 406) (by decide +kernel)
theorem mw_407 : Cond.code yX5_tune cX5_tune 4 (some .int) ∈ wsL_law := List.mem_of_getElem? (i := 407) (by decide +kernel)
theorem mw_408 : Cond.fieldLink RX5 126 "TreeClimb" "LEAST_TUNE" "[I" ∈ wsL_law := List.mem_of_getElem? (i := 408) (by decide +kernel)
theorem mw_409 : Cond.fieldLink RX5 129 "TreeClimb" "MOST_TUNE" "[I" ∈ wsL_law := List.mem_of_getElem? (i := 409) (by decide +kernel)
theorem mw_410 : Cond.methodLink RL 41 yX6_tune ∈ wsL_law := List.mem_of_getElem? (i := 410) (by decide +kernel)
theorem mw_411 : Cond.instanceMethod yX6_tune ∈ wsL_law := List.mem_of_getElem? (i := 411) (by decide +kernel)
theorem mw_412 : Cond.selects RX6 yX6_tune yX6_tune ∈ wsL_law := List.mem_of_getElem? (i := 412) (by decide +kernel)
theorem mw_413 : Cond.code yX6_tune cX6_tune 4 (some .int) ∈ wsL_law := List.mem_of_getElem? (i := 413) (by decide +kernel)
theorem mw_414 : Cond.methodLink RX6 155 yX6_highOf ∈ wsL_law := List.mem_of_getElem? (i := 414) (by decide +kernel)
theorem mw_415 : Cond.static yX6_highOf ∈ wsL_law := List.mem_of_getElem? (i := 415) (by decide +kernel)
theorem mw_416 : Cond.code yX6_highOf cX6_highOf 1 (some .int) ∈ wsL_law := List.mem_of_getElem? (i := 416) (by decide +kernel)
theorem mw_417 : Cond.methodLink RL 42 yX5_sawn ∈ wsL_law := List.mem_of_getElem? (i := 417) (by decide +kernel)
theorem mw_418 : Cond.instanceMethod yX5_sawn ∈ wsL_law := List.mem_of_getElem? (i := 418) (by decide +kernel)
theorem mw_419 : Cond.selects RX5 yX5_sawn yX5_sawn ∈ wsL_law := List.mem_of_getElem? (i := 419) (by decide +kernel)
theorem mw_420 : Cond.code yX5_sawn cX5_sawn 3 (some .int) ∈ wsL_law := List.mem_of_getElem? (i := 420) (by decide +kernel)
theorem mw_421 : Cond.methodLink RX5 136 yX4_all ∈ wsL_law := List.mem_of_getElem? (i := 421) (by decide +kernel)
theorem mw_422 : Cond.instanceMethod yX4_all ∈ wsL_law := List.mem_of_getElem? (i := 422) (by decide +kernel)
theorem mw_423 : Cond.selects RX4 yX4_all yX4_all ∈ wsL_law := List.mem_of_getElem? (i := 423) (by decide +kernel)
theorem mw_424 : Cond.code yX4_all cX4_all 1 (some .int) ∈ wsL_law := List.mem_of_getElem? (i := 424) (by decide +kernel)
theorem mw_425 : Cond.methodLink RL 46 yX6_sawn ∈ wsL_law := List.mem_of_getElem? (i := 425) (by decide +kernel)
theorem mw_426 : Cond.instanceMethod yX6_sawn ∈ wsL_law := List.mem_of_getElem? (i := 426) (by decide +kernel)
theorem mw_427 : Cond.selects RX6 yX6_sawn yX6_sawn ∈ wsL_law := List.mem_of_getElem? (i := 427) (by decide +kernel)
theorem mw_428 : Cond.code yX6_sawn cX6_sawn 3 (some .int) ∈ wsL_law := List.mem_of_getElem? (i := 428) (by decide +kernel)
theorem mw_429 : Cond.methodLink RL 47 yX5_step ∈ wsL_law := List.mem_of_getElem? (i := 429) (by decide +kernel)
theorem mw_430 : Cond.instanceMethod yX5_step ∈ wsL_law := List.mem_of_getElem? (i := 430) (by decide +kernel)
theorem mw_431 : Cond.selects RX5 yX5_step yX5_step ∈ wsL_law := List.mem_of_getElem? (i := 431) (by decide +kernel)
theorem mw_432 : Cond.code yX5_step cX5_step 4 (some .int) ∈ wsL_law := List.mem_of_getElem? (i := 432) (by decide +kernel)
theorem mw_433 : Cond.methodLink RX5 139 yX5_isPlace ∈ wsL_law := List.mem_of_getElem? (i := 433) (by decide +kernel)
theorem mw_434 : Cond.instanceMethod yX5_isPlace ∈ wsL_law := List.mem_of_getElem? (i := 434) (by decide +kernel)
theorem mw_435 : Cond.selects RX5 yX5_isPlace yX5_isPlace ∈ wsL_law := List.mem_of_getElem? (i := 435) (by decide +kernel)
theorem mw_436 : Cond.code yX5_isPlace cX5_isPlace 2 (some .boolean) ∈ wsL_law := List.mem_of_getElem? (i := 436) (by decide +kernel)
theorem mw_437 : Cond.methodLink RX5 142 yX5_tuned ∈ wsL_law := List.mem_of_getElem? (i := 437) (by decide +kernel)
theorem mw_438 : Cond.instanceMethod yX5_tuned ∈ wsL_law := List.mem_of_getElem? (i := 438) (by decide +kernel)
theorem mw_439 : Cond.selects RX5 yX5_tuned yX5_tuned ∈ wsL_law := List.mem_of_getElem? (i := 439) (by decide +kernel)
theorem mw_440 : Cond.code yX5_tuned cX5_tuned 2 (some .int) ∈ wsL_law := List.mem_of_getElem? (i := 440) (by decide +kernel)
theorem mw_441 : Cond.methodLink RX5 146 yX5_mayStep ∈ wsL_law := List.mem_of_getElem? (i := 441) (by decide +kernel)
theorem mw_442 : Cond.instanceMethod yX5_mayStep ∈ wsL_law := List.mem_of_getElem? (i := 442) (by decide +kernel)
theorem mw_443 : Cond.selects RX5 yX5_mayStep yX5_mayStep ∈ wsL_law := List.mem_of_getElem? (i := 443) (by decide +kernel)
theorem mw_444 : Cond.code yX5_mayStep cX5_mayStep 6 (some .boolean) ∈ wsL_law := List.mem_of_getElem? (i := 444) (by decide +kernel)
theorem mw_445 : Cond.methodLink RX5 340 yX5_inReach ∈ wsL_law := List.mem_of_getElem? (i := 445) (by decide +kernel)
theorem mw_446 : Cond.instanceMethod yX5_inReach ∈ wsL_law := List.mem_of_getElem? (i := 446) (by decide +kernel)
theorem mw_447 : Cond.selects RX5 yX5_inReach yX5_inReach ∈ wsL_law := List.mem_of_getElem? (i := 447) (by decide +kernel)
theorem mw_448 : Cond.code yX5_inReach cX5_inReach 5 (some .boolean) ∈ wsL_law := List.mem_of_getElem? (i := 448) (by decide +kernel)
theorem mw_449 : Cond.methodLink RX5 344 yX5_bears ∈ wsL_law := List.mem_of_getElem? (i := 449) (by decide +kernel)
theorem mw_450 : Cond.instanceMethod yX5_bears ∈ wsL_law := List.mem_of_getElem? (i := 450) (by decide +kernel)
theorem mw_451 : Cond.selects RX5 yX5_bears yX5_bears ∈ wsL_law := List.mem_of_getElem? (i := 451) (by decide +kernel)
theorem mw_452 : Cond.code yX5_bears cX5_bears 3 (some .boolean) ∈ wsL_law := List.mem_of_getElem? (i := 452) (by decide +kernel)
theorem mw_453 : Cond.methodLink RX5 347 yX4_sidesApart ∈ wsL_law := List.mem_of_getElem? (i := 453) (by decide +kernel)
theorem mw_454 : Cond.methodLink RL 51 yX6_step ∈ wsL_law := List.mem_of_getElem? (i := 454) (by decide +kernel)
theorem mw_455 : Cond.instanceMethod yX6_step ∈ wsL_law := List.mem_of_getElem? (i := 455) (by decide +kernel)
theorem mw_456 : Cond.selects RX6 yX6_step yX6_step ∈ wsL_law := List.mem_of_getElem? (i := 456) (by decide +kernel)
theorem mw_457 : Cond.code yX6_step cX6_step 4 (some .int) ∈ wsL_law := List.mem_of_getElem? (i := 457) (by decide +kernel)
theorem mw_458 : Cond.methodLink RX6 176 yX6_isPlace ∈ wsL_law := List.mem_of_getElem? (i := 458) (by decide +kernel)
theorem mw_459 : Cond.instanceMethod yX6_isPlace ∈ wsL_law := List.mem_of_getElem? (i := 459) (by decide +kernel)
theorem mw_460 : Cond.selects RX6 yX6_isPlace yX6_isPlace ∈ wsL_law := List.mem_of_getElem? (i := 460) (by decide +kernel)
theorem mw_461 : Cond.code yX6_isPlace cX6_isPlace 2 (some .boolean) ∈ wsL_law := List.mem_of_getElem? (i := 461) (by decide +kernel)
theorem mw_462 : Cond.methodLink RX6 179 yX6_look ∈ wsL_law := List.mem_of_getElem? (i := 462) (by decide +kernel)
theorem mw_463 : Cond.instanceMethod yX6_look ∈ wsL_law := List.mem_of_getElem? (i := 463) (by decide +kernel)
theorem mw_464 : Cond.selects RX6 yX6_look yX6_look ∈ wsL_law := List.mem_of_getElem? (i := 464) (by decide +kernel)
theorem mw_465 : Cond.code yX6_look cX6_look 2 none ∈ wsL_law := List.mem_of_getElem? (i := 465) (by decide +kernel)
theorem mw_466 : Cond.fieldLink RX6 158 "TreeClimbModel" "reach" "I" ∈ wsL_law := List.mem_of_getElem? (i := 466) (by decide +kernel)
theorem mw_467 : Cond.fieldLink RX6 161 "TreeClimbModel" "weight" "I" ∈ wsL_law := List.mem_of_getElem? (i := 467) (by decide +kernel)
theorem mw_468 : Cond.fieldLink RX6 164 "TreeClimbModel" "grip" "I" ∈ wsL_law := List.mem_of_getElem? (i := 468) (by decide +kernel)
theorem mw_469 : Cond.fieldLink RX6 167 "TreeClimbModel" "backs" "I" ∈ wsL_law := List.mem_of_getElem? (i := 469) (by decide +kernel)
theorem mw_470 : Cond.methodLink RX6 182 yX6_mayStep ∈ wsL_law := List.mem_of_getElem? (i := 470) (by decide +kernel)
theorem mw_471 : Cond.instanceMethod yX6_mayStep ∈ wsL_law := List.mem_of_getElem? (i := 471) (by decide +kernel)
theorem mw_472 : Cond.selects RX6 yX6_mayStep yX6_mayStep ∈ wsL_law := List.mem_of_getElem? (i := 472) (by decide +kernel)
theorem mw_473 : Cond.code yX6_mayStep cX6_mayStep 4 (some .boolean) ∈ wsL_law := List.mem_of_getElem? (i := 473) (by decide +kernel)
theorem mw_474 : Cond.methodLink RX6 170 yX6_apart ∈ wsL_law := List.mem_of_getElem? (i := 474) (by decide +kernel)
theorem mw_475 : Cond.instanceMethod yX6_apart ∈ wsL_law := List.mem_of_getElem? (i := 475) (by decide +kernel)
theorem mw_476 : Cond.selects RX6 yX6_apart yX6_apart ∈ wsL_law := List.mem_of_getElem? (i := 476) (by decide +kernel)
theorem mw_477 : Cond.code yX6_apart cX6_apart 4 (some .int) ∈ wsL_law := List.mem_of_getElem? (i := 477) (by decide +kernel)
theorem mw_478 : Cond.methodLink RX6 173 yX6_heightOf ∈ wsL_law := List.mem_of_getElem? (i := 478) (by decide +kernel)
theorem mw_479 : Cond.instanceMethod yX6_heightOf ∈ wsL_law := List.mem_of_getElem? (i := 479) (by decide +kernel)
theorem mw_480 : Cond.selects RX6 yX6_heightOf yX6_heightOf ∈ wsL_law := List.mem_of_getElem? (i := 480) (by decide +kernel)
theorem mw_481 : Cond.code yX6_heightOf cX6_heightOf 2 (some .int) ∈ wsL_law := List.mem_of_getElem? (i := 481) (by decide +kernel)
theorem mw_482 : Cond.methodLink RL 52 yX5_holds ∈ wsL_law := List.mem_of_getElem? (i := 482) (by decide +kernel)
theorem mw_483 : Cond.instanceMethod yX5_holds ∈ wsL_law := List.mem_of_getElem? (i := 483) (by decide +kernel)
theorem mw_484 : Cond.selects RX5 yX5_holds yX5_holds ∈ wsL_law := List.mem_of_getElem? (i := 484) (by decide +kernel)
theorem mw_485 : Cond.code yX5_holds cX5_holds 3 (some .int) ∈ wsL_law := List.mem_of_getElem? (i := 485) (by decide +kernel)
theorem mw_486 : Cond.methodLink RX5 150 yX5_tenths ∈ wsL_law := List.mem_of_getElem? (i := 486) (by decide +kernel)
theorem mw_487 : Cond.instanceMethod yX5_tenths ∈ wsL_law := List.mem_of_getElem? (i := 487) (by decide +kernel)
theorem mw_488 : Cond.selects RX5 yX5_tenths yX5_tenths ∈ wsL_law := List.mem_of_getElem? (i := 488) (by decide +kernel)
theorem mw_489 : Cond.code yX5_tenths cX5_tenths 4 (some .int) ∈ wsL_law := List.mem_of_getElem? (i := 489) (by decide +kernel)
theorem mw_490 : Cond.methodLink RX5 188 Lib.Math.max.name ∈ wsL_law := List.mem_of_getElem? (i := 490) (by decide +kernel)
theorem mw_491 : Cond.static Lib.Math.max.name ∈ wsL_law := List.mem_of_getElem? (i := 491) (by decide +kernel)
theorem mw_492 : Cond.code Lib.Math.max.name Lib.Math.max.code 2 (some .int) ∈ wsL_law := List.mem_of_getElem? (i := 492) (by decide +kernel)
theorem mw_493 : Cond.methodLink RL 55 yX6_holds ∈ wsL_law := List.mem_of_getElem? (i := 493) (by decide +kernel)
theorem mw_494 : Cond.instanceMethod yX6_holds ∈ wsL_law := List.mem_of_getElem? (i := 494) (by decide +kernel)
theorem mw_495 : Cond.selects RX6 yX6_holds yX6_holds ∈ wsL_law := List.mem_of_getElem? (i := 495) (by decide +kernel)
theorem mw_496 : Cond.code yX6_holds cX6_holds 3 (some .int) ∈ wsL_law := List.mem_of_getElem? (i := 496) (by decide +kernel)
theorem mw_497 : Cond.methodLink RX6 186 yX6_holdsOn ∈ wsL_law := List.mem_of_getElem? (i := 497) (by decide +kernel)
theorem mw_498 : Cond.instanceMethod yX6_holdsOn ∈ wsL_law := List.mem_of_getElem? (i := 498) (by decide +kernel)
theorem mw_499 : Cond.selects RX6 yX6_holdsOn yX6_holdsOn ∈ wsL_law := List.mem_of_getElem? (i := 499) (by decide +kernel)
theorem mw_500 : Cond.code yX6_holdsOn cX6_holdsOn 4 (some .int) ∈ wsL_law := List.mem_of_getElem? (i := 500) (by decide +kernel)
theorem mw_501 : Cond.methodLink RL 56 yX5_best ∈ wsL_law := List.mem_of_getElem? (i := 501) (by decide +kernel)
theorem mw_502 : Cond.instanceMethod yX5_best ∈ wsL_law := List.mem_of_getElem? (i := 502) (by decide +kernel)
theorem mw_503 : Cond.selects RX5 yX5_best yX5_best ∈ wsL_law := List.mem_of_getElem? (i := 503) (by decide +kernel)
theorem mw_504 : Cond.code yX5_best cX5_best 7 (some .long) ∈ wsL_law := List.mem_of_getElem? (i := 504) (by decide +kernel)
theorem mw_505 : Cond.constantLong RX5 153 (-1) ∈ wsL_law := List.mem_of_getElem? (i := 505) (by decide +kernel)
theorem mw_506 : Cond.constantLong RX5 166 (-9) ∈ wsL_law := List.mem_of_getElem? (i := 506) (by decide +kernel)
theorem mw_507 : Cond.constantLong RX5 171 (1000000000000) ∈ wsL_law := List.mem_of_getElem? (i := 507) (by decide +kernel)
theorem mw_508 : Cond.methodLink RX5 155 yX5_look ∈ wsL_law := List.mem_of_getElem? (i := 508) (by decide +kernel)
theorem mw_509 : Cond.instanceMethod yX5_look ∈ wsL_law := List.mem_of_getElem? (i := 509) (by decide +kernel)
theorem mw_510 : Cond.selects RX5 yX5_look yX5_look ∈ wsL_law := List.mem_of_getElem? (i := 510) (by decide +kernel)
theorem mw_511 : Cond.code yX5_look cX5_look 7 none ∈ wsL_law := List.mem_of_getElem? (i := 511) (by decide +kernel)
theorem mw_512 : Cond.methodLink RX5 350 yX3_forget ∈ wsL_law := List.mem_of_getElem? (i := 512) (by decide +kernel)
theorem mw_513 : Cond.instanceMethod yX3_forget ∈ wsL_law := List.mem_of_getElem? (i := 513) (by decide +kernel)
theorem mw_514 : Cond.selects RX3 yX3_forget yX3_forget ∈ wsL_law := List.mem_of_getElem? (i := 514) (by decide +kernel)
theorem mw_515 : Cond.code yX3_forget cX3_forget 2 none ∈ wsL_law := List.mem_of_getElem? (i := 515) (by decide +kernel)
theorem mw_516 : Cond.methodLink RX5 353 yX3_setTenths ∈ wsL_law := List.mem_of_getElem? (i := 516) (by decide +kernel)
theorem mw_517 : Cond.instanceMethod yX3_setTenths ∈ wsL_law := List.mem_of_getElem? (i := 517) (by decide +kernel)
theorem mw_518 : Cond.selects RX3 yX3_setTenths yX3_setTenths ∈ wsL_law := List.mem_of_getElem? (i := 518) (by decide +kernel)
theorem mw_519 : Cond.code yX3_setTenths cX3_setTenths 3 none ∈ wsL_law := List.mem_of_getElem? (i := 519) (by decide +kernel)
theorem mw_520 : Cond.methodLink RX3 34 yX3_isIn ∈ wsL_law := List.mem_of_getElem? (i := 520) (by decide +kernel)
theorem mw_521 : Cond.static yX3_isIn ∈ wsL_law := List.mem_of_getElem? (i := 521) (by decide +kernel)
theorem mw_522 : Cond.code yX3_isIn cX3_isIn 1 (some .boolean) ∈ wsL_law := List.mem_of_getElem? (i := 522) (by decide +kernel)
theorem mw_523 : Cond.methodLink RX5 356 yX3_join ∈ wsL_law := List.mem_of_getElem? (i := 523) (by decide +kernel)
theorem mw_524 : Cond.instanceMethod yX3_join ∈ wsL_law := List.mem_of_getElem? (i := 524) (by decide +kernel)
theorem mw_525 : Cond.selects RX3 yX3_join yX3_join ∈ wsL_law := List.mem_of_getElem? (i := 525) (by decide +kernel)
theorem mw_526 : Cond.code yX3_join cX3_join 3 none ∈ wsL_law := List.mem_of_getElem? (i := 526) (by decide +kernel)
theorem mw_527 : Cond.methodLink RX5 159 yX3_weigh ∈ wsL_law := List.mem_of_getElem? (i := 527) (by decide +kernel)
theorem mw_528 : Cond.instanceMethod yX3_weigh ∈ wsL_law := List.mem_of_getElem? (i := 528) (by decide +kernel)
theorem mw_529 : Cond.selects RX3 yX3_weigh yX3_weigh ∈ wsL_law := List.mem_of_getElem? (i := 529) (by decide +kernel)
theorem mw_530 : Cond.code yX3_weigh cX3_weigh 4 none ∈ wsL_law := List.mem_of_getElem? (i := 530) (by decide +kernel)
theorem mw_531 : Cond.constantLong RX3 48 (1000000000000) ∈ wsL_law := List.mem_of_getElem? (i := 531) (by decide +kernel)
theorem mw_532 : Cond.methodLink RX3 50 yX3_bestInto ∈ wsL_law := List.mem_of_getElem? (i := 532) (by decide +kernel)
theorem mw_533 : Cond.instanceMethod yX3_bestInto ∈ wsL_law := List.mem_of_getElem? (i := 533) (by decide +kernel)
theorem mw_534 : Cond.selects RX3 yX3_bestInto yX3_bestInto ∈ wsL_law := List.mem_of_getElem? (i := 534) (by decide +kernel)
theorem mw_535 : Cond.code yX3_bestInto cX3_bestInto 5 (some .long) ∈ wsL_law := List.mem_of_getElem? (i := 535) (by decide +kernel)
theorem mw_536 : Cond.methodLink RX3 58 Lib.MathLoose.max_long.x ∈ wsL_law := List.mem_of_getElem? (i := 536) (by decide +kernel)
theorem mw_537 : Cond.static Lib.MathLoose.max_long.x ∈ wsL_law := List.mem_of_getElem? (i := 537) (by decide +kernel)
theorem mw_538 : Cond.code Lib.MathLoose.max_long.x Lib.MathLoose.max_long.code 4 (some .long) ∈ wsL_law := List.mem_of_getElem? (i := 538) (by decide +kernel)
theorem mw_539 : Cond.constantLong RX3 64 (10) ∈ wsL_law := List.mem_of_getElem? (i := 539) (by decide +kernel)
theorem mw_540 : Cond.methodLink RX5 162 yX3_oddsOf ∈ wsL_law := List.mem_of_getElem? (i := 540) (by decide +kernel)
theorem mw_541 : Cond.instanceMethod yX3_oddsOf ∈ wsL_law := List.mem_of_getElem? (i := 541) (by decide +kernel)
theorem mw_542 : Cond.selects RX3 yX3_oddsOf yX3_oddsOf ∈ wsL_law := List.mem_of_getElem? (i := 542) (by decide +kernel)
theorem mw_543 : Cond.code yX3_oddsOf cX3_oddsOf 2 (some .long) ∈ wsL_law := List.mem_of_getElem? (i := 543) (by decide +kernel)
theorem mw_544 : Cond.methodLink RX5 168 yX3_stepsTo ∈ wsL_law := List.mem_of_getElem? (i := 544) (by decide +kernel)
theorem mw_545 : Cond.instanceMethod yX3_stepsTo ∈ wsL_law := List.mem_of_getElem? (i := 545) (by decide +kernel)
theorem mw_546 : Cond.selects RX3 yX3_stepsTo yX3_stepsTo ∈ wsL_law := List.mem_of_getElem? (i := 546) (by decide +kernel)
theorem mw_547 : Cond.code yX3_stepsTo cX3_stepsTo 2 (some .int) ∈ wsL_law := List.mem_of_getElem? (i := 547) (by decide +kernel)
theorem mw_548 : Cond.methodLink RX5 173 yX5_leastTerms ∈ wsL_law := List.mem_of_getElem? (i := 548) (by decide +kernel)
theorem mw_549 : Cond.static yX5_leastTerms ∈ wsL_law := List.mem_of_getElem? (i := 549) (by decide +kernel)
theorem mw_550 : Cond.code yX5_leastTerms cX5_leastTerms 7 (some .long) ∈ wsL_law := List.mem_of_getElem? (i := 550) (by decide +kernel)
theorem mw_551 : Cond.methodLink RX5 364 yX5_commonDivisor ∈ wsL_law := List.mem_of_getElem? (i := 551) (by decide +kernel)
theorem mw_552 : Cond.static yX5_commonDivisor ∈ wsL_law := List.mem_of_getElem? (i := 552) (by decide +kernel)
theorem mw_553 : Cond.code yX5_commonDivisor cX5_commonDivisor 7 (some .long) ∈ wsL_law := List.mem_of_getElem? (i := 553) (by decide +kernel)
theorem mw_554 : Cond.methodLink RL 60 yX6_best ∈ wsL_law := List.mem_of_getElem? (i := 554) (by decide +kernel)
theorem mw_555 : Cond.instanceMethod yX6_best ∈ wsL_law := List.mem_of_getElem? (i := 555) (by decide +kernel)
theorem mw_556 : Cond.selects RX6 yX6_best yX6_best ∈ wsL_law := List.mem_of_getElem? (i := 556) (by decide +kernel)
theorem mw_557 : Cond.code yX6_best cX6_best 6 (some .long) ∈ wsL_law := List.mem_of_getElem? (i := 557) (by decide +kernel)
theorem mw_558 : Cond.constantLong RX6 200 (-1) ∈ wsL_law := List.mem_of_getElem? (i := 558) (by decide +kernel)
theorem mw_559 : Cond.constantLong RX6 205 (-9) ∈ wsL_law := List.mem_of_getElem? (i := 559) (by decide +kernel)
theorem mw_560 : Cond.constantLong RX6 189 (1000000000000) ∈ wsL_law := List.mem_of_getElem? (i := 560) (by decide +kernel)
theorem mw_561 : Cond.methodLink RX6 202 yX6_goFrom ∈ wsL_law := List.mem_of_getElem? (i := 561) (by decide +kernel)
theorem mw_562 : Cond.instanceMethod yX6_goFrom ∈ wsL_law := List.mem_of_getElem? (i := 562) (by decide +kernel)
theorem mw_563 : Cond.selects RX6 yX6_goFrom yX6_goFrom ∈ wsL_law := List.mem_of_getElem? (i := 563) (by decide +kernel)
theorem mw_564 : Cond.code yX6_goFrom cX6_goFrom 7 none ∈ wsL_law := List.mem_of_getElem? (i := 564) (by decide +kernel)
theorem mw_565 : Cond.constantLong RX6 194 (10) ∈ wsL_law := List.mem_of_getElem? (i := 565) (by decide +kernel)
theorem mw_566 : Cond.methodLink RX6 191 yX6_isThere ∈ wsL_law := List.mem_of_getElem? (i := 566) (by decide +kernel)
theorem mw_567 : Cond.instanceMethod yX6_isThere ∈ wsL_law := List.mem_of_getElem? (i := 567) (by decide +kernel)
theorem mw_568 : Cond.selects RX6 yX6_isThere yX6_isThere ∈ wsL_law := List.mem_of_getElem? (i := 568) (by decide +kernel)
theorem mw_569 : Cond.code yX6_isThere cX6_isThere 2 (some .boolean) ∈ wsL_law := List.mem_of_getElem? (i := 569) (by decide +kernel)
theorem mw_570 : Cond.methodLink RX6 207 yX6_inLeast ∈ wsL_law := List.mem_of_getElem? (i := 570) (by decide +kernel)
theorem mw_571 : Cond.static yX6_inLeast ∈ wsL_law := List.mem_of_getElem? (i := 571) (by decide +kernel)
theorem mw_572 : Cond.code yX6_inLeast cX6_inLeast 7 (some .long) ∈ wsL_law := List.mem_of_getElem? (i := 572) (by decide +kernel)
theorem mw_573 : Cond.methodLink RX6 196 yX6_common ∈ wsL_law := List.mem_of_getElem? (i := 573) (by decide +kernel)
theorem mw_574 : Cond.static yX6_common ∈ wsL_law := List.mem_of_getElem? (i := 574) (by decide +kernel)
theorem mw_575 : Cond.code yX6_common cX6_common 10 (some .long) ∈ wsL_law := List.mem_of_getElem? (i := 575) (by decide +kernel)
theorem mw_576 : Cond.methodLink RL 61 yX5_high ∈ wsL_law := List.mem_of_getElem? (i := 576) (by decide +kernel)
theorem mw_577 : Cond.instanceMethod yX5_high ∈ wsL_law := List.mem_of_getElem? (i := 577) (by decide +kernel)
theorem mw_578 : Cond.selects RX5 yX5_high yX5_high ∈ wsL_law := List.mem_of_getElem? (i := 578) (by decide +kernel)
theorem mw_579 : Cond.code yX5_high cX5_high 3 (some .int) ∈ wsL_law := List.mem_of_getElem? (i := 579) (by decide +kernel)
theorem mw_580 : Cond.methodLink RX5 177 yX5_reached ∈ wsL_law := List.mem_of_getElem? (i := 580) (by decide +kernel)
theorem mw_581 : Cond.instanceMethod yX5_reached ∈ wsL_law := List.mem_of_getElem? (i := 581) (by decide +kernel)
theorem mw_582 : Cond.selects RX5 yX5_reached yX5_reached ∈ wsL_law := List.mem_of_getElem? (i := 582) (by decide +kernel)
theorem mw_583 : Cond.code yX5_reached cX5_reached 2 (some .int) ∈ wsL_law := List.mem_of_getElem? (i := 583) (by decide +kernel)
theorem mw_584 : Cond.methodLink RX5 359 yX3_flood ∈ wsL_law := List.mem_of_getElem? (i := 584) (by decide +kernel)
theorem mw_585 : Cond.instanceMethod yX3_flood ∈ wsL_law := List.mem_of_getElem? (i := 585) (by decide +kernel)
theorem mw_586 : Cond.selects RX3 yX3_flood yX3_flood ∈ wsL_law := List.mem_of_getElem? (i := 586) (by decide +kernel)
theorem mw_587 : Cond.code yX3_flood cX3_flood 9 (some .int) ∈ wsL_law := List.mem_of_getElem? (i := 587) (by decide +kernel)
theorem mw_588 : Cond.methodLink RX3 38 yX3_firm ∈ wsL_law := List.mem_of_getElem? (i := 588) (by decide +kernel)
theorem mw_589 : Cond.instanceMethod yX3_firm ∈ wsL_law := List.mem_of_getElem? (i := 589) (by decide +kernel)
theorem mw_590 : Cond.selects RX3 yX3_firm yX3_firm ∈ wsL_law := List.mem_of_getElem? (i := 590) (by decide +kernel)
theorem mw_591 : Cond.code yX3_firm cX3_firm 3 (some .int) ∈ wsL_law := List.mem_of_getElem? (i := 591) (by decide +kernel)
theorem mw_592 : Cond.methodLink RX3 42 yJ6_numberOfTrailingZeros_0f7a4 ∈ wsL_law := List.mem_of_getElem? (i := 592) (by decide +kernel)
theorem mw_593 : Cond.static yJ6_numberOfTrailingZeros_0f7a4 ∈ wsL_law := List.mem_of_getElem? (i := 593) (by decide +kernel)
theorem mw_594 : Cond.initialized RJ6 ∈ wsL_law := List.mem_of_getElem? (i := 594) (by decide +kernel)
theorem mw_595 : Cond.code yJ6_numberOfTrailingZeros_0f7a4 cJ6_numberOfTrailingZeros_0f7a4 2 (some .int) ∈ wsL_law := List.mem_of_getElem? (i := 595) (by decide +kernel)
theorem mw_596 : Cond.constant RJ6 264 (65536) ∈ wsL_law := List.mem_of_getElem? (i := 596) (by decide +kernel)
theorem mw_597 : Cond.methodLink RX5 180 yX5_highest ∈ wsL_law := List.mem_of_getElem? (i := 597) (by decide +kernel)
theorem mw_598 : Cond.instanceMethod yX5_highest ∈ wsL_law := List.mem_of_getElem? (i := 598) (by decide +kernel)
theorem mw_599 : Cond.selects RX5 yX5_highest yX5_highest ∈ wsL_law := List.mem_of_getElem? (i := 599) (by decide +kernel)
theorem mw_600 : Cond.code yX5_highest cX5_highest 4 (some .int) ∈ wsL_law := List.mem_of_getElem? (i := 600) (by decide +kernel)
theorem mw_601 : Cond.methodLink RX5 183 yX5_returning ∈ wsL_law := List.mem_of_getElem? (i := 601) (by decide +kernel)
theorem mw_602 : Cond.instanceMethod yX5_returning ∈ wsL_law := List.mem_of_getElem? (i := 602) (by decide +kernel)
theorem mw_603 : Cond.selects RX5 yX5_returning yX5_returning ∈ wsL_law := List.mem_of_getElem? (i := 603) (by decide +kernel)
theorem mw_604 : Cond.code yX5_returning cX5_returning 4 (some .int) ∈ wsL_law := List.mem_of_getElem? (i := 604) (by decide +kernel)
theorem mw_605 : Cond.methodLink RX5 193 yX5_comesDown ∈ wsL_law := List.mem_of_getElem? (i := 605) (by decide +kernel)
theorem mw_606 : Cond.instanceMethod yX5_comesDown ∈ wsL_law := List.mem_of_getElem? (i := 606) (by decide +kernel)
theorem mw_607 : Cond.selects RX5 yX5_comesDown yX5_comesDown ∈ wsL_law := List.mem_of_getElem? (i := 607) (by decide +kernel)
theorem mw_608 : Cond.code yX5_comesDown cX5_comesDown 2 (some .boolean) ∈ wsL_law := List.mem_of_getElem? (i := 608) (by decide +kernel)
theorem mw_609 : Cond.methodLink RL 64 yX6_high ∈ wsL_law := List.mem_of_getElem? (i := 609) (by decide +kernel)
theorem mw_610 : Cond.instanceMethod yX6_high ∈ wsL_law := List.mem_of_getElem? (i := 610) (by decide +kernel)
theorem mw_611 : Cond.selects RX6 yX6_high yX6_high ∈ wsL_law := List.mem_of_getElem? (i := 611) (by decide +kernel)
theorem mw_612 : Cond.code yX6_high cX6_high 7 (some .int) ∈ wsL_law := List.mem_of_getElem? (i := 612) (by decide +kernel)
theorem mw_613 : Cond.methodLink RX6 213 yX6_highBy ∈ wsL_law := List.mem_of_getElem? (i := 613) (by decide +kernel)
theorem mw_614 : Cond.instanceMethod yX6_highBy ∈ wsL_law := List.mem_of_getElem? (i := 614) (by decide +kernel)
theorem mw_615 : Cond.selects RX6 yX6_highBy yX6_highBy ∈ wsL_law := List.mem_of_getElem? (i := 615) (by decide +kernel)
theorem mw_616 : Cond.code yX6_highBy cX6_highBy 5 (some .int) ∈ wsL_law := List.mem_of_getElem? (i := 616) (by decide +kernel)
theorem mw_617 : Cond.constantLong RX6 211 (100) ∈ wsL_law := List.mem_of_getElem? (i := 617) (by decide +kernel)
theorem mw_618 : Cond.methodLink RX6 216 yX6_reached ∈ wsL_law := List.mem_of_getElem? (i := 618) (by decide +kernel)
theorem mw_619 : Cond.instanceMethod yX6_reached ∈ wsL_law := List.mem_of_getElem? (i := 619) (by decide +kernel)
theorem mw_620 : Cond.selects RX6 yX6_reached yX6_reached ∈ wsL_law := List.mem_of_getElem? (i := 620) (by decide +kernel)
theorem mw_621 : Cond.code yX6_reached cX6_reached 3 (some .int) ∈ wsL_law := List.mem_of_getElem? (i := 621) (by decide +kernel)
theorem mw_622 : Cond.methodLink RX6 219 yX6_comesDown ∈ wsL_law := List.mem_of_getElem? (i := 622) (by decide +kernel)
theorem mw_623 : Cond.instanceMethod yX6_comesDown ∈ wsL_law := List.mem_of_getElem? (i := 623) (by decide +kernel)
theorem mw_624 : Cond.selects RX6 yX6_comesDown yX6_comesDown ∈ wsL_law := List.mem_of_getElem? (i := 624) (by decide +kernel)
theorem mw_625 : Cond.code yX6_comesDown cX6_comesDown 2 (some .boolean) ∈ wsL_law := List.mem_of_getElem? (i := 625) (by decide +kernel)
theorem mw_626 : Cond.methodLink RL 65 yX5_sure ∈ wsL_law := List.mem_of_getElem? (i := 626) (by decide +kernel)
theorem mw_627 : Cond.instanceMethod yX5_sure ∈ wsL_law := List.mem_of_getElem? (i := 627) (by decide +kernel)
theorem mw_628 : Cond.selects RX5 yX5_sure yX5_sure ∈ wsL_law := List.mem_of_getElem? (i := 628) (by decide +kernel)
theorem mw_629 : Cond.code yX5_sure cX5_sure 7 (some .int) ∈ wsL_law := List.mem_of_getElem? (i := 629) (by decide +kernel)
theorem mw_630 : Cond.constantLong RX5 186 (100) ∈ wsL_law := List.mem_of_getElem? (i := 630) (by decide +kernel)
theorem mw_631 : Cond.methodLink RL 68 yX6_sure ∈ wsL_law := List.mem_of_getElem? (i := 631) (by decide +kernel)
theorem mw_632 : Cond.instanceMethod yX6_sure ∈ wsL_law := List.mem_of_getElem? (i := 632) (by decide +kernel)
theorem mw_633 : Cond.selects RX6 yX6_sure yX6_sure ∈ wsL_law := List.mem_of_getElem? (i := 633) (by decide +kernel)
theorem mw_634 : Cond.code yX6_sure cX6_sure 3 (some .int) ∈ wsL_law := List.mem_of_getElem? (i := 634) (by decide +kernel)
theorem mw_635 : Cond.methodLink RL 69 yX5_help ∈ wsL_law := List.mem_of_getElem? (i := 635) (by decide +kernel)
theorem mw_636 : Cond.instanceMethod yX5_help ∈ wsL_law := List.mem_of_getElem? (i := 636) (by decide +kernel)
theorem mw_637 : Cond.selects RX5 yX5_help yX5_help ∈ wsL_law := List.mem_of_getElem? (i := 637) (by decide +kernel)
theorem mw_638 : Cond.code yX5_help cX5_help 4 (some .int) ∈ wsL_law := List.mem_of_getElem? (i := 638) (by decide +kernel)
theorem mw_639 : Cond.methodLink RL 72 yX6_help ∈ wsL_law := List.mem_of_getElem? (i := 639) (by decide +kernel)
theorem mw_640 : Cond.instanceMethod yX6_help ∈ wsL_law := List.mem_of_getElem? (i := 640) (by decide +kernel)
theorem mw_641 : Cond.selects RX6 yX6_help yX6_help ∈ wsL_law := List.mem_of_getElem? (i := 641) (by decide +kernel)
theorem mw_642 : Cond.code yX6_help cX6_help 4 (some .int) ∈ wsL_law := List.mem_of_getElem? (i := 642) (by decide +kernel)
theorem mw_643 : Cond.methodLink RL 73 yX5_stuck ∈ wsL_law := List.mem_of_getElem? (i := 643) (by decide +kernel)
theorem mw_644 : Cond.instanceMethod yX5_stuck ∈ wsL_law := List.mem_of_getElem? (i := 644) (by decide +kernel)
theorem mw_645 : Cond.selects RX5 yX5_stuck yX5_stuck ∈ wsL_law := List.mem_of_getElem? (i := 645) (by decide +kernel)
theorem mw_646 : Cond.code yX5_stuck cX5_stuck 4 (some .int) ∈ wsL_law := List.mem_of_getElem? (i := 646) (by decide +kernel)
theorem mw_647 : Cond.methodLink RL 76 yX6_stuck ∈ wsL_law := List.mem_of_getElem? (i := 647) (by decide +kernel)
theorem mw_648 : Cond.instanceMethod yX6_stuck ∈ wsL_law := List.mem_of_getElem? (i := 648) (by decide +kernel)
theorem mw_649 : Cond.selects RX6 yX6_stuck yX6_stuck ∈ wsL_law := List.mem_of_getElem? (i := 649) (by decide +kernel)
theorem mw_650 : Cond.code yX6_stuck cX6_stuck 5 (some .int) ∈ wsL_law := List.mem_of_getElem? (i := 650) (by decide +kernel)
theorem mw_651 : Cond.methodLink RL 77 yX5_rubbed ∈ wsL_law := List.mem_of_getElem? (i := 651) (by decide +kernel)
theorem mw_652 : Cond.instanceMethod yX5_rubbed ∈ wsL_law := List.mem_of_getElem? (i := 652) (by decide +kernel)
theorem mw_653 : Cond.selects RX5 yX5_rubbed yX5_rubbed ∈ wsL_law := List.mem_of_getElem? (i := 653) (by decide +kernel)
theorem mw_654 : Cond.code yX5_rubbed cX5_rubbed 4 (some .long) ∈ wsL_law := List.mem_of_getElem? (i := 654) (by decide +kernel)
theorem mw_655 : Cond.methodLink RX5 196 yX3_ascents ∈ wsL_law := List.mem_of_getElem? (i := 655) (by decide +kernel)
theorem mw_656 : Cond.instanceMethod yX3_ascents ∈ wsL_law := List.mem_of_getElem? (i := 656) (by decide +kernel)
theorem mw_657 : Cond.selects RX3 yX3_ascents yX3_ascents ∈ wsL_law := List.mem_of_getElem? (i := 657) (by decide +kernel)
theorem mw_658 : Cond.code yX3_ascents cX3_ascents 6 (some .long) ∈ wsL_law := List.mem_of_getElem? (i := 658) (by decide +kernel)
theorem mw_659 : Cond.fieldLink RX3 70 "TreeClimb$Wood" "branches" "I" ∈ wsL_law := List.mem_of_getElem? (i := 659) (by decide +kernel)
theorem mw_660 : Cond.methodLink RX3 66 yX3_skips ∈ wsL_law := List.mem_of_getElem? (i := 660) (by decide +kernel)
theorem mw_661 : Cond.static yX3_skips ∈ wsL_law := List.mem_of_getElem? (i := 661) (by decide +kernel)
theorem mw_662 : Cond.code yX3_skips cX3_skips 8 (some .boolean) ∈ wsL_law := List.mem_of_getElem? (i := 662) (by decide +kernel)
theorem mw_663 : Cond.methodLink RX3 83 yX4_feature ∈ wsL_law := List.mem_of_getElem? (i := 663) (by decide +kernel)
theorem mw_664 : Cond.methodLink RX3 76 yX4_downward ∈ wsL_law := List.mem_of_getElem? (i := 664) (by decide +kernel)
theorem mw_665 : Cond.instanceMethod yX4_downward ∈ wsL_law := List.mem_of_getElem? (i := 665) (by decide +kernel)
theorem mw_666 : Cond.selects RX4 yX4_downward yX4_downward ∈ wsL_law := List.mem_of_getElem? (i := 666) (by decide +kernel)
theorem mw_667 : Cond.code yX4_downward cX4_downward 2 (some .int) ∈ wsL_law := List.mem_of_getElem? (i := 667) (by decide +kernel)
theorem mw_668 : Cond.methodLink RX3 79 yX3_ascentsInto ∈ wsL_law := List.mem_of_getElem? (i := 668) (by decide +kernel)
theorem mw_669 : Cond.instanceMethod yX3_ascentsInto ∈ wsL_law := List.mem_of_getElem? (i := 669) (by decide +kernel)
theorem mw_670 : Cond.selects RX3 yX3_ascentsInto yX3_ascentsInto ∈ wsL_law := List.mem_of_getElem? (i := 670) (by decide +kernel)
theorem mw_671 : Cond.code yX3_ascentsInto cX3_ascentsInto 8 (some .long) ∈ wsL_law := List.mem_of_getElem? (i := 671) (by decide +kernel)
theorem mw_672 : Cond.methodLink RL 81 yX6_rubbed ∈ wsL_law := List.mem_of_getElem? (i := 672) (by decide +kernel)
theorem mw_673 : Cond.instanceMethod yX6_rubbed ∈ wsL_law := List.mem_of_getElem? (i := 673) (by decide +kernel)
theorem mw_674 : Cond.selects RX6 yX6_rubbed yX6_rubbed ∈ wsL_law := List.mem_of_getElem? (i := 674) (by decide +kernel)
theorem mw_675 : Cond.code yX6_rubbed cX6_rubbed 11 (some .long) ∈ wsL_law := List.mem_of_getElem? (i := 675) (by decide +kernel)
theorem mw_676 : Cond.methodLink RX6 222 yX6_countUps ∈ wsL_law := List.mem_of_getElem? (i := 676) (by decide +kernel)
theorem mw_677 : Cond.instanceMethod yX6_countUps ∈ wsL_law := List.mem_of_getElem? (i := 677) (by decide +kernel)
theorem mw_678 : Cond.selects RX6 yX6_countUps yX6_countUps ∈ wsL_law := List.mem_of_getElem? (i := 678) (by decide +kernel)
theorem mw_679 : Cond.code yX6_countUps cX6_countUps 5 none ∈ wsL_law := List.mem_of_getElem? (i := 679) (by decide +kernel)
theorem mw_680 : Cond.methodLink RL 82 yX5_tried ∈ wsL_law := List.mem_of_getElem? (i := 680) (by decide +kernel)
theorem mw_681 : Cond.instanceMethod yX5_tried ∈ wsL_law := List.mem_of_getElem? (i := 681) (by decide +kernel)
theorem mw_682 : Cond.selects RX5 yX5_tried yX5_tried ∈ wsL_law := List.mem_of_getElem? (i := 682) (by decide +kernel)
theorem mw_683 : Cond.code yX5_tried cX5_tried 7 (some .long) ∈ wsL_law := List.mem_of_getElem? (i := 683) (by decide +kernel)
theorem mw_684 : Cond.methodLink RX5 208 Lib.MathLoose.max_long.x ∈ wsL_law := List.mem_of_getElem? (i := 684) (by decide +kernel)
theorem mw_685 : Cond.methodLink RX5 200 yX5_soundShare ∈ wsL_law := List.mem_of_getElem? (i := 685) (by decide +kernel)
theorem mw_686 : Cond.instanceMethod yX5_soundShare ∈ wsL_law := List.mem_of_getElem? (i := 686) (by decide +kernel)
theorem mw_687 : Cond.selects RX5 yX5_soundShare yX5_soundShare ∈ wsL_law := List.mem_of_getElem? (i := 687) (by decide +kernel)
theorem mw_688 : Cond.code yX5_soundShare cX5_soundShare 3 (some .long) ∈ wsL_law := List.mem_of_getElem? (i := 688) (by decide +kernel)
theorem mw_689 : Cond.methodLink RX5 362 yX5_power ∈ wsL_law := List.mem_of_getElem? (i := 689) (by decide +kernel)
theorem mw_690 : Cond.static yX5_power ∈ wsL_law := List.mem_of_getElem? (i := 690) (by decide +kernel)
theorem mw_691 : Cond.code yX5_power cX5_power 5 (some .long) ∈ wsL_law := List.mem_of_getElem? (i := 691) (by decide +kernel)
theorem mw_692 : Cond.methodLink RX5 204 yX5_unsoundShare ∈ wsL_law := List.mem_of_getElem? (i := 692) (by decide +kernel)
theorem mw_693 : Cond.instanceMethod yX5_unsoundShare ∈ wsL_law := List.mem_of_getElem? (i := 693) (by decide +kernel)
theorem mw_694 : Cond.selects RX5 yX5_unsoundShare yX5_unsoundShare ∈ wsL_law := List.mem_of_getElem? (i := 694) (by decide +kernel)
theorem mw_695 : Cond.code yX5_unsoundShare cX5_unsoundShare 4 (some .long) ∈ wsL_law := List.mem_of_getElem? (i := 695) (by decide +kernel)
theorem mw_696 : Cond.methodLink RL 85 yX6_tried ∈ wsL_law := List.mem_of_getElem? (i := 696) (by decide +kernel)
theorem mw_697 : Cond.instanceMethod yX6_tried ∈ wsL_law := List.mem_of_getElem? (i := 697) (by decide +kernel)
theorem mw_698 : Cond.selects RX6 yX6_tried yX6_tried ∈ wsL_law := List.mem_of_getElem? (i := 698) (by decide +kernel)
theorem mw_699 : Cond.code yX6_tried cX6_tried 5 (some .long) ∈ wsL_law := List.mem_of_getElem? (i := 699) (by decide +kernel)
theorem mw_700 : Cond.methodLink RX6 229 yX6_soundBy ∈ wsL_law := List.mem_of_getElem? (i := 700) (by decide +kernel)
theorem mw_701 : Cond.instanceMethod yX6_soundBy ∈ wsL_law := List.mem_of_getElem? (i := 701) (by decide +kernel)
theorem mw_702 : Cond.selects RX6 yX6_soundBy yX6_soundBy ∈ wsL_law := List.mem_of_getElem? (i := 702) (by decide +kernel)
theorem mw_703 : Cond.code yX6_soundBy cX6_soundBy 3 (some .long) ∈ wsL_law := List.mem_of_getElem? (i := 703) (by decide +kernel)
theorem mw_704 : Cond.methodLink RX6 225 yX6_power ∈ wsL_law := List.mem_of_getElem? (i := 704) (by decide +kernel)
theorem mw_705 : Cond.static yX6_power ∈ wsL_law := List.mem_of_getElem? (i := 705) (by decide +kernel)
theorem mw_706 : Cond.code yX6_power cX6_power 5 (some .long) ∈ wsL_law := List.mem_of_getElem? (i := 706) (by decide +kernel)
theorem mw_707 : Cond.methodLink RX6 232 yX6_allBy ∈ wsL_law := List.mem_of_getElem? (i := 707) (by decide +kernel)
theorem mw_708 : Cond.instanceMethod yX6_allBy ∈ wsL_law := List.mem_of_getElem? (i := 708) (by decide +kernel)
theorem mw_709 : Cond.selects RX6 yX6_allBy yX6_allBy ∈ wsL_law := List.mem_of_getElem? (i := 709) (by decide +kernel)
theorem mw_710 : Cond.code yX6_allBy cX6_allBy 4 (some .long) ∈ wsL_law := List.mem_of_getElem? (i := 710) (by decide +kernel)
theorem mw_711 : Cond.methodLink RL 86 yX5_tries ∈ wsL_law := List.mem_of_getElem? (i := 711) (by decide +kernel)
theorem mw_712 : Cond.instanceMethod yX5_tries ∈ wsL_law := List.mem_of_getElem? (i := 712) (by decide +kernel)
theorem mw_713 : Cond.selects RX5 yX5_tries yX5_tries ∈ wsL_law := List.mem_of_getElem? (i := 713) (by decide +kernel)
theorem mw_714 : Cond.code yX5_tries cX5_tries 7 (some .int) ∈ wsL_law := List.mem_of_getElem? (i := 714) (by decide +kernel)
theorem mw_715 : Cond.methodLink RL 89 yX6_tries ∈ wsL_law := List.mem_of_getElem? (i := 715) (by decide +kernel)
theorem mw_716 : Cond.instanceMethod yX6_tries ∈ wsL_law := List.mem_of_getElem? (i := 716) (by decide +kernel)
theorem mw_717 : Cond.selects RX6 yX6_tries yX6_tries ∈ wsL_law := List.mem_of_getElem? (i := 717) (by decide +kernel)
theorem mw_718 : Cond.code yX6_tries cX6_tries 7 (some .int) ∈ wsL_law := List.mem_of_getElem? (i := 718) (by decide +kernel)
theorem mw_719 : Cond.methodLink RL 90 yX5_sway ∈ wsL_law := List.mem_of_getElem? (i := 719) (by decide +kernel)
theorem mw_720 : Cond.instanceMethod yX5_sway ∈ wsL_law := List.mem_of_getElem? (i := 720) (by decide +kernel)
theorem mw_721 : Cond.selects RX5 yX5_sway yX5_sway ∈ wsL_law := List.mem_of_getElem? (i := 721) (by decide +kernel)
theorem mw_722 : Cond.code yX5_sway cX5_sway 4 (some .int) ∈ wsL_law := List.mem_of_getElem? (i := 722) (by decide +kernel)
theorem mw_723 : Cond.methodLink RX5 211 yX5_swing ∈ wsL_law := List.mem_of_getElem? (i := 723) (by decide +kernel)
theorem mw_724 : Cond.instanceMethod yX5_swing ∈ wsL_law := List.mem_of_getElem? (i := 724) (by decide +kernel)
theorem mw_725 : Cond.selects RX5 yX5_swing yX5_swing ∈ wsL_law := List.mem_of_getElem? (i := 725) (by decide +kernel)
theorem mw_726 : Cond.code yX5_swing cX5_swing 10 (some .int) ∈ wsL_law := List.mem_of_getElem? (i := 726) (by decide +kernel)
theorem mw_727 : Cond.methodLink RX5 367 Lib.Math.abs.name ∈ wsL_law := List.mem_of_getElem? (i := 727) (by decide +kernel)
theorem mw_728 : Cond.methodLink RL 93 yX6_sway ∈ wsL_law := List.mem_of_getElem? (i := 728) (by decide +kernel)
theorem mw_729 : Cond.instanceMethod yX6_sway ∈ wsL_law := List.mem_of_getElem? (i := 729) (by decide +kernel)
theorem mw_730 : Cond.selects RX6 yX6_sway yX6_sway ∈ wsL_law := List.mem_of_getElem? (i := 730) (by decide +kernel)
theorem mw_731 : Cond.code yX6_sway cX6_sway 4 (some .int) ∈ wsL_law := List.mem_of_getElem? (i := 731) (by decide +kernel)
theorem mw_732 : Cond.methodLink RX6 236 yX6_swayOn ∈ wsL_law := List.mem_of_getElem? (i := 732) (by decide +kernel)
theorem mw_733 : Cond.instanceMethod yX6_swayOn ∈ wsL_law := List.mem_of_getElem? (i := 733) (by decide +kernel)
theorem mw_734 : Cond.selects RX6 yX6_swayOn yX6_swayOn ∈ wsL_law := List.mem_of_getElem? (i := 734) (by decide +kernel)
theorem mw_735 : Cond.code yX6_swayOn cX6_swayOn 9 (some .int) ∈ wsL_law := List.mem_of_getElem? (i := 735) (by decide +kernel)
theorem mw_736 : Cond.methodLink RL 94 yX5_calm ∈ wsL_law := List.mem_of_getElem? (i := 736) (by decide +kernel)
theorem mw_737 : Cond.instanceMethod yX5_calm ∈ wsL_law := List.mem_of_getElem? (i := 737) (by decide +kernel)
theorem mw_738 : Cond.selects RX5 yX5_calm yX5_calm ∈ wsL_law := List.mem_of_getElem? (i := 738) (by decide +kernel)
theorem mw_739 : Cond.code yX5_calm cX5_calm 5 (some .int) ∈ wsL_law := List.mem_of_getElem? (i := 739) (by decide +kernel)
theorem mw_740 : Cond.methodLink RL 97 yX6_calm ∈ wsL_law := List.mem_of_getElem? (i := 740) (by decide +kernel)
theorem mw_741 : Cond.instanceMethod yX6_calm ∈ wsL_law := List.mem_of_getElem? (i := 741) (by decide +kernel)
theorem mw_742 : Cond.selects RX6 yX6_calm yX6_calm ∈ wsL_law := List.mem_of_getElem? (i := 742) (by decide +kernel)
theorem mw_743 : Cond.code yX6_calm cX6_calm 5 (some .int) ∈ wsL_law := List.mem_of_getElem? (i := 743) (by decide +kernel)
theorem mw_744 : Cond.methodLink RL 98 yX5_fall ∈ wsL_law := List.mem_of_getElem? (i := 744) (by decide +kernel)
theorem mw_745 : Cond.instanceMethod yX5_fall ∈ wsL_law := List.mem_of_getElem? (i := 745) (by decide +kernel)
theorem mw_746 : Cond.selects RX5 yX5_fall yX5_fall ∈ wsL_law := List.mem_of_getElem? (i := 746) (by decide +kernel)
theorem mw_747 : Cond.code yX5_fall cX5_fall 3 (some .int) ∈ wsL_law := List.mem_of_getElem? (i := 747) (by decide +kernel)
theorem mw_748 : Cond.methodLink RX5 215 yX5_harm ∈ wsL_law := List.mem_of_getElem? (i := 748) (by decide +kernel)
theorem mw_749 : Cond.instanceMethod yX5_harm ∈ wsL_law := List.mem_of_getElem? (i := 749) (by decide +kernel)
theorem mw_750 : Cond.selects RX5 yX5_harm yX5_harm ∈ wsL_law := List.mem_of_getElem? (i := 750) (by decide +kernel)
theorem mw_751 : Cond.code yX5_harm cX5_harm 9 (some .int) ∈ wsL_law := List.mem_of_getElem? (i := 751) (by decide +kernel)
theorem mw_752 : Cond.methodLink RX5 218 yX4_below ∈ wsL_law := List.mem_of_getElem? (i := 752) (by decide +kernel)
theorem mw_753 : Cond.instanceMethod yX4_below ∈ wsL_law := List.mem_of_getElem? (i := 753) (by decide +kernel)
theorem mw_754 : Cond.selects RX4 yX4_below yX4_below ∈ wsL_law := List.mem_of_getElem? (i := 754) (by decide +kernel)
theorem mw_755 : Cond.code yX4_below cX4_below 2 (some .int) ∈ wsL_law := List.mem_of_getElem? (i := 755) (by decide +kernel)
theorem mw_756 : Cond.methodLink RX5 370 yX4_downward ∈ wsL_law := List.mem_of_getElem? (i := 756) (by decide +kernel)
theorem mw_757 : Cond.methodLink RL 101 yX6_fall ∈ wsL_law := List.mem_of_getElem? (i := 757) (by decide +kernel)
theorem mw_758 : Cond.instanceMethod yX6_fall ∈ wsL_law := List.mem_of_getElem? (i := 758) (by decide +kernel)
theorem mw_759 : Cond.selects RX6 yX6_fall yX6_fall ∈ wsL_law := List.mem_of_getElem? (i := 759) (by decide +kernel)
theorem mw_760 : Cond.code yX6_fall cX6_fall 4 (some .int) ∈ wsL_law := List.mem_of_getElem? (i := 760) (by decide +kernel)
theorem mw_761 : Cond.fieldLink RX6 239 "TreeClimbModel" "struck" "I" ∈ wsL_law := List.mem_of_getElem? (i := 761) (by decide +kernel)
theorem mw_762 : Cond.methodLink RX6 242 yX6_harmFrom ∈ wsL_law := List.mem_of_getElem? (i := 762) (by decide +kernel)
theorem mw_763 : Cond.instanceMethod yX6_harmFrom ∈ wsL_law := List.mem_of_getElem? (i := 763) (by decide +kernel)
theorem mw_764 : Cond.selects RX6 yX6_harmFrom yX6_harmFrom ∈ wsL_law := List.mem_of_getElem? (i := 764) (by decide +kernel)
theorem mw_765 : Cond.code yX6_harmFrom cX6_harmFrom 7 (some .int) ∈ wsL_law := List.mem_of_getElem? (i := 765) (by decide +kernel)
theorem mw_766 : Cond.methodLink RL 102 yX5_saw ∈ wsL_law := List.mem_of_getElem? (i := 766) (by decide +kernel)
theorem mw_767 : Cond.instanceMethod yX5_saw ∈ wsL_law := List.mem_of_getElem? (i := 767) (by decide +kernel)
theorem mw_768 : Cond.selects RX5 yX5_saw yX5_saw ∈ wsL_law := List.mem_of_getElem? (i := 768) (by decide +kernel)
theorem mw_769 : Cond.code yX5_saw cX5_saw 7 (some .int) ∈ wsL_law := List.mem_of_getElem? (i := 769) (by decide +kernel)
theorem mw_770 : Cond.methodLink RX5 221 yX5_leastToSaw ∈ wsL_law := List.mem_of_getElem? (i := 770) (by decide +kernel)
theorem mw_771 : Cond.instanceMethod yX5_leastToSaw ∈ wsL_law := List.mem_of_getElem? (i := 771) (by decide +kernel)
theorem mw_772 : Cond.selects RX5 yX5_leastToSaw yX5_leastToSaw ∈ wsL_law := List.mem_of_getElem? (i := 772) (by decide +kernel)
theorem mw_773 : Cond.code yX5_leastToSaw cX5_leastToSaw 7 (some .int) ∈ wsL_law := List.mem_of_getElem? (i := 773) (by decide +kernel)
theorem mw_774 : Cond.methodLink RX5 224 yJ6_bitCount_0f7a4 ∈ wsL_law := List.mem_of_getElem? (i := 774) (by decide +kernel)
theorem mw_775 : Cond.static yJ6_bitCount_0f7a4 ∈ wsL_law := List.mem_of_getElem? (i := 775) (by decide +kernel)
theorem mw_776 : Cond.code yJ6_bitCount_0f7a4 cJ6_bitCount_0f7a4 1 (some .int) ∈ wsL_law := List.mem_of_getElem? (i := 776) (by decide +kernel)
theorem mw_777 : Cond.constant RJ6 265 (1431655765) ∈ wsL_law := List.mem_of_getElem? (i := 777) (by decide +kernel)
theorem mw_778 : Cond.constant RJ6 266 (858993459) ∈ wsL_law := List.mem_of_getElem? (i := 778) (by decide +kernel)
theorem mw_779 : Cond.constant RJ6 267 (252645135) ∈ wsL_law := List.mem_of_getElem? (i := 779) (by decide +kernel)
theorem mw_780 : Cond.methodLink RX5 373 yX5_isSafe ∈ wsL_law := List.mem_of_getElem? (i := 780) (by decide +kernel)
theorem mw_781 : Cond.instanceMethod yX5_isSafe ∈ wsL_law := List.mem_of_getElem? (i := 781) (by decide +kernel)
theorem mw_782 : Cond.selects RX5 yX5_isSafe yX5_isSafe ∈ wsL_law := List.mem_of_getElem? (i := 782) (by decide +kernel)
theorem mw_783 : Cond.code yX5_isSafe cX5_isSafe 6 (some .boolean) ∈ wsL_law := List.mem_of_getElem? (i := 783) (by decide +kernel)
theorem mw_784 : Cond.methodLink RL 106 yX6_saw ∈ wsL_law := List.mem_of_getElem? (i := 784) (by decide +kernel)
theorem mw_785 : Cond.instanceMethod yX6_saw ∈ wsL_law := List.mem_of_getElem? (i := 785) (by decide +kernel)
theorem mw_786 : Cond.selects RX6 yX6_saw yX6_saw ∈ wsL_law := List.mem_of_getElem? (i := 786) (by decide +kernel)
theorem mw_787 : Cond.code yX6_saw cX6_saw 9 (some .int) ∈ wsL_law := List.mem_of_getElem? (i := 787) (by decide +kernel)
theorem mw_788 : Cond.methodLink RX6 245 yX6_bitsIn ∈ wsL_law := List.mem_of_getElem? (i := 788) (by decide +kernel)
theorem mw_789 : Cond.static yX6_bitsIn ∈ wsL_law := List.mem_of_getElem? (i := 789) (by decide +kernel)
theorem mw_790 : Cond.code yX6_bitsIn cX6_bitsIn 3 (some .int) ∈ wsL_law := List.mem_of_getElem? (i := 790) (by decide +kernel)
theorem mw_791 : Cond.methodLink RX6 248 yX6_isSafe ∈ wsL_law := List.mem_of_getElem? (i := 791) (by decide +kernel)
theorem mw_792 : Cond.instanceMethod yX6_isSafe ∈ wsL_law := List.mem_of_getElem? (i := 792) (by decide +kernel)
theorem mw_793 : Cond.selects RX6 yX6_isSafe yX6_isSafe ∈ wsL_law := List.mem_of_getElem? (i := 793) (by decide +kernel)
theorem mw_794 : Cond.code yX6_isSafe cX6_isSafe 6 (some .boolean) ∈ wsL_law := List.mem_of_getElem? (i := 794) (by decide +kernel)
theorem mw_795 : Cond.methodLink RL 107 yX5_afternoon ∈ wsL_law := List.mem_of_getElem? (i := 795) (by decide +kernel)
theorem mw_796 : Cond.instanceMethod yX5_afternoon ∈ wsL_law := List.mem_of_getElem? (i := 796) (by decide +kernel)
theorem mw_797 : Cond.selects RX5 yX5_afternoon yX5_afternoon ∈ wsL_law := List.mem_of_getElem? (i := 797) (by decide +kernel)
theorem mw_798 : Cond.code yX5_afternoon cX5_afternoon 4 (some .int) ∈ wsL_law := List.mem_of_getElem? (i := 798) (by decide +kernel)
theorem mw_799 : Cond.methodLink RX5 229 yX0_write ∈ wsL_law := List.mem_of_getElem? (i := 799) (by decide +kernel)
theorem mw_800 : Cond.instanceMethod yX0_write ∈ wsL_law := List.mem_of_getElem? (i := 800) (by decide +kernel)
theorem mw_801 : Cond.selects RX0 yX0_write yX0_write ∈ wsL_law := List.mem_of_getElem? (i := 801) (by decide +kernel)
theorem mw_802 : Cond.code yX0_write cX0_write 4 (some .boolean) ∈ wsL_law := List.mem_of_getElem? (i := 802) (by decide +kernel)
theorem mw_803 : Cond.methodLink RL 110 yX6_afternoon ∈ wsL_law := List.mem_of_getElem? (i := 803) (by decide +kernel)
theorem mw_804 : Cond.instanceMethod yX6_afternoon ∈ wsL_law := List.mem_of_getElem? (i := 804) (by decide +kernel)
theorem mw_805 : Cond.selects RX6 yX6_afternoon yX6_afternoon ∈ wsL_law := List.mem_of_getElem? (i := 805) (by decide +kernel)
theorem mw_806 : Cond.code yX6_afternoon cX6_afternoon 4 (some .int) ∈ wsL_law := List.mem_of_getElem? (i := 806) (by decide +kernel)
theorem mw_807 : Cond.methodLink RL 111 yX5_dares ∈ wsL_law := List.mem_of_getElem? (i := 807) (by decide +kernel)
theorem mw_808 : Cond.instanceMethod yX5_dares ∈ wsL_law := List.mem_of_getElem? (i := 808) (by decide +kernel)
theorem mw_809 : Cond.selects RX5 yX5_dares yX5_dares ∈ wsL_law := List.mem_of_getElem? (i := 809) (by decide +kernel)
theorem mw_810 : Cond.code yX5_dares cX5_dares 7 (some .int) ∈ wsL_law := List.mem_of_getElem? (i := 810) (by decide +kernel)
theorem mw_811 : Cond.methodLink RX5 233 yX0_howMany ∈ wsL_law := List.mem_of_getElem? (i := 811) (by decide +kernel)
theorem mw_812 : Cond.instanceMethod yX0_howMany ∈ wsL_law := List.mem_of_getElem? (i := 812) (by decide +kernel)
theorem mw_813 : Cond.selects RX0 yX0_howMany yX0_howMany ∈ wsL_law := List.mem_of_getElem? (i := 813) (by decide +kernel)
theorem mw_814 : Cond.code yX0_howMany cX0_howMany 7 (some .int) ∈ wsL_law := List.mem_of_getElem? (i := 814) (by decide +kernel)
theorem mw_815 : Cond.methodLink RX0 25 yX0_isOf ∈ wsL_law := List.mem_of_getElem? (i := 815) (by decide +kernel)
theorem mw_816 : Cond.instanceMethod yX0_isOf ∈ wsL_law := List.mem_of_getElem? (i := 816) (by decide +kernel)
theorem mw_817 : Cond.selects RX0 yX0_isOf yX0_isOf ∈ wsL_law := List.mem_of_getElem? (i := 817) (by decide +kernel)
theorem mw_818 : Cond.code yX0_isOf cX0_isOf 5 (some .boolean) ∈ wsL_law := List.mem_of_getElem? (i := 818) (by decide +kernel)
theorem mw_819 : Cond.methodLink RL 114 yX6_dares ∈ wsL_law := List.mem_of_getElem? (i := 819) (by decide +kernel)
theorem mw_820 : Cond.instanceMethod yX6_dares ∈ wsL_law := List.mem_of_getElem? (i := 820) (by decide +kernel)
theorem mw_821 : Cond.selects RX6 yX6_dares yX6_dares ∈ wsL_law := List.mem_of_getElem? (i := 821) (by decide +kernel)
theorem mw_822 : Cond.code yX6_dares cX6_dares 9 (some .int) ∈ wsL_law := List.mem_of_getElem? (i := 822) (by decide +kernel)
theorem mw_823 : Cond.methodLink RL 115 yX5_looked ∈ wsL_law := List.mem_of_getElem? (i := 823) (by decide +kernel)
theorem mw_824 : Cond.instanceMethod yX5_looked ∈ wsL_law := List.mem_of_getElem? (i := 824) (by decide +kernel)
theorem mw_825 : Cond.selects RX5 yX5_looked yX5_looked ∈ wsL_law := List.mem_of_getElem? (i := 825) (by decide +kernel)
theorem mw_826 : Cond.code yX5_looked cX5_looked 4 (some .int) ∈ wsL_law := List.mem_of_getElem? (i := 826) (by decide +kernel)
theorem mw_827 : Cond.constant RX5 237 (-1000000) ∈ wsL_law := List.mem_of_getElem? (i := 827) (by decide +kernel)
theorem mw_828 : Cond.methodLink RX5 238 yX0_heights ∈ wsL_law := List.mem_of_getElem? (i := 828) (by decide +kernel)
theorem mw_829 : Cond.instanceMethod yX0_heights ∈ wsL_law := List.mem_of_getElem? (i := 829) (by decide +kernel)
theorem mw_830 : Cond.selects RX0 yX0_heights yX0_heights ∈ wsL_law := List.mem_of_getElem? (i := 830) (by decide +kernel)
theorem mw_831 : Cond.code yX0_heights cX0_heights 6 (some .int) ∈ wsL_law := List.mem_of_getElem? (i := 831) (by decide +kernel)
theorem mw_832 : Cond.methodLink RL 118 yX6_looked ∈ wsL_law := List.mem_of_getElem? (i := 832) (by decide +kernel)
theorem mw_833 : Cond.instanceMethod yX6_looked ∈ wsL_law := List.mem_of_getElem? (i := 833) (by decide +kernel)
theorem mw_834 : Cond.selects RX6 yX6_looked yX6_looked ∈ wsL_law := List.mem_of_getElem? (i := 834) (by decide +kernel)
theorem mw_835 : Cond.code yX6_looked cX6_looked 8 (some .int) ∈ wsL_law := List.mem_of_getElem? (i := 835) (by decide +kernel)
theorem mw_836 : Cond.constant RX6 251 (-1000000) ∈ wsL_law := List.mem_of_getElem? (i := 836) (by decide +kernel)
theorem mw_837 : Cond.methodLink RL 119 yX5_goes ∈ wsL_law := List.mem_of_getElem? (i := 837) (by decide +kernel)
theorem mw_838 : Cond.instanceMethod yX5_goes ∈ wsL_law := List.mem_of_getElem? (i := 838) (by decide +kernel)
theorem mw_839 : Cond.selects RX5 yX5_goes yX5_goes ∈ wsL_law := List.mem_of_getElem? (i := 839) (by decide +kernel)
theorem mw_840 : Cond.code yX5_goes cX5_goes 3 (some .int) ∈ wsL_law := List.mem_of_getElem? (i := 840) (by decide +kernel)
theorem mw_841 : Cond.fieldLink RX5 241 "TreeClimb$Moment" "who" "I" ∈ wsL_law := List.mem_of_getElem? (i := 841) (by decide +kernel)
theorem mw_842 : Cond.methodLink RL 122 yX6_goes ∈ wsL_law := List.mem_of_getElem? (i := 842) (by decide +kernel)
theorem mw_843 : Cond.instanceMethod yX6_goes ∈ wsL_law := List.mem_of_getElem? (i := 843) (by decide +kernel)
theorem mw_844 : Cond.selects RX6 yX6_goes yX6_goes ∈ wsL_law := List.mem_of_getElem? (i := 844) (by decide +kernel)
theorem mw_845 : Cond.code yX6_goes cX6_goes 3 (some .int) ∈ wsL_law := List.mem_of_getElem? (i := 845) (by decide +kernel)
theorem mw_846 : Cond.methodLink RL 123 yX5_climb ∈ wsL_law := List.mem_of_getElem? (i := 846) (by decide +kernel)
theorem mw_847 : Cond.instanceMethod yX5_climb ∈ wsL_law := List.mem_of_getElem? (i := 847) (by decide +kernel)
theorem mw_848 : Cond.selects RX5 yX5_climb yX5_climb ∈ wsL_law := List.mem_of_getElem? (i := 848) (by decide +kernel)
theorem mw_849 : Cond.code yX5_climb cX5_climb 4 (some .int) ∈ wsL_law := List.mem_of_getElem? (i := 849) (by decide +kernel)
theorem mw_850 : Cond.fieldLink RX5 244 "TreeClimb$Moment" "where" "I" ∈ wsL_law := List.mem_of_getElem? (i := 850) (by decide +kernel)
theorem mw_851 : Cond.methodLink RX5 247 yX1_draw ∈ wsL_law := List.mem_of_getElem? (i := 851) (by decide +kernel)
theorem mw_852 : Cond.instanceMethod yX1_draw ∈ wsL_law := List.mem_of_getElem? (i := 852) (by decide +kernel)
theorem mw_853 : Cond.selects RX1 yX1_draw yX1_draw ∈ wsL_law := List.mem_of_getElem? (i := 853) (by decide +kernel)
theorem mw_854 : Cond.code yX1_draw cX1_draw 1 (some .int) ∈ wsL_law := List.mem_of_getElem? (i := 854) (by decide +kernel)
theorem mw_855 : Cond.constant RX1 40 (1103515245) ∈ wsL_law := List.mem_of_getElem? (i := 855) (by decide +kernel)
theorem mw_856 : Cond.methodLink RX5 250 yX1_arrive ∈ wsL_law := List.mem_of_getElem? (i := 856) (by decide +kernel)
theorem mw_857 : Cond.instanceMethod yX1_arrive ∈ wsL_law := List.mem_of_getElem? (i := 857) (by decide +kernel)
theorem mw_858 : Cond.selects RX1 yX1_arrive yX1_arrive ∈ wsL_law := List.mem_of_getElem? (i := 858) (by decide +kernel)
theorem mw_859 : Cond.code yX1_arrive cX1_arrive 3 none ∈ wsL_law := List.mem_of_getElem? (i := 859) (by decide +kernel)
theorem mw_860 : Cond.methodLink RX1 41 Lib.Math.max.name ∈ wsL_law := List.mem_of_getElem? (i := 860) (by decide +kernel)
theorem mw_861 : Cond.methodLink RX5 254 yX1_drop ∈ wsL_law := List.mem_of_getElem? (i := 861) (by decide +kernel)
theorem mw_862 : Cond.instanceMethod yX1_drop ∈ wsL_law := List.mem_of_getElem? (i := 862) (by decide +kernel)
theorem mw_863 : Cond.selects RX1 yX1_drop yX1_drop ∈ wsL_law := List.mem_of_getElem? (i := 863) (by decide +kernel)
theorem mw_864 : Cond.code yX1_drop cX1_drop 2 none ∈ wsL_law := List.mem_of_getElem? (i := 864) (by decide +kernel)
theorem mw_865 : Cond.methodLink RL 126 yX6_climb ∈ wsL_law := List.mem_of_getElem? (i := 865) (by decide +kernel)
theorem mw_866 : Cond.instanceMethod yX6_climb ∈ wsL_law := List.mem_of_getElem? (i := 866) (by decide +kernel)
theorem mw_867 : Cond.selects RX6 yX6_climb yX6_climb ∈ wsL_law := List.mem_of_getElem? (i := 867) (by decide +kernel)
theorem mw_868 : Cond.code yX6_climb cX6_climb 4 (some .int) ∈ wsL_law := List.mem_of_getElem? (i := 868) (by decide +kernel)
theorem mw_869 : Cond.constant RX6 252 (1103515245) ∈ wsL_law := List.mem_of_getElem? (i := 869) (by decide +kernel)
theorem mw_870 : Cond.methodLink RX6 253 yX6_placeNow ∈ wsL_law := List.mem_of_getElem? (i := 870) (by decide +kernel)
theorem mw_871 : Cond.instanceMethod yX6_placeNow ∈ wsL_law := List.mem_of_getElem? (i := 871) (by decide +kernel)
theorem mw_872 : Cond.selects RX6 yX6_placeNow yX6_placeNow ∈ wsL_law := List.mem_of_getElem? (i := 872) (by decide +kernel)
theorem mw_873 : Cond.code yX6_placeNow cX6_placeNow 1 (some .int) ∈ wsL_law := List.mem_of_getElem? (i := 873) (by decide +kernel)
theorem mw_874 : Cond.methodLink RL 127 yX5_now ∈ wsL_law := List.mem_of_getElem? (i := 874) (by decide +kernel)
theorem mw_875 : Cond.instanceMethod yX5_now ∈ wsL_law := List.mem_of_getElem? (i := 875) (by decide +kernel)
theorem mw_876 : Cond.selects RX5 yX5_now yX5_now ∈ wsL_law := List.mem_of_getElem? (i := 876) (by decide +kernel)
theorem mw_877 : Cond.code yX5_now cX5_now 2 (some .int) ∈ wsL_law := List.mem_of_getElem? (i := 877) (by decide +kernel)
theorem mw_878 : Cond.fieldLink RX5 257 "TreeClimb$Moment" "hurt" "I" ∈ wsL_law := List.mem_of_getElem? (i := 878) (by decide +kernel)
theorem mw_879 : Cond.fieldLink RX5 260 "TreeClimb$Moment" "top" "I" ∈ wsL_law := List.mem_of_getElem? (i := 879) (by decide +kernel)
theorem mw_880 : Cond.fieldLink RX5 263 "TreeClimb$Moment" "steps" "I" ∈ wsL_law := List.mem_of_getElem? (i := 880) (by decide +kernel)
theorem mw_881 : Cond.fieldLink RX5 266 "TreeClimb$Moment" "falls" "I" ∈ wsL_law := List.mem_of_getElem? (i := 881) (by decide +kernel)
theorem mw_882 : Cond.methodLink RL 130 yX6_now ∈ wsL_law := List.mem_of_getElem? (i := 882) (by decide +kernel)
theorem mw_883 : Cond.instanceMethod yX6_now ∈ wsL_law := List.mem_of_getElem? (i := 883) (by decide +kernel)
theorem mw_884 : Cond.selects RX6 yX6_now yX6_now ∈ wsL_law := List.mem_of_getElem? (i := 884) (by decide +kernel)
theorem mw_885 : Cond.code yX6_now cX6_now 2 (some .int) ∈ wsL_law := List.mem_of_getElem? (i := 885) (by decide +kernel)
theorem mw_886 : Cond.methodLink RL 131 yX5_lot ∈ wsL_law := List.mem_of_getElem? (i := 886) (by decide +kernel)
theorem mw_887 : Cond.instanceMethod yX5_lot ∈ wsL_law := List.mem_of_getElem? (i := 887) (by decide +kernel)
theorem mw_888 : Cond.selects RX5 yX5_lot yX5_lot ∈ wsL_law := List.mem_of_getElem? (i := 888) (by decide +kernel)
theorem mw_889 : Cond.code yX5_lot cX5_lot 3 (some .int) ∈ wsL_law := List.mem_of_getElem? (i := 889) (by decide +kernel)
theorem mw_890 : Cond.methodLink RL 134 yX6_lot ∈ wsL_law := List.mem_of_getElem? (i := 890) (by decide +kernel)
theorem mw_891 : Cond.instanceMethod yX6_lot ∈ wsL_law := List.mem_of_getElem? (i := 891) (by decide +kernel)
theorem mw_892 : Cond.selects RX6 yX6_lot yX6_lot ∈ wsL_law := List.mem_of_getElem? (i := 892) (by decide +kernel)
theorem mw_893 : Cond.code yX6_lot cX6_lot 3 (some .int) ∈ wsL_law := List.mem_of_getElem? (i := 893) (by decide +kernel)
theorem mw_894 : Cond.methodLink RL 135 yX5_mark ∈ wsL_law := List.mem_of_getElem? (i := 894) (by decide +kernel)
theorem mw_895 : Cond.instanceMethod yX5_mark ∈ wsL_law := List.mem_of_getElem? (i := 895) (by decide +kernel)
theorem mw_896 : Cond.selects RX5 yX5_mark yX5_mark ∈ wsL_law := List.mem_of_getElem? (i := 896) (by decide +kernel)
theorem mw_897 : Cond.code yX5_mark cX5_mark 3 (some .int) ∈ wsL_law := List.mem_of_getElem? (i := 897) (by decide +kernel)
theorem mw_898 : Cond.methodLink RX5 269 yX5_markBranch ∈ wsL_law := List.mem_of_getElem? (i := 898) (by decide +kernel)
theorem mw_899 : Cond.instanceMethod yX5_markBranch ∈ wsL_law := List.mem_of_getElem? (i := 899) (by decide +kernel)
theorem mw_900 : Cond.selects RX5 yX5_markBranch yX5_markBranch ∈ wsL_law := List.mem_of_getElem? (i := 900) (by decide +kernel)
theorem mw_901 : Cond.code yX5_markBranch cX5_markBranch 2 (some .int) ∈ wsL_law := List.mem_of_getElem? (i := 901) (by decide +kernel)
theorem mw_902 : Cond.methodLink RX5 272 yX5_markSound ∈ wsL_law := List.mem_of_getElem? (i := 902) (by decide +kernel)
theorem mw_903 : Cond.instanceMethod yX5_markSound ∈ wsL_law := List.mem_of_getElem? (i := 903) (by decide +kernel)
theorem mw_904 : Cond.selects RX5 yX5_markSound yX5_markSound ∈ wsL_law := List.mem_of_getElem? (i := 904) (by decide +kernel)
theorem mw_905 : Cond.code yX5_markSound cX5_markSound 2 (some .int) ∈ wsL_law := List.mem_of_getElem? (i := 905) (by decide +kernel)
theorem mw_906 : Cond.constantLong RX5 376 (10) ∈ wsL_law := List.mem_of_getElem? (i := 906) (by decide +kernel)
theorem mw_907 : Cond.methodLink RX5 275 yX5_markDead ∈ wsL_law := List.mem_of_getElem? (i := 907) (by decide +kernel)
theorem mw_908 : Cond.instanceMethod yX5_markDead ∈ wsL_law := List.mem_of_getElem? (i := 908) (by decide +kernel)
theorem mw_909 : Cond.selects RX5 yX5_markDead yX5_markDead ∈ wsL_law := List.mem_of_getElem? (i := 909) (by decide +kernel)
theorem mw_910 : Cond.code yX5_markDead cX5_markDead 2 (some .int) ∈ wsL_law := List.mem_of_getElem? (i := 910) (by decide +kernel)
theorem mw_911 : Cond.methodLink RX5 278 yX5_markSeeming ∈ wsL_law := List.mem_of_getElem? (i := 911) (by decide +kernel)
theorem mw_912 : Cond.instanceMethod yX5_markSeeming ∈ wsL_law := List.mem_of_getElem? (i := 912) (by decide +kernel)
theorem mw_913 : Cond.selects RX5 yX5_markSeeming yX5_markSeeming ∈ wsL_law := List.mem_of_getElem? (i := 913) (by decide +kernel)
theorem mw_914 : Cond.code yX5_markSeeming cX5_markSeeming 2 (some .int) ∈ wsL_law := List.mem_of_getElem? (i := 914) (by decide +kernel)
theorem mw_915 : Cond.constantLong RX5 378 (1000) ∈ wsL_law := List.mem_of_getElem? (i := 915) (by decide +kernel)
theorem mw_916 : Cond.methodLink RX5 281 yX5_markBent ∈ wsL_law := List.mem_of_getElem? (i := 916) (by decide +kernel)
theorem mw_917 : Cond.instanceMethod yX5_markBent ∈ wsL_law := List.mem_of_getElem? (i := 917) (by decide +kernel)
theorem mw_918 : Cond.selects RX5 yX5_markBent yX5_markBent ∈ wsL_law := List.mem_of_getElem? (i := 918) (by decide +kernel)
theorem mw_919 : Cond.code yX5_markBent cX5_markBent 2 (some .int) ∈ wsL_law := List.mem_of_getElem? (i := 919) (by decide +kernel)
theorem mw_920 : Cond.constantLong RX5 380 (10000) ∈ wsL_law := List.mem_of_getElem? (i := 920) (by decide +kernel)
theorem mw_921 : Cond.methodLink RX5 284 yX5_markWet ∈ wsL_law := List.mem_of_getElem? (i := 921) (by decide +kernel)
theorem mw_922 : Cond.instanceMethod yX5_markWet ∈ wsL_law := List.mem_of_getElem? (i := 922) (by decide +kernel)
theorem mw_923 : Cond.selects RX5 yX5_markWet yX5_markWet ∈ wsL_law := List.mem_of_getElem? (i := 923) (by decide +kernel)
theorem mw_924 : Cond.code yX5_markWet cX5_markWet 2 (some .int) ∈ wsL_law := List.mem_of_getElem? (i := 924) (by decide +kernel)
theorem mw_925 : Cond.constantLong RX5 382 (100000) ∈ wsL_law := List.mem_of_getElem? (i := 925) (by decide +kernel)
theorem mw_926 : Cond.methodLink RL 138 yX6_mark ∈ wsL_law := List.mem_of_getElem? (i := 926) (by decide +kernel)
theorem mw_927 : Cond.instanceMethod yX6_mark ∈ wsL_law := List.mem_of_getElem? (i := 927) (by decide +kernel)
theorem mw_928 : Cond.selects RX6 yX6_mark yX6_mark ∈ wsL_law := List.mem_of_getElem? (i := 928) (by decide +kernel)
theorem mw_929 : Cond.code yX6_mark cX6_mark 5 (some .int) ∈ wsL_law := List.mem_of_getElem? (i := 929) (by decide +kernel)
theorem mw_930 : Cond.fieldLink RX6 256 "TreeClimbModel" "trace" "J" ∈ wsL_law := List.mem_of_getElem? (i := 930) (by decide +kernel)
theorem mw_931 : Cond.constantLong RX6 260 (11) ∈ wsL_law := List.mem_of_getElem? (i := 931) (by decide +kernel)
theorem mw_932 : Cond.constantLong RX6 262 (101) ∈ wsL_law := List.mem_of_getElem? (i := 932) (by decide +kernel)
theorem mw_933 : Cond.constantLong RX6 264 (1101) ∈ wsL_law := List.mem_of_getElem? (i := 933) (by decide +kernel)
theorem mw_934 : Cond.constantLong RX6 266 (10011) ∈ wsL_law := List.mem_of_getElem? (i := 934) (by decide +kernel)
theorem mw_935 : Cond.constantLong RX6 268 (100001) ∈ wsL_law := List.mem_of_getElem? (i := 935) (by decide +kernel)
theorem mw_936 : Cond.methodLink RL 139 yX5_keep ∈ wsL_law := List.mem_of_getElem? (i := 936) (by decide +kernel)
theorem mw_937 : Cond.instanceMethod yX5_keep ∈ wsL_law := List.mem_of_getElem? (i := 937) (by decide +kernel)
theorem mw_938 : Cond.selects RX5 yX5_keep yX5_keep ∈ wsL_law := List.mem_of_getElem? (i := 938) (by decide +kernel)
theorem mw_939 : Cond.code yX5_keep cX5_keep 2 (some .int) ∈ wsL_law := List.mem_of_getElem? (i := 939) (by decide +kernel)
theorem mw_940 : Cond.methodLink RX5 287 yX1_become ∈ wsL_law := List.mem_of_getElem? (i := 940) (by decide +kernel)
theorem mw_941 : Cond.instanceMethod yX1_become ∈ wsL_law := List.mem_of_getElem? (i := 941) (by decide +kernel)
theorem mw_942 : Cond.selects RX1 yX1_become yX1_become ∈ wsL_law := List.mem_of_getElem? (i := 942) (by decide +kernel)
theorem mw_943 : Cond.code yX1_become cX1_become 2 none ∈ wsL_law := List.mem_of_getElem? (i := 943) (by decide +kernel)
theorem mw_944 : Cond.methodLink RL 142 yX6_keep ∈ wsL_law := List.mem_of_getElem? (i := 944) (by decide +kernel)
theorem mw_945 : Cond.instanceMethod yX6_keep ∈ wsL_law := List.mem_of_getElem? (i := 945) (by decide +kernel)
theorem mw_946 : Cond.selects RX6 yX6_keep yX6_keep ∈ wsL_law := List.mem_of_getElem? (i := 946) (by decide +kernel)
theorem mw_947 : Cond.code yX6_keep cX6_keep 2 (some .int) ∈ wsL_law := List.mem_of_getElem? (i := 947) (by decide +kernel)
theorem mw_948 : Cond.methodLink RX6 270 yX6_copy ∈ wsL_law := List.mem_of_getElem? (i := 948) (by decide +kernel)
theorem mw_949 : Cond.instanceMethod yX6_copy ∈ wsL_law := List.mem_of_getElem? (i := 949) (by decide +kernel)
theorem mw_950 : Cond.selects RX6 yX6_copy yX6_copy ∈ wsL_law := List.mem_of_getElem? (i := 950) (by decide +kernel)
theorem mw_951 : Cond.code yX6_copy cX6_copy 3 none ∈ wsL_law := List.mem_of_getElem? (i := 951) (by decide +kernel)
theorem mw_952 : Cond.methodLink RL 143 yX5_back ∈ wsL_law := List.mem_of_getElem? (i := 952) (by decide +kernel)
theorem mw_953 : Cond.instanceMethod yX5_back ∈ wsL_law := List.mem_of_getElem? (i := 953) (by decide +kernel)
theorem mw_954 : Cond.selects RX5 yX5_back yX5_back ∈ wsL_law := List.mem_of_getElem? (i := 954) (by decide +kernel)
theorem mw_955 : Cond.code yX5_back cX5_back 2 (some .int) ∈ wsL_law := List.mem_of_getElem? (i := 955) (by decide +kernel)
theorem mw_956 : Cond.methodLink RL 146 yX6_back ∈ wsL_law := List.mem_of_getElem? (i := 956) (by decide +kernel)
theorem mw_957 : Cond.instanceMethod yX6_back ∈ wsL_law := List.mem_of_getElem? (i := 957) (by decide +kernel)
theorem mw_958 : Cond.selects RX6 yX6_back yX6_back ∈ wsL_law := List.mem_of_getElem? (i := 958) (by decide +kernel)
theorem mw_959 : Cond.code yX6_back cX6_back 2 (some .int) ∈ wsL_law := List.mem_of_getElem? (i := 959) (by decide +kernel)
theorem mw_960 : Cond.methodLink RL 147 yX5_count ∈ wsL_law := List.mem_of_getElem? (i := 960) (by decide +kernel)
theorem mw_961 : Cond.instanceMethod yX5_count ∈ wsL_law := List.mem_of_getElem? (i := 961) (by decide +kernel)
theorem mw_962 : Cond.selects RX5 yX5_count yX5_count ∈ wsL_law := List.mem_of_getElem? (i := 962) (by decide +kernel)
theorem mw_963 : Cond.code yX5_count cX5_count 2 (some .int) ∈ wsL_law := List.mem_of_getElem? (i := 963) (by decide +kernel)
theorem mw_964 : Cond.methodLink RL 150 yX6_count ∈ wsL_law := List.mem_of_getElem? (i := 964) (by decide +kernel)
theorem mw_965 : Cond.instanceMethod yX6_count ∈ wsL_law := List.mem_of_getElem? (i := 965) (by decide +kernel)
theorem mw_966 : Cond.selects RX6 yX6_count yX6_count ∈ wsL_law := List.mem_of_getElem? (i := 966) (by decide +kernel)
theorem mw_967 : Cond.code yX6_count cX6_count 2 (some .int) ∈ wsL_law := List.mem_of_getElem? (i := 967) (by decide +kernel)
theorem mw_968 : Cond.methodLink RL 151 yX5_trace ∈ wsL_law := List.mem_of_getElem? (i := 968) (by decide +kernel)
theorem mw_969 : Cond.instanceMethod yX5_trace ∈ wsL_law := List.mem_of_getElem? (i := 969) (by decide +kernel)
theorem mw_970 : Cond.selects RX5 yX5_trace yX5_trace ∈ wsL_law := List.mem_of_getElem? (i := 970) (by decide +kernel)
theorem mw_971 : Cond.code yX5_trace cX5_trace 1 (some .long) ∈ wsL_law := List.mem_of_getElem? (i := 971) (by decide +kernel)
theorem mw_972 : Cond.methodLink RL 155 yX6_trace ∈ wsL_law := List.mem_of_getElem? (i := 972) (by decide +kernel)
theorem mw_973 : Cond.instanceMethod yX6_trace ∈ wsL_law := List.mem_of_getElem? (i := 973) (by decide +kernel)
theorem mw_974 : Cond.selects RX6 yX6_trace yX6_trace ∈ wsL_law := List.mem_of_getElem? (i := 974) (by decide +kernel)
theorem mw_975 : Cond.code yX6_trace cX6_trace 1 (some .long) ∈ wsL_law := List.mem_of_getElem? (i := 975) (by decide +kernel)
end
section
/-! THE WORLDS. SS: ints by cell and place, longs by cell and place, flags. wX: the class's 48 cells; wM: the reference's 23. -/
abbrev SS : Type := (Nat → Nat → Int32) × (Nat → Nat → Int64) × (Nat → Bool)
def sI (σ : SS) (k j : Nat) (v : Int32) : SS := (fun q => if q = k then upd (σ.1 k) j v else σ.1 q, σ.2)
def sL (σ : SS) (k j : Nat) (v : Int64) : SS := (σ.1, fun q => if q = k then vp_updL (σ.2.1 k) j v else σ.2.1 q, σ.2.2)
def sB (σ : SS) (k : Nat) (v : Bool) : SS := (σ.1, σ.2.1, fun q => if q = k then v else σ.2.2 q)
def wB (b : Bool) : Nat := cond b 34 20
def bB (b : Bool) : Nat := cond b 11 10
def FU : Nat := 5000

def wX (G : GT) (σ : SS) : va_W := [(aX G 0, .inr (5, [.ref (aX G 1), .ref (aX G 2), .ref (aX G 4), .ref (aX G 12), .ref (aX G 17), .ref (aX G 16), .ref (aX G (wB (σ.2.2 0))), .ref (aX G (wB (σ.2.2 1))), .long (σ.2.1 0 8)])),
  (aX G 1, .inl (gC G 0, 6, .inl (σ.1 1))),
  (aX G 2, .inr (2, [.ref (aX G 3), .int (σ.1 2 1), .int (σ.1 2 2), .int (σ.1 2 3), .int (σ.1 2 4), .int (σ.1 2 5)])),
  (aX G 3, .inl (gC G 0, 400, .inl (σ.1 3))),
  (aX G 4, .inr (3, [.ref (aX G 5), .ref (aX G 6), .ref (aX G 7), .ref (aX G 8), .ref (aX G 9), .ref (aX G (bB (σ.2.2 2))), .ref (aX G (bB (σ.2.2 3)))])),
  (aX G 5, .inl (gC G 0, 13, .inl (σ.1 5))),
  (aX G 6, .inl (gC G 0, 13, .inl (σ.1 6))),
  (aX G 7, .inl (gC G 0, 13, .inl (σ.1 7))),
  (aX G 8, .inl (gC G 1, 13, .inr (.inl (σ.2.1 8)))),
  (aX G 9, .inl (gC G 1, 13, .inr (.inl (σ.2.1 9)))),
  (aX G 10, .inl (gC G 1, 13, .inr (.inl (σ.2.1 10)))),
  (aX G 11, .inl (gC G 1, 13, .inr (.inl (σ.2.1 11)))),
  (aX G 12, .inr (0, [.int (σ.1 12 0), .ref (aX G 13), .ref (aX G 14), .ref (aX G 15)])),
  (aX G 13, .inl (gC G 0, 40, .inl (σ.1 13))),
  (aX G 14, .inl (gC G 0, 40, .inl (σ.1 14))),
  (aX G 15, .inl (gC G 0, 40, .inl (σ.1 15))),
  (aX G 16, .inl (gC G 4, 2, .inr (.inr (.inr (.inr (fun i => if i < 2 then some (aX G (18 + i)) else none)))))),
  (aX G 17, .inr (1, [.int (σ.1 17 0), .int (σ.1 17 1), .int (σ.1 17 2), .int (σ.1 17 3), .int (σ.1 17 4), .int (σ.1 17 5), .int (σ.1 17 6), .int (σ.1 17 7), .int (σ.1 17 8)])),
  (aX G 18, .inr (1, [.int (σ.1 18 0), .int (σ.1 18 1), .int (σ.1 18 2), .int (σ.1 18 3), .int (σ.1 18 4), .int (σ.1 18 5), .int (σ.1 18 6), .int (σ.1 18 7), .int (σ.1 18 8)])),
  (aX G 19, .inr (1, [.int (σ.1 19 0), .int (σ.1 19 1), .int (σ.1 19 2), .int (σ.1 19 3), .int (σ.1 19 4), .int (σ.1 19 5), .int (σ.1 19 6), .int (σ.1 19 7), .int (σ.1 19 8)])),
  (aX G 20, .inr (4, [.int (σ.1 20 0), .int (σ.1 20 1), .ref (aX G (21)), .ref (aX G (28)), .ref (aX G (32)), .ref (aX G (33))])),
  (aX G 21, .inl (gC G 5, 6, .inr (.inr (.inr (.inr (fun i => if i < 6 then some (aX G (22 + i)) else none)))))),
  (aX G 22, .inl (gC G 0, 12, .inl (σ.1 22))),
  (aX G 23, .inl (gC G 0, 12, .inl (σ.1 23))),
  (aX G 24, .inl (gC G 0, 12, .inl (σ.1 24))),
  (aX G 25, .inl (gC G 0, 12, .inl (σ.1 25))),
  (aX G 26, .inl (gC G 0, 12, .inl (σ.1 26))),
  (aX G 27, .inl (gC G 0, 12, .inl (σ.1 27))),
  (aX G 28, .inl (gC G 5, 3, .inr (.inr (.inr (.inr (fun i => if i < 3 then some (aX G (29 + i)) else none)))))),
  (aX G 29, .inl (gC G 0, 3, .inl (σ.1 29))),
  (aX G 30, .inl (gC G 0, 3, .inl (σ.1 30))),
  (aX G 31, .inl (gC G 0, 3, .inl (σ.1 31))),
  (aX G 32, .inl (gC G 0, 12, .inl (σ.1 32))),
  (aX G 33, .inl (gC G 0, 12, .inl (σ.1 33))),
  (aX G 34, .inr (4, [.int (σ.1 34 0), .int (σ.1 34 1), .ref (aX G (35)), .ref (aX G (42)), .ref (aX G (46)), .ref (aX G (47))])),
  (aX G 35, .inl (gC G 5, 6, .inr (.inr (.inr (.inr (fun i => if i < 6 then some (aX G (36 + i)) else none)))))),
  (aX G 36, .inl (gC G 0, 12, .inl (σ.1 36))),
  (aX G 37, .inl (gC G 0, 12, .inl (σ.1 37))),
  (aX G 38, .inl (gC G 0, 12, .inl (σ.1 38))),
  (aX G 39, .inl (gC G 0, 12, .inl (σ.1 39))),
  (aX G 40, .inl (gC G 0, 12, .inl (σ.1 40))),
  (aX G 41, .inl (gC G 0, 12, .inl (σ.1 41))),
  (aX G 42, .inl (gC G 5, 3, .inr (.inr (.inr (.inr (fun i => if i < 3 then some (aX G (43 + i)) else none)))))),
  (aX G 43, .inl (gC G 0, 3, .inl (σ.1 43))),
  (aX G 44, .inl (gC G 0, 3, .inl (σ.1 44))),
  (aX G 45, .inl (gC G 0, 3, .inl (σ.1 45))),
  (aX G 46, .inl (gC G 0, 12, .inl (σ.1 46))),
  (aX G 47, .inl (gC G 0, 12, .inl (σ.1 47)))]
def wM (G : GT) (σ : SS) : va_W := [(aM G 0, .inr (6, [.long (σ.2.1 0 0), .ref (aM G 1), .int (σ.1 0 2), .ref (aM G 2), .ref (aM G 3), .ref (aM G 4), .ref (aM G 5), .ref (aM G 6), .int (σ.1 0 8), .int (σ.1 0 9), .int (σ.1 0 10), .int (σ.1 0 11), .int (σ.1 0 12), .ref (aM G 7), .int (σ.1 0 14), .int (σ.1 0 15), .int (σ.1 0 16), .int (σ.1 0 17), .ref (aM G 8), .ref (aM G 9), .ref (aM G 10), .ref (aM G 11), .ref (aM G 12), .int (σ.1 0 23), .int (σ.1 0 24), .ref (aM G 13), .ref (aM G 14), .ref (aM G 15), .ref (aM G 16), .ref (aM G 17), .ref (aM G 18), .ref (aM G 19), .ref (aM G 20), .ref (aM G 21), .ref (aM G 22), .ref (aM G 23)])),
  (aM G 1, .inl (gC G 2, 400, .inl (σ.1 1))),
  (aM G 2, .inl (gC G 0, 2, .inl (σ.1 2))),
  (aM G 3, .inl (gC G 0, 144, .inl (σ.1 3))),
  (aM G 4, .inl (gC G 0, 2, .inl (σ.1 4))),
  (aM G 5, .inl (gC G 0, 18, .inl (σ.1 5))),
  (aM G 6, .inl (gC G 0, 6, .inl (σ.1 6))),
  (aM G 7, .inl (gC G 0, 3, .inl (σ.1 7))),
  (aM G 8, .inl (gC G 1, 13, .inr (.inl (σ.2.1 8)))),
  (aM G 9, .inl (gC G 0, 13, .inl (σ.1 9))),
  (aM G 10, .inl (gC G 1, 13, .inr (.inl (σ.2.1 10)))),
  (aM G 11, .inl (gC G 1, 13, .inr (.inl (σ.2.1 11)))),
  (aM G 12, .inl (gC G 1, 13, .inr (.inl (σ.2.1 12)))),
  (aM G 13, .inl (gC G 0, 40, .inl (σ.1 13))),
  (aM G 14, .inl (gC G 0, 40, .inl (σ.1 14))),
  (aM G 15, .inl (gC G 0, 40, .inl (σ.1 15))),
  (aM G 16, .inl (gC G 0, 3, .inl (σ.1 16))),
  (aM G 17, .inl (gC G 0, 3, .inl (σ.1 17))),
  (aM G 18, .inl (gC G 0, 3, .inl (σ.1 18))),
  (aM G 19, .inl (gC G 0, 3, .inl (σ.1 19))),
  (aM G 20, .inl (gC G 0, 3, .inl (σ.1 20))),
  (aM G 21, .inl (gC G 0, 3, .inl (σ.1 21))),
  (aM G 22, .inl (gC G 0, 3, .inl (σ.1 22))),
  (aM G 23, .inl (gC G 3, 2, .inl (σ.1 23)))]
section WROWS
variable {G : GT} {K : KT} {cc : ByteArray} {own : String} {nl fr lo : Nat} {pc : Nat} {lv lv' : List (Nat × Value)} {rest st : List Value} {F : Prop} {σ : SS}
theorem ox_5 : (wX G σ)[0]? = some (aX G 0, .inr (5, [.ref (aX G 1), .ref (aX G 2), .ref (aX G 4), .ref (aX G 12), .ref (aX G 17), .ref (aX G 16), .ref (aX G (wB (σ.2.2 0))), .ref (aX G (wB (σ.2.2 1))), .long (σ.2.1 0 8)])) := rfl
theorem ox_2 : (wX G σ)[2]? = some (aX G 2, .inr (2, [.ref (aX G 3), .int (σ.1 2 1), .int (σ.1 2 2), .int (σ.1 2 3), .int (σ.1 2 4), .int (σ.1 2 5)])) := rfl
theorem ox_3 : (wX G σ)[4]? = some (aX G 4, .inr (3, [.ref (aX G 5), .ref (aX G 6), .ref (aX G 7), .ref (aX G 8), .ref (aX G 9), .ref (aX G (bB (σ.2.2 2))), .ref (aX G (bB (σ.2.2 3)))])) := rfl
theorem ox_0 : (wX G σ)[12]? = some (aX G 12, .inr (0, [.int (σ.1 12 0), .ref (aX G 13), .ref (aX G 14), .ref (aX G 15)])) := rfl
theorem ox_1 (m : Nat) (hm : m < 3) : (wX G σ)[17 + m]? = some (aX G (17 + m), .inr (1, [.int (σ.1 (17 + m) 0), .int (σ.1 (17 + m) 1), .int (σ.1 (17 + m) 2), .int (σ.1 (17 + m) 3), .int (σ.1 (17 + m) 4), .int (σ.1 (17 + m) 5), .int (σ.1 (17 + m) 6), .int (σ.1 (17 + m) 7), .int (σ.1 (17 + m) 8)])) := by
  match m, hm with
  | 0, _ => rfl
  | 1, _ => rfl
  | 2, _ => rfl
theorem ox_4 (b : Bool) : (wX G σ)[wB b]? = some (aX G (wB b), .inr (4, [.int (σ.1 (wB b) 0), .int (σ.1 (wB b) 1), .ref (aX G ((wB b) + 1)), .ref (aX G ((wB b) + 8)), .ref (aX G ((wB b) + 12)), .ref (aX G ((wB b) + 13))])) := by cases b <;> rfl
theorem om_6 : (wM G σ)[0]? = some (aM G 0, .inr (6, [.long (σ.2.1 0 0), .ref (aM G 1), .int (σ.1 0 2), .ref (aM G 2), .ref (aM G 3), .ref (aM G 4), .ref (aM G 5), .ref (aM G 6), .int (σ.1 0 8), .int (σ.1 0 9), .int (σ.1 0 10), .int (σ.1 0 11), .int (σ.1 0 12), .ref (aM G 7), .int (σ.1 0 14), .int (σ.1 0 15), .int (σ.1 0 16), .int (σ.1 0 17), .ref (aM G 8), .ref (aM G 9), .ref (aM G 10), .ref (aM G 11), .ref (aM G 12), .int (σ.1 0 23), .int (σ.1 0 24), .ref (aM G 13), .ref (aM G 14), .ref (aM G 15), .ref (aM G 16), .ref (aM G 17), .ref (aM G 18), .ref (aM G 19), .ref (aM G 20), .ref (aM G 21), .ref (aM G 22), .ref (aM G 23)])) := rfl
theorem rc_5 : ∃ (q0 ci : Nat) (fs : List Value) (T : u_T) (N : Nat), vwCl[ci]? = some (RX5, T, N) ∧ (wX G σ)[q0]? = some (aX G (0), .inr (ci, fs)) := ⟨0, 5, _, TX5, 9, rfl, ox_5⟩
theorem rc_2 : ∃ (q0 ci : Nat) (fs : List Value) (T : u_T) (N : Nat), vwCl[ci]? = some (RX2, T, N) ∧ (wX G σ)[q0]? = some (aX G (2), .inr (ci, fs)) := ⟨2, 2, _, TX2, 6, rfl, ox_2⟩
theorem rc_3 : ∃ (q0 ci : Nat) (fs : List Value) (T : u_T) (N : Nat), vwCl[ci]? = some (RX3, T, N) ∧ (wX G σ)[q0]? = some (aX G (4), .inr (ci, fs)) := ⟨4, 3, _, TX3, 7, rfl, ox_3⟩
theorem rc_0 : ∃ (q0 ci : Nat) (fs : List Value) (T : u_T) (N : Nat), vwCl[ci]? = some (RX0, T, N) ∧ (wX G σ)[q0]? = some (aX G (12), .inr (ci, fs)) := ⟨12, 0, _, TX0, 4, rfl, ox_0⟩
theorem rc_1 (m : Nat) (hm : m < 3) : ∃ (q0 ci : Nat) (fs : List Value) (T : u_T) (N : Nat), vwCl[ci]? = some (RX1, T, N) ∧ (wX G σ)[q0]? = some (aX G (17 + m), .inr (ci, fs)) := ⟨17 + m, 1, _, TX1, 9, rfl, ox_1 m hm⟩
theorem rc_4 (b : Bool) : ∃ (q0 ci : Nat) (fs : List Value) (T : u_T) (N : Nat), vwCl[ci]? = some (RX4, T, N) ∧ (wX G σ)[q0]? = some (aX G (wB b), .inr (ci, fs)) := ⟨wB b, 4, _, TX4, 6, rfl, ox_4 b⟩
theorem rc_6 : ∃ (q0 ci : Nat) (fs : List Value) (T : u_T) (N : Nat), vwCl[ci]? = some (RX6, T, N) ∧ (wM G σ)[q0]? = some (aM G 0, .inr (ci, fs)) := ⟨0, 6, _, TX6, 36, rfl, om_6⟩
theorem g0_entries (C : Ctx G K cc own nl fr lo) {index : Nat} (hq : Cond.fieldLink own index "TreeClimb$Diary" "entries" "I" ∈ wsL_law) (hd : decode cc pc = .ok (.getfield index, 3)) (k : F → V G K (wX G σ) (pc + 3) lv (.int (σ.1 12 0) :: rest)) : F → V G K (wX G σ) pc lv (.ref (aX G 12) :: rest) := v_get C _ (ox_0) rfl inlX0 0 (Nat.le_of_ble_eq_true rfl) rfl hq rfl hd k
theorem e0_entries (v : Int32) : (wX G σ).set (12) (aX G 12, .inr (0, [.int (σ.1 12 0), .ref (aX G 13), .ref (aX G 14), .ref (aX G 15)].set 0 (.int v))) = wX G (sI σ 12 0 v) := rfl
theorem p0_entries (C : Ctx G K cc own nl fr lo) {index : Nat} {v : Int32} (hq : Cond.fieldLink own index "TreeClimb$Diary" "entries" "I" ∈ wsL_law) (hd : decode cc pc = .ok (.putfield index, 3)) (k : F → V G K (wX G (sI σ 12 0 v)) (pc + 3) lv rest) : F → V G K (wX G σ) pc lv (.int v :: .ref (aX G 12) :: rest) := v_put C _ (ox_0) rfl inlX0 tyX0 tyX0_ok nmX0 0 (Nat.le_of_ble_eq_true rfl) rfl hq rfl rfl rfl (Nat.le_of_ble_eq_true rfl) (e0_entries v) hd k
theorem g0_bodies (C : Ctx G K cc own nl fr lo) {index : Nat} (hq : Cond.fieldLink own index "TreeClimb$Diary" "bodies" "[I" ∈ wsL_law) (hd : decode cc pc = .ok (.getfield index, 3)) (k : F → V G K (wX G σ) (pc + 3) lv (.ref (aX G 13) :: rest)) : F → V G K (wX G σ) pc lv (.ref (aX G 12) :: rest) := v_get C _ (ox_0) rfl inlX0 1 (Nat.le_of_ble_eq_true rfl) rfl hq rfl hd k
theorem g0_lookers (C : Ctx G K cc own nl fr lo) {index : Nat} (hq : Cond.fieldLink own index "TreeClimb$Diary" "lookers" "[I" ∈ wsL_law) (hd : decode cc pc = .ok (.getfield index, 3)) (k : F → V G K (wX G σ) (pc + 3) lv (.ref (aX G 14) :: rest)) : F → V G K (wX G σ) pc lv (.ref (aX G 12) :: rest) := v_get C _ (ox_0) rfl inlX0 2 (Nat.le_of_ble_eq_true rfl) rfl hq rfl hd k
theorem g0_tops (C : Ctx G K cc own nl fr lo) {index : Nat} (hq : Cond.fieldLink own index "TreeClimb$Diary" "tops" "[I" ∈ wsL_law) (hd : decode cc pc = .ok (.getfield index, 3)) (k : F → V G K (wX G σ) (pc + 3) lv (.ref (aX G 15) :: rest)) : F → V G K (wX G σ) pc lv (.ref (aX G 12) :: rest) := v_get C _ (ox_0) rfl inlX0 3 (Nat.le_of_ble_eq_true rfl) rfl hq rfl hd k
theorem g1_who (m : Nat) (hm : m < 3) (C : Ctx G K cc own nl fr lo) {index : Nat} (hq : Cond.fieldLink own index "TreeClimb$Moment" "who" "I" ∈ wsL_law) (hd : decode cc pc = .ok (.getfield index, 3)) (k : F → V G K (wX G σ) (pc + 3) lv (.int (σ.1 (17 + m) 0) :: rest)) : F → V G K (wX G σ) pc lv (.ref (aX G (17 + m)) :: rest) := v_get C _ (ox_1 m hm) rfl inlX1 0 (Nat.le_of_ble_eq_true rfl) rfl hq rfl hd k
theorem e1_who (m : Nat) (hm : m < 3) (v : Int32) : (wX G σ).set ((17 + m)) (aX G (17 + m), .inr (1, [.int (σ.1 (17 + m) 0), .int (σ.1 (17 + m) 1), .int (σ.1 (17 + m) 2), .int (σ.1 (17 + m) 3), .int (σ.1 (17 + m) 4), .int (σ.1 (17 + m) 5), .int (σ.1 (17 + m) 6), .int (σ.1 (17 + m) 7), .int (σ.1 (17 + m) 8)].set 0 (.int v))) = wX G (sI σ (17 + m) 0 v) := by
  match m, hm with
  | 0, _ => rfl
  | 1, _ => rfl
  | 2, _ => rfl
theorem p1_who (m : Nat) (hm : m < 3) (C : Ctx G K cc own nl fr lo) {index : Nat} {v : Int32} (hq : Cond.fieldLink own index "TreeClimb$Moment" "who" "I" ∈ wsL_law) (hd : decode cc pc = .ok (.putfield index, 3)) (k : F → V G K (wX G (sI σ (17 + m) 0 v)) (pc + 3) lv rest) : F → V G K (wX G σ) pc lv (.int v :: .ref (aX G (17 + m)) :: rest) := v_put C _ (ox_1 m hm) rfl inlX1 tyX1 tyX1_ok nmX1 0 (Nat.le_of_ble_eq_true rfl) rfl hq rfl rfl rfl (Nat.le_of_ble_eq_true rfl) (e1_who m hm v) hd k
theorem g1_where (m : Nat) (hm : m < 3) (C : Ctx G K cc own nl fr lo) {index : Nat} (hq : Cond.fieldLink own index "TreeClimb$Moment" "where" "I" ∈ wsL_law) (hd : decode cc pc = .ok (.getfield index, 3)) (k : F → V G K (wX G σ) (pc + 3) lv (.int (σ.1 (17 + m) 1) :: rest)) : F → V G K (wX G σ) pc lv (.ref (aX G (17 + m)) :: rest) := v_get C _ (ox_1 m hm) rfl inlX1 1 (Nat.le_of_ble_eq_true rfl) rfl hq rfl hd k
theorem e1_where (m : Nat) (hm : m < 3) (v : Int32) : (wX G σ).set ((17 + m)) (aX G (17 + m), .inr (1, [.int (σ.1 (17 + m) 0), .int (σ.1 (17 + m) 1), .int (σ.1 (17 + m) 2), .int (σ.1 (17 + m) 3), .int (σ.1 (17 + m) 4), .int (σ.1 (17 + m) 5), .int (σ.1 (17 + m) 6), .int (σ.1 (17 + m) 7), .int (σ.1 (17 + m) 8)].set 1 (.int v))) = wX G (sI σ (17 + m) 1 v) := by
  match m, hm with
  | 0, _ => rfl
  | 1, _ => rfl
  | 2, _ => rfl
theorem p1_where (m : Nat) (hm : m < 3) (C : Ctx G K cc own nl fr lo) {index : Nat} {v : Int32} (hq : Cond.fieldLink own index "TreeClimb$Moment" "where" "I" ∈ wsL_law) (hd : decode cc pc = .ok (.putfield index, 3)) (k : F → V G K (wX G (sI σ (17 + m) 1 v)) (pc + 3) lv rest) : F → V G K (wX G σ) pc lv (.int v :: .ref (aX G (17 + m)) :: rest) := v_put C _ (ox_1 m hm) rfl inlX1 tyX1 tyX1_ok nmX1 1 (Nat.le_of_ble_eq_true rfl) rfl hq rfl rfl rfl (Nat.le_of_ble_eq_true rfl) (e1_where m hm v) hd k
theorem g1_hurt (m : Nat) (hm : m < 3) (C : Ctx G K cc own nl fr lo) {index : Nat} (hq : Cond.fieldLink own index "TreeClimb$Moment" "hurt" "I" ∈ wsL_law) (hd : decode cc pc = .ok (.getfield index, 3)) (k : F → V G K (wX G σ) (pc + 3) lv (.int (σ.1 (17 + m) 2) :: rest)) : F → V G K (wX G σ) pc lv (.ref (aX G (17 + m)) :: rest) := v_get C _ (ox_1 m hm) rfl inlX1 2 (Nat.le_of_ble_eq_true rfl) rfl hq rfl hd k
theorem e1_hurt (m : Nat) (hm : m < 3) (v : Int32) : (wX G σ).set ((17 + m)) (aX G (17 + m), .inr (1, [.int (σ.1 (17 + m) 0), .int (σ.1 (17 + m) 1), .int (σ.1 (17 + m) 2), .int (σ.1 (17 + m) 3), .int (σ.1 (17 + m) 4), .int (σ.1 (17 + m) 5), .int (σ.1 (17 + m) 6), .int (σ.1 (17 + m) 7), .int (σ.1 (17 + m) 8)].set 2 (.int v))) = wX G (sI σ (17 + m) 2 v) := by
  match m, hm with
  | 0, _ => rfl
  | 1, _ => rfl
  | 2, _ => rfl
theorem p1_hurt (m : Nat) (hm : m < 3) (C : Ctx G K cc own nl fr lo) {index : Nat} {v : Int32} (hq : Cond.fieldLink own index "TreeClimb$Moment" "hurt" "I" ∈ wsL_law) (hd : decode cc pc = .ok (.putfield index, 3)) (k : F → V G K (wX G (sI σ (17 + m) 2 v)) (pc + 3) lv rest) : F → V G K (wX G σ) pc lv (.int v :: .ref (aX G (17 + m)) :: rest) := v_put C _ (ox_1 m hm) rfl inlX1 tyX1 tyX1_ok nmX1 2 (Nat.le_of_ble_eq_true rfl) rfl hq rfl rfl rfl (Nat.le_of_ble_eq_true rfl) (e1_hurt m hm v) hd k
theorem g1_top (m : Nat) (hm : m < 3) (C : Ctx G K cc own nl fr lo) {index : Nat} (hq : Cond.fieldLink own index "TreeClimb$Moment" "top" "I" ∈ wsL_law) (hd : decode cc pc = .ok (.getfield index, 3)) (k : F → V G K (wX G σ) (pc + 3) lv (.int (σ.1 (17 + m) 3) :: rest)) : F → V G K (wX G σ) pc lv (.ref (aX G (17 + m)) :: rest) := v_get C _ (ox_1 m hm) rfl inlX1 3 (Nat.le_of_ble_eq_true rfl) rfl hq rfl hd k
theorem e1_top (m : Nat) (hm : m < 3) (v : Int32) : (wX G σ).set ((17 + m)) (aX G (17 + m), .inr (1, [.int (σ.1 (17 + m) 0), .int (σ.1 (17 + m) 1), .int (σ.1 (17 + m) 2), .int (σ.1 (17 + m) 3), .int (σ.1 (17 + m) 4), .int (σ.1 (17 + m) 5), .int (σ.1 (17 + m) 6), .int (σ.1 (17 + m) 7), .int (σ.1 (17 + m) 8)].set 3 (.int v))) = wX G (sI σ (17 + m) 3 v) := by
  match m, hm with
  | 0, _ => rfl
  | 1, _ => rfl
  | 2, _ => rfl
theorem p1_top (m : Nat) (hm : m < 3) (C : Ctx G K cc own nl fr lo) {index : Nat} {v : Int32} (hq : Cond.fieldLink own index "TreeClimb$Moment" "top" "I" ∈ wsL_law) (hd : decode cc pc = .ok (.putfield index, 3)) (k : F → V G K (wX G (sI σ (17 + m) 3 v)) (pc + 3) lv rest) : F → V G K (wX G σ) pc lv (.int v :: .ref (aX G (17 + m)) :: rest) := v_put C _ (ox_1 m hm) rfl inlX1 tyX1 tyX1_ok nmX1 3 (Nat.le_of_ble_eq_true rfl) rfl hq rfl rfl rfl (Nat.le_of_ble_eq_true rfl) (e1_top m hm v) hd k
theorem g1_steps (m : Nat) (hm : m < 3) (C : Ctx G K cc own nl fr lo) {index : Nat} (hq : Cond.fieldLink own index "TreeClimb$Moment" "steps" "I" ∈ wsL_law) (hd : decode cc pc = .ok (.getfield index, 3)) (k : F → V G K (wX G σ) (pc + 3) lv (.int (σ.1 (17 + m) 4) :: rest)) : F → V G K (wX G σ) pc lv (.ref (aX G (17 + m)) :: rest) := v_get C _ (ox_1 m hm) rfl inlX1 4 (Nat.le_of_ble_eq_true rfl) rfl hq rfl hd k
theorem e1_steps (m : Nat) (hm : m < 3) (v : Int32) : (wX G σ).set ((17 + m)) (aX G (17 + m), .inr (1, [.int (σ.1 (17 + m) 0), .int (σ.1 (17 + m) 1), .int (σ.1 (17 + m) 2), .int (σ.1 (17 + m) 3), .int (σ.1 (17 + m) 4), .int (σ.1 (17 + m) 5), .int (σ.1 (17 + m) 6), .int (σ.1 (17 + m) 7), .int (σ.1 (17 + m) 8)].set 4 (.int v))) = wX G (sI σ (17 + m) 4 v) := by
  match m, hm with
  | 0, _ => rfl
  | 1, _ => rfl
  | 2, _ => rfl
theorem p1_steps (m : Nat) (hm : m < 3) (C : Ctx G K cc own nl fr lo) {index : Nat} {v : Int32} (hq : Cond.fieldLink own index "TreeClimb$Moment" "steps" "I" ∈ wsL_law) (hd : decode cc pc = .ok (.putfield index, 3)) (k : F → V G K (wX G (sI σ (17 + m) 4 v)) (pc + 3) lv rest) : F → V G K (wX G σ) pc lv (.int v :: .ref (aX G (17 + m)) :: rest) := v_put C _ (ox_1 m hm) rfl inlX1 tyX1 tyX1_ok nmX1 4 (Nat.le_of_ble_eq_true rfl) rfl hq rfl rfl rfl (Nat.le_of_ble_eq_true rfl) (e1_steps m hm v) hd k
theorem g1_falls (m : Nat) (hm : m < 3) (C : Ctx G K cc own nl fr lo) {index : Nat} (hq : Cond.fieldLink own index "TreeClimb$Moment" "falls" "I" ∈ wsL_law) (hd : decode cc pc = .ok (.getfield index, 3)) (k : F → V G K (wX G σ) (pc + 3) lv (.int (σ.1 (17 + m) 5) :: rest)) : F → V G K (wX G σ) pc lv (.ref (aX G (17 + m)) :: rest) := v_get C _ (ox_1 m hm) rfl inlX1 5 (Nat.le_of_ble_eq_true rfl) rfl hq rfl hd k
theorem e1_falls (m : Nat) (hm : m < 3) (v : Int32) : (wX G σ).set ((17 + m)) (aX G (17 + m), .inr (1, [.int (σ.1 (17 + m) 0), .int (σ.1 (17 + m) 1), .int (σ.1 (17 + m) 2), .int (σ.1 (17 + m) 3), .int (σ.1 (17 + m) 4), .int (σ.1 (17 + m) 5), .int (σ.1 (17 + m) 6), .int (σ.1 (17 + m) 7), .int (σ.1 (17 + m) 8)].set 5 (.int v))) = wX G (sI σ (17 + m) 5 v) := by
  match m, hm with
  | 0, _ => rfl
  | 1, _ => rfl
  | 2, _ => rfl
theorem p1_falls (m : Nat) (hm : m < 3) (C : Ctx G K cc own nl fr lo) {index : Nat} {v : Int32} (hq : Cond.fieldLink own index "TreeClimb$Moment" "falls" "I" ∈ wsL_law) (hd : decode cc pc = .ok (.putfield index, 3)) (k : F → V G K (wX G (sI σ (17 + m) 5 v)) (pc + 3) lv rest) : F → V G K (wX G σ) pc lv (.int v :: .ref (aX G (17 + m)) :: rest) := v_put C _ (ox_1 m hm) rfl inlX1 tyX1 tyX1_ok nmX1 5 (Nat.le_of_ble_eq_true rfl) rfl hq rfl rfl rfl (Nat.le_of_ble_eq_true rfl) (e1_falls m hm v) hd k
theorem g1_lot (m : Nat) (hm : m < 3) (C : Ctx G K cc own nl fr lo) {index : Nat} (hq : Cond.fieldLink own index "TreeClimb$Moment" "lot" "I" ∈ wsL_law) (hd : decode cc pc = .ok (.getfield index, 3)) (k : F → V G K (wX G σ) (pc + 3) lv (.int (σ.1 (17 + m) 6) :: rest)) : F → V G K (wX G σ) pc lv (.ref (aX G (17 + m)) :: rest) := v_get C _ (ox_1 m hm) rfl inlX1 6 (Nat.le_of_ble_eq_true rfl) rfl hq rfl hd k
theorem e1_lot (m : Nat) (hm : m < 3) (v : Int32) : (wX G σ).set ((17 + m)) (aX G (17 + m), .inr (1, [.int (σ.1 (17 + m) 0), .int (σ.1 (17 + m) 1), .int (σ.1 (17 + m) 2), .int (σ.1 (17 + m) 3), .int (σ.1 (17 + m) 4), .int (σ.1 (17 + m) 5), .int (σ.1 (17 + m) 6), .int (σ.1 (17 + m) 7), .int (σ.1 (17 + m) 8)].set 6 (.int v))) = wX G (sI σ (17 + m) 6 v) := by
  match m, hm with
  | 0, _ => rfl
  | 1, _ => rfl
  | 2, _ => rfl
theorem p1_lot (m : Nat) (hm : m < 3) (C : Ctx G K cc own nl fr lo) {index : Nat} {v : Int32} (hq : Cond.fieldLink own index "TreeClimb$Moment" "lot" "I" ∈ wsL_law) (hd : decode cc pc = .ok (.putfield index, 3)) (k : F → V G K (wX G (sI σ (17 + m) 6 v)) (pc + 3) lv rest) : F → V G K (wX G σ) pc lv (.int v :: .ref (aX G (17 + m)) :: rest) := v_put C _ (ox_1 m hm) rfl inlX1 tyX1 tyX1_ok nmX1 6 (Nat.le_of_ble_eq_true rfl) rfl hq rfl rfl rfl (Nat.le_of_ble_eq_true rfl) (e1_lot m hm v) hd k
theorem g1_sawn (m : Nat) (hm : m < 3) (C : Ctx G K cc own nl fr lo) {index : Nat} (hq : Cond.fieldLink own index "TreeClimb$Moment" "sawn" "I" ∈ wsL_law) (hd : decode cc pc = .ok (.getfield index, 3)) (k : F → V G K (wX G σ) (pc + 3) lv (.int (σ.1 (17 + m) 7) :: rest)) : F → V G K (wX G σ) pc lv (.ref (aX G (17 + m)) :: rest) := v_get C _ (ox_1 m hm) rfl inlX1 7 (Nat.le_of_ble_eq_true rfl) rfl hq rfl hd k
theorem e1_sawn (m : Nat) (hm : m < 3) (v : Int32) : (wX G σ).set ((17 + m)) (aX G (17 + m), .inr (1, [.int (σ.1 (17 + m) 0), .int (σ.1 (17 + m) 1), .int (σ.1 (17 + m) 2), .int (σ.1 (17 + m) 3), .int (σ.1 (17 + m) 4), .int (σ.1 (17 + m) 5), .int (σ.1 (17 + m) 6), .int (σ.1 (17 + m) 7), .int (σ.1 (17 + m) 8)].set 7 (.int v))) = wX G (sI σ (17 + m) 7 v) := by
  match m, hm with
  | 0, _ => rfl
  | 1, _ => rfl
  | 2, _ => rfl
theorem p1_sawn (m : Nat) (hm : m < 3) (C : Ctx G K cc own nl fr lo) {index : Nat} {v : Int32} (hq : Cond.fieldLink own index "TreeClimb$Moment" "sawn" "I" ∈ wsL_law) (hd : decode cc pc = .ok (.putfield index, 3)) (k : F → V G K (wX G (sI σ (17 + m) 7 v)) (pc + 3) lv rest) : F → V G K (wX G σ) pc lv (.int v :: .ref (aX G (17 + m)) :: rest) := v_put C _ (ox_1 m hm) rfl inlX1 tyX1 tyX1_ok nmX1 7 (Nat.le_of_ble_eq_true rfl) rfl hq rfl rfl rfl (Nat.le_of_ble_eq_true rfl) (e1_sawn m hm v) hd k
theorem g1_kept (m : Nat) (hm : m < 3) (C : Ctx G K cc own nl fr lo) {index : Nat} (hq : Cond.fieldLink own index "TreeClimb$Moment" "kept" "Z" ∈ wsL_law) (hd : decode cc pc = .ok (.getfield index, 3)) (k : F → V G K (wX G σ) (pc + 3) lv (.int (σ.1 (17 + m) 8) :: rest)) : F → V G K (wX G σ) pc lv (.ref (aX G (17 + m)) :: rest) := v_get C _ (ox_1 m hm) rfl inlX1 8 (Nat.le_of_ble_eq_true rfl) rfl hq rfl hd k
theorem e1_kept (m : Nat) (hm : m < 3) (v : Int32) : (wX G σ).set ((17 + m)) (aX G (17 + m), .inr (1, [.int (σ.1 (17 + m) 0), .int (σ.1 (17 + m) 1), .int (σ.1 (17 + m) 2), .int (σ.1 (17 + m) 3), .int (σ.1 (17 + m) 4), .int (σ.1 (17 + m) 5), .int (σ.1 (17 + m) 6), .int (σ.1 (17 + m) 7), .int (σ.1 (17 + m) 8)].set 8 (.int v))) = wX G (sI σ (17 + m) 8 v) := by
  match m, hm with
  | 0, _ => rfl
  | 1, _ => rfl
  | 2, _ => rfl
theorem p1_kept (m : Nat) (hm : m < 3) (C : Ctx G K cc own nl fr lo) {index : Nat} {v : Int32} (hz : v = 0 ∨ v = 1) (hq : Cond.fieldLink own index "TreeClimb$Moment" "kept" "Z" ∈ wsL_law) (hd : decode cc pc = .ok (.putfield index, 3)) (k : F → V G K (wX G (sI σ (17 + m) 8 v)) (pc + 3) lv rest) : F → V G K (wX G σ) pc lv (.int v :: .ref (aX G (17 + m)) :: rest) := v_put C _ (ox_1 m hm) rfl inlX1 tyX1 tyX1_ok nmX1 8 (Nat.le_of_ble_eq_true rfl) rfl hq rfl (by rcases hz with h | h <;> subst h <;> rfl) (by rcases hz with h | h <;> subst h <;> rfl) (Nat.le_of_ble_eq_true rfl) (e1_kept m hm v) hd k
theorem g2_bytes (C : Ctx G K cc own nl fr lo) {index : Nat} (hq : Cond.fieldLink own index "TreeClimb$Text" "bytes" "[I" ∈ wsL_law) (hd : decode cc pc = .ok (.getfield index, 3)) (k : F → V G K (wX G σ) (pc + 3) lv (.ref (aX G 3) :: rest)) : F → V G K (wX G σ) pc lv (.ref (aX G 2) :: rest) := v_get C _ (ox_2) rfl inlX2 0 (Nat.le_of_ble_eq_true rfl) rfl hq rfl hd k
theorem g2_length (C : Ctx G K cc own nl fr lo) {index : Nat} (hq : Cond.fieldLink own index "TreeClimb$Text" "length" "I" ∈ wsL_law) (hd : decode cc pc = .ok (.getfield index, 3)) (k : F → V G K (wX G σ) (pc + 3) lv (.int (σ.1 2 1) :: rest)) : F → V G K (wX G σ) pc lv (.ref (aX G 2) :: rest) := v_get C _ (ox_2) rfl inlX2 1 (Nat.le_of_ble_eq_true rfl) rfl hq rfl hd k
theorem e2_length (v : Int32) : (wX G σ).set (2) (aX G 2, .inr (2, [.ref (aX G 3), .int (σ.1 2 1), .int (σ.1 2 2), .int (σ.1 2 3), .int (σ.1 2 4), .int (σ.1 2 5)].set 1 (.int v))) = wX G (sI σ 2 1 v) := rfl
theorem p2_length (C : Ctx G K cc own nl fr lo) {index : Nat} {v : Int32} (hq : Cond.fieldLink own index "TreeClimb$Text" "length" "I" ∈ wsL_law) (hd : decode cc pc = .ok (.putfield index, 3)) (k : F → V G K (wX G (sI σ 2 1 v)) (pc + 3) lv rest) : F → V G K (wX G σ) pc lv (.int v :: .ref (aX G 2) :: rest) := v_put C _ (ox_2) rfl inlX2 tyX2 tyX2_ok nmX2 1 (Nat.le_of_ble_eq_true rfl) rfl hq rfl rfl rfl (Nat.le_of_ble_eq_true rfl) (e2_length v) hd k
theorem g2_at (C : Ctx G K cc own nl fr lo) {index : Nat} (hq : Cond.fieldLink own index "TreeClimb$Text" "at" "I" ∈ wsL_law) (hd : decode cc pc = .ok (.getfield index, 3)) (k : F → V G K (wX G σ) (pc + 3) lv (.int (σ.1 2 2) :: rest)) : F → V G K (wX G σ) pc lv (.ref (aX G 2) :: rest) := v_get C _ (ox_2) rfl inlX2 2 (Nat.le_of_ble_eq_true rfl) rfl hq rfl hd k
theorem e2_at (v : Int32) : (wX G σ).set (2) (aX G 2, .inr (2, [.ref (aX G 3), .int (σ.1 2 1), .int (σ.1 2 2), .int (σ.1 2 3), .int (σ.1 2 4), .int (σ.1 2 5)].set 2 (.int v))) = wX G (sI σ 2 2 v) := rfl
theorem p2_at (C : Ctx G K cc own nl fr lo) {index : Nat} {v : Int32} (hq : Cond.fieldLink own index "TreeClimb$Text" "at" "I" ∈ wsL_law) (hd : decode cc pc = .ok (.putfield index, 3)) (k : F → V G K (wX G (sI σ 2 2 v)) (pc + 3) lv rest) : F → V G K (wX G σ) pc lv (.int v :: .ref (aX G 2) :: rest) := v_put C _ (ox_2) rfl inlX2 tyX2 tyX2_ok nmX2 2 (Nat.le_of_ble_eq_true rfl) rfl hq rfl rfl rfl (Nat.le_of_ble_eq_true rfl) (e2_at v) hd k
theorem g2_start (C : Ctx G K cc own nl fr lo) {index : Nat} (hq : Cond.fieldLink own index "TreeClimb$Text" "start" "I" ∈ wsL_law) (hd : decode cc pc = .ok (.getfield index, 3)) (k : F → V G K (wX G σ) (pc + 3) lv (.int (σ.1 2 3) :: rest)) : F → V G K (wX G σ) pc lv (.ref (aX G 2) :: rest) := v_get C _ (ox_2) rfl inlX2 3 (Nat.le_of_ble_eq_true rfl) rfl hq rfl hd k
theorem e2_start (v : Int32) : (wX G σ).set (2) (aX G 2, .inr (2, [.ref (aX G 3), .int (σ.1 2 1), .int (σ.1 2 2), .int (σ.1 2 3), .int (σ.1 2 4), .int (σ.1 2 5)].set 3 (.int v))) = wX G (sI σ 2 3 v) := rfl
theorem p2_start (C : Ctx G K cc own nl fr lo) {index : Nat} {v : Int32} (hq : Cond.fieldLink own index "TreeClimb$Text" "start" "I" ∈ wsL_law) (hd : decode cc pc = .ok (.putfield index, 3)) (k : F → V G K (wX G (sI σ 2 3 v)) (pc + 3) lv rest) : F → V G K (wX G σ) pc lv (.int v :: .ref (aX G 2) :: rest) := v_put C _ (ox_2) rfl inlX2 tyX2 tyX2_ok nmX2 3 (Nat.le_of_ble_eq_true rfl) rfl hq rfl rfl rfl (Nat.le_of_ble_eq_true rfl) (e2_start v) hd k
theorem g2_token (C : Ctx G K cc own nl fr lo) {index : Nat} (hq : Cond.fieldLink own index "TreeClimb$Text" "token" "I" ∈ wsL_law) (hd : decode cc pc = .ok (.getfield index, 3)) (k : F → V G K (wX G σ) (pc + 3) lv (.int (σ.1 2 4) :: rest)) : F → V G K (wX G σ) pc lv (.ref (aX G 2) :: rest) := v_get C _ (ox_2) rfl inlX2 4 (Nat.le_of_ble_eq_true rfl) rfl hq rfl hd k
theorem e2_token (v : Int32) : (wX G σ).set (2) (aX G 2, .inr (2, [.ref (aX G 3), .int (σ.1 2 1), .int (σ.1 2 2), .int (σ.1 2 3), .int (σ.1 2 4), .int (σ.1 2 5)].set 4 (.int v))) = wX G (sI σ 2 4 v) := rfl
theorem p2_token (C : Ctx G K cc own nl fr lo) {index : Nat} {v : Int32} (hq : Cond.fieldLink own index "TreeClimb$Text" "token" "I" ∈ wsL_law) (hd : decode cc pc = .ok (.putfield index, 3)) (k : F → V G K (wX G (sI σ 2 4 v)) (pc + 3) lv rest) : F → V G K (wX G σ) pc lv (.int v :: .ref (aX G 2) :: rest) := v_put C _ (ox_2) rfl inlX2 tyX2 tyX2_ok nmX2 4 (Nat.le_of_ble_eq_true rfl) rfl hq rfl rfl rfl (Nat.le_of_ble_eq_true rfl) (e2_token v) hd k
theorem g2_number (C : Ctx G K cc own nl fr lo) {index : Nat} (hq : Cond.fieldLink own index "TreeClimb$Text" "number" "I" ∈ wsL_law) (hd : decode cc pc = .ok (.getfield index, 3)) (k : F → V G K (wX G σ) (pc + 3) lv (.int (σ.1 2 5) :: rest)) : F → V G K (wX G σ) pc lv (.ref (aX G 2) :: rest) := v_get C _ (ox_2) rfl inlX2 5 (Nat.le_of_ble_eq_true rfl) rfl hq rfl hd k
theorem e2_number (v : Int32) : (wX G σ).set (2) (aX G 2, .inr (2, [.ref (aX G 3), .int (σ.1 2 1), .int (σ.1 2 2), .int (σ.1 2 3), .int (σ.1 2 4), .int (σ.1 2 5)].set 5 (.int v))) = wX G (sI σ 2 5 v) := rfl
theorem p2_number (C : Ctx G K cc own nl fr lo) {index : Nat} {v : Int32} (hq : Cond.fieldLink own index "TreeClimb$Text" "number" "I" ∈ wsL_law) (hd : decode cc pc = .ok (.putfield index, 3)) (k : F → V G K (wX G (sI σ 2 5 v)) (pc + 3) lv rest) : F → V G K (wX G σ) pc lv (.int v :: .ref (aX G 2) :: rest) := v_put C _ (ox_2) rfl inlX2 tyX2 tyX2_ok nmX2 5 (Nat.le_of_ble_eq_true rfl) rfl hq rfl rfl rfl (Nat.le_of_ble_eq_true rfl) (e2_number v) hd k
theorem g3_next (C : Ctx G K cc own nl fr lo) {index : Nat} (hq : Cond.fieldLink own index "TreeClimb$Ways" "next" "[I" ∈ wsL_law) (hd : decode cc pc = .ok (.getfield index, 3)) (k : F → V G K (wX G σ) (pc + 3) lv (.ref (aX G 5) :: rest)) : F → V G K (wX G σ) pc lv (.ref (aX G 4) :: rest) := v_get C _ (ox_3) rfl inlX3 0 (Nat.le_of_ble_eq_true rfl) rfl hq rfl hd k
theorem g3_tenths (C : Ctx G K cc own nl fr lo) {index : Nat} (hq : Cond.fieldLink own index "TreeClimb$Ways" "tenths" "[I" ∈ wsL_law) (hd : decode cc pc = .ok (.getfield index, 3)) (k : F → V G K (wX G σ) (pc + 3) lv (.ref (aX G 6) :: rest)) : F → V G K (wX G σ) pc lv (.ref (aX G 4) :: rest) := v_get C _ (ox_3) rfl inlX3 1 (Nat.le_of_ble_eq_true rfl) rfl hq rfl hd k
theorem g3_steps (C : Ctx G K cc own nl fr lo) {index : Nat} (hq : Cond.fieldLink own index "TreeClimb$Ways" "steps" "[I" ∈ wsL_law) (hd : decode cc pc = .ok (.getfield index, 3)) (k : F → V G K (wX G σ) (pc + 3) lv (.ref (aX G 7) :: rest)) : F → V G K (wX G σ) pc lv (.ref (aX G 4) :: rest) := v_get C _ (ox_3) rfl inlX3 2 (Nat.le_of_ble_eq_true rfl) rfl hq rfl hd k
theorem g3_odds (C : Ctx G K cc own nl fr lo) {index : Nat} (hq : Cond.fieldLink own index "TreeClimb$Ways" "odds" "[J" ∈ wsL_law) (hd : decode cc pc = .ok (.getfield index, 3)) (k : F → V G K (wX G σ) (pc + 3) lv (.ref (aX G 8) :: rest)) : F → V G K (wX G σ) pc lv (.ref (aX G 4) :: rest) := v_get C _ (ox_3) rfl inlX3 3 (Nat.le_of_ble_eq_true rfl) rfl hq rfl hd k
theorem g3_counts (C : Ctx G K cc own nl fr lo) {index : Nat} (hq : Cond.fieldLink own index "TreeClimb$Ways" "counts" "[J" ∈ wsL_law) (hd : decode cc pc = .ok (.getfield index, 3)) (k : F → V G K (wX G σ) (pc + 3) lv (.ref (aX G 9) :: rest)) : F → V G K (wX G σ) pc lv (.ref (aX G 4) :: rest) := v_get C _ (ox_3) rfl inlX3 4 (Nat.le_of_ble_eq_true rfl) rfl hq rfl hd k
theorem g3_before (C : Ctx G K cc own nl fr lo) {index : Nat} (hq : Cond.fieldLink own index "TreeClimb$Ways" "before" "[J" ∈ wsL_law) (hd : decode cc pc = .ok (.getfield index, 3)) (k : F → V G K (wX G σ) (pc + 3) lv (.ref (aX G (bB (σ.2.2 2))) :: rest)) : F → V G K (wX G σ) pc lv (.ref (aX G 4) :: rest) := v_get C _ (ox_3) rfl inlX3 5 (Nat.le_of_ble_eq_true rfl) rfl hq rfl hd k
theorem g3_after (C : Ctx G K cc own nl fr lo) {index : Nat} (hq : Cond.fieldLink own index "TreeClimb$Ways" "after" "[J" ∈ wsL_law) (hd : decode cc pc = .ok (.getfield index, 3)) (k : F → V G K (wX G σ) (pc + 3) lv (.ref (aX G (bB (σ.2.2 3))) :: rest)) : F → V G K (wX G σ) pc lv (.ref (aX G 4) :: rest) := v_get C _ (ox_3) rfl inlX3 6 (Nat.le_of_ble_eq_true rfl) rfl hq rfl hd k
theorem g4_branches (b : Bool) (C : Ctx G K cc own nl fr lo) {index : Nat} (hq : Cond.fieldLink own index "TreeClimb$Wood" "branches" "I" ∈ wsL_law) (hd : decode cc pc = .ok (.getfield index, 3)) (k : F → V G K (wX G σ) (pc + 3) lv (.int (σ.1 (wB b) 0) :: rest)) : F → V G K (wX G σ) pc lv (.ref (aX G (wB b)) :: rest) := v_get C _ (ox_4 b) rfl inlX4 0 (Nat.le_of_ble_eq_true rfl) rfl hq rfl hd k
theorem e4_branches (b : Bool) (v : Int32) : (wX G σ).set ((wB b)) (aX G (wB b), .inr (4, [.int (σ.1 (wB b) 0), .int (σ.1 (wB b) 1), .ref (aX G ((wB b) + 1)), .ref (aX G ((wB b) + 8)), .ref (aX G ((wB b) + 12)), .ref (aX G ((wB b) + 13))].set 0 (.int v))) = wX G (sI σ (wB b) 0 v) := by cases b <;> rfl
theorem p4_branches (b : Bool) (C : Ctx G K cc own nl fr lo) {index : Nat} {v : Int32} (hq : Cond.fieldLink own index "TreeClimb$Wood" "branches" "I" ∈ wsL_law) (hd : decode cc pc = .ok (.putfield index, 3)) (k : F → V G K (wX G (sI σ (wB b) 0 v)) (pc + 3) lv rest) : F → V G K (wX G σ) pc lv (.int v :: .ref (aX G (wB b)) :: rest) := v_put C _ (ox_4 b) rfl inlX4 tyX4 tyX4_ok nmX4 0 (Nat.le_of_ble_eq_true rfl) rfl hq rfl rfl rfl (Nat.le_of_ble_eq_true rfl) (e4_branches b v) hd k
theorem g4_bodies (b : Bool) (C : Ctx G K cc own nl fr lo) {index : Nat} (hq : Cond.fieldLink own index "TreeClimb$Wood" "bodies" "I" ∈ wsL_law) (hd : decode cc pc = .ok (.getfield index, 3)) (k : F → V G K (wX G σ) (pc + 3) lv (.int (σ.1 (wB b) 1) :: rest)) : F → V G K (wX G σ) pc lv (.ref (aX G (wB b)) :: rest) := v_get C _ (ox_4 b) rfl inlX4 1 (Nat.le_of_ble_eq_true rfl) rfl hq rfl hd k
theorem e4_bodies (b : Bool) (v : Int32) : (wX G σ).set ((wB b)) (aX G (wB b), .inr (4, [.int (σ.1 (wB b) 0), .int (σ.1 (wB b) 1), .ref (aX G ((wB b) + 1)), .ref (aX G ((wB b) + 8)), .ref (aX G ((wB b) + 12)), .ref (aX G ((wB b) + 13))].set 1 (.int v))) = wX G (sI σ (wB b) 1 v) := by cases b <;> rfl
theorem p4_bodies (b : Bool) (C : Ctx G K cc own nl fr lo) {index : Nat} {v : Int32} (hq : Cond.fieldLink own index "TreeClimb$Wood" "bodies" "I" ∈ wsL_law) (hd : decode cc pc = .ok (.putfield index, 3)) (k : F → V G K (wX G (sI σ (wB b) 1 v)) (pc + 3) lv rest) : F → V G K (wX G σ) pc lv (.int v :: .ref (aX G (wB b)) :: rest) := v_put C _ (ox_4 b) rfl inlX4 tyX4 tyX4_ok nmX4 1 (Nat.le_of_ble_eq_true rfl) rfl hq rfl rfl rfl (Nat.le_of_ble_eq_true rfl) (e4_bodies b v) hd k
theorem g4_features (b : Bool) (C : Ctx G K cc own nl fr lo) {index : Nat} (hq : Cond.fieldLink own index "TreeClimb$Wood" "features" "[[I" ∈ wsL_law) (hd : decode cc pc = .ok (.getfield index, 3)) (k : F → V G K (wX G σ) (pc + 3) lv (.ref (aX G ((wB b) + 1)) :: rest)) : F → V G K (wX G σ) pc lv (.ref (aX G (wB b)) :: rest) := v_get C _ (ox_4 b) rfl inlX4 2 (Nat.le_of_ble_eq_true rfl) rfl hq rfl hd k
theorem g4_powers (b : Bool) (C : Ctx G K cc own nl fr lo) {index : Nat} (hq : Cond.fieldLink own index "TreeClimb$Wood" "powers" "[[I" ∈ wsL_law) (hd : decode cc pc = .ok (.getfield index, 3)) (k : F → V G K (wX G σ) (pc + 3) lv (.ref (aX G ((wB b) + 8)) :: rest)) : F → V G K (wX G σ) pc lv (.ref (aX G (wB b)) :: rest) := v_get C _ (ox_4 b) rfl inlX4 3 (Nat.le_of_ble_eq_true rfl) rfl hq rfl hd k
theorem g4_downward (b : Bool) (C : Ctx G K cc own nl fr lo) {index : Nat} (hq : Cond.fieldLink own index "TreeClimb$Wood" "downward" "[I" ∈ wsL_law) (hd : decode cc pc = .ok (.getfield index, 3)) (k : F → V G K (wX G σ) (pc + 3) lv (.ref (aX G ((wB b) + 12)) :: rest)) : F → V G K (wX G σ) pc lv (.ref (aX G (wB b)) :: rest) := v_get C _ (ox_4 b) rfl inlX4 4 (Nat.le_of_ble_eq_true rfl) rfl hq rfl hd k
theorem g4_under (b : Bool) (C : Ctx G K cc own nl fr lo) {index : Nat} (hq : Cond.fieldLink own index "TreeClimb$Wood" "under" "[I" ∈ wsL_law) (hd : decode cc pc = .ok (.getfield index, 3)) (k : F → V G K (wX G σ) (pc + 3) lv (.ref (aX G ((wB b) + 13)) :: rest)) : F → V G K (wX G σ) pc lv (.ref (aX G (wB b)) :: rest) := v_get C _ (ox_4 b) rfl inlX4 5 (Nat.le_of_ble_eq_true rfl) rfl hq rfl hd k
theorem g5_tunes (C : Ctx G K cc own nl fr lo) {index : Nat} (hq : Cond.fieldLink own index "TreeClimb" "tunes" "[I" ∈ wsL_law) (hd : decode cc pc = .ok (.getfield index, 3)) (k : F → V G K (wX G σ) (pc + 3) lv (.ref (aX G 1) :: rest)) : F → V G K (wX G σ) pc lv (.ref (aX G 0) :: rest) := v_get C _ (ox_5) rfl inlX5 0 (Nat.le_of_ble_eq_true rfl) rfl hq rfl hd k
theorem g5_text (C : Ctx G K cc own nl fr lo) {index : Nat} (hq : Cond.fieldLink own index "TreeClimb" "text" "LTreeClimb$Text;" ∈ wsL_law) (hd : decode cc pc = .ok (.getfield index, 3)) (k : F → V G K (wX G σ) (pc + 3) lv (.ref (aX G 2) :: rest)) : F → V G K (wX G σ) pc lv (.ref (aX G 0) :: rest) := v_get C _ (ox_5) rfl inlX5 1 (Nat.le_of_ble_eq_true rfl) rfl hq rfl hd k
theorem g5_ways (C : Ctx G K cc own nl fr lo) {index : Nat} (hq : Cond.fieldLink own index "TreeClimb" "ways" "LTreeClimb$Ways;" ∈ wsL_law) (hd : decode cc pc = .ok (.getfield index, 3)) (k : F → V G K (wX G σ) (pc + 3) lv (.ref (aX G 4) :: rest)) : F → V G K (wX G σ) pc lv (.ref (aX G 0) :: rest) := v_get C _ (ox_5) rfl inlX5 2 (Nat.le_of_ble_eq_true rfl) rfl hq rfl hd k
theorem g5_diary (C : Ctx G K cc own nl fr lo) {index : Nat} (hq : Cond.fieldLink own index "TreeClimb" "diary" "LTreeClimb$Diary;" ∈ wsL_law) (hd : decode cc pc = .ok (.getfield index, 3)) (k : F → V G K (wX G σ) (pc + 3) lv (.ref (aX G 12) :: rest)) : F → V G K (wX G σ) pc lv (.ref (aX G 0) :: rest) := v_get C _ (ox_5) rfl inlX5 3 (Nat.le_of_ble_eq_true rfl) rfl hq rfl hd k
theorem g5_present (C : Ctx G K cc own nl fr lo) {index : Nat} (hq : Cond.fieldLink own index "TreeClimb" "present" "LTreeClimb$Moment;" ∈ wsL_law) (hd : decode cc pc = .ok (.getfield index, 3)) (k : F → V G K (wX G σ) (pc + 3) lv (.ref (aX G 17) :: rest)) : F → V G K (wX G σ) pc lv (.ref (aX G 0) :: rest) := v_get C _ (ox_5) rfl inlX5 4 (Nat.le_of_ble_eq_true rfl) rfl hq rfl hd k
theorem g5_images (C : Ctx G K cc own nl fr lo) {index : Nat} (hq : Cond.fieldLink own index "TreeClimb" "images" "[LTreeClimb$Moment;" ∈ wsL_law) (hd : decode cc pc = .ok (.getfield index, 3)) (k : F → V G K (wX G σ) (pc + 3) lv (.ref (aX G 16) :: rest)) : F → V G K (wX G σ) pc lv (.ref (aX G 0) :: rest) := v_get C _ (ox_5) rfl inlX5 5 (Nat.le_of_ble_eq_true rfl) rfl hq rfl hd k
theorem g5_wood (C : Ctx G K cc own nl fr lo) {index : Nat} (hq : Cond.fieldLink own index "TreeClimb" "wood" "LTreeClimb$Wood;" ∈ wsL_law) (hd : decode cc pc = .ok (.getfield index, 3)) (k : F → V G K (wX G σ) (pc + 3) lv (.ref (aX G (wB (σ.2.2 0))) :: rest)) : F → V G K (wX G σ) pc lv (.ref (aX G 0) :: rest) := v_get C _ (ox_5) rfl inlX5 6 (Nat.le_of_ble_eq_true rfl) rfl hq rfl hd k
theorem g5_draft (C : Ctx G K cc own nl fr lo) {index : Nat} (hq : Cond.fieldLink own index "TreeClimb" "draft" "LTreeClimb$Wood;" ∈ wsL_law) (hd : decode cc pc = .ok (.getfield index, 3)) (k : F → V G K (wX G σ) (pc + 3) lv (.ref (aX G (wB (σ.2.2 1))) :: rest)) : F → V G K (wX G σ) pc lv (.ref (aX G 0) :: rest) := v_get C _ (ox_5) rfl inlX5 7 (Nat.le_of_ble_eq_true rfl) rfl hq rfl hd k
theorem g5_asked (C : Ctx G K cc own nl fr lo) {index : Nat} (hq : Cond.fieldLink own index "TreeClimb" "asked" "J" ∈ wsL_law) (hd : decode cc pc = .ok (.getfield index, 3)) (k : F → V G K (wX G σ) (pc + 3) lv (.long (σ.2.1 0 8) :: rest)) : F → V G K (wX G σ) pc lv (.ref (aX G 0) :: rest) := v_get C _ (ox_5) rfl inlX5 8 (Nat.le_of_ble_eq_true rfl) rfl hq rfl hd k
theorem e5_asked (v : Int64) : (wX G σ).set (0) (aX G 0, .inr (5, [.ref (aX G 1), .ref (aX G 2), .ref (aX G 4), .ref (aX G 12), .ref (aX G 17), .ref (aX G 16), .ref (aX G (wB (σ.2.2 0))), .ref (aX G (wB (σ.2.2 1))), .long (σ.2.1 0 8)].set 8 (.long v))) = wX G (sL σ 0 8 v) := rfl
theorem p5_asked (C : Ctx G K cc own nl fr lo) {index : Nat} {v : Int64} (hq : Cond.fieldLink own index "TreeClimb" "asked" "J" ∈ wsL_law) (hd : decode cc pc = .ok (.putfield index, 3)) (k : F → V G K (wX G (sL σ 0 8 v)) (pc + 3) lv rest) : F → V G K (wX G σ) pc lv (.long v :: .ref (aX G 0) :: rest) := v_put C _ (ox_5) rfl inlX5 tyX5 tyX5_ok nmX5 8 (Nat.le_of_ble_eq_true rfl) rfl hq rfl rfl rfl (Nat.le_of_ble_eq_true rfl) (e5_asked v) hd k
theorem g6_trace (C : Ctx G K cc own nl fr lo) {index : Nat} (hq : Cond.fieldLink own index "TreeClimbModel" "trace" "J" ∈ wsL_law) (hd : decode cc pc = .ok (.getfield index, 3)) (k : F → V G K (wM G σ) (pc + 3) lv (.long (σ.2.1 0 0) :: rest)) : F → V G K (wM G σ) pc lv (.ref (aM G 0) :: rest) := v_get C _ (om_6) rfl inlX6 0 (Nat.le_of_ble_eq_true rfl) rfl hq rfl hd k
theorem e6_trace (v : Int64) : (wM G σ).set (0) (aM G 0, .inr (6, [.long (σ.2.1 0 0), .ref (aM G 1), .int (σ.1 0 2), .ref (aM G 2), .ref (aM G 3), .ref (aM G 4), .ref (aM G 5), .ref (aM G 6), .int (σ.1 0 8), .int (σ.1 0 9), .int (σ.1 0 10), .int (σ.1 0 11), .int (σ.1 0 12), .ref (aM G 7), .int (σ.1 0 14), .int (σ.1 0 15), .int (σ.1 0 16), .int (σ.1 0 17), .ref (aM G 8), .ref (aM G 9), .ref (aM G 10), .ref (aM G 11), .ref (aM G 12), .int (σ.1 0 23), .int (σ.1 0 24), .ref (aM G 13), .ref (aM G 14), .ref (aM G 15), .ref (aM G 16), .ref (aM G 17), .ref (aM G 18), .ref (aM G 19), .ref (aM G 20), .ref (aM G 21), .ref (aM G 22), .ref (aM G 23)].set 0 (.long v))) = wM G (sL σ 0 0 v) := rfl
theorem p6_trace (C : Ctx G K cc own nl fr lo) {index : Nat} {v : Int64} (hq : Cond.fieldLink own index "TreeClimbModel" "trace" "J" ∈ wsL_law) (hd : decode cc pc = .ok (.putfield index, 3)) (k : F → V G K (wM G (sL σ 0 0 v)) (pc + 3) lv rest) : F → V G K (wM G σ) pc lv (.long v :: .ref (aM G 0) :: rest) := v_put C _ (om_6) rfl inlX6 tyX6 tyX6_ok nmX6 0 (Nat.le_of_ble_eq_true rfl) rfl hq rfl rfl rfl (Nat.le_of_ble_eq_true rfl) (e6_trace v) hd k
theorem g6_text (C : Ctx G K cc own nl fr lo) {index : Nat} (hq : Cond.fieldLink own index "TreeClimbModel" "text" "[B" ∈ wsL_law) (hd : decode cc pc = .ok (.getfield index, 3)) (k : F → V G K (wM G σ) (pc + 3) lv (.ref (aM G 1) :: rest)) : F → V G K (wM G σ) pc lv (.ref (aM G 0) :: rest) := v_get C _ (om_6) rfl inlX6 1 (Nat.le_of_ble_eq_true rfl) rfl hq rfl hd k
theorem g6_typed (C : Ctx G K cc own nl fr lo) {index : Nat} (hq : Cond.fieldLink own index "TreeClimbModel" "typed" "I" ∈ wsL_law) (hd : decode cc pc = .ok (.getfield index, 3)) (k : F → V G K (wM G σ) (pc + 3) lv (.int (σ.1 0 2) :: rest)) : F → V G K (wM G σ) pc lv (.ref (aM G 0) :: rest) := v_get C _ (om_6) rfl inlX6 2 (Nat.le_of_ble_eq_true rfl) rfl hq rfl hd k
theorem e6_typed (v : Int32) : (wM G σ).set (0) (aM G 0, .inr (6, [.long (σ.2.1 0 0), .ref (aM G 1), .int (σ.1 0 2), .ref (aM G 2), .ref (aM G 3), .ref (aM G 4), .ref (aM G 5), .ref (aM G 6), .int (σ.1 0 8), .int (σ.1 0 9), .int (σ.1 0 10), .int (σ.1 0 11), .int (σ.1 0 12), .ref (aM G 7), .int (σ.1 0 14), .int (σ.1 0 15), .int (σ.1 0 16), .int (σ.1 0 17), .ref (aM G 8), .ref (aM G 9), .ref (aM G 10), .ref (aM G 11), .ref (aM G 12), .int (σ.1 0 23), .int (σ.1 0 24), .ref (aM G 13), .ref (aM G 14), .ref (aM G 15), .ref (aM G 16), .ref (aM G 17), .ref (aM G 18), .ref (aM G 19), .ref (aM G 20), .ref (aM G 21), .ref (aM G 22), .ref (aM G 23)].set 2 (.int v))) = wM G (sI σ 0 2 v) := rfl
theorem p6_typed (C : Ctx G K cc own nl fr lo) {index : Nat} {v : Int32} (hq : Cond.fieldLink own index "TreeClimbModel" "typed" "I" ∈ wsL_law) (hd : decode cc pc = .ok (.putfield index, 3)) (k : F → V G K (wM G (sI σ 0 2 v)) (pc + 3) lv rest) : F → V G K (wM G σ) pc lv (.int v :: .ref (aM G 0) :: rest) := v_put C _ (om_6) rfl inlX6 tyX6 tyX6_ok nmX6 2 (Nat.le_of_ble_eq_true rfl) rfl hq rfl rfl rfl (Nat.le_of_ble_eq_true rfl) (e6_typed v) hd k
theorem g6_branches (C : Ctx G K cc own nl fr lo) {index : Nat} (hq : Cond.fieldLink own index "TreeClimbModel" "branches" "[I" ∈ wsL_law) (hd : decode cc pc = .ok (.getfield index, 3)) (k : F → V G K (wM G σ) (pc + 3) lv (.ref (aM G 2) :: rest)) : F → V G K (wM G σ) pc lv (.ref (aM G 0) :: rest) := v_get C _ (om_6) rfl inlX6 3 (Nat.le_of_ble_eq_true rfl) rfl hq rfl hd k
theorem g6_told (C : Ctx G K cc own nl fr lo) {index : Nat} (hq : Cond.fieldLink own index "TreeClimbModel" "told" "[I" ∈ wsL_law) (hd : decode cc pc = .ok (.getfield index, 3)) (k : F → V G K (wM G σ) (pc + 3) lv (.ref (aM G 3) :: rest)) : F → V G K (wM G σ) pc lv (.ref (aM G 0) :: rest) := v_get C _ (om_6) rfl inlX6 4 (Nat.le_of_ble_eq_true rfl) rfl hq rfl hd k
theorem g6_bodies (C : Ctx G K cc own nl fr lo) {index : Nat} (hq : Cond.fieldLink own index "TreeClimbModel" "bodies" "[I" ∈ wsL_law) (hd : decode cc pc = .ok (.getfield index, 3)) (k : F → V G K (wM G σ) (pc + 3) lv (.ref (aM G 4) :: rest)) : F → V G K (wM G σ) pc lv (.ref (aM G 0) :: rest) := v_get C _ (om_6) rfl inlX6 5 (Nat.le_of_ble_eq_true rfl) rfl hq rfl hd k
theorem g6_bodyTold (C : Ctx G K cc own nl fr lo) {index : Nat} (hq : Cond.fieldLink own index "TreeClimbModel" "bodyTold" "[I" ∈ wsL_law) (hd : decode cc pc = .ok (.getfield index, 3)) (k : F → V G K (wM G σ) (pc + 3) lv (.ref (aM G 5) :: rest)) : F → V G K (wM G σ) pc lv (.ref (aM G 0) :: rest) := v_get C _ (om_6) rfl inlX6 6 (Nat.le_of_ble_eq_true rfl) rfl hq rfl hd k
theorem g6_tune (C : Ctx G K cc own nl fr lo) {index : Nat} (hq : Cond.fieldLink own index "TreeClimbModel" "tune" "[I" ∈ wsL_law) (hd : decode cc pc = .ok (.getfield index, 3)) (k : F → V G K (wM G σ) (pc + 3) lv (.ref (aM G 6) :: rest)) : F → V G K (wM G σ) pc lv (.ref (aM G 0) :: rest) := v_get C _ (om_6) rfl inlX6 7 (Nat.le_of_ble_eq_true rfl) rfl hq rfl hd k
theorem g6_at (C : Ctx G K cc own nl fr lo) {index : Nat} (hq : Cond.fieldLink own index "TreeClimbModel" "at" "I" ∈ wsL_law) (hd : decode cc pc = .ok (.getfield index, 3)) (k : F → V G K (wM G σ) (pc + 3) lv (.int (σ.1 0 8) :: rest)) : F → V G K (wM G σ) pc lv (.ref (aM G 0) :: rest) := v_get C _ (om_6) rfl inlX6 8 (Nat.le_of_ble_eq_true rfl) rfl hq rfl hd k
theorem e6_at (v : Int32) : (wM G σ).set (0) (aM G 0, .inr (6, [.long (σ.2.1 0 0), .ref (aM G 1), .int (σ.1 0 2), .ref (aM G 2), .ref (aM G 3), .ref (aM G 4), .ref (aM G 5), .ref (aM G 6), .int (σ.1 0 8), .int (σ.1 0 9), .int (σ.1 0 10), .int (σ.1 0 11), .int (σ.1 0 12), .ref (aM G 7), .int (σ.1 0 14), .int (σ.1 0 15), .int (σ.1 0 16), .int (σ.1 0 17), .ref (aM G 8), .ref (aM G 9), .ref (aM G 10), .ref (aM G 11), .ref (aM G 12), .int (σ.1 0 23), .int (σ.1 0 24), .ref (aM G 13), .ref (aM G 14), .ref (aM G 15), .ref (aM G 16), .ref (aM G 17), .ref (aM G 18), .ref (aM G 19), .ref (aM G 20), .ref (aM G 21), .ref (aM G 22), .ref (aM G 23)].set 8 (.int v))) = wM G (sI σ 0 8 v) := rfl
theorem p6_at (C : Ctx G K cc own nl fr lo) {index : Nat} {v : Int32} (hq : Cond.fieldLink own index "TreeClimbModel" "at" "I" ∈ wsL_law) (hd : decode cc pc = .ok (.putfield index, 3)) (k : F → V G K (wM G (sI σ 0 8 v)) (pc + 3) lv rest) : F → V G K (wM G σ) pc lv (.int v :: .ref (aM G 0) :: rest) := v_put C _ (om_6) rfl inlX6 tyX6 tyX6_ok nmX6 8 (Nat.le_of_ble_eq_true rfl) rfl hq rfl rfl rfl (Nat.le_of_ble_eq_true rfl) (e6_at v) hd k
theorem g6_start (C : Ctx G K cc own nl fr lo) {index : Nat} (hq : Cond.fieldLink own index "TreeClimbModel" "start" "I" ∈ wsL_law) (hd : decode cc pc = .ok (.getfield index, 3)) (k : F → V G K (wM G σ) (pc + 3) lv (.int (σ.1 0 9) :: rest)) : F → V G K (wM G σ) pc lv (.ref (aM G 0) :: rest) := v_get C _ (om_6) rfl inlX6 9 (Nat.le_of_ble_eq_true rfl) rfl hq rfl hd k
theorem e6_start (v : Int32) : (wM G σ).set (0) (aM G 0, .inr (6, [.long (σ.2.1 0 0), .ref (aM G 1), .int (σ.1 0 2), .ref (aM G 2), .ref (aM G 3), .ref (aM G 4), .ref (aM G 5), .ref (aM G 6), .int (σ.1 0 8), .int (σ.1 0 9), .int (σ.1 0 10), .int (σ.1 0 11), .int (σ.1 0 12), .ref (aM G 7), .int (σ.1 0 14), .int (σ.1 0 15), .int (σ.1 0 16), .int (σ.1 0 17), .ref (aM G 8), .ref (aM G 9), .ref (aM G 10), .ref (aM G 11), .ref (aM G 12), .int (σ.1 0 23), .int (σ.1 0 24), .ref (aM G 13), .ref (aM G 14), .ref (aM G 15), .ref (aM G 16), .ref (aM G 17), .ref (aM G 18), .ref (aM G 19), .ref (aM G 20), .ref (aM G 21), .ref (aM G 22), .ref (aM G 23)].set 9 (.int v))) = wM G (sI σ 0 9 v) := rfl
theorem p6_start (C : Ctx G K cc own nl fr lo) {index : Nat} {v : Int32} (hq : Cond.fieldLink own index "TreeClimbModel" "start" "I" ∈ wsL_law) (hd : decode cc pc = .ok (.putfield index, 3)) (k : F → V G K (wM G (sI σ 0 9 v)) (pc + 3) lv rest) : F → V G K (wM G σ) pc lv (.int v :: .ref (aM G 0) :: rest) := v_put C _ (om_6) rfl inlX6 tyX6 tyX6_ok nmX6 9 (Nat.le_of_ble_eq_true rfl) rfl hq rfl rfl rfl (Nat.le_of_ble_eq_true rfl) (e6_start v) hd k
theorem g6_sort (C : Ctx G K cc own nl fr lo) {index : Nat} (hq : Cond.fieldLink own index "TreeClimbModel" "sort" "I" ∈ wsL_law) (hd : decode cc pc = .ok (.getfield index, 3)) (k : F → V G K (wM G σ) (pc + 3) lv (.int (σ.1 0 10) :: rest)) : F → V G K (wM G σ) pc lv (.ref (aM G 0) :: rest) := v_get C _ (om_6) rfl inlX6 10 (Nat.le_of_ble_eq_true rfl) rfl hq rfl hd k
theorem e6_sort (v : Int32) : (wM G σ).set (0) (aM G 0, .inr (6, [.long (σ.2.1 0 0), .ref (aM G 1), .int (σ.1 0 2), .ref (aM G 2), .ref (aM G 3), .ref (aM G 4), .ref (aM G 5), .ref (aM G 6), .int (σ.1 0 8), .int (σ.1 0 9), .int (σ.1 0 10), .int (σ.1 0 11), .int (σ.1 0 12), .ref (aM G 7), .int (σ.1 0 14), .int (σ.1 0 15), .int (σ.1 0 16), .int (σ.1 0 17), .ref (aM G 8), .ref (aM G 9), .ref (aM G 10), .ref (aM G 11), .ref (aM G 12), .int (σ.1 0 23), .int (σ.1 0 24), .ref (aM G 13), .ref (aM G 14), .ref (aM G 15), .ref (aM G 16), .ref (aM G 17), .ref (aM G 18), .ref (aM G 19), .ref (aM G 20), .ref (aM G 21), .ref (aM G 22), .ref (aM G 23)].set 10 (.int v))) = wM G (sI σ 0 10 v) := rfl
theorem p6_sort (C : Ctx G K cc own nl fr lo) {index : Nat} {v : Int32} (hq : Cond.fieldLink own index "TreeClimbModel" "sort" "I" ∈ wsL_law) (hd : decode cc pc = .ok (.putfield index, 3)) (k : F → V G K (wM G (sI σ 0 10 v)) (pc + 3) lv rest) : F → V G K (wM G σ) pc lv (.int v :: .ref (aM G 0) :: rest) := v_put C _ (om_6) rfl inlX6 tyX6 tyX6_ok nmX6 10 (Nat.le_of_ble_eq_true rfl) rfl hq rfl rfl rfl (Nat.le_of_ble_eq_true rfl) (e6_sort v) hd k
theorem g6_value (C : Ctx G K cc own nl fr lo) {index : Nat} (hq : Cond.fieldLink own index "TreeClimbModel" "value" "I" ∈ wsL_law) (hd : decode cc pc = .ok (.getfield index, 3)) (k : F → V G K (wM G σ) (pc + 3) lv (.int (σ.1 0 11) :: rest)) : F → V G K (wM G σ) pc lv (.ref (aM G 0) :: rest) := v_get C _ (om_6) rfl inlX6 11 (Nat.le_of_ble_eq_true rfl) rfl hq rfl hd k
theorem e6_value (v : Int32) : (wM G σ).set (0) (aM G 0, .inr (6, [.long (σ.2.1 0 0), .ref (aM G 1), .int (σ.1 0 2), .ref (aM G 2), .ref (aM G 3), .ref (aM G 4), .ref (aM G 5), .ref (aM G 6), .int (σ.1 0 8), .int (σ.1 0 9), .int (σ.1 0 10), .int (σ.1 0 11), .int (σ.1 0 12), .ref (aM G 7), .int (σ.1 0 14), .int (σ.1 0 15), .int (σ.1 0 16), .int (σ.1 0 17), .ref (aM G 8), .ref (aM G 9), .ref (aM G 10), .ref (aM G 11), .ref (aM G 12), .int (σ.1 0 23), .int (σ.1 0 24), .ref (aM G 13), .ref (aM G 14), .ref (aM G 15), .ref (aM G 16), .ref (aM G 17), .ref (aM G 18), .ref (aM G 19), .ref (aM G 20), .ref (aM G 21), .ref (aM G 22), .ref (aM G 23)].set 11 (.int v))) = wM G (sI σ 0 11 v) := rfl
theorem p6_value (C : Ctx G K cc own nl fr lo) {index : Nat} {v : Int32} (hq : Cond.fieldLink own index "TreeClimbModel" "value" "I" ∈ wsL_law) (hd : decode cc pc = .ok (.putfield index, 3)) (k : F → V G K (wM G (sI σ 0 11 v)) (pc + 3) lv rest) : F → V G K (wM G σ) pc lv (.int v :: .ref (aM G 0) :: rest) := v_put C _ (om_6) rfl inlX6 tyX6 tyX6_ok nmX6 11 (Nat.le_of_ble_eq_true rfl) rfl hq rfl rfl rfl (Nat.le_of_ble_eq_true rfl) (e6_value v) hd k
theorem g6_fault (C : Ctx G K cc own nl fr lo) {index : Nat} (hq : Cond.fieldLink own index "TreeClimbModel" "fault" "I" ∈ wsL_law) (hd : decode cc pc = .ok (.getfield index, 3)) (k : F → V G K (wM G σ) (pc + 3) lv (.int (σ.1 0 12) :: rest)) : F → V G K (wM G σ) pc lv (.ref (aM G 0) :: rest) := v_get C _ (om_6) rfl inlX6 12 (Nat.le_of_ble_eq_true rfl) rfl hq rfl hd k
theorem e6_fault (v : Int32) : (wM G σ).set (0) (aM G 0, .inr (6, [.long (σ.2.1 0 0), .ref (aM G 1), .int (σ.1 0 2), .ref (aM G 2), .ref (aM G 3), .ref (aM G 4), .ref (aM G 5), .ref (aM G 6), .int (σ.1 0 8), .int (σ.1 0 9), .int (σ.1 0 10), .int (σ.1 0 11), .int (σ.1 0 12), .ref (aM G 7), .int (σ.1 0 14), .int (σ.1 0 15), .int (σ.1 0 16), .int (σ.1 0 17), .ref (aM G 8), .ref (aM G 9), .ref (aM G 10), .ref (aM G 11), .ref (aM G 12), .int (σ.1 0 23), .int (σ.1 0 24), .ref (aM G 13), .ref (aM G 14), .ref (aM G 15), .ref (aM G 16), .ref (aM G 17), .ref (aM G 18), .ref (aM G 19), .ref (aM G 20), .ref (aM G 21), .ref (aM G 22), .ref (aM G 23)].set 12 (.int v))) = wM G (sI σ 0 12 v) := rfl
theorem p6_fault (C : Ctx G K cc own nl fr lo) {index : Nat} {v : Int32} (hq : Cond.fieldLink own index "TreeClimbModel" "fault" "I" ∈ wsL_law) (hd : decode cc pc = .ok (.putfield index, 3)) (k : F → V G K (wM G (sI σ 0 12 v)) (pc + 3) lv rest) : F → V G K (wM G σ) pc lv (.int v :: .ref (aM G 0) :: rest) := v_put C _ (om_6) rfl inlX6 tyX6 tyX6_ok nmX6 12 (Nat.le_of_ble_eq_true rfl) rfl hq rfl rfl rfl (Nat.le_of_ble_eq_true rfl) (e6_fault v) hd k
theorem g6_sawnOnes (C : Ctx G K cc own nl fr lo) {index : Nat} (hq : Cond.fieldLink own index "TreeClimbModel" "sawnOnes" "[I" ∈ wsL_law) (hd : decode cc pc = .ok (.getfield index, 3)) (k : F → V G K (wM G σ) (pc + 3) lv (.ref (aM G 7) :: rest)) : F → V G K (wM G σ) pc lv (.ref (aM G 0) :: rest) := v_get C _ (om_6) rfl inlX6 13 (Nat.le_of_ble_eq_true rfl) rfl hq rfl hd k
theorem g6_reach (C : Ctx G K cc own nl fr lo) {index : Nat} (hq : Cond.fieldLink own index "TreeClimbModel" "reach" "I" ∈ wsL_law) (hd : decode cc pc = .ok (.getfield index, 3)) (k : F → V G K (wM G σ) (pc + 3) lv (.int (σ.1 0 14) :: rest)) : F → V G K (wM G σ) pc lv (.ref (aM G 0) :: rest) := v_get C _ (om_6) rfl inlX6 14 (Nat.le_of_ble_eq_true rfl) rfl hq rfl hd k
theorem e6_reach (v : Int32) : (wM G σ).set (0) (aM G 0, .inr (6, [.long (σ.2.1 0 0), .ref (aM G 1), .int (σ.1 0 2), .ref (aM G 2), .ref (aM G 3), .ref (aM G 4), .ref (aM G 5), .ref (aM G 6), .int (σ.1 0 8), .int (σ.1 0 9), .int (σ.1 0 10), .int (σ.1 0 11), .int (σ.1 0 12), .ref (aM G 7), .int (σ.1 0 14), .int (σ.1 0 15), .int (σ.1 0 16), .int (σ.1 0 17), .ref (aM G 8), .ref (aM G 9), .ref (aM G 10), .ref (aM G 11), .ref (aM G 12), .int (σ.1 0 23), .int (σ.1 0 24), .ref (aM G 13), .ref (aM G 14), .ref (aM G 15), .ref (aM G 16), .ref (aM G 17), .ref (aM G 18), .ref (aM G 19), .ref (aM G 20), .ref (aM G 21), .ref (aM G 22), .ref (aM G 23)].set 14 (.int v))) = wM G (sI σ 0 14 v) := rfl
theorem p6_reach (C : Ctx G K cc own nl fr lo) {index : Nat} {v : Int32} (hq : Cond.fieldLink own index "TreeClimbModel" "reach" "I" ∈ wsL_law) (hd : decode cc pc = .ok (.putfield index, 3)) (k : F → V G K (wM G (sI σ 0 14 v)) (pc + 3) lv rest) : F → V G K (wM G σ) pc lv (.int v :: .ref (aM G 0) :: rest) := v_put C _ (om_6) rfl inlX6 tyX6 tyX6_ok nmX6 14 (Nat.le_of_ble_eq_true rfl) rfl hq rfl rfl rfl (Nat.le_of_ble_eq_true rfl) (e6_reach v) hd k
theorem g6_weight (C : Ctx G K cc own nl fr lo) {index : Nat} (hq : Cond.fieldLink own index "TreeClimbModel" "weight" "I" ∈ wsL_law) (hd : decode cc pc = .ok (.getfield index, 3)) (k : F → V G K (wM G σ) (pc + 3) lv (.int (σ.1 0 15) :: rest)) : F → V G K (wM G σ) pc lv (.ref (aM G 0) :: rest) := v_get C _ (om_6) rfl inlX6 15 (Nat.le_of_ble_eq_true rfl) rfl hq rfl hd k
theorem e6_weight (v : Int32) : (wM G σ).set (0) (aM G 0, .inr (6, [.long (σ.2.1 0 0), .ref (aM G 1), .int (σ.1 0 2), .ref (aM G 2), .ref (aM G 3), .ref (aM G 4), .ref (aM G 5), .ref (aM G 6), .int (σ.1 0 8), .int (σ.1 0 9), .int (σ.1 0 10), .int (σ.1 0 11), .int (σ.1 0 12), .ref (aM G 7), .int (σ.1 0 14), .int (σ.1 0 15), .int (σ.1 0 16), .int (σ.1 0 17), .ref (aM G 8), .ref (aM G 9), .ref (aM G 10), .ref (aM G 11), .ref (aM G 12), .int (σ.1 0 23), .int (σ.1 0 24), .ref (aM G 13), .ref (aM G 14), .ref (aM G 15), .ref (aM G 16), .ref (aM G 17), .ref (aM G 18), .ref (aM G 19), .ref (aM G 20), .ref (aM G 21), .ref (aM G 22), .ref (aM G 23)].set 15 (.int v))) = wM G (sI σ 0 15 v) := rfl
theorem p6_weight (C : Ctx G K cc own nl fr lo) {index : Nat} {v : Int32} (hq : Cond.fieldLink own index "TreeClimbModel" "weight" "I" ∈ wsL_law) (hd : decode cc pc = .ok (.putfield index, 3)) (k : F → V G K (wM G (sI σ 0 15 v)) (pc + 3) lv rest) : F → V G K (wM G σ) pc lv (.int v :: .ref (aM G 0) :: rest) := v_put C _ (om_6) rfl inlX6 tyX6 tyX6_ok nmX6 15 (Nat.le_of_ble_eq_true rfl) rfl hq rfl rfl rfl (Nat.le_of_ble_eq_true rfl) (e6_weight v) hd k
theorem g6_grip (C : Ctx G K cc own nl fr lo) {index : Nat} (hq : Cond.fieldLink own index "TreeClimbModel" "grip" "I" ∈ wsL_law) (hd : decode cc pc = .ok (.getfield index, 3)) (k : F → V G K (wM G σ) (pc + 3) lv (.int (σ.1 0 16) :: rest)) : F → V G K (wM G σ) pc lv (.ref (aM G 0) :: rest) := v_get C _ (om_6) rfl inlX6 16 (Nat.le_of_ble_eq_true rfl) rfl hq rfl hd k
theorem e6_grip (v : Int32) : (wM G σ).set (0) (aM G 0, .inr (6, [.long (σ.2.1 0 0), .ref (aM G 1), .int (σ.1 0 2), .ref (aM G 2), .ref (aM G 3), .ref (aM G 4), .ref (aM G 5), .ref (aM G 6), .int (σ.1 0 8), .int (σ.1 0 9), .int (σ.1 0 10), .int (σ.1 0 11), .int (σ.1 0 12), .ref (aM G 7), .int (σ.1 0 14), .int (σ.1 0 15), .int (σ.1 0 16), .int (σ.1 0 17), .ref (aM G 8), .ref (aM G 9), .ref (aM G 10), .ref (aM G 11), .ref (aM G 12), .int (σ.1 0 23), .int (σ.1 0 24), .ref (aM G 13), .ref (aM G 14), .ref (aM G 15), .ref (aM G 16), .ref (aM G 17), .ref (aM G 18), .ref (aM G 19), .ref (aM G 20), .ref (aM G 21), .ref (aM G 22), .ref (aM G 23)].set 16 (.int v))) = wM G (sI σ 0 16 v) := rfl
theorem p6_grip (C : Ctx G K cc own nl fr lo) {index : Nat} {v : Int32} (hq : Cond.fieldLink own index "TreeClimbModel" "grip" "I" ∈ wsL_law) (hd : decode cc pc = .ok (.putfield index, 3)) (k : F → V G K (wM G (sI σ 0 16 v)) (pc + 3) lv rest) : F → V G K (wM G σ) pc lv (.int v :: .ref (aM G 0) :: rest) := v_put C _ (om_6) rfl inlX6 tyX6 tyX6_ok nmX6 16 (Nat.le_of_ble_eq_true rfl) rfl hq rfl rfl rfl (Nat.le_of_ble_eq_true rfl) (e6_grip v) hd k
theorem g6_backs (C : Ctx G K cc own nl fr lo) {index : Nat} (hq : Cond.fieldLink own index "TreeClimbModel" "backs" "I" ∈ wsL_law) (hd : decode cc pc = .ok (.getfield index, 3)) (k : F → V G K (wM G σ) (pc + 3) lv (.int (σ.1 0 17) :: rest)) : F → V G K (wM G σ) pc lv (.ref (aM G 0) :: rest) := v_get C _ (om_6) rfl inlX6 17 (Nat.le_of_ble_eq_true rfl) rfl hq rfl hd k
theorem e6_backs (v : Int32) : (wM G σ).set (0) (aM G 0, .inr (6, [.long (σ.2.1 0 0), .ref (aM G 1), .int (σ.1 0 2), .ref (aM G 2), .ref (aM G 3), .ref (aM G 4), .ref (aM G 5), .ref (aM G 6), .int (σ.1 0 8), .int (σ.1 0 9), .int (σ.1 0 10), .int (σ.1 0 11), .int (σ.1 0 12), .ref (aM G 7), .int (σ.1 0 14), .int (σ.1 0 15), .int (σ.1 0 16), .int (σ.1 0 17), .ref (aM G 8), .ref (aM G 9), .ref (aM G 10), .ref (aM G 11), .ref (aM G 12), .int (σ.1 0 23), .int (σ.1 0 24), .ref (aM G 13), .ref (aM G 14), .ref (aM G 15), .ref (aM G 16), .ref (aM G 17), .ref (aM G 18), .ref (aM G 19), .ref (aM G 20), .ref (aM G 21), .ref (aM G 22), .ref (aM G 23)].set 17 (.int v))) = wM G (sI σ 0 17 v) := rfl
theorem p6_backs (C : Ctx G K cc own nl fr lo) {index : Nat} {v : Int32} (hq : Cond.fieldLink own index "TreeClimbModel" "backs" "I" ∈ wsL_law) (hd : decode cc pc = .ok (.putfield index, 3)) (k : F → V G K (wM G (sI σ 0 17 v)) (pc + 3) lv rest) : F → V G K (wM G σ) pc lv (.int v :: .ref (aM G 0) :: rest) := v_put C _ (om_6) rfl inlX6 tyX6 tyX6_ok nmX6 17 (Nat.le_of_ble_eq_true rfl) rfl hq rfl rfl rfl (Nat.le_of_ble_eq_true rfl) (e6_backs v) hd k
theorem g6_odds (C : Ctx G K cc own nl fr lo) {index : Nat} (hq : Cond.fieldLink own index "TreeClimbModel" "odds" "[J" ∈ wsL_law) (hd : decode cc pc = .ok (.getfield index, 3)) (k : F → V G K (wM G σ) (pc + 3) lv (.ref (aM G 8) :: rest)) : F → V G K (wM G σ) pc lv (.ref (aM G 0) :: rest) := v_get C _ (om_6) rfl inlX6 18 (Nat.le_of_ble_eq_true rfl) rfl hq rfl hd k
theorem g6_steps (C : Ctx G K cc own nl fr lo) {index : Nat} (hq : Cond.fieldLink own index "TreeClimbModel" "steps" "[I" ∈ wsL_law) (hd : decode cc pc = .ok (.getfield index, 3)) (k : F → V G K (wM G σ) (pc + 3) lv (.ref (aM G 9) :: rest)) : F → V G K (wM G σ) pc lv (.ref (aM G 0) :: rest) := v_get C _ (om_6) rfl inlX6 19 (Nat.le_of_ble_eq_true rfl) rfl hq rfl hd k
theorem g6_nows (C : Ctx G K cc own nl fr lo) {index : Nat} (hq : Cond.fieldLink own index "TreeClimbModel" "nows" "[J" ∈ wsL_law) (hd : decode cc pc = .ok (.getfield index, 3)) (k : F → V G K (wM G σ) (pc + 3) lv (.ref (aM G 10) :: rest)) : F → V G K (wM G σ) pc lv (.ref (aM G 0) :: rest) := v_get C _ (om_6) rfl inlX6 20 (Nat.le_of_ble_eq_true rfl) rfl hq rfl hd k
theorem g6_then (C : Ctx G K cc own nl fr lo) {index : Nat} (hq : Cond.fieldLink own index "TreeClimbModel" "then" "[J" ∈ wsL_law) (hd : decode cc pc = .ok (.getfield index, 3)) (k : F → V G K (wM G σ) (pc + 3) lv (.ref (aM G 11) :: rest)) : F → V G K (wM G σ) pc lv (.ref (aM G 0) :: rest) := v_get C _ (om_6) rfl inlX6 21 (Nat.le_of_ble_eq_true rfl) rfl hq rfl hd k
theorem g6_ups (C : Ctx G K cc own nl fr lo) {index : Nat} (hq : Cond.fieldLink own index "TreeClimbModel" "ups" "[J" ∈ wsL_law) (hd : decode cc pc = .ok (.getfield index, 3)) (k : F → V G K (wM G σ) (pc + 3) lv (.ref (aM G 12) :: rest)) : F → V G K (wM G σ) pc lv (.ref (aM G 0) :: rest) := v_get C _ (om_6) rfl inlX6 22 (Nat.le_of_ble_eq_true rfl) rfl hq rfl hd k
theorem g6_struck (C : Ctx G K cc own nl fr lo) {index : Nat} (hq : Cond.fieldLink own index "TreeClimbModel" "struck" "I" ∈ wsL_law) (hd : decode cc pc = .ok (.getfield index, 3)) (k : F → V G K (wM G σ) (pc + 3) lv (.int (σ.1 0 23) :: rest)) : F → V G K (wM G σ) pc lv (.ref (aM G 0) :: rest) := v_get C _ (om_6) rfl inlX6 23 (Nat.le_of_ble_eq_true rfl) rfl hq rfl hd k
theorem e6_struck (v : Int32) : (wM G σ).set (0) (aM G 0, .inr (6, [.long (σ.2.1 0 0), .ref (aM G 1), .int (σ.1 0 2), .ref (aM G 2), .ref (aM G 3), .ref (aM G 4), .ref (aM G 5), .ref (aM G 6), .int (σ.1 0 8), .int (σ.1 0 9), .int (σ.1 0 10), .int (σ.1 0 11), .int (σ.1 0 12), .ref (aM G 7), .int (σ.1 0 14), .int (σ.1 0 15), .int (σ.1 0 16), .int (σ.1 0 17), .ref (aM G 8), .ref (aM G 9), .ref (aM G 10), .ref (aM G 11), .ref (aM G 12), .int (σ.1 0 23), .int (σ.1 0 24), .ref (aM G 13), .ref (aM G 14), .ref (aM G 15), .ref (aM G 16), .ref (aM G 17), .ref (aM G 18), .ref (aM G 19), .ref (aM G 20), .ref (aM G 21), .ref (aM G 22), .ref (aM G 23)].set 23 (.int v))) = wM G (sI σ 0 23 v) := rfl
theorem p6_struck (C : Ctx G K cc own nl fr lo) {index : Nat} {v : Int32} (hq : Cond.fieldLink own index "TreeClimbModel" "struck" "I" ∈ wsL_law) (hd : decode cc pc = .ok (.putfield index, 3)) (k : F → V G K (wM G (sI σ 0 23 v)) (pc + 3) lv rest) : F → V G K (wM G σ) pc lv (.int v :: .ref (aM G 0) :: rest) := v_put C _ (om_6) rfl inlX6 tyX6 tyX6_ok nmX6 23 (Nat.le_of_ble_eq_true rfl) rfl hq rfl rfl rfl (Nat.le_of_ble_eq_true rfl) (e6_struck v) hd k
theorem g6_afternoons (C : Ctx G K cc own nl fr lo) {index : Nat} (hq : Cond.fieldLink own index "TreeClimbModel" "afternoons" "I" ∈ wsL_law) (hd : decode cc pc = .ok (.getfield index, 3)) (k : F → V G K (wM G σ) (pc + 3) lv (.int (σ.1 0 24) :: rest)) : F → V G K (wM G σ) pc lv (.ref (aM G 0) :: rest) := v_get C _ (om_6) rfl inlX6 24 (Nat.le_of_ble_eq_true rfl) rfl hq rfl hd k
theorem e6_afternoons (v : Int32) : (wM G σ).set (0) (aM G 0, .inr (6, [.long (σ.2.1 0 0), .ref (aM G 1), .int (σ.1 0 2), .ref (aM G 2), .ref (aM G 3), .ref (aM G 4), .ref (aM G 5), .ref (aM G 6), .int (σ.1 0 8), .int (σ.1 0 9), .int (σ.1 0 10), .int (σ.1 0 11), .int (σ.1 0 12), .ref (aM G 7), .int (σ.1 0 14), .int (σ.1 0 15), .int (σ.1 0 16), .int (σ.1 0 17), .ref (aM G 8), .ref (aM G 9), .ref (aM G 10), .ref (aM G 11), .ref (aM G 12), .int (σ.1 0 23), .int (σ.1 0 24), .ref (aM G 13), .ref (aM G 14), .ref (aM G 15), .ref (aM G 16), .ref (aM G 17), .ref (aM G 18), .ref (aM G 19), .ref (aM G 20), .ref (aM G 21), .ref (aM G 22), .ref (aM G 23)].set 24 (.int v))) = wM G (sI σ 0 24 v) := rfl
theorem p6_afternoons (C : Ctx G K cc own nl fr lo) {index : Nat} {v : Int32} (hq : Cond.fieldLink own index "TreeClimbModel" "afternoons" "I" ∈ wsL_law) (hd : decode cc pc = .ok (.putfield index, 3)) (k : F → V G K (wM G (sI σ 0 24 v)) (pc + 3) lv rest) : F → V G K (wM G σ) pc lv (.int v :: .ref (aM G 0) :: rest) := v_put C _ (om_6) rfl inlX6 tyX6 tyX6_ok nmX6 24 (Nat.le_of_ble_eq_true rfl) rfl hq rfl rfl rfl (Nat.le_of_ble_eq_true rfl) (e6_afternoons v) hd k
theorem g6_whose (C : Ctx G K cc own nl fr lo) {index : Nat} (hq : Cond.fieldLink own index "TreeClimbModel" "whose" "[I" ∈ wsL_law) (hd : decode cc pc = .ok (.getfield index, 3)) (k : F → V G K (wM G σ) (pc + 3) lv (.ref (aM G 13) :: rest)) : F → V G K (wM G σ) pc lv (.ref (aM G 0) :: rest) := v_get C _ (om_6) rfl inlX6 25 (Nat.le_of_ble_eq_true rfl) rfl hq rfl hd k
theorem g6_looks (C : Ctx G K cc own nl fr lo) {index : Nat} (hq : Cond.fieldLink own index "TreeClimbModel" "looks" "[I" ∈ wsL_law) (hd : decode cc pc = .ok (.getfield index, 3)) (k : F → V G K (wM G σ) (pc + 3) lv (.ref (aM G 14) :: rest)) : F → V G K (wM G σ) pc lv (.ref (aM G 0) :: rest) := v_get C _ (om_6) rfl inlX6 26 (Nat.le_of_ble_eq_true rfl) rfl hq rfl hd k
theorem g6_highs (C : Ctx G K cc own nl fr lo) {index : Nat} (hq : Cond.fieldLink own index "TreeClimbModel" "highs" "[I" ∈ wsL_law) (hd : decode cc pc = .ok (.getfield index, 3)) (k : F → V G K (wM G σ) (pc + 3) lv (.ref (aM G 15) :: rest)) : F → V G K (wM G σ) pc lv (.ref (aM G 0) :: rest) := v_get C _ (om_6) rfl inlX6 27 (Nat.le_of_ble_eq_true rfl) rfl hq rfl hd k
theorem g6_who (C : Ctx G K cc own nl fr lo) {index : Nat} (hq : Cond.fieldLink own index "TreeClimbModel" "who" "[I" ∈ wsL_law) (hd : decode cc pc = .ok (.getfield index, 3)) (k : F → V G K (wM G σ) (pc + 3) lv (.ref (aM G 16) :: rest)) : F → V G K (wM G σ) pc lv (.ref (aM G 0) :: rest) := v_get C _ (om_6) rfl inlX6 28 (Nat.le_of_ble_eq_true rfl) rfl hq rfl hd k
theorem g6_where (C : Ctx G K cc own nl fr lo) {index : Nat} (hq : Cond.fieldLink own index "TreeClimbModel" "where" "[I" ∈ wsL_law) (hd : decode cc pc = .ok (.getfield index, 3)) (k : F → V G K (wM G σ) (pc + 3) lv (.ref (aM G 17) :: rest)) : F → V G K (wM G σ) pc lv (.ref (aM G 0) :: rest) := v_get C _ (om_6) rfl inlX6 29 (Nat.le_of_ble_eq_true rfl) rfl hq rfl hd k
theorem g6_hurt (C : Ctx G K cc own nl fr lo) {index : Nat} (hq : Cond.fieldLink own index "TreeClimbModel" "hurt" "[I" ∈ wsL_law) (hd : decode cc pc = .ok (.getfield index, 3)) (k : F → V G K (wM G σ) (pc + 3) lv (.ref (aM G 18) :: rest)) : F → V G K (wM G σ) pc lv (.ref (aM G 0) :: rest) := v_get C _ (om_6) rfl inlX6 30 (Nat.le_of_ble_eq_true rfl) rfl hq rfl hd k
theorem g6_tops (C : Ctx G K cc own nl fr lo) {index : Nat} (hq : Cond.fieldLink own index "TreeClimbModel" "tops" "[I" ∈ wsL_law) (hd : decode cc pc = .ok (.getfield index, 3)) (k : F → V G K (wM G σ) (pc + 3) lv (.ref (aM G 19) :: rest)) : F → V G K (wM G σ) pc lv (.ref (aM G 0) :: rest) := v_get C _ (om_6) rfl inlX6 31 (Nat.le_of_ble_eq_true rfl) rfl hq rfl hd k
theorem g6_held (C : Ctx G K cc own nl fr lo) {index : Nat} (hq : Cond.fieldLink own index "TreeClimbModel" "held" "[I" ∈ wsL_law) (hd : decode cc pc = .ok (.getfield index, 3)) (k : F → V G K (wM G σ) (pc + 3) lv (.ref (aM G 20) :: rest)) : F → V G K (wM G σ) pc lv (.ref (aM G 0) :: rest) := v_get C _ (om_6) rfl inlX6 32 (Nat.le_of_ble_eq_true rfl) rfl hq rfl hd k
theorem g6_falls (C : Ctx G K cc own nl fr lo) {index : Nat} (hq : Cond.fieldLink own index "TreeClimbModel" "falls" "[I" ∈ wsL_law) (hd : decode cc pc = .ok (.getfield index, 3)) (k : F → V G K (wM G σ) (pc + 3) lv (.ref (aM G 21) :: rest)) : F → V G K (wM G σ) pc lv (.ref (aM G 0) :: rest) := v_get C _ (om_6) rfl inlX6 33 (Nat.le_of_ble_eq_true rfl) rfl hq rfl hd k
theorem g6_lots (C : Ctx G K cc own nl fr lo) {index : Nat} (hq : Cond.fieldLink own index "TreeClimbModel" "lots" "[I" ∈ wsL_law) (hd : decode cc pc = .ok (.getfield index, 3)) (k : F → V G K (wM G σ) (pc + 3) lv (.ref (aM G 22) :: rest)) : F → V G K (wM G σ) pc lv (.ref (aM G 0) :: rest) := v_get C _ (om_6) rfl inlX6 34 (Nat.le_of_ble_eq_true rfl) rfl hq rfl hd k
theorem g6_isKept (C : Ctx G K cc own nl fr lo) {index : Nat} (hq : Cond.fieldLink own index "TreeClimbModel" "isKept" "[Z" ∈ wsL_law) (hd : decode cc pc = .ok (.getfield index, 3)) (k : F → V G K (wM G σ) (pc + 3) lv (.ref (aM G 23) :: rest)) : F → V G K (wM G σ) pc lv (.ref (aM G 0) :: rest) := v_get C _ (om_6) rfl inlX6 35 (Nat.le_of_ble_eq_true rfl) rfl hq rfl hd k
theorem e5_wood (v : Bool) : (wX G σ).set (0) (aX G 0, .inr (5, [.ref (aX G 1), .ref (aX G 2), .ref (aX G 4), .ref (aX G 12), .ref (aX G 17), .ref (aX G 16), .ref (aX G (wB (σ.2.2 0))), .ref (aX G (wB (σ.2.2 1))), .long (σ.2.1 0 8)].set 6 (.ref (aX G (wB v))))) = wX G (sB σ 0 v) := rfl
theorem p5_wood (C : Ctx G K cc own nl fr lo) {index : Nat} {v : Bool} (hq : Cond.fieldLink own index "TreeClimb" "wood" "LTreeClimb$Wood;" ∈ wsL_law) (hd : decode cc pc = .ok (.putfield index, 3)) (k : F → V G K (wX G (sB σ 0 v)) (pc + 3) lv rest) : F → V G K (wX G σ) pc lv (.ref (aX G (wB v)) :: .ref (aX G 0) :: rest) := v_put C _ (ox_5) rfl inlX5 tyX5 tyX5_ok nmX5 6 (Nat.le_of_ble_eq_true rfl) rfl hq rfl rfl rfl (Nat.le_of_ble_eq_true rfl) (e5_wood v) hd k
theorem e5_draft (v : Bool) : (wX G σ).set (0) (aX G 0, .inr (5, [.ref (aX G 1), .ref (aX G 2), .ref (aX G 4), .ref (aX G 12), .ref (aX G 17), .ref (aX G 16), .ref (aX G (wB (σ.2.2 0))), .ref (aX G (wB (σ.2.2 1))), .long (σ.2.1 0 8)].set 7 (.ref (aX G (wB v))))) = wX G (sB σ 1 v) := rfl
theorem p5_draft (C : Ctx G K cc own nl fr lo) {index : Nat} {v : Bool} (hq : Cond.fieldLink own index "TreeClimb" "draft" "LTreeClimb$Wood;" ∈ wsL_law) (hd : decode cc pc = .ok (.putfield index, 3)) (k : F → V G K (wX G (sB σ 1 v)) (pc + 3) lv rest) : F → V G K (wX G σ) pc lv (.ref (aX G (wB v)) :: .ref (aX G 0) :: rest) := v_put C _ (ox_5) rfl inlX5 tyX5 tyX5_ok nmX5 7 (Nat.le_of_ble_eq_true rfl) rfl hq rfl rfl rfl (Nat.le_of_ble_eq_true rfl) (e5_draft v) hd k
theorem e3_before (v : Bool) : (wX G σ).set (4) (aX G 4, .inr (3, [.ref (aX G 5), .ref (aX G 6), .ref (aX G 7), .ref (aX G 8), .ref (aX G 9), .ref (aX G (bB (σ.2.2 2))), .ref (aX G (bB (σ.2.2 3)))].set 5 (.ref (aX G (bB v))))) = wX G (sB σ 2 v) := rfl
theorem p3_before (C : Ctx G K cc own nl fr lo) {index : Nat} {v : Bool} (hq : Cond.fieldLink own index "TreeClimb$Ways" "before" "[J" ∈ wsL_law) (hd : decode cc pc = .ok (.putfield index, 3)) (k : F → V G K (wX G (sB σ 2 v)) (pc + 3) lv rest) : F → V G K (wX G σ) pc lv (.ref (aX G (bB v)) :: .ref (aX G 4) :: rest) := v_put C _ (ox_3) rfl inlX3 tyX3 tyX3_ok nmX3 5 (Nat.le_of_ble_eq_true rfl) rfl hq rfl rfl rfl (Nat.le_of_ble_eq_true rfl) (e3_before v) hd k
theorem e3_after (v : Bool) : (wX G σ).set (4) (aX G 4, .inr (3, [.ref (aX G 5), .ref (aX G 6), .ref (aX G 7), .ref (aX G 8), .ref (aX G 9), .ref (aX G (bB (σ.2.2 2))), .ref (aX G (bB (σ.2.2 3)))].set 6 (.ref (aX G (bB v))))) = wX G (sB σ 3 v) := rfl
theorem p3_after (C : Ctx G K cc own nl fr lo) {index : Nat} {v : Bool} (hq : Cond.fieldLink own index "TreeClimb$Ways" "after" "[J" ∈ wsL_law) (hd : decode cc pc = .ok (.putfield index, 3)) (k : F → V G K (wX G (sB σ 3 v)) (pc + 3) lv rest) : F → V G K (wX G σ) pc lv (.ref (aX G (bB v)) :: .ref (aX G 4) :: rest) := v_put C _ (ox_3) rfl inlX3 tyX3 tyX3_ok nmX3 6 (Nat.le_of_ble_eq_true rfl) rfl hq rfl rfl rfl (Nat.le_of_ble_eq_true rfl) (e3_after v) hd k
theorem ax_1 : (wX G σ)[1]? = some (aX G 1, .inl (gC G 0, 6, .inl (σ.1 1))) := rfl
theorem as_1 (j : Nat) (v : Int32) : (wX G σ).set 1 (aX G 1, .inl (gC G 0, 6, .inl (upd (σ.1 1) j v))) = wX G (sI σ 1 j v) := rfl
theorem ax_3 : (wX G σ)[3]? = some (aX G 3, .inl (gC G 0, 400, .inl (σ.1 3))) := rfl
theorem as_3 (j : Nat) (v : Int32) : (wX G σ).set 3 (aX G 3, .inl (gC G 0, 400, .inl (upd (σ.1 3) j v))) = wX G (sI σ 3 j v) := rfl
theorem ax_5 : (wX G σ)[5]? = some (aX G 5, .inl (gC G 0, 13, .inl (σ.1 5))) := rfl
theorem as_5 (j : Nat) (v : Int32) : (wX G σ).set 5 (aX G 5, .inl (gC G 0, 13, .inl (upd (σ.1 5) j v))) = wX G (sI σ 5 j v) := rfl
theorem ax_6 : (wX G σ)[6]? = some (aX G 6, .inl (gC G 0, 13, .inl (σ.1 6))) := rfl
theorem as_6 (j : Nat) (v : Int32) : (wX G σ).set 6 (aX G 6, .inl (gC G 0, 13, .inl (upd (σ.1 6) j v))) = wX G (sI σ 6 j v) := rfl
theorem ax_7 : (wX G σ)[7]? = some (aX G 7, .inl (gC G 0, 13, .inl (σ.1 7))) := rfl
theorem as_7 (j : Nat) (v : Int32) : (wX G σ).set 7 (aX G 7, .inl (gC G 0, 13, .inl (upd (σ.1 7) j v))) = wX G (sI σ 7 j v) := rfl
theorem ax_8 : (wX G σ)[8]? = some (aX G 8, .inl (gC G 1, 13, .inr (.inl (σ.2.1 8)))) := rfl
theorem as_8 (j : Nat) (v : Int64) : (wX G σ).set 8 (aX G 8, .inl (gC G 1, 13, .inr (.inl (vp_updL (σ.2.1 8) j v)))) = wX G (sL σ 8 j v) := rfl
theorem ax_9 : (wX G σ)[9]? = some (aX G 9, .inl (gC G 1, 13, .inr (.inl (σ.2.1 9)))) := rfl
theorem as_9 (j : Nat) (v : Int64) : (wX G σ).set 9 (aX G 9, .inl (gC G 1, 13, .inr (.inl (vp_updL (σ.2.1 9) j v)))) = wX G (sL σ 9 j v) := rfl
theorem ax_13 : (wX G σ)[13]? = some (aX G 13, .inl (gC G 0, 40, .inl (σ.1 13))) := rfl
theorem as_13 (j : Nat) (v : Int32) : (wX G σ).set 13 (aX G 13, .inl (gC G 0, 40, .inl (upd (σ.1 13) j v))) = wX G (sI σ 13 j v) := rfl
theorem ax_14 : (wX G σ)[14]? = some (aX G 14, .inl (gC G 0, 40, .inl (σ.1 14))) := rfl
theorem as_14 (j : Nat) (v : Int32) : (wX G σ).set 14 (aX G 14, .inl (gC G 0, 40, .inl (upd (σ.1 14) j v))) = wX G (sI σ 14 j v) := rfl
theorem ax_15 : (wX G σ)[15]? = some (aX G 15, .inl (gC G 0, 40, .inl (σ.1 15))) := rfl
theorem as_15 (j : Nat) (v : Int32) : (wX G σ).set 15 (aX G 15, .inl (gC G 0, 40, .inl (upd (σ.1 15) j v))) = wX G (sI σ 15 j v) := rfl
theorem am_1 : (wM G σ)[1]? = some (aM G 1, .inl (gC G 2, 400, .inl (σ.1 1))) := rfl
theorem at_1 (j : Nat) (v : Int32) : (wM G σ).set 1 (aM G 1, .inl (gC G 2, 400, .inl (upd (σ.1 1) j (vp_nar .byte v)))) = wM G (sI σ 1 j (vp_nar .byte v)) := rfl
theorem am_2 : (wM G σ)[2]? = some (aM G 2, .inl (gC G 0, 2, .inl (σ.1 2))) := rfl
theorem at_2 (j : Nat) (v : Int32) : (wM G σ).set 2 (aM G 2, .inl (gC G 0, 2, .inl (upd (σ.1 2) j v))) = wM G (sI σ 2 j v) := rfl
theorem am_3 : (wM G σ)[3]? = some (aM G 3, .inl (gC G 0, 144, .inl (σ.1 3))) := rfl
theorem at_3 (j : Nat) (v : Int32) : (wM G σ).set 3 (aM G 3, .inl (gC G 0, 144, .inl (upd (σ.1 3) j v))) = wM G (sI σ 3 j v) := rfl
theorem am_4 : (wM G σ)[4]? = some (aM G 4, .inl (gC G 0, 2, .inl (σ.1 4))) := rfl
theorem at_4 (j : Nat) (v : Int32) : (wM G σ).set 4 (aM G 4, .inl (gC G 0, 2, .inl (upd (σ.1 4) j v))) = wM G (sI σ 4 j v) := rfl
theorem am_5 : (wM G σ)[5]? = some (aM G 5, .inl (gC G 0, 18, .inl (σ.1 5))) := rfl
theorem at_5 (j : Nat) (v : Int32) : (wM G σ).set 5 (aM G 5, .inl (gC G 0, 18, .inl (upd (σ.1 5) j v))) = wM G (sI σ 5 j v) := rfl
theorem am_6 : (wM G σ)[6]? = some (aM G 6, .inl (gC G 0, 6, .inl (σ.1 6))) := rfl
theorem at_6 (j : Nat) (v : Int32) : (wM G σ).set 6 (aM G 6, .inl (gC G 0, 6, .inl (upd (σ.1 6) j v))) = wM G (sI σ 6 j v) := rfl
theorem am_7 : (wM G σ)[7]? = some (aM G 7, .inl (gC G 0, 3, .inl (σ.1 7))) := rfl
theorem at_7 (j : Nat) (v : Int32) : (wM G σ).set 7 (aM G 7, .inl (gC G 0, 3, .inl (upd (σ.1 7) j v))) = wM G (sI σ 7 j v) := rfl
theorem am_8 : (wM G σ)[8]? = some (aM G 8, .inl (gC G 1, 13, .inr (.inl (σ.2.1 8)))) := rfl
theorem at_8 (j : Nat) (v : Int64) : (wM G σ).set 8 (aM G 8, .inl (gC G 1, 13, .inr (.inl (vp_updL (σ.2.1 8) j v)))) = wM G (sL σ 8 j v) := rfl
theorem am_9 : (wM G σ)[9]? = some (aM G 9, .inl (gC G 0, 13, .inl (σ.1 9))) := rfl
theorem at_9 (j : Nat) (v : Int32) : (wM G σ).set 9 (aM G 9, .inl (gC G 0, 13, .inl (upd (σ.1 9) j v))) = wM G (sI σ 9 j v) := rfl
theorem am_10 : (wM G σ)[10]? = some (aM G 10, .inl (gC G 1, 13, .inr (.inl (σ.2.1 10)))) := rfl
theorem at_10 (j : Nat) (v : Int64) : (wM G σ).set 10 (aM G 10, .inl (gC G 1, 13, .inr (.inl (vp_updL (σ.2.1 10) j v)))) = wM G (sL σ 10 j v) := rfl
theorem am_11 : (wM G σ)[11]? = some (aM G 11, .inl (gC G 1, 13, .inr (.inl (σ.2.1 11)))) := rfl
theorem at_11 (j : Nat) (v : Int64) : (wM G σ).set 11 (aM G 11, .inl (gC G 1, 13, .inr (.inl (vp_updL (σ.2.1 11) j v)))) = wM G (sL σ 11 j v) := rfl
theorem am_12 : (wM G σ)[12]? = some (aM G 12, .inl (gC G 1, 13, .inr (.inl (σ.2.1 12)))) := rfl
theorem at_12 (j : Nat) (v : Int64) : (wM G σ).set 12 (aM G 12, .inl (gC G 1, 13, .inr (.inl (vp_updL (σ.2.1 12) j v)))) = wM G (sL σ 12 j v) := rfl
theorem am_13 : (wM G σ)[13]? = some (aM G 13, .inl (gC G 0, 40, .inl (σ.1 13))) := rfl
theorem at_13 (j : Nat) (v : Int32) : (wM G σ).set 13 (aM G 13, .inl (gC G 0, 40, .inl (upd (σ.1 13) j v))) = wM G (sI σ 13 j v) := rfl
theorem am_14 : (wM G σ)[14]? = some (aM G 14, .inl (gC G 0, 40, .inl (σ.1 14))) := rfl
theorem at_14 (j : Nat) (v : Int32) : (wM G σ).set 14 (aM G 14, .inl (gC G 0, 40, .inl (upd (σ.1 14) j v))) = wM G (sI σ 14 j v) := rfl
theorem am_15 : (wM G σ)[15]? = some (aM G 15, .inl (gC G 0, 40, .inl (σ.1 15))) := rfl
theorem at_15 (j : Nat) (v : Int32) : (wM G σ).set 15 (aM G 15, .inl (gC G 0, 40, .inl (upd (σ.1 15) j v))) = wM G (sI σ 15 j v) := rfl
theorem am_16 : (wM G σ)[16]? = some (aM G 16, .inl (gC G 0, 3, .inl (σ.1 16))) := rfl
theorem at_16 (j : Nat) (v : Int32) : (wM G σ).set 16 (aM G 16, .inl (gC G 0, 3, .inl (upd (σ.1 16) j v))) = wM G (sI σ 16 j v) := rfl
theorem am_17 : (wM G σ)[17]? = some (aM G 17, .inl (gC G 0, 3, .inl (σ.1 17))) := rfl
theorem at_17 (j : Nat) (v : Int32) : (wM G σ).set 17 (aM G 17, .inl (gC G 0, 3, .inl (upd (σ.1 17) j v))) = wM G (sI σ 17 j v) := rfl
theorem am_18 : (wM G σ)[18]? = some (aM G 18, .inl (gC G 0, 3, .inl (σ.1 18))) := rfl
theorem at_18 (j : Nat) (v : Int32) : (wM G σ).set 18 (aM G 18, .inl (gC G 0, 3, .inl (upd (σ.1 18) j v))) = wM G (sI σ 18 j v) := rfl
theorem am_19 : (wM G σ)[19]? = some (aM G 19, .inl (gC G 0, 3, .inl (σ.1 19))) := rfl
theorem at_19 (j : Nat) (v : Int32) : (wM G σ).set 19 (aM G 19, .inl (gC G 0, 3, .inl (upd (σ.1 19) j v))) = wM G (sI σ 19 j v) := rfl
theorem am_20 : (wM G σ)[20]? = some (aM G 20, .inl (gC G 0, 3, .inl (σ.1 20))) := rfl
theorem at_20 (j : Nat) (v : Int32) : (wM G σ).set 20 (aM G 20, .inl (gC G 0, 3, .inl (upd (σ.1 20) j v))) = wM G (sI σ 20 j v) := rfl
theorem am_21 : (wM G σ)[21]? = some (aM G 21, .inl (gC G 0, 3, .inl (σ.1 21))) := rfl
theorem at_21 (j : Nat) (v : Int32) : (wM G σ).set 21 (aM G 21, .inl (gC G 0, 3, .inl (upd (σ.1 21) j v))) = wM G (sI σ 21 j v) := rfl
theorem am_22 : (wM G σ)[22]? = some (aM G 22, .inl (gC G 0, 3, .inl (σ.1 22))) := rfl
theorem at_22 (j : Nat) (v : Int32) : (wM G σ).set 22 (aM G 22, .inl (gC G 0, 3, .inl (upd (σ.1 22) j v))) = wM G (sI σ 22 j v) := rfl
theorem am_23 : (wM G σ)[23]? = some (aM G 23, .inl (gC G 3, 2, .inl (σ.1 23))) := rfl
theorem at_23 (j : Nat) (v : Int32) : (wM G σ).set 23 (aM G 23, .inl (gC G 3, 2, .inl (upd (σ.1 23) j (vp_nar .boolean v)))) = wM G (sI σ 23 j (vp_nar .boolean v)) := rfl
theorem ax_bB (b : Bool) : (wX G σ)[(bB b)]? = some (aX G (bB b), .inl (gC G 1, 13, .inr (.inl (σ.2.1 (bB b))))) := by cases b <;> rfl
theorem as_bB (b : Bool) (j : Nat) (v : Int64) : (wX G σ).set (bB b) (aX G (bB b), .inl (gC G 1, 13, .inr (.inl (vp_updL (σ.2.1 (bB b)) j v)))) = wX G (sL σ (bB b) j v) := by cases b <;> rfl
theorem ax_dn (b : Bool) : (wX G σ)[(wB b + 12)]? = some (aX G (wB b + 12), .inl (gC G 0, 12, .inl (σ.1 (wB b + 12)))) := by cases b <;> rfl
theorem as_dn (b : Bool) (j : Nat) (v : Int32) : (wX G σ).set (wB b + 12) (aX G (wB b + 12), .inl (gC G 0, 12, .inl (upd (σ.1 (wB b + 12)) j v))) = wX G (sI σ (wB b + 12) j v) := by cases b <;> rfl
theorem ax_un (b : Bool) : (wX G σ)[(wB b + 13)]? = some (aX G (wB b + 13), .inl (gC G 0, 12, .inl (σ.1 (wB b + 13)))) := by cases b <;> rfl
theorem as_un (b : Bool) (j : Nat) (v : Int32) : (wX G σ).set (wB b + 13) (aX G (wB b + 13), .inl (gC G 0, 12, .inl (upd (σ.1 (wB b + 13)) j v))) = wX G (sI σ (wB b + 13) j v) := by cases b <;> rfl
theorem ax_fr (b : Bool) (i : Nat) (hi : i < 6) : (wX G σ)[(wB b + 2 + i)]? = some (aX G (wB b + 2 + i), .inl (gC G 0, 12, .inl (σ.1 (wB b + 2 + i)))) := by
  cases b <;> match i, hi with
  | 0, _ => rfl
  | 1, _ => rfl
  | 2, _ => rfl
  | 3, _ => rfl
  | 4, _ => rfl
  | 5, _ => rfl
theorem as_fr (b : Bool) (i : Nat) (hi : i < 6) (j : Nat) (v : Int32) : (wX G σ).set (wB b + 2 + i) (aX G (wB b + 2 + i), .inl (gC G 0, 12, .inl (upd (σ.1 (wB b + 2 + i)) j v))) = wX G (sI σ (wB b + 2 + i) j v) := by
  cases b <;> match i, hi with
  | 0, _ => rfl
  | 1, _ => rfl
  | 2, _ => rfl
  | 3, _ => rfl
  | 4, _ => rfl
  | 5, _ => rfl
theorem ax_pr (b : Bool) (i : Nat) (hi : i < 3) : (wX G σ)[(wB b + 9 + i)]? = some (aX G (wB b + 9 + i), .inl (gC G 0, 3, .inl (σ.1 (wB b + 9 + i)))) := by
  cases b <;> match i, hi with
  | 0, _ => rfl
  | 1, _ => rfl
  | 2, _ => rfl
theorem as_pr (b : Bool) (i : Nat) (hi : i < 3) (j : Nat) (v : Int32) : (wX G σ).set (wB b + 9 + i) (aX G (wB b + 9 + i), .inl (gC G 0, 3, .inl (upd (σ.1 (wB b + 9 + i)) j v))) = wX G (sI σ (wB b + 9 + i) j v) := by
  cases b <;> match i, hi with
  | 0, _ => rfl
  | 1, _ => rfl
  | 2, _ => rfl
theorem ax_im : (wX G σ)[16]? = some (aX G 16, .inl (gC G 4, 2, .inr (.inr (.inr (.inr (fun i => if i < 2 then some (aX G (18 + i)) else none)))))) := rfl
theorem ax_f2 (b : Bool) : (wX G σ)[wB b + 1]? = some (aX G (wB b + 1), .inl (gC G 5, 6, .inr (.inr (.inr (.inr (fun i => if i < 6 then some (aX G (wB b + 2 + i)) else none)))))) := by cases b <;> rfl
theorem ax_p2 (b : Bool) : (wX G σ)[wB b + 8]? = some (aX G (wB b + 8), .inl (gC G 5, 3, .inr (.inr (.inr (.inr (fun i => if i < 3 then some (aX G (wB b + 9 + i)) else none)))))) := by cases b <;> rfl
end WROWS
theorem r_lti {G : GT} {K : KT} {w : va_W} {pc : Nat} {lv : List (Nat × Value)} {rest : List Value} {α : Type} {a : Int32} {f : Int32 → Option α} {Φ : α → Prop} (k : ∀ x, tp (f x) Φ → V G K w pc lv (.int x :: rest)) : tp (lt a f) Φ → V G K w pc lv (.int a :: rest) := fun h => k a h
theorem r_ltl {G : GT} {K : KT} {w : va_W} {pc : Nat} {lv : List (Nat × Value)} {rest : List Value} {α : Type} {a : Int64} {f : Int64 → Option α} {Φ : α → Prop} (k : ∀ x, tp (f x) Φ → V G K w pc lv (.long x :: rest)) : tp (lt a f) Φ → V G K w pc lv (.long a :: rest) := fun h => k a h
theorem r_ltx {G : GT} {K : KT} {pc : Nat} {lv : List (Nat × Value)} {st : List Value} {α : Type} {a : SS} {f : SS → Option α} {Φ : α → Prop} (k : ∀ x, tp (f x) Φ → V G K (wX G x) pc lv st) : tp (lt a f) Φ → V G K (wX G a) pc lv st := fun h => k a h
theorem r_ltm {G : GT} {K : KT} {pc : Nat} {lv : List (Nat × Value)} {st : List Value} {α : Type} {a : SS} {f : SS → Option α} {Φ : α → Prop} (k : ∀ x, tp (f x) Φ → V G K (wM G x) pc lv st) : tp (lt a f) Φ → V G K (wM G a) pc lv st := fun h => k a h
theorem r_lJ {α γ : Type} {a : α} {f : α → Option γ} {Φ : γ → Prop} {X : Prop} (J : (γ → Prop) → α → Prop) (hj : J Φ a) (k : ∀ x, J Φ x → tp (f x) Φ → X) : tp (lt a f) Φ → X := fun h => k a hj h
theorem v_iincL {G : GT} {K : KT} {cc : ByteArray} {own : String} {nl fr lo : Nat} {w : va_W} {pc : Nat} {lv lv0 : List (Nat × Value)} {st : List Value} (C : Ctx G K cc own nl fr lo) {i : Nat} {n : Int} {x : Int32} (v : Int32) (q : Nat) {α : Type} {f : Int32 → Option α} {Φ : α → Prop} (hd : decode cc pc = .ok (.iinc i n, 3)) (hq : lv[q]? = some (i, .int x)) (hv : Int32.ofInt n = v) (hn : i < nl) (hl2 : lv.filter (fun q => !(q.1 == i) && !(q.1 + 1 == i && q.2.category == 2)) = lv0) (k : ∀ y, tp (f y) Φ → V G K w (pc + 3) ((i, .int y) :: lv0) st) : tp (lt (x + v) f) Φ → V G K w pc lv st := v_iinc C v q hd hq hv hn (by rw [hl2]) (fun h => k _ h)
def bk1 {α1 β : Type} (x : Option (α1)) (f : α1 → Option β) : Option β := match x with | some a => f a | none => none
def k1 {α1 : Type} (Ψ : α1 → Prop) : (α1) → Prop := fun a => Ψ a
theorem r_bk1 {α1 β : Type} {x : Option (α1)} {f : α1 → Option β} {Φ : β → Prop} {X : Prop} (k : tp x (k1 fun x1 => tp (f x1) Φ) → X) : tp (bk1 x f) Φ → X := by
  intro ⟨b, h, q⟩
  cases x with
  | none => cases h
  | some a => exact k ⟨a, rfl, b, h, q⟩
def bs1 {α1 ρ β : Type} (x : Option ((α1) ⊕ ρ)) (f : α1 → Option β) (g : ρ → Option β) : Option β := match x with | some (.inl a) => f a | some (.inr r) => g r | none => none
theorem r_bs1 {α1 ρ β : Type} {x : Option ((α1) ⊕ ρ)} {f : α1 → Option β} {g : ρ → Option β} {Φ : β → Prop} {X : Prop} (k : tp x (uS (k1 fun x1 => tp (f x1) Φ) (fun r => tp (g r) Φ)) → X) : tp (bs1 x f g) Φ → X := by
  intro ⟨b, h, q⟩
  cases x with
  | none => cases h
  | some a =>
    cases a with
    | inl a => exact k ⟨.inl a, rfl, b, h, q⟩
    | inr r => exact k ⟨.inr r, rfl, b, h, q⟩
def bk2 {α1 α2 β : Type} (x : Option (α1 × α2)) (f : α1 → α2 → Option β) : Option β := match x with | some a => f a.1 a.2 | none => none
def k2 {α1 α2 : Type} (Ψ : α1 → α2 → Prop) : (α1 × α2) → Prop := fun a => Ψ a.1 a.2
theorem r_bk2 {α1 α2 β : Type} {x : Option (α1 × α2)} {f : α1 → α2 → Option β} {Φ : β → Prop} {X : Prop} (k : tp x (k2 fun x1 x2 => tp (f x1 x2) Φ) → X) : tp (bk2 x f) Φ → X := by
  intro ⟨b, h, q⟩
  cases x with
  | none => cases h
  | some a => exact k ⟨a, rfl, b, h, q⟩
def bs2 {α1 α2 ρ β : Type} (x : Option ((α1 × α2) ⊕ ρ)) (f : α1 → α2 → Option β) (g : ρ → Option β) : Option β := match x with | some (.inl a) => f a.1 a.2 | some (.inr r) => g r | none => none
theorem r_bs2 {α1 α2 ρ β : Type} {x : Option ((α1 × α2) ⊕ ρ)} {f : α1 → α2 → Option β} {g : ρ → Option β} {Φ : β → Prop} {X : Prop} (k : tp x (uS (k2 fun x1 x2 => tp (f x1 x2) Φ) (fun r => tp (g r) Φ)) → X) : tp (bs2 x f g) Φ → X := by
  intro ⟨b, h, q⟩
  cases x with
  | none => cases h
  | some a =>
    cases a with
    | inl a => exact k ⟨.inl a, rfl, b, h, q⟩
    | inr r => exact k ⟨.inr r, rfl, b, h, q⟩
def bk3 {α1 α2 α3 β : Type} (x : Option (α1 × α2 × α3)) (f : α1 → α2 → α3 → Option β) : Option β := match x with | some a => f a.1 a.2.1 a.2.2 | none => none
def k3 {α1 α2 α3 : Type} (Ψ : α1 → α2 → α3 → Prop) : (α1 × α2 × α3) → Prop := fun a => Ψ a.1 a.2.1 a.2.2
theorem r_bk3 {α1 α2 α3 β : Type} {x : Option (α1 × α2 × α3)} {f : α1 → α2 → α3 → Option β} {Φ : β → Prop} {X : Prop} (k : tp x (k3 fun x1 x2 x3 => tp (f x1 x2 x3) Φ) → X) : tp (bk3 x f) Φ → X := by
  intro ⟨b, h, q⟩
  cases x with
  | none => cases h
  | some a => exact k ⟨a, rfl, b, h, q⟩
def bs3 {α1 α2 α3 ρ β : Type} (x : Option ((α1 × α2 × α3) ⊕ ρ)) (f : α1 → α2 → α3 → Option β) (g : ρ → Option β) : Option β := match x with | some (.inl a) => f a.1 a.2.1 a.2.2 | some (.inr r) => g r | none => none
theorem r_bs3 {α1 α2 α3 ρ β : Type} {x : Option ((α1 × α2 × α3) ⊕ ρ)} {f : α1 → α2 → α3 → Option β} {g : ρ → Option β} {Φ : β → Prop} {X : Prop} (k : tp x (uS (k3 fun x1 x2 x3 => tp (f x1 x2 x3) Φ) (fun r => tp (g r) Φ)) → X) : tp (bs3 x f g) Φ → X := by
  intro ⟨b, h, q⟩
  cases x with
  | none => cases h
  | some a =>
    cases a with
    | inl a => exact k ⟨.inl a, rfl, b, h, q⟩
    | inr r => exact k ⟨.inr r, rfl, b, h, q⟩
def bk4 {α1 α2 α3 α4 β : Type} (x : Option (α1 × α2 × α3 × α4)) (f : α1 → α2 → α3 → α4 → Option β) : Option β := match x with | some a => f a.1 a.2.1 a.2.2.1 a.2.2.2 | none => none
def k4 {α1 α2 α3 α4 : Type} (Ψ : α1 → α2 → α3 → α4 → Prop) : (α1 × α2 × α3 × α4) → Prop := fun a => Ψ a.1 a.2.1 a.2.2.1 a.2.2.2
theorem r_bk4 {α1 α2 α3 α4 β : Type} {x : Option (α1 × α2 × α3 × α4)} {f : α1 → α2 → α3 → α4 → Option β} {Φ : β → Prop} {X : Prop} (k : tp x (k4 fun x1 x2 x3 x4 => tp (f x1 x2 x3 x4) Φ) → X) : tp (bk4 x f) Φ → X := by
  intro ⟨b, h, q⟩
  cases x with
  | none => cases h
  | some a => exact k ⟨a, rfl, b, h, q⟩
def bs4 {α1 α2 α3 α4 ρ β : Type} (x : Option ((α1 × α2 × α3 × α4) ⊕ ρ)) (f : α1 → α2 → α3 → α4 → Option β) (g : ρ → Option β) : Option β := match x with | some (.inl a) => f a.1 a.2.1 a.2.2.1 a.2.2.2 | some (.inr r) => g r | none => none
theorem r_bs4 {α1 α2 α3 α4 ρ β : Type} {x : Option ((α1 × α2 × α3 × α4) ⊕ ρ)} {f : α1 → α2 → α3 → α4 → Option β} {g : ρ → Option β} {Φ : β → Prop} {X : Prop} (k : tp x (uS (k4 fun x1 x2 x3 x4 => tp (f x1 x2 x3 x4) Φ) (fun r => tp (g r) Φ)) → X) : tp (bs4 x f g) Φ → X := by
  intro ⟨b, h, q⟩
  cases x with
  | none => cases h
  | some a =>
    cases a with
    | inl a => exact k ⟨.inl a, rfl, b, h, q⟩
    | inr r => exact k ⟨.inr r, rfl, b, h, q⟩
def bk5 {α1 α2 α3 α4 α5 β : Type} (x : Option (α1 × α2 × α3 × α4 × α5)) (f : α1 → α2 → α3 → α4 → α5 → Option β) : Option β := match x with | some a => f a.1 a.2.1 a.2.2.1 a.2.2.2.1 a.2.2.2.2 | none => none
def k5 {α1 α2 α3 α4 α5 : Type} (Ψ : α1 → α2 → α3 → α4 → α5 → Prop) : (α1 × α2 × α3 × α4 × α5) → Prop := fun a => Ψ a.1 a.2.1 a.2.2.1 a.2.2.2.1 a.2.2.2.2
theorem r_bk5 {α1 α2 α3 α4 α5 β : Type} {x : Option (α1 × α2 × α3 × α4 × α5)} {f : α1 → α2 → α3 → α4 → α5 → Option β} {Φ : β → Prop} {X : Prop} (k : tp x (k5 fun x1 x2 x3 x4 x5 => tp (f x1 x2 x3 x4 x5) Φ) → X) : tp (bk5 x f) Φ → X := by
  intro ⟨b, h, q⟩
  cases x with
  | none => cases h
  | some a => exact k ⟨a, rfl, b, h, q⟩
def bs5 {α1 α2 α3 α4 α5 ρ β : Type} (x : Option ((α1 × α2 × α3 × α4 × α5) ⊕ ρ)) (f : α1 → α2 → α3 → α4 → α5 → Option β) (g : ρ → Option β) : Option β := match x with | some (.inl a) => f a.1 a.2.1 a.2.2.1 a.2.2.2.1 a.2.2.2.2 | some (.inr r) => g r | none => none
theorem r_bs5 {α1 α2 α3 α4 α5 ρ β : Type} {x : Option ((α1 × α2 × α3 × α4 × α5) ⊕ ρ)} {f : α1 → α2 → α3 → α4 → α5 → Option β} {g : ρ → Option β} {Φ : β → Prop} {X : Prop} (k : tp x (uS (k5 fun x1 x2 x3 x4 x5 => tp (f x1 x2 x3 x4 x5) Φ) (fun r => tp (g r) Φ)) → X) : tp (bs5 x f g) Φ → X := by
  intro ⟨b, h, q⟩
  cases x with
  | none => cases h
  | some a =>
    cases a with
    | inl a => exact k ⟨.inl a, rfl, b, h, q⟩
    | inr r => exact k ⟨.inr r, rfl, b, h, q⟩
def bk6 {α1 α2 α3 α4 α5 α6 β : Type} (x : Option (α1 × α2 × α3 × α4 × α5 × α6)) (f : α1 → α2 → α3 → α4 → α5 → α6 → Option β) : Option β := match x with | some a => f a.1 a.2.1 a.2.2.1 a.2.2.2.1 a.2.2.2.2.1 a.2.2.2.2.2 | none => none
def k6 {α1 α2 α3 α4 α5 α6 : Type} (Ψ : α1 → α2 → α3 → α4 → α5 → α6 → Prop) : (α1 × α2 × α3 × α4 × α5 × α6) → Prop := fun a => Ψ a.1 a.2.1 a.2.2.1 a.2.2.2.1 a.2.2.2.2.1 a.2.2.2.2.2
theorem r_bk6 {α1 α2 α3 α4 α5 α6 β : Type} {x : Option (α1 × α2 × α3 × α4 × α5 × α6)} {f : α1 → α2 → α3 → α4 → α5 → α6 → Option β} {Φ : β → Prop} {X : Prop} (k : tp x (k6 fun x1 x2 x3 x4 x5 x6 => tp (f x1 x2 x3 x4 x5 x6) Φ) → X) : tp (bk6 x f) Φ → X := by
  intro ⟨b, h, q⟩
  cases x with
  | none => cases h
  | some a => exact k ⟨a, rfl, b, h, q⟩
def bs6 {α1 α2 α3 α4 α5 α6 ρ β : Type} (x : Option ((α1 × α2 × α3 × α4 × α5 × α6) ⊕ ρ)) (f : α1 → α2 → α3 → α4 → α5 → α6 → Option β) (g : ρ → Option β) : Option β := match x with | some (.inl a) => f a.1 a.2.1 a.2.2.1 a.2.2.2.1 a.2.2.2.2.1 a.2.2.2.2.2 | some (.inr r) => g r | none => none
theorem r_bs6 {α1 α2 α3 α4 α5 α6 ρ β : Type} {x : Option ((α1 × α2 × α3 × α4 × α5 × α6) ⊕ ρ)} {f : α1 → α2 → α3 → α4 → α5 → α6 → Option β} {g : ρ → Option β} {Φ : β → Prop} {X : Prop} (k : tp x (uS (k6 fun x1 x2 x3 x4 x5 x6 => tp (f x1 x2 x3 x4 x5 x6) Φ) (fun r => tp (g r) Φ)) → X) : tp (bs6 x f g) Φ → X := by
  intro ⟨b, h, q⟩
  cases x with
  | none => cases h
  | some a =>
    cases a with
    | inl a => exact k ⟨.inl a, rfl, b, h, q⟩
    | inr r => exact k ⟨.inr r, rfl, b, h, q⟩
/-- the words that a call wants of the called one -/
def CFv (y : MethodName) (bytes : ByteArray) (n : Nat) (ret : Option FieldType) (na : Nat) : Prop := Cond.instanceMethod y ∈ wsL_law ∧ Cond.selects y.cls y y ∈ wsL_law ∧ Cond.initialized y.cls ∈ wsL_law ∧ Cond.code y bytes n ret ∈ wsL_law ∧ y.cls ≠ "java/lang/invoke/MethodHandle" ∧ y.cls ≠ "java/lang/invoke/VarHandle" ∧ (parseMethodDescriptor y.desc).map (fun d => d.parameters.length) = some na
def CFs (y : MethodName) (bytes : ByteArray) (n : Nat) (ret : Option FieldType) (na : Nat) : Prop := Cond.static y ∈ wsL_law ∧ Cond.initialized y.cls ∈ wsL_law ∧ Cond.code y bytes n ret ∈ wsL_law ∧ y.cls ≠ "java/lang/invoke/MethodHandle" ∧ y.cls ≠ "java/lang/invoke/VarHandle" ∧ (parseMethodDescriptor y.desc).map (fun d => d.parameters.length) = some na
section TCALLS
variable {G : GT} {K : KT} {cc : ByteArray} {own : String} {nl fr lo : Nat} {w : va_W} {pc : Nat} {lv : List (Nat × Value)} {rest : List Value} {α : Type} {Φ : α → Prop} {y : MethodName} {bytes : ByteArray} {n fc lc index b : Nat} {ret : Option FieldType}
theorem cIv0r (C : Ctx G K cc own nl fr lo) {x : Option Int32} {f : Int32 → Option α} (hM : ∀ r, x = some r → MI G K.2.1 y bytes n ret fc lc [.ref b] w r w) (q : CFv y bytes n ret 0) (h0 : Cond.methodLink own index y ∈ wsL_law) (hrecv : ∃ (q0 ci : Nat) (fs : List Value) (T : u_T) (N : Nat), vwCl[ci]? = some (y.cls, T, N) ∧ w[q0]? = some (b, .inr (ci, fs))) (hR : fc + 1 ≤ fr ∧ 8 + (n + 11) + lc ≤ lo) (hcat : (rest.map fun v => v.category).sum ≤ 8) (hdg : decode cc pc = .ok (.invokevirtual index, 3)) (k : ∀ r, tp (f r) Φ → V G K w (pc + 3) lv (.int r :: rest)) : tp (bd x f) Φ → V G K w pc lv (.ref b :: rest) := by
  intro ⟨z, h, q2⟩
  cases x with
  | none => cases h
  | some r => exact v_callIv C (As := []) (hM r rfl) h0 q.1 q.2.1 q.2.2.1 q.2.2.2.1 hrecv q.2.2.2.2 hR rfl hcat hdg (k r) ⟨z, h, q2⟩
theorem cIv0w (C : Ctx G K cc own nl fr lo) {W2 : SS → va_W} {x : Option (Int32 × SS)} {f : Int32 → SS → Option α} (hM : ∀ r σ, x = some (r, σ) → MI G K.2.1 y bytes n ret fc lc [.ref b] w r (W2 σ)) (q : CFv y bytes n ret 0) (h0 : Cond.methodLink own index y ∈ wsL_law) (hrecv : ∃ (q0 ci : Nat) (fs : List Value) (T : u_T) (N : Nat), vwCl[ci]? = some (y.cls, T, N) ∧ w[q0]? = some (b, .inr (ci, fs))) (hR : fc + 1 ≤ fr ∧ 8 + (n + 11) + lc ≤ lo) (hcat : (rest.map fun v => v.category).sum ≤ 8) (hdg : decode cc pc = .ok (.invokevirtual index, 3)) (k : ∀ r σ, tp (f r σ) Φ → V G K (W2 σ) (pc + 3) lv (.int r :: rest)) : tp (bk2 x f) Φ → V G K w pc lv (.ref b :: rest) := by
  intro ⟨z, h, q2⟩
  cases x with
  | none => cases h
  | some r => exact v_callIv C (As := []) (hM r.1 r.2 rfl) h0 q.1 q.2.1 q.2.2.1 q.2.2.2.1 hrecv q.2.2.2.2 hR rfl hcat hdg (k r.1 r.2) ⟨z, h, q2⟩
theorem cLv0r (C : Ctx G K cc own nl fr lo) {x : Option Int64} {f : Int64 → Option α} (hM : ∀ r, x = some r → ML G K.2.1 y bytes n ret fc lc [.ref b] w r w) (q : CFv y bytes n ret 0) (h0 : Cond.methodLink own index y ∈ wsL_law) (hrecv : ∃ (q0 ci : Nat) (fs : List Value) (T : u_T) (N : Nat), vwCl[ci]? = some (y.cls, T, N) ∧ w[q0]? = some (b, .inr (ci, fs))) (hR : fc + 1 ≤ fr ∧ 8 + (n + 11) + lc ≤ lo) (hcat : (rest.map fun v => v.category).sum ≤ 8) (hdg : decode cc pc = .ok (.invokevirtual index, 3)) (k : ∀ r, tp (f r) Φ → V G K w (pc + 3) lv (.long r :: rest)) : tp (bd x f) Φ → V G K w pc lv (.ref b :: rest) := by
  intro ⟨z, h, q2⟩
  cases x with
  | none => cases h
  | some r => exact v_callLv C (As := []) (hM r rfl) h0 q.1 q.2.1 q.2.2.1 q.2.2.2.1 hrecv q.2.2.2.2 hR rfl hcat hdg (k r) ⟨z, h, q2⟩
theorem cLv0w (C : Ctx G K cc own nl fr lo) {W2 : SS → va_W} {x : Option (Int64 × SS)} {f : Int64 → SS → Option α} (hM : ∀ r σ, x = some (r, σ) → ML G K.2.1 y bytes n ret fc lc [.ref b] w r (W2 σ)) (q : CFv y bytes n ret 0) (h0 : Cond.methodLink own index y ∈ wsL_law) (hrecv : ∃ (q0 ci : Nat) (fs : List Value) (T : u_T) (N : Nat), vwCl[ci]? = some (y.cls, T, N) ∧ w[q0]? = some (b, .inr (ci, fs))) (hR : fc + 1 ≤ fr ∧ 8 + (n + 11) + lc ≤ lo) (hcat : (rest.map fun v => v.category).sum ≤ 8) (hdg : decode cc pc = .ok (.invokevirtual index, 3)) (k : ∀ r σ, tp (f r σ) Φ → V G K (W2 σ) (pc + 3) lv (.long r :: rest)) : tp (bk2 x f) Φ → V G K w pc lv (.ref b :: rest) := by
  intro ⟨z, h, q2⟩
  cases x with
  | none => cases h
  | some r => exact v_callLv C (As := []) (hM r.1 r.2 rfl) h0 q.1 q.2.1 q.2.2.1 q.2.2.2.1 hrecv q.2.2.2.2 hR rfl hcat hdg (k r.1 r.2) ⟨z, h, q2⟩
theorem cVv0w (C : Ctx G K cc own nl fr lo) {W2 : SS → va_W} {x : Option SS} {f : SS → Option α} (hM : ∀ σ, x = some σ → MV G K.2.1 y bytes n ret fc lc [.ref b] w (W2 σ)) (q : CFv y bytes n ret 0) (h0 : Cond.methodLink own index y ∈ wsL_law) (hrecv : ∃ (q0 ci : Nat) (fs : List Value) (T : u_T) (N : Nat), vwCl[ci]? = some (y.cls, T, N) ∧ w[q0]? = some (b, .inr (ci, fs))) (hR : fc + 1 ≤ fr ∧ 8 + (n + 11) + lc ≤ lo) (hcat : (rest.map fun v => v.category).sum ≤ 8) (hdg : decode cc pc = .ok (.invokevirtual index, 3)) (k : ∀ σ, tp (f σ) Φ → V G K (W2 σ) (pc + 3) lv (rest)) : tp (bd x f) Φ → V G K w pc lv (.ref b :: rest) := by
  intro ⟨z, h, q2⟩
  cases x with
  | none => cases h
  | some r => exact v_callVv C (As := []) (hM r rfl) h0 q.1 q.2.1 q.2.2.1 q.2.2.2.1 hrecv q.2.2.2.2 hR rfl hcat hdg (k r) ⟨z, h, q2⟩
theorem cIs0r (C : Ctx G K cc own nl fr lo) {x : Option Int32} {f : Int32 → Option α} (hM : ∀ r, x = some r → MI G K.2.1 y bytes n ret fc lc [] w r w) (q : CFs y bytes n ret 0) (h0 : Cond.methodLink own index y ∈ wsL_law) (hR : fc + 1 ≤ fr ∧ 8 + (n + 11) + lc ≤ lo) (hcat : (rest.map fun v => v.category).sum ≤ 8) (hdg : decode cc pc = .ok (.invokestatic index, 3)) (k : ∀ r, tp (f r) Φ → V G K w (pc + 3) lv (.int r :: rest)) : tp (bd x f) Φ → V G K w pc lv (rest) := by
  intro ⟨z, h, q2⟩
  cases x with
  | none => cases h
  | some r => exact v_callIs C (As := []) (hM r rfl) h0 q.1 q.2.1 q.2.2.1 q.2.2.2 hR rfl hcat hdg (k r) ⟨z, h, q2⟩
theorem cIs0w (C : Ctx G K cc own nl fr lo) {W2 : SS → va_W} {x : Option (Int32 × SS)} {f : Int32 → SS → Option α} (hM : ∀ r σ, x = some (r, σ) → MI G K.2.1 y bytes n ret fc lc [] w r (W2 σ)) (q : CFs y bytes n ret 0) (h0 : Cond.methodLink own index y ∈ wsL_law) (hR : fc + 1 ≤ fr ∧ 8 + (n + 11) + lc ≤ lo) (hcat : (rest.map fun v => v.category).sum ≤ 8) (hdg : decode cc pc = .ok (.invokestatic index, 3)) (k : ∀ r σ, tp (f r σ) Φ → V G K (W2 σ) (pc + 3) lv (.int r :: rest)) : tp (bk2 x f) Φ → V G K w pc lv (rest) := by
  intro ⟨z, h, q2⟩
  cases x with
  | none => cases h
  | some r => exact v_callIs C (As := []) (hM r.1 r.2 rfl) h0 q.1 q.2.1 q.2.2.1 q.2.2.2 hR rfl hcat hdg (k r.1 r.2) ⟨z, h, q2⟩
theorem cLs0r (C : Ctx G K cc own nl fr lo) {x : Option Int64} {f : Int64 → Option α} (hM : ∀ r, x = some r → ML G K.2.1 y bytes n ret fc lc [] w r w) (q : CFs y bytes n ret 0) (h0 : Cond.methodLink own index y ∈ wsL_law) (hR : fc + 1 ≤ fr ∧ 8 + (n + 11) + lc ≤ lo) (hcat : (rest.map fun v => v.category).sum ≤ 8) (hdg : decode cc pc = .ok (.invokestatic index, 3)) (k : ∀ r, tp (f r) Φ → V G K w (pc + 3) lv (.long r :: rest)) : tp (bd x f) Φ → V G K w pc lv (rest) := by
  intro ⟨z, h, q2⟩
  cases x with
  | none => cases h
  | some r => exact v_callLs C (As := []) (hM r rfl) h0 q.1 q.2.1 q.2.2.1 q.2.2.2 hR rfl hcat hdg (k r) ⟨z, h, q2⟩
theorem cLs0w (C : Ctx G K cc own nl fr lo) {W2 : SS → va_W} {x : Option (Int64 × SS)} {f : Int64 → SS → Option α} (hM : ∀ r σ, x = some (r, σ) → ML G K.2.1 y bytes n ret fc lc [] w r (W2 σ)) (q : CFs y bytes n ret 0) (h0 : Cond.methodLink own index y ∈ wsL_law) (hR : fc + 1 ≤ fr ∧ 8 + (n + 11) + lc ≤ lo) (hcat : (rest.map fun v => v.category).sum ≤ 8) (hdg : decode cc pc = .ok (.invokestatic index, 3)) (k : ∀ r σ, tp (f r σ) Φ → V G K (W2 σ) (pc + 3) lv (.long r :: rest)) : tp (bk2 x f) Φ → V G K w pc lv (rest) := by
  intro ⟨z, h, q2⟩
  cases x with
  | none => cases h
  | some r => exact v_callLs C (As := []) (hM r.1 r.2 rfl) h0 q.1 q.2.1 q.2.2.1 q.2.2.2 hR rfl hcat hdg (k r.1 r.2) ⟨z, h, q2⟩
theorem cVs0w (C : Ctx G K cc own nl fr lo) {W2 : SS → va_W} {x : Option SS} {f : SS → Option α} (hM : ∀ σ, x = some σ → MV G K.2.1 y bytes n ret fc lc [] w (W2 σ)) (q : CFs y bytes n ret 0) (h0 : Cond.methodLink own index y ∈ wsL_law) (hR : fc + 1 ≤ fr ∧ 8 + (n + 11) + lc ≤ lo) (hcat : (rest.map fun v => v.category).sum ≤ 8) (hdg : decode cc pc = .ok (.invokestatic index, 3)) (k : ∀ σ, tp (f σ) Φ → V G K (W2 σ) (pc + 3) lv (rest)) : tp (bd x f) Φ → V G K w pc lv (rest) := by
  intro ⟨z, h, q2⟩
  cases x with
  | none => cases h
  | some r => exact v_callVs C (As := []) (hM r rfl) h0 q.1 q.2.1 q.2.2.1 q.2.2.2 hR rfl hcat hdg (k r) ⟨z, h, q2⟩
theorem cIv1r (C : Ctx G K cc own nl fr lo) {a1 : Value} {x : Option Int32} {f : Int32 → Option α} (hM : ∀ r, x = some r → MI G K.2.1 y bytes n ret fc lc [.ref b, a1] w r w) (q : CFv y bytes n ret 1) (h0 : Cond.methodLink own index y ∈ wsL_law) (hrecv : ∃ (q0 ci : Nat) (fs : List Value) (T : u_T) (N : Nat), vwCl[ci]? = some (y.cls, T, N) ∧ w[q0]? = some (b, .inr (ci, fs))) (hR : fc + 1 ≤ fr ∧ 8 + (n + 11) + lc ≤ lo) (hcat : (rest.map fun v => v.category).sum ≤ 8) (hdg : decode cc pc = .ok (.invokevirtual index, 3)) (k : ∀ r, tp (f r) Φ → V G K w (pc + 3) lv (.int r :: rest)) : tp (bd x f) Φ → V G K w pc lv (a1 :: .ref b :: rest) := by
  intro ⟨z, h, q2⟩
  cases x with
  | none => cases h
  | some r => exact v_callIv C (As := [a1]) (hM r rfl) h0 q.1 q.2.1 q.2.2.1 q.2.2.2.1 hrecv q.2.2.2.2 hR rfl hcat hdg (k r) ⟨z, h, q2⟩
theorem cIv1w (C : Ctx G K cc own nl fr lo) {a1 : Value} {W2 : SS → va_W} {x : Option (Int32 × SS)} {f : Int32 → SS → Option α} (hM : ∀ r σ, x = some (r, σ) → MI G K.2.1 y bytes n ret fc lc [.ref b, a1] w r (W2 σ)) (q : CFv y bytes n ret 1) (h0 : Cond.methodLink own index y ∈ wsL_law) (hrecv : ∃ (q0 ci : Nat) (fs : List Value) (T : u_T) (N : Nat), vwCl[ci]? = some (y.cls, T, N) ∧ w[q0]? = some (b, .inr (ci, fs))) (hR : fc + 1 ≤ fr ∧ 8 + (n + 11) + lc ≤ lo) (hcat : (rest.map fun v => v.category).sum ≤ 8) (hdg : decode cc pc = .ok (.invokevirtual index, 3)) (k : ∀ r σ, tp (f r σ) Φ → V G K (W2 σ) (pc + 3) lv (.int r :: rest)) : tp (bk2 x f) Φ → V G K w pc lv (a1 :: .ref b :: rest) := by
  intro ⟨z, h, q2⟩
  cases x with
  | none => cases h
  | some r => exact v_callIv C (As := [a1]) (hM r.1 r.2 rfl) h0 q.1 q.2.1 q.2.2.1 q.2.2.2.1 hrecv q.2.2.2.2 hR rfl hcat hdg (k r.1 r.2) ⟨z, h, q2⟩
theorem cLv1r (C : Ctx G K cc own nl fr lo) {a1 : Value} {x : Option Int64} {f : Int64 → Option α} (hM : ∀ r, x = some r → ML G K.2.1 y bytes n ret fc lc [.ref b, a1] w r w) (q : CFv y bytes n ret 1) (h0 : Cond.methodLink own index y ∈ wsL_law) (hrecv : ∃ (q0 ci : Nat) (fs : List Value) (T : u_T) (N : Nat), vwCl[ci]? = some (y.cls, T, N) ∧ w[q0]? = some (b, .inr (ci, fs))) (hR : fc + 1 ≤ fr ∧ 8 + (n + 11) + lc ≤ lo) (hcat : (rest.map fun v => v.category).sum ≤ 8) (hdg : decode cc pc = .ok (.invokevirtual index, 3)) (k : ∀ r, tp (f r) Φ → V G K w (pc + 3) lv (.long r :: rest)) : tp (bd x f) Φ → V G K w pc lv (a1 :: .ref b :: rest) := by
  intro ⟨z, h, q2⟩
  cases x with
  | none => cases h
  | some r => exact v_callLv C (As := [a1]) (hM r rfl) h0 q.1 q.2.1 q.2.2.1 q.2.2.2.1 hrecv q.2.2.2.2 hR rfl hcat hdg (k r) ⟨z, h, q2⟩
theorem cLv1w (C : Ctx G K cc own nl fr lo) {a1 : Value} {W2 : SS → va_W} {x : Option (Int64 × SS)} {f : Int64 → SS → Option α} (hM : ∀ r σ, x = some (r, σ) → ML G K.2.1 y bytes n ret fc lc [.ref b, a1] w r (W2 σ)) (q : CFv y bytes n ret 1) (h0 : Cond.methodLink own index y ∈ wsL_law) (hrecv : ∃ (q0 ci : Nat) (fs : List Value) (T : u_T) (N : Nat), vwCl[ci]? = some (y.cls, T, N) ∧ w[q0]? = some (b, .inr (ci, fs))) (hR : fc + 1 ≤ fr ∧ 8 + (n + 11) + lc ≤ lo) (hcat : (rest.map fun v => v.category).sum ≤ 8) (hdg : decode cc pc = .ok (.invokevirtual index, 3)) (k : ∀ r σ, tp (f r σ) Φ → V G K (W2 σ) (pc + 3) lv (.long r :: rest)) : tp (bk2 x f) Φ → V G K w pc lv (a1 :: .ref b :: rest) := by
  intro ⟨z, h, q2⟩
  cases x with
  | none => cases h
  | some r => exact v_callLv C (As := [a1]) (hM r.1 r.2 rfl) h0 q.1 q.2.1 q.2.2.1 q.2.2.2.1 hrecv q.2.2.2.2 hR rfl hcat hdg (k r.1 r.2) ⟨z, h, q2⟩
theorem cVv1w (C : Ctx G K cc own nl fr lo) {a1 : Value} {W2 : SS → va_W} {x : Option SS} {f : SS → Option α} (hM : ∀ σ, x = some σ → MV G K.2.1 y bytes n ret fc lc [.ref b, a1] w (W2 σ)) (q : CFv y bytes n ret 1) (h0 : Cond.methodLink own index y ∈ wsL_law) (hrecv : ∃ (q0 ci : Nat) (fs : List Value) (T : u_T) (N : Nat), vwCl[ci]? = some (y.cls, T, N) ∧ w[q0]? = some (b, .inr (ci, fs))) (hR : fc + 1 ≤ fr ∧ 8 + (n + 11) + lc ≤ lo) (hcat : (rest.map fun v => v.category).sum ≤ 8) (hdg : decode cc pc = .ok (.invokevirtual index, 3)) (k : ∀ σ, tp (f σ) Φ → V G K (W2 σ) (pc + 3) lv (rest)) : tp (bd x f) Φ → V G K w pc lv (a1 :: .ref b :: rest) := by
  intro ⟨z, h, q2⟩
  cases x with
  | none => cases h
  | some r => exact v_callVv C (As := [a1]) (hM r rfl) h0 q.1 q.2.1 q.2.2.1 q.2.2.2.1 hrecv q.2.2.2.2 hR rfl hcat hdg (k r) ⟨z, h, q2⟩
theorem cIs1r (C : Ctx G K cc own nl fr lo) {a1 : Value} {x : Option Int32} {f : Int32 → Option α} (hM : ∀ r, x = some r → MI G K.2.1 y bytes n ret fc lc [a1] w r w) (q : CFs y bytes n ret 1) (h0 : Cond.methodLink own index y ∈ wsL_law) (hR : fc + 1 ≤ fr ∧ 8 + (n + 11) + lc ≤ lo) (hcat : (rest.map fun v => v.category).sum ≤ 8) (hdg : decode cc pc = .ok (.invokestatic index, 3)) (k : ∀ r, tp (f r) Φ → V G K w (pc + 3) lv (.int r :: rest)) : tp (bd x f) Φ → V G K w pc lv (a1 :: rest) := by
  intro ⟨z, h, q2⟩
  cases x with
  | none => cases h
  | some r => exact v_callIs C (As := [a1]) (hM r rfl) h0 q.1 q.2.1 q.2.2.1 q.2.2.2 hR rfl hcat hdg (k r) ⟨z, h, q2⟩
theorem cIs1w (C : Ctx G K cc own nl fr lo) {a1 : Value} {W2 : SS → va_W} {x : Option (Int32 × SS)} {f : Int32 → SS → Option α} (hM : ∀ r σ, x = some (r, σ) → MI G K.2.1 y bytes n ret fc lc [a1] w r (W2 σ)) (q : CFs y bytes n ret 1) (h0 : Cond.methodLink own index y ∈ wsL_law) (hR : fc + 1 ≤ fr ∧ 8 + (n + 11) + lc ≤ lo) (hcat : (rest.map fun v => v.category).sum ≤ 8) (hdg : decode cc pc = .ok (.invokestatic index, 3)) (k : ∀ r σ, tp (f r σ) Φ → V G K (W2 σ) (pc + 3) lv (.int r :: rest)) : tp (bk2 x f) Φ → V G K w pc lv (a1 :: rest) := by
  intro ⟨z, h, q2⟩
  cases x with
  | none => cases h
  | some r => exact v_callIs C (As := [a1]) (hM r.1 r.2 rfl) h0 q.1 q.2.1 q.2.2.1 q.2.2.2 hR rfl hcat hdg (k r.1 r.2) ⟨z, h, q2⟩
theorem cLs1r (C : Ctx G K cc own nl fr lo) {a1 : Value} {x : Option Int64} {f : Int64 → Option α} (hM : ∀ r, x = some r → ML G K.2.1 y bytes n ret fc lc [a1] w r w) (q : CFs y bytes n ret 1) (h0 : Cond.methodLink own index y ∈ wsL_law) (hR : fc + 1 ≤ fr ∧ 8 + (n + 11) + lc ≤ lo) (hcat : (rest.map fun v => v.category).sum ≤ 8) (hdg : decode cc pc = .ok (.invokestatic index, 3)) (k : ∀ r, tp (f r) Φ → V G K w (pc + 3) lv (.long r :: rest)) : tp (bd x f) Φ → V G K w pc lv (a1 :: rest) := by
  intro ⟨z, h, q2⟩
  cases x with
  | none => cases h
  | some r => exact v_callLs C (As := [a1]) (hM r rfl) h0 q.1 q.2.1 q.2.2.1 q.2.2.2 hR rfl hcat hdg (k r) ⟨z, h, q2⟩
theorem cLs1w (C : Ctx G K cc own nl fr lo) {a1 : Value} {W2 : SS → va_W} {x : Option (Int64 × SS)} {f : Int64 → SS → Option α} (hM : ∀ r σ, x = some (r, σ) → ML G K.2.1 y bytes n ret fc lc [a1] w r (W2 σ)) (q : CFs y bytes n ret 1) (h0 : Cond.methodLink own index y ∈ wsL_law) (hR : fc + 1 ≤ fr ∧ 8 + (n + 11) + lc ≤ lo) (hcat : (rest.map fun v => v.category).sum ≤ 8) (hdg : decode cc pc = .ok (.invokestatic index, 3)) (k : ∀ r σ, tp (f r σ) Φ → V G K (W2 σ) (pc + 3) lv (.long r :: rest)) : tp (bk2 x f) Φ → V G K w pc lv (a1 :: rest) := by
  intro ⟨z, h, q2⟩
  cases x with
  | none => cases h
  | some r => exact v_callLs C (As := [a1]) (hM r.1 r.2 rfl) h0 q.1 q.2.1 q.2.2.1 q.2.2.2 hR rfl hcat hdg (k r.1 r.2) ⟨z, h, q2⟩
theorem cVs1w (C : Ctx G K cc own nl fr lo) {a1 : Value} {W2 : SS → va_W} {x : Option SS} {f : SS → Option α} (hM : ∀ σ, x = some σ → MV G K.2.1 y bytes n ret fc lc [a1] w (W2 σ)) (q : CFs y bytes n ret 1) (h0 : Cond.methodLink own index y ∈ wsL_law) (hR : fc + 1 ≤ fr ∧ 8 + (n + 11) + lc ≤ lo) (hcat : (rest.map fun v => v.category).sum ≤ 8) (hdg : decode cc pc = .ok (.invokestatic index, 3)) (k : ∀ σ, tp (f σ) Φ → V G K (W2 σ) (pc + 3) lv (rest)) : tp (bd x f) Φ → V G K w pc lv (a1 :: rest) := by
  intro ⟨z, h, q2⟩
  cases x with
  | none => cases h
  | some r => exact v_callVs C (As := [a1]) (hM r rfl) h0 q.1 q.2.1 q.2.2.1 q.2.2.2 hR rfl hcat hdg (k r) ⟨z, h, q2⟩
theorem cIv2r (C : Ctx G K cc own nl fr lo) {a1 a2 : Value} {x : Option Int32} {f : Int32 → Option α} (hM : ∀ r, x = some r → MI G K.2.1 y bytes n ret fc lc [.ref b, a1, a2] w r w) (q : CFv y bytes n ret 2) (h0 : Cond.methodLink own index y ∈ wsL_law) (hrecv : ∃ (q0 ci : Nat) (fs : List Value) (T : u_T) (N : Nat), vwCl[ci]? = some (y.cls, T, N) ∧ w[q0]? = some (b, .inr (ci, fs))) (hR : fc + 1 ≤ fr ∧ 8 + (n + 11) + lc ≤ lo) (hcat : (rest.map fun v => v.category).sum ≤ 8) (hdg : decode cc pc = .ok (.invokevirtual index, 3)) (k : ∀ r, tp (f r) Φ → V G K w (pc + 3) lv (.int r :: rest)) : tp (bd x f) Φ → V G K w pc lv (a2 :: a1 :: .ref b :: rest) := by
  intro ⟨z, h, q2⟩
  cases x with
  | none => cases h
  | some r => exact v_callIv C (As := [a1, a2]) (hM r rfl) h0 q.1 q.2.1 q.2.2.1 q.2.2.2.1 hrecv q.2.2.2.2 hR rfl hcat hdg (k r) ⟨z, h, q2⟩
theorem cIv2w (C : Ctx G K cc own nl fr lo) {a1 a2 : Value} {W2 : SS → va_W} {x : Option (Int32 × SS)} {f : Int32 → SS → Option α} (hM : ∀ r σ, x = some (r, σ) → MI G K.2.1 y bytes n ret fc lc [.ref b, a1, a2] w r (W2 σ)) (q : CFv y bytes n ret 2) (h0 : Cond.methodLink own index y ∈ wsL_law) (hrecv : ∃ (q0 ci : Nat) (fs : List Value) (T : u_T) (N : Nat), vwCl[ci]? = some (y.cls, T, N) ∧ w[q0]? = some (b, .inr (ci, fs))) (hR : fc + 1 ≤ fr ∧ 8 + (n + 11) + lc ≤ lo) (hcat : (rest.map fun v => v.category).sum ≤ 8) (hdg : decode cc pc = .ok (.invokevirtual index, 3)) (k : ∀ r σ, tp (f r σ) Φ → V G K (W2 σ) (pc + 3) lv (.int r :: rest)) : tp (bk2 x f) Φ → V G K w pc lv (a2 :: a1 :: .ref b :: rest) := by
  intro ⟨z, h, q2⟩
  cases x with
  | none => cases h
  | some r => exact v_callIv C (As := [a1, a2]) (hM r.1 r.2 rfl) h0 q.1 q.2.1 q.2.2.1 q.2.2.2.1 hrecv q.2.2.2.2 hR rfl hcat hdg (k r.1 r.2) ⟨z, h, q2⟩
theorem cLv2r (C : Ctx G K cc own nl fr lo) {a1 a2 : Value} {x : Option Int64} {f : Int64 → Option α} (hM : ∀ r, x = some r → ML G K.2.1 y bytes n ret fc lc [.ref b, a1, a2] w r w) (q : CFv y bytes n ret 2) (h0 : Cond.methodLink own index y ∈ wsL_law) (hrecv : ∃ (q0 ci : Nat) (fs : List Value) (T : u_T) (N : Nat), vwCl[ci]? = some (y.cls, T, N) ∧ w[q0]? = some (b, .inr (ci, fs))) (hR : fc + 1 ≤ fr ∧ 8 + (n + 11) + lc ≤ lo) (hcat : (rest.map fun v => v.category).sum ≤ 8) (hdg : decode cc pc = .ok (.invokevirtual index, 3)) (k : ∀ r, tp (f r) Φ → V G K w (pc + 3) lv (.long r :: rest)) : tp (bd x f) Φ → V G K w pc lv (a2 :: a1 :: .ref b :: rest) := by
  intro ⟨z, h, q2⟩
  cases x with
  | none => cases h
  | some r => exact v_callLv C (As := [a1, a2]) (hM r rfl) h0 q.1 q.2.1 q.2.2.1 q.2.2.2.1 hrecv q.2.2.2.2 hR rfl hcat hdg (k r) ⟨z, h, q2⟩
theorem cLv2w (C : Ctx G K cc own nl fr lo) {a1 a2 : Value} {W2 : SS → va_W} {x : Option (Int64 × SS)} {f : Int64 → SS → Option α} (hM : ∀ r σ, x = some (r, σ) → ML G K.2.1 y bytes n ret fc lc [.ref b, a1, a2] w r (W2 σ)) (q : CFv y bytes n ret 2) (h0 : Cond.methodLink own index y ∈ wsL_law) (hrecv : ∃ (q0 ci : Nat) (fs : List Value) (T : u_T) (N : Nat), vwCl[ci]? = some (y.cls, T, N) ∧ w[q0]? = some (b, .inr (ci, fs))) (hR : fc + 1 ≤ fr ∧ 8 + (n + 11) + lc ≤ lo) (hcat : (rest.map fun v => v.category).sum ≤ 8) (hdg : decode cc pc = .ok (.invokevirtual index, 3)) (k : ∀ r σ, tp (f r σ) Φ → V G K (W2 σ) (pc + 3) lv (.long r :: rest)) : tp (bk2 x f) Φ → V G K w pc lv (a2 :: a1 :: .ref b :: rest) := by
  intro ⟨z, h, q2⟩
  cases x with
  | none => cases h
  | some r => exact v_callLv C (As := [a1, a2]) (hM r.1 r.2 rfl) h0 q.1 q.2.1 q.2.2.1 q.2.2.2.1 hrecv q.2.2.2.2 hR rfl hcat hdg (k r.1 r.2) ⟨z, h, q2⟩
theorem cVv2w (C : Ctx G K cc own nl fr lo) {a1 a2 : Value} {W2 : SS → va_W} {x : Option SS} {f : SS → Option α} (hM : ∀ σ, x = some σ → MV G K.2.1 y bytes n ret fc lc [.ref b, a1, a2] w (W2 σ)) (q : CFv y bytes n ret 2) (h0 : Cond.methodLink own index y ∈ wsL_law) (hrecv : ∃ (q0 ci : Nat) (fs : List Value) (T : u_T) (N : Nat), vwCl[ci]? = some (y.cls, T, N) ∧ w[q0]? = some (b, .inr (ci, fs))) (hR : fc + 1 ≤ fr ∧ 8 + (n + 11) + lc ≤ lo) (hcat : (rest.map fun v => v.category).sum ≤ 8) (hdg : decode cc pc = .ok (.invokevirtual index, 3)) (k : ∀ σ, tp (f σ) Φ → V G K (W2 σ) (pc + 3) lv (rest)) : tp (bd x f) Φ → V G K w pc lv (a2 :: a1 :: .ref b :: rest) := by
  intro ⟨z, h, q2⟩
  cases x with
  | none => cases h
  | some r => exact v_callVv C (As := [a1, a2]) (hM r rfl) h0 q.1 q.2.1 q.2.2.1 q.2.2.2.1 hrecv q.2.2.2.2 hR rfl hcat hdg (k r) ⟨z, h, q2⟩
theorem cIs2r (C : Ctx G K cc own nl fr lo) {a1 a2 : Value} {x : Option Int32} {f : Int32 → Option α} (hM : ∀ r, x = some r → MI G K.2.1 y bytes n ret fc lc [a1, a2] w r w) (q : CFs y bytes n ret 2) (h0 : Cond.methodLink own index y ∈ wsL_law) (hR : fc + 1 ≤ fr ∧ 8 + (n + 11) + lc ≤ lo) (hcat : (rest.map fun v => v.category).sum ≤ 8) (hdg : decode cc pc = .ok (.invokestatic index, 3)) (k : ∀ r, tp (f r) Φ → V G K w (pc + 3) lv (.int r :: rest)) : tp (bd x f) Φ → V G K w pc lv (a2 :: a1 :: rest) := by
  intro ⟨z, h, q2⟩
  cases x with
  | none => cases h
  | some r => exact v_callIs C (As := [a1, a2]) (hM r rfl) h0 q.1 q.2.1 q.2.2.1 q.2.2.2 hR rfl hcat hdg (k r) ⟨z, h, q2⟩
theorem cIs2w (C : Ctx G K cc own nl fr lo) {a1 a2 : Value} {W2 : SS → va_W} {x : Option (Int32 × SS)} {f : Int32 → SS → Option α} (hM : ∀ r σ, x = some (r, σ) → MI G K.2.1 y bytes n ret fc lc [a1, a2] w r (W2 σ)) (q : CFs y bytes n ret 2) (h0 : Cond.methodLink own index y ∈ wsL_law) (hR : fc + 1 ≤ fr ∧ 8 + (n + 11) + lc ≤ lo) (hcat : (rest.map fun v => v.category).sum ≤ 8) (hdg : decode cc pc = .ok (.invokestatic index, 3)) (k : ∀ r σ, tp (f r σ) Φ → V G K (W2 σ) (pc + 3) lv (.int r :: rest)) : tp (bk2 x f) Φ → V G K w pc lv (a2 :: a1 :: rest) := by
  intro ⟨z, h, q2⟩
  cases x with
  | none => cases h
  | some r => exact v_callIs C (As := [a1, a2]) (hM r.1 r.2 rfl) h0 q.1 q.2.1 q.2.2.1 q.2.2.2 hR rfl hcat hdg (k r.1 r.2) ⟨z, h, q2⟩
theorem cLs2r (C : Ctx G K cc own nl fr lo) {a1 a2 : Value} {x : Option Int64} {f : Int64 → Option α} (hM : ∀ r, x = some r → ML G K.2.1 y bytes n ret fc lc [a1, a2] w r w) (q : CFs y bytes n ret 2) (h0 : Cond.methodLink own index y ∈ wsL_law) (hR : fc + 1 ≤ fr ∧ 8 + (n + 11) + lc ≤ lo) (hcat : (rest.map fun v => v.category).sum ≤ 8) (hdg : decode cc pc = .ok (.invokestatic index, 3)) (k : ∀ r, tp (f r) Φ → V G K w (pc + 3) lv (.long r :: rest)) : tp (bd x f) Φ → V G K w pc lv (a2 :: a1 :: rest) := by
  intro ⟨z, h, q2⟩
  cases x with
  | none => cases h
  | some r => exact v_callLs C (As := [a1, a2]) (hM r rfl) h0 q.1 q.2.1 q.2.2.1 q.2.2.2 hR rfl hcat hdg (k r) ⟨z, h, q2⟩
theorem cLs2w (C : Ctx G K cc own nl fr lo) {a1 a2 : Value} {W2 : SS → va_W} {x : Option (Int64 × SS)} {f : Int64 → SS → Option α} (hM : ∀ r σ, x = some (r, σ) → ML G K.2.1 y bytes n ret fc lc [a1, a2] w r (W2 σ)) (q : CFs y bytes n ret 2) (h0 : Cond.methodLink own index y ∈ wsL_law) (hR : fc + 1 ≤ fr ∧ 8 + (n + 11) + lc ≤ lo) (hcat : (rest.map fun v => v.category).sum ≤ 8) (hdg : decode cc pc = .ok (.invokestatic index, 3)) (k : ∀ r σ, tp (f r σ) Φ → V G K (W2 σ) (pc + 3) lv (.long r :: rest)) : tp (bk2 x f) Φ → V G K w pc lv (a2 :: a1 :: rest) := by
  intro ⟨z, h, q2⟩
  cases x with
  | none => cases h
  | some r => exact v_callLs C (As := [a1, a2]) (hM r.1 r.2 rfl) h0 q.1 q.2.1 q.2.2.1 q.2.2.2 hR rfl hcat hdg (k r.1 r.2) ⟨z, h, q2⟩
theorem cVs2w (C : Ctx G K cc own nl fr lo) {a1 a2 : Value} {W2 : SS → va_W} {x : Option SS} {f : SS → Option α} (hM : ∀ σ, x = some σ → MV G K.2.1 y bytes n ret fc lc [a1, a2] w (W2 σ)) (q : CFs y bytes n ret 2) (h0 : Cond.methodLink own index y ∈ wsL_law) (hR : fc + 1 ≤ fr ∧ 8 + (n + 11) + lc ≤ lo) (hcat : (rest.map fun v => v.category).sum ≤ 8) (hdg : decode cc pc = .ok (.invokestatic index, 3)) (k : ∀ σ, tp (f σ) Φ → V G K (W2 σ) (pc + 3) lv (rest)) : tp (bd x f) Φ → V G K w pc lv (a2 :: a1 :: rest) := by
  intro ⟨z, h, q2⟩
  cases x with
  | none => cases h
  | some r => exact v_callVs C (As := [a1, a2]) (hM r rfl) h0 q.1 q.2.1 q.2.2.1 q.2.2.2 hR rfl hcat hdg (k r) ⟨z, h, q2⟩
theorem cIv3r (C : Ctx G K cc own nl fr lo) {a1 a2 a3 : Value} {x : Option Int32} {f : Int32 → Option α} (hM : ∀ r, x = some r → MI G K.2.1 y bytes n ret fc lc [.ref b, a1, a2, a3] w r w) (q : CFv y bytes n ret 3) (h0 : Cond.methodLink own index y ∈ wsL_law) (hrecv : ∃ (q0 ci : Nat) (fs : List Value) (T : u_T) (N : Nat), vwCl[ci]? = some (y.cls, T, N) ∧ w[q0]? = some (b, .inr (ci, fs))) (hR : fc + 1 ≤ fr ∧ 8 + (n + 11) + lc ≤ lo) (hcat : (rest.map fun v => v.category).sum ≤ 8) (hdg : decode cc pc = .ok (.invokevirtual index, 3)) (k : ∀ r, tp (f r) Φ → V G K w (pc + 3) lv (.int r :: rest)) : tp (bd x f) Φ → V G K w pc lv (a3 :: a2 :: a1 :: .ref b :: rest) := by
  intro ⟨z, h, q2⟩
  cases x with
  | none => cases h
  | some r => exact v_callIv C (As := [a1, a2, a3]) (hM r rfl) h0 q.1 q.2.1 q.2.2.1 q.2.2.2.1 hrecv q.2.2.2.2 hR rfl hcat hdg (k r) ⟨z, h, q2⟩
theorem cIv3w (C : Ctx G K cc own nl fr lo) {a1 a2 a3 : Value} {W2 : SS → va_W} {x : Option (Int32 × SS)} {f : Int32 → SS → Option α} (hM : ∀ r σ, x = some (r, σ) → MI G K.2.1 y bytes n ret fc lc [.ref b, a1, a2, a3] w r (W2 σ)) (q : CFv y bytes n ret 3) (h0 : Cond.methodLink own index y ∈ wsL_law) (hrecv : ∃ (q0 ci : Nat) (fs : List Value) (T : u_T) (N : Nat), vwCl[ci]? = some (y.cls, T, N) ∧ w[q0]? = some (b, .inr (ci, fs))) (hR : fc + 1 ≤ fr ∧ 8 + (n + 11) + lc ≤ lo) (hcat : (rest.map fun v => v.category).sum ≤ 8) (hdg : decode cc pc = .ok (.invokevirtual index, 3)) (k : ∀ r σ, tp (f r σ) Φ → V G K (W2 σ) (pc + 3) lv (.int r :: rest)) : tp (bk2 x f) Φ → V G K w pc lv (a3 :: a2 :: a1 :: .ref b :: rest) := by
  intro ⟨z, h, q2⟩
  cases x with
  | none => cases h
  | some r => exact v_callIv C (As := [a1, a2, a3]) (hM r.1 r.2 rfl) h0 q.1 q.2.1 q.2.2.1 q.2.2.2.1 hrecv q.2.2.2.2 hR rfl hcat hdg (k r.1 r.2) ⟨z, h, q2⟩
theorem cLv3r (C : Ctx G K cc own nl fr lo) {a1 a2 a3 : Value} {x : Option Int64} {f : Int64 → Option α} (hM : ∀ r, x = some r → ML G K.2.1 y bytes n ret fc lc [.ref b, a1, a2, a3] w r w) (q : CFv y bytes n ret 3) (h0 : Cond.methodLink own index y ∈ wsL_law) (hrecv : ∃ (q0 ci : Nat) (fs : List Value) (T : u_T) (N : Nat), vwCl[ci]? = some (y.cls, T, N) ∧ w[q0]? = some (b, .inr (ci, fs))) (hR : fc + 1 ≤ fr ∧ 8 + (n + 11) + lc ≤ lo) (hcat : (rest.map fun v => v.category).sum ≤ 8) (hdg : decode cc pc = .ok (.invokevirtual index, 3)) (k : ∀ r, tp (f r) Φ → V G K w (pc + 3) lv (.long r :: rest)) : tp (bd x f) Φ → V G K w pc lv (a3 :: a2 :: a1 :: .ref b :: rest) := by
  intro ⟨z, h, q2⟩
  cases x with
  | none => cases h
  | some r => exact v_callLv C (As := [a1, a2, a3]) (hM r rfl) h0 q.1 q.2.1 q.2.2.1 q.2.2.2.1 hrecv q.2.2.2.2 hR rfl hcat hdg (k r) ⟨z, h, q2⟩
theorem cLv3w (C : Ctx G K cc own nl fr lo) {a1 a2 a3 : Value} {W2 : SS → va_W} {x : Option (Int64 × SS)} {f : Int64 → SS → Option α} (hM : ∀ r σ, x = some (r, σ) → ML G K.2.1 y bytes n ret fc lc [.ref b, a1, a2, a3] w r (W2 σ)) (q : CFv y bytes n ret 3) (h0 : Cond.methodLink own index y ∈ wsL_law) (hrecv : ∃ (q0 ci : Nat) (fs : List Value) (T : u_T) (N : Nat), vwCl[ci]? = some (y.cls, T, N) ∧ w[q0]? = some (b, .inr (ci, fs))) (hR : fc + 1 ≤ fr ∧ 8 + (n + 11) + lc ≤ lo) (hcat : (rest.map fun v => v.category).sum ≤ 8) (hdg : decode cc pc = .ok (.invokevirtual index, 3)) (k : ∀ r σ, tp (f r σ) Φ → V G K (W2 σ) (pc + 3) lv (.long r :: rest)) : tp (bk2 x f) Φ → V G K w pc lv (a3 :: a2 :: a1 :: .ref b :: rest) := by
  intro ⟨z, h, q2⟩
  cases x with
  | none => cases h
  | some r => exact v_callLv C (As := [a1, a2, a3]) (hM r.1 r.2 rfl) h0 q.1 q.2.1 q.2.2.1 q.2.2.2.1 hrecv q.2.2.2.2 hR rfl hcat hdg (k r.1 r.2) ⟨z, h, q2⟩
theorem cVv3w (C : Ctx G K cc own nl fr lo) {a1 a2 a3 : Value} {W2 : SS → va_W} {x : Option SS} {f : SS → Option α} (hM : ∀ σ, x = some σ → MV G K.2.1 y bytes n ret fc lc [.ref b, a1, a2, a3] w (W2 σ)) (q : CFv y bytes n ret 3) (h0 : Cond.methodLink own index y ∈ wsL_law) (hrecv : ∃ (q0 ci : Nat) (fs : List Value) (T : u_T) (N : Nat), vwCl[ci]? = some (y.cls, T, N) ∧ w[q0]? = some (b, .inr (ci, fs))) (hR : fc + 1 ≤ fr ∧ 8 + (n + 11) + lc ≤ lo) (hcat : (rest.map fun v => v.category).sum ≤ 8) (hdg : decode cc pc = .ok (.invokevirtual index, 3)) (k : ∀ σ, tp (f σ) Φ → V G K (W2 σ) (pc + 3) lv (rest)) : tp (bd x f) Φ → V G K w pc lv (a3 :: a2 :: a1 :: .ref b :: rest) := by
  intro ⟨z, h, q2⟩
  cases x with
  | none => cases h
  | some r => exact v_callVv C (As := [a1, a2, a3]) (hM r rfl) h0 q.1 q.2.1 q.2.2.1 q.2.2.2.1 hrecv q.2.2.2.2 hR rfl hcat hdg (k r) ⟨z, h, q2⟩
theorem cIs3r (C : Ctx G K cc own nl fr lo) {a1 a2 a3 : Value} {x : Option Int32} {f : Int32 → Option α} (hM : ∀ r, x = some r → MI G K.2.1 y bytes n ret fc lc [a1, a2, a3] w r w) (q : CFs y bytes n ret 3) (h0 : Cond.methodLink own index y ∈ wsL_law) (hR : fc + 1 ≤ fr ∧ 8 + (n + 11) + lc ≤ lo) (hcat : (rest.map fun v => v.category).sum ≤ 8) (hdg : decode cc pc = .ok (.invokestatic index, 3)) (k : ∀ r, tp (f r) Φ → V G K w (pc + 3) lv (.int r :: rest)) : tp (bd x f) Φ → V G K w pc lv (a3 :: a2 :: a1 :: rest) := by
  intro ⟨z, h, q2⟩
  cases x with
  | none => cases h
  | some r => exact v_callIs C (As := [a1, a2, a3]) (hM r rfl) h0 q.1 q.2.1 q.2.2.1 q.2.2.2 hR rfl hcat hdg (k r) ⟨z, h, q2⟩
theorem cIs3w (C : Ctx G K cc own nl fr lo) {a1 a2 a3 : Value} {W2 : SS → va_W} {x : Option (Int32 × SS)} {f : Int32 → SS → Option α} (hM : ∀ r σ, x = some (r, σ) → MI G K.2.1 y bytes n ret fc lc [a1, a2, a3] w r (W2 σ)) (q : CFs y bytes n ret 3) (h0 : Cond.methodLink own index y ∈ wsL_law) (hR : fc + 1 ≤ fr ∧ 8 + (n + 11) + lc ≤ lo) (hcat : (rest.map fun v => v.category).sum ≤ 8) (hdg : decode cc pc = .ok (.invokestatic index, 3)) (k : ∀ r σ, tp (f r σ) Φ → V G K (W2 σ) (pc + 3) lv (.int r :: rest)) : tp (bk2 x f) Φ → V G K w pc lv (a3 :: a2 :: a1 :: rest) := by
  intro ⟨z, h, q2⟩
  cases x with
  | none => cases h
  | some r => exact v_callIs C (As := [a1, a2, a3]) (hM r.1 r.2 rfl) h0 q.1 q.2.1 q.2.2.1 q.2.2.2 hR rfl hcat hdg (k r.1 r.2) ⟨z, h, q2⟩
theorem cLs3r (C : Ctx G K cc own nl fr lo) {a1 a2 a3 : Value} {x : Option Int64} {f : Int64 → Option α} (hM : ∀ r, x = some r → ML G K.2.1 y bytes n ret fc lc [a1, a2, a3] w r w) (q : CFs y bytes n ret 3) (h0 : Cond.methodLink own index y ∈ wsL_law) (hR : fc + 1 ≤ fr ∧ 8 + (n + 11) + lc ≤ lo) (hcat : (rest.map fun v => v.category).sum ≤ 8) (hdg : decode cc pc = .ok (.invokestatic index, 3)) (k : ∀ r, tp (f r) Φ → V G K w (pc + 3) lv (.long r :: rest)) : tp (bd x f) Φ → V G K w pc lv (a3 :: a2 :: a1 :: rest) := by
  intro ⟨z, h, q2⟩
  cases x with
  | none => cases h
  | some r => exact v_callLs C (As := [a1, a2, a3]) (hM r rfl) h0 q.1 q.2.1 q.2.2.1 q.2.2.2 hR rfl hcat hdg (k r) ⟨z, h, q2⟩
theorem cLs3w (C : Ctx G K cc own nl fr lo) {a1 a2 a3 : Value} {W2 : SS → va_W} {x : Option (Int64 × SS)} {f : Int64 → SS → Option α} (hM : ∀ r σ, x = some (r, σ) → ML G K.2.1 y bytes n ret fc lc [a1, a2, a3] w r (W2 σ)) (q : CFs y bytes n ret 3) (h0 : Cond.methodLink own index y ∈ wsL_law) (hR : fc + 1 ≤ fr ∧ 8 + (n + 11) + lc ≤ lo) (hcat : (rest.map fun v => v.category).sum ≤ 8) (hdg : decode cc pc = .ok (.invokestatic index, 3)) (k : ∀ r σ, tp (f r σ) Φ → V G K (W2 σ) (pc + 3) lv (.long r :: rest)) : tp (bk2 x f) Φ → V G K w pc lv (a3 :: a2 :: a1 :: rest) := by
  intro ⟨z, h, q2⟩
  cases x with
  | none => cases h
  | some r => exact v_callLs C (As := [a1, a2, a3]) (hM r.1 r.2 rfl) h0 q.1 q.2.1 q.2.2.1 q.2.2.2 hR rfl hcat hdg (k r.1 r.2) ⟨z, h, q2⟩
theorem cVs3w (C : Ctx G K cc own nl fr lo) {a1 a2 a3 : Value} {W2 : SS → va_W} {x : Option SS} {f : SS → Option α} (hM : ∀ σ, x = some σ → MV G K.2.1 y bytes n ret fc lc [a1, a2, a3] w (W2 σ)) (q : CFs y bytes n ret 3) (h0 : Cond.methodLink own index y ∈ wsL_law) (hR : fc + 1 ≤ fr ∧ 8 + (n + 11) + lc ≤ lo) (hcat : (rest.map fun v => v.category).sum ≤ 8) (hdg : decode cc pc = .ok (.invokestatic index, 3)) (k : ∀ σ, tp (f σ) Φ → V G K (W2 σ) (pc + 3) lv (rest)) : tp (bd x f) Φ → V G K w pc lv (a3 :: a2 :: a1 :: rest) := by
  intro ⟨z, h, q2⟩
  cases x with
  | none => cases h
  | some r => exact v_callVs C (As := [a1, a2, a3]) (hM r rfl) h0 q.1 q.2.1 q.2.2.1 q.2.2.2 hR rfl hcat hdg (k r) ⟨z, h, q2⟩
theorem cIv4r (C : Ctx G K cc own nl fr lo) {a1 a2 a3 a4 : Value} {x : Option Int32} {f : Int32 → Option α} (hM : ∀ r, x = some r → MI G K.2.1 y bytes n ret fc lc [.ref b, a1, a2, a3, a4] w r w) (q : CFv y bytes n ret 4) (h0 : Cond.methodLink own index y ∈ wsL_law) (hrecv : ∃ (q0 ci : Nat) (fs : List Value) (T : u_T) (N : Nat), vwCl[ci]? = some (y.cls, T, N) ∧ w[q0]? = some (b, .inr (ci, fs))) (hR : fc + 1 ≤ fr ∧ 8 + (n + 11) + lc ≤ lo) (hcat : (rest.map fun v => v.category).sum ≤ 8) (hdg : decode cc pc = .ok (.invokevirtual index, 3)) (k : ∀ r, tp (f r) Φ → V G K w (pc + 3) lv (.int r :: rest)) : tp (bd x f) Φ → V G K w pc lv (a4 :: a3 :: a2 :: a1 :: .ref b :: rest) := by
  intro ⟨z, h, q2⟩
  cases x with
  | none => cases h
  | some r => exact v_callIv C (As := [a1, a2, a3, a4]) (hM r rfl) h0 q.1 q.2.1 q.2.2.1 q.2.2.2.1 hrecv q.2.2.2.2 hR rfl hcat hdg (k r) ⟨z, h, q2⟩
theorem cIv4w (C : Ctx G K cc own nl fr lo) {a1 a2 a3 a4 : Value} {W2 : SS → va_W} {x : Option (Int32 × SS)} {f : Int32 → SS → Option α} (hM : ∀ r σ, x = some (r, σ) → MI G K.2.1 y bytes n ret fc lc [.ref b, a1, a2, a3, a4] w r (W2 σ)) (q : CFv y bytes n ret 4) (h0 : Cond.methodLink own index y ∈ wsL_law) (hrecv : ∃ (q0 ci : Nat) (fs : List Value) (T : u_T) (N : Nat), vwCl[ci]? = some (y.cls, T, N) ∧ w[q0]? = some (b, .inr (ci, fs))) (hR : fc + 1 ≤ fr ∧ 8 + (n + 11) + lc ≤ lo) (hcat : (rest.map fun v => v.category).sum ≤ 8) (hdg : decode cc pc = .ok (.invokevirtual index, 3)) (k : ∀ r σ, tp (f r σ) Φ → V G K (W2 σ) (pc + 3) lv (.int r :: rest)) : tp (bk2 x f) Φ → V G K w pc lv (a4 :: a3 :: a2 :: a1 :: .ref b :: rest) := by
  intro ⟨z, h, q2⟩
  cases x with
  | none => cases h
  | some r => exact v_callIv C (As := [a1, a2, a3, a4]) (hM r.1 r.2 rfl) h0 q.1 q.2.1 q.2.2.1 q.2.2.2.1 hrecv q.2.2.2.2 hR rfl hcat hdg (k r.1 r.2) ⟨z, h, q2⟩
theorem cLv4r (C : Ctx G K cc own nl fr lo) {a1 a2 a3 a4 : Value} {x : Option Int64} {f : Int64 → Option α} (hM : ∀ r, x = some r → ML G K.2.1 y bytes n ret fc lc [.ref b, a1, a2, a3, a4] w r w) (q : CFv y bytes n ret 4) (h0 : Cond.methodLink own index y ∈ wsL_law) (hrecv : ∃ (q0 ci : Nat) (fs : List Value) (T : u_T) (N : Nat), vwCl[ci]? = some (y.cls, T, N) ∧ w[q0]? = some (b, .inr (ci, fs))) (hR : fc + 1 ≤ fr ∧ 8 + (n + 11) + lc ≤ lo) (hcat : (rest.map fun v => v.category).sum ≤ 8) (hdg : decode cc pc = .ok (.invokevirtual index, 3)) (k : ∀ r, tp (f r) Φ → V G K w (pc + 3) lv (.long r :: rest)) : tp (bd x f) Φ → V G K w pc lv (a4 :: a3 :: a2 :: a1 :: .ref b :: rest) := by
  intro ⟨z, h, q2⟩
  cases x with
  | none => cases h
  | some r => exact v_callLv C (As := [a1, a2, a3, a4]) (hM r rfl) h0 q.1 q.2.1 q.2.2.1 q.2.2.2.1 hrecv q.2.2.2.2 hR rfl hcat hdg (k r) ⟨z, h, q2⟩
theorem cLv4w (C : Ctx G K cc own nl fr lo) {a1 a2 a3 a4 : Value} {W2 : SS → va_W} {x : Option (Int64 × SS)} {f : Int64 → SS → Option α} (hM : ∀ r σ, x = some (r, σ) → ML G K.2.1 y bytes n ret fc lc [.ref b, a1, a2, a3, a4] w r (W2 σ)) (q : CFv y bytes n ret 4) (h0 : Cond.methodLink own index y ∈ wsL_law) (hrecv : ∃ (q0 ci : Nat) (fs : List Value) (T : u_T) (N : Nat), vwCl[ci]? = some (y.cls, T, N) ∧ w[q0]? = some (b, .inr (ci, fs))) (hR : fc + 1 ≤ fr ∧ 8 + (n + 11) + lc ≤ lo) (hcat : (rest.map fun v => v.category).sum ≤ 8) (hdg : decode cc pc = .ok (.invokevirtual index, 3)) (k : ∀ r σ, tp (f r σ) Φ → V G K (W2 σ) (pc + 3) lv (.long r :: rest)) : tp (bk2 x f) Φ → V G K w pc lv (a4 :: a3 :: a2 :: a1 :: .ref b :: rest) := by
  intro ⟨z, h, q2⟩
  cases x with
  | none => cases h
  | some r => exact v_callLv C (As := [a1, a2, a3, a4]) (hM r.1 r.2 rfl) h0 q.1 q.2.1 q.2.2.1 q.2.2.2.1 hrecv q.2.2.2.2 hR rfl hcat hdg (k r.1 r.2) ⟨z, h, q2⟩
theorem cVv4w (C : Ctx G K cc own nl fr lo) {a1 a2 a3 a4 : Value} {W2 : SS → va_W} {x : Option SS} {f : SS → Option α} (hM : ∀ σ, x = some σ → MV G K.2.1 y bytes n ret fc lc [.ref b, a1, a2, a3, a4] w (W2 σ)) (q : CFv y bytes n ret 4) (h0 : Cond.methodLink own index y ∈ wsL_law) (hrecv : ∃ (q0 ci : Nat) (fs : List Value) (T : u_T) (N : Nat), vwCl[ci]? = some (y.cls, T, N) ∧ w[q0]? = some (b, .inr (ci, fs))) (hR : fc + 1 ≤ fr ∧ 8 + (n + 11) + lc ≤ lo) (hcat : (rest.map fun v => v.category).sum ≤ 8) (hdg : decode cc pc = .ok (.invokevirtual index, 3)) (k : ∀ σ, tp (f σ) Φ → V G K (W2 σ) (pc + 3) lv (rest)) : tp (bd x f) Φ → V G K w pc lv (a4 :: a3 :: a2 :: a1 :: .ref b :: rest) := by
  intro ⟨z, h, q2⟩
  cases x with
  | none => cases h
  | some r => exact v_callVv C (As := [a1, a2, a3, a4]) (hM r rfl) h0 q.1 q.2.1 q.2.2.1 q.2.2.2.1 hrecv q.2.2.2.2 hR rfl hcat hdg (k r) ⟨z, h, q2⟩
theorem cIs4r (C : Ctx G K cc own nl fr lo) {a1 a2 a3 a4 : Value} {x : Option Int32} {f : Int32 → Option α} (hM : ∀ r, x = some r → MI G K.2.1 y bytes n ret fc lc [a1, a2, a3, a4] w r w) (q : CFs y bytes n ret 4) (h0 : Cond.methodLink own index y ∈ wsL_law) (hR : fc + 1 ≤ fr ∧ 8 + (n + 11) + lc ≤ lo) (hcat : (rest.map fun v => v.category).sum ≤ 8) (hdg : decode cc pc = .ok (.invokestatic index, 3)) (k : ∀ r, tp (f r) Φ → V G K w (pc + 3) lv (.int r :: rest)) : tp (bd x f) Φ → V G K w pc lv (a4 :: a3 :: a2 :: a1 :: rest) := by
  intro ⟨z, h, q2⟩
  cases x with
  | none => cases h
  | some r => exact v_callIs C (As := [a1, a2, a3, a4]) (hM r rfl) h0 q.1 q.2.1 q.2.2.1 q.2.2.2 hR rfl hcat hdg (k r) ⟨z, h, q2⟩
theorem cIs4w (C : Ctx G K cc own nl fr lo) {a1 a2 a3 a4 : Value} {W2 : SS → va_W} {x : Option (Int32 × SS)} {f : Int32 → SS → Option α} (hM : ∀ r σ, x = some (r, σ) → MI G K.2.1 y bytes n ret fc lc [a1, a2, a3, a4] w r (W2 σ)) (q : CFs y bytes n ret 4) (h0 : Cond.methodLink own index y ∈ wsL_law) (hR : fc + 1 ≤ fr ∧ 8 + (n + 11) + lc ≤ lo) (hcat : (rest.map fun v => v.category).sum ≤ 8) (hdg : decode cc pc = .ok (.invokestatic index, 3)) (k : ∀ r σ, tp (f r σ) Φ → V G K (W2 σ) (pc + 3) lv (.int r :: rest)) : tp (bk2 x f) Φ → V G K w pc lv (a4 :: a3 :: a2 :: a1 :: rest) := by
  intro ⟨z, h, q2⟩
  cases x with
  | none => cases h
  | some r => exact v_callIs C (As := [a1, a2, a3, a4]) (hM r.1 r.2 rfl) h0 q.1 q.2.1 q.2.2.1 q.2.2.2 hR rfl hcat hdg (k r.1 r.2) ⟨z, h, q2⟩
theorem cLs4r (C : Ctx G K cc own nl fr lo) {a1 a2 a3 a4 : Value} {x : Option Int64} {f : Int64 → Option α} (hM : ∀ r, x = some r → ML G K.2.1 y bytes n ret fc lc [a1, a2, a3, a4] w r w) (q : CFs y bytes n ret 4) (h0 : Cond.methodLink own index y ∈ wsL_law) (hR : fc + 1 ≤ fr ∧ 8 + (n + 11) + lc ≤ lo) (hcat : (rest.map fun v => v.category).sum ≤ 8) (hdg : decode cc pc = .ok (.invokestatic index, 3)) (k : ∀ r, tp (f r) Φ → V G K w (pc + 3) lv (.long r :: rest)) : tp (bd x f) Φ → V G K w pc lv (a4 :: a3 :: a2 :: a1 :: rest) := by
  intro ⟨z, h, q2⟩
  cases x with
  | none => cases h
  | some r => exact v_callLs C (As := [a1, a2, a3, a4]) (hM r rfl) h0 q.1 q.2.1 q.2.2.1 q.2.2.2 hR rfl hcat hdg (k r) ⟨z, h, q2⟩
theorem cLs4w (C : Ctx G K cc own nl fr lo) {a1 a2 a3 a4 : Value} {W2 : SS → va_W} {x : Option (Int64 × SS)} {f : Int64 → SS → Option α} (hM : ∀ r σ, x = some (r, σ) → ML G K.2.1 y bytes n ret fc lc [a1, a2, a3, a4] w r (W2 σ)) (q : CFs y bytes n ret 4) (h0 : Cond.methodLink own index y ∈ wsL_law) (hR : fc + 1 ≤ fr ∧ 8 + (n + 11) + lc ≤ lo) (hcat : (rest.map fun v => v.category).sum ≤ 8) (hdg : decode cc pc = .ok (.invokestatic index, 3)) (k : ∀ r σ, tp (f r σ) Φ → V G K (W2 σ) (pc + 3) lv (.long r :: rest)) : tp (bk2 x f) Φ → V G K w pc lv (a4 :: a3 :: a2 :: a1 :: rest) := by
  intro ⟨z, h, q2⟩
  cases x with
  | none => cases h
  | some r => exact v_callLs C (As := [a1, a2, a3, a4]) (hM r.1 r.2 rfl) h0 q.1 q.2.1 q.2.2.1 q.2.2.2 hR rfl hcat hdg (k r.1 r.2) ⟨z, h, q2⟩
theorem cVs4w (C : Ctx G K cc own nl fr lo) {a1 a2 a3 a4 : Value} {W2 : SS → va_W} {x : Option SS} {f : SS → Option α} (hM : ∀ σ, x = some σ → MV G K.2.1 y bytes n ret fc lc [a1, a2, a3, a4] w (W2 σ)) (q : CFs y bytes n ret 4) (h0 : Cond.methodLink own index y ∈ wsL_law) (hR : fc + 1 ≤ fr ∧ 8 + (n + 11) + lc ≤ lo) (hcat : (rest.map fun v => v.category).sum ≤ 8) (hdg : decode cc pc = .ok (.invokestatic index, 3)) (k : ∀ σ, tp (f σ) Φ → V G K (W2 σ) (pc + 3) lv (rest)) : tp (bd x f) Φ → V G K w pc lv (a4 :: a3 :: a2 :: a1 :: rest) := by
  intro ⟨z, h, q2⟩
  cases x with
  | none => cases h
  | some r => exact v_callVs C (As := [a1, a2, a3, a4]) (hM r rfl) h0 q.1 q.2.1 q.2.2.1 q.2.2.2 hR rfl hcat hdg (k r) ⟨z, h, q2⟩
theorem cIv5r (C : Ctx G K cc own nl fr lo) {a1 a2 a3 a4 a5 : Value} {x : Option Int32} {f : Int32 → Option α} (hM : ∀ r, x = some r → MI G K.2.1 y bytes n ret fc lc [.ref b, a1, a2, a3, a4, a5] w r w) (q : CFv y bytes n ret 5) (h0 : Cond.methodLink own index y ∈ wsL_law) (hrecv : ∃ (q0 ci : Nat) (fs : List Value) (T : u_T) (N : Nat), vwCl[ci]? = some (y.cls, T, N) ∧ w[q0]? = some (b, .inr (ci, fs))) (hR : fc + 1 ≤ fr ∧ 8 + (n + 11) + lc ≤ lo) (hcat : (rest.map fun v => v.category).sum ≤ 8) (hdg : decode cc pc = .ok (.invokevirtual index, 3)) (k : ∀ r, tp (f r) Φ → V G K w (pc + 3) lv (.int r :: rest)) : tp (bd x f) Φ → V G K w pc lv (a5 :: a4 :: a3 :: a2 :: a1 :: .ref b :: rest) := by
  intro ⟨z, h, q2⟩
  cases x with
  | none => cases h
  | some r => exact v_callIv C (As := [a1, a2, a3, a4, a5]) (hM r rfl) h0 q.1 q.2.1 q.2.2.1 q.2.2.2.1 hrecv q.2.2.2.2 hR rfl hcat hdg (k r) ⟨z, h, q2⟩
theorem cIv5w (C : Ctx G K cc own nl fr lo) {a1 a2 a3 a4 a5 : Value} {W2 : SS → va_W} {x : Option (Int32 × SS)} {f : Int32 → SS → Option α} (hM : ∀ r σ, x = some (r, σ) → MI G K.2.1 y bytes n ret fc lc [.ref b, a1, a2, a3, a4, a5] w r (W2 σ)) (q : CFv y bytes n ret 5) (h0 : Cond.methodLink own index y ∈ wsL_law) (hrecv : ∃ (q0 ci : Nat) (fs : List Value) (T : u_T) (N : Nat), vwCl[ci]? = some (y.cls, T, N) ∧ w[q0]? = some (b, .inr (ci, fs))) (hR : fc + 1 ≤ fr ∧ 8 + (n + 11) + lc ≤ lo) (hcat : (rest.map fun v => v.category).sum ≤ 8) (hdg : decode cc pc = .ok (.invokevirtual index, 3)) (k : ∀ r σ, tp (f r σ) Φ → V G K (W2 σ) (pc + 3) lv (.int r :: rest)) : tp (bk2 x f) Φ → V G K w pc lv (a5 :: a4 :: a3 :: a2 :: a1 :: .ref b :: rest) := by
  intro ⟨z, h, q2⟩
  cases x with
  | none => cases h
  | some r => exact v_callIv C (As := [a1, a2, a3, a4, a5]) (hM r.1 r.2 rfl) h0 q.1 q.2.1 q.2.2.1 q.2.2.2.1 hrecv q.2.2.2.2 hR rfl hcat hdg (k r.1 r.2) ⟨z, h, q2⟩
theorem cLv5r (C : Ctx G K cc own nl fr lo) {a1 a2 a3 a4 a5 : Value} {x : Option Int64} {f : Int64 → Option α} (hM : ∀ r, x = some r → ML G K.2.1 y bytes n ret fc lc [.ref b, a1, a2, a3, a4, a5] w r w) (q : CFv y bytes n ret 5) (h0 : Cond.methodLink own index y ∈ wsL_law) (hrecv : ∃ (q0 ci : Nat) (fs : List Value) (T : u_T) (N : Nat), vwCl[ci]? = some (y.cls, T, N) ∧ w[q0]? = some (b, .inr (ci, fs))) (hR : fc + 1 ≤ fr ∧ 8 + (n + 11) + lc ≤ lo) (hcat : (rest.map fun v => v.category).sum ≤ 8) (hdg : decode cc pc = .ok (.invokevirtual index, 3)) (k : ∀ r, tp (f r) Φ → V G K w (pc + 3) lv (.long r :: rest)) : tp (bd x f) Φ → V G K w pc lv (a5 :: a4 :: a3 :: a2 :: a1 :: .ref b :: rest) := by
  intro ⟨z, h, q2⟩
  cases x with
  | none => cases h
  | some r => exact v_callLv C (As := [a1, a2, a3, a4, a5]) (hM r rfl) h0 q.1 q.2.1 q.2.2.1 q.2.2.2.1 hrecv q.2.2.2.2 hR rfl hcat hdg (k r) ⟨z, h, q2⟩
theorem cLv5w (C : Ctx G K cc own nl fr lo) {a1 a2 a3 a4 a5 : Value} {W2 : SS → va_W} {x : Option (Int64 × SS)} {f : Int64 → SS → Option α} (hM : ∀ r σ, x = some (r, σ) → ML G K.2.1 y bytes n ret fc lc [.ref b, a1, a2, a3, a4, a5] w r (W2 σ)) (q : CFv y bytes n ret 5) (h0 : Cond.methodLink own index y ∈ wsL_law) (hrecv : ∃ (q0 ci : Nat) (fs : List Value) (T : u_T) (N : Nat), vwCl[ci]? = some (y.cls, T, N) ∧ w[q0]? = some (b, .inr (ci, fs))) (hR : fc + 1 ≤ fr ∧ 8 + (n + 11) + lc ≤ lo) (hcat : (rest.map fun v => v.category).sum ≤ 8) (hdg : decode cc pc = .ok (.invokevirtual index, 3)) (k : ∀ r σ, tp (f r σ) Φ → V G K (W2 σ) (pc + 3) lv (.long r :: rest)) : tp (bk2 x f) Φ → V G K w pc lv (a5 :: a4 :: a3 :: a2 :: a1 :: .ref b :: rest) := by
  intro ⟨z, h, q2⟩
  cases x with
  | none => cases h
  | some r => exact v_callLv C (As := [a1, a2, a3, a4, a5]) (hM r.1 r.2 rfl) h0 q.1 q.2.1 q.2.2.1 q.2.2.2.1 hrecv q.2.2.2.2 hR rfl hcat hdg (k r.1 r.2) ⟨z, h, q2⟩
theorem cVv5w (C : Ctx G K cc own nl fr lo) {a1 a2 a3 a4 a5 : Value} {W2 : SS → va_W} {x : Option SS} {f : SS → Option α} (hM : ∀ σ, x = some σ → MV G K.2.1 y bytes n ret fc lc [.ref b, a1, a2, a3, a4, a5] w (W2 σ)) (q : CFv y bytes n ret 5) (h0 : Cond.methodLink own index y ∈ wsL_law) (hrecv : ∃ (q0 ci : Nat) (fs : List Value) (T : u_T) (N : Nat), vwCl[ci]? = some (y.cls, T, N) ∧ w[q0]? = some (b, .inr (ci, fs))) (hR : fc + 1 ≤ fr ∧ 8 + (n + 11) + lc ≤ lo) (hcat : (rest.map fun v => v.category).sum ≤ 8) (hdg : decode cc pc = .ok (.invokevirtual index, 3)) (k : ∀ σ, tp (f σ) Φ → V G K (W2 σ) (pc + 3) lv (rest)) : tp (bd x f) Φ → V G K w pc lv (a5 :: a4 :: a3 :: a2 :: a1 :: .ref b :: rest) := by
  intro ⟨z, h, q2⟩
  cases x with
  | none => cases h
  | some r => exact v_callVv C (As := [a1, a2, a3, a4, a5]) (hM r rfl) h0 q.1 q.2.1 q.2.2.1 q.2.2.2.1 hrecv q.2.2.2.2 hR rfl hcat hdg (k r) ⟨z, h, q2⟩
theorem cIs5r (C : Ctx G K cc own nl fr lo) {a1 a2 a3 a4 a5 : Value} {x : Option Int32} {f : Int32 → Option α} (hM : ∀ r, x = some r → MI G K.2.1 y bytes n ret fc lc [a1, a2, a3, a4, a5] w r w) (q : CFs y bytes n ret 5) (h0 : Cond.methodLink own index y ∈ wsL_law) (hR : fc + 1 ≤ fr ∧ 8 + (n + 11) + lc ≤ lo) (hcat : (rest.map fun v => v.category).sum ≤ 8) (hdg : decode cc pc = .ok (.invokestatic index, 3)) (k : ∀ r, tp (f r) Φ → V G K w (pc + 3) lv (.int r :: rest)) : tp (bd x f) Φ → V G K w pc lv (a5 :: a4 :: a3 :: a2 :: a1 :: rest) := by
  intro ⟨z, h, q2⟩
  cases x with
  | none => cases h
  | some r => exact v_callIs C (As := [a1, a2, a3, a4, a5]) (hM r rfl) h0 q.1 q.2.1 q.2.2.1 q.2.2.2 hR rfl hcat hdg (k r) ⟨z, h, q2⟩
theorem cIs5w (C : Ctx G K cc own nl fr lo) {a1 a2 a3 a4 a5 : Value} {W2 : SS → va_W} {x : Option (Int32 × SS)} {f : Int32 → SS → Option α} (hM : ∀ r σ, x = some (r, σ) → MI G K.2.1 y bytes n ret fc lc [a1, a2, a3, a4, a5] w r (W2 σ)) (q : CFs y bytes n ret 5) (h0 : Cond.methodLink own index y ∈ wsL_law) (hR : fc + 1 ≤ fr ∧ 8 + (n + 11) + lc ≤ lo) (hcat : (rest.map fun v => v.category).sum ≤ 8) (hdg : decode cc pc = .ok (.invokestatic index, 3)) (k : ∀ r σ, tp (f r σ) Φ → V G K (W2 σ) (pc + 3) lv (.int r :: rest)) : tp (bk2 x f) Φ → V G K w pc lv (a5 :: a4 :: a3 :: a2 :: a1 :: rest) := by
  intro ⟨z, h, q2⟩
  cases x with
  | none => cases h
  | some r => exact v_callIs C (As := [a1, a2, a3, a4, a5]) (hM r.1 r.2 rfl) h0 q.1 q.2.1 q.2.2.1 q.2.2.2 hR rfl hcat hdg (k r.1 r.2) ⟨z, h, q2⟩
theorem cLs5r (C : Ctx G K cc own nl fr lo) {a1 a2 a3 a4 a5 : Value} {x : Option Int64} {f : Int64 → Option α} (hM : ∀ r, x = some r → ML G K.2.1 y bytes n ret fc lc [a1, a2, a3, a4, a5] w r w) (q : CFs y bytes n ret 5) (h0 : Cond.methodLink own index y ∈ wsL_law) (hR : fc + 1 ≤ fr ∧ 8 + (n + 11) + lc ≤ lo) (hcat : (rest.map fun v => v.category).sum ≤ 8) (hdg : decode cc pc = .ok (.invokestatic index, 3)) (k : ∀ r, tp (f r) Φ → V G K w (pc + 3) lv (.long r :: rest)) : tp (bd x f) Φ → V G K w pc lv (a5 :: a4 :: a3 :: a2 :: a1 :: rest) := by
  intro ⟨z, h, q2⟩
  cases x with
  | none => cases h
  | some r => exact v_callLs C (As := [a1, a2, a3, a4, a5]) (hM r rfl) h0 q.1 q.2.1 q.2.2.1 q.2.2.2 hR rfl hcat hdg (k r) ⟨z, h, q2⟩
theorem cLs5w (C : Ctx G K cc own nl fr lo) {a1 a2 a3 a4 a5 : Value} {W2 : SS → va_W} {x : Option (Int64 × SS)} {f : Int64 → SS → Option α} (hM : ∀ r σ, x = some (r, σ) → ML G K.2.1 y bytes n ret fc lc [a1, a2, a3, a4, a5] w r (W2 σ)) (q : CFs y bytes n ret 5) (h0 : Cond.methodLink own index y ∈ wsL_law) (hR : fc + 1 ≤ fr ∧ 8 + (n + 11) + lc ≤ lo) (hcat : (rest.map fun v => v.category).sum ≤ 8) (hdg : decode cc pc = .ok (.invokestatic index, 3)) (k : ∀ r σ, tp (f r σ) Φ → V G K (W2 σ) (pc + 3) lv (.long r :: rest)) : tp (bk2 x f) Φ → V G K w pc lv (a5 :: a4 :: a3 :: a2 :: a1 :: rest) := by
  intro ⟨z, h, q2⟩
  cases x with
  | none => cases h
  | some r => exact v_callLs C (As := [a1, a2, a3, a4, a5]) (hM r.1 r.2 rfl) h0 q.1 q.2.1 q.2.2.1 q.2.2.2 hR rfl hcat hdg (k r.1 r.2) ⟨z, h, q2⟩
theorem cVs5w (C : Ctx G K cc own nl fr lo) {a1 a2 a3 a4 a5 : Value} {W2 : SS → va_W} {x : Option SS} {f : SS → Option α} (hM : ∀ σ, x = some σ → MV G K.2.1 y bytes n ret fc lc [a1, a2, a3, a4, a5] w (W2 σ)) (q : CFs y bytes n ret 5) (h0 : Cond.methodLink own index y ∈ wsL_law) (hR : fc + 1 ≤ fr ∧ 8 + (n + 11) + lc ≤ lo) (hcat : (rest.map fun v => v.category).sum ≤ 8) (hdg : decode cc pc = .ok (.invokestatic index, 3)) (k : ∀ σ, tp (f σ) Φ → V G K (W2 σ) (pc + 3) lv (rest)) : tp (bd x f) Φ → V G K w pc lv (a5 :: a4 :: a3 :: a2 :: a1 :: rest) := by
  intro ⟨z, h, q2⟩
  cases x with
  | none => cases h
  | some r => exact v_callVs C (As := [a1, a2, a3, a4, a5]) (hM r rfl) h0 q.1 q.2.1 q.2.2.1 q.2.2.2 hR rfl hcat hdg (k r) ⟨z, h, q2⟩
theorem cIs6r (C : Ctx G K cc own nl fr lo) {a1 a2 a3 a4 a5 a6 : Value} {x : Option Int32} {f : Int32 → Option α} (hM : ∀ r, x = some r → MI G K.2.1 y bytes n ret fc lc [a1, a2, a3, a4, a5, a6] w r w) (q : CFs y bytes n ret 6) (h0 : Cond.methodLink own index y ∈ wsL_law) (hR : fc + 1 ≤ fr ∧ 8 + (n + 11) + lc ≤ lo) (hcat : (rest.map fun v => v.category).sum ≤ 8) (hdg : decode cc pc = .ok (.invokestatic index, 3)) (k : ∀ r, tp (f r) Φ → V G K w (pc + 3) lv (.int r :: rest)) : tp (bd x f) Φ → V G K w pc lv (a6 :: a5 :: a4 :: a3 :: a2 :: a1 :: rest) := by
  intro ⟨z, h, q2⟩
  cases x with
  | none => cases h
  | some r => exact v_callIs C (As := [a1, a2, a3, a4, a5, a6]) (hM r rfl) h0 q.1 q.2.1 q.2.2.1 q.2.2.2 hR rfl hcat hdg (k r) ⟨z, h, q2⟩
theorem cIs6w (C : Ctx G K cc own nl fr lo) {a1 a2 a3 a4 a5 a6 : Value} {W2 : SS → va_W} {x : Option (Int32 × SS)} {f : Int32 → SS → Option α} (hM : ∀ r σ, x = some (r, σ) → MI G K.2.1 y bytes n ret fc lc [a1, a2, a3, a4, a5, a6] w r (W2 σ)) (q : CFs y bytes n ret 6) (h0 : Cond.methodLink own index y ∈ wsL_law) (hR : fc + 1 ≤ fr ∧ 8 + (n + 11) + lc ≤ lo) (hcat : (rest.map fun v => v.category).sum ≤ 8) (hdg : decode cc pc = .ok (.invokestatic index, 3)) (k : ∀ r σ, tp (f r σ) Φ → V G K (W2 σ) (pc + 3) lv (.int r :: rest)) : tp (bk2 x f) Φ → V G K w pc lv (a6 :: a5 :: a4 :: a3 :: a2 :: a1 :: rest) := by
  intro ⟨z, h, q2⟩
  cases x with
  | none => cases h
  | some r => exact v_callIs C (As := [a1, a2, a3, a4, a5, a6]) (hM r.1 r.2 rfl) h0 q.1 q.2.1 q.2.2.1 q.2.2.2 hR rfl hcat hdg (k r.1 r.2) ⟨z, h, q2⟩
theorem cLs6r (C : Ctx G K cc own nl fr lo) {a1 a2 a3 a4 a5 a6 : Value} {x : Option Int64} {f : Int64 → Option α} (hM : ∀ r, x = some r → ML G K.2.1 y bytes n ret fc lc [a1, a2, a3, a4, a5, a6] w r w) (q : CFs y bytes n ret 6) (h0 : Cond.methodLink own index y ∈ wsL_law) (hR : fc + 1 ≤ fr ∧ 8 + (n + 11) + lc ≤ lo) (hcat : (rest.map fun v => v.category).sum ≤ 8) (hdg : decode cc pc = .ok (.invokestatic index, 3)) (k : ∀ r, tp (f r) Φ → V G K w (pc + 3) lv (.long r :: rest)) : tp (bd x f) Φ → V G K w pc lv (a6 :: a5 :: a4 :: a3 :: a2 :: a1 :: rest) := by
  intro ⟨z, h, q2⟩
  cases x with
  | none => cases h
  | some r => exact v_callLs C (As := [a1, a2, a3, a4, a5, a6]) (hM r rfl) h0 q.1 q.2.1 q.2.2.1 q.2.2.2 hR rfl hcat hdg (k r) ⟨z, h, q2⟩
theorem cLs6w (C : Ctx G K cc own nl fr lo) {a1 a2 a3 a4 a5 a6 : Value} {W2 : SS → va_W} {x : Option (Int64 × SS)} {f : Int64 → SS → Option α} (hM : ∀ r σ, x = some (r, σ) → ML G K.2.1 y bytes n ret fc lc [a1, a2, a3, a4, a5, a6] w r (W2 σ)) (q : CFs y bytes n ret 6) (h0 : Cond.methodLink own index y ∈ wsL_law) (hR : fc + 1 ≤ fr ∧ 8 + (n + 11) + lc ≤ lo) (hcat : (rest.map fun v => v.category).sum ≤ 8) (hdg : decode cc pc = .ok (.invokestatic index, 3)) (k : ∀ r σ, tp (f r σ) Φ → V G K (W2 σ) (pc + 3) lv (.long r :: rest)) : tp (bk2 x f) Φ → V G K w pc lv (a6 :: a5 :: a4 :: a3 :: a2 :: a1 :: rest) := by
  intro ⟨z, h, q2⟩
  cases x with
  | none => cases h
  | some r => exact v_callLs C (As := [a1, a2, a3, a4, a5, a6]) (hM r.1 r.2 rfl) h0 q.1 q.2.1 q.2.2.1 q.2.2.2 hR rfl hcat hdg (k r.1 r.2) ⟨z, h, q2⟩
theorem cVs6w (C : Ctx G K cc own nl fr lo) {a1 a2 a3 a4 a5 a6 : Value} {W2 : SS → va_W} {x : Option SS} {f : SS → Option α} (hM : ∀ σ, x = some σ → MV G K.2.1 y bytes n ret fc lc [a1, a2, a3, a4, a5, a6] w (W2 σ)) (q : CFs y bytes n ret 6) (h0 : Cond.methodLink own index y ∈ wsL_law) (hR : fc + 1 ≤ fr ∧ 8 + (n + 11) + lc ≤ lo) (hcat : (rest.map fun v => v.category).sum ≤ 8) (hdg : decode cc pc = .ok (.invokestatic index, 3)) (k : ∀ σ, tp (f σ) Φ → V G K (W2 σ) (pc + 3) lv (rest)) : tp (bd x f) Φ → V G K w pc lv (a6 :: a5 :: a4 :: a3 :: a2 :: a1 :: rest) := by
  intro ⟨z, h, q2⟩
  cases x with
  | none => cases h
  | some r => exact v_callVs C (As := [a1, a2, a3, a4, a5, a6]) (hM r rfl) h0 q.1 q.2.1 q.2.2.1 q.2.2.2 hR rfl hcat hdg (k r) ⟨z, h, q2⟩
end TCALLS
theorem q_yX0_write : CFv yX0_write cX0_write 4 (some .boolean) 3 := ⟨mw_800, mw_801, mw_31, mw_802, by decide +kernel, by decide +kernel, by decide +kernel⟩
theorem q_yX0_howMany : CFv yX0_howMany cX0_howMany 7 (some .int) 4 := ⟨mw_812, mw_813, mw_31, mw_814, by decide +kernel, by decide +kernel, by decide +kernel⟩
theorem q_yX0_heights : CFv yX0_heights cX0_heights 6 (some .int) 3 := ⟨mw_829, mw_830, mw_31, mw_831, by decide +kernel, by decide +kernel, by decide +kernel⟩
theorem q_yX0_isOf : CFv yX0_isOf cX0_isOf 5 (some .boolean) 4 := ⟨mw_816, mw_817, mw_31, mw_818, by decide +kernel, by decide +kernel, by decide +kernel⟩
theorem q_yX1_begin : CFv yX1_begin cX1_begin 2 none 1 := ⟨mw_304, mw_305, mw_35, mw_306, by decide +kernel, by decide +kernel, by decide +kernel⟩
theorem q_yX1_become : CFv yX1_become cX1_become 2 none 1 := ⟨mw_941, mw_942, mw_35, mw_943, by decide +kernel, by decide +kernel, by decide +kernel⟩
theorem q_yX1_draw : CFv yX1_draw cX1_draw 1 (some .int) 0 := ⟨mw_852, mw_853, mw_35, mw_854, by decide +kernel, by decide +kernel, by decide +kernel⟩
theorem q_yX1_arrive : CFv yX1_arrive cX1_arrive 3 none 2 := ⟨mw_857, mw_858, mw_35, mw_859, by decide +kernel, by decide +kernel, by decide +kernel⟩
theorem q_yX1_drop : CFv yX1_drop cX1_drop 2 none 1 := ⟨mw_862, mw_863, mw_35, mw_864, by decide +kernel, by decide +kernel, by decide +kernel⟩
theorem q_yX2_append : CFv yX2_append cX2_append 5 (some .boolean) 2 := ⟨mw_130, mw_131, mw_23, mw_132, by decide +kernel, by decide +kernel, by decide +kernel⟩
theorem q_yX2_rewind : CFv yX2_rewind cX2_rewind 1 none 0 := ⟨mw_170, mw_171, mw_23, mw_172, by decide +kernel, by decide +kernel, by decide +kernel⟩
theorem q_yX2_byteAt : CFv yX2_byteAt cX2_byteAt 2 (some .int) 1 := ⟨mw_178, mw_179, mw_23, mw_180, by decide +kernel, by decide +kernel, by decide +kernel⟩
theorem q_yX2_advance : CFv yX2_advance cX2_advance 2 none 0 := ⟨mw_174, mw_175, mw_23, mw_176, by decide +kernel, by decide +kernel, by decide +kernel⟩
theorem q_yX2_readNumber : CFv yX2_readNumber cX2_readNumber 3 (some .int) 0 := ⟨mw_185, mw_186, mw_23, mw_187, by decide +kernel, by decide +kernel, by decide +kernel⟩
theorem q_yX2_readWord : CFv yX2_readWord cX2_readWord 1 (some .int) 0 := ⟨mw_196, mw_197, mw_23, mw_198, by decide +kernel, by decide +kernel, by decide +kernel⟩
theorem q_yX2_says : CFv yX2_says cX2_says 3 (some .boolean) 1 := ⟨mw_200, mw_201, mw_23, mw_202, by decide +kernel, by decide +kernel, by decide +kernel⟩
theorem q_yX2_isDigit : CFs yX2_isDigit cX2_isDigit 1 (some .boolean) 1 := ⟨mw_182, mw_23, mw_183, by decide +kernel, by decide +kernel, by decide +kernel⟩
theorem q_yX2_isLetter : CFs yX2_isLetter cX2_isLetter 1 (some .boolean) 1 := ⟨mw_193, mw_23, mw_194, by decide +kernel, by decide +kernel, by decide +kernel⟩
theorem q_yX3_forget : CFv yX3_forget cX3_forget 2 none 0 := ⟨mw_513, mw_514, mw_27, mw_515, by decide +kernel, by decide +kernel, by decide +kernel⟩
theorem q_yX3_setTenths : CFv yX3_setTenths cX3_setTenths 3 none 2 := ⟨mw_517, mw_518, mw_27, mw_519, by decide +kernel, by decide +kernel, by decide +kernel⟩
theorem q_yX3_join : CFv yX3_join cX3_join 3 none 2 := ⟨mw_524, mw_525, mw_27, mw_526, by decide +kernel, by decide +kernel, by decide +kernel⟩
theorem q_yX3_oddsOf : CFv yX3_oddsOf cX3_oddsOf 2 (some .long) 1 := ⟨mw_541, mw_542, mw_27, mw_543, by decide +kernel, by decide +kernel, by decide +kernel⟩
theorem q_yX3_stepsTo : CFv yX3_stepsTo cX3_stepsTo 2 (some .int) 1 := ⟨mw_545, mw_546, mw_27, mw_547, by decide +kernel, by decide +kernel, by decide +kernel⟩
theorem q_yX3_flood : CFv yX3_flood cX3_flood 9 (some .int) 2 := ⟨mw_585, mw_586, mw_27, mw_587, by decide +kernel, by decide +kernel, by decide +kernel⟩
theorem q_yX3_firm : CFv yX3_firm cX3_firm 3 (some .int) 0 := ⟨mw_589, mw_590, mw_27, mw_591, by decide +kernel, by decide +kernel, by decide +kernel⟩
theorem q_yX3_weigh : CFv yX3_weigh cX3_weigh 4 none 1 := ⟨mw_528, mw_529, mw_27, mw_530, by decide +kernel, by decide +kernel, by decide +kernel⟩
theorem q_yX3_bestInto : CFv yX3_bestInto cX3_bestInto 5 (some .long) 1 := ⟨mw_533, mw_534, mw_27, mw_535, by decide +kernel, by decide +kernel, by decide +kernel⟩
theorem q_yX3_ascents : CFv yX3_ascents cX3_ascents 6 (some .long) 3 := ⟨mw_656, mw_657, mw_27, mw_658, by decide +kernel, by decide +kernel, by decide +kernel⟩
theorem q_yX3_ascentsInto : CFv yX3_ascentsInto cX3_ascentsInto 8 (some .long) 3 := ⟨mw_669, mw_670, mw_27, mw_671, by decide +kernel, by decide +kernel, by decide +kernel⟩
theorem q_yX3_skips : CFs yX3_skips cX3_skips 8 (some .boolean) 4 := ⟨mw_661, mw_27, mw_662, by decide +kernel, by decide +kernel, by decide +kernel⟩
theorem q_yX3_isIn : CFs yX3_isIn cX3_isIn 1 (some .boolean) 1 := ⟨mw_521, mw_27, mw_522, by decide +kernel, by decide +kernel, by decide +kernel⟩
theorem q_yX4_empty : CFv yX4_empty cX4_empty 1 none 0 := ⟨mw_166, mw_167, mw_40, mw_168, by decide +kernel, by decide +kernel, by decide +kernel⟩
theorem q_yX4_feature : CFv yX4_feature cX4_feature 3 (some .int) 2 := ⟨mw_288, mw_289, mw_40, mw_290, by decide +kernel, by decide +kernel, by decide +kernel⟩
theorem q_yX4_setFeature : CFv yX4_setFeature cX4_setFeature 4 none 3 := ⟨mw_263, mw_264, mw_40, mw_265, by decide +kernel, by decide +kernel, by decide +kernel⟩
theorem q_yX4_power : CFv yX4_power cX4_power 3 (some .int) 2 := ⟨mw_389, mw_390, mw_40, mw_391, by decide +kernel, by decide +kernel, by decide +kernel⟩
theorem q_yX4_setPower : CFv yX4_setPower cX4_setPower 4 none 3 := ⟨mw_276, mw_277, mw_40, mw_278, by decide +kernel, by decide +kernel, by decide +kernel⟩
theorem q_yX4_all : CFv yX4_all cX4_all 1 (some .int) 0 := ⟨mw_422, mw_423, mw_40, mw_424, by decide +kernel, by decide +kernel, by decide +kernel⟩
theorem q_yX4_sidesApart : CFv yX4_sidesApart cX4_sidesApart 4 (some .int) 2 := ⟨mw_296, mw_297, mw_40, mw_298, by decide +kernel, by decide +kernel, by decide +kernel⟩
theorem q_yX4_downward : CFv yX4_downward cX4_downward 2 (some .int) 1 := ⟨mw_665, mw_666, mw_40, mw_667, by decide +kernel, by decide +kernel, by decide +kernel⟩
theorem q_yX4_below : CFv yX4_below cX4_below 2 (some .int) 1 := ⟨mw_753, mw_754, mw_40, mw_755, by decide +kernel, by decide +kernel, by decide +kernel⟩
theorem q_yX4_order : CFv yX4_order cX4_order 3 none 0 := ⟨mw_284, mw_285, mw_40, mw_286, by decide +kernel, by decide +kernel, by decide +kernel⟩
theorem q_yX4_lowerNear : CFv yX4_lowerNear cX4_lowerNear 4 (some .int) 1 := ⟨mw_292, mw_293, mw_40, mw_294, by decide +kernel, by decide +kernel, by decide +kernel⟩
theorem q_yX5_type : CFv yX5_type cX5_type 4 (some .int) 2 := ⟨mw_125, mw_126, mw_2, mw_127, by decide +kernel, by decide +kernel, by decide +kernel⟩
theorem q_yX5_clear : CFv yX5_clear cX5_clear 2 (some .int) 0 := ⟨mw_143, mw_144, mw_2, mw_145, by decide +kernel, by decide +kernel, by decide +kernel⟩
theorem q_yX5_tree : CFv yX5_tree cX5_tree 3 (some .int) 0 := ⟨mw_151, mw_152, mw_2, mw_153, by decide +kernel, by decide +kernel, by decide +kernel⟩
theorem q_yX5_branch : CFv yX5_branch cX5_branch 3 (some .int) 2 := ⟨mw_349, mw_350, mw_2, mw_351, by decide +kernel, by decide +kernel, by decide +kernel⟩
theorem q_yX5_body : CFv yX5_body cX5_body 3 (some .int) 2 := ⟨mw_381, mw_382, mw_2, mw_383, by decide +kernel, by decide +kernel, by decide +kernel⟩
theorem q_yX5_tune : CFv yX5_tune cX5_tune 4 (some .int) 2 := ⟨mw_405, mw_406, mw_2, mw_407, by decide +kernel, by decide +kernel, by decide +kernel⟩
theorem q_yX5_sawn : CFv yX5_sawn cX5_sawn 3 (some .int) 1 := ⟨mw_418, mw_419, mw_2, mw_420, by decide +kernel, by decide +kernel, by decide +kernel⟩
theorem q_yX5_step : CFv yX5_step cX5_step 4 (some .int) 3 := ⟨mw_430, mw_431, mw_2, mw_432, by decide +kernel, by decide +kernel, by decide +kernel⟩
theorem q_yX5_holds : CFv yX5_holds cX5_holds 3 (some .int) 2 := ⟨mw_483, mw_484, mw_2, mw_485, by decide +kernel, by decide +kernel, by decide +kernel⟩
theorem q_yX5_best : CFv yX5_best cX5_best 7 (some .long) 4 := ⟨mw_502, mw_503, mw_2, mw_504, by decide +kernel, by decide +kernel, by decide +kernel⟩
theorem q_yX5_high : CFv yX5_high cX5_high 3 (some .int) 2 := ⟨mw_577, mw_578, mw_2, mw_579, by decide +kernel, by decide +kernel, by decide +kernel⟩
theorem q_yX5_sure : CFv yX5_sure cX5_sure 7 (some .int) 2 := ⟨mw_627, mw_628, mw_2, mw_629, by decide +kernel, by decide +kernel, by decide +kernel⟩
theorem q_yX5_help : CFv yX5_help cX5_help 4 (some .int) 2 := ⟨mw_636, mw_637, mw_2, mw_638, by decide +kernel, by decide +kernel, by decide +kernel⟩
theorem q_yX5_stuck : CFv yX5_stuck cX5_stuck 4 (some .int) 2 := ⟨mw_644, mw_645, mw_2, mw_646, by decide +kernel, by decide +kernel, by decide +kernel⟩
theorem q_yX5_rubbed : CFv yX5_rubbed cX5_rubbed 4 (some .long) 3 := ⟨mw_652, mw_653, mw_2, mw_654, by decide +kernel, by decide +kernel, by decide +kernel⟩
theorem q_yX5_tried : CFv yX5_tried cX5_tried 7 (some .long) 4 := ⟨mw_681, mw_682, mw_2, mw_683, by decide +kernel, by decide +kernel, by decide +kernel⟩
theorem q_yX5_tries : CFv yX5_tries cX5_tries 7 (some .int) 3 := ⟨mw_712, mw_713, mw_2, mw_714, by decide +kernel, by decide +kernel, by decide +kernel⟩
theorem q_yX5_sway : CFv yX5_sway cX5_sway 4 (some .int) 3 := ⟨mw_720, mw_721, mw_2, mw_722, by decide +kernel, by decide +kernel, by decide +kernel⟩
theorem q_yX5_calm : CFv yX5_calm cX5_calm 5 (some .int) 3 := ⟨mw_737, mw_738, mw_2, mw_739, by decide +kernel, by decide +kernel, by decide +kernel⟩
theorem q_yX5_fall : CFv yX5_fall cX5_fall 3 (some .int) 2 := ⟨mw_745, mw_746, mw_2, mw_747, by decide +kernel, by decide +kernel, by decide +kernel⟩
theorem q_yX5_saw : CFv yX5_saw cX5_saw 7 (some .int) 4 := ⟨mw_767, mw_768, mw_2, mw_769, by decide +kernel, by decide +kernel, by decide +kernel⟩
theorem q_yX5_afternoon : CFv yX5_afternoon cX5_afternoon 4 (some .int) 3 := ⟨mw_796, mw_797, mw_2, mw_798, by decide +kernel, by decide +kernel, by decide +kernel⟩
theorem q_yX5_dares : CFv yX5_dares cX5_dares 7 (some .int) 4 := ⟨mw_808, mw_809, mw_2, mw_810, by decide +kernel, by decide +kernel, by decide +kernel⟩
theorem q_yX5_looked : CFv yX5_looked cX5_looked 4 (some .int) 1 := ⟨mw_824, mw_825, mw_2, mw_826, by decide +kernel, by decide +kernel, by decide +kernel⟩
theorem q_yX5_goes : CFv yX5_goes cX5_goes 3 (some .int) 1 := ⟨mw_838, mw_839, mw_2, mw_840, by decide +kernel, by decide +kernel, by decide +kernel⟩
theorem q_yX5_climb : CFv yX5_climb cX5_climb 4 (some .int) 1 := ⟨mw_847, mw_848, mw_2, mw_849, by decide +kernel, by decide +kernel, by decide +kernel⟩
theorem q_yX5_now : CFv yX5_now cX5_now 2 (some .int) 1 := ⟨mw_875, mw_876, mw_2, mw_877, by decide +kernel, by decide +kernel, by decide +kernel⟩
theorem q_yX5_lot : CFv yX5_lot cX5_lot 3 (some .int) 1 := ⟨mw_887, mw_888, mw_2, mw_889, by decide +kernel, by decide +kernel, by decide +kernel⟩
theorem q_yX5_mark : CFv yX5_mark cX5_mark 3 (some .int) 2 := ⟨mw_895, mw_896, mw_2, mw_897, by decide +kernel, by decide +kernel, by decide +kernel⟩
theorem q_yX5_keep : CFv yX5_keep cX5_keep 2 (some .int) 1 := ⟨mw_937, mw_938, mw_2, mw_939, by decide +kernel, by decide +kernel, by decide +kernel⟩
theorem q_yX5_back : CFv yX5_back cX5_back 2 (some .int) 1 := ⟨mw_953, mw_954, mw_2, mw_955, by decide +kernel, by decide +kernel, by decide +kernel⟩
theorem q_yX5_count : CFv yX5_count cX5_count 2 (some .int) 1 := ⟨mw_961, mw_962, mw_2, mw_963, by decide +kernel, by decide +kernel, by decide +kernel⟩
theorem q_yX5_trace : CFv yX5_trace cX5_trace 1 (some .long) 0 := ⟨mw_969, mw_970, mw_2, mw_971, by decide +kernel, by decide +kernel, by decide +kernel⟩
theorem q_yX5_isBranch : CFv yX5_isBranch cX5_isBranch 2 (some .boolean) 1 := ⟨mw_353, mw_354, mw_2, mw_355, by decide +kernel, by decide +kernel, by decide +kernel⟩
theorem q_yX5_isPlace : CFv yX5_isPlace cX5_isPlace 2 (some .boolean) 1 := ⟨mw_434, mw_435, mw_2, mw_436, by decide +kernel, by decide +kernel, by decide +kernel⟩
theorem q_yX5_isBody : CFv yX5_isBody cX5_isBody 2 (some .boolean) 1 := ⟨mw_385, mw_386, mw_2, mw_387, by decide +kernel, by decide +kernel, by decide +kernel⟩
theorem q_yX5_isSawn : CFv yX5_isSawn cX5_isSawn 2 (some .boolean) 1 := ⟨mw_357, mw_358, mw_2, mw_359, by decide +kernel, by decide +kernel, by decide +kernel⟩
theorem q_yX5_tuned : CFv yX5_tuned cX5_tuned 2 (some .int) 1 := ⟨mw_438, mw_439, mw_2, mw_440, by decide +kernel, by decide +kernel, by decide +kernel⟩
theorem q_yX5_has : CFs yX5_has cX5_has 2 (some .boolean) 2 := ⟨mw_361, mw_2, mw_362, by decide +kernel, by decide +kernel, by decide +kernel⟩
theorem q_yX5_bit : CFs yX5_bit cX5_bit 1 (some .int) 1 := ⟨mw_267, mw_2, mw_268, by decide +kernel, by decide +kernel, by decide +kernel⟩
theorem q_yX5_within : CFs yX5_within cX5_within 4 (some .boolean) 4 := ⟨mw_260, mw_2, mw_261, by decide +kernel, by decide +kernel, by decide +kernel⟩
theorem q_yX5_readText : CFv yX5_readText cX5_readText 3 (some .int) 0 := ⟨mw_160, mw_161, mw_2, mw_162, by decide +kernel, by decide +kernel, by decide +kernel⟩
theorem q_yX5_readBranch : CFv yX5_readBranch cX5_readBranch 4 (some .boolean) 1 := ⟨mw_253, mw_254, mw_2, mw_255, by decide +kernel, by decide +kernel, by decide +kernel⟩
theorem q_yX5_readBody : CFv yX5_readBody cX5_readBody 3 (some .boolean) 1 := ⟨mw_270, mw_271, mw_2, mw_272, by decide +kernel, by decide +kernel, by decide +kernel⟩
theorem q_yX5_standDraft : CFv yX5_standDraft cX5_standDraft 2 none 0 := ⟨mw_280, mw_281, mw_2, mw_282, by decide +kernel, by decide +kernel, by decide +kernel⟩
theorem q_yX5_mayStep : CFv yX5_mayStep cX5_mayStep 6 (some .boolean) 5 := ⟨mw_442, mw_443, mw_2, mw_444, by decide +kernel, by decide +kernel, by decide +kernel⟩
theorem q_yX5_inReach : CFv yX5_inReach cX5_inReach 5 (some .boolean) 4 := ⟨mw_446, mw_447, mw_2, mw_448, by decide +kernel, by decide +kernel, by decide +kernel⟩
theorem q_yX5_bears : CFv yX5_bears cX5_bears 3 (some .boolean) 2 := ⟨mw_450, mw_451, mw_2, mw_452, by decide +kernel, by decide +kernel, by decide +kernel⟩
theorem q_yX5_tenths : CFv yX5_tenths cX5_tenths 4 (some .int) 2 := ⟨mw_487, mw_488, mw_2, mw_489, by decide +kernel, by decide +kernel, by decide +kernel⟩
theorem q_yX5_look : CFv yX5_look cX5_look 7 none 3 := ⟨mw_509, mw_510, mw_2, mw_511, by decide +kernel, by decide +kernel, by decide +kernel⟩
theorem q_yX5_reached : CFv yX5_reached cX5_reached 2 (some .int) 1 := ⟨mw_581, mw_582, mw_2, mw_583, by decide +kernel, by decide +kernel, by decide +kernel⟩
theorem q_yX5_comesDown : CFv yX5_comesDown cX5_comesDown 2 (some .boolean) 1 := ⟨mw_606, mw_607, mw_2, mw_608, by decide +kernel, by decide +kernel, by decide +kernel⟩
theorem q_yX5_returning : CFv yX5_returning cX5_returning 4 (some .int) 1 := ⟨mw_602, mw_603, mw_2, mw_604, by decide +kernel, by decide +kernel, by decide +kernel⟩
theorem q_yX5_highest : CFv yX5_highest cX5_highest 4 (some .int) 1 := ⟨mw_598, mw_599, mw_2, mw_600, by decide +kernel, by decide +kernel, by decide +kernel⟩
theorem q_yX5_soundShare : CFv yX5_soundShare cX5_soundShare 3 (some .long) 2 := ⟨mw_686, mw_687, mw_2, mw_688, by decide +kernel, by decide +kernel, by decide +kernel⟩
theorem q_yX5_unsoundShare : CFv yX5_unsoundShare cX5_unsoundShare 4 (some .long) 3 := ⟨mw_693, mw_694, mw_2, mw_695, by decide +kernel, by decide +kernel, by decide +kernel⟩
theorem q_yX5_power : CFs yX5_power cX5_power 5 (some .long) 2 := ⟨mw_690, mw_2, mw_691, by decide +kernel, by decide +kernel, by decide +kernel⟩
theorem q_yX5_leastTerms : CFs yX5_leastTerms cX5_leastTerms 7 (some .long) 3 := ⟨mw_549, mw_2, mw_550, by decide +kernel, by decide +kernel, by decide +kernel⟩
theorem q_yX5_commonDivisor : CFs yX5_commonDivisor cX5_commonDivisor 7 (some .long) 2 := ⟨mw_552, mw_2, mw_553, by decide +kernel, by decide +kernel, by decide +kernel⟩
theorem q_yX5_swing : CFv yX5_swing cX5_swing 10 (some .int) 3 := ⟨mw_724, mw_725, mw_2, mw_726, by decide +kernel, by decide +kernel, by decide +kernel⟩
theorem q_yX5_harm : CFv yX5_harm cX5_harm 9 (some .int) 2 := ⟨mw_749, mw_750, mw_2, mw_751, by decide +kernel, by decide +kernel, by decide +kernel⟩
theorem q_yX5_leastToSaw : CFv yX5_leastToSaw cX5_leastToSaw 7 (some .int) 2 := ⟨mw_771, mw_772, mw_2, mw_773, by decide +kernel, by decide +kernel, by decide +kernel⟩
theorem q_yX5_isSafe : CFv yX5_isSafe cX5_isSafe 6 (some .boolean) 3 := ⟨mw_781, mw_782, mw_2, mw_783, by decide +kernel, by decide +kernel, by decide +kernel⟩
theorem q_yX5_markBranch : CFv yX5_markBranch cX5_markBranch 2 (some .int) 1 := ⟨mw_899, mw_900, mw_2, mw_901, by decide +kernel, by decide +kernel, by decide +kernel⟩
theorem q_yX5_markSound : CFv yX5_markSound cX5_markSound 2 (some .int) 1 := ⟨mw_903, mw_904, mw_2, mw_905, by decide +kernel, by decide +kernel, by decide +kernel⟩
theorem q_yX5_markDead : CFv yX5_markDead cX5_markDead 2 (some .int) 1 := ⟨mw_908, mw_909, mw_2, mw_910, by decide +kernel, by decide +kernel, by decide +kernel⟩
theorem q_yX5_markSeeming : CFv yX5_markSeeming cX5_markSeeming 2 (some .int) 1 := ⟨mw_912, mw_913, mw_2, mw_914, by decide +kernel, by decide +kernel, by decide +kernel⟩
theorem q_yX5_markBent : CFv yX5_markBent cX5_markBent 2 (some .int) 1 := ⟨mw_917, mw_918, mw_2, mw_919, by decide +kernel, by decide +kernel, by decide +kernel⟩
theorem q_yX5_markWet : CFv yX5_markWet cX5_markWet 2 (some .int) 1 := ⟨mw_922, mw_923, mw_2, mw_924, by decide +kernel, by decide +kernel, by decide +kernel⟩
theorem q_yX6_in : CFs yX6_in cX6_in 3 (some .boolean) 3 := ⟨mw_140, mw_5, mw_141, by decide +kernel, by decide +kernel, by decide +kernel⟩
theorem q_yX6_type : CFv yX6_type cX6_type 5 (some .int) 2 := ⟨mw_134, mw_135, mw_5, mw_136, by decide +kernel, by decide +kernel, by decide +kernel⟩
theorem q_yX6_clear : CFv yX6_clear cX6_clear 2 (some .int) 0 := ⟨mw_147, mw_148, mw_5, mw_149, by decide +kernel, by decide +kernel, by decide +kernel⟩
theorem q_yX6_here : CFv yX6_here cX6_here 1 (some .int) 0 := ⟨mw_325, mw_326, mw_5, mw_327, by decide +kernel, by decide +kernel, by decide +kernel⟩
theorem q_yX6_next : CFv yX6_next cX6_next 3 none 0 := ⟨mw_316, mw_317, mw_5, mw_318, by decide +kernel, by decide +kernel, by decide +kernel⟩
theorem q_yX6_due : CFv yX6_due cX6_due 3 (some .int) 1 := ⟨mw_333, mw_334, mw_5, mw_335, by decide +kernel, by decide +kernel, by decide +kernel⟩
theorem q_yX6_number : CFv yX6_number cX6_number 3 (some .int) 2 := ⟨mw_337, mw_338, mw_5, mw_339, by decide +kernel, by decide +kernel, by decide +kernel⟩
theorem q_yX6_optional : CFv yX6_optional cX6_optional 3 (some .int) 1 := ⟨mw_341, mw_342, mw_5, mw_343, by decide +kernel, by decide +kernel, by decide +kernel⟩
theorem q_yX6_item : CFv yX6_item cX6_item 3 none 1 := ⟨mw_329, mw_330, mw_5, mw_331, by decide +kernel, by decide +kernel, by decide +kernel⟩
theorem q_yX6_tree : CFv yX6_tree cX6_tree 3 (some .int) 0 := ⟨mw_308, mw_309, mw_5, mw_310, by decide +kernel, by decide +kernel, by decide +kernel⟩
theorem q_yX6_isBranch : CFv yX6_isBranch cX6_isBranch 2 (some .boolean) 1 := ⟨mw_369, mw_370, mw_5, mw_371, by decide +kernel, by decide +kernel, by decide +kernel⟩
theorem q_yX6_isBody : CFv yX6_isBody cX6_isBody 2 (some .boolean) 1 := ⟨mw_397, mw_398, mw_5, mw_399, by decide +kernel, by decide +kernel, by decide +kernel⟩
theorem q_yX6_isPlace : CFv yX6_isPlace cX6_isPlace 2 (some .boolean) 1 := ⟨mw_459, mw_460, mw_5, mw_461, by decide +kernel, by decide +kernel, by decide +kernel⟩
theorem q_yX6_of : CFv yX6_of cX6_of 3 (some .int) 2 := ⟨mw_377, mw_378, mw_5, mw_379, by decide +kernel, by decide +kernel, by decide +kernel⟩
theorem q_yX6_bodyOf : CFv yX6_bodyOf cX6_bodyOf 3 (some .int) 2 := ⟨mw_401, mw_402, mw_5, mw_403, by decide +kernel, by decide +kernel, by decide +kernel⟩
theorem q_yX6_isSawn : CFv yX6_isSawn cX6_isSawn 2 (some .boolean) 1 := ⟨mw_373, mw_374, mw_5, mw_375, by decide +kernel, by decide +kernel, by decide +kernel⟩
theorem q_yX6_branch : CFv yX6_branch cX6_branch 3 (some .int) 2 := ⟨mw_365, mw_366, mw_5, mw_367, by decide +kernel, by decide +kernel, by decide +kernel⟩
theorem q_yX6_body : CFv yX6_body cX6_body 3 (some .int) 2 := ⟨mw_393, mw_394, mw_5, mw_395, by decide +kernel, by decide +kernel, by decide +kernel⟩
theorem q_yX6_highOf : CFs yX6_highOf cX6_highOf 1 (some .int) 1 := ⟨mw_415, mw_5, mw_416, by decide +kernel, by decide +kernel, by decide +kernel⟩
theorem q_yX6_tune : CFv yX6_tune cX6_tune 4 (some .int) 2 := ⟨mw_411, mw_412, mw_5, mw_413, by decide +kernel, by decide +kernel, by decide +kernel⟩
theorem q_yX6_sawn : CFv yX6_sawn cX6_sawn 3 (some .int) 1 := ⟨mw_426, mw_427, mw_5, mw_428, by decide +kernel, by decide +kernel, by decide +kernel⟩
theorem q_yX6_heightOf : CFv yX6_heightOf cX6_heightOf 2 (some .int) 1 := ⟨mw_479, mw_480, mw_5, mw_481, by decide +kernel, by decide +kernel, by decide +kernel⟩
theorem q_yX6_apart : CFv yX6_apart cX6_apart 4 (some .int) 2 := ⟨mw_475, mw_476, mw_5, mw_477, by decide +kernel, by decide +kernel, by decide +kernel⟩
theorem q_yX6_look : CFv yX6_look cX6_look 2 none 1 := ⟨mw_463, mw_464, mw_5, mw_465, by decide +kernel, by decide +kernel, by decide +kernel⟩
theorem q_yX6_mayStep : CFv yX6_mayStep cX6_mayStep 4 (some .boolean) 2 := ⟨mw_471, mw_472, mw_5, mw_473, by decide +kernel, by decide +kernel, by decide +kernel⟩
theorem q_yX6_holdsOn : CFv yX6_holdsOn cX6_holdsOn 4 (some .int) 1 := ⟨mw_498, mw_499, mw_5, mw_500, by decide +kernel, by decide +kernel, by decide +kernel⟩
theorem q_yX6_step : CFv yX6_step cX6_step 4 (some .int) 3 := ⟨mw_455, mw_456, mw_5, mw_457, by decide +kernel, by decide +kernel, by decide +kernel⟩
theorem q_yX6_holds : CFv yX6_holds cX6_holds 3 (some .int) 2 := ⟨mw_494, mw_495, mw_5, mw_496, by decide +kernel, by decide +kernel, by decide +kernel⟩
theorem q_yX6_isThere : CFv yX6_isThere cX6_isThere 2 (some .boolean) 1 := ⟨mw_567, mw_568, mw_5, mw_569, by decide +kernel, by decide +kernel, by decide +kernel⟩
theorem q_yX6_goFrom : CFv yX6_goFrom cX6_goFrom 7 none 1 := ⟨mw_562, mw_563, mw_5, mw_564, by decide +kernel, by decide +kernel, by decide +kernel⟩
theorem q_yX6_common : CFs yX6_common cX6_common 10 (some .long) 2 := ⟨mw_574, mw_5, mw_575, by decide +kernel, by decide +kernel, by decide +kernel⟩
theorem q_yX6_inLeast : CFs yX6_inLeast cX6_inLeast 7 (some .long) 3 := ⟨mw_571, mw_5, mw_572, by decide +kernel, by decide +kernel, by decide +kernel⟩
theorem q_yX6_best : CFv yX6_best cX6_best 6 (some .long) 4 := ⟨mw_555, mw_556, mw_5, mw_557, by decide +kernel, by decide +kernel, by decide +kernel⟩
theorem q_yX6_highBy : CFv yX6_highBy cX6_highBy 5 (some .int) 1 := ⟨mw_614, mw_615, mw_5, mw_616, by decide +kernel, by decide +kernel, by decide +kernel⟩
theorem q_yX6_comesDown : CFv yX6_comesDown cX6_comesDown 2 (some .boolean) 1 := ⟨mw_623, mw_624, mw_5, mw_625, by decide +kernel, by decide +kernel, by decide +kernel⟩
theorem q_yX6_reached : CFv yX6_reached cX6_reached 3 (some .int) 0 := ⟨mw_619, mw_620, mw_5, mw_621, by decide +kernel, by decide +kernel, by decide +kernel⟩
theorem q_yX6_high : CFv yX6_high cX6_high 7 (some .int) 2 := ⟨mw_610, mw_611, mw_5, mw_612, by decide +kernel, by decide +kernel, by decide +kernel⟩
theorem q_yX6_sure : CFv yX6_sure cX6_sure 3 (some .int) 2 := ⟨mw_632, mw_633, mw_5, mw_634, by decide +kernel, by decide +kernel, by decide +kernel⟩
theorem q_yX6_help : CFv yX6_help cX6_help 4 (some .int) 2 := ⟨mw_640, mw_641, mw_5, mw_642, by decide +kernel, by decide +kernel, by decide +kernel⟩
theorem q_yX6_stuck : CFv yX6_stuck cX6_stuck 5 (some .int) 2 := ⟨mw_648, mw_649, mw_5, mw_650, by decide +kernel, by decide +kernel, by decide +kernel⟩
theorem q_yX6_countUps : CFv yX6_countUps cX6_countUps 5 none 1 := ⟨mw_677, mw_678, mw_5, mw_679, by decide +kernel, by decide +kernel, by decide +kernel⟩
theorem q_yX6_rubbed : CFv yX6_rubbed cX6_rubbed 11 (some .long) 3 := ⟨mw_673, mw_674, mw_5, mw_675, by decide +kernel, by decide +kernel, by decide +kernel⟩
theorem q_yX6_power : CFs yX6_power cX6_power 5 (some .long) 2 := ⟨mw_705, mw_5, mw_706, by decide +kernel, by decide +kernel, by decide +kernel⟩
theorem q_yX6_soundBy : CFv yX6_soundBy cX6_soundBy 3 (some .long) 2 := ⟨mw_701, mw_702, mw_5, mw_703, by decide +kernel, by decide +kernel, by decide +kernel⟩
theorem q_yX6_allBy : CFv yX6_allBy cX6_allBy 4 (some .long) 3 := ⟨mw_708, mw_709, mw_5, mw_710, by decide +kernel, by decide +kernel, by decide +kernel⟩
theorem q_yX6_tried : CFv yX6_tried cX6_tried 5 (some .long) 4 := ⟨mw_697, mw_698, mw_5, mw_699, by decide +kernel, by decide +kernel, by decide +kernel⟩
theorem q_yX6_tries : CFv yX6_tries cX6_tries 7 (some .int) 3 := ⟨mw_716, mw_717, mw_5, mw_718, by decide +kernel, by decide +kernel, by decide +kernel⟩
theorem q_yX6_swayOn : CFv yX6_swayOn cX6_swayOn 9 (some .int) 2 := ⟨mw_733, mw_734, mw_5, mw_735, by decide +kernel, by decide +kernel, by decide +kernel⟩
theorem q_yX6_sway : CFv yX6_sway cX6_sway 4 (some .int) 3 := ⟨mw_729, mw_730, mw_5, mw_731, by decide +kernel, by decide +kernel, by decide +kernel⟩
theorem q_yX6_calm : CFv yX6_calm cX6_calm 5 (some .int) 3 := ⟨mw_741, mw_742, mw_5, mw_743, by decide +kernel, by decide +kernel, by decide +kernel⟩
theorem q_yX6_harmFrom : CFv yX6_harmFrom cX6_harmFrom 7 (some .int) 1 := ⟨mw_763, mw_764, mw_5, mw_765, by decide +kernel, by decide +kernel, by decide +kernel⟩
theorem q_yX6_fall : CFv yX6_fall cX6_fall 4 (some .int) 2 := ⟨mw_758, mw_759, mw_5, mw_760, by decide +kernel, by decide +kernel, by decide +kernel⟩
theorem q_yX6_bitsIn : CFs yX6_bitsIn cX6_bitsIn 3 (some .int) 1 := ⟨mw_789, mw_5, mw_790, by decide +kernel, by decide +kernel, by decide +kernel⟩
theorem q_yX6_isSafe : CFv yX6_isSafe cX6_isSafe 6 (some .boolean) 2 := ⟨mw_792, mw_793, mw_5, mw_794, by decide +kernel, by decide +kernel, by decide +kernel⟩
theorem q_yX6_saw : CFv yX6_saw cX6_saw 9 (some .int) 4 := ⟨mw_785, mw_786, mw_5, mw_787, by decide +kernel, by decide +kernel, by decide +kernel⟩
theorem q_yX6_afternoon : CFv yX6_afternoon cX6_afternoon 4 (some .int) 3 := ⟨mw_804, mw_805, mw_5, mw_806, by decide +kernel, by decide +kernel, by decide +kernel⟩
theorem q_yX6_dares : CFv yX6_dares cX6_dares 9 (some .int) 4 := ⟨mw_820, mw_821, mw_5, mw_822, by decide +kernel, by decide +kernel, by decide +kernel⟩
theorem q_yX6_looked : CFv yX6_looked cX6_looked 8 (some .int) 1 := ⟨mw_833, mw_834, mw_5, mw_835, by decide +kernel, by decide +kernel, by decide +kernel⟩
theorem q_yX6_begin : CFv yX6_begin cX6_begin 2 none 1 := ⟨mw_345, mw_346, mw_5, mw_347, by decide +kernel, by decide +kernel, by decide +kernel⟩
theorem q_yX6_goes : CFv yX6_goes cX6_goes 3 (some .int) 1 := ⟨mw_843, mw_844, mw_5, mw_845, by decide +kernel, by decide +kernel, by decide +kernel⟩
theorem q_yX6_placeNow : CFv yX6_placeNow cX6_placeNow 1 (some .int) 0 := ⟨mw_871, mw_872, mw_5, mw_873, by decide +kernel, by decide +kernel, by decide +kernel⟩
theorem q_yX6_climb : CFv yX6_climb cX6_climb 4 (some .int) 1 := ⟨mw_866, mw_867, mw_5, mw_868, by decide +kernel, by decide +kernel, by decide +kernel⟩
theorem q_yX6_now : CFv yX6_now cX6_now 2 (some .int) 1 := ⟨mw_883, mw_884, mw_5, mw_885, by decide +kernel, by decide +kernel, by decide +kernel⟩
theorem q_yX6_lot : CFv yX6_lot cX6_lot 3 (some .int) 1 := ⟨mw_891, mw_892, mw_5, mw_893, by decide +kernel, by decide +kernel, by decide +kernel⟩
theorem q_yX6_mark : CFv yX6_mark cX6_mark 5 (some .int) 2 := ⟨mw_927, mw_928, mw_5, mw_929, by decide +kernel, by decide +kernel, by decide +kernel⟩
theorem q_yX6_copy : CFv yX6_copy cX6_copy 3 none 2 := ⟨mw_949, mw_950, mw_5, mw_951, by decide +kernel, by decide +kernel, by decide +kernel⟩
theorem q_yX6_keep : CFv yX6_keep cX6_keep 2 (some .int) 1 := ⟨mw_945, mw_946, mw_5, mw_947, by decide +kernel, by decide +kernel, by decide +kernel⟩
theorem q_yX6_back : CFv yX6_back cX6_back 2 (some .int) 1 := ⟨mw_957, mw_958, mw_5, mw_959, by decide +kernel, by decide +kernel, by decide +kernel⟩
theorem q_yX6_count : CFv yX6_count cX6_count 2 (some .int) 1 := ⟨mw_965, mw_966, mw_5, mw_967, by decide +kernel, by decide +kernel, by decide +kernel⟩
theorem q_yX6_trace : CFv yX6_trace cX6_trace 1 (some .long) 0 := ⟨mw_973, mw_974, mw_5, mw_975, by decide +kernel, by decide +kernel, by decide +kernel⟩
theorem q_yJ6_numberOfTrailingZeros_0f7a4 : CFs yJ6_numberOfTrailingZeros_0f7a4 cJ6_numberOfTrailingZeros_0f7a4 2 (some .int) 1 := ⟨mw_593, mw_594, mw_595, by decide +kernel, by decide +kernel, by decide +kernel⟩
theorem q_yJ6_bitCount_0f7a4 : CFs yJ6_bitCount_0f7a4 cJ6_bitCount_0f7a4 1 (some .int) 1 := ⟨mw_775, mw_594, mw_776, by decide +kernel, by decide +kernel, by decide +kernel⟩
theorem q_yJ0_length_8abf5 : CFv yJ0_length_8abf5 cJ0_length_8abf5 1 (some .int) 0 := ⟨mw_204, mw_205, mw_206, mw_207, by decide +kernel, by decide +kernel, by decide +kernel⟩
theorem q_yJ0_charAt_5068e : CFv yJ0_charAt_5068e cJ0_charAt_5068e 2 (some .char) 1 := ⟨mw_216, mw_217, mw_206, mw_218, by decide +kernel, by decide +kernel, by decide +kernel⟩
theorem q_yJ0_coder_7d493 : CFv yJ0_coder_7d493 cJ0_coder_7d493 1 (some .byte) 0 := ⟨mw_210, mw_211, mw_206, mw_212, by decide +kernel, by decide +kernel, by decide +kernel⟩
theorem q_yJ0_isLatin1_aae02 : CFv yJ0_isLatin1_aae02 cJ0_isLatin1_aae02 1 (some .boolean) 0 := ⟨mw_220, mw_221, mw_206, mw_222, by decide +kernel, by decide +kernel, by decide +kernel⟩
theorem q_yJ0_checkIndex_df160 : CFs yJ0_checkIndex_df160 cJ0_checkIndex_df160 2 none 2 := ⟨mw_228, mw_206, mw_229, by decide +kernel, by decide +kernel, by decide +kernel⟩
theorem q_yJ1_charAt_3b067 : CFs yJ1_charAt_3b067 cJ1_charAt_3b067 2 (some .char) 2 := ⟨mw_224, mw_225, mw_226, by decide +kernel, by decide +kernel, by decide +kernel⟩
theorem q_yJ2_getChar_3b067 : CFs yJ2_getChar_3b067 cJ2_getChar_3b067 2 (some .char) 2 := ⟨mw_247, mw_237, mw_248, by decide +kernel, by decide +kernel, by decide +kernel⟩
theorem q_yJ2_length_9d52b : CFs yJ2_length_9d52b cJ2_length_9d52b 1 (some .int) 1 := ⟨mw_243, mw_237, mw_244, by decide +kernel, by decide +kernel, by decide +kernel⟩
theorem q_yJ2_charAt_3b067 : CFs yJ2_charAt_3b067 cJ2_charAt_3b067 2 (some .char) 2 := ⟨mw_236, mw_237, mw_238, by decide +kernel, by decide +kernel, by decide +kernel⟩
theorem q_yJ2_checkIndex_2214a : CFs yJ2_checkIndex_2214a cJ2_checkIndex_2214a 2 none 2 := ⟨mw_240, mw_237, mw_241, by decide +kernel, by decide +kernel, by decide +kernel⟩
theorem q_yJ3_checkIndex_8e157 : CFs yJ3_checkIndex_8e157 cJ3_checkIndex_8e157 3 (some .int) 3 := ⟨mw_232, mw_233, mw_234, by decide +kernel, by decide +kernel, by decide +kernel⟩
end
