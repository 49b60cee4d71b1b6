-- ===== PART A: goes FIRST, ahead of the names: the tables' words, and 'selects' of the private methods out of them =====
/-- a private method of a class that the tables say can be made, by its rows of tables_1 -/
def lw_okq (q : MethodName × Nat) : Prop := (q.1.cls ≠ "java/lang/invoke/MethodHandle" ∧ q.1.cls ≠ "java/lang/invoke/VarHandle") ∧ Cond.instantiable q.1.cls q.2 ∈ tables_1 ∧ Cond.privateMethod q.1 ∈ tables_1 ∧ Cond.instanceMethod q.1 ∈ tables_1
theorem lw_p0 : lw_okq (⟨"JarsThatLeak$TownText", "readLine", "()V"⟩, 5) := ⟨⟨by decide +kernel, by decide +kernel⟩, List.mem_of_getElem? (i := 229) (by decide +kernel), List.mem_of_getElem? (i := 432) (by decide +kernel), List.mem_of_getElem? (i := 433) (by decide +kernel)⟩
theorem lw_p1 : lw_okq (⟨"JarsThatLeak$TownText", "readDebt", "()V"⟩, 5) := ⟨⟨by decide +kernel, by decide +kernel⟩, List.mem_of_getElem? (i := 229) (by decide +kernel), List.mem_of_getElem? (i := 444) (by decide +kernel), List.mem_of_getElem? (i := 445) (by decide +kernel)⟩
theorem lw_p2 : lw_okq (⟨"JarsThatLeak$TownText", "readOwner", "()I"⟩, 5) := ⟨⟨by decide +kernel, by decide +kernel⟩, List.mem_of_getElem? (i := 229) (by decide +kernel), List.mem_of_getElem? (i := 448) (by decide +kernel), List.mem_of_getElem? (i := 449) (by decide +kernel)⟩
theorem lw_p3 : lw_okq (⟨"JarsThatLeak$TownText", "readJar", "()V"⟩, 5) := ⟨⟨by decide +kernel, by decide +kernel⟩, List.mem_of_getElem? (i := 229) (by decide +kernel), List.mem_of_getElem? (i := 483) (by decide +kernel), List.mem_of_getElem? (i := 484) (by decide +kernel)⟩
theorem lw_p4 : lw_okq (⟨"JarsThatLeak$TownText", "readBelow", "(I)I"⟩, 5) := ⟨⟨by decide +kernel, by decide +kernel⟩, List.mem_of_getElem? (i := 229) (by decide +kernel), List.mem_of_getElem? (i := 487) (by decide +kernel), List.mem_of_getElem? (i := 488) (by decide +kernel)⟩
theorem lw_p5 : lw_okq (⟨"JarsThatLeak$TownText", "fill", "(II)V"⟩, 5) := ⟨⟨by decide +kernel, by decide +kernel⟩, List.mem_of_getElem? (i := 229) (by decide +kernel), List.mem_of_getElem? (i := 491) (by decide +kernel), List.mem_of_getElem? (i := 492) (by decide +kernel)⟩
theorem lw_p6 : lw_okq (⟨"JarsThatLeak$State", "placeOf", "(II)I"⟩, 10) := ⟨⟨by decide +kernel, by decide +kernel⟩, List.mem_of_getElem? (i := 65) (by decide +kernel), List.mem_of_getElem? (i := 499) (by decide +kernel), List.mem_of_getElem? (i := 500) (by decide +kernel)⟩
theorem lw_p7 : lw_okq (⟨"JarsThatLeak$Law", "readComparison", "(LJarsThatLeak$Signs;I)V"⟩, 6) := ⟨⟨by decide +kernel, by decide +kernel⟩, List.mem_of_getElem? (i := 251) (by decide +kernel), List.mem_of_getElem? (i := 524) (by decide +kernel), List.mem_of_getElem? (i := 525) (by decide +kernel)⟩
theorem lw_p8 : lw_okq (⟨"JarsThatLeak$Law", "readSum", "(LJarsThatLeak$Signs;I)V"⟩, 6) := ⟨⟨by decide +kernel, by decide +kernel⟩, List.mem_of_getElem? (i := 251) (by decide +kernel), List.mem_of_getElem? (i := 528) (by decide +kernel), List.mem_of_getElem? (i := 529) (by decide +kernel)⟩
theorem lw_p9 : lw_okq (⟨"JarsThatLeak$Law", "readProduct", "(LJarsThatLeak$Signs;I)V"⟩, 6) := ⟨⟨by decide +kernel, by decide +kernel⟩, List.mem_of_getElem? (i := 251) (by decide +kernel), List.mem_of_getElem? (i := 532) (by decide +kernel), List.mem_of_getElem? (i := 533) (by decide +kernel)⟩
theorem lw_p10 : lw_okq (⟨"JarsThatLeak$Law", "readSigned", "(LJarsThatLeak$Signs;I)V"⟩, 6) := ⟨⟨by decide +kernel, by decide +kernel⟩, List.mem_of_getElem? (i := 251) (by decide +kernel), List.mem_of_getElem? (i := 536) (by decide +kernel), List.mem_of_getElem? (i := 537) (by decide +kernel)⟩
theorem lw_p11 : lw_okq (⟨"JarsThatLeak$Law", "readThing", "(LJarsThatLeak$Signs;I)V"⟩, 6) := ⟨⟨by decide +kernel, by decide +kernel⟩, List.mem_of_getElem? (i := 251) (by decide +kernel), List.mem_of_getElem? (i := 541) (by decide +kernel), List.mem_of_getElem? (i := 542) (by decide +kernel)⟩
theorem lw_p12 : lw_okq (⟨"JarsThatLeak$Law", "write", "(I)V"⟩, 6) := ⟨⟨by decide +kernel, by decide +kernel⟩, List.mem_of_getElem? (i := 251) (by decide +kernel), List.mem_of_getElem? (i := 547) (by decide +kernel), List.mem_of_getElem? (i := 548) (by decide +kernel)⟩
theorem lw_p13 : lw_okq (⟨"JarsThatLeak$Law", "readLetter", "(LJarsThatLeak$Signs;)V"⟩, 6) := ⟨⟨by decide +kernel, by decide +kernel⟩, List.mem_of_getElem? (i := 251) (by decide +kernel), List.mem_of_getElem? (i := 552) (by decide +kernel), List.mem_of_getElem? (i := 553) (by decide +kernel)⟩
theorem lw_p14 : lw_okq (⟨"JarsThatLeak", "isJar", "(I)Z"⟩, 17) := ⟨⟨by decide +kernel, by decide +kernel⟩, List.mem_of_getElem? (i := 23) (by decide +kernel), List.mem_of_getElem? (i := 577) (by decide +kernel), List.mem_of_getElem? (i := 578) (by decide +kernel)⟩
theorem lw_p15 : lw_okq (⟨"JarsThatLeak", "canStandBelow", "(II)Z"⟩, 17) := ⟨⟨by decide +kernel, by decide +kernel⟩, List.mem_of_getElem? (i := 23) (by decide +kernel), List.mem_of_getElem? (i := 585) (by decide +kernel), List.mem_of_getElem? (i := 586) (by decide +kernel)⟩
def lw_privs_1 : List (MethodName × Nat) := [(⟨"JarsThatLeak$TownText", "readLine", "()V"⟩, 5), (⟨"JarsThatLeak$TownText", "readDebt", "()V"⟩, 5), (⟨"JarsThatLeak$TownText", "readOwner", "()I"⟩, 5), (⟨"JarsThatLeak$TownText", "readJar", "()V"⟩, 5), (⟨"JarsThatLeak$TownText", "readBelow", "(I)I"⟩, 5), (⟨"JarsThatLeak$TownText", "fill", "(II)V"⟩, 5), (⟨"JarsThatLeak$State", "placeOf", "(II)I"⟩, 10), (⟨"JarsThatLeak$Law", "readComparison", "(LJarsThatLeak$Signs;I)V"⟩, 6), (⟨"JarsThatLeak$Law", "readSum", "(LJarsThatLeak$Signs;I)V"⟩, 6), (⟨"JarsThatLeak$Law", "readProduct", "(LJarsThatLeak$Signs;I)V"⟩, 6), (⟨"JarsThatLeak$Law", "readSigned", "(LJarsThatLeak$Signs;I)V"⟩, 6), (⟨"JarsThatLeak$Law", "readThing", "(LJarsThatLeak$Signs;I)V"⟩, 6), (⟨"JarsThatLeak$Law", "write", "(I)V"⟩, 6), (⟨"JarsThatLeak$Law", "readLetter", "(LJarsThatLeak$Signs;)V"⟩, 6), (⟨"JarsThatLeak", "isJar", "(I)Z"⟩, 17), (⟨"JarsThatLeak", "canStandBelow", "(II)Z"⟩, 17)]
theorem lw_r1 : ∀ q ∈ lw_privs_1, lw_okq q := List.forall_mem_cons.mpr ⟨lw_p0, List.forall_mem_cons.mpr ⟨lw_p1, List.forall_mem_cons.mpr ⟨lw_p2, List.forall_mem_cons.mpr ⟨lw_p3, List.forall_mem_cons.mpr ⟨lw_p4, List.forall_mem_cons.mpr ⟨lw_p5, List.forall_mem_cons.mpr ⟨lw_p6, List.forall_mem_cons.mpr ⟨lw_p7, List.forall_mem_cons.mpr ⟨lw_p8, List.forall_mem_cons.mpr ⟨lw_p9, List.forall_mem_cons.mpr ⟨lw_p10, List.forall_mem_cons.mpr ⟨lw_p11, List.forall_mem_cons.mpr ⟨lw_p12, List.forall_mem_cons.mpr ⟨lw_p13, List.forall_mem_cons.mpr ⟨lw_p14, List.forall_mem_cons.mpr ⟨lw_p15, fun _ h => absurd h List.not_mem_nil⟩⟩⟩⟩⟩⟩⟩⟩⟩⟩⟩⟩⟩⟩⟩⟩
theorem lw_p16 : lw_okq (⟨"JarsThatLeak", "roomIn", "(I)I"⟩, 17) := ⟨⟨by decide +kernel, by decide +kernel⟩, List.mem_of_getElem? (i := 23) (by decide +kernel), List.mem_of_getElem? (i := 617) (by decide +kernel), List.mem_of_getElem? (i := 618) (by decide +kernel)⟩
theorem lw_p17 : lw_okq (⟨"JarsThatLeak", "canPour", "(LJarsThatLeak$State;III)I"⟩, 17) := ⟨⟨by decide +kernel, by decide +kernel⟩, List.mem_of_getElem? (i := 23) (by decide +kernel), List.mem_of_getElem? (i := 626) (by decide +kernel), List.mem_of_getElem? (i := 627) (by decide +kernel)⟩
theorem lw_p18 : lw_okq (⟨"JarsThatLeak", "makePouring", "(LJarsThatLeak$State;III)V"⟩, 17) := ⟨⟨by decide +kernel, by decide +kernel⟩, List.mem_of_getElem? (i := 23) (by decide +kernel), List.mem_of_getElem? (i := 630) (by decide +kernel), List.mem_of_getElem? (i := 631) (by decide +kernel)⟩
theorem lw_p19 : lw_okq (⟨"JarsThatLeak", "lawOf", "(I)I"⟩, 17) := ⟨⟨by decide +kernel, by decide +kernel⟩, List.mem_of_getElem? (i := 23) (by decide +kernel), List.mem_of_getElem? (i := 642) (by decide +kernel), List.mem_of_getElem? (i := 643) (by decide +kernel)⟩
theorem lw_p20 : lw_okq (⟨"JarsThatLeak$Law", "valueOf", "(I)I"⟩, 6) := ⟨⟨by decide +kernel, by decide +kernel⟩, List.mem_of_getElem? (i := 251) (by decide +kernel), List.mem_of_getElem? (i := 661) (by decide +kernel), List.mem_of_getElem? (i := 662) (by decide +kernel)⟩
theorem lw_p21 : lw_okq (⟨"JarsThatLeak$Clock", "letGo", "(LJarsThatLeak$State;I)V"⟩, 3) := ⟨⟨by decide +kernel, by decide +kernel⟩, List.mem_of_getElem? (i := 129) (by decide +kernel), List.mem_of_getElem? (i := 680) (by decide +kernel), List.mem_of_getElem? (i := 681) (by decide +kernel)⟩
theorem lw_p22 : lw_okq (⟨"JarsThatLeak$Clock", "comeDown", "(LJarsThatLeak$State;I)V"⟩, 3) := ⟨⟨by decide +kernel, by decide +kernel⟩, List.mem_of_getElem? (i := 129) (by decide +kernel), List.mem_of_getElem? (i := 686) (by decide +kernel), List.mem_of_getElem? (i := 687) (by decide +kernel)⟩
theorem lw_p23 : lw_okq (⟨"JarsThatLeak", "clearRow", "()V"⟩, 17) := ⟨⟨by decide +kernel, by decide +kernel⟩, List.mem_of_getElem? (i := 23) (by decide +kernel), List.mem_of_getElem? (i := 692) (by decide +kernel), List.mem_of_getElem? (i := 693) (by decide +kernel)⟩
theorem lw_p24 : lw_okq (⟨"JarsThatLeak", "emptyJars", "()I"⟩, 17) := ⟨⟨by decide +kernel, by decide +kernel⟩, List.mem_of_getElem? (i := 23) (by decide +kernel), List.mem_of_getElem? (i := 696) (by decide +kernel), List.mem_of_getElem? (i := 697) (by decide +kernel)⟩
theorem lw_p25 : lw_okq (⟨"JarsThatLeak", "tell", "(I)V"⟩, 17) := ⟨⟨by decide +kernel, by decide +kernel⟩, List.mem_of_getElem? (i := 23) (by decide +kernel), List.mem_of_getElem? (i := 700) (by decide +kernel), List.mem_of_getElem? (i := 701) (by decide +kernel)⟩
theorem lw_p26 : lw_okq (⟨"JarsThatLeak", "levelsInAll", "()I"⟩, 17) := ⟨⟨by decide +kernel, by decide +kernel⟩, List.mem_of_getElem? (i := 23) (by decide +kernel), List.mem_of_getElem? (i := 704) (by decide +kernel), List.mem_of_getElem? (i := 705) (by decide +kernel)⟩
theorem lw_p27 : lw_okq (⟨"JarsThatLeak", "judgeOne", "(I)I"⟩, 17) := ⟨⟨by decide +kernel, by decide +kernel⟩, List.mem_of_getElem? (i := 23) (by decide +kernel), List.mem_of_getElem? (i := 721) (by decide +kernel), List.mem_of_getElem? (i := 722) (by decide +kernel)⟩
theorem lw_p28 : lw_okq (⟨"JarsThatLeak$Steps", "readStep", "(LJarsThatLeak$Signs;)V"⟩, 5) := ⟨⟨by decide +kernel, by decide +kernel⟩, List.mem_of_getElem? (i := 277) (by decide +kernel), List.mem_of_getElem? (i := 739) (by decide +kernel), List.mem_of_getElem? (i := 740) (by decide +kernel)⟩
theorem lw_p29 : lw_okq (⟨"JarsThatLeak", "doStep", "(I)Z"⟩, 17) := ⟨⟨by decide +kernel, by decide +kernel⟩, List.mem_of_getElem? (i := 23) (by decide +kernel), List.mem_of_getElem? (i := 749) (by decide +kernel), List.mem_of_getElem? (i := 750) (by decide +kernel)⟩
theorem lw_p30 : lw_okq (⟨"JarsThatLeak$Flow", "comeDown", "(II)V"⟩, 9) := ⟨⟨by decide +kernel, by decide +kernel⟩, List.mem_of_getElem? (i := 145) (by decide +kernel), List.mem_of_getElem? (i := 789) (by decide +kernel), List.mem_of_getElem? (i := 790) (by decide +kernel)⟩
theorem lw_p31 : lw_okq (⟨"JarsThatLeak", "bitsAbove", "(I)I"⟩, 17) := ⟨⟨by decide +kernel, by decide +kernel⟩, List.mem_of_getElem? (i := 23) (by decide +kernel), List.mem_of_getElem? (i := 818) (by decide +kernel), List.mem_of_getElem? (i := 819) (by decide +kernel)⟩
def lw_privs_2 : List (MethodName × Nat) := [(⟨"JarsThatLeak", "roomIn", "(I)I"⟩, 17), (⟨"JarsThatLeak", "canPour", "(LJarsThatLeak$State;III)I"⟩, 17), (⟨"JarsThatLeak", "makePouring", "(LJarsThatLeak$State;III)V"⟩, 17), (⟨"JarsThatLeak", "lawOf", "(I)I"⟩, 17), (⟨"JarsThatLeak$Law", "valueOf", "(I)I"⟩, 6), (⟨"JarsThatLeak$Clock", "letGo", "(LJarsThatLeak$State;I)V"⟩, 3), (⟨"JarsThatLeak$Clock", "comeDown", "(LJarsThatLeak$State;I)V"⟩, 3), (⟨"JarsThatLeak", "clearRow", "()V"⟩, 17), (⟨"JarsThatLeak", "emptyJars", "()I"⟩, 17), (⟨"JarsThatLeak", "tell", "(I)V"⟩, 17), (⟨"JarsThatLeak", "levelsInAll", "()I"⟩, 17), (⟨"JarsThatLeak", "judgeOne", "(I)I"⟩, 17), (⟨"JarsThatLeak$Steps", "readStep", "(LJarsThatLeak$Signs;)V"⟩, 5), (⟨"JarsThatLeak", "doStep", "(I)Z"⟩, 17), (⟨"JarsThatLeak$Flow", "comeDown", "(II)V"⟩, 9), (⟨"JarsThatLeak", "bitsAbove", "(I)I"⟩, 17)]
theorem lw_r2 : ∀ q ∈ lw_privs_2, lw_okq q := List.forall_mem_cons.mpr ⟨lw_p16, List.forall_mem_cons.mpr ⟨lw_p17, List.forall_mem_cons.mpr ⟨lw_p18, List.forall_mem_cons.mpr ⟨lw_p19, List.forall_mem_cons.mpr ⟨lw_p20, List.forall_mem_cons.mpr ⟨lw_p21, List.forall_mem_cons.mpr ⟨lw_p22, List.forall_mem_cons.mpr ⟨lw_p23, List.forall_mem_cons.mpr ⟨lw_p24, List.forall_mem_cons.mpr ⟨lw_p25, List.forall_mem_cons.mpr ⟨lw_p26, List.forall_mem_cons.mpr ⟨lw_p27, List.forall_mem_cons.mpr ⟨lw_p28, List.forall_mem_cons.mpr ⟨lw_p29, List.forall_mem_cons.mpr ⟨lw_p30, List.forall_mem_cons.mpr ⟨lw_p31, fun _ h => absurd h List.not_mem_nil⟩⟩⟩⟩⟩⟩⟩⟩⟩⟩⟩⟩⟩⟩⟩⟩
theorem lw_p32 : lw_okq (⟨"JarsThatLeak", "goStopped", "(II)V"⟩, 17) := ⟨⟨by decide +kernel, by decide +kernel⟩, List.mem_of_getElem? (i := 23) (by decide +kernel), List.mem_of_getElem? (i := 833) (by decide +kernel), List.mem_of_getElem? (i := 834) (by decide +kernel)⟩
theorem lw_p33 : lw_okq (⟨"JarsThatLeak", "worthStopping", "(I)I"⟩, 17) := ⟨⟨by decide +kernel, by decide +kernel⟩, List.mem_of_getElem? (i := 23) (by decide +kernel), List.mem_of_getElem? (i := 837) (by decide +kernel), List.mem_of_getElem? (i := 838) (by decide +kernel)⟩
theorem lw_p34 : lw_okq (⟨"JarsThatLeak", "lostWithBelow", "(III)I"⟩, 17) := ⟨⟨by decide +kernel, by decide +kernel⟩, List.mem_of_getElem? (i := 23) (by decide +kernel), List.mem_of_getElem? (i := 858) (by decide +kernel), List.mem_of_getElem? (i := 859) (by decide +kernel)⟩
theorem lw_p35 : lw_okq (⟨"JarsThatLeak$Payments", "writeStart", "(LJarsThatLeak$State;)V"⟩, 6) := ⟨⟨by decide +kernel, by decide +kernel⟩, List.mem_of_getElem? (i := 324) (by decide +kernel), List.mem_of_getElem? (i := 871) (by decide +kernel), List.mem_of_getElem? (i := 872) (by decide +kernel)⟩
theorem lw_p36 : lw_okq (⟨"JarsThatLeak$Payments", "enter", "(II)Z"⟩, 6) := ⟨⟨by decide +kernel, by decide +kernel⟩, List.mem_of_getElem? (i := 324) (by decide +kernel), List.mem_of_getElem? (i := 875) (by decide +kernel), List.mem_of_getElem? (i := 876) (by decide +kernel)⟩
theorem lw_p37 : lw_okq (⟨"JarsThatLeak$Payments", "findSpot", "()I"⟩, 6) := ⟨⟨by decide +kernel, by decide +kernel⟩, List.mem_of_getElem? (i := 324) (by decide +kernel), List.mem_of_getElem? (i := 879) (by decide +kernel), List.mem_of_getElem? (i := 880) (by decide +kernel)⟩
theorem lw_p38 : lw_okq (⟨"JarsThatLeak$Payments", "firstSpot", "()I"⟩, 6) := ⟨⟨by decide +kernel, by decide +kernel⟩, List.mem_of_getElem? (i := 324) (by decide +kernel), List.mem_of_getElem? (i := 883) (by decide +kernel), List.mem_of_getElem? (i := 884) (by decide +kernel)⟩
theorem lw_p39 : lw_okq (⟨"JarsThatLeak$Payments", "isLike", "(I)Z"⟩, 6) := ⟨⟨by decide +kernel, by decide +kernel⟩, List.mem_of_getElem? (i := 324) (by decide +kernel), List.mem_of_getElem? (i := 889) (by decide +kernel), List.mem_of_getElem? (i := 890) (by decide +kernel)⟩
theorem lw_p40 : lw_okq (⟨"JarsThatLeak$Payments", "goOnFrom", "(I)Z"⟩, 6) := ⟨⟨by decide +kernel, by decide +kernel⟩, List.mem_of_getElem? (i := 324) (by decide +kernel), List.mem_of_getElem? (i := 893) (by decide +kernel), List.mem_of_getElem? (i := 894) (by decide +kernel)⟩
theorem lw_p41 : lw_okq (⟨"JarsThatLeak$Payments", "levelIn", "(II)I"⟩, 6) := ⟨⟨by decide +kernel, by decide +kernel⟩, List.mem_of_getElem? (i := 324) (by decide +kernel), List.mem_of_getElem? (i := 897) (by decide +kernel), List.mem_of_getElem? (i := 898) (by decide +kernel)⟩
theorem lw_p42 : lw_okq (⟨"JarsThatLeak$Payments", "canPay", "(III)I"⟩, 6) := ⟨⟨by decide +kernel, by decide +kernel⟩, List.mem_of_getElem? (i := 324) (by decide +kernel), List.mem_of_getElem? (i := 901) (by decide +kernel), List.mem_of_getElem? (i := 902) (by decide +kernel)⟩
theorem lw_p43 : lw_okq (⟨"JarsThatLeak$Payments", "writeNext", "(IIII)V"⟩, 6) := ⟨⟨by decide +kernel, by decide +kernel⟩, List.mem_of_getElem? (i := 324) (by decide +kernel), List.mem_of_getElem? (i := 906) (by decide +kernel), List.mem_of_getElem? (i := 907) (by decide +kernel)⟩
theorem lw_p44 : lw_okq (⟨"JarsThatLeak$Payments", "isPaid", "(I)Z"⟩, 6) := ⟨⟨by decide +kernel, by decide +kernel⟩, List.mem_of_getElem? (i := 324) (by decide +kernel), List.mem_of_getElem? (i := 911) (by decide +kernel), List.mem_of_getElem? (i := 912) (by decide +kernel)⟩
theorem lw_p45 : lw_okq (⟨"JarsThatLeak", "dropsOf", "(I[I)I"⟩, 17) := ⟨⟨by decide +kernel, by decide +kernel⟩, List.mem_of_getElem? (i := 23) (by decide +kernel), List.mem_of_getElem? (i := 927) (by decide +kernel), List.mem_of_getElem? (i := 928) (by decide +kernel)⟩
theorem lw_p46 : lw_okq (⟨"JarsThatLeak", "roomOf", "(I[I)I"⟩, 17) := ⟨⟨by decide +kernel, by decide +kernel⟩, List.mem_of_getElem? (i := 23) (by decide +kernel), List.mem_of_getElem? (i := 931) (by decide +kernel), List.mem_of_getElem? (i := 932) (by decide +kernel)⟩
theorem lw_p47 : lw_okq (⟨"JarsThatLeak", "couldPay", "(II[I)Z"⟩, 17) := ⟨⟨by decide +kernel, by decide +kernel⟩, List.mem_of_getElem? (i := 23) (by decide +kernel), List.mem_of_getElem? (i := 935) (by decide +kernel), List.mem_of_getElem? (i := 936) (by decide +kernel)⟩
def lw_privs_3 : List (MethodName × Nat) := [(⟨"JarsThatLeak", "goStopped", "(II)V"⟩, 17), (⟨"JarsThatLeak", "worthStopping", "(I)I"⟩, 17), (⟨"JarsThatLeak", "lostWithBelow", "(III)I"⟩, 17), (⟨"JarsThatLeak$Payments", "writeStart", "(LJarsThatLeak$State;)V"⟩, 6), (⟨"JarsThatLeak$Payments", "enter", "(II)Z"⟩, 6), (⟨"JarsThatLeak$Payments", "findSpot", "()I"⟩, 6), (⟨"JarsThatLeak$Payments", "firstSpot", "()I"⟩, 6), (⟨"JarsThatLeak$Payments", "isLike", "(I)Z"⟩, 6), (⟨"JarsThatLeak$Payments", "goOnFrom", "(I)Z"⟩, 6), (⟨"JarsThatLeak$Payments", "levelIn", "(II)I"⟩, 6), (⟨"JarsThatLeak$Payments", "canPay", "(III)I"⟩, 6), (⟨"JarsThatLeak$Payments", "writeNext", "(IIII)V"⟩, 6), (⟨"JarsThatLeak$Payments", "isPaid", "(I)Z"⟩, 6), (⟨"JarsThatLeak", "dropsOf", "(I[I)I"⟩, 17), (⟨"JarsThatLeak", "roomOf", "(I[I)I"⟩, 17), (⟨"JarsThatLeak", "couldPay", "(II[I)Z"⟩, 17)]
theorem lw_r3 : ∀ q ∈ lw_privs_3, lw_okq q := List.forall_mem_cons.mpr ⟨lw_p32, List.forall_mem_cons.mpr ⟨lw_p33, List.forall_mem_cons.mpr ⟨lw_p34, List.forall_mem_cons.mpr ⟨lw_p35, List.forall_mem_cons.mpr ⟨lw_p36, List.forall_mem_cons.mpr ⟨lw_p37, List.forall_mem_cons.mpr ⟨lw_p38, List.forall_mem_cons.mpr ⟨lw_p39, List.forall_mem_cons.mpr ⟨lw_p40, List.forall_mem_cons.mpr ⟨lw_p41, List.forall_mem_cons.mpr ⟨lw_p42, List.forall_mem_cons.mpr ⟨lw_p43, List.forall_mem_cons.mpr ⟨lw_p44, List.forall_mem_cons.mpr ⟨lw_p45, List.forall_mem_cons.mpr ⟨lw_p46, List.forall_mem_cons.mpr ⟨lw_p47, fun _ h => absurd h List.not_mem_nil⟩⟩⟩⟩⟩⟩⟩⟩⟩⟩⟩⟩⟩⟩⟩⟩
theorem lw_p48 : lw_okq (⟨"JarsThatLeak", "settleFirst", "()Z"⟩, 17) := ⟨⟨by decide +kernel, by decide +kernel⟩, List.mem_of_getElem? (i := 23) (by decide +kernel), List.mem_of_getElem? (i := 957) (by decide +kernel), List.mem_of_getElem? (i := 958) (by decide +kernel)⟩
theorem lw_p49 : lw_okq (⟨"JarsThatLeak", "tryAsNow", "()V"⟩, 17) := ⟨⟨by decide +kernel, by decide +kernel⟩, List.mem_of_getElem? (i := 23) (by decide +kernel), List.mem_of_getElem? (i := 990) (by decide +kernel), List.mem_of_getElem? (i := 991) (by decide +kernel)⟩
theorem lw_p50 : lw_okq (⟨"JarsThatLeak", "isQuiet", "(LJarsThatLeak$State;)Z"⟩, 17) := ⟨⟨by decide +kernel, by decide +kernel⟩, List.mem_of_getElem? (i := 23) (by decide +kernel), List.mem_of_getElem? (i := 998) (by decide +kernel), List.mem_of_getElem? (i := 999) (by decide +kernel)⟩
theorem lw_p51 : lw_okq (⟨"JarsThatLeak", "fitsWithHole", "(II)Z"⟩, 17) := ⟨⟨by decide +kernel, by decide +kernel⟩, List.mem_of_getElem? (i := 23) (by decide +kernel), List.mem_of_getElem? (i := 1035) (by decide +kernel), List.mem_of_getElem? (i := 1036) (by decide +kernel)⟩
theorem lw_p52 : lw_okq (⟨"JarsThatLeak$Sightings", "lastBell", "()I"⟩, 4) := ⟨⟨by decide +kernel, by decide +kernel⟩, List.mem_of_getElem? (i := 304) (by decide +kernel), List.mem_of_getElem? (i := 1043) (by decide +kernel), List.mem_of_getElem? (i := 1044) (by decide +kernel)⟩
theorem lw_p53 : lw_okq (⟨"JarsThatLeak$Sightings", "fitAt", "(ILJarsThatLeak$Flow;)Z"⟩, 4) := ⟨⟨by decide +kernel, by decide +kernel⟩, List.mem_of_getElem? (i := 304) (by decide +kernel), List.mem_of_getElem? (i := 1048) (by decide +kernel), List.mem_of_getElem? (i := 1049) (by decide +kernel)⟩
theorem lw_p54 : lw_okq (⟨"JarsThatLeak", "findWays", "(I)I"⟩, 17) := ⟨⟨by decide +kernel, by decide +kernel⟩, List.mem_of_getElem? (i := 23) (by decide +kernel), List.mem_of_getElem? (i := 1061) (by decide +kernel), List.mem_of_getElem? (i := 1062) (by decide +kernel)⟩
theorem lw_p55 : lw_okq (⟨"JarsThatLeak", "mostAlike", "(II)I"⟩, 17) := ⟨⟨by decide +kernel, by decide +kernel⟩, List.mem_of_getElem? (i := 23) (by decide +kernel), List.mem_of_getElem? (i := 1066) (by decide +kernel), List.mem_of_getElem? (i := 1067) (by decide +kernel)⟩
theorem lw_p56 : lw_okq (⟨"JarsThatLeak", "waysLike", "(IIII)I"⟩, 17) := ⟨⟨by decide +kernel, by decide +kernel⟩, List.mem_of_getElem? (i := 23) (by decide +kernel), List.mem_of_getElem? (i := 1070) (by decide +kernel), List.mem_of_getElem? (i := 1071) (by decide +kernel)⟩
theorem lw_p57 : lw_okq (⟨"JarsThatLeak", "unlikeLevels", "(II)I"⟩, 17) := ⟨⟨by decide +kernel, by decide +kernel⟩, List.mem_of_getElem? (i := 23) (by decide +kernel), List.mem_of_getElem? (i := 1074) (by decide +kernel), List.mem_of_getElem? (i := 1075) (by decide +kernel)⟩
theorem lw_p58 : lw_okq (⟨"java/lang/Throwable", "fillInStackTrace", "(I)Ljava/lang/Throwable;"⟩, 6) := ⟨⟨by decide +kernel, by decide +kernel⟩, List.mem_of_getElem? (i := 1138) (by decide +kernel), List.mem_of_getElem? (i := 1136) (by decide +kernel), List.mem_of_getElem? (i := 1137) (by decide +kernel)⟩
theorem lw_p59 : lw_okq (⟨"JarsThatLeakModel", "begin", "([BII)V"⟩, 55) := ⟨⟨by decide +kernel, by decide +kernel⟩, List.mem_of_getElem? (i := 1177) (by decide +kernel), List.mem_of_getElem? (i := 1370) (by decide +kernel), List.mem_of_getElem? (i := 1371) (by decide +kernel)⟩
theorem lw_p60 : lw_okq (⟨"JarsThatLeakModel", "fine", "()Z"⟩, 55) := ⟨⟨by decide +kernel, by decide +kernel⟩, List.mem_of_getElem? (i := 1177) (by decide +kernel), List.mem_of_getElem? (i := 1374) (by decide +kernel), List.mem_of_getElem? (i := 1375) (by decide +kernel)⟩
theorem lw_p61 : lw_okq (⟨"JarsThatLeakModel", "passes", "(C)Z"⟩, 55) := ⟨⟨by decide +kernel, by decide +kernel⟩, List.mem_of_getElem? (i := 1177) (by decide +kernel), List.mem_of_getElem? (i := 1378) (by decide +kernel), List.mem_of_getElem? (i := 1379) (by decide +kernel)⟩
theorem lw_p62 : lw_okq (⟨"JarsThatLeakModel", "here", "()I"⟩, 55) := ⟨⟨by decide +kernel, by decide +kernel⟩, List.mem_of_getElem? (i := 1177) (by decide +kernel), List.mem_of_getElem? (i := 1382) (by decide +kernel), List.mem_of_getElem? (i := 1383) (by decide +kernel)⟩
theorem lw_p63 : lw_okq (⟨"JarsThatLeakModel", "number", "(III)I"⟩, 55) := ⟨⟨by decide +kernel, by decide +kernel⟩, List.mem_of_getElem? (i := 1177) (by decide +kernel), List.mem_of_getElem? (i := 1386) (by decide +kernel), List.mem_of_getElem? (i := 1387) (by decide +kernel)⟩
def lw_privs_4 : List (MethodName × Nat) := [(⟨"JarsThatLeak", "settleFirst", "()Z"⟩, 17), (⟨"JarsThatLeak", "tryAsNow", "()V"⟩, 17), (⟨"JarsThatLeak", "isQuiet", "(LJarsThatLeak$State;)Z"⟩, 17), (⟨"JarsThatLeak", "fitsWithHole", "(II)Z"⟩, 17), (⟨"JarsThatLeak$Sightings", "lastBell", "()I"⟩, 4), (⟨"JarsThatLeak$Sightings", "fitAt", "(ILJarsThatLeak$Flow;)Z"⟩, 4), (⟨"JarsThatLeak", "findWays", "(I)I"⟩, 17), (⟨"JarsThatLeak", "mostAlike", "(II)I"⟩, 17), (⟨"JarsThatLeak", "waysLike", "(IIII)I"⟩, 17), (⟨"JarsThatLeak", "unlikeLevels", "(II)I"⟩, 17), (⟨"java/lang/Throwable", "fillInStackTrace", "(I)Ljava/lang/Throwable;"⟩, 6), (⟨"JarsThatLeakModel", "begin", "([BII)V"⟩, 55), (⟨"JarsThatLeakModel", "fine", "()Z"⟩, 55), (⟨"JarsThatLeakModel", "passes", "(C)Z"⟩, 55), (⟨"JarsThatLeakModel", "here", "()I"⟩, 55), (⟨"JarsThatLeakModel", "number", "(III)I"⟩, 55)]
theorem lw_r4 : ∀ q ∈ lw_privs_4, lw_okq q := List.forall_mem_cons.mpr ⟨lw_p48, List.forall_mem_cons.mpr ⟨lw_p49, List.forall_mem_cons.mpr ⟨lw_p50, List.forall_mem_cons.mpr ⟨lw_p51, List.forall_mem_cons.mpr ⟨lw_p52, List.forall_mem_cons.mpr ⟨lw_p53, List.forall_mem_cons.mpr ⟨lw_p54, List.forall_mem_cons.mpr ⟨lw_p55, List.forall_mem_cons.mpr ⟨lw_p56, List.forall_mem_cons.mpr ⟨lw_p57, List.forall_mem_cons.mpr ⟨lw_p58, List.forall_mem_cons.mpr ⟨lw_p59, List.forall_mem_cons.mpr ⟨lw_p60, List.forall_mem_cons.mpr ⟨lw_p61, List.forall_mem_cons.mpr ⟨lw_p62, List.forall_mem_cons.mpr ⟨lw_p63, fun _ h => absurd h List.not_mem_nil⟩⟩⟩⟩⟩⟩⟩⟩⟩⟩⟩⟩⟩⟩⟩⟩
theorem lw_p64 : lw_okq (⟨"JarsThatLeakModel", "fault", "(I)V"⟩, 55) := ⟨⟨by decide +kernel, by decide +kernel⟩, List.mem_of_getElem? (i := 1177) (by decide +kernel), List.mem_of_getElem? (i := 1390) (by decide +kernel), List.mem_of_getElem? (i := 1391) (by decide +kernel)⟩
theorem lw_p65 : lw_okq (⟨"JarsThatLeakModel", "need", "(C)V"⟩, 55) := ⟨⟨by decide +kernel, by decide +kernel⟩, List.mem_of_getElem? (i := 1177) (by decide +kernel), List.mem_of_getElem? (i := 1394) (by decide +kernel), List.mem_of_getElem? (i := 1395) (by decide +kernel)⟩
theorem lw_p66 : lw_okq (⟨"JarsThatLeakModel", "readJar", "(I)V"⟩, 55) := ⟨⟨by decide +kernel, by decide +kernel⟩, List.mem_of_getElem? (i := 1177) (by decide +kernel), List.mem_of_getElem? (i := 1398) (by decide +kernel), List.mem_of_getElem? (i := 1399) (by decide +kernel)⟩
theorem lw_p67 : lw_okq (⟨"JarsThatLeakModel", "held", "(I)I"⟩, 55) := ⟨⟨by decide +kernel, by decide +kernel⟩, List.mem_of_getElem? (i := 1177) (by decide +kernel), List.mem_of_getElem? (i := 1406) (by decide +kernel), List.mem_of_getElem? (i := 1407) (by decide +kernel)⟩
theorem lw_p68 : lw_okq (⟨"JarsThatLeakModel", "sum", "(I)I"⟩, 55) := ⟨⟨by decide +kernel, by decide +kernel⟩, List.mem_of_getElem? (i := 1177) (by decide +kernel), List.mem_of_getElem? (i := 1410) (by decide +kernel), List.mem_of_getElem? (i := 1411) (by decide +kernel)⟩
theorem lw_p69 : lw_okq (⟨"JarsThatLeakModel", "product", "(I)I"⟩, 55) := ⟨⟨by decide +kernel, by decide +kernel⟩, List.mem_of_getElem? (i := 1177) (by decide +kernel), List.mem_of_getElem? (i := 1414) (by decide +kernel), List.mem_of_getElem? (i := 1415) (by decide +kernel)⟩
theorem lw_p70 : lw_okq (⟨"JarsThatLeakModel", "thing", "(I)I"⟩, 55) := ⟨⟨by decide +kernel, by decide +kernel⟩, List.mem_of_getElem? (i := 1177) (by decide +kernel), List.mem_of_getElem? (i := 1418) (by decide +kernel), List.mem_of_getElem? (i := 1419) (by decide +kernel)⟩
theorem lw_p71 : lw_okq (⟨"JarsThatLeakModel", "letter", "(I)I"⟩, 55) := ⟨⟨by decide +kernel, by decide +kernel⟩, List.mem_of_getElem? (i := 1177) (by decide +kernel), List.mem_of_getElem? (i := 1422) (by decide +kernel), List.mem_of_getElem? (i := 1423) (by decide +kernel)⟩
theorem lw_p72 : lw_okq (⟨"JarsThatLeakModel", "owedBy", "(I)I"⟩, 55) := ⟨⟨by decide +kernel, by decide +kernel⟩, List.mem_of_getElem? (i := 1177) (by decide +kernel), List.mem_of_getElem? (i := 1426) (by decide +kernel), List.mem_of_getElem? (i := 1427) (by decide +kernel)⟩
theorem lw_p73 : lw_okq (⟨"JarsThatLeakModel", "isJar", "(I)Z"⟩, 55) := ⟨⟨by decide +kernel, by decide +kernel⟩, List.mem_of_getElem? (i := 1177) (by decide +kernel), List.mem_of_getElem? (i := 1434) (by decide +kernel), List.mem_of_getElem? (i := 1435) (by decide +kernel)⟩
theorem lw_p74 : lw_okq (⟨"JarsThatLeakModel", "lost", "()I"⟩, 55) := ⟨⟨by decide +kernel, by decide +kernel⟩, List.mem_of_getElem? (i := 1177) (by decide +kernel), List.mem_of_getElem? (i := 1438) (by decide +kernel), List.mem_of_getElem? (i := 1439) (by decide +kernel)⟩
theorem lw_p75 : lw_okq (⟨"JarsThatLeakModel", "lawFor", "(I)I"⟩, 55) := ⟨⟨by decide +kernel, by decide +kernel⟩, List.mem_of_getElem? (i := 1177) (by decide +kernel), List.mem_of_getElem? (i := 1442) (by decide +kernel), List.mem_of_getElem? (i := 1443) (by decide +kernel)⟩
theorem lw_p76 : lw_okq (⟨"JarsThatLeakModel", "remember", "()V"⟩, 55) := ⟨⟨by decide +kernel, by decide +kernel⟩, List.mem_of_getElem? (i := 1177) (by decide +kernel), List.mem_of_getElem? (i := 1467) (by decide +kernel), List.mem_of_getElem? (i := 1468) (by decide +kernel)⟩
theorem lw_p77 : lw_okq (⟨"JarsThatLeakModel", "lay", "([II)V"⟩, 55) := ⟨⟨by decide +kernel, by decide +kernel⟩, List.mem_of_getElem? (i := 1177) (by decide +kernel), List.mem_of_getElem? (i := 1471) (by decide +kernel), List.mem_of_getElem? (i := 1472) (by decide +kernel)⟩
theorem lw_p78 : lw_okq (⟨"JarsThatLeakModel", "refusal", "(III)I"⟩, 55) := ⟨⟨by decide +kernel, by decide +kernel⟩, List.mem_of_getElem? (i := 1177) (by decide +kernel), List.mem_of_getElem? (i := 1479) (by decide +kernel), List.mem_of_getElem? (i := 1480) (by decide +kernel)⟩
theorem lw_p79 : lw_okq (⟨"JarsThatLeakModel", "make", "(III)V"⟩, 55) := ⟨⟨by decide +kernel, by decide +kernel⟩, List.mem_of_getElem? (i := 1177) (by decide +kernel), List.mem_of_getElem? (i := 1483) (by decide +kernel), List.mem_of_getElem? (i := 1484) (by decide +kernel)⟩
def lw_privs_5 : List (MethodName × Nat) := [(⟨"JarsThatLeakModel", "fault", "(I)V"⟩, 55), (⟨"JarsThatLeakModel", "need", "(C)V"⟩, 55), (⟨"JarsThatLeakModel", "readJar", "(I)V"⟩, 55), (⟨"JarsThatLeakModel", "held", "(I)I"⟩, 55), (⟨"JarsThatLeakModel", "sum", "(I)I"⟩, 55), (⟨"JarsThatLeakModel", "product", "(I)I"⟩, 55), (⟨"JarsThatLeakModel", "thing", "(I)I"⟩, 55), (⟨"JarsThatLeakModel", "letter", "(I)I"⟩, 55), (⟨"JarsThatLeakModel", "owedBy", "(I)I"⟩, 55), (⟨"JarsThatLeakModel", "isJar", "(I)Z"⟩, 55), (⟨"JarsThatLeakModel", "lost", "()I"⟩, 55), (⟨"JarsThatLeakModel", "lawFor", "(I)I"⟩, 55), (⟨"JarsThatLeakModel", "remember", "()V"⟩, 55), (⟨"JarsThatLeakModel", "lay", "([II)V"⟩, 55), (⟨"JarsThatLeakModel", "refusal", "(III)I"⟩, 55), (⟨"JarsThatLeakModel", "make", "(III)V"⟩, 55)]
theorem lw_r5 : ∀ q ∈ lw_privs_5, lw_okq q := List.forall_mem_cons.mpr ⟨lw_p64, List.forall_mem_cons.mpr ⟨lw_p65, List.forall_mem_cons.mpr ⟨lw_p66, List.forall_mem_cons.mpr ⟨lw_p67, List.forall_mem_cons.mpr ⟨lw_p68, List.forall_mem_cons.mpr ⟨lw_p69, List.forall_mem_cons.mpr ⟨lw_p70, List.forall_mem_cons.mpr ⟨lw_p71, List.forall_mem_cons.mpr ⟨lw_p72, List.forall_mem_cons.mpr ⟨lw_p73, List.forall_mem_cons.mpr ⟨lw_p74, List.forall_mem_cons.mpr ⟨lw_p75, List.forall_mem_cons.mpr ⟨lw_p76, List.forall_mem_cons.mpr ⟨lw_p77, List.forall_mem_cons.mpr ⟨lw_p78, List.forall_mem_cons.mpr ⟨lw_p79, fun _ h => absurd h List.not_mem_nil⟩⟩⟩⟩⟩⟩⟩⟩⟩⟩⟩⟩⟩⟩⟩⟩
theorem lw_p80 : lw_okq (⟨"JarsThatLeakModel", "move", "(III)V"⟩, 55) := ⟨⟨by decide +kernel, by decide +kernel⟩, List.mem_of_getElem? (i := 1177) (by decide +kernel), List.mem_of_getElem? (i := 1487) (by decide +kernel), List.mem_of_getElem? (i := 1488) (by decide +kernel)⟩
theorem lw_p81 : lw_okq (⟨"JarsThatLeakModel", "letGo", "(II)V"⟩, 55) := ⟨⟨by decide +kernel, by decide +kernel⟩, List.mem_of_getElem? (i := 1177) (by decide +kernel), List.mem_of_getElem? (i := 1491) (by decide +kernel), List.mem_of_getElem? (i := 1492) (by decide +kernel)⟩
theorem lw_p82 : lw_okq (⟨"JarsThatLeakModel", "goBell", "()I"⟩, 55) := ⟨⟨by decide +kernel, by decide +kernel⟩, List.mem_of_getElem? (i := 1177) (by decide +kernel), List.mem_of_getElem? (i := 1506) (by decide +kernel), List.mem_of_getElem? (i := 1507) (by decide +kernel)⟩
theorem lw_p83 : lw_okq (⟨"JarsThatLeakModel", "tell", "(I)V"⟩, 55) := ⟨⟨by decide +kernel, by decide +kernel⟩, List.mem_of_getElem? (i := 1177) (by decide +kernel), List.mem_of_getElem? (i := 1510) (by decide +kernel), List.mem_of_getElem? (i := 1511) (by decide +kernel)⟩
theorem lw_p84 : lw_okq (⟨"JarsThatLeakModel", "sumOf", "([I)I"⟩, 55) := ⟨⟨by decide +kernel, by decide +kernel⟩, List.mem_of_getElem? (i := 1177) (by decide +kernel), List.mem_of_getElem? (i := 1514) (by decide +kernel), List.mem_of_getElem? (i := 1515) (by decide +kernel)⟩
theorem lw_p85 : lw_okq (⟨"JarsThatLeakModel", "bring", "([II)V"⟩, 55) := ⟨⟨by decide +kernel, by decide +kernel⟩, List.mem_of_getElem? (i := 1177) (by decide +kernel), List.mem_of_getElem? (i := 1522) (by decide +kernel), List.mem_of_getElem? (i := 1523) (by decide +kernel)⟩
theorem lw_p86 : lw_okq (⟨"JarsThatLeakModel", "allDebts", "()I"⟩, 55) := ⟨⟨by decide +kernel, by decide +kernel⟩, List.mem_of_getElem? (i := 1177) (by decide +kernel), List.mem_of_getElem? (i := 1530) (by decide +kernel), List.mem_of_getElem? (i := 1531) (by decide +kernel)⟩
theorem lw_p87 : lw_okq (⟨"JarsThatLeakModel", "goStep", "(I)Z"⟩, 55) := ⟨⟨by decide +kernel, by decide +kernel⟩, List.mem_of_getElem? (i := 1177) (by decide +kernel), List.mem_of_getElem? (i := 1538) (by decide +kernel), List.mem_of_getElem? (i := 1539) (by decide +kernel)⟩
theorem lw_p88 : lw_okq (⟨"JarsThatLeakModel", "begin", "()V"⟩, 55) := ⟨⟨by decide +kernel, by decide +kernel⟩, List.mem_of_getElem? (i := 1177) (by decide +kernel), List.mem_of_getElem? (i := 1560) (by decide +kernel), List.mem_of_getElem? (i := 1561) (by decide +kernel)⟩
theorem lw_p89 : lw_okq (⟨"JarsThatLeakModel", "isMoving", "()Z"⟩, 55) := ⟨⟨by decide +kernel, by decide +kernel⟩, List.mem_of_getElem? (i := 1177) (by decide +kernel), List.mem_of_getElem? (i := 1564) (by decide +kernel), List.mem_of_getElem? (i := 1565) (by decide +kernel)⟩
theorem lw_p90 : lw_okq (⟨"JarsThatLeakModel", "goOn", "()I"⟩, 55) := ⟨⟨by decide +kernel, by decide +kernel⟩, List.mem_of_getElem? (i := 1177) (by decide +kernel), List.mem_of_getElem? (i := 1568) (by decide +kernel), List.mem_of_getElem? (i := 1569) (by decide +kernel)⟩
theorem lw_p91 : lw_okq (⟨"JarsThatLeakModel", "levelIn", "(II)I"⟩, 55) := ⟨⟨by decide +kernel, by decide +kernel⟩, List.mem_of_getElem? (i := 1177) (by decide +kernel), List.mem_of_getElem? (i := 1580) (by decide +kernel), List.mem_of_getElem? (i := 1581) (by decide +kernel)⟩
theorem lw_p92 : lw_okq (⟨"JarsThatLeakModel", "goOn", "(I)I"⟩, 55) := ⟨⟨by decide +kernel, by decide +kernel⟩, List.mem_of_getElem? (i := 1177) (by decide +kernel), List.mem_of_getElem? (i := 1584) (by decide +kernel), List.mem_of_getElem? (i := 1585) (by decide +kernel)⟩
theorem lw_p93 : lw_okq (⟨"JarsThatLeakModel", "goStopped", "(II)I"⟩, 55) := ⟨⟨by decide +kernel, by decide +kernel⟩, List.mem_of_getElem? (i := 1177) (by decide +kernel), List.mem_of_getElem? (i := 1605) (by decide +kernel), List.mem_of_getElem? (i := 1606) (by decide +kernel)⟩
theorem lw_p94 : lw_okq (⟨"JarsThatLeakModel", "addState", "(II)Z"⟩, 55) := ⟨⟨by decide +kernel, by decide +kernel⟩, List.mem_of_getElem? (i := 1177) (by decide +kernel), List.mem_of_getElem? (i := 1624) (by decide +kernel), List.mem_of_getElem? (i := 1625) (by decide +kernel)⟩
theorem lw_p95 : lw_okq (⟨"JarsThatLeakModel", "isState", "(I)Z"⟩, 55) := ⟨⟨by decide +kernel, by decide +kernel⟩, List.mem_of_getElem? (i := 1177) (by decide +kernel), List.mem_of_getElem? (i := 1628) (by decide +kernel), List.mem_of_getElem? (i := 1629) (by decide +kernel)⟩
def lw_privs_6 : List (MethodName × Nat) := [(⟨"JarsThatLeakModel", "move", "(III)V"⟩, 55), (⟨"JarsThatLeakModel", "letGo", "(II)V"⟩, 55), (⟨"JarsThatLeakModel", "goBell", "()I"⟩, 55), (⟨"JarsThatLeakModel", "tell", "(I)V"⟩, 55), (⟨"JarsThatLeakModel", "sumOf", "([I)I"⟩, 55), (⟨"JarsThatLeakModel", "bring", "([II)V"⟩, 55), (⟨"JarsThatLeakModel", "allDebts", "()I"⟩, 55), (⟨"JarsThatLeakModel", "goStep", "(I)Z"⟩, 55), (⟨"JarsThatLeakModel", "begin", "()V"⟩, 55), (⟨"JarsThatLeakModel", "isMoving", "()Z"⟩, 55), (⟨"JarsThatLeakModel", "goOn", "()I"⟩, 55), (⟨"JarsThatLeakModel", "levelIn", "(II)I"⟩, 55), (⟨"JarsThatLeakModel", "goOn", "(I)I"⟩, 55), (⟨"JarsThatLeakModel", "goStopped", "(II)I"⟩, 55), (⟨"JarsThatLeakModel", "addState", "(II)Z"⟩, 55), (⟨"JarsThatLeakModel", "isState", "(I)Z"⟩, 55)]
theorem lw_r6 : ∀ q ∈ lw_privs_6, lw_okq q := List.forall_mem_cons.mpr ⟨lw_p80, List.forall_mem_cons.mpr ⟨lw_p81, List.forall_mem_cons.mpr ⟨lw_p82, List.forall_mem_cons.mpr ⟨lw_p83, List.forall_mem_cons.mpr ⟨lw_p84, List.forall_mem_cons.mpr ⟨lw_p85, List.forall_mem_cons.mpr ⟨lw_p86, List.forall_mem_cons.mpr ⟨lw_p87, List.forall_mem_cons.mpr ⟨lw_p88, List.forall_mem_cons.mpr ⟨lw_p89, List.forall_mem_cons.mpr ⟨lw_p90, List.forall_mem_cons.mpr ⟨lw_p91, List.forall_mem_cons.mpr ⟨lw_p92, List.forall_mem_cons.mpr ⟨lw_p93, List.forall_mem_cons.mpr ⟨lw_p94, List.forall_mem_cons.mpr ⟨lw_p95, fun _ h => absurd h List.not_mem_nil⟩⟩⟩⟩⟩⟩⟩⟩⟩⟩⟩⟩⟩⟩⟩⟩
theorem lw_p96 : lw_okq (⟨"JarsThatLeakModel", "load", "(I)V"⟩, 55) := ⟨⟨by decide +kernel, by decide +kernel⟩, List.mem_of_getElem? (i := 1177) (by decide +kernel), List.mem_of_getElem? (i := 1632) (by decide +kernel), List.mem_of_getElem? (i := 1633) (by decide +kernel)⟩
theorem lw_p97 : lw_okq (⟨"JarsThatLeakModel", "owedBetween", "(II)I"⟩, 55) := ⟨⟨by decide +kernel, by decide +kernel⟩, List.mem_of_getElem? (i := 1177) (by decide +kernel), List.mem_of_getElem? (i := 1636) (by decide +kernel), List.mem_of_getElem? (i := 1637) (by decide +kernel)⟩
theorem lw_p98 : lw_okq (⟨"JarsThatLeakModel", "isPaid", "()Z"⟩, 55) := ⟨⟨by decide +kernel, by decide +kernel⟩, List.mem_of_getElem? (i := 1177) (by decide +kernel), List.mem_of_getElem? (i := 1640) (by decide +kernel), List.mem_of_getElem? (i := 1641) (by decide +kernel)⟩
theorem lw_p99 : lw_okq (⟨"JarsThatLeakModel", "dropsOf", "(I)I"⟩, 55) := ⟨⟨by decide +kernel, by decide +kernel⟩, List.mem_of_getElem? (i := 1177) (by decide +kernel), List.mem_of_getElem? (i := 1648) (by decide +kernel), List.mem_of_getElem? (i := 1649) (by decide +kernel)⟩
theorem lw_p100 : lw_okq (⟨"JarsThatLeakModel", "roomOf", "(I)I"⟩, 55) := ⟨⟨by decide +kernel, by decide +kernel⟩, List.mem_of_getElem? (i := 1177) (by decide +kernel), List.mem_of_getElem? (i := 1652) (by decide +kernel), List.mem_of_getElem? (i := 1653) (by decide +kernel)⟩
theorem lw_p101 : lw_okq (⟨"JarsThatLeakModel", "canPay", "(II)Z"⟩, 55) := ⟨⟨by decide +kernel, by decide +kernel⟩, List.mem_of_getElem? (i := 1177) (by decide +kernel), List.mem_of_getElem? (i := 1656) (by decide +kernel), List.mem_of_getElem? (i := 1657) (by decide +kernel)⟩
theorem lw_p102 : lw_okq (⟨"JarsThatLeakModel", "setOff", "(II)V"⟩, 55) := ⟨⟨by decide +kernel, by decide +kernel⟩, List.mem_of_getElem? (i := 1177) (by decide +kernel), List.mem_of_getElem? (i := 1672) (by decide +kernel), List.mem_of_getElem? (i := 1673) (by decide +kernel)⟩
theorem lw_p103 : lw_okq (⟨"JarsThatLeakModel", "settleOne", "()Z"⟩, 55) := ⟨⟨by decide +kernel, by decide +kernel⟩, List.mem_of_getElem? (i := 1177) (by decide +kernel), List.mem_of_getElem? (i := 1676) (by decide +kernel), List.mem_of_getElem? (i := 1677) (by decide +kernel)⟩
theorem lw_p104 : lw_okq (⟨"JarsThatLeakModel", "shareOf", "(II)I"⟩, 55) := ⟨⟨by decide +kernel, by decide +kernel⟩, List.mem_of_getElem? (i := 1177) (by decide +kernel), List.mem_of_getElem? (i := 1684) (by decide +kernel), List.mem_of_getElem? (i := 1685) (by decide +kernel)⟩
theorem lw_p105 : lw_okq (⟨"JarsThatLeakModel", "isMovingNow", "()Z"⟩, 55) := ⟨⟨by decide +kernel, by decide +kernel⟩, List.mem_of_getElem? (i := 1177) (by decide +kernel), List.mem_of_getElem? (i := 1704) (by decide +kernel), List.mem_of_getElem? (i := 1705) (by decide +kernel)⟩
theorem lw_p106 : lw_okq (⟨"JarsThatLeakModel", "isSoWith", "(II)Z"⟩, 55) := ⟨⟨by decide +kernel, by decide +kernel⟩, List.mem_of_getElem? (i := 1177) (by decide +kernel), List.mem_of_getElem? (i := 1728) (by decide +kernel), List.mem_of_getElem? (i := 1729) (by decide +kernel)⟩
theorem lw_p107 : lw_okq (⟨"JarsThatLeakModel", "isSo", "()Z"⟩, 55) := ⟨⟨by decide +kernel, by decide +kernel⟩, List.mem_of_getElem? (i := 1177) (by decide +kernel), List.mem_of_getElem? (i := 1732) (by decide +kernel), List.mem_of_getElem? (i := 1733) (by decide +kernel)⟩
def lw_privs_7 : List (MethodName × Nat) := [(⟨"JarsThatLeakModel", "load", "(I)V"⟩, 55), (⟨"JarsThatLeakModel", "owedBetween", "(II)I"⟩, 55), (⟨"JarsThatLeakModel", "isPaid", "()Z"⟩, 55), (⟨"JarsThatLeakModel", "dropsOf", "(I)I"⟩, 55), (⟨"JarsThatLeakModel", "roomOf", "(I)I"⟩, 55), (⟨"JarsThatLeakModel", "canPay", "(II)Z"⟩, 55), (⟨"JarsThatLeakModel", "setOff", "(II)V"⟩, 55), (⟨"JarsThatLeakModel", "settleOne", "()Z"⟩, 55), (⟨"JarsThatLeakModel", "shareOf", "(II)I"⟩, 55), (⟨"JarsThatLeakModel", "isMovingNow", "()Z"⟩, 55), (⟨"JarsThatLeakModel", "isSoWith", "(II)Z"⟩, 55), (⟨"JarsThatLeakModel", "isSo", "()Z"⟩, 55)]
theorem lw_r7 : ∀ q ∈ lw_privs_7, lw_okq q := List.forall_mem_cons.mpr ⟨lw_p96, List.forall_mem_cons.mpr ⟨lw_p97, List.forall_mem_cons.mpr ⟨lw_p98, List.forall_mem_cons.mpr ⟨lw_p99, List.forall_mem_cons.mpr ⟨lw_p100, List.forall_mem_cons.mpr ⟨lw_p101, List.forall_mem_cons.mpr ⟨lw_p102, List.forall_mem_cons.mpr ⟨lw_p103, List.forall_mem_cons.mpr ⟨lw_p104, List.forall_mem_cons.mpr ⟨lw_p105, List.forall_mem_cons.mpr ⟨lw_p106, List.forall_mem_cons.mpr ⟨lw_p107, fun _ h => absurd h List.not_mem_nil⟩⟩⟩⟩⟩⟩⟩⟩⟩⟩⟩⟩
def lw_privs : List (MethodName × Nat) := lw_privs_1 ++ (lw_privs_2 ++ (lw_privs_3 ++ (lw_privs_4 ++ (lw_privs_5 ++ (lw_privs_6 ++ (lw_privs_7))))))
def lw_tbl : List Cond := k2_sels lw_privs ++ tables_1
theorem lw_privs_ok : ∀ q ∈ lw_privs, lw_okq q := by
  show ∀ q ∈ lw_privs_1 ++ (lw_privs_2 ++ (lw_privs_3 ++ (lw_privs_4 ++ (lw_privs_5 ++ (lw_privs_6 ++ (lw_privs_7)))))), lw_okq q
  exact List.forall_mem_append.mpr ⟨lw_r1, List.forall_mem_append.mpr ⟨lw_r2, List.forall_mem_append.mpr ⟨lw_r3, List.forall_mem_append.mpr ⟨lw_r4, List.forall_mem_append.mpr ⟨lw_r5, List.forall_mem_append.mpr ⟨lw_r6, lw_r7⟩⟩⟩⟩⟩⟩

def RX0 : String := "JarsThatLeak$Clock"
def TX0 : u_T := fun k => match k with
  | 0 => ("JarsThatLeak$Clock", "town", "LJarsThatLeak$Town;", true)
  | 1 => ("JarsThatLeak$Clock", "gone", "[I", true)
  | _ => ("JarsThatLeak$Clock", "many", "[I", true)
def tyX0 : Nat → FieldType := fun k => match k with
  | 0 => .object "JarsThatLeak$Town"
  | 1 => .array .int
  | _ => .array .int
theorem nmX0 : ∀ a, a < 3 → ∀ b, b < 3 → a ≠ b → (TX0 a).2.1 ≠ (TX0 b).2.1 := by decide +kernel
theorem tyX0_ok : ∀ k, k < 3 → parseFieldDescriptor (TX0 k).2.2.1 = some (tyX0 k) := by decide +kernel
abbrev cX0_init : ByteArray := prog_2_method_1_code
def yX0_init : MethodName := ⟨RX0, "<init>", "(LJarsThatLeak$Town;)V"⟩
abbrev cX0_strike : ByteArray := prog_2_method_2_code
def yX0_strike : MethodName := ⟨RX0, "strike", "(LJarsThatLeak$State;)V"⟩
abbrev cX0_letGo : ByteArray := prog_2_method_3_code
def yX0_letGo : MethodName := ⟨RX0, "letGo", "(LJarsThatLeak$State;I)V"⟩
abbrev cX0_comeDown : ByteArray := prog_2_method_4_code
def yX0_comeDown : MethodName := ⟨RX0, "comeDown", "(LJarsThatLeak$State;I)V"⟩
def RX1 : String := "JarsThatLeak$Flow"
def TX1 : u_T := fun k => match k with
  | 0 => ("JarsThatLeak$Flow", "town", "LJarsThatLeak$Town;", true)
  | 1 => ("JarsThatLeak$Flow", "level", "[I", true)
  | 2 => ("JarsThatLeak$Flow", "hole", "[I", true)
  | 3 => ("JarsThatLeak$Flow", "below", "[I", true)
  | 4 => ("JarsThatLeak$Flow", "wax", "[I", true)
  | 5 => ("JarsThatLeak$Flow", "gone", "[I", true)
  | 6 => ("JarsThatLeak$Flow", "wet", "[I", true)
  | 7 => ("JarsThatLeak$Flow", "lost", "I", false)
  | _ => ("JarsThatLeak$Flow", "over", "Z", false)
def tyX1 : Nat → FieldType := fun k => match k with
  | 0 => .object "JarsThatLeak$Town"
  | 1 => .array .int
  | 2 => .array .int
  | 3 => .array .int
  | 4 => .array .int
  | 5 => .array .int
  | 6 => .array .int
  | 7 => .int
  | _ => .boolean
theorem nmX1 : ∀ a, a < 9 → ∀ b, b < 9 → a ≠ b → (TX1 a).2.1 ≠ (TX1 b).2.1 := by decide +kernel
theorem tyX1_ok : ∀ k, k < 9 → parseFieldDescriptor (TX1 k).2.2.1 = some (tyX1 k) := by decide +kernel
abbrev cX1_init : ByteArray := prog_3_method_1_code
def yX1_init : MethodName := ⟨RX1, "<init>", "(LJarsThatLeak$Town;)V"⟩
abbrev cX1_start : ByteArray := prog_3_method_2_code
def yX1_start : MethodName := ⟨RX1, "start", "(LJarsThatLeak$State;)V"⟩
abbrev cX1_strikeAll : ByteArray := prog_3_method_3_code
def yX1_strikeAll : MethodName := ⟨RX1, "strikeAll", "(I)V"⟩
abbrev cX1_strike : ByteArray := prog_3_method_4_code
def yX1_strike : MethodName := ⟨RX1, "strike", "()V"⟩
abbrev cX1_comeDown : ByteArray := prog_3_method_5_code
def yX1_comeDown : MethodName := ⟨RX1, "comeDown", "(II)V"⟩
abbrev cX1_isQuiet : ByteArray := prog_3_method_6_code
def yX1_isQuiet : MethodName := ⟨RX1, "isQuiet", "()Z"⟩
abbrev cX1_noteWet : ByteArray := prog_3_method_7_code
def yX1_noteWet : MethodName := ⟨RX1, "noteWet", "(I)V"⟩
abbrev cX1_lastWet : ByteArray := prog_3_method_8_code
def yX1_lastWet : MethodName := ⟨RX1, "lastWet", "()I"⟩
def RX2 : String := "JarsThatLeak$Law"
def TX2 : u_T := fun k => match k with
  | 0 => ("JarsThatLeak$Law", "draft", "[I", true)
  | 1 => ("JarsThatLeak$Law", "steps", "[I", true)
  | 2 => ("JarsThatLeak$Law", "stack", "[I", true)
  | 3 => ("JarsThatLeak$Law", "value", "[I", true)
  | 4 => ("JarsThatLeak$Law", "draftLength", "I", false)
  | _ => ("JarsThatLeak$Law", "length", "I", false)
def tyX2 : Nat → FieldType := fun k => match k with
  | 0 => .array .int
  | 1 => .array .int
  | 2 => .array .int
  | 3 => .array .int
  | 4 => .int
  | _ => .int
theorem nmX2 : ∀ a, a < 6 → ∀ b, b < 6 → a ≠ b → (TX2 a).2.1 ≠ (TX2 b).2.1 := by decide +kernel
theorem tyX2_ok : ∀ k, k < 6 → parseFieldDescriptor (TX2 k).2.2.1 = some (tyX2 k) := by decide +kernel
abbrev cX2_init : ByteArray := prog_4_method_1_code
def yX2_init : MethodName := ⟨RX2, "<init>", "()V"⟩
abbrev cX2_isNone : ByteArray := prog_4_method_2_code
def yX2_isNone : MethodName := ⟨RX2, "isNone", "()Z"⟩
abbrev cX2_read : ByteArray := prog_4_method_3_code
def yX2_read : MethodName := ⟨RX2, "read", "(LJarsThatLeak$Signs;)I"⟩
abbrev cX2_take : ByteArray := prog_4_method_4_code
def yX2_take : MethodName := ⟨RX2, "take", "()V"⟩
abbrev cX2_write : ByteArray := prog_4_method_5_code
def yX2_write : MethodName := ⟨RX2, "write", "(I)V"⟩
abbrev cX2_readComparison : ByteArray := prog_4_method_6_code
def yX2_readComparison : MethodName := ⟨RX2, "readComparison", "(LJarsThatLeak$Signs;I)V"⟩
abbrev cX2_readSum : ByteArray := prog_4_method_7_code
def yX2_readSum : MethodName := ⟨RX2, "readSum", "(LJarsThatLeak$Signs;I)V"⟩
abbrev cX2_readProduct : ByteArray := prog_4_method_8_code
def yX2_readProduct : MethodName := ⟨RX2, "readProduct", "(LJarsThatLeak$Signs;I)V"⟩
abbrev cX2_readSigned : ByteArray := prog_4_method_9_code
def yX2_readSigned : MethodName := ⟨RX2, "readSigned", "(LJarsThatLeak$Signs;I)V"⟩
abbrev cX2_readThing : ByteArray := prog_4_method_10_code
def yX2_readThing : MethodName := ⟨RX2, "readThing", "(LJarsThatLeak$Signs;I)V"⟩
abbrev cX2_readLetter : ByteArray := prog_4_method_11_code
def yX2_readLetter : MethodName := ⟨RX2, "readLetter", "(LJarsThatLeak$Signs;)V"⟩
abbrev cX2_worth : ByteArray := prog_4_method_12_code
def yX2_worth : MethodName := ⟨RX2, "worth", "()I"⟩
abbrev cX2_valueOf : ByteArray := prog_4_method_13_code
def yX2_valueOf : MethodName := ⟨RX2, "valueOf", "(I)I"⟩
abbrev cX2_joined : ByteArray := prog_4_method_14_code
def yX2_joined : MethodName := ⟨RX2, "joined", "(III)I"⟩
def RX3 : String := "JarsThatLeak$Past"
def TX3 : u_T := fun k => match k with
  | 0 => ("JarsThatLeak$Past", "states", "[LJarsThatLeak$State;", true)
  | 1 => ("JarsThatLeak$Past", "next", "I", false)
  | _ => ("JarsThatLeak$Past", "held", "I", false)
def tyX3 : Nat → FieldType := fun k => match k with
  | 0 => .array (.object "JarsThatLeak$State")
  | 1 => .int
  | _ => .int
theorem nmX3 : ∀ a, a < 3 → ∀ b, b < 3 → a ≠ b → (TX3 a).2.1 ≠ (TX3 b).2.1 := by decide +kernel
theorem tyX3_ok : ∀ k, k < 3 → parseFieldDescriptor (TX3 k).2.2.1 = some (tyX3 k) := by decide +kernel
abbrev cX3_init : ByteArray := prog_5_method_1_code
def yX3_init : MethodName := ⟨RX3, "<init>", "()V"⟩
abbrev cX3_remember : ByteArray := prog_5_method_2_code
def yX3_remember : MethodName := ⟨RX3, "remember", "(LJarsThatLeak$State;)V"⟩
abbrev cX3_bringBack : ByteArray := prog_5_method_3_code
def yX3_bringBack : MethodName := ⟨RX3, "bringBack", "(LJarsThatLeak$State;)V"⟩
def RX4 : String := "JarsThatLeak$Payments"
def TX4 : u_T := fun k => match k with
  | 0 => ("JarsThatLeak$Payments", "town", "LJarsThatLeak$Town;", true)
  | 1 => ("JarsThatLeak$Payments", "states", "[J", true)
  | 2 => ("JarsThatLeak$Payments", "parent", "[I", true)
  | 3 => ("JarsThatLeak$Payments", "pouring", "[I", true)
  | 4 => ("JarsThatLeak$Payments", "table", "[I", true)
  | _ => ("JarsThatLeak$Payments", "count", "I", false)
def tyX4 : Nat → FieldType := fun k => match k with
  | 0 => .object "JarsThatLeak$Town"
  | 1 => .array .long
  | 2 => .array .int
  | 3 => .array .int
  | 4 => .array .int
  | _ => .int
theorem nmX4 : ∀ a, a < 6 → ∀ b, b < 6 → a ≠ b → (TX4 a).2.1 ≠ (TX4 b).2.1 := by decide +kernel
theorem tyX4_ok : ∀ k, k < 6 → parseFieldDescriptor (TX4 k).2.2.1 = some (tyX4 k) := by decide +kernel
abbrev cX4_init : ByteArray := prog_6_method_1_code
def yX4_init : MethodName := ⟨RX4, "<init>", "(LJarsThatLeak$Town;)V"⟩
abbrev cX4_search : ByteArray := prog_6_method_2_code
def yX4_search : MethodName := ⟨RX4, "search", "(LJarsThatLeak$State;)I"⟩
abbrev cX4_stepsTo : ByteArray := prog_6_method_3_code
def yX4_stepsTo : MethodName := ⟨RX4, "stepsTo", "(I)I"⟩
abbrev cX4_stepOf : ByteArray := prog_6_method_4_code
def yX4_stepOf : MethodName := ⟨RX4, "stepOf", "(II)I"⟩
abbrev cX4_writeStart : ByteArray := prog_6_method_5_code
def yX4_writeStart : MethodName := ⟨RX4, "writeStart", "(LJarsThatLeak$State;)V"⟩
abbrev cX4_isPaid : ByteArray := prog_6_method_6_code
def yX4_isPaid : MethodName := ⟨RX4, "isPaid", "(I)Z"⟩
abbrev cX4_goOnFrom : ByteArray := prog_6_method_7_code
def yX4_goOnFrom : MethodName := ⟨RX4, "goOnFrom", "(I)Z"⟩
abbrev cX4_levelIn : ByteArray := prog_6_method_8_code
def yX4_levelIn : MethodName := ⟨RX4, "levelIn", "(II)I"⟩
abbrev cX4_canPay : ByteArray := prog_6_method_9_code
def yX4_canPay : MethodName := ⟨RX4, "canPay", "(III)I"⟩
abbrev cX4_writeNext : ByteArray := prog_6_method_10_code
def yX4_writeNext : MethodName := ⟨RX4, "writeNext", "(IIII)V"⟩
abbrev cX4_enter : ByteArray := prog_6_method_11_code
def yX4_enter : MethodName := ⟨RX4, "enter", "(II)Z"⟩
abbrev cX4_findSpot : ByteArray := prog_6_method_12_code
def yX4_findSpot : MethodName := ⟨RX4, "findSpot", "()I"⟩
abbrev cX4_firstSpot : ByteArray := prog_6_method_13_code
def yX4_firstSpot : MethodName := ⟨RX4, "firstSpot", "()I"⟩
abbrev cX4_isLike : ByteArray := prog_6_method_14_code
def yX4_isLike : MethodName := ⟨RX4, "isLike", "(I)Z"⟩
def RX5 : String := "JarsThatLeak$Sightings"
def TX5 : u_T := fun k => match k with
  | 0 => ("JarsThatLeak$Sightings", "jar", "[I", true)
  | 1 => ("JarsThatLeak$Sightings", "bell", "[I", true)
  | 2 => ("JarsThatLeak$Sightings", "level", "[I", true)
  | _ => ("JarsThatLeak$Sightings", "count", "I", false)
def tyX5 : Nat → FieldType := fun k => match k with
  | 0 => .array .int
  | 1 => .array .int
  | 2 => .array .int
  | _ => .int
theorem nmX5 : ∀ a, a < 4 → ∀ b, b < 4 → a ≠ b → (TX5 a).2.1 ≠ (TX5 b).2.1 := by decide +kernel
theorem tyX5_ok : ∀ k, k < 4 → parseFieldDescriptor (TX5 k).2.2.1 = some (tyX5 k) := by decide +kernel
abbrev cX5_init : ByteArray := prog_7_method_1_code
def yX5_init : MethodName := ⟨RX5, "<init>", "()V"⟩
abbrev cX5_add : ByteArray := prog_7_method_2_code
def yX5_add : MethodName := ⟨RX5, "add", "(III)V"⟩
abbrev cX5_fit : ByteArray := prog_7_method_3_code
def yX5_fit : MethodName := ⟨RX5, "fit", "(LJarsThatLeak$Flow;)Z"⟩
abbrev cX5_lastBell : ByteArray := prog_7_method_4_code
def yX5_lastBell : MethodName := ⟨RX5, "lastBell", "()I"⟩
abbrev cX5_fitAt : ByteArray := prog_7_method_5_code
def yX5_fitAt : MethodName := ⟨RX5, "fitAt", "(ILJarsThatLeak$Flow;)Z"⟩
def RX6 : String := "JarsThatLeak$Signs"
def TX6 : u_T := fun k => match k with
  | 0 => ("JarsThatLeak$Signs", "signs", "[I", true)
  | 1 => ("JarsThatLeak$Signs", "length", "I", false)
  | 2 => ("JarsThatLeak$Signs", "limit", "I", false)
  | 3 => ("JarsThatLeak$Signs", "at", "I", false)
  | _ => ("JarsThatLeak$Signs", "flaw", "I", false)
def tyX6 : Nat → FieldType := fun k => match k with
  | 0 => .array .int
  | 1 => .int
  | 2 => .int
  | 3 => .int
  | _ => .int
theorem nmX6 : ∀ a, a < 5 → ∀ b, b < 5 → a ≠ b → (TX6 a).2.1 ≠ (TX6 b).2.1 := by decide +kernel
theorem tyX6_ok : ∀ k, k < 5 → parseFieldDescriptor (TX6 k).2.2.1 = some (tyX6 k) := by decide +kernel
abbrev cX6_init : ByteArray := prog_8_method_1_code
def yX6_init : MethodName := ⟨RX6, "<init>", "()V"⟩
abbrev cX6_append : ByteArray := prog_8_method_2_code
def yX6_append : MethodName := ⟨RX6, "append", "(I)V"⟩
abbrev cX6_open : ByteArray := prog_8_method_3_code
def yX6_open : MethodName := ⟨RX6, "open", "(I)V"⟩
abbrev cX6_close : ByteArray := prog_8_method_4_code
def yX6_close : MethodName := ⟨RX6, "close", "(I)I"⟩
abbrev cX6_isFine : ByteArray := prog_8_method_5_code
def yX6_isFine : MethodName := ⟨RX6, "isFine", "()Z"⟩
abbrev cX6_failAt : ByteArray := prog_8_method_6_code
def yX6_failAt : MethodName := ⟨RX6, "failAt", "(I)V"⟩
abbrev cX6_failHere : ByteArray := prog_8_method_7_code
def yX6_failHere : MethodName := ⟨RX6, "failHere", "()V"⟩
abbrev cX6_failAtLast : ByteArray := prog_8_method_8_code
def yX6_failAtLast : MethodName := ⟨RX6, "failAtLast", "()V"⟩
abbrev cX6_peek : ByteArray := prog_8_method_9_code
def yX6_peek : MethodName := ⟨RX6, "peek", "()I"⟩
abbrev cX6_sees : ByteArray := prog_8_method_10_code
def yX6_sees : MethodName := ⟨RX6, "sees", "(I)Z"⟩
abbrev cX6_seesDigit : ByteArray := prog_8_method_11_code
def yX6_seesDigit : MethodName := ⟨RX6, "seesDigit", "()Z"⟩
abbrev cX6_next : ByteArray := prog_8_method_12_code
def yX6_next : MethodName := ⟨RX6, "next", "()I"⟩
abbrev cX6_skip : ByteArray := prog_8_method_13_code
def yX6_skip : MethodName := ⟨RX6, "skip", "(I)Z"⟩
abbrev cX6_need : ByteArray := prog_8_method_14_code
def yX6_need : MethodName := ⟨RX6, "need", "(I)V"⟩
abbrev cX6_digit : ByteArray := prog_8_method_15_code
def yX6_digit : MethodName := ⟨RX6, "digit", "()I"⟩
abbrev cX6_number : ByteArray := prog_8_method_16_code
def yX6_number : MethodName := ⟨RX6, "number", "(I)I"⟩
def RX7 : String := "JarsThatLeak$State"
def TX7 : u_T := fun k => match k with
  | 0 => ("JarsThatLeak$State", "drops", "[I", true)
  | 1 => ("JarsThatLeak$State", "oldest", "[I", true)
  | 2 => ("JarsThatLeak$State", "level", "[I", true)
  | 3 => ("JarsThatLeak$State", "wax", "[I", true)
  | 4 => ("JarsThatLeak$State", "hole", "[I", true)
  | 5 => ("JarsThatLeak$State", "below", "[I", true)
  | 6 => ("JarsThatLeak$State", "debt", "[I", true)
  | 7 => ("JarsThatLeak$State", "sand", "[I", true)
  | 8 => ("JarsThatLeak$State", "bells", "I", false)
  | _ => ("JarsThatLeak$State", "waxSet", "Z", false)
def tyX7 : Nat → FieldType := fun k => match k with
  | 0 => .array .int
  | 1 => .array .int
  | 2 => .array .int
  | 3 => .array .int
  | 4 => .array .int
  | 5 => .array .int
  | 6 => .array .int
  | 7 => .array .int
  | 8 => .int
  | _ => .boolean
theorem nmX7 : ∀ a, a < 10 → ∀ b, b < 10 → a ≠ b → (TX7 a).2.1 ≠ (TX7 b).2.1 := by decide +kernel
theorem tyX7_ok : ∀ k, k < 10 → parseFieldDescriptor (TX7 k).2.2.1 = some (tyX7 k) := by decide +kernel
abbrev cX7_init : ByteArray := prog_9_method_1_code
def yX7_init : MethodName := ⟨RX7, "<init>", "()V"⟩
abbrev cX7_copyWater : ByteArray := prog_9_method_2_code
def yX7_copyWater : MethodName := ⟨RX7, "copyWater", "(LJarsThatLeak$State;)V"⟩
abbrev cX7_copyPipes : ByteArray := prog_9_method_3_code
def yX7_copyPipes : MethodName := ⟨RX7, "copyPipes", "(LJarsThatLeak$State;)V"⟩
abbrev cX7_placeOf : ByteArray := prog_9_method_4_code
def yX7_placeOf : MethodName := ⟨RX7, "placeOf", "(II)I"⟩
abbrev cX7_originAt : ByteArray := prog_9_method_5_code
def yX7_originAt : MethodName := ⟨RX7, "originAt", "(II)I"⟩
abbrev cX7_putBehind : ByteArray := prog_9_method_6_code
def yX7_putBehind : MethodName := ⟨RX7, "putBehind", "(II)V"⟩
abbrev cX7_takeOldest : ByteArray := prog_9_method_7_code
def yX7_takeOldest : MethodName := ⟨RX7, "takeOldest", "(I)I"⟩
abbrev cX7_dropsFrom : ByteArray := prog_9_method_8_code
def yX7_dropsFrom : MethodName := ⟨RX7, "dropsFrom", "(III)I"⟩
abbrev cX7_mark : ByteArray := prog_9_method_9_code
def yX7_mark : MethodName := ⟨RX7, "mark", "(II)V"⟩
abbrev cX7_lost : ByteArray := prog_9_method_10_code
def yX7_lost : MethodName := ⟨RX7, "lost", "()I"⟩
abbrev cX7_owedBy : ByteArray := prog_9_method_11_code
def yX7_owedBy : MethodName := ⟨RX7, "owedBy", "(I)I"⟩
abbrev cX7_owedByAll : ByteArray := prog_9_method_12_code
def yX7_owedByAll : MethodName := ⟨RX7, "owedByAll", "()I"⟩
abbrev cX7_setOff : ByteArray := prog_9_method_13_code
def yX7_setOff : MethodName := ⟨RX7, "setOff", "(II)V"⟩
abbrev cX7_passOn : ByteArray := prog_9_method_14_code
def yX7_passOn : MethodName := ⟨RX7, "passOn", "(III)V"⟩
def RX8 : String := "JarsThatLeak$Steps"
def TX8 : u_T := fun k => match k with
  | 0 => ("JarsThatLeak$Steps", "kind", "[I", true)
  | 1 => ("JarsThatLeak$Steps", "first", "[I", true)
  | 2 => ("JarsThatLeak$Steps", "second", "[I", true)
  | 3 => ("JarsThatLeak$Steps", "number", "[I", true)
  | _ => ("JarsThatLeak$Steps", "count", "I", false)
def tyX8 : Nat → FieldType := fun k => match k with
  | 0 => .array .int
  | 1 => .array .int
  | 2 => .array .int
  | 3 => .array .int
  | _ => .int
theorem nmX8 : ∀ a, a < 5 → ∀ b, b < 5 → a ≠ b → (TX8 a).2.1 ≠ (TX8 b).2.1 := by decide +kernel
theorem tyX8_ok : ∀ k, k < 5 → parseFieldDescriptor (TX8 k).2.2.1 = some (tyX8 k) := by decide +kernel
abbrev cX8_init : ByteArray := prog_10_method_1_code
def yX8_init : MethodName := ⟨RX8, "<init>", "()V"⟩
abbrev cX8_read : ByteArray := prog_10_method_2_code
def yX8_read : MethodName := ⟨RX8, "read", "(LJarsThatLeak$Signs;)I"⟩
abbrev cX8_readStep : ByteArray := prog_10_method_3_code
def yX8_readStep : MethodName := ⟨RX8, "readStep", "(LJarsThatLeak$Signs;)V"⟩
def RX9 : String := "JarsThatLeak$Town"
def TX9 : u_T := fun k => match k with
  | 0 => ("JarsThatLeak$Town", "holds", "[I", true)
  | 1 => ("JarsThatLeak$Town", "owner", "[I", true)
  | 2 => ("JarsThatLeak$Town", "height", "[I", true)
  | _ => ("JarsThatLeak$Town", "count", "I", false)
def tyX9 : Nat → FieldType := fun k => match k with
  | 0 => .array .int
  | 1 => .array .int
  | 2 => .array .int
  | _ => .int
theorem nmX9 : ∀ a, a < 4 → ∀ b, b < 4 → a ≠ b → (TX9 a).2.1 ≠ (TX9 b).2.1 := by decide +kernel
theorem tyX9_ok : ∀ k, k < 4 → parseFieldDescriptor (TX9 k).2.2.1 = some (tyX9 k) := by decide +kernel
abbrev cX9_init : ByteArray := prog_11_method_1_code
def yX9_init : MethodName := ⟨RX9, "<init>", "()V"⟩
def RX10 : String := "JarsThatLeak$TownText"
def TX10 : u_T := fun k => match k with
  | 0 => ("JarsThatLeak$TownText", "text", "LJarsThatLeak$Signs;", true)
  | 1 => ("JarsThatLeak$TownText", "town", "LJarsThatLeak$Town;", true)
  | 2 => ("JarsThatLeak$TownText", "state", "LJarsThatLeak$State;", true)
  | 3 => ("JarsThatLeak$TownText", "debt", "[I", true)
  | _ => ("JarsThatLeak$TownText", "jars", "I", false)
def tyX10 : Nat → FieldType := fun k => match k with
  | 0 => .object "JarsThatLeak$Signs"
  | 1 => .object "JarsThatLeak$Town"
  | 2 => .object "JarsThatLeak$State"
  | 3 => .array .int
  | _ => .int
theorem nmX10 : ∀ a, a < 5 → ∀ b, b < 5 → a ≠ b → (TX10 a).2.1 ≠ (TX10 b).2.1 := by decide +kernel
theorem tyX10_ok : ∀ k, k < 5 → parseFieldDescriptor (TX10 k).2.2.1 = some (tyX10 k) := by decide +kernel
abbrev cX10_init : ByteArray := prog_12_method_1_code
def yX10_init : MethodName := ⟨RX10, "<init>", "(LJarsThatLeak$Signs;LJarsThatLeak$Town;LJarsThatLeak$State;)V"⟩
abbrev cX10_read : ByteArray := prog_12_method_2_code
def yX10_read : MethodName := ⟨RX10, "read", "()I"⟩
abbrev cX10_letIn : ByteArray := prog_12_method_3_code
def yX10_letIn : MethodName := ⟨RX10, "letIn", "()V"⟩
abbrev cX10_readLine : ByteArray := prog_12_method_4_code
def yX10_readLine : MethodName := ⟨RX10, "readLine", "()V"⟩
abbrev cX10_readDebt : ByteArray := prog_12_method_5_code
def yX10_readDebt : MethodName := ⟨RX10, "readDebt", "()V"⟩
abbrev cX10_readOwner : ByteArray := prog_12_method_6_code
def yX10_readOwner : MethodName := ⟨RX10, "readOwner", "()I"⟩
abbrev cX10_readJar : ByteArray := prog_12_method_7_code
def yX10_readJar : MethodName := ⟨RX10, "readJar", "()V"⟩
abbrev cX10_readBelow : ByteArray := prog_12_method_8_code
def yX10_readBelow : MethodName := ⟨RX10, "readBelow", "(I)I"⟩
abbrev cX10_fill : ByteArray := prog_12_method_9_code
def yX10_fill : MethodName := ⟨RX10, "fill", "(II)V"⟩
def RX11 : String := "JarsThatLeak"
def TX11 : u_T := fun k => match k with
  | 0 => ("JarsThatLeak", "town", "LJarsThatLeak$Town;", true)
  | 1 => ("JarsThatLeak", "now", "LJarsThatLeak$State;", true)
  | 2 => ("JarsThatLeak", "trial", "LJarsThatLeak$State;", true)
  | 3 => ("JarsThatLeak", "clock", "LJarsThatLeak$Clock;", true)
  | 4 => ("JarsThatLeak", "flow", "LJarsThatLeak$Flow;", true)
  | 5 => ("JarsThatLeak", "past", "LJarsThatLeak$Past;", true)
  | 6 => ("JarsThatLeak", "kept", "[LJarsThatLeak$State;", true)
  | 7 => ("JarsThatLeak", "keptJars", "[I", true)
  | 8 => ("JarsThatLeak", "text", "LJarsThatLeak$Signs;", true)
  | 9 => ("JarsThatLeak", "townText", "LJarsThatLeak$TownText;", true)
  | 10 => ("JarsThatLeak", "lawText", "LJarsThatLeak$Law;", true)
  | 11 => ("JarsThatLeak", "steps", "LJarsThatLeak$Steps;", true)
  | 12 => ("JarsThatLeak", "sightings", "LJarsThatLeak$Sightings;", true)
  | 13 => ("JarsThatLeak", "payments", "LJarsThatLeak$Payments;", true)
  | 14 => ("JarsThatLeak", "wayLevels", "[I", true)
  | 15 => ("JarsThatLeak", "told", "[I", true)
  | _ => ("JarsThatLeak", "toldLength", "I", false)
def tyX11 : Nat → FieldType := fun k => match k with
  | 0 => .object "JarsThatLeak$Town"
  | 1 => .object "JarsThatLeak$State"
  | 2 => .object "JarsThatLeak$State"
  | 3 => .object "JarsThatLeak$Clock"
  | 4 => .object "JarsThatLeak$Flow"
  | 5 => .object "JarsThatLeak$Past"
  | 6 => .array (.object "JarsThatLeak$State")
  | 7 => .array .int
  | 8 => .object "JarsThatLeak$Signs"
  | 9 => .object "JarsThatLeak$TownText"
  | 10 => .object "JarsThatLeak$Law"
  | 11 => .object "JarsThatLeak$Steps"
  | 12 => .object "JarsThatLeak$Sightings"
  | 13 => .object "JarsThatLeak$Payments"
  | 14 => .array .int
  | 15 => .array .int
  | _ => .int
theorem nmX11 : ∀ a, a < 17 → ∀ b, b < 17 → a ≠ b → (TX11 a).2.1 ≠ (TX11 b).2.1 := by decide +kernel
theorem tyX11_ok : ∀ k, k < 17 → parseFieldDescriptor (TX11 k).2.2.1 = some (tyX11 k) := by decide +kernel
abbrev cX11_init : ByteArray := prog_1_method_1_code
def yX11_init : MethodName := ⟨RX11, "<init>", "()V"⟩
abbrev cX11_sign : ByteArray := prog_1_method_2_code
def yX11_sign : MethodName := ⟨RX11, "sign", "(I)I"⟩
abbrev cX11_end : ByteArray := prog_1_method_3_code
def yX11_end : MethodName := ⟨RX11, "end", "(I)Z"⟩
abbrev cX11_town : ByteArray := prog_1_method_4_code
def yX11_town : MethodName := ⟨RX11, "town", "()I"⟩
abbrev cX11_law : ByteArray := prog_1_method_5_code
def yX11_law : MethodName := ⟨RX11, "law", "()I"⟩
abbrev cX11_jar : ByteArray := prog_1_method_6_code
def yX11_jar : MethodName := ⟨RX11, "jar", "(II)I"⟩
abbrev cX11_hole : ByteArray := prog_1_method_7_code
def yX11_hole : MethodName := ⟨RX11, "hole", "(II)I"⟩
abbrev cX11_below : ByteArray := prog_1_method_8_code
def yX11_below : MethodName := ⟨RX11, "below", "(II)Z"⟩
abbrev cX11_sheet : ByteArray := prog_1_method_9_code
def yX11_sheet : MethodName := ⟨RX11, "sheet", "(IIII)I"⟩
abbrev cX11_sheetEntry : ByteArray := prog_1_method_10_code
def yX11_sheetEntry : MethodName := ⟨RX11, "sheetEntry", "(II)I"⟩
abbrev cX11_spring : ByteArray := prog_1_method_11_code
def yX11_spring : MethodName := ⟨RX11, "spring", "(III)I"⟩
abbrev cX11_pour : ByteArray := prog_1_method_12_code
def yX11_pour : MethodName := ⟨RX11, "pour", "(III)I"⟩
abbrev cX11_wax : ByteArray := prog_1_method_13_code
def yX11_wax : MethodName := ⟨RX11, "wax", "(II)Z"⟩
abbrev cX11_bells : ByteArray := prog_1_method_14_code
def yX11_bells : MethodName := ⟨RX11, "bells", "(I)I"⟩
abbrev cX11_undo : ByteArray := prog_1_method_15_code
def yX11_undo : MethodName := ⟨RX11, "undo", "()I"⟩
abbrev cX11_judge : ByteArray := prog_1_method_16_code
def yX11_judge : MethodName := ⟨RX11, "judge", "(IIII)I"⟩
abbrev cX11_judgeOne : ByteArray := prog_1_method_17_code
def yX11_judgeOne : MethodName := ⟨RX11, "judgeOne", "(I)I"⟩
abbrev cX11_order : ByteArray := prog_1_method_18_code
def yX11_order : MethodName := ⟨RX11, "order", "()I"⟩
abbrev cX11_doStep : ByteArray := prog_1_method_19_code
def yX11_doStep : MethodName := ⟨RX11, "doStep", "(I)Z"⟩
abbrev cX11_owes : ByteArray := prog_1_method_20_code
def yX11_owes : MethodName := ⟨RX11, "owes", "(II)I"⟩
abbrev cX11_rest : ByteArray := prog_1_method_21_code
def yX11_rest : MethodName := ⟨RX11, "rest", "()I"⟩
abbrev cX11_dry : ByteArray := prog_1_method_22_code
def yX11_dry : MethodName := ⟨RX11, "dry", "(I)I"⟩
abbrev cX11_later : ByteArray := prog_1_method_23_code
def yX11_later : MethodName := ⟨RX11, "later", "(II)I"⟩
abbrev cX11_flood : ByteArray := prog_1_method_24_code
def yX11_flood : MethodName := ⟨RX11, "flood", "(II)I"⟩
abbrev cX11_above : ByteArray := prog_1_method_25_code
def yX11_above : MethodName := ⟨RX11, "above", "(I)I"⟩
abbrev cX11_bitsAbove : ByteArray := prog_1_method_26_code
def yX11_bitsAbove : MethodName := ⟨RX11, "bitsAbove", "(I)I"⟩
abbrev cX11_least : ByteArray := prog_1_method_27_code
def yX11_least : MethodName := ⟨RX11, "least", "(IIII)I"⟩
abbrev cX11_stops : ByteArray := prog_1_method_28_code
def yX11_stops : MethodName := ⟨RX11, "stops", "(III)I"⟩
abbrev cX11_saves : ByteArray := prog_1_method_29_code
def yX11_saves : MethodName := ⟨RX11, "saves", "(II)I"⟩
abbrev cX11_worthStopping : ByteArray := prog_1_method_30_code
def yX11_worthStopping : MethodName := ⟨RX11, "worthStopping", "(I)I"⟩
abbrev cX11_isChoice : ByteArray := prog_1_method_31_code
def yX11_isChoice : MethodName := ⟨RX11, "isChoice", "(III)Z"⟩
abbrev cX11_goStopped : ByteArray := prog_1_method_32_code
def yX11_goStopped : MethodName := ⟨RX11, "goStopped", "(II)V"⟩
abbrev cX11_place : ByteArray := prog_1_method_33_code
def yX11_place : MethodName := ⟨RX11, "place", "(II)I"⟩
abbrev cX11_lostWithBelow : ByteArray := prog_1_method_34_code
def yX11_lostWithBelow : MethodName := ⟨RX11, "lostWithBelow", "(III)I"⟩
abbrev cX11_payoff : ByteArray := prog_1_method_35_code
def yX11_payoff : MethodName := ⟨RX11, "payoff", "()I"⟩
abbrev cX11_pays : ByteArray := prog_1_method_36_code
def yX11_pays : MethodName := ⟨RX11, "pays", "(II)I"⟩
abbrev cX11_soonest : ByteArray := prog_1_method_37_code
def yX11_soonest : MethodName := ⟨RX11, "soonest", "(II)I"⟩
abbrev cX11_latest : ByteArray := prog_1_method_38_code
def yX11_latest : MethodName := ⟨RX11, "latest", "(II)I"⟩
abbrev cX11_couldPay : ByteArray := prog_1_method_39_code
def yX11_couldPay : MethodName := ⟨RX11, "couldPay", "(II[I)Z"⟩
abbrev cX11_dropsOf : ByteArray := prog_1_method_40_code
def yX11_dropsOf : MethodName := ⟨RX11, "dropsOf", "(I[I)I"⟩
abbrev cX11_roomOf : ByteArray := prog_1_method_41_code
def yX11_roomOf : MethodName := ⟨RX11, "roomOf", "(I[I)I"⟩
abbrev cX11_settle : ByteArray := prog_1_method_42_code
def yX11_settle : MethodName := ⟨RX11, "settle", "()I"⟩
abbrev cX11_settleFirst : ByteArray := prog_1_method_43_code
def yX11_settleFirst : MethodName := ⟨RX11, "settleFirst", "()Z"⟩
abbrev cX11_share : ByteArray := prog_1_method_44_code
def yX11_share : MethodName := ⟨RX11, "share", "(II)I"⟩
abbrev cX11_cup : ByteArray := prog_1_method_45_code
def yX11_cup : MethodName := ⟨RX11, "cup", "(II)I"⟩
abbrev cX11_spread : ByteArray := prog_1_method_46_code
def yX11_spread : MethodName := ⟨RX11, "spread", "(I)I"⟩
abbrev cX11_comes : ByteArray := prog_1_method_47_code
def yX11_comes : MethodName := ⟨RX11, "comes", "(II)I"⟩
abbrev cX11_marks : ByteArray := prog_1_method_48_code
def yX11_marks : MethodName := ⟨RX11, "marks", "(I)I"⟩
abbrev cX11_tax : ByteArray := prog_1_method_49_code
def yX11_tax : MethodName := ⟨RX11, "tax", "(I)I"⟩
abbrev cX11_drop : ByteArray := prog_1_method_50_code
def yX11_drop : MethodName := ⟨RX11, "drop", "(II)I"⟩
abbrev cX11_seen : ByteArray := prog_1_method_51_code
def yX11_seen : MethodName := ⟨RX11, "seen", "(III)I"⟩
abbrev cX11_forget : ByteArray := prog_1_method_52_code
def yX11_forget : MethodName := ⟨RX11, "forget", "()I"⟩
abbrev cX11_holes : ByteArray := prog_1_method_53_code
def yX11_holes : MethodName := ⟨RX11, "holes", "(I)I"⟩
abbrev cX11_explains : ByteArray := prog_1_method_54_code
def yX11_explains : MethodName := ⟨RX11, "explains", "()I"⟩
abbrev cX11_fitsWithHole : ByteArray := prog_1_method_55_code
def yX11_fitsWithHole : MethodName := ⟨RX11, "fitsWithHole", "(II)Z"⟩
abbrev cX11_looks : ByteArray := prog_1_method_56_code
def yX11_looks : MethodName := ⟨RX11, "looks", "(I)I"⟩
abbrev cX11_findWays : ByteArray := prog_1_method_57_code
def yX11_findWays : MethodName := ⟨RX11, "findWays", "(I)I"⟩
abbrev cX11_waysLike : ByteArray := prog_1_method_58_code
def yX11_waysLike : MethodName := ⟨RX11, "waysLike", "(IIII)I"⟩
abbrev cX11_mostAlike : ByteArray := prog_1_method_59_code
def yX11_mostAlike : MethodName := ⟨RX11, "mostAlike", "(II)I"⟩
abbrev cX11_unlikeLevels : ByteArray := prog_1_method_60_code
def yX11_unlikeLevels : MethodName := ⟨RX11, "unlikeLevels", "(II)I"⟩
abbrev cX11_secret : ByteArray := prog_1_method_61_code
def yX11_secret : MethodName := ⟨RX11, "secret", "()I"⟩
abbrev cX11_keep : ByteArray := prog_1_method_62_code
def yX11_keep : MethodName := ⟨RX11, "keep", "(I)Z"⟩
abbrev cX11_again : ByteArray := prog_1_method_63_code
def yX11_again : MethodName := ⟨RX11, "again", "(I)Z"⟩
abbrev cX11_count : ByteArray := prog_1_method_64_code
def yX11_count : MethodName := ⟨RX11, "count", "(I)I"⟩
abbrev cX11_row : ByteArray := prog_1_method_65_code
def yX11_row : MethodName := ⟨RX11, "row", "(I)I"⟩
abbrev cX11_isJar : ByteArray := prog_1_method_66_code
def yX11_isJar : MethodName := ⟨RX11, "isJar", "(I)Z"⟩
abbrev cX11_isSpan : ByteArray := prog_1_method_67_code
def yX11_isSpan : MethodName := ⟨RX11, "isSpan", "(I)Z"⟩
abbrev cX11_isLevel : ByteArray := prog_1_method_68_code
def yX11_isLevel : MethodName := ⟨RX11, "isLevel", "(I)Z"⟩
abbrev cX11_isOrigin : ByteArray := prog_1_method_69_code
def yX11_isOrigin : MethodName := ⟨RX11, "isOrigin", "(I)Z"⟩
abbrev cX11_areTwoOwners : ByteArray := prog_1_method_70_code
def yX11_areTwoOwners : MethodName := ⟨RX11, "areTwoOwners", "(II)Z"⟩
abbrev cX11_canStandBelow : ByteArray := prog_1_method_71_code
def yX11_canStandBelow : MethodName := ⟨RX11, "canStandBelow", "(II)Z"⟩
abbrev cX11_roomIn : ByteArray := prog_1_method_72_code
def yX11_roomIn : MethodName := ⟨RX11, "roomIn", "(I)I"⟩
abbrev cX11_emptyJars : ByteArray := prog_1_method_73_code
def yX11_emptyJars : MethodName := ⟨RX11, "emptyJars", "()I"⟩
abbrev cX11_levelsInAll : ByteArray := prog_1_method_74_code
def yX11_levelsInAll : MethodName := ⟨RX11, "levelsInAll", "()I"⟩
abbrev cX11_canPour : ByteArray := prog_1_method_75_code
def yX11_canPour : MethodName := ⟨RX11, "canPour", "(LJarsThatLeak$State;III)I"⟩
abbrev cX11_makePouring : ByteArray := prog_1_method_76_code
def yX11_makePouring : MethodName := ⟨RX11, "makePouring", "(LJarsThatLeak$State;III)V"⟩
abbrev cX11_lawOf : ByteArray := prog_1_method_77_code
def yX11_lawOf : MethodName := ⟨RX11, "lawOf", "(I)I"⟩
abbrev cX11_tryAsNow : ByteArray := prog_1_method_78_code
def yX11_tryAsNow : MethodName := ⟨RX11, "tryAsNow", "()V"⟩
abbrev cX11_isQuiet : ByteArray := prog_1_method_79_code
def yX11_isQuiet : MethodName := ⟨RX11, "isQuiet", "(LJarsThatLeak$State;)Z"⟩
abbrev cX11_clearRow : ByteArray := prog_1_method_80_code
def yX11_clearRow : MethodName := ⟨RX11, "clearRow", "()V"⟩
abbrev cX11_tell : ByteArray := prog_1_method_81_code
def yX11_tell : MethodName := ⟨RX11, "tell", "(I)V"⟩
def RX12 : String := "JarsThatLeakModel"
def TX12 : u_T := fun k => match k with
  | 0 => ("JarsThatLeakModel", "jars", "I", false)
  | 1 => ("JarsThatLeakModel", "holds", "[I", true)
  | 2 => ("JarsThatLeakModel", "level", "[I", true)
  | 3 => ("JarsThatLeakModel", "hole", "[I", true)
  | 4 => ("JarsThatLeakModel", "owner", "[I", true)
  | 5 => ("JarsThatLeakModel", "height", "[I", true)
  | 6 => ("JarsThatLeakModel", "under", "[I", true)
  | 7 => ("JarsThatLeakModel", "wax", "[I", true)
  | 8 => ("JarsThatLeakModel", "drops", "[I", true)
  | 9 => ("JarsThatLeakModel", "debts", "[I", true)
  | 10 => ("JarsThatLeakModel", "bells", "I", false)
  | 11 => ("JarsThatLeakModel", "lostAll", "I", false)
  | 12 => ("JarsThatLeakModel", "waxedAt", "I", false)
  | 13 => ("JarsThatLeakModel", "text", "[B", true)
  | 14 => ("JarsThatLeakModel", "typed", "I", false)
  | 15 => ("JarsThatLeakModel", "row", "[I", true)
  | 16 => ("JarsThatLeakModel", "rowMany", "I", false)
  | 17 => ("JarsThatLeakModel", "thrown", "I", false)
  | 18 => ("JarsThatLeakModel", "read", "[B", false)
  | 19 => ("JarsThatLeakModel", "size", "I", false)
  | 20 => ("JarsThatLeakModel", "top", "I", false)
  | 21 => ("JarsThatLeakModel", "at", "I", false)
  | 22 => ("JarsThatLeakModel", "wrong", "I", false)
  | 23 => ("JarsThatLeakModel", "newDebts", "[I", true)
  | 24 => ("JarsThatLeakModel", "law", "[B", true)
  | 25 => ("JarsThatLeakModel", "lawSize", "I", false)
  | 26 => ("JarsThatLeakModel", "askedJar", "I", false)
  | 27 => ("JarsThatLeakModel", "going", "[I", true)
  | 28 => ("JarsThatLeakModel", "onWay", "[I", true)
  | 29 => ("JarsThatLeakModel", "undos", "[I", true)
  | 30 => ("JarsThatLeakModel", "undoMany", "I", false)
  | 31 => ("JarsThatLeakModel", "put", "[I", true)
  | 32 => ("JarsThatLeakModel", "steps", "[I", true)
  | 33 => ("JarsThatLeakModel", "levelOn", "[I", true)
  | 34 => ("JarsThatLeakModel", "waxOn", "[I", true)
  | 35 => ("JarsThatLeakModel", "holeOn", "[I", true)
  | 36 => ("JarsThatLeakModel", "goneOn", "I", false)
  | 37 => ("JarsThatLeakModel", "wetAt", "[I", true)
  | 38 => ("JarsThatLeakModel", "stateIn", "[I", true)
  | 39 => ("JarsThatLeakModel", "depth", "[I", true)
  | 40 => ("JarsThatLeakModel", "parent", "[I", true)
  | 41 => ("JarsThatLeakModel", "act", "[I", true)
  | 42 => ("JarsThatLeakModel", "states", "I", false)
  | 43 => ("JarsThatLeakModel", "table", "[I", true)
  | 44 => ("JarsThatLeakModel", "debtOn", "[I", true)
  | 45 => ("JarsThatLeakModel", "way", "[I", true)
  | 46 => ("JarsThatLeakModel", "inCup", "[I", true)
  | 47 => ("JarsThatLeakModel", "taxed", "[I", true)
  | 48 => ("JarsThatLeakModel", "seen", "[I", true)
  | 49 => ("JarsThatLeakModel", "seenMany", "I", false)
  | 50 => ("JarsThatLeakModel", "levelBy", "[I", true)
  | 51 => ("JarsThatLeakModel", "came", "I", false)
  | 52 => ("JarsThatLeakModel", "kept", "[I", true)
  | 53 => ("JarsThatLeakModel", "isKept", "[Z", true)
  | _ => ("JarsThatLeakModel", "keptCame", "[I", true)
def tyX12 : Nat → FieldType := fun k => match k with
  | 0 => .int
  | 1 => .array .int
  | 2 => .array .int
  | 3 => .array .int
  | 4 => .array .int
  | 5 => .array .int
  | 6 => .array .int
  | 7 => .array .int
  | 8 => .array .int
  | 9 => .array .int
  | 10 => .int
  | 11 => .int
  | 12 => .int
  | 13 => .array .byte
  | 14 => .int
  | 15 => .array .int
  | 16 => .int
  | 17 => .int
  | 18 => .array .byte
  | 19 => .int
  | 20 => .int
  | 21 => .int
  | 22 => .int
  | 23 => .array .int
  | 24 => .array .byte
  | 25 => .int
  | 26 => .int
  | 27 => .array .int
  | 28 => .array .int
  | 29 => .array .int
  | 30 => .int
  | 31 => .array .int
  | 32 => .array .int
  | 33 => .array .int
  | 34 => .array .int
  | 35 => .array .int
  | 36 => .int
  | 37 => .array .int
  | 38 => .array .int
  | 39 => .array .int
  | 40 => .array .int
  | 41 => .array .int
  | 42 => .int
  | 43 => .array .int
  | 44 => .array .int
  | 45 => .array .int
  | 46 => .array .int
  | 47 => .array .int
  | 48 => .array .int
  | 49 => .int
  | 50 => .array .int
  | 51 => .int
  | 52 => .array .int
  | 53 => .array .boolean
  | _ => .array .int
theorem nmX12 : ∀ a, a < 55 → ∀ b, b < 55 → a ≠ b → (TX12 a).2.1 ≠ (TX12 b).2.1 := by decide +kernel
theorem tyX12_ok : ∀ k, k < 55 → parseFieldDescriptor (TX12 k).2.2.1 = some (tyX12 k) := by decide +kernel
abbrev cX12_init : ByteArray := prog_14_method_1_code
def yX12_init : MethodName := ⟨RX12, "<init>", "()V"⟩
abbrev cX12_thrown : ByteArray := prog_14_method_2_code
def yX12_thrown : MethodName := ⟨RX12, "thrown", "()I"⟩
abbrev cX12_in : ByteArray := prog_14_method_3_code
def yX12_in : MethodName := ⟨RX12, "in", "(III)Z"⟩
abbrev cX12_has : ByteArray := prog_14_method_4_code
def yX12_has : MethodName := ⟨RX12, "has", "(II)Z"⟩
abbrev cX12_lost : ByteArray := prog_14_method_5_code
def yX12_lost : MethodName := ⟨RX12, "lost", "()I"⟩
abbrev cX12_tell : ByteArray := prog_14_method_6_code
def yX12_tell : MethodName := ⟨RX12, "tell", "(I)V"⟩
abbrev cX12_isJar : ByteArray := prog_14_method_7_code
def yX12_isJar : MethodName := ⟨RX12, "isJar", "(I)Z"⟩
abbrev cX12_isOwner : ByteArray := prog_14_method_8_code
def yX12_isOwner : MethodName := ⟨RX12, "isOwner", "(I)Z"⟩
abbrev cX12_isOrigin : ByteArray := prog_14_method_9_code
def yX12_isOrigin : MethodName := ⟨RX12, "isOrigin", "(I)Z"⟩
abbrev cX12_areOwners : ByteArray := prog_14_method_10_code
def yX12_areOwners : MethodName := ⟨RX12, "areOwners", "(II)Z"⟩
abbrev cX12_isAhead : ByteArray := prog_14_method_11_code
def yX12_isAhead : MethodName := ⟨RX12, "isAhead", "(I)Z"⟩
abbrev cX12_sign : ByteArray := prog_14_method_12_code
def yX12_sign : MethodName := ⟨RX12, "sign", "(I)I"⟩
abbrev cX12_end : ByteArray := prog_14_method_13_code
def yX12_end : MethodName := ⟨RX12, "end", "(I)Z"⟩
abbrev cX12_begin : ByteArray := prog_14_method_14_code
def yX12_begin : MethodName := ⟨RX12, "begin", "([BII)V"⟩
abbrev cX12_here : ByteArray := prog_14_method_15_code
def yX12_here : MethodName := ⟨RX12, "here", "()I"⟩
abbrev cX12_fine : ByteArray := prog_14_method_16_code
def yX12_fine : MethodName := ⟨RX12, "fine", "()Z"⟩
abbrev cX12_fault : ByteArray := prog_14_method_17_code
def yX12_fault : MethodName := ⟨RX12, "fault", "(I)V"⟩
abbrev cX12_passes : ByteArray := prog_14_method_18_code
def yX12_passes : MethodName := ⟨RX12, "passes", "(C)Z"⟩
abbrev cX12_need : ByteArray := prog_14_method_19_code
def yX12_need : MethodName := ⟨RX12, "need", "(C)V"⟩
abbrev cX12_number : ByteArray := prog_14_method_20_code
def yX12_number : MethodName := ⟨RX12, "number", "(III)I"⟩
abbrev cX12_town : ByteArray := prog_14_method_21_code
def yX12_town : MethodName := ⟨RX12, "town", "()I"⟩
abbrev cX12_readJar : ByteArray := prog_14_method_22_code
def yX12_readJar : MethodName := ⟨RX12, "readJar", "(I)V"⟩
abbrev cX12_held : ByteArray := prog_14_method_23_code
def yX12_held : MethodName := ⟨RX12, "held", "(I)I"⟩
abbrev cX12_sum : ByteArray := prog_14_method_24_code
def yX12_sum : MethodName := ⟨RX12, "sum", "(I)I"⟩
abbrev cX12_product : ByteArray := prog_14_method_25_code
def yX12_product : MethodName := ⟨RX12, "product", "(I)I"⟩
abbrev cX12_thing : ByteArray := prog_14_method_26_code
def yX12_thing : MethodName := ⟨RX12, "thing", "(I)I"⟩
abbrev cX12_letter : ByteArray := prog_14_method_27_code
def yX12_letter : MethodName := ⟨RX12, "letter", "(I)I"⟩
abbrev cX12_owedBy : ByteArray := prog_14_method_28_code
def yX12_owedBy : MethodName := ⟨RX12, "owedBy", "(I)I"⟩
abbrev cX12_law : ByteArray := prog_14_method_29_code
def yX12_law : MethodName := ⟨RX12, "law", "()I"⟩
abbrev cX12_lawFor : ByteArray := prog_14_method_30_code
def yX12_lawFor : MethodName := ⟨RX12, "lawFor", "(I)I"⟩
abbrev cX12_jar : ByteArray := prog_14_method_31_code
def yX12_jar : MethodName := ⟨RX12, "jar", "(II)I"⟩
abbrev cX12_hole : ByteArray := prog_14_method_32_code
def yX12_hole : MethodName := ⟨RX12, "hole", "(II)I"⟩
abbrev cX12_below : ByteArray := prog_14_method_33_code
def yX12_below : MethodName := ⟨RX12, "below", "(II)Z"⟩
abbrev cX12_sheet : ByteArray := prog_14_method_34_code
def yX12_sheet : MethodName := ⟨RX12, "sheet", "(IIII)I"⟩
abbrev cX12_move : ByteArray := prog_14_method_35_code
def yX12_move : MethodName := ⟨RX12, "move", "(III)V"⟩
abbrev cX12_letGo : ByteArray := prog_14_method_36_code
def yX12_letGo : MethodName := ⟨RX12, "letGo", "(II)V"⟩
abbrev cX12_goBell : ByteArray := prog_14_method_37_code
def yX12_goBell : MethodName := ⟨RX12, "goBell", "()I"⟩
abbrev cX12_lay : ByteArray := prog_14_method_38_code
def yX12_lay : MethodName := ⟨RX12, "lay", "([II)V"⟩
abbrev cX12_bring : ByteArray := prog_14_method_39_code
def yX12_bring : MethodName := ⟨RX12, "bring", "([II)V"⟩
abbrev cX12_remember : ByteArray := prog_14_method_40_code
def yX12_remember : MethodName := ⟨RX12, "remember", "()V"⟩
abbrev cX12_spring : ByteArray := prog_14_method_41_code
def yX12_spring : MethodName := ⟨RX12, "spring", "(III)I"⟩
abbrev cX12_refusal : ByteArray := prog_14_method_42_code
def yX12_refusal : MethodName := ⟨RX12, "refusal", "(III)I"⟩
abbrev cX12_make : ByteArray := prog_14_method_43_code
def yX12_make : MethodName := ⟨RX12, "make", "(III)V"⟩
abbrev cX12_pour : ByteArray := prog_14_method_44_code
def yX12_pour : MethodName := ⟨RX12, "pour", "(III)I"⟩
abbrev cX12_wax : ByteArray := prog_14_method_45_code
def yX12_wax : MethodName := ⟨RX12, "wax", "(II)Z"⟩
abbrev cX12_bells : ByteArray := prog_14_method_46_code
def yX12_bells : MethodName := ⟨RX12, "bells", "(I)I"⟩
abbrev cX12_sumOf : ByteArray := prog_14_method_47_code
def yX12_sumOf : MethodName := ⟨RX12, "sumOf", "([I)I"⟩
abbrev cX12_allDebts : ByteArray := prog_14_method_48_code
def yX12_allDebts : MethodName := ⟨RX12, "allDebts", "()I"⟩
abbrev cX12_undo : ByteArray := prog_14_method_49_code
def yX12_undo : MethodName := ⟨RX12, "undo", "()I"⟩
abbrev cX12_judge : ByteArray := prog_14_method_50_code
def yX12_judge : MethodName := ⟨RX12, "judge", "(IIII)I"⟩
abbrev cX12_order : ByteArray := prog_14_method_51_code
def yX12_order : MethodName := ⟨RX12, "order", "()I"⟩
abbrev cX12_goStep : ByteArray := prog_14_method_52_code
def yX12_goStep : MethodName := ⟨RX12, "goStep", "(I)Z"⟩
abbrev cX12_owes : ByteArray := prog_14_method_53_code
def yX12_owes : MethodName := ⟨RX12, "owes", "(II)I"⟩
abbrev cX12_begin_ : ByteArray := prog_14_method_54_code
def yX12_begin_ : MethodName := ⟨RX12, "begin", "()V"⟩
abbrev cX12_goOn : ByteArray := prog_14_method_55_code
def yX12_goOn : MethodName := ⟨RX12, "goOn", "()I"⟩
abbrev cX12_goOn_ : ByteArray := prog_14_method_56_code
def yX12_goOn_ : MethodName := ⟨RX12, "goOn", "(I)I"⟩
abbrev cX12_isMoving : ByteArray := prog_14_method_57_code
def yX12_isMoving : MethodName := ⟨RX12, "isMoving", "()Z"⟩
abbrev cX12_rest : ByteArray := prog_14_method_58_code
def yX12_rest : MethodName := ⟨RX12, "rest", "()I"⟩
abbrev cX12_dry : ByteArray := prog_14_method_59_code
def yX12_dry : MethodName := ⟨RX12, "dry", "(I)I"⟩
abbrev cX12_levelIn : ByteArray := prog_14_method_60_code
def yX12_levelIn : MethodName := ⟨RX12, "levelIn", "(II)I"⟩
abbrev cX12_later : ByteArray := prog_14_method_61_code
def yX12_later : MethodName := ⟨RX12, "later", "(II)I"⟩
abbrev cX12_flood : ByteArray := prog_14_method_62_code
def yX12_flood : MethodName := ⟨RX12, "flood", "(II)I"⟩
abbrev cX12_above : ByteArray := prog_14_method_63_code
def yX12_above : MethodName := ⟨RX12, "above", "(I)I"⟩
abbrev cX12_least : ByteArray := prog_14_method_64_code
def yX12_least : MethodName := ⟨RX12, "least", "(IIII)I"⟩
abbrev cX12_goStopped : ByteArray := prog_14_method_65_code
def yX12_goStopped : MethodName := ⟨RX12, "goStopped", "(II)I"⟩
abbrev cX12_stops : ByteArray := prog_14_method_66_code
def yX12_stops : MethodName := ⟨RX12, "stops", "(III)I"⟩
abbrev cX12_saves : ByteArray := prog_14_method_67_code
def yX12_saves : MethodName := ⟨RX12, "saves", "(II)I"⟩
abbrev cX12_place : ByteArray := prog_14_method_68_code
def yX12_place : MethodName := ⟨RX12, "place", "(II)I"⟩
abbrev cX12_load : ByteArray := prog_14_method_69_code
def yX12_load : MethodName := ⟨RX12, "load", "(I)V"⟩
abbrev cX12_isState : ByteArray := prog_14_method_70_code
def yX12_isState : MethodName := ⟨RX12, "isState", "(I)Z"⟩
abbrev cX12_addState : ByteArray := prog_14_method_71_code
def yX12_addState : MethodName := ⟨RX12, "addState", "(II)Z"⟩
abbrev cX12_isPaid : ByteArray := prog_14_method_72_code
def yX12_isPaid : MethodName := ⟨RX12, "isPaid", "()Z"⟩
abbrev cX12_owedBetween : ByteArray := prog_14_method_73_code
def yX12_owedBetween : MethodName := ⟨RX12, "owedBetween", "(II)I"⟩
abbrev cX12_payoff : ByteArray := prog_14_method_74_code
def yX12_payoff : MethodName := ⟨RX12, "payoff", "()I"⟩
abbrev cX12_dropsOf : ByteArray := prog_14_method_75_code
def yX12_dropsOf : MethodName := ⟨RX12, "dropsOf", "(I)I"⟩
abbrev cX12_roomOf : ByteArray := prog_14_method_76_code
def yX12_roomOf : MethodName := ⟨RX12, "roomOf", "(I)I"⟩
abbrev cX12_canPay : ByteArray := prog_14_method_77_code
def yX12_canPay : MethodName := ⟨RX12, "canPay", "(II)Z"⟩
abbrev cX12_pays : ByteArray := prog_14_method_78_code
def yX12_pays : MethodName := ⟨RX12, "pays", "(II)I"⟩
abbrev cX12_soonest : ByteArray := prog_14_method_79_code
def yX12_soonest : MethodName := ⟨RX12, "soonest", "(II)I"⟩
abbrev cX12_latest : ByteArray := prog_14_method_80_code
def yX12_latest : MethodName := ⟨RX12, "latest", "(II)I"⟩
abbrev cX12_setOff : ByteArray := prog_14_method_81_code
def yX12_setOff : MethodName := ⟨RX12, "setOff", "(II)V"⟩
abbrev cX12_settleOne : ByteArray := prog_14_method_82_code
def yX12_settleOne : MethodName := ⟨RX12, "settleOne", "()Z"⟩
abbrev cX12_settle : ByteArray := prog_14_method_83_code
def yX12_settle : MethodName := ⟨RX12, "settle", "()I"⟩
abbrev cX12_shareOf : ByteArray := prog_14_method_84_code
def yX12_shareOf : MethodName := ⟨RX12, "shareOf", "(II)I"⟩
abbrev cX12_share : ByteArray := prog_14_method_85_code
def yX12_share : MethodName := ⟨RX12, "share", "(II)I"⟩
abbrev cX12_cup : ByteArray := prog_14_method_86_code
def yX12_cup : MethodName := ⟨RX12, "cup", "(II)I"⟩
abbrev cX12_spread : ByteArray := prog_14_method_87_code
def yX12_spread : MethodName := ⟨RX12, "spread", "(I)I"⟩
abbrev cX12_comes : ByteArray := prog_14_method_88_code
def yX12_comes : MethodName := ⟨RX12, "comes", "(II)I"⟩
abbrev cX12_isMovingNow : ByteArray := prog_14_method_89_code
def yX12_isMovingNow : MethodName := ⟨RX12, "isMovingNow", "()Z"⟩
abbrev cX12_marks : ByteArray := prog_14_method_90_code
def yX12_marks : MethodName := ⟨RX12, "marks", "(I)I"⟩
abbrev cX12_tax : ByteArray := prog_14_method_91_code
def yX12_tax : MethodName := ⟨RX12, "tax", "(I)I"⟩
abbrev cX12_drop : ByteArray := prog_14_method_92_code
def yX12_drop : MethodName := ⟨RX12, "drop", "(II)I"⟩
abbrev cX12_seen : ByteArray := prog_14_method_93_code
def yX12_seen : MethodName := ⟨RX12, "seen", "(III)I"⟩
abbrev cX12_forget : ByteArray := prog_14_method_94_code
def yX12_forget : MethodName := ⟨RX12, "forget", "()I"⟩
abbrev cX12_isSo : ByteArray := prog_14_method_95_code
def yX12_isSo : MethodName := ⟨RX12, "isSo", "()Z"⟩
abbrev cX12_isSoWith : ByteArray := prog_14_method_96_code
def yX12_isSoWith : MethodName := ⟨RX12, "isSoWith", "(II)Z"⟩
abbrev cX12_holes : ByteArray := prog_14_method_97_code
def yX12_holes : MethodName := ⟨RX12, "holes", "(I)I"⟩
abbrev cX12_explains : ByteArray := prog_14_method_98_code
def yX12_explains : MethodName := ⟨RX12, "explains", "()I"⟩
abbrev cX12_looks : ByteArray := prog_14_method_99_code
def yX12_looks : MethodName := ⟨RX12, "looks", "(I)I"⟩
abbrev cX12_secret : ByteArray := prog_14_method_100_code
def yX12_secret : MethodName := ⟨RX12, "secret", "()I"⟩
abbrev cX12_keep : ByteArray := prog_14_method_101_code
def yX12_keep : MethodName := ⟨RX12, "keep", "(I)Z"⟩
abbrev cX12_again : ByteArray := prog_14_method_102_code
def yX12_again : MethodName := ⟨RX12, "again", "(I)Z"⟩
abbrev cX12_count : ByteArray := prog_14_method_103_code
def yX12_count : MethodName := ⟨RX12, "count", "(I)I"⟩
abbrev cX12_row : ByteArray := prog_14_method_104_code
def yX12_row : MethodName := ⟨RX12, "row", "(I)I"⟩
def RJ6 : String := "java/lang/Integer"
def TJ6 : u_T := fun k => match k with
  | _ => ("", "", "", false)
def tyJ6 : Nat → FieldType := fun k => match k with
  | _ => .int
theorem nmJ6 : ∀ a, a < 0 → ∀ b, b < 0 → a ≠ b → (TJ6 a).2.1 ≠ (TJ6 b).2.1 := by decide +kernel
theorem tyJ6_ok : ∀ k, k < 0 → parseFieldDescriptor (TJ6 k).2.2.1 = some (tyJ6 k) := by decide +kernel
abbrev cJ6_bitCount_0f7a4 : ByteArray := prog_17_method_49_code
def yJ6_bitCount_0f7a4 : MethodName := ⟨RJ6, "bitCount", "(I)I"⟩
def RJ9 : String := "java/lang/Math"
def TJ9 : u_T := fun k => match k with
  | _ => ("", "", "", false)
def tyJ9 : Nat → FieldType := fun k => match k with
  | _ => .int
theorem nmJ9 : ∀ a, a < 0 → ∀ b, b < 0 → a ≠ b → (TJ9 a).2.1 ≠ (TJ9 b).2.1 := by decide +kernel
theorem tyJ9_ok : ∀ k, k < 0 → parseFieldDescriptor (TJ9 k).2.2.1 = some (tyJ9 k) := by decide +kernel
abbrev cJ9_max_7cf53 : ByteArray := prog_18_method_65_code
def yJ9_max_7cf53 : MethodName := ⟨RJ9, "max", "(II)I"⟩
abbrev cJ9_min_7cf53 : ByteArray := prog_18_method_69_code
def yJ9_min_7cf53 : MethodName := ⟨RJ9, "min", "(II)I"⟩
def RJ0 : String := "java/lang/String"
def TJ0 : u_T := fun k => match k with
  | _ => ("", "", "", false)
def tyJ0 : Nat → FieldType := fun k => match k with
  | _ => .int
theorem nmJ0 : ∀ a, a < 0 → ∀ b, b < 0 → a ≠ b → (TJ0 a).2.1 ≠ (TJ0 b).2.1 := by decide +kernel
theorem tyJ0_ok : ∀ k, k < 0 → parseFieldDescriptor (TJ0 k).2.2.1 = some (tyJ0 k) := by decide +kernel
def RJ10 : String := "java/lang/System"
def TJ10 : u_T := fun k => match k with
  | _ => ("", "", "", false)
def tyJ10 : Nat → FieldType := fun k => match k with
  | _ => .int
theorem nmJ10 : ∀ a, a < 0 → ∀ b, b < 0 → a ≠ b → (TJ10 a).2.1 ≠ (TJ10 b).2.1 := by decide +kernel
theorem tyJ10_ok : ∀ k, k < 0 → parseFieldDescriptor (TJ10 k).2.2.1 = some (tyJ10 k) := by decide +kernel
def RJ7 : String := "java/util/Arrays"
def TJ7 : u_T := fun k => match k with
  | _ => ("", "", "", false)
def tyJ7 : Nat → FieldType := fun k => match k with
  | _ => .int
theorem nmJ7 : ∀ a, a < 0 → ∀ b, b < 0 → a ≠ b → (TJ7 a).2.1 ≠ (TJ7 b).2.1 := by decide +kernel
theorem tyJ7_ok : ∀ k, k < 0 → parseFieldDescriptor (TJ7 k).2.2.1 = some (tyJ7 k) := by decide +kernel
abbrev cJ7_fill_53178 : ByteArray := prog_23_method_103_code
def yJ7_fill_53178 : MethodName := ⟨RJ7, "fill", "([II)V"⟩
def RL : String := "JarsThatLeakLaw"
abbrev cL_jar : ByteArray := method_3_code
def yL_jar : MethodName := ⟨RL, "jar", "(LJarsThatLeak;II[J)I"⟩
abbrev cL_row : ByteArray := method_4_code
def yL_row : MethodName := ⟨RL, "row", "(LJarsThatLeak;I[J)I"⟩
abbrev cL_law : ByteArray := code
def yL_law : MethodName := ⟨RL, "law", "([I)Z"⟩
abbrev q_cl : List vw_C := [(RX0, TX0, 3), (RX1, TX1, 9), (RX2, TX2, 6), (RX3, TX3, 3), (RX4, TX4, 6), (RX5, TX5, 4), (RX6, TX6, 5), (RX7, TX7, 10), (RX8, TX8, 5), (RX9, TX9, 4), (RX10, TX10, 5), (RX11, TX11, 17), (RX12, TX12, 55)]
/-- the words that every method has beside its own code -/
def q_TB : List Cond := lw_tbl.filter goodWord
theorem q_good {w : Cond} (h : w ∈ q_TB) : (w.onTables && w.keeps) = true ∨ ∃ ty, w = .arrayClass ty := good_of_word (List.mem_filter.mp h).2
theorem q_tb {w : Cond} (h : w ∈ tables_1) (g : goodWord w = true) : w ∈ q_TB := List.mem_filter.mpr ⟨List.mem_append_right _ h, g⟩
theorem q_tp {w : Cond} (h : w ∈ k2_sels lw_privs) (g : goodWord w = true) : w ∈ q_TB := List.mem_filter.mpr ⟨List.mem_append_left _ h, g⟩
theorem q_t1 {w : Cond} (h : w ∈ tables_1_1) (g : goodWord w = true) : w ∈ q_TB := q_tb (List.mem_append_left _ h) g
theorem q_t2 {w : Cond} (h : w ∈ tables_1_2) (g : goodWord w = true) : w ∈ q_TB := q_tb (List.mem_append_right _ (List.mem_append_left _ h)) g
theorem q_t3 {w : Cond} (h : w ∈ tables_1_3) (g : goodWord w = true) : w ∈ q_TB := q_tb (List.mem_append_right _ (List.mem_append_right _ (List.mem_append_left _ h))) g
theorem q_t4 {w : Cond} (h : w ∈ tables_1_4) (g : goodWord w = true) : w ∈ q_TB := q_tb (List.mem_append_right _ (List.mem_append_right _ (List.mem_append_right _ (List.mem_append_left _ h)))) g
theorem q_t5 {w : Cond} (h : w ∈ tables_1_5) (g : goodWord w = true) : w ∈ q_TB := q_tb (List.mem_append_right _ (List.mem_append_right _ (List.mem_append_right _ (List.mem_append_right _ (List.mem_append_left _ h))))) g
theorem q_t6 {w : Cond} (h : w ∈ tables_1_6) (g : goodWord w = true) : w ∈ q_TB := q_tb (List.mem_append_right _ (List.mem_append_right _ (List.mem_append_right _ (List.mem_append_right _ (List.mem_append_right _ (List.mem_append_left _ h)))))) g
theorem q_t7 {w : Cond} (h : w ∈ tables_1_7) (g : goodWord w = true) : w ∈ q_TB := q_tb (List.mem_append_right _ (List.mem_append_right _ (List.mem_append_right _ (List.mem_append_right _ (List.mem_append_right _ (List.mem_append_right _ (List.mem_append_left _ h))))))) g
theorem q_t8 {w : Cond} (h : w ∈ tables_1_8) (g : goodWord w = true) : w ∈ q_TB := q_tb (List.mem_append_right _ (List.mem_append_right _ (List.mem_append_right _ (List.mem_append_right _ (List.mem_append_right _ (List.mem_append_right _ (List.mem_append_right _ (h)))))))) g
