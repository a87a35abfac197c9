section
def lw_okq (q : MethodName × Nat) : Prop := (q.1.cls ≠ "java/lang/invoke/MethodHandle" ∧ q.1.cls ≠ "java/lang/invoke/VarHandle") ∧ Cond.instantiable q.1.cls q.2 ∈ tables_1 ∧ Cond.privateMethod q.1 ∈ tables_1 ∧ Cond.instanceMethod q.1 ∈ tables_1
theorem lw_p0 : lw_okq (⟨"RailOfHeads", "finding", "(I)I"⟩, 10) := ⟨⟨by decide +kernel, by decide +kernel⟩, List.mem_of_getElem? (i := 19) (by decide +kernel), List.mem_of_getElem? (i := 345) (by decide +kernel), List.mem_of_getElem? (i := 346) (by decide +kernel)⟩
theorem lw_p1 : lw_okq (⟨"RailOfHeads", "unfound", "(I)I"⟩, 10) := ⟨⟨by decide +kernel, by decide +kernel⟩, List.mem_of_getElem? (i := 19) (by decide +kernel), List.mem_of_getElem? (i := 357) (by decide +kernel), List.mem_of_getElem? (i := 358) (by decide +kernel)⟩
theorem lw_p2 : lw_okq (⟨"RailOfHeads$Reader", "advance", "()V"⟩, 8) := ⟨⟨by decide +kernel, by decide +kernel⟩, List.mem_of_getElem? (i := 29) (by decide +kernel), List.mem_of_getElem? (i := 408) (by decide +kernel), List.mem_of_getElem? (i := 409) (by decide +kernel)⟩
theorem lw_p3 : lw_okq (⟨"RailOfHeads$Reader", "passName", "()V"⟩, 8) := ⟨⟨by decide +kernel, by decide +kernel⟩, List.mem_of_getElem? (i := 29) (by decide +kernel), List.mem_of_getElem? (i := 413) (by decide +kernel), List.mem_of_getElem? (i := 414) (by decide +kernel)⟩
theorem lw_p4 : lw_okq (⟨"RailOfHeads$Reader", "passNumber", "()V"⟩, 8) := ⟨⟨by decide +kernel, by decide +kernel⟩, List.mem_of_getElem? (i := 29) (by decide +kernel), List.mem_of_getElem? (i := 417) (by decide +kernel), List.mem_of_getElem? (i := 418) (by decide +kernel)⟩
theorem lw_p5 : lw_okq (⟨"RailOfHeads$Reader", "readRail", "()V"⟩, 8) := ⟨⟨by decide +kernel, by decide +kernel⟩, List.mem_of_getElem? (i := 29) (by decide +kernel), List.mem_of_getElem? (i := 421) (by decide +kernel), List.mem_of_getElem? (i := 422) (by decide +kernel)⟩
theorem lw_p6 : lw_okq (⟨"RailOfHeads$Reader", "takeWord", "(Ljava/lang/String;II)V"⟩, 8) := ⟨⟨by decide +kernel, by decide +kernel⟩, List.mem_of_getElem? (i := 29) (by decide +kernel), List.mem_of_getElem? (i := 426) (by decide +kernel), List.mem_of_getElem? (i := 427) (by decide +kernel)⟩
theorem lw_p7 : lw_okq (⟨"RailOfHeads$Reader", "isWord", "(Ljava/lang/String;)Z"⟩, 8) := ⟨⟨by decide +kernel, by decide +kernel⟩, List.mem_of_getElem? (i := 29) (by decide +kernel), List.mem_of_getElem? (i := 430) (by decide +kernel), List.mem_of_getElem? (i := 431) (by decide +kernel)⟩
theorem lw_p8 : lw_okq (⟨"RailOfHeads$Reader", "takeNumber", "(II)I"⟩, 8) := ⟨⟨by decide +kernel, by decide +kernel⟩, List.mem_of_getElem? (i := 29) (by decide +kernel), List.mem_of_getElem? (i := 482) (by decide +kernel), List.mem_of_getElem? (i := 483) (by decide +kernel)⟩
theorem lw_p9 : lw_okq (⟨"RailOfHeads$Reader", "takeSign", "()V"⟩, 8) := ⟨⟨by decide +kernel, by decide +kernel⟩, List.mem_of_getElem? (i := 29) (by decide +kernel), List.mem_of_getElem? (i := 486) (by decide +kernel), List.mem_of_getElem? (i := 487) (by decide +kernel)⟩
theorem lw_p10 : lw_okq (⟨"RailOfHeads$Reader", "readRooms", "()V"⟩, 8) := ⟨⟨by decide +kernel, by decide +kernel⟩, List.mem_of_getElem? (i := 29) (by decide +kernel), List.mem_of_getElem? (i := 490) (by decide +kernel), List.mem_of_getElem? (i := 491) (by decide +kernel)⟩
theorem lw_p11 : lw_okq (⟨"RailOfHeads$Reader", "readDoors", "()V"⟩, 8) := ⟨⟨by decide +kernel, by decide +kernel⟩, List.mem_of_getElem? (i := 29) (by decide +kernel), List.mem_of_getElem? (i := 499) (by decide +kernel), List.mem_of_getElem? (i := 500) (by decide +kernel)⟩
theorem lw_p12 : lw_okq (⟨"RailOfHeads$Reader", "readPictures", "()V"⟩, 8) := ⟨⟨by decide +kernel, by decide +kernel⟩, List.mem_of_getElem? (i := 29) (by decide +kernel), List.mem_of_getElem? (i := 509) (by decide +kernel), List.mem_of_getElem? (i := 510) (by decide +kernel)⟩
theorem lw_p13 : lw_okq (⟨"RailOfHeads$Reader", "readGroups", "()V"⟩, 8) := ⟨⟨by decide +kernel, by decide +kernel⟩, List.mem_of_getElem? (i := 29) (by decide +kernel), List.mem_of_getElem? (i := 518) (by decide +kernel), List.mem_of_getElem? (i := 519) (by decide +kernel)⟩
theorem lw_p14 : lw_okq (⟨"RailOfHeads$Reader", "takeLaw", "()I"⟩, 8) := ⟨⟨by decide +kernel, by decide +kernel⟩, List.mem_of_getElem? (i := 29) (by decide +kernel), List.mem_of_getElem? (i := 526) (by decide +kernel), List.mem_of_getElem? (i := 527) (by decide +kernel)⟩
theorem lw_p15 : lw_okq (⟨"RailOfHeads$Ways", "openDoors", "(LRailOfHeads$Plan;)V"⟩, 2) := ⟨⟨by decide +kernel, by decide +kernel⟩, List.mem_of_getElem? (i := 169) (by decide +kernel), List.mem_of_getElem? (i := 556) (by decide +kernel), List.mem_of_getElem? (i := 557) (by decide +kernel)⟩
def lw_privs_1 : List (MethodName × Nat) := [(⟨"RailOfHeads", "finding", "(I)I"⟩, 10), (⟨"RailOfHeads", "unfound", "(I)I"⟩, 10), (⟨"RailOfHeads$Reader", "advance", "()V"⟩, 8), (⟨"RailOfHeads$Reader", "passName", "()V"⟩, 8), (⟨"RailOfHeads$Reader", "passNumber", "()V"⟩, 8), (⟨"RailOfHeads$Reader", "readRail", "()V"⟩, 8), (⟨"RailOfHeads$Reader", "takeWord", "(Ljava/lang/String;II)V"⟩, 8), (⟨"RailOfHeads$Reader", "isWord", "(Ljava/lang/String;)Z"⟩, 8), (⟨"RailOfHeads$Reader", "takeNumber", "(II)I"⟩, 8), (⟨"RailOfHeads$Reader", "takeSign", "()V"⟩, 8), (⟨"RailOfHeads$Reader", "readRooms", "()V"⟩, 8), (⟨"RailOfHeads$Reader", "readDoors", "()V"⟩, 8), (⟨"RailOfHeads$Reader", "readPictures", "()V"⟩, 8), (⟨"RailOfHeads$Reader", "readGroups", "()V"⟩, 8), (⟨"RailOfHeads$Reader", "takeLaw", "()I"⟩, 8), (⟨"RailOfHeads$Ways", "openDoors", "(LRailOfHeads$Plan;)V"⟩, 2)]
theorem lw_r1 : ∀ q ∈ lw_privs_1, lw_okq q := List.forall_mem_cons.mpr ⟨lw_p0, List.forall_mem_cons.mpr ⟨lw_p1, List.forall_mem_cons.mpr ⟨lw_p2, List.forall_mem_cons.mpr ⟨lw_p3, List.forall_mem_cons.mpr ⟨lw_p4, List.forall_mem_cons.mpr ⟨lw_p5, List.forall_mem_cons.mpr ⟨lw_p6, List.forall_mem_cons.mpr ⟨lw_p7, List.forall_mem_cons.mpr ⟨lw_p8, List.forall_mem_cons.mpr ⟨lw_p9, List.forall_mem_cons.mpr ⟨lw_p10, List.forall_mem_cons.mpr ⟨lw_p11, List.forall_mem_cons.mpr ⟨lw_p12, List.forall_mem_cons.mpr ⟨lw_p13, List.forall_mem_cons.mpr ⟨lw_p14, List.forall_mem_cons.mpr ⟨lw_p15, fun _ h => absurd h List.not_mem_nil⟩⟩⟩⟩⟩⟩⟩⟩⟩⟩⟩⟩⟩⟩⟩⟩
theorem lw_p16 : lw_okq (⟨"RailOfHeads$Ways", "nextRoom", "(LRailOfHeads$Plan;II)I"⟩, 2) := ⟨⟨by decide +kernel, by decide +kernel⟩, List.mem_of_getElem? (i := 169) (by decide +kernel), List.mem_of_getElem? (i := 562) (by decide +kernel), List.mem_of_getElem? (i := 563) (by decide +kernel)⟩
theorem lw_p17 : lw_okq (⟨"RailOfHeads", "noHouse", "()Z"⟩, 10) := ⟨⟨by decide +kernel, by decide +kernel⟩, List.mem_of_getElem? (i := 19) (by decide +kernel), List.mem_of_getElem? (i := 584) (by decide +kernel), List.mem_of_getElem? (i := 585) (by decide +kernel)⟩
theorem lw_p18 : lw_okq (⟨"RailOfHeads$Crowd", "comeIn", "(I)V"⟩, 15) := ⟨⟨by decide +kernel, by decide +kernel⟩, List.mem_of_getElem? (i := 185) (by decide +kernel), List.mem_of_getElem? (i := 593) (by decide +kernel), List.mem_of_getElem? (i := 594) (by decide +kernel)⟩
theorem lw_p19 : lw_okq (⟨"RailOfHeads$Crowd", "enter", "(II)Z"⟩, 15) := ⟨⟨by decide +kernel, by decide +kernel⟩, List.mem_of_getElem? (i := 185) (by decide +kernel), List.mem_of_getElem? (i := 597) (by decide +kernel), List.mem_of_getElem? (i := 598) (by decide +kernel)⟩
theorem lw_p20 : lw_okq (⟨"RailOfHeads$Crowd", "chooseAim", "(I)I"⟩, 15) := ⟨⟨by decide +kernel, by decide +kernel⟩, List.mem_of_getElem? (i := 185) (by decide +kernel), List.mem_of_getElem? (i := 602) (by decide +kernel), List.mem_of_getElem? (i := 603) (by decide +kernel)⟩
theorem lw_p21 : lw_okq (⟨"RailOfHeads$Crowd", "waitOn", "(I)V"⟩, 15) := ⟨⟨by decide +kernel, by decide +kernel⟩, List.mem_of_getElem? (i := 185) (by decide +kernel), List.mem_of_getElem? (i := 606) (by decide +kernel), List.mem_of_getElem? (i := 607) (by decide +kernel)⟩
theorem lw_p22 : lw_okq (⟨"RailOfHeads$Crowd", "leave", "(I)V"⟩, 15) := ⟨⟨by decide +kernel, by decide +kernel⟩, List.mem_of_getElem? (i := 185) (by decide +kernel), List.mem_of_getElem? (i := 610) (by decide +kernel), List.mem_of_getElem? (i := 611) (by decide +kernel)⟩
theorem lw_p23 : lw_okq (⟨"RailOfHeads$Crowd", "goAbout", "(I)V"⟩, 15) := ⟨⟨by decide +kernel, by decide +kernel⟩, List.mem_of_getElem? (i := 185) (by decide +kernel), List.mem_of_getElem? (i := 614) (by decide +kernel), List.mem_of_getElem? (i := 615) (by decide +kernel)⟩
theorem lw_p24 : lw_okq (⟨"RailOfHeads$Crowd", "lookAt", "(II)V"⟩, 15) := ⟨⟨by decide +kernel, by decide +kernel⟩, List.mem_of_getElem? (i := 185) (by decide +kernel), List.mem_of_getElem? (i := 618) (by decide +kernel), List.mem_of_getElem? (i := 619) (by decide +kernel)⟩
theorem lw_p25 : lw_okq (⟨"RailOfHeads", "noVisitor", "(I)Z"⟩, 10) := ⟨⟨by decide +kernel, by decide +kernel⟩, List.mem_of_getElem? (i := 19) (by decide +kernel), List.mem_of_getElem? (i := 630) (by decide +kernel), List.mem_of_getElem? (i := 631) (by decide +kernel)⟩
theorem lw_p26 : lw_okq (⟨"RailOfHeads", "bestRail", "(II)I"⟩, 10) := ⟨⟨by decide +kernel, by decide +kernel⟩, List.mem_of_getElem? (i := 19) (by decide +kernel), List.mem_of_getElem? (i := 674) (by decide +kernel), List.mem_of_getElem? (i := 675) (by decide +kernel)⟩
theorem lw_p27 : lw_okq (⟨"RailOfHeads", "bestGuard", "(II)I"⟩, 10) := ⟨⟨by decide +kernel, by decide +kernel⟩, List.mem_of_getElem? (i := 19) (by decide +kernel), List.mem_of_getElem? (i := 678) (by decide +kernel), List.mem_of_getElem? (i := 679) (by decide +kernel)⟩
theorem lw_p28 : lw_okq (⟨"RailOfHeads", "hangBest", "(II)I"⟩, 10) := ⟨⟨by decide +kernel, by decide +kernel⟩, List.mem_of_getElem? (i := 19) (by decide +kernel), List.mem_of_getElem? (i := 698) (by decide +kernel), List.mem_of_getElem? (i := 699) (by decide +kernel)⟩
theorem lw_p29 : lw_okq (⟨"RailOfHeads", "hangBy", "(II)Z"⟩, 10) := ⟨⟨by decide +kernel, by decide +kernel⟩, List.mem_of_getElem? (i := 19) (by decide +kernel), List.mem_of_getElem? (i := 702) (by decide +kernel), List.mem_of_getElem? (i := 703) (by decide +kernel)⟩
theorem lw_p30 : lw_okq (⟨"RailOfHeads", "nearestLaw", "(ILRailOfHeads$Row;II)I"⟩, 10) := ⟨⟨by decide +kernel, by decide +kernel⟩, List.mem_of_getElem? (i := 19) (by decide +kernel), List.mem_of_getElem? (i := 717) (by decide +kernel), List.mem_of_getElem? (i := 718) (by decide +kernel)⟩
theorem lw_p31 : lw_okq (⟨"RailOfHeads", "offBy", "(ILRailOfHeads$Row;II)I"⟩, 10) := ⟨⟨by decide +kernel, by decide +kernel⟩, List.mem_of_getElem? (i := 19) (by decide +kernel), List.mem_of_getElem? (i := 722) (by decide +kernel), List.mem_of_getElem? (i := 723) (by decide +kernel)⟩
def lw_privs_2 : List (MethodName × Nat) := [(⟨"RailOfHeads$Ways", "nextRoom", "(LRailOfHeads$Plan;II)I"⟩, 2), (⟨"RailOfHeads", "noHouse", "()Z"⟩, 10), (⟨"RailOfHeads$Crowd", "comeIn", "(I)V"⟩, 15), (⟨"RailOfHeads$Crowd", "enter", "(II)Z"⟩, 15), (⟨"RailOfHeads$Crowd", "chooseAim", "(I)I"⟩, 15), (⟨"RailOfHeads$Crowd", "waitOn", "(I)V"⟩, 15), (⟨"RailOfHeads$Crowd", "leave", "(I)V"⟩, 15), (⟨"RailOfHeads$Crowd", "goAbout", "(I)V"⟩, 15), (⟨"RailOfHeads$Crowd", "lookAt", "(II)V"⟩, 15), (⟨"RailOfHeads", "noVisitor", "(I)Z"⟩, 10), (⟨"RailOfHeads", "bestRail", "(II)I"⟩, 10), (⟨"RailOfHeads", "bestGuard", "(II)I"⟩, 10), (⟨"RailOfHeads", "hangBest", "(II)I"⟩, 10), (⟨"RailOfHeads", "hangBy", "(II)Z"⟩, 10), (⟨"RailOfHeads", "nearestLaw", "(ILRailOfHeads$Row;II)I"⟩, 10), (⟨"RailOfHeads", "offBy", "(ILRailOfHeads$Row;II)I"⟩, 10)]
theorem lw_r2 : ∀ q ∈ lw_privs_2, lw_okq q := List.forall_mem_cons.mpr ⟨lw_p16, List.forall_mem_cons.mpr ⟨lw_p17, List.forall_mem_cons.mpr ⟨lw_p18, List.forall_mem_cons.mpr ⟨lw_p19, List.forall_mem_cons.mpr ⟨lw_p20, List.forall_mem_cons.mpr ⟨lw_p21, List.forall_mem_cons.mpr ⟨lw_p22, List.forall_mem_cons.mpr ⟨lw_p23, List.forall_mem_cons.mpr ⟨lw_p24, List.forall_mem_cons.mpr ⟨lw_p25, List.forall_mem_cons.mpr ⟨lw_p26, List.forall_mem_cons.mpr ⟨lw_p27, List.forall_mem_cons.mpr ⟨lw_p28, List.forall_mem_cons.mpr ⟨lw_p29, List.forall_mem_cons.mpr ⟨lw_p30, List.forall_mem_cons.mpr ⟨lw_p31, fun _ h => absurd h List.not_mem_nil⟩⟩⟩⟩⟩⟩⟩⟩⟩⟩⟩⟩⟩⟩⟩⟩
theorem lw_p32 : lw_okq (⟨"RailOfHeads$Asks", "size", "(II)I"⟩, 3) := ⟨⟨by decide +kernel, by decide +kernel⟩, List.mem_of_getElem? (i := 266) (by decide +kernel), List.mem_of_getElem? (i := 763) (by decide +kernel), List.mem_of_getElem? (i := 764) (by decide +kernel)⟩
theorem lw_p33 : lw_okq (⟨"RailOfHeads$Asks", "body11", "(II)I"⟩, 3) := ⟨⟨by decide +kernel, by decide +kernel⟩, List.mem_of_getElem? (i := 266) (by decide +kernel), List.mem_of_getElem? (i := 768) (by decide +kernel), List.mem_of_getElem? (i := 769) (by decide +kernel)⟩
theorem lw_p34 : lw_okq (⟨"RailOfHeads$Asks", "begin", "(I)V"⟩, 3) := ⟨⟨by decide +kernel, by decide +kernel⟩, List.mem_of_getElem? (i := 266) (by decide +kernel), List.mem_of_getElem? (i := 772) (by decide +kernel), List.mem_of_getElem? (i := 773) (by decide +kernel)⟩
theorem lw_p35 : lw_okq (⟨"RailOfHeads$Asks", "body10", "(I)I"⟩, 3) := ⟨⟨by decide +kernel, by decide +kernel⟩, List.mem_of_getElem? (i := 266) (by decide +kernel), List.mem_of_getElem? (i := 776) (by decide +kernel), List.mem_of_getElem? (i := 777) (by decide +kernel)⟩
theorem lw_p36 : lw_okq (⟨"RailOfHeads$Asks", "mark", "(II)I"⟩, 3) := ⟨⟨by decide +kernel, by decide +kernel⟩, List.mem_of_getElem? (i := 266) (by decide +kernel), List.mem_of_getElem? (i := 780) (by decide +kernel), List.mem_of_getElem? (i := 781) (by decide +kernel)⟩
theorem lw_p37 : lw_okq (⟨"RailOfHeads$Asks", "body24", "(I)I"⟩, 3) := ⟨⟨by decide +kernel, by decide +kernel⟩, List.mem_of_getElem? (i := 266) (by decide +kernel), List.mem_of_getElem? (i := 784) (by decide +kernel), List.mem_of_getElem? (i := 785) (by decide +kernel)⟩
theorem lw_p38 : lw_okq (⟨"RailOfHeads$Asks", "body20", "(I)I"⟩, 3) := ⟨⟨by decide +kernel, by decide +kernel⟩, List.mem_of_getElem? (i := 266) (by decide +kernel), List.mem_of_getElem? (i := 788) (by decide +kernel), List.mem_of_getElem? (i := 789) (by decide +kernel)⟩
theorem lw_p39 : lw_okq (⟨"RailOfHeads$Asks", "body21", "(I)I"⟩, 3) := ⟨⟨by decide +kernel, by decide +kernel⟩, List.mem_of_getElem? (i := 266) (by decide +kernel), List.mem_of_getElem? (i := 792) (by decide +kernel), List.mem_of_getElem? (i := 793) (by decide +kernel)⟩
theorem lw_p40 : lw_okq (⟨"RailOfHeads$Asks", "body22", "(I)I"⟩, 3) := ⟨⟨by decide +kernel, by decide +kernel⟩, List.mem_of_getElem? (i := 266) (by decide +kernel), List.mem_of_getElem? (i := 797) (by decide +kernel), List.mem_of_getElem? (i := 798) (by decide +kernel)⟩
theorem lw_p41 : lw_okq (⟨"RailOfHeads$Asks", "body23", "(II)I"⟩, 3) := ⟨⟨by decide +kernel, by decide +kernel⟩, List.mem_of_getElem? (i := 266) (by decide +kernel), List.mem_of_getElem? (i := 801) (by decide +kernel), List.mem_of_getElem? (i := 802) (by decide +kernel)⟩
theorem lw_p42 : lw_okq (⟨"RailOfHeads$Asks", "body12", "(II)I"⟩, 3) := ⟨⟨by decide +kernel, by decide +kernel⟩, List.mem_of_getElem? (i := 266) (by decide +kernel), List.mem_of_getElem? (i := 806) (by decide +kernel), List.mem_of_getElem? (i := 807) (by decide +kernel)⟩
theorem lw_p43 : lw_okq (⟨"RailOfHeads$Asks", "body13", "(I)I"⟩, 3) := ⟨⟨by decide +kernel, by decide +kernel⟩, List.mem_of_getElem? (i := 266) (by decide +kernel), List.mem_of_getElem? (i := 810) (by decide +kernel), List.mem_of_getElem? (i := 811) (by decide +kernel)⟩
theorem lw_p44 : lw_okq (⟨"RailOfHeads$Asks", "body14", "(I)I"⟩, 3) := ⟨⟨by decide +kernel, by decide +kernel⟩, List.mem_of_getElem? (i := 266) (by decide +kernel), List.mem_of_getElem? (i := 814) (by decide +kernel), List.mem_of_getElem? (i := 815) (by decide +kernel)⟩
theorem lw_p45 : lw_okq (⟨"RailOfHeads", "standingRows", "()I"⟩, 10) := ⟨⟨by decide +kernel, by decide +kernel⟩, List.mem_of_getElem? (i := 19) (by decide +kernel), List.mem_of_getElem? (i := 827) (by decide +kernel), List.mem_of_getElem? (i := 828) (by decide +kernel)⟩
theorem lw_p46 : lw_okq (⟨"RailOfHeadsModel", "finding", "(I)I"⟩, 33) := ⟨⟨by decide +kernel, by decide +kernel⟩, List.mem_of_getElem? (i := 835) (by decide +kernel), List.mem_of_getElem? (i := 955) (by decide +kernel), List.mem_of_getElem? (i := 956) (by decide +kernel)⟩
theorem lw_p47 : lw_okq (⟨"RailOfHeadsModel", "begin", "()V"⟩, 33) := ⟨⟨by decide +kernel, by decide +kernel⟩, List.mem_of_getElem? (i := 835) (by decide +kernel), List.mem_of_getElem? (i := 983) (by decide +kernel), List.mem_of_getElem? (i := 984) (by decide +kernel)⟩
def lw_privs_3 : List (MethodName × Nat) := [(⟨"RailOfHeads$Asks", "size", "(II)I"⟩, 3), (⟨"RailOfHeads$Asks", "body11", "(II)I"⟩, 3), (⟨"RailOfHeads$Asks", "begin", "(I)V"⟩, 3), (⟨"RailOfHeads$Asks", "body10", "(I)I"⟩, 3), (⟨"RailOfHeads$Asks", "mark", "(II)I"⟩, 3), (⟨"RailOfHeads$Asks", "body24", "(I)I"⟩, 3), (⟨"RailOfHeads$Asks", "body20", "(I)I"⟩, 3), (⟨"RailOfHeads$Asks", "body21", "(I)I"⟩, 3), (⟨"RailOfHeads$Asks", "body22", "(I)I"⟩, 3), (⟨"RailOfHeads$Asks", "body23", "(II)I"⟩, 3), (⟨"RailOfHeads$Asks", "body12", "(II)I"⟩, 3), (⟨"RailOfHeads$Asks", "body13", "(I)I"⟩, 3), (⟨"RailOfHeads$Asks", "body14", "(I)I"⟩, 3), (⟨"RailOfHeads", "standingRows", "()I"⟩, 10), (⟨"RailOfHeadsModel", "finding", "(I)I"⟩, 33), (⟨"RailOfHeadsModel", "begin", "()V"⟩, 33)]
theorem lw_r3 : ∀ q ∈ lw_privs_3, lw_okq q := List.forall_mem_cons.mpr ⟨lw_p32, List.forall_mem_cons.mpr ⟨lw_p33, List.forall_mem_cons.mpr ⟨lw_p34, List.forall_mem_cons.mpr ⟨lw_p35, List.forall_mem_cons.mpr ⟨lw_p36, List.forall_mem_cons.mpr ⟨lw_p37, List.forall_mem_cons.mpr ⟨lw_p38, List.forall_mem_cons.mpr ⟨lw_p39, List.forall_mem_cons.mpr ⟨lw_p40, List.forall_mem_cons.mpr ⟨lw_p41, List.forall_mem_cons.mpr ⟨lw_p42, List.forall_mem_cons.mpr ⟨lw_p43, List.forall_mem_cons.mpr ⟨lw_p44, List.forall_mem_cons.mpr ⟨lw_p45, List.forall_mem_cons.mpr ⟨lw_p46, List.forall_mem_cons.mpr ⟨lw_p47, fun _ h => absurd h List.not_mem_nil⟩⟩⟩⟩⟩⟩⟩⟩⟩⟩⟩⟩⟩⟩⟩⟩
theorem lw_p48 : lw_okq (⟨"RailOfHeadsModel", "next", "()V"⟩, 33) := ⟨⟨by decide +kernel, by decide +kernel⟩, List.mem_of_getElem? (i := 835) (by decide +kernel), List.mem_of_getElem? (i := 987) (by decide +kernel), List.mem_of_getElem? (i := 988) (by decide +kernel)⟩
theorem lw_p49 : lw_okq (⟨"RailOfHeadsModel", "byteAt", "(I)I"⟩, 33) := ⟨⟨by decide +kernel, by decide +kernel⟩, List.mem_of_getElem? (i := 835) (by decide +kernel), List.mem_of_getElem? (i := 991) (by decide +kernel), List.mem_of_getElem? (i := 992) (by decide +kernel)⟩
theorem lw_p50 : lw_okq (⟨"RailOfHeadsModel", "readRail", "()V"⟩, 33) := ⟨⟨by decide +kernel, by decide +kernel⟩, List.mem_of_getElem? (i := 835) (by decide +kernel), List.mem_of_getElem? (i := 1002) (by decide +kernel), List.mem_of_getElem? (i := 1003) (by decide +kernel)⟩
theorem lw_p51 : lw_okq (⟨"RailOfHeadsModel", "name", "()J"⟩, 33) := ⟨⟨by decide +kernel, by decide +kernel⟩, List.mem_of_getElem? (i := 835) (by decide +kernel), List.mem_of_getElem? (i := 1006) (by decide +kernel), List.mem_of_getElem? (i := 1007) (by decide +kernel)⟩
theorem lw_p52 : lw_okq (⟨"RailOfHeadsModel", "must", "(Z)V"⟩, 33) := ⟨⟨by decide +kernel, by decide +kernel⟩, List.mem_of_getElem? (i := 835) (by decide +kernel), List.mem_of_getElem? (i := 1011) (by decide +kernel), List.mem_of_getElem? (i := 1012) (by decide +kernel)⟩
theorem lw_p53 : lw_okq (⟨"RailOfHeadsModel", "bad", "(I)V"⟩, 33) := ⟨⟨by decide +kernel, by decide +kernel⟩, List.mem_of_getElem? (i := 835) (by decide +kernel), List.mem_of_getElem? (i := 1015) (by decide +kernel), List.mem_of_getElem? (i := 1016) (by decide +kernel)⟩
theorem lw_p54 : lw_okq (⟨"RailOfHeadsModel", "number", "(II)I"⟩, 33) := ⟨⟨by decide +kernel, by decide +kernel⟩, List.mem_of_getElem? (i := 835) (by decide +kernel), List.mem_of_getElem? (i := 1019) (by decide +kernel), List.mem_of_getElem? (i := 1020) (by decide +kernel)⟩
theorem lw_p55 : lw_okq (⟨"RailOfHeadsModel", "figures", "()I"⟩, 33) := ⟨⟨by decide +kernel, by decide +kernel⟩, List.mem_of_getElem? (i := 835) (by decide +kernel), List.mem_of_getElem? (i := 1023) (by decide +kernel), List.mem_of_getElem? (i := 1024) (by decide +kernel)⟩
theorem lw_p56 : lw_okq (⟨"RailOfHeadsModel", "mustEnd", "()V"⟩, 33) := ⟨⟨by decide +kernel, by decide +kernel⟩, List.mem_of_getElem? (i := 835) (by decide +kernel), List.mem_of_getElem? (i := 1027) (by decide +kernel), List.mem_of_getElem? (i := 1028) (by decide +kernel)⟩
theorem lw_p57 : lw_okq (⟨"RailOfHeadsModel", "mustBegin", "(J)V"⟩, 33) := ⟨⟨by decide +kernel, by decide +kernel⟩, List.mem_of_getElem? (i := 835) (by decide +kernel), List.mem_of_getElem? (i := 1032) (by decide +kernel), List.mem_of_getElem? (i := 1033) (by decide +kernel)⟩
theorem lw_p58 : lw_okq (⟨"RailOfHeadsModel", "readRoom", "()V"⟩, 33) := ⟨⟨by decide +kernel, by decide +kernel⟩, List.mem_of_getElem? (i := 835) (by decide +kernel), List.mem_of_getElem? (i := 1036) (by decide +kernel), List.mem_of_getElem? (i := 1037) (by decide +kernel)⟩
theorem lw_p59 : lw_okq (⟨"RailOfHeadsModel", "begins", "(II)V"⟩, 33) := ⟨⟨by decide +kernel, by decide +kernel⟩, List.mem_of_getElem? (i := 835) (by decide +kernel), List.mem_of_getElem? (i := 1040) (by decide +kernel), List.mem_of_getElem? (i := 1041) (by decide +kernel)⟩
theorem lw_p60 : lw_okq (⟨"RailOfHeadsModel", "readDoor", "()V"⟩, 33) := ⟨⟨by decide +kernel, by decide +kernel⟩, List.mem_of_getElem? (i := 835) (by decide +kernel), List.mem_of_getElem? (i := 1045) (by decide +kernel), List.mem_of_getElem? (i := 1046) (by decide +kernel)⟩
theorem lw_p61 : lw_okq (⟨"RailOfHeadsModel", "readPicture", "()V"⟩, 33) := ⟨⟨by decide +kernel, by decide +kernel⟩, List.mem_of_getElem? (i := 835) (by decide +kernel), List.mem_of_getElem? (i := 1051) (by decide +kernel), List.mem_of_getElem? (i := 1052) (by decide +kernel)⟩
theorem lw_p62 : lw_okq (⟨"RailOfHeadsModel", "readGroup", "()V"⟩, 33) := ⟨⟨by decide +kernel, by decide +kernel⟩, List.mem_of_getElem? (i := 835) (by decide +kernel), List.mem_of_getElem? (i := 1056) (by decide +kernel), List.mem_of_getElem? (i := 1057) (by decide +kernel)⟩
theorem lw_p63 : lw_okq (⟨"RailOfHeadsModel", "layFar", "()V"⟩, 33) := ⟨⟨by decide +kernel, by decide +kernel⟩, List.mem_of_getElem? (i := 835) (by decide +kernel), List.mem_of_getElem? (i := 1067) (by decide +kernel), List.mem_of_getElem? (i := 1068) (by decide +kernel)⟩
def lw_privs_4 : List (MethodName × Nat) := [(⟨"RailOfHeadsModel", "next", "()V"⟩, 33), (⟨"RailOfHeadsModel", "byteAt", "(I)I"⟩, 33), (⟨"RailOfHeadsModel", "readRail", "()V"⟩, 33), (⟨"RailOfHeadsModel", "name", "()J"⟩, 33), (⟨"RailOfHeadsModel", "must", "(Z)V"⟩, 33), (⟨"RailOfHeadsModel", "bad", "(I)V"⟩, 33), (⟨"RailOfHeadsModel", "number", "(II)I"⟩, 33), (⟨"RailOfHeadsModel", "figures", "()I"⟩, 33), (⟨"RailOfHeadsModel", "mustEnd", "()V"⟩, 33), (⟨"RailOfHeadsModel", "mustBegin", "(J)V"⟩, 33), (⟨"RailOfHeadsModel", "readRoom", "()V"⟩, 33), (⟨"RailOfHeadsModel", "begins", "(II)V"⟩, 33), (⟨"RailOfHeadsModel", "readDoor", "()V"⟩, 33), (⟨"RailOfHeadsModel", "readPicture", "()V"⟩, 33), (⟨"RailOfHeadsModel", "readGroup", "()V"⟩, 33), (⟨"RailOfHeadsModel", "layFar", "()V"⟩, 33)]
theorem lw_r4 : ∀ q ∈ lw_privs_4, lw_okq q := List.forall_mem_cons.mpr ⟨lw_p48, List.forall_mem_cons.mpr ⟨lw_p49, List.forall_mem_cons.mpr ⟨lw_p50, List.forall_mem_cons.mpr ⟨lw_p51, List.forall_mem_cons.mpr ⟨lw_p52, List.forall_mem_cons.mpr ⟨lw_p53, List.forall_mem_cons.mpr ⟨lw_p54, List.forall_mem_cons.mpr ⟨lw_p55, List.forall_mem_cons.mpr ⟨lw_p56, List.forall_mem_cons.mpr ⟨lw_p57, List.forall_mem_cons.mpr ⟨lw_p58, List.forall_mem_cons.mpr ⟨lw_p59, List.forall_mem_cons.mpr ⟨lw_p60, List.forall_mem_cons.mpr ⟨lw_p61, List.forall_mem_cons.mpr ⟨lw_p62, List.forall_mem_cons.mpr ⟨lw_p63, fun _ h => absurd h List.not_mem_nil⟩⟩⟩⟩⟩⟩⟩⟩⟩⟩⟩⟩⟩⟩⟩⟩
theorem lw_p64 : lw_okq (⟨"RailOfHeadsModel", "leads", "(III)Z"⟩, 33) := ⟨⟨by decide +kernel, by decide +kernel⟩, List.mem_of_getElem? (i := 835) (by decide +kernel), List.mem_of_getElem? (i := 1071) (by decide +kernel), List.mem_of_getElem? (i := 1072) (by decide +kernel)⟩
theorem lw_p65 : lw_okq (⟨"RailOfHeadsModel", "opens", "([I)V"⟩, 33) := ⟨⟨by decide +kernel, by decide +kernel⟩, List.mem_of_getElem? (i := 835) (by decide +kernel), List.mem_of_getElem? (i := 1075) (by decide +kernel), List.mem_of_getElem? (i := 1076) (by decide +kernel)⟩
theorem lw_p66 : lw_okq (⟨"RailOfHeadsModel", "told", "(II)I"⟩, 33) := ⟨⟨by decide +kernel, by decide +kernel⟩, List.mem_of_getElem? (i := 835) (by decide +kernel), List.mem_of_getElem? (i := 1079) (by decide +kernel), List.mem_of_getElem? (i := 1080) (by decide +kernel)⟩
theorem lw_p67 : lw_okq (⟨"RailOfHeadsModel", "groupOf", "(I)I"⟩, 33) := ⟨⟨by decide +kernel, by decide +kernel⟩, List.mem_of_getElem? (i := 835) (by decide +kernel), List.mem_of_getElem? (i := 1083) (by decide +kernel), List.mem_of_getElem? (i := 1084) (by decide +kernel)⟩
theorem lw_p68 : lw_okq (⟨"RailOfHeadsModel", "isRoom", "(I)Z"⟩, 33) := ⟨⟨by decide +kernel, by decide +kernel⟩, List.mem_of_getElem? (i := 835) (by decide +kernel), List.mem_of_getElem? (i := 1095) (by decide +kernel), List.mem_of_getElem? (i := 1096) (by decide +kernel)⟩
theorem lw_p69 : lw_okq (⟨"RailOfHeadsModel", "minute", "([I)V"⟩, 33) := ⟨⟨by decide +kernel, by decide +kernel⟩, List.mem_of_getElem? (i := 835) (by decide +kernel), List.mem_of_getElem? (i := 1105) (by decide +kernel), List.mem_of_getElem? (i := 1106) (by decide +kernel)⟩
theorem lw_p70 : lw_okq (⟨"RailOfHeadsModel", "goes", "([II)V"⟩, 33) := ⟨⟨by decide +kernel, by decide +kernel⟩, List.mem_of_getElem? (i := 835) (by decide +kernel), List.mem_of_getElem? (i := 1109) (by decide +kernel), List.mem_of_getElem? (i := 1110) (by decide +kernel)⟩
theorem lw_p71 : lw_okq (⟨"RailOfHeadsModel", "enters", "([IIII)V"⟩, 33) := ⟨⟨by decide +kernel, by decide +kernel⟩, List.mem_of_getElem? (i := 835) (by decide +kernel), List.mem_of_getElem? (i := 1113) (by decide +kernel), List.mem_of_getElem? (i := 1114) (by decide +kernel)⟩
theorem lw_p72 : lw_okq (⟨"RailOfHeadsModel", "holdsOne", "([II)Z"⟩, 33) := ⟨⟨by decide +kernel, by decide +kernel⟩, List.mem_of_getElem? (i := 835) (by decide +kernel), List.mem_of_getElem? (i := 1117) (by decide +kernel), List.mem_of_getElem? (i := 1118) (by decide +kernel)⟩
theorem lw_p73 : lw_okq (⟨"RailOfHeadsModel", "inRoom", "([II)I"⟩, 33) := ⟨⟨by decide +kernel, by decide +kernel⟩, List.mem_of_getElem? (i := 835) (by decide +kernel), List.mem_of_getElem? (i := 1121) (by decide +kernel), List.mem_of_getElem? (i := 1122) (by decide +kernel)⟩
theorem lw_p74 : lw_okq (⟨"RailOfHeadsModel", "waits", "([III)V"⟩, 33) := ⟨⟨by decide +kernel, by decide +kernel⟩, List.mem_of_getElem? (i := 835) (by decide +kernel), List.mem_of_getElem? (i := 1125) (by decide +kernel), List.mem_of_getElem? (i := 1126) (by decide +kernel)⟩
theorem lw_p75 : lw_okq (⟨"RailOfHeadsModel", "aim", "([II)I"⟩, 33) := ⟨⟨by decide +kernel, by decide +kernel⟩, List.mem_of_getElem? (i := 835) (by decide +kernel), List.mem_of_getElem? (i := 1129) (by decide +kernel), List.mem_of_getElem? (i := 1130) (by decide +kernel)⟩
theorem lw_p76 : lw_okq (⟨"RailOfHeadsModel", "lawNow", "(I)I"⟩, 33) := ⟨⟨by decide +kernel, by decide +kernel⟩, List.mem_of_getElem? (i := 835) (by decide +kernel), List.mem_of_getElem? (i := 1133) (by decide +kernel), List.mem_of_getElem? (i := 1134) (by decide +kernel)⟩
theorem lw_p77 : lw_okq (⟨"RailOfHeadsModel", "isOpen", "([III)Z"⟩, 33) := ⟨⟨by decide +kernel, by decide +kernel⟩, List.mem_of_getElem? (i := 835) (by decide +kernel), List.mem_of_getElem? (i := 1137) (by decide +kernel), List.mem_of_getElem? (i := 1138) (by decide +kernel)⟩
theorem lw_p78 : lw_okq (⟨"RailOfHeadsModel", "looks", "([III)V"⟩, 33) := ⟨⟨by decide +kernel, by decide +kernel⟩, List.mem_of_getElem? (i := 835) (by decide +kernel), List.mem_of_getElem? (i := 1141) (by decide +kernel), List.mem_of_getElem? (i := 1142) (by decide +kernel)⟩
theorem lw_p79 : lw_okq (⟨"RailOfHeadsModel", "nextRoom", "(II)I"⟩, 33) := ⟨⟨by decide +kernel, by decide +kernel⟩, List.mem_of_getElem? (i := 835) (by decide +kernel), List.mem_of_getElem? (i := 1145) (by decide +kernel), List.mem_of_getElem? (i := 1146) (by decide +kernel)⟩
def lw_privs_5 : List (MethodName × Nat) := [(⟨"RailOfHeadsModel", "leads", "(III)Z"⟩, 33), (⟨"RailOfHeadsModel", "opens", "([I)V"⟩, 33), (⟨"RailOfHeadsModel", "told", "(II)I"⟩, 33), (⟨"RailOfHeadsModel", "groupOf", "(I)I"⟩, 33), (⟨"RailOfHeadsModel", "isRoom", "(I)Z"⟩, 33), (⟨"RailOfHeadsModel", "minute", "([I)V"⟩, 33), (⟨"RailOfHeadsModel", "goes", "([II)V"⟩, 33), (⟨"RailOfHeadsModel", "enters", "([IIII)V"⟩, 33), (⟨"RailOfHeadsModel", "holdsOne", "([II)Z"⟩, 33), (⟨"RailOfHeadsModel", "inRoom", "([II)I"⟩, 33), (⟨"RailOfHeadsModel", "waits", "([III)V"⟩, 33), (⟨"RailOfHeadsModel", "aim", "([II)I"⟩, 33), (⟨"RailOfHeadsModel", "lawNow", "(I)I"⟩, 33), (⟨"RailOfHeadsModel", "isOpen", "([III)Z"⟩, 33), (⟨"RailOfHeadsModel", "looks", "([III)V"⟩, 33), (⟨"RailOfHeadsModel", "nextRoom", "(II)I"⟩, 33)]
theorem lw_r5 : ∀ q ∈ lw_privs_5, lw_okq q := List.forall_mem_cons.mpr ⟨lw_p64, List.forall_mem_cons.mpr ⟨lw_p65, List.forall_mem_cons.mpr ⟨lw_p66, List.forall_mem_cons.mpr ⟨lw_p67, List.forall_mem_cons.mpr ⟨lw_p68, List.forall_mem_cons.mpr ⟨lw_p69, List.forall_mem_cons.mpr ⟨lw_p70, List.forall_mem_cons.mpr ⟨lw_p71, List.forall_mem_cons.mpr ⟨lw_p72, List.forall_mem_cons.mpr ⟨lw_p73, List.forall_mem_cons.mpr ⟨lw_p74, List.forall_mem_cons.mpr ⟨lw_p75, List.forall_mem_cons.mpr ⟨lw_p76, List.forall_mem_cons.mpr ⟨lw_p77, List.forall_mem_cons.mpr ⟨lw_p78, List.forall_mem_cons.mpr ⟨lw_p79, fun _ h => absurd h List.not_mem_nil⟩⟩⟩⟩⟩⟩⟩⟩⟩⟩⟩⟩⟩⟩⟩⟩
theorem lw_p80 : lw_okq (⟨"RailOfHeadsModel", "isVisitor", "(I)Z"⟩, 33) := ⟨⟨by decide +kernel, by decide +kernel⟩, List.mem_of_getElem? (i := 835) (by decide +kernel), List.mem_of_getElem? (i := 1158) (by decide +kernel), List.mem_of_getElem? (i := 1159) (by decide +kernel)⟩
theorem lw_p81 : lw_okq (⟨"RailOfHeadsModel", "dayOf", "(II)I"⟩, 33) := ⟨⟨by decide +kernel, by decide +kernel⟩, List.mem_of_getElem? (i := 835) (by decide +kernel), List.mem_of_getElem? (i := 1174) (by decide +kernel), List.mem_of_getElem? (i := 1175) (by decide +kernel)⟩
theorem lw_p82 : lw_okq (⟨"RailOfHeadsModel", "bestAt", "(IIIII)I"⟩, 33) := ⟨⟨by decide +kernel, by decide +kernel⟩, List.mem_of_getElem? (i := 835) (by decide +kernel), List.mem_of_getElem? (i := 1185) (by decide +kernel), List.mem_of_getElem? (i := 1186) (by decide +kernel)⟩
theorem lw_p83 : lw_okq (⟨"RailOfHeadsModel", "isEachOnce", "(I)Z"⟩, 33) := ⟨⟨by decide +kernel, by decide +kernel⟩, List.mem_of_getElem? (i := 835) (by decide +kernel), List.mem_of_getElem? (i := 1205) (by decide +kernel), List.mem_of_getElem? (i := 1206) (by decide +kernel)⟩
theorem lw_p84 : lw_okq (⟨"RailOfHeadsModel", "hang", "(II)V"⟩, 33) := ⟨⟨by decide +kernel, by decide +kernel⟩, List.mem_of_getElem? (i := 835) (by decide +kernel), List.mem_of_getElem? (i := 1209) (by decide +kernel), List.mem_of_getElem? (i := 1210) (by decide +kernel)⟩
theorem lw_p85 : lw_okq (⟨"RailOfHeadsModel", "offBy", "(III)I"⟩, 33) := ⟨⟨by decide +kernel, by decide +kernel⟩, List.mem_of_getElem? (i := 835) (by decide +kernel), List.mem_of_getElem? (i := 1223) (by decide +kernel), List.mem_of_getElem? (i := 1224) (by decide +kernel)⟩
theorem lw_p86 : lw_okq (⟨"RailOfHeadsModel", "kindOf", "(I)I"⟩, 33) := ⟨⟨by decide +kernel, by decide +kernel⟩, List.mem_of_getElem? (i := 835) (by decide +kernel), List.mem_of_getElem? (i := 1239) (by decide +kernel), List.mem_of_getElem? (i := 1240) (by decide +kernel)⟩
theorem lw_p87 : lw_okq (⟨"RailOfHeadsModel", "sizeOf", "(I)I"⟩, 33) := ⟨⟨by decide +kernel, by decide +kernel⟩, List.mem_of_getElem? (i := 835) (by decide +kernel), List.mem_of_getElem? (i := 1255) (by decide +kernel), List.mem_of_getElem? (i := 1256) (by decide +kernel)⟩
theorem lw_p88 : lw_okq (⟨"RailOfHeadsModel", "plainSize", "(I)I"⟩, 33) := ⟨⟨by decide +kernel, by decide +kernel⟩, List.mem_of_getElem? (i := 835) (by decide +kernel), List.mem_of_getElem? (i := 1259) (by decide +kernel), List.mem_of_getElem? (i := 1260) (by decide +kernel)⟩
theorem lw_p89 : lw_okq (⟨"RailOfHeadsModel", "began", "(I)V"⟩, 33) := ⟨⟨by decide +kernel, by decide +kernel⟩, List.mem_of_getElem? (i := 835) (by decide +kernel), List.mem_of_getElem? (i := 1263) (by decide +kernel), List.mem_of_getElem? (i := 1264) (by decide +kernel)⟩
theorem lw_p90 : lw_okq (⟨"RailOfHeadsModel", "markOf", "(I)I"⟩, 33) := ⟨⟨by decide +kernel, by decide +kernel⟩, List.mem_of_getElem? (i := 835) (by decide +kernel), List.mem_of_getElem? (i := 1267) (by decide +kernel), List.mem_of_getElem? (i := 1268) (by decide +kernel)⟩
def lw_privs_6 : List (MethodName × Nat) := [(⟨"RailOfHeadsModel", "isVisitor", "(I)Z"⟩, 33), (⟨"RailOfHeadsModel", "dayOf", "(II)I"⟩, 33), (⟨"RailOfHeadsModel", "bestAt", "(IIIII)I"⟩, 33), (⟨"RailOfHeadsModel", "isEachOnce", "(I)Z"⟩, 33), (⟨"RailOfHeadsModel", "hang", "(II)V"⟩, 33), (⟨"RailOfHeadsModel", "offBy", "(III)I"⟩, 33), (⟨"RailOfHeadsModel", "kindOf", "(I)I"⟩, 33), (⟨"RailOfHeadsModel", "sizeOf", "(I)I"⟩, 33), (⟨"RailOfHeadsModel", "plainSize", "(I)I"⟩, 33), (⟨"RailOfHeadsModel", "began", "(I)V"⟩, 33), (⟨"RailOfHeadsModel", "markOf", "(I)I"⟩, 33)]
theorem lw_r6 : ∀ q ∈ lw_privs_6, lw_okq q := List.forall_mem_cons.mpr ⟨lw_p80, List.forall_mem_cons.mpr ⟨lw_p81, List.forall_mem_cons.mpr ⟨lw_p82, List.forall_mem_cons.mpr ⟨lw_p83, List.forall_mem_cons.mpr ⟨lw_p84, List.forall_mem_cons.mpr ⟨lw_p85, List.forall_mem_cons.mpr ⟨lw_p86, List.forall_mem_cons.mpr ⟨lw_p87, List.forall_mem_cons.mpr ⟨lw_p88, List.forall_mem_cons.mpr ⟨lw_p89, List.forall_mem_cons.mpr ⟨lw_p90, fun _ h => absurd h List.not_mem_nil⟩⟩⟩⟩⟩⟩⟩⟩⟩⟩⟩
def lw_privs : List (MethodName × Nat) := lw_privs_1 ++ (lw_privs_2 ++ (lw_privs_3 ++ (lw_privs_4 ++ (lw_privs_5 ++ (lw_privs_6)))))
def lw_tbl : List Cond := k2_sels lw_privs ++ tables_1
theorem lw_privs_ok : ∀ q ∈ lw_privs, lw_okq q := by
  show ∀ q ∈ lw_privs_1 ++ (lw_privs_2 ++ (lw_privs_3 ++ (lw_privs_4 ++ (lw_privs_5 ++ (lw_privs_6))))), lw_okq q
  exact List.forall_mem_append.mpr ⟨lw_r1, List.forall_mem_append.mpr ⟨lw_r2, List.forall_mem_append.mpr ⟨lw_r3, List.forall_mem_append.mpr ⟨lw_r4, List.forall_mem_append.mpr ⟨lw_r5, lw_r6⟩⟩⟩⟩⟩
end
section
def RX0 : String := "RailOfHeads$Asks"
def TX0 : u_T := fun k => match k with
  | 0 => ("RailOfHeads$Asks", "crowd", "LRailOfHeads$Crowd;", true)
  | 1 => ("RailOfHeads$Asks", "bodies", "[I", true)
  | _ => ("RailOfHeads$Asks", "traced", "I", false)
def tyX0 : Nat → FieldType := fun k => match k with
  | 0 => .object "RailOfHeads$Crowd"
  | 1 => .array .int
  | _ => .int
abbrev wsX00 : List Cond := u_ws RX0 TX0 3
theorem nmX0 : ∀ a, a < 3 → ∀ b, b < 3 → a ≠ b → (TX0 a).2.1 ≠ (TX0 b).2.1 := by decide +kernel
theorem tyX0_ok : ∀ k, k < 3 → parseFieldDescriptor (TX0 k).2.2.1 = some (tyX0 k) := by decide +kernel
abbrev cX0_init : ByteArray := prog_2_method_1_code
def yX0_init : MethodName := ⟨RX0, "<init>", "(LRailOfHeads$Crowd;)V"⟩
abbrev cX0_size : ByteArray := prog_2_method_2_code
def yX0_size : MethodName := ⟨RX0, "size", "(II)I"⟩
abbrev cX0_mark : ByteArray := prog_2_method_3_code
def yX0_mark : MethodName := ⟨RX0, "mark", "(II)I"⟩
abbrev cX0_begin : ByteArray := prog_2_method_4_code
def yX0_begin : MethodName := ⟨RX0, "begin", "(I)V"⟩
abbrev cX0_body10 : ByteArray := prog_2_method_5_code
def yX0_body10 : MethodName := ⟨RX0, "body10", "(I)I"⟩
abbrev cX0_body11 : ByteArray := prog_2_method_6_code
def yX0_body11 : MethodName := ⟨RX0, "body11", "(II)I"⟩
abbrev cX0_body12 : ByteArray := prog_2_method_7_code
def yX0_body12 : MethodName := ⟨RX0, "body12", "(II)I"⟩
abbrev cX0_body13 : ByteArray := prog_2_method_8_code
def yX0_body13 : MethodName := ⟨RX0, "body13", "(I)I"⟩
abbrev cX0_body14 : ByteArray := prog_2_method_9_code
def yX0_body14 : MethodName := ⟨RX0, "body14", "(I)I"⟩
abbrev cX0_body20 : ByteArray := prog_2_method_10_code
def yX0_body20 : MethodName := ⟨RX0, "body20", "(I)I"⟩
abbrev cX0_body21 : ByteArray := prog_2_method_11_code
def yX0_body21 : MethodName := ⟨RX0, "body21", "(I)I"⟩
abbrev cX0_body22 : ByteArray := prog_2_method_12_code
def yX0_body22 : MethodName := ⟨RX0, "body22", "(I)I"⟩
abbrev cX0_body23 : ByteArray := prog_2_method_13_code
def yX0_body23 : MethodName := ⟨RX0, "body23", "(II)I"⟩
abbrev cX0_body24 : ByteArray := prog_2_method_14_code
def yX0_body24 : MethodName := ⟨RX0, "body24", "(I)I"⟩
def RX1 : String := "RailOfHeads$Crowd"
def TX1 : u_T := fun k => match k with
  | 0 => ("RailOfHeads$Crowd", "plan", "LRailOfHeads$Plan;", true)
  | 1 => ("RailOfHeads$Crowd", "ways", "LRailOfHeads$Ways;", true)
  | 2 => ("RailOfHeads$Crowd", "minute", "I", false)
  | 3 => ("RailOfHeads$Crowd", "out", "I", false)
  | 4 => ("RailOfHeads$Crowd", "group", "[I", true)
  | 5 => ("RailOfHeads$Crowd", "place", "[I", true)
  | 6 => ("RailOfHeads$Crowd", "patience", "[I", true)
  | 7 => ("RailOfHeads$Crowd", "saw", "[I", true)
  | 8 => ("RailOfHeads$Crowd", "done", "[I", true)
  | 9 => ("RailOfHeads$Crowd", "missed", "[I", true)
  | 10 => ("RailOfHeads$Crowd", "aim", "[I", true)
  | 11 => ("RailOfHeads$Crowd", "looked", "[I", true)
  | 12 => ("RailOfHeads$Crowd", "inside", "[I", true)
  | 13 => ("RailOfHeads$Crowd", "latest", "[I", true)
  | _ => ("RailOfHeads$Crowd", "lookers", "[I", true)
def tyX1 : Nat → FieldType := fun k => match k with
  | 0 => .object "RailOfHeads$Plan"
  | 1 => .object "RailOfHeads$Ways"
  | 2 => .int
  | 3 => .int
  | 4 => .array .int
  | 5 => .array .int
  | 6 => .array .int
  | 7 => .array .int
  | 8 => .array .int
  | 9 => .array .int
  | 10 => .array .int
  | 11 => .array .int
  | 12 => .array .int
  | 13 => .array .int
  | _ => .array .int
abbrev wsX10 : List Cond := u_ws RX1 TX1 15
theorem nmX1 : ∀ a, a < 15 → ∀ b, b < 15 → a ≠ b → (TX1 a).2.1 ≠ (TX1 b).2.1 := by decide +kernel
theorem tyX1_ok : ∀ k, k < 15 → parseFieldDescriptor (TX1 k).2.2.1 = some (tyX1 k) := by decide +kernel
abbrev cX1_init : ByteArray := prog_3_method_1_code
def yX1_init : MethodName := ⟨RX1, "<init>", "(LRailOfHeads$Plan;LRailOfHeads$Ways;)V"⟩
abbrev cX1_begin : ByteArray := prog_3_method_2_code
def yX1_begin : MethodName := ⟨RX1, "begin", "(I)V"⟩
abbrev cX1_takeOver : ByteArray := prog_3_method_3_code
def yX1_takeOver : MethodName := ⟨RX1, "takeOver", "(LRailOfHeads$Crowd;)V"⟩
abbrev cX1_passMinute : ByteArray := prog_3_method_4_code
def yX1_passMinute : MethodName := ⟨RX1, "passMinute", "()V"⟩
abbrev cX1_kindOf : ByteArray := prog_3_method_5_code
def yX1_kindOf : MethodName := ⟨RX1, "kindOf", "(I)I"⟩
abbrev cX1_allSaw : ByteArray := prog_3_method_6_code
def yX1_allSaw : MethodName := ⟨RX1, "allSaw", "()I"⟩
abbrev cX1_leastSaw : ByteArray := prog_3_method_7_code
def yX1_leastSaw : MethodName := ⟨RX1, "leastSaw", "()I"⟩
abbrev cX1_allMissed : ByteArray := prog_3_method_8_code
def yX1_allMissed : MethodName := ⟨RX1, "allMissed", "()I"⟩
abbrev cX1_comeIn : ByteArray := prog_3_method_9_code
def yX1_comeIn : MethodName := ⟨RX1, "comeIn", "(I)V"⟩
abbrev cX1_goAbout : ByteArray := prog_3_method_10_code
def yX1_goAbout : MethodName := ⟨RX1, "goAbout", "(I)V"⟩
abbrev cX1_leave : ByteArray := prog_3_method_11_code
def yX1_leave : MethodName := ⟨RX1, "leave", "(I)V"⟩
abbrev cX1_enter : ByteArray := prog_3_method_12_code
def yX1_enter : MethodName := ⟨RX1, "enter", "(II)Z"⟩
abbrev cX1_lookAt : ByteArray := prog_3_method_13_code
def yX1_lookAt : MethodName := ⟨RX1, "lookAt", "(II)V"⟩
abbrev cX1_waitOn : ByteArray := prog_3_method_14_code
def yX1_waitOn : MethodName := ⟨RX1, "waitOn", "(I)V"⟩
abbrev cX1_chooseAim : ByteArray := prog_3_method_15_code
def yX1_chooseAim : MethodName := ⟨RX1, "chooseAim", "(I)I"⟩
def RX2 : String := "RailOfHeads$House"
def TX2 : u_T := fun k => match k with
  | 0 => ("RailOfHeads$House", "plan", "LRailOfHeads$Plan;", true)
  | 1 => ("RailOfHeads$House", "ways", "LRailOfHeads$Ways;", true)
  | _ => ("RailOfHeads$House", "crowd", "LRailOfHeads$Crowd;", true)
def tyX2 : Nat → FieldType := fun k => match k with
  | 0 => .object "RailOfHeads$Plan"
  | 1 => .object "RailOfHeads$Ways"
  | _ => .object "RailOfHeads$Crowd"
abbrev wsX20 : List Cond := u_ws RX2 TX2 3
theorem nmX2 : ∀ a, a < 3 → ∀ b, b < 3 → a ≠ b → (TX2 a).2.1 ≠ (TX2 b).2.1 := by decide +kernel
theorem tyX2_ok : ∀ k, k < 3 → parseFieldDescriptor (TX2 k).2.2.1 = some (tyX2 k) := by decide +kernel
abbrev cX2_init : ByteArray := prog_4_method_1_code
def yX2_init : MethodName := ⟨RX2, "<init>", "()V"⟩
abbrev cX2_takePlan : ByteArray := prog_4_method_2_code
def yX2_takePlan : MethodName := ⟨RX2, "takePlan", "(LRailOfHeads$House;)V"⟩
abbrev cX2_takeAll : ByteArray := prog_4_method_3_code
def yX2_takeAll : MethodName := ⟨RX2, "takeAll", "(LRailOfHeads$House;)V"⟩
abbrev cX2_seenInDay : ByteArray := prog_4_method_4_code
def yX2_seenInDay : MethodName := ⟨RX2, "seenInDay", "(III)I"⟩
def RX3 : String := "RailOfHeads$Plan"
def TX3 : u_T := fun k => match k with
  | 0 => ("RailOfHeads$Plan", "rail", "I", false)
  | 1 => ("RailOfHeads$Plan", "guard", "I", false)
  | 2 => ("RailOfHeads$Plan", "rooms", "I", false)
  | 3 => ("RailOfHeads$Plan", "holds", "[I", true)
  | 4 => ("RailOfHeads$Plan", "doors", "I", false)
  | 5 => ("RailOfHeads$Plan", "doorFrom", "[I", true)
  | 6 => ("RailOfHeads$Plan", "doorTo", "[I", true)
  | 7 => ("RailOfHeads$Plan", "doorOneWay", "[I", true)
  | 8 => ("RailOfHeads$Plan", "pictures", "I", false)
  | 9 => ("RailOfHeads$Plan", "pictureRoom", "[I", true)
  | 10 => ("RailOfHeads$Plan", "pictureDraw", "[I", true)
  | 11 => ("RailOfHeads$Plan", "pictureMinutes", "[I", true)
  | 12 => ("RailOfHeads$Plan", "groups", "I", false)
  | 13 => ("RailOfHeads$Plan", "groupMany", "[I", true)
  | 14 => ("RailOfHeads$Plan", "groupMinute", "[I", true)
  | 15 => ("RailOfHeads$Plan", "groupLaw", "[I", true)
  | 16 => ("RailOfHeads$Plan", "groupPatience", "[I", true)
  | _ => ("RailOfHeads$Plan", "visitors", "I", false)
def tyX3 : Nat → FieldType := fun k => match k with
  | 0 => .int
  | 1 => .int
  | 2 => .int
  | 3 => .array .int
  | 4 => .int
  | 5 => .array .int
  | 6 => .array .int
  | 7 => .array .int
  | 8 => .int
  | 9 => .array .int
  | 10 => .array .int
  | 11 => .array .int
  | 12 => .int
  | 13 => .array .int
  | 14 => .array .int
  | 15 => .array .int
  | 16 => .array .int
  | _ => .int
abbrev wsX30 : List Cond := u_ws RX3 TX3 18
theorem nmX3 : ∀ a, a < 18 → ∀ b, b < 18 → a ≠ b → (TX3 a).2.1 ≠ (TX3 b).2.1 := by decide +kernel
theorem tyX3_ok : ∀ k, k < 18 → parseFieldDescriptor (TX3 k).2.2.1 = some (tyX3 k) := by decide +kernel
abbrev cX3_init : ByteArray := prog_5_method_1_code
def yX3_init : MethodName := ⟨RX3, "<init>", "()V"⟩
abbrev cX3_clear : ByteArray := prog_5_method_2_code
def yX3_clear : MethodName := ⟨RX3, "clear", "()V"⟩
abbrev cX3_addRoom : ByteArray := prog_5_method_3_code
def yX3_addRoom : MethodName := ⟨RX3, "addRoom", "(I)V"⟩
abbrev cX3_addDoor : ByteArray := prog_5_method_4_code
def yX3_addDoor : MethodName := ⟨RX3, "addDoor", "(IIZ)V"⟩
abbrev cX3_addPicture : ByteArray := prog_5_method_5_code
def yX3_addPicture : MethodName := ⟨RX3, "addPicture", "(II)V"⟩
abbrev cX3_addGroup : ByteArray := prog_5_method_6_code
def yX3_addGroup : MethodName := ⟨RX3, "addGroup", "(IIII)V"⟩
abbrev cX3_takeOver : ByteArray := prog_5_method_7_code
def yX3_takeOver : MethodName := ⟨RX3, "takeOver", "(LRailOfHeads$Plan;)V"⟩
def RX4 : String := "RailOfHeads$Reader"
def TX4 : u_T := fun k => match k with
  | 0 => ("RailOfHeads$Reader", "tape", "[B", true)
  | 1 => ("RailOfHeads$Reader", "length", "I", false)
  | 2 => ("RailOfHeads$Reader", "start", "I", false)
  | 3 => ("RailOfHeads$Reader", "fault", "I", false)
  | 4 => ("RailOfHeads$Reader", "at", "I", false)
  | 5 => ("RailOfHeads$Reader", "sort", "I", false)
  | 6 => ("RailOfHeads$Reader", "number", "I", false)
  | _ => ("RailOfHeads$Reader", "plan", "LRailOfHeads$Plan;", false)
def tyX4 : Nat → FieldType := fun k => match k with
  | 0 => .array .byte
  | 1 => .int
  | 2 => .int
  | 3 => .int
  | 4 => .int
  | 5 => .int
  | 6 => .int
  | _ => .object "RailOfHeads$Plan"
abbrev wsX40 : List Cond := u_ws RX4 TX4 8
theorem nmX4 : ∀ a, a < 8 → ∀ b, b < 8 → a ≠ b → (TX4 a).2.1 ≠ (TX4 b).2.1 := by decide +kernel
theorem tyX4_ok : ∀ k, k < 8 → parseFieldDescriptor (TX4 k).2.2.1 = some (tyX4 k) := by decide +kernel
abbrev cX4_init : ByteArray := prog_6_method_1_code
def yX4_init : MethodName := ⟨RX4, "<init>", "()V"⟩
abbrev cX4_put : ByteArray := prog_6_method_2_code
def yX4_put : MethodName := ⟨RX4, "put", "(B)V"⟩
abbrev cX4_read : ByteArray := prog_6_method_3_code
def yX4_read : MethodName := ⟨RX4, "read", "(LRailOfHeads$Plan;)V"⟩
abbrev cX4_readRail : ByteArray := prog_6_method_4_code
def yX4_readRail : MethodName := ⟨RX4, "readRail", "()V"⟩
abbrev cX4_readRooms : ByteArray := prog_6_method_5_code
def yX4_readRooms : MethodName := ⟨RX4, "readRooms", "()V"⟩
abbrev cX4_readDoors : ByteArray := prog_6_method_6_code
def yX4_readDoors : MethodName := ⟨RX4, "readDoors", "()V"⟩
abbrev cX4_readPictures : ByteArray := prog_6_method_7_code
def yX4_readPictures : MethodName := ⟨RX4, "readPictures", "()V"⟩
abbrev cX4_readGroups : ByteArray := prog_6_method_8_code
def yX4_readGroups : MethodName := ⟨RX4, "readGroups", "()V"⟩
abbrev cX4_takeWord : ByteArray := prog_6_method_9_code
def yX4_takeWord : MethodName := ⟨RX4, "takeWord", "(Ljava/lang/String;II)V"⟩
abbrev cX4_takeNumber : ByteArray := prog_6_method_10_code
def yX4_takeNumber : MethodName := ⟨RX4, "takeNumber", "(II)I"⟩
abbrev cX4_takeLaw : ByteArray := prog_6_method_11_code
def yX4_takeLaw : MethodName := ⟨RX4, "takeLaw", "()I"⟩
abbrev cX4_takeSign : ByteArray := prog_6_method_12_code
def yX4_takeSign : MethodName := ⟨RX4, "takeSign", "()V"⟩
abbrev cX4_isWord : ByteArray := prog_6_method_13_code
def yX4_isWord : MethodName := ⟨RX4, "isWord", "(Ljava/lang/String;)Z"⟩
abbrev cX4_advance : ByteArray := prog_6_method_14_code
def yX4_advance : MethodName := ⟨RX4, "advance", "()V"⟩
abbrev cX4_passName : ByteArray := prog_6_method_15_code
def yX4_passName : MethodName := ⟨RX4, "passName", "()V"⟩
abbrev cX4_passNumber : ByteArray := prog_6_method_16_code
def yX4_passNumber : MethodName := ⟨RX4, "passNumber", "()V"⟩
def RX5 : String := "RailOfHeads$Row"
def TX5 : u_T := fun k => match k with
  | 0 => ("RailOfHeads$Row", "items", "[I", true)
  | 1 => ("RailOfHeads$Row", "missing", "Z", false)
  | 2 => ("RailOfHeads$Row", "lane", "I", false)
  | _ => ("RailOfHeads$Row", "length", "I", false)
def tyX5 : Nat → FieldType := fun k => match k with
  | 0 => .array .int
  | 1 => .boolean
  | 2 => .int
  | _ => .int
abbrev wsX50 : List Cond := u_ws RX5 TX5 4
theorem nmX5 : ∀ a, a < 4 → ∀ b, b < 4 → a ≠ b → (TX5 a).2.1 ≠ (TX5 b).2.1 := by decide +kernel
theorem tyX5_ok : ∀ k, k < 4 → parseFieldDescriptor (TX5 k).2.2.1 = some (tyX5 k) := by decide +kernel
abbrev cX5_init : ByteArray := prog_7_method_1_code
def yX5_init : MethodName := ⟨RX5, "<init>", "()V"⟩
abbrev cX5_make : ByteArray := prog_7_method_2_code
def yX5_make : MethodName := ⟨RX5, "make", "(II)V"⟩
abbrev cX5_holds : ByteArray := prog_7_method_3_code
def yX5_holds : MethodName := ⟨RX5, "holds", "(II)Z"⟩
abbrev cX5_cut : ByteArray := prog_7_method_4_code
def yX5_cut : MethodName := ⟨RX5, "cut", "(I)I"⟩
def RX6 : String := "RailOfHeads$Ways"
def TX6 : u_T := fun k => match k with
  | 0 => ("RailOfHeads$Ways", "doors", "[I", true)
  | _ => ("RailOfHeads$Ways", "next", "[I", true)
def tyX6 : Nat → FieldType := fun k => match k with
  | 0 => .array .int
  | _ => .array .int
abbrev wsX60 : List Cond := u_ws RX6 TX6 2
theorem nmX6 : ∀ a, a < 2 → ∀ b, b < 2 → a ≠ b → (TX6 a).2.1 ≠ (TX6 b).2.1 := by decide +kernel
theorem tyX6_ok : ∀ k, k < 2 → parseFieldDescriptor (TX6 k).2.2.1 = some (tyX6 k) := by decide +kernel
abbrev cX6_init : ByteArray := prog_8_method_1_code
def yX6_init : MethodName := ⟨RX6, "<init>", "()V"⟩
abbrev cX6_measure : ByteArray := prog_8_method_2_code
def yX6_measure : MethodName := ⟨RX6, "measure", "(LRailOfHeads$Plan;)V"⟩
abbrev cX6_takeOver : ByteArray := prog_8_method_3_code
def yX6_takeOver : MethodName := ⟨RX6, "takeOver", "(LRailOfHeads$Ways;)V"⟩
abbrev cX6_openDoors : ByteArray := prog_8_method_4_code
def yX6_openDoors : MethodName := ⟨RX6, "openDoors", "(LRailOfHeads$Plan;)V"⟩
abbrev cX6_nextRoom : ByteArray := prog_8_method_5_code
def yX6_nextRoom : MethodName := ⟨RX6, "nextRoom", "(LRailOfHeads$Plan;II)I"⟩
def RX7 : String := "RailOfHeads"
def TX7 : u_T := fun k => match k with
  | 0 => ("RailOfHeads", "rows", "[LRailOfHeads$Row;", true)
  | 1 => ("RailOfHeads", "reader", "LRailOfHeads$Reader;", true)
  | 2 => ("RailOfHeads", "live", "LRailOfHeads$House;", true)
  | 3 => ("RailOfHeads", "trial", "LRailOfHeads$House;", true)
  | 4 => ("RailOfHeads", "images", "[LRailOfHeads$House;", true)
  | 5 => ("RailOfHeads", "asks", "LRailOfHeads$Asks;", true)
  | 6 => ("RailOfHeads", "hanging", "[I", true)
  | 7 => ("RailOfHeads", "bestHanging", "[I", true)
  | 8 => ("RailOfHeads", "latestFault", "I", false)
  | _ => ("RailOfHeads", "latestFinding", "I", false)
def tyX7 : Nat → FieldType := fun k => match k with
  | 0 => .array (.object "RailOfHeads$Row")
  | 1 => .object "RailOfHeads$Reader"
  | 2 => .object "RailOfHeads$House"
  | 3 => .object "RailOfHeads$House"
  | 4 => .array (.object "RailOfHeads$House")
  | 5 => .object "RailOfHeads$Asks"
  | 6 => .array .int
  | 7 => .array .int
  | 8 => .int
  | _ => .int
abbrev wsX70 : List Cond := u_ws RX7 TX7 10
theorem nmX7 : ∀ a, a < 10 → ∀ b, b < 10 → a ≠ b → (TX7 a).2.1 ≠ (TX7 b).2.1 := by decide +kernel
theorem tyX7_ok : ∀ k, k < 10 → parseFieldDescriptor (TX7 k).2.2.1 = some (tyX7 k) := by decide +kernel
abbrev cX7_init : ByteArray := prog_1_method_1_code
def yX7_init : MethodName := ⟨RX7, "<init>", "()V"⟩
abbrev cX7_row : ByteArray := prog_1_method_2_code
def yX7_row : MethodName := ⟨RX7, "row", "(III)I"⟩
abbrev cX7_set : ByteArray := prog_1_method_3_code
def yX7_set : MethodName := ⟨RX7, "set", "(III)I"⟩
abbrev cX7_copy : ByteArray := prog_1_method_4_code
def yX7_copy : MethodName := ⟨RX7, "copy", "(IIIII)I"⟩
abbrev cX7_drop : ByteArray := prog_1_method_5_code
def yX7_drop : MethodName := ⟨RX7, "drop", "(I)I"⟩
abbrev cX7_feed : ByteArray := prog_1_method_6_code
def yX7_feed : MethodName := ⟨RX7, "feed", "(JI)I"⟩
abbrev cX7_house : ByteArray := prog_1_method_7_code
def yX7_house : MethodName := ⟨RX7, "house", "()I"⟩
abbrev cX7_fault : ByteArray := prog_1_method_8_code
def yX7_fault : MethodName := ⟨RX7, "fault", "()I"⟩
abbrev cX7_far : ByteArray := prog_1_method_9_code
def yX7_far : MethodName := ⟨RX7, "far", "(II)I"⟩
abbrev cX7_go : ByteArray := prog_1_method_10_code
def yX7_go : MethodName := ⟨RX7, "go", "(I)I"⟩
abbrev cX7_rule : ByteArray := prog_1_method_11_code
def yX7_rule : MethodName := ⟨RX7, "rule", "(II)I"⟩
abbrev cX7_visitor : ByteArray := prog_1_method_12_code
def yX7_visitor : MethodName := ⟨RX7, "visitor", "(II)I"⟩
abbrev cX7_room : ByteArray := prog_1_method_13_code
def yX7_room : MethodName := ⟨RX7, "room", "(II)I"⟩
abbrev cX7_seen : ByteArray := prog_1_method_14_code
def yX7_seen : MethodName := ⟨RX7, "seen", "(II)I"⟩
abbrev cX7_bestRule : ByteArray := prog_1_method_15_code
def yX7_bestRule : MethodName := ⟨RX7, "bestRule", "(III)I"⟩
abbrev cX7_tickets : ByteArray := prog_1_method_16_code
def yX7_tickets : MethodName := ⟨RX7, "tickets", "(II)I"⟩
abbrev cX7_oneWay : ByteArray := prog_1_method_17_code
def yX7_oneWay : MethodName := ⟨RX7, "oneWay", "(II)I"⟩
abbrev cX7_picture : ByteArray := prog_1_method_18_code
def yX7_picture : MethodName := ⟨RX7, "picture", "(III)I"⟩
abbrev cX7_hung : ByteArray := prog_1_method_19_code
def yX7_hung : MethodName := ⟨RX7, "hung", "(II)I"⟩
abbrev cX7_fire : ByteArray := prog_1_method_20_code
def yX7_fire : MethodName := ⟨RX7, "fire", "()I"⟩
abbrev cX7_counts : ByteArray := prog_1_method_21_code
def yX7_counts : MethodName := ⟨RX7, "counts", "(IIII)I"⟩
abbrev cX7_image : ByteArray := prog_1_method_22_code
def yX7_image : MethodName := ⟨RX7, "image", "(I)I"⟩
abbrev cX7_restore : ByteArray := prog_1_method_23_code
def yX7_restore : MethodName := ⟨RX7, "restore", "(I)I"⟩
abbrev cX7_kind : ByteArray := prog_1_method_24_code
def yX7_kind : MethodName := ⟨RX7, "kind", "(I)I"⟩
abbrev cX7_as : ByteArray := prog_1_method_25_code
def yX7_as : MethodName := ⟨RX7, "as", "(II)I"⟩
abbrev cX7_ask : ByteArray := prog_1_method_26_code
def yX7_ask : MethodName := ⟨RX7, "ask", "(II)I"⟩
abbrev cX7_trace : ByteArray := prog_1_method_27_code
def yX7_trace : MethodName := ⟨RX7, "trace", "(I)I"⟩
abbrev cX7_count : ByteArray := prog_1_method_28_code
def yX7_count : MethodName := ⟨RX7, "count", "(I)I"⟩
abbrev cX7_status : ByteArray := prog_1_method_29_code
def yX7_status : MethodName := ⟨RX7, "status", "()I"⟩
abbrev cX7_isWithin : ByteArray := prog_1_method_30_code
def yX7_isWithin : MethodName := ⟨RX7, "isWithin", "(III)Z"⟩
abbrev cX7_isBelow : ByteArray := prog_1_method_31_code
def yX7_isBelow : MethodName := ⟨RX7, "isBelow", "(II)Z"⟩
abbrev cX7_noHouse : ByteArray := prog_1_method_32_code
def yX7_noHouse : MethodName := ⟨RX7, "noHouse", "()Z"⟩
abbrev cX7_noVisitor : ByteArray := prog_1_method_33_code
def yX7_noVisitor : MethodName := ⟨RX7, "noVisitor", "(I)Z"⟩
abbrev cX7_noDay : ByteArray := prog_1_method_34_code
def yX7_noDay : MethodName := ⟨RX7, "noDay", "(I)Z"⟩
abbrev cX7_finding : ByteArray := prog_1_method_35_code
def yX7_finding : MethodName := ⟨RX7, "finding", "(I)I"⟩
abbrev cX7_unfound : ByteArray := prog_1_method_36_code
def yX7_unfound : MethodName := ⟨RX7, "unfound", "(I)I"⟩
abbrev cX7_standingRows : ByteArray := prog_1_method_37_code
def yX7_standingRows : MethodName := ⟨RX7, "standingRows", "()I"⟩
abbrev cX7_bestRail : ByteArray := prog_1_method_38_code
def yX7_bestRail : MethodName := ⟨RX7, "bestRail", "(II)I"⟩
abbrev cX7_bestGuard : ByteArray := prog_1_method_39_code
def yX7_bestGuard : MethodName := ⟨RX7, "bestGuard", "(II)I"⟩
abbrev cX7_hangBest : ByteArray := prog_1_method_40_code
def yX7_hangBest : MethodName := ⟨RX7, "hangBest", "(II)I"⟩
abbrev cX7_hangBy : ByteArray := prog_1_method_41_code
def yX7_hangBy : MethodName := ⟨RX7, "hangBy", "(II)Z"⟩
abbrev cX7_nearestLaw : ByteArray := prog_1_method_42_code
def yX7_nearestLaw : MethodName := ⟨RX7, "nearestLaw", "(ILRailOfHeads$Row;II)I"⟩
abbrev cX7_offBy : ByteArray := prog_1_method_43_code
def yX7_offBy : MethodName := ⟨RX7, "offBy", "(ILRailOfHeads$Row;II)I"⟩
def RX8 : String := "RailOfHeadsModel"
def TX8 : u_T := fun k => match k with
  | 0 => ("RailOfHeadsModel", "thrown", "I", false)
  | 1 => ("RailOfHeadsModel", "status", "I", false)
  | 2 => ("RailOfHeadsModel", "lane", "[I", true)
  | 3 => ("RailOfHeadsModel", "many", "[I", true)
  | 4 => ("RailOfHeadsModel", "item", "[I", true)
  | 5 => ("RailOfHeadsModel", "house", "[I", true)
  | 6 => ("RailOfHeadsModel", "fresh", "[I", true)
  | 7 => ("RailOfHeadsModel", "isThere", "Z", false)
  | 8 => ("RailOfHeadsModel", "now", "[I", true)
  | 9 => ("RailOfHeadsModel", "day", "[I", true)
  | 10 => ("RailOfHeadsModel", "tape", "[I", true)
  | 11 => ("RailOfHeadsModel", "taped", "I", false)
  | 12 => ("RailOfHeadsModel", "latest", "I", false)
  | 13 => ("RailOfHeadsModel", "length", "I", false)
  | 14 => ("RailOfHeadsModel", "cursor", "I", false)
  | 15 => ("RailOfHeadsModel", "token", "I", false)
  | 16 => ("RailOfHeadsModel", "start", "I", false)
  | 17 => ("RailOfHeadsModel", "till", "I", false)
  | 18 => ("RailOfHeadsModel", "fault", "I", false)
  | 19 => ("RailOfHeadsModel", "faultAt", "I", false)
  | 20 => ("RailOfHeadsModel", "far", "[I", true)
  | 21 => ("RailOfHeadsModel", "lawForAll", "I", false)
  | 22 => ("RailOfHeadsModel", "copied", "I", false)
  | 23 => ("RailOfHeadsModel", "gonePicture", "I", false)
  | 24 => ("RailOfHeadsModel", "heads", "[I", true)
  | 25 => ("RailOfHeadsModel", "hangs", "[I", true)
  | 26 => ("RailOfHeadsModel", "bestHung", "[I", true)
  | 27 => ("RailOfHeadsModel", "mostHung", "I", false)
  | 28 => ("RailOfHeadsModel", "isKept", "[Z", true)
  | 29 => ("RailOfHeadsModel", "keptHouse", "[I", true)
  | 30 => ("RailOfHeadsModel", "keptNow", "[I", true)
  | 31 => ("RailOfHeadsModel", "trace", "[I", true)
  | _ => ("RailOfHeadsModel", "traced", "I", false)
def tyX8 : Nat → FieldType := fun k => match k with
  | 0 => .int
  | 1 => .int
  | 2 => .array .int
  | 3 => .array .int
  | 4 => .array .int
  | 5 => .array .int
  | 6 => .array .int
  | 7 => .boolean
  | 8 => .array .int
  | 9 => .array .int
  | 10 => .array .int
  | 11 => .int
  | 12 => .int
  | 13 => .int
  | 14 => .int
  | 15 => .int
  | 16 => .int
  | 17 => .int
  | 18 => .int
  | 19 => .int
  | 20 => .array .int
  | 21 => .int
  | 22 => .int
  | 23 => .int
  | 24 => .array .int
  | 25 => .array .int
  | 26 => .array .int
  | 27 => .int
  | 28 => .array .boolean
  | 29 => .array .int
  | 30 => .array .int
  | 31 => .array .int
  | _ => .int
abbrev wsX80 : List Cond := u_ws RX8 TX8 33
theorem nmX8 : ∀ a, a < 33 → ∀ b, b < 33 → a ≠ b → (TX8 a).2.1 ≠ (TX8 b).2.1 := by decide +kernel
theorem tyX8_ok : ∀ k, k < 33 → parseFieldDescriptor (TX8 k).2.2.1 = some (tyX8 k) := by decide +kernel
abbrev cX8_init : ByteArray := prog_10_method_1_code
def yX8_init : MethodName := ⟨RX8, "<init>", "()V"⟩
abbrev cX8_in : ByteArray := prog_10_method_3_code
def yX8_in : MethodName := ⟨RX8, "in", "(JJJ)Z"⟩
abbrev cX8_finding : ByteArray := prog_10_method_4_code
def yX8_finding : MethodName := ⟨RX8, "finding", "(I)I"⟩
abbrev cX8_isRow : ByteArray := prog_10_method_5_code
def yX8_isRow : MethodName := ⟨RX8, "isRow", "(I)Z"⟩
abbrev cX8_row : ByteArray := prog_10_method_6_code
def yX8_row : MethodName := ⟨RX8, "row", "(III)I"⟩
abbrev cX8_set : ByteArray := prog_10_method_7_code
def yX8_set : MethodName := ⟨RX8, "set", "(III)I"⟩
abbrev cX8_copy : ByteArray := prog_10_method_8_code
def yX8_copy : MethodName := ⟨RX8, "copy", "(IIIII)I"⟩
abbrev cX8_drop : ByteArray := prog_10_method_9_code
def yX8_drop : MethodName := ⟨RX8, "drop", "(I)I"⟩
abbrev cX8_feed : ByteArray := prog_10_method_10_code
def yX8_feed : MethodName := ⟨RX8, "feed", "(JI)I"⟩
abbrev cX8_byteAt : ByteArray := prog_10_method_11_code
def yX8_byteAt : MethodName := ⟨RX8, "byteAt", "(I)I"⟩
abbrev cX8_isLetter : ByteArray := prog_10_method_12_code
def yX8_isLetter : MethodName := ⟨RX8, "isLetter", "(I)Z"⟩
abbrev cX8_isFigure : ByteArray := prog_10_method_13_code
def yX8_isFigure : MethodName := ⟨RX8, "isFigure", "(I)Z"⟩
abbrev cX8_next : ByteArray := prog_10_method_14_code
def yX8_next : MethodName := ⟨RX8, "next", "()V"⟩
abbrev cX8_begin : ByteArray := prog_10_method_15_code
def yX8_begin : MethodName := ⟨RX8, "begin", "()V"⟩
abbrev cX8_bad : ByteArray := prog_10_method_16_code
def yX8_bad : MethodName := ⟨RX8, "bad", "(I)V"⟩
abbrev cX8_must : ByteArray := prog_10_method_17_code
def yX8_must : MethodName := ⟨RX8, "must", "(Z)V"⟩
abbrev cX8_name : ByteArray := prog_10_method_18_code
def yX8_name : MethodName := ⟨RX8, "name", "()J"⟩
abbrev cX8_figures : ByteArray := prog_10_method_19_code
def yX8_figures : MethodName := ⟨RX8, "figures", "()I"⟩
abbrev cX8_number : ByteArray := prog_10_method_20_code
def yX8_number : MethodName := ⟨RX8, "number", "(II)I"⟩
abbrev cX8_lawOf : ByteArray := prog_10_method_21_code
def yX8_lawOf : MethodName := ⟨RX8, "lawOf", "(J)I"⟩
abbrev cX8_mustEnd : ByteArray := prog_10_method_22_code
def yX8_mustEnd : MethodName := ⟨RX8, "mustEnd", "()V"⟩
abbrev cX8_begins : ByteArray := prog_10_method_23_code
def yX8_begins : MethodName := ⟨RX8, "begins", "(II)V"⟩
abbrev cX8_mustBegin : ByteArray := prog_10_method_24_code
def yX8_mustBegin : MethodName := ⟨RX8, "mustBegin", "(J)V"⟩
abbrev cX8_readRail : ByteArray := prog_10_method_25_code
def yX8_readRail : MethodName := ⟨RX8, "readRail", "()V"⟩
abbrev cX8_readRoom : ByteArray := prog_10_method_26_code
def yX8_readRoom : MethodName := ⟨RX8, "readRoom", "()V"⟩
abbrev cX8_readDoor : ByteArray := prog_10_method_27_code
def yX8_readDoor : MethodName := ⟨RX8, "readDoor", "()V"⟩
abbrev cX8_readPicture : ByteArray := prog_10_method_28_code
def yX8_readPicture : MethodName := ⟨RX8, "readPicture", "()V"⟩
abbrev cX8_readGroup : ByteArray := prog_10_method_29_code
def yX8_readGroup : MethodName := ⟨RX8, "readGroup", "()V"⟩
abbrev cX8_house : ByteArray := prog_10_method_30_code
def yX8_house : MethodName := ⟨RX8, "house", "()I"⟩
abbrev cX8_fault : ByteArray := prog_10_method_31_code
def yX8_fault : MethodName := ⟨RX8, "fault", "()I"⟩
abbrev cX8_leads : ByteArray := prog_10_method_32_code
def yX8_leads : MethodName := ⟨RX8, "leads", "(III)Z"⟩
abbrev cX8_layFar : ByteArray := prog_10_method_33_code
def yX8_layFar : MethodName := ⟨RX8, "layFar", "()V"⟩
abbrev cX8_isRoom : ByteArray := prog_10_method_34_code
def yX8_isRoom : MethodName := ⟨RX8, "isRoom", "(I)Z"⟩
abbrev cX8_far : ByteArray := prog_10_method_35_code
def yX8_far : MethodName := ⟨RX8, "far", "(II)I"⟩
abbrev cX8_groupOf : ByteArray := prog_10_method_36_code
def yX8_groupOf : MethodName := ⟨RX8, "groupOf", "(I)I"⟩
abbrev cX8_told : ByteArray := prog_10_method_37_code
def yX8_told : MethodName := ⟨RX8, "told", "(II)I"⟩
abbrev cX8_opens : ByteArray := prog_10_method_38_code
def yX8_opens : MethodName := ⟨RX8, "opens", "([I)V"⟩
abbrev cX8_isOpen : ByteArray := prog_10_method_39_code
def yX8_isOpen : MethodName := ⟨RX8, "isOpen", "([III)Z"⟩
abbrev cX8_lawNow : ByteArray := prog_10_method_40_code
def yX8_lawNow : MethodName := ⟨RX8, "lawNow", "(I)I"⟩
abbrev cX8_aim : ByteArray := prog_10_method_41_code
def yX8_aim : MethodName := ⟨RX8, "aim", "([II)I"⟩
abbrev cX8_inRoom : ByteArray := prog_10_method_42_code
def yX8_inRoom : MethodName := ⟨RX8, "inRoom", "([II)I"⟩
abbrev cX8_holdsOne : ByteArray := prog_10_method_43_code
def yX8_holdsOne : MethodName := ⟨RX8, "holdsOne", "([II)Z"⟩
abbrev cX8_waits : ByteArray := prog_10_method_44_code
def yX8_waits : MethodName := ⟨RX8, "waits", "([III)V"⟩
abbrev cX8_looks : ByteArray := prog_10_method_45_code
def yX8_looks : MethodName := ⟨RX8, "looks", "([III)V"⟩
abbrev cX8_nextRoom : ByteArray := prog_10_method_46_code
def yX8_nextRoom : MethodName := ⟨RX8, "nextRoom", "(II)I"⟩
abbrev cX8_goes : ByteArray := prog_10_method_47_code
def yX8_goes : MethodName := ⟨RX8, "goes", "([II)V"⟩
abbrev cX8_enters : ByteArray := prog_10_method_48_code
def yX8_enters : MethodName := ⟨RX8, "enters", "([IIII)V"⟩
abbrev cX8_minute : ByteArray := prog_10_method_49_code
def yX8_minute : MethodName := ⟨RX8, "minute", "([I)V"⟩
abbrev cX8_go : ByteArray := prog_10_method_50_code
def yX8_go : MethodName := ⟨RX8, "go", "(I)I"⟩
abbrev cX8_rule : ByteArray := prog_10_method_51_code
def yX8_rule : MethodName := ⟨RX8, "rule", "(II)I"⟩
abbrev cX8_isVisitor : ByteArray := prog_10_method_52_code
def yX8_isVisitor : MethodName := ⟨RX8, "isVisitor", "(I)Z"⟩
abbrev cX8_visitor : ByteArray := prog_10_method_53_code
def yX8_visitor : MethodName := ⟨RX8, "visitor", "(II)I"⟩
abbrev cX8_room : ByteArray := prog_10_method_54_code
def yX8_room : MethodName := ⟨RX8, "room", "(II)I"⟩
abbrev cX8_isLong : ByteArray := prog_10_method_55_code
def yX8_isLong : MethodName := ⟨RX8, "isLong", "(I)Z"⟩
abbrev cX8_ones : ByteArray := prog_10_method_56_code
def yX8_ones : MethodName := ⟨RX8, "ones", "(I)I"⟩
abbrev cX8_dayOf : ByteArray := prog_10_method_57_code
def yX8_dayOf : MethodName := ⟨RX8, "dayOf", "(II)I"⟩
abbrev cX8_seen : ByteArray := prog_10_method_58_code
def yX8_seen : MethodName := ⟨RX8, "seen", "(II)I"⟩
abbrev cX8_bestAt : ByteArray := prog_10_method_59_code
def yX8_bestAt : MethodName := ⟨RX8, "bestAt", "(IIIII)I"⟩
abbrev cX8_bestRule : ByteArray := prog_10_method_60_code
def yX8_bestRule : MethodName := ⟨RX8, "bestRule", "(III)I"⟩
abbrev cX8_tickets : ByteArray := prog_10_method_61_code
def yX8_tickets : MethodName := ⟨RX8, "tickets", "(II)I"⟩
abbrev cX8_oneWay : ByteArray := prog_10_method_62_code
def yX8_oneWay : MethodName := ⟨RX8, "oneWay", "(II)I"⟩
abbrev cX8_picture : ByteArray := prog_10_method_63_code
def yX8_picture : MethodName := ⟨RX8, "picture", "(III)I"⟩
abbrev cX8_isEachOnce : ByteArray := prog_10_method_64_code
def yX8_isEachOnce : MethodName := ⟨RX8, "isEachOnce", "(I)Z"⟩
abbrev cX8_hang : ByteArray := prog_10_method_65_code
def yX8_hang : MethodName := ⟨RX8, "hang", "(II)V"⟩
abbrev cX8_hung : ByteArray := prog_10_method_66_code
def yX8_hung : MethodName := ⟨RX8, "hung", "(II)I"⟩
abbrev cX8_fire : ByteArray := prog_10_method_67_code
def yX8_fire : MethodName := ⟨RX8, "fire", "()I"⟩
abbrev cX8_offBy : ByteArray := prog_10_method_68_code
def yX8_offBy : MethodName := ⟨RX8, "offBy", "(III)I"⟩
abbrev cX8_counts : ByteArray := prog_10_method_69_code
def yX8_counts : MethodName := ⟨RX8, "counts", "(IIII)I"⟩
abbrev cX8_image : ByteArray := prog_10_method_70_code
def yX8_image : MethodName := ⟨RX8, "image", "(I)I"⟩
abbrev cX8_restore : ByteArray := prog_10_method_71_code
def yX8_restore : MethodName := ⟨RX8, "restore", "(I)I"⟩
abbrev cX8_kindOf : ByteArray := prog_10_method_72_code
def yX8_kindOf : MethodName := ⟨RX8, "kindOf", "(I)I"⟩
abbrev cX8_isOf : ByteArray := prog_10_method_73_code
def yX8_isOf : MethodName := ⟨RX8, "isOf", "(II)Z"⟩
abbrev cX8_kind : ByteArray := prog_10_method_74_code
def yX8_kind : MethodName := ⟨RX8, "kind", "(I)I"⟩
abbrev cX8_as : ByteArray := prog_10_method_75_code
def yX8_as : MethodName := ⟨RX8, "as", "(II)I"⟩
abbrev cX8_began : ByteArray := prog_10_method_76_code
def yX8_began : MethodName := ⟨RX8, "began", "(I)V"⟩
abbrev cX8_plainSize : ByteArray := prog_10_method_77_code
def yX8_plainSize : MethodName := ⟨RX8, "plainSize", "(I)I"⟩
abbrev cX8_markOf : ByteArray := prog_10_method_78_code
def yX8_markOf : MethodName := ⟨RX8, "markOf", "(I)I"⟩
abbrev cX8_sizeOf : ByteArray := prog_10_method_79_code
def yX8_sizeOf : MethodName := ⟨RX8, "sizeOf", "(I)I"⟩
abbrev cX8_ask : ByteArray := prog_10_method_80_code
def yX8_ask : MethodName := ⟨RX8, "ask", "(II)I"⟩
abbrev cX8_trace : ByteArray := prog_10_method_81_code
def yX8_trace : MethodName := ⟨RX8, "trace", "(I)I"⟩
abbrev cX8_count : ByteArray := prog_10_method_82_code
def yX8_count : MethodName := ⟨RX8, "count", "(I)I"⟩
abbrev cX8_status : ByteArray := prog_10_method_83_code
def yX8_status : MethodName := ⟨RX8, "status", "()I"⟩
def RJx145de : String := "java/io/Serializable"
def TJx145de : u_T := fun k => match k with
  | _ => ("", "", "", false)
def tyJx145de : Nat → FieldType := fun k => match k with
  | _ => .int
abbrev wsJx145de0 : List Cond := u_ws RJx145de TJx145de 0
theorem nmJx145de : ∀ a, a < 0 → ∀ b, b < 0 → a ≠ b → (TJx145de a).2.1 ≠ (TJx145de b).2.1 := by decide +kernel
theorem tyJx145de_ok : ∀ k, k < 0 → parseFieldDescriptor (TJx145de k).2.2.1 = some (tyJx145de k) := by decide +kernel
def RJx9f9b0 : String := "java/lang/CharSequence"
def TJx9f9b0 : u_T := fun k => match k with
  | _ => ("", "", "", false)
def tyJx9f9b0 : Nat → FieldType := fun k => match k with
  | _ => .int
abbrev wsJx9f9b00 : List Cond := u_ws RJx9f9b0 TJx9f9b0 0
theorem nmJx9f9b0 : ∀ a, a < 0 → ∀ b, b < 0 → a ≠ b → (TJx9f9b0 a).2.1 ≠ (TJx9f9b0 b).2.1 := by decide +kernel
theorem tyJx9f9b0_ok : ∀ k, k < 0 → parseFieldDescriptor (TJx9f9b0 k).2.2.1 = some (tyJx9f9b0 k) := by decide +kernel
def RJxb160c : String := "java/lang/Comparable"
def TJxb160c : u_T := fun k => match k with
  | _ => ("", "", "", false)
def tyJxb160c : Nat → FieldType := fun k => match k with
  | _ => .int
abbrev wsJxb160c0 : List Cond := u_ws RJxb160c TJxb160c 0
theorem nmJxb160c : ∀ a, a < 0 → ∀ b, b < 0 → a ≠ b → (TJxb160c a).2.1 ≠ (TJxb160c b).2.1 := by decide +kernel
theorem tyJxb160c_ok : ∀ k, k < 0 → parseFieldDescriptor (TJxb160c k).2.2.1 = some (tyJxb160c k) := by decide +kernel
def RJ6 : String := "java/lang/Integer"
def TJ6 : u_T := fun k => match k with
  | _ => ("", "", "", false)
def tyJ6 : Nat → FieldType := fun k => match k with
  | _ => .int
abbrev wsJ60 : List Cond := u_ws RJ6 TJ6 0
theorem nmJ6 : ∀ a, a < 0 → ∀ b, b < 0 → a ≠ b → (TJ6 a).2.1 ≠ (TJ6 b).2.1 := by decide +kernel
theorem tyJ6_ok : ∀ k, k < 0 → parseFieldDescriptor (TJ6 k).2.2.1 = some (tyJ6 k) := by decide +kernel
abbrev cJ6_bitCount_0f7a4 : ByteArray := prog_11_method_49_code
def yJ6_bitCount_0f7a4 : MethodName := ⟨RJ6, "bitCount", "(I)I"⟩
def RJ9 : String := "java/lang/Math"
def TJ9 : u_T := fun k => match k with
  | _ => ("", "", "", false)
def tyJ9 : Nat → FieldType := fun k => match k with
  | _ => .int
abbrev wsJ90 : List Cond := u_ws RJ9 TJ9 0
theorem nmJ9 : ∀ a, a < 0 → ∀ b, b < 0 → a ≠ b → (TJ9 a).2.1 ≠ (TJ9 b).2.1 := by decide +kernel
theorem tyJ9_ok : ∀ k, k < 0 → parseFieldDescriptor (TJ9 k).2.2.1 = some (tyJ9 k) := by decide +kernel
abbrev cJ9_abs_0f7a4 : ByteArray := prog_12_method_59_code
def yJ9_abs_0f7a4 : MethodName := ⟨RJ9, "abs", "(I)I"⟩
abbrev cJ9_max_7cf53 : ByteArray := prog_12_method_65_code
def yJ9_max_7cf53 : MethodName := ⟨RJ9, "max", "(II)I"⟩
abbrev cJ9_min_7cf53 : ByteArray := prog_12_method_69_code
def yJ9_min_7cf53 : MethodName := ⟨RJ9, "min", "(II)I"⟩
def RJ0 : String := "java/lang/String"
def TJ0 : u_T := fun k => match k with
  | _ => ("", "", "", false)
def tyJ0 : Nat → FieldType := fun k => match k with
  | _ => .int
abbrev wsJ00 : List Cond := u_ws RJ0 TJ0 0
theorem nmJ0 : ∀ a, a < 0 → ∀ b, b < 0 → a ≠ b → (TJ0 a).2.1 ≠ (TJ0 b).2.1 := by decide +kernel
theorem tyJ0_ok : ∀ k, k < 0 → parseFieldDescriptor (TJ0 k).2.2.1 = some (tyJ0 k) := by decide +kernel
abbrev cJ0_length_8abf5 : ByteArray := prog_13_method_54_code
def yJ0_length_8abf5 : MethodName := ⟨RJ0, "length", "()I"⟩
abbrev cJ0_charAt_5068e : ByteArray := prog_13_method_56_code
def yJ0_charAt_5068e : MethodName := ⟨RJ0, "charAt", "(I)C"⟩
abbrev cJ0_coder_7d493 : ByteArray := prog_13_method_152_code
def yJ0_coder_7d493 : MethodName := ⟨RJ0, "coder", "()B"⟩
abbrev cJ0_isLatin1_aae02 : ByteArray := prog_13_method_154_code
def yJ0_isLatin1_aae02 : MethodName := ⟨RJ0, "isLatin1", "()Z"⟩
abbrev cJ0_checkIndex_df160 : ByteArray := prog_13_method_155_code
def yJ0_checkIndex_df160 : MethodName := ⟨RJ0, "checkIndex", "(II)V"⟩
def RJ1 : String := "java/lang/StringLatin1"
def TJ1 : u_T := fun k => match k with
  | _ => ("", "", "", false)
def tyJ1 : Nat → FieldType := fun k => match k with
  | _ => .int
abbrev wsJ10 : List Cond := u_ws RJ1 TJ1 0
theorem nmJ1 : ∀ a, a < 0 → ∀ b, b < 0 → a ≠ b → (TJ1 a).2.1 ≠ (TJ1 b).2.1 := by decide +kernel
theorem tyJ1_ok : ∀ k, k < 0 → parseFieldDescriptor (TJ1 k).2.2.1 = some (tyJ1 k) := by decide +kernel
abbrev cJ1_charAt_3b067 : ByteArray := prog_14_method_2_code
def yJ1_charAt_3b067 : MethodName := ⟨RJ1, "charAt", "([BI)C"⟩
def RJ2 : String := "java/lang/StringUTF16"
def TJ2 : u_T := fun k => match k with
  | _ => ("", "", "", false)
def tyJ2 : Nat → FieldType := fun k => match k with
  | _ => .int
abbrev wsJ20 : List Cond := u_ws RJ2 TJ2 0
theorem nmJ2 : ∀ a, a < 0 → ∀ b, b < 0 → a ≠ b → (TJ2 a).2.1 ≠ (TJ2 b).2.1 := by decide +kernel
theorem tyJ2_ok : ∀ k, k < 0 → parseFieldDescriptor (TJ2 k).2.2.1 = some (tyJ2 k) := by decide +kernel
abbrev cJ2_getChar_3b067 : ByteArray := prog_15_method_5_code
def yJ2_getChar_3b067 : MethodName := ⟨RJ2, "getChar", "([BI)C"⟩
abbrev cJ2_length_9d52b : ByteArray := prog_15_method_6_code
def yJ2_length_9d52b : MethodName := ⟨RJ2, "length", "([B)I"⟩
abbrev cJ2_charAt_3b067 : ByteArray := prog_15_method_83_code
def yJ2_charAt_3b067 : MethodName := ⟨RJ2, "charAt", "([BI)C"⟩
abbrev cJ2_checkIndex_2214a : ByteArray := prog_15_method_91_code
def yJ2_checkIndex_2214a : MethodName := ⟨RJ2, "checkIndex", "(I[B)V"⟩
def RJ10 : String := "java/lang/System"
def TJ10 : u_T := fun k => match k with
  | _ => ("", "", "", false)
def tyJ10 : Nat → FieldType := fun k => match k with
  | _ => .int
abbrev wsJ100 : List Cond := u_ws RJ10 TJ10 0
theorem nmJ10 : ∀ a, a < 0 → ∀ b, b < 0 → a ≠ b → (TJ10 a).2.1 ≠ (TJ10 b).2.1 := by decide +kernel
theorem tyJ10_ok : ∀ k, k < 0 → parseFieldDescriptor (TJ10 k).2.2.1 = some (tyJ10 k) := by decide +kernel
def RJxfd54e : String := "java/lang/constant/Constable"
def TJxfd54e : u_T := fun k => match k with
  | _ => ("", "", "", false)
def tyJxfd54e : Nat → FieldType := fun k => match k with
  | _ => .int
abbrev wsJxfd54e0 : List Cond := u_ws RJxfd54e TJxfd54e 0
theorem nmJxfd54e : ∀ a, a < 0 → ∀ b, b < 0 → a ≠ b → (TJxfd54e a).2.1 ≠ (TJxfd54e b).2.1 := by decide +kernel
theorem tyJxfd54e_ok : ∀ k, k < 0 → parseFieldDescriptor (TJxfd54e k).2.2.1 = some (tyJxfd54e k) := by decide +kernel
def RJx3cf43 : String := "java/lang/constant/ConstantDesc"
def TJx3cf43 : u_T := fun k => match k with
  | _ => ("", "", "", false)
def tyJx3cf43 : Nat → FieldType := fun k => match k with
  | _ => .int
abbrev wsJx3cf430 : List Cond := u_ws RJx3cf43 TJx3cf43 0
theorem nmJx3cf43 : ∀ a, a < 0 → ∀ b, b < 0 → a ≠ b → (TJx3cf43 a).2.1 ≠ (TJx3cf43 b).2.1 := by decide +kernel
theorem tyJx3cf43_ok : ∀ k, k < 0 → parseFieldDescriptor (TJx3cf43 k).2.2.1 = some (tyJx3cf43 k) := by decide +kernel
def RJ7 : String := "java/util/Arrays"
def TJ7 : u_T := fun k => match k with
  | _ => ("", "", "", false)
def tyJ7 : Nat → FieldType := fun k => match k with
  | _ => .int
abbrev wsJ70 : List Cond := u_ws RJ7 TJ7 0
theorem nmJ7 : ∀ a, a < 0 → ∀ b, b < 0 → a ≠ b → (TJ7 a).2.1 ≠ (TJ7 b).2.1 := by decide +kernel
theorem tyJ7_ok : ∀ k, k < 0 → parseFieldDescriptor (TJ7 k).2.2.1 = some (tyJ7 k) := by decide +kernel
abbrev cJ7_fill_53178 : ByteArray := prog_17_method_103_code
def yJ7_fill_53178 : MethodName := ⟨RJ7, "fill", "([II)V"⟩
def RJ3 : String := "jdk/internal/util/Preconditions"
def TJ3 : u_T := fun k => match k with
  | _ => ("", "", "", false)
def tyJ3 : Nat → FieldType := fun k => match k with
  | _ => .int
abbrev wsJ30 : List Cond := u_ws RJ3 TJ3 0
theorem nmJ3 : ∀ a, a < 0 → ∀ b, b < 0 → a ≠ b → (TJ3 a).2.1 ≠ (TJ3 b).2.1 := by decide +kernel
theorem tyJ3_ok : ∀ k, k < 0 → parseFieldDescriptor (TJ3 k).2.2.1 = some (tyJ3 k) := by decide +kernel
abbrev cJ3_checkIndex_8e157 : ByteArray := prog_18_method_11_code
def yJ3_checkIndex_8e157 : MethodName := ⟨RJ3, "checkIndex", "(IILjava/util/function/BiFunction;)I"⟩
def RL : String := "RailOfHeadsLaw"
abbrev cL_law : ByteArray := code
def yL_law : MethodName := ⟨RL, "law", "([I)Z"⟩

abbrev vwCl : List vw_C := [(RX0, TX0, 3), (RX1, TX1, 15), (RX2, TX2, 3), (RX3, TX3, 18), (RX4, TX4, 8), (RX5, TX5, 4), (RX6, TX6, 2), (RX7, TX7, 10), (RX8, TX8, 33)]
end
section
/-! ===== the shape of the heap behind the two constructors: cell (k, o) ===== -/
def mx_nth : List Nat → Nat → Nat
  | [], _ => 0
  | a :: _, 0 => a
  | _ :: l, n + 1 => mx_nth l n
def mx_nthL {α : Type} : List (List α) → Nat → List α
  | [], _ => []
  | a :: _, 0 => a
  | _ :: l, n + 1 => mx_nthL l n
def mx_nthP : List (Nat × Nat × Nat) → Nat → Nat × Nat × Nat
  | [], _ => (0, 0, 0)
  | a :: _, 0 => a
  | _ :: l, n + 1 => mx_nthP l n
def mx_nthI : List Int32 → Nat → Int32
  | [], _ => 0
  | a :: _, 0 => a
  | _ :: l, n + 1 => mx_nthI l n
def mx_cOT : List Nat := [3, 4, 0, 0, 0, 0, 0, 0, 0, 0, 0, 0, 0, 7, 0, 0, 2, 0, 0, 0, 0, 0, 0, 0, 0, 0, 0, 0, 8, 5, 0, 0, 6, 0, 0, 1, 0, 0, 0, 9, 0, 0, 0, 0, 0, 0, 0, 0, 0, 0, 0, 0, 0, 0, 0]
def mx_aTT : List Nat := [0, 0, 1, 1, 1, 1, 1, 1, 1, 1, 1, 1, 1, 0, 1, 1, 0, 1, 1, 1, 1, 1, 1, 1, 1, 1, 1, 1, 0, 0, 2, 4, 0, 1, 5, 0, 1, 1, 1, 0, 1, 1, 1, 1, 1, 1, 1, 1, 1, 1, 1, 3, 1, 1, 1]
def mx_aNT : List Nat := [0, 0, 6, 9, 9, 9, 8, 8, 8, 6, 6, 6, 6, 0, 36, 36, 0, 30, 30, 30, 30, 30, 30, 30, 240, 6, 30, 8, 0, 0, 400, 8, 0, 40, 2, 0, 16, 4, 4, 0, 8, 8, 320, 80, 80, 421, 400, 36, 8, 8, 8, 2, 160, 842, 16]
def mx_kMT : List Nat := [4, 4, 4, 4, 4, 4, 4, 4, 4, 4, 4, 4, 4, 4, 4, 4, 4, 4, 4, 4, 4, 4, 4, 4, 4, 4, 4, 4, 1, 1, 1, 1, 8, 8, 1, 1, 1, 1, 1, 1, 1, 1, 1, 1, 1, 2, 1, 1, 1, 1, 1, 1, 1, 1, 1]
def mx_fkT : List (List Nat) := [[2, 2, 2], [0, 0, 0, 2, 0, 2, 2, 2, 0, 2, 2, 2, 0, 2, 2, 2, 2, 0], [], [], [], [], [], [], [], [], [], [], [], [2, 2], [], [], [2, 2, 0, 0, 2, 2, 2, 2, 2, 2, 2, 2, 2, 2, 2], [], [], [], [], [], [], [], [], [], [], [], [2, 2, 2, 2, 2, 2, 2, 2, 0, 0], [2, 0, 0, 0, 0, 0, 0, 3], [], [], [2, 1, 0, 0], [], [], [2, 2, 0], [], [], [], [0, 0, 2, 2, 2, 2, 2, 1, 2, 2, 2, 0, 0, 0, 0, 0, 0, 0, 0, 0, 2, 0, 0, 0, 2, 2, 2, 0, 2, 2, 2, 2, 0], [], [], [], [], [], [], [], [], [], [], [], [], [], [], []]
def mx_ptT : List (List (Nat × Nat × Nat)) := [[(1, 0, 1), (1, 0, 13), (1, 0, 16)], [(0, 0, 0), (0, 0, 0), (0, 0, 0), (1, 0, 2), (0, 0, 0), (1, 0, 3), (1, 0, 4), (1, 0, 5), (0, 0, 0), (1, 0, 6), (1, 0, 7), (1, 0, 8), (0, 0, 0), (1, 0, 9), (1, 0, 10), (1, 0, 11), (1, 0, 12), (0, 0, 0)], [], [], [], [], [], [], [], [], [], [], [], [(1, 0, 14), (1, 0, 15)], [], [], [(1, 0, 1), (1, 0, 13), (0, 0, 0), (0, 0, 0), (1, 0, 17), (1, 0, 18), (1, 0, 19), (1, 0, 20), (1, 0, 21), (1, 0, 22), (1, 0, 23), (1, 0, 24), (1, 0, 25), (1, 0, 26), (1, 0, 27)], [], [], [], [], [], [], [], [], [], [], [], [(0, 0, 31), (0, 0, 29), (0, 0, 0), (0, 1, 0), (0, 0, 34), (0, 0, 35), (0, 0, 37), (0, 0, 38), (0, 0, 0), (0, 0, 0)], [(0, 0, 30), (0, 0, 0), (0, 0, 0), (0, 0, 0), (0, 0, 0), (0, 0, 0), (0, 0, 0), (0, 1, 1)], [], [], [(1, 0, 33), (0, 0, 0), (0, 0, 0), (0, 0, 0)], [], [], [(0, 0, 16), (0, 0, 36), (0, 0, 0)], [], [], [], [(0, 0, 0), (0, 0, 0), (0, 0, 40), (0, 0, 41), (0, 0, 42), (0, 0, 43), (0, 0, 44), (0, 0, 0), (0, 0, 45), (0, 1, 45), (0, 0, 46), (0, 0, 0), (0, 0, 0), (0, 0, 0), (0, 0, 0), (0, 0, 0), (0, 0, 0), (0, 0, 0), (0, 0, 0), (0, 0, 0), (0, 0, 47), (0, 0, 0), (0, 0, 0), (0, 0, 0), (0, 0, 48), (0, 0, 49), (0, 0, 50), (0, 0, 0), (0, 0, 51), (0, 0, 52), (0, 0, 53), (0, 0, 54), (0, 0, 0)], [], [], [], [], [], [], [], [], [], [], [], [], [], [], []]
def mx_cO (o : Nat) : Nat := mx_nth mx_cOT o
def mx_aT (o : Nat) : Nat := mx_nth mx_aTT o
def mx_aN (o : Nat) : Nat := mx_nth mx_aNT o
def mx_kM (o : Nat) : Nat := mx_nth mx_kMT o
def mx_fk (o j : Nat) : Nat := mx_nth (mx_nthL mx_fkT o) j
def mx_pt (k o j : Nat) : Nat × Nat := match mx_nthP (mx_nthL mx_ptT o) j with
  | (1, _, o') => (k, o')
  | (_, k', o') => (k', o')
def mx_rA (o j : Nat) : Nat × Nat := match Nat.beq o 31 with
  | true => (j, 32)
  | false => (j + 2, 0)
abbrev mx_oS : Nat := 55
abbrev mx_oB : Nat := 56
abbrev mx_oQ : Nat := 57
abbrev mx_oX : Nat := 58
def mx_sT : List (List Int32) := [[114, 97, 105, 108], [114, 111, 111, 109], [100, 111, 111, 114], [111, 110, 101], [112, 105, 99, 116, 117, 114, 101], [103, 114, 111, 117, 112], [102, 105, 114, 115, 116], [100, 114, 97, 119], [114, 111, 117, 110, 100]]
def mx_sNT : List Nat := [4, 4, 4, 3, 7, 5, 5, 4, 5]
def mx_sN (k : Nat) : Nat := mx_nth mx_sNT k
def mx_sB (k j : Nat) : Int32 := mx_nthI (mx_nthL mx_sT k) j
end
section
/-! ===== a small machine: what a method does, as a function over numbers; its soundness over the bytecode stands in a later part ===== -/
abbrev mx_V : Type := Int32 ⊕ Int64 ⊕ (Nat × Nat)
abbrev mx_I (x : Int32) : mx_V := Sum.inl x
abbrev mx_J (x : Int64) : mx_V := Sum.inr (Sum.inl x)
abbrev mx_R (k o : Nat) : mx_V := Sum.inr (Sum.inr (k, o))
abbrev mx_S : Type := Nat → Nat → Nat → Int32
abbrev mx_Loc : Type := List (Option mx_V)
abbrev mx_Op : Type := Nat × Int32 × Int64 × Nat × Nat × List Nat
abbrev mx_Rt : Type := Option mx_V × mx_S
def mx_up (σ : mx_S) (k o j : Nat) (v : Int32) : mx_S := fun k' o' j' => if k' = k ∧ o' = o ∧ j' = j then v else σ k' o' j'
def mx_cp (σ : mx_S) (k o k1 o1 sp dp n : Nat) : mx_S := fun k' o' j' => if k' = k1 ∧ o' = o1 then va_cpy (σ k o) (σ k1 o1) sp dp n j' else σ k' o' j'
def mx_g {α : Type} (fl : α) (i : Int32) (n : Nat) (f : Nat → α) : α := if i < 0 ∨ n ≤ i.toNatClampNeg then fl else f i.toNatClampNeg
def mx_d {α : Type} (fl : α) (y : Int32) (f : α) : α := if y = 0 then fl else f
def mx_z {α : Type} (fl : α) (b : Nat) (x : Int32) (f : α) : α := match Nat.ble x.toBitVec.toNat (match b with | 1 => 1 | 2 => 65535 | _ => 127) with
  | true => f
  | false => fl
def mx_w {α : Type} (s : mx_S) (f : mx_S → α) : α := f s
def mx_kp : List Nat → mx_Loc → mx_Loc
  | 1 :: ts, v :: l => v :: mx_kp ts l
  | _ :: ts, _ :: l => none :: mx_kp ts l
  | _, _ => []
def mx_c {α : Type} (σ : mx_S) (sp dp : Int32) (k o : Nat) (n : Int32) (k1 o1 : Nat) (fl : α) (f : mx_S → α) : α := if sp < 0 ∨ dp < 0 ∨ n < 0 ∨ mx_aN o < sp.toNatClampNeg + n.toNatClampNeg ∨ mx_aN o1 < dp.toNatClampNeg + n.toNatClampNeg then fl else f (mx_cp σ k o k1 o1 sp.toNatClampNeg dp.toNatClampNeg n.toNatClampNeg)
def mx_bI {α : Type} (fl : α) (r : Option mx_Rt) (f : Int32 → mx_S → α) : α := match r with
  | some (some (Sum.inl x), σ) => f x σ
  | _ => fl
def mx_bJ {α : Type} (fl : α) (r : Option mx_Rt) (f : Int64 → mx_S → α) : α := match r with
  | some (some (Sum.inr (Sum.inl x)), σ) => f x σ
  | _ => fl
def mx_bV {α : Type} (fl : α) (r : Option mx_Rt) (f : mx_S → α) : α := match r with
  | some (none, σ) => f σ
  | _ => fl
def mx_bin {α : Type} (b : Nat) (x y : Int32) (f : Int32 → α) : α := match b with
  | 0 => f (x + y)
  | 1 => f (x - y)
  | 2 => f (x * y)
  | 3 => f (x &&& y)
  | 4 => f (x ||| y)
  | 5 => f (x <<< (y &&& 31))
  | 6 => f (x >>> (y &&& 31))
  | _ => f (x.toUInt32 >>> (y.toUInt32 &&& Int32.toUInt32 31)).toInt32
def mx_div {α : Type} (b : Nat) (x y : Int32) (f : Int32 → α) : α := match b with
  | 0 => f (x / y)
  | _ => f (x - x / y * y)
def mx_un {α : Type} (b : Nat) (x : Int32) (f : Int32 → α) : α := match b with
  | 0 => f (-x)
  | 1 => f x.toInt8.toInt32
  | 2 => f x.toInt16.toInt32
  | _ => f (x.toUInt32 % 65536).toInt32
def mx_lb {α : Type} (b : Nat) (x y : Int64) (f : Int64 → α) : α := match b with
  | 0 => f (x + y)
  | 1 => f (x &&& y)
  | _ => f (x ||| y)
def mx_lsh {α : Type} (b : Nat) (x : Int64) (y : Int32) (f : Int64 → α) : α := match b with
  | 0 => f (x <<< (y.toInt64 &&& 63))
  | _ => f (x >>> (y.toInt64 &&& 63))
def mx_nr (b : Nat) (x : Int32) : Int32 := match b with
  | 0 => vp_nar .byte x
  | _ => vp_nar .boolean x
def mx_if {α : Type} (b : Nat) (x y : Int32) (t f : α) : α := match b with
  | 0 => if x = y then t else f
  | 1 => if x = y then f else t
  | 2 => if x < y then t else f
  | 3 => if y ≤ x then t else f
  | 4 => if y < x then t else f
  | _ => if x ≤ y then t else f
def mx_lo : mx_Loc → Nat → Option mx_V
  | [], _ => none
  | v :: _, 0 => v
  | _ :: l, n + 1 => mx_lo l n
def mx_st1 (loc : mx_Loc) (i : Nat) (v : mx_V) : mx_Loc := match i with
  | 0 => loc.set 0 (some v)
  | j + 1 => match mx_lo loc j with
    | some (Sum.inr (Sum.inl _)) => (loc.set j none).set (j + 1) (some v)
    | _ => loc.set (j + 1) (some v)
def mx_sw {α : Type} (x : Int32) (d : α) : Nat → List α → α
  | _, [] => d
  | k, t :: ts => if x = Int32.ofNat k then t else mx_sw x d (k + 1) ts
/-- the receiver is of its class, not much lies below the arguments -/
def mx_rc (q : Nat) (as : List mx_V) : Bool := match q with
  | 0 => true
  | _ => match as with
    | Sum.inr (Sum.inr (_, o)) :: _ => match Nat.beq q 10 with
      | true => Nat.beq o mx_oS
      | false => Nat.beq (mx_cO o) q
    | _ => false
def mx_wd : List mx_V → Nat
  | [] => 0
  | Sum.inr (Sum.inl _) :: as => mx_wd as + 2
  | Sum.inl _ :: as => mx_wd as + 1
  | Sum.inr (Sum.inr _) :: as => mx_wd as + 1
def mx_cg (b q n : Nat) (stk : List mx_V) : Bool := Nat.ble b stk.length && (Nat.ble (stk.drop b).length 4 && (Nat.ble (mx_wd (stk.take b).reverse) n && mx_rc q (stk.take b).reverse))
section Step
variable {α : Type} (kn : mx_Loc → List mx_V → mx_S → α) (kj : Nat → mx_Loc → List mx_V → mx_S → α) (kr : Option mx_V → mx_S → α) (kc : Nat → Nat → List mx_V → mx_Loc → List mx_V → mx_S → α) (kh : Nat → mx_Loc → mx_S → α) (fl : α)
def mx_getf (a b : Nat) (loc : mx_Loc) (stk : List mx_V) (σ : mx_S) : α := match stk with
  | Sum.inr (Sum.inr (k, o)) :: r => match Nat.beq (mx_cO o) (a + 1) with
    | true => match mx_fk o b with
      | 2 => match mx_pt k o b with
        | (k', o') => kn loc (Sum.inr (Sum.inr (k', o')) :: r) σ
      | 3 => match mx_pt k o b with
        | (k', o') => if σ k o b = 0 then fl else kn loc (Sum.inr (Sum.inr (k', o')) :: r) σ
      | _ => kn loc (Sum.inl (σ k o b) :: r) σ
    | false => fl
  | _ => fl
def mx_putf (a b : Nat) (loc : mx_Loc) (stk : List mx_V) (σ : mx_S) : α := match stk with
  | Sum.inl x :: Sum.inr (Sum.inr (k, o)) :: r => match Nat.beq (mx_cO o) (a + 1) with
    | true => match mx_fk o b with
      | 0 => mx_w (mx_up σ k o b x) (fun σ => kn loc r σ)
      | 1 => mx_z fl 1 x (mx_w (mx_up σ k o b x) (fun σ => kn loc r σ))
      | _ => fl
    | false => fl
  | Sum.inr (Sum.inr (k', o')) :: Sum.inr (Sum.inr (k, o)) :: r => match Nat.beq (mx_cO o) (a + 1) with
    | true => match mx_fk o b with
      | 3 => match Nat.beq (mx_pt k o b).1 k', Nat.beq (mx_pt k o b).2 o' with
        | true, true => mx_w (mx_up σ k o b 1) (fun σ => kn loc r σ)
        | _, _ => fl
      | _ => fl
    | false => fl
  | _ => fl
def mx_step (i : mx_Op) (loc : mx_Loc) (stk : List mx_V) (σ : mx_S) : α :=
  let im := i.2.1
  let jm := i.2.2.1
  let a := i.2.2.2.1
  let b := i.2.2.2.2.1
  let ts := i.2.2.2.2.2
  match i.1 with
  | 0 => match mx_lo loc a with
    | some (Sum.inl x) => kn loc (Sum.inl x :: stk) σ
    | _ => fl
  | 1 => match mx_lo loc a with
    | some (Sum.inr (Sum.inl x)) => kn loc (Sum.inr (Sum.inl x) :: stk) σ
    | _ => fl
  | 2 => match mx_lo loc a with
    | some (Sum.inr (Sum.inr (k, o))) => match Nat.beq o mx_oQ with
      | false => kn loc (Sum.inr (Sum.inr (k, o)) :: stk) σ
      | true => fl
    | _ => fl
  | 3 => match stk with
    | Sum.inl x :: r => kn (mx_st1 loc a (Sum.inl x)) r σ
    | _ => fl
  | 4 => match stk with
    | Sum.inr (Sum.inl x) :: r => kn ((mx_st1 loc a (Sum.inr (Sum.inl x))).set (a + 1) none) r σ
    | _ => fl
  | 5 => match stk with
    | Sum.inr (Sum.inr (k, o)) :: r => match Nat.beq o mx_oQ with
      | false => kn (mx_st1 loc a (Sum.inr (Sum.inr (k, o)))) r σ
      | true => fl
    | _ => fl
  | 6 => kn loc (Sum.inl im :: stk) σ
  | 7 => kn loc (Sum.inr (Sum.inl jm) :: stk) σ
  | 8 => match stk with
    | Sum.inl y :: Sum.inl x :: r => mx_bin b x y (fun z => kn loc (Sum.inl z :: r) σ)
    | _ => fl
  | 9 => match stk with
    | Sum.inl y :: Sum.inl x :: r => mx_d fl y (mx_div b x y (fun z => kn loc (Sum.inl z :: r) σ))
    | _ => fl
  | 10 => match stk with
    | Sum.inl x :: r => mx_un b x (fun z => kn loc (Sum.inl z :: r) σ)
    | _ => fl
  | 11 => match stk with
    | Sum.inr (Sum.inl y) :: Sum.inr (Sum.inl x) :: r => mx_lb b x y (fun z => kn loc (Sum.inr (Sum.inl z) :: r) σ)
    | _ => fl
  | 12 => match stk with
    | Sum.inl y :: Sum.inr (Sum.inl x) :: r => mx_lsh b x y (fun z => kn loc (Sum.inr (Sum.inl z) :: r) σ)
    | _ => fl
  | 13 => match stk with
    | Sum.inr (Sum.inl y) :: Sum.inr (Sum.inl x) :: r => kn loc (Sum.inl (lg_cmp x y) :: r) σ
    | _ => fl
  | 14 => match stk with
    | Sum.inl x :: r => kn loc (Sum.inr (Sum.inl x.toInt64) :: r) σ
    | _ => fl
  | 15 => match stk with
    | Sum.inr (Sum.inl x) :: r => kn loc (Sum.inl x.toInt32 :: r) σ
    | _ => fl
  | 16 => match mx_lo loc a with
    | some (Sum.inl x) => kn (mx_st1 loc a (Sum.inl (x + im))) stk σ
    | _ => fl
  | 17 => match stk with
    | Sum.inl x :: r => kn loc (Sum.inl x :: Sum.inl x :: r) σ
    | Sum.inr (Sum.inr q) :: r => kn loc (Sum.inr (Sum.inr q) :: Sum.inr (Sum.inr q) :: r) σ
    | _ => fl
  | 18 => match stk with
    | Sum.inl x :: Sum.inr (Sum.inr q) :: r => kn loc (Sum.inl x :: Sum.inr (Sum.inr q) :: Sum.inl x :: Sum.inr (Sum.inr q) :: r) σ
    | _ => fl
  | 19 => match stk with
    | Sum.inl x :: r => mx_if b x 0 (kj a loc r σ) (kn loc r σ)
    | _ => fl
  | 20 => match stk with
    | Sum.inl y :: Sum.inl x :: r => mx_if b x y (kj a loc r σ) (kn loc r σ)
    | _ => fl
  | 21 => kj a loc stk σ
  | 22 => match stk with
    | Sum.inl x :: r => mx_sw x (kj a loc r σ) b (ts.map fun t => kj t loc r σ)
    | _ => fl
  | 23 => mx_getf kn fl a b loc stk σ
  | 24 => mx_putf kn fl a b loc stk σ
  | 25 => match stk with
    | Sum.inl i :: Sum.inr (Sum.inr (k, o)) :: r => match Nat.beq (mx_aT o) 1 with
      | true => mx_g fl i (mx_aN o) (fun j => kn loc (Sum.inl (σ k o j) :: r) σ)
      | false => fl
    | _ => fl
  | 26 => match stk with
    | Sum.inl x :: Sum.inl i :: Sum.inr (Sum.inr (k, o)) :: r => match Nat.beq (mx_aT o) 1 with
      | true => mx_g fl i (mx_aN o) (fun j => mx_w (mx_up σ k o j x) (fun σ => kn loc r σ))
      | false => fl
    | _ => fl
  | 27 => match stk with
    | Sum.inl i :: Sum.inr (Sum.inr (k, o)) :: r => match Nat.beq (mx_aT o) (b + 2) with
      | true => mx_g fl i (mx_aN o) (fun j => kn loc (Sum.inl (σ k o j) :: r) σ)
      | false => fl
    | _ => fl
  | 28 => match stk with
    | Sum.inl x :: Sum.inl i :: Sum.inr (Sum.inr (k, o)) :: r => match Nat.beq (mx_aT o) (b + 2) with
      | true => mx_g fl i (mx_aN o) (fun j => mx_w (mx_up σ k o j (mx_nr b x)) (fun σ => kn loc r σ))
      | false => fl
    | _ => fl
  | 29 => match stk with
    | Sum.inl i :: Sum.inr (Sum.inr (_, o)) :: r => match Nat.beq (mx_aT o) (b + 4) with
      | true => mx_g fl i (mx_aN o) (fun j => match mx_rA o j with
        | (k', o') => kn loc (Sum.inr (Sum.inr (k', o')) :: r) σ)
      | false => fl
    | _ => fl
  | 30 => match stk with
    | Sum.inr (Sum.inr (_, o)) :: r => match Nat.beq (mx_aT o) 1 with
      | true => kn loc (Sum.inl (Int32.ofNat (mx_aN o)) :: r) σ
      | false => fl
    | _ => fl
  | 31 => match mx_cg b (mx_nth ts 1) (mx_nth ts 2) stk with
    | true => kc a (mx_nth ts 0) (stk.take b).reverse loc (stk.drop b) σ
    | false => fl
  | 32 => match stk with
    | [Sum.inl x] => match b with
      | 0 => kr (some (Sum.inl x)) σ
      | _ => mx_z fl b x (kr (some (Sum.inl x)) σ)
    | _ => fl
  | 33 => match stk with
    | [Sum.inr (Sum.inl x)] => kr (some (Sum.inr (Sum.inl x))) σ
    | _ => fl
  | 34 => match stk with
    | [] => kr none σ
    | _ => fl
  | 35 => kn loc (Sum.inr (Sum.inr (a, mx_oS)) :: stk) σ
  | 36 => match stk with
    | Sum.inl n :: Sum.inl dp :: Sum.inr (Sum.inr (k1, o1)) :: Sum.inl sp :: Sum.inr (Sum.inr (k, o)) :: r => match Nat.beq (mx_aT o) 1, Nat.beq (mx_aT o1) 1 with
      | true, true => match Nat.ble r.length 4 with
        | true => mx_c σ sp dp k o n k1 o1 fl (fun σ => kn loc r σ)
        | false => fl
      | _, _ => fl
    | _ => fl
  | 37 => kn loc (Sum.inl 1 :: stk) σ
  | 38 => kn loc (Sum.inr (Sum.inr (0, mx_oQ)) :: stk) σ
  | 39 => match stk with
    | Sum.inr (Sum.inr (k, o)) :: r => match Nat.beq o mx_oS with
      | true => match b with
        | 0 => kn loc (Sum.inr (Sum.inr (k, mx_oB)) :: r) σ
        | _ => kn loc (Sum.inl 0 :: r) σ
      | false => fl
    | _ => fl
  | 40 => match stk with
    | Sum.inr (Sum.inr (k, o)) :: r => match Nat.beq o mx_oB with
      | true => kn loc (Sum.inl (Int32.ofNat (mx_sN k)) :: r) σ
      | false => fl
    | _ => fl
  | 41 => match stk with
    | Sum.inl i :: Sum.inr (Sum.inr (k, o)) :: r => match Nat.beq o mx_oB with
      | true => mx_g fl i (mx_sN k) (fun j => kn loc (Sum.inl (mx_sB k j) :: r) σ)
      | false => fl
    | _ => fl
  | 42 => match stk with
    | Sum.inl _ :: r => kn loc r σ
    | _ => fl
  | 43 => match stk with
    | Sum.inl i :: Sum.inr (Sum.inr (0, o)) :: r => match Nat.beq o mx_oX with
      | true => mx_g fl i (σ 0 mx_oX 0).toNatClampNeg (fun j => kn loc (Sum.inl (σ 1 mx_oX j) :: r) σ)
      | false => fl
    | _ => fl
  | 44 => match stk with
    | Sum.inr (Sum.inr (0, o)) :: r => match Nat.beq o mx_oX with
      | true => kn loc (Sum.inl (σ 0 mx_oX 0) :: r) σ
      | false => fl
    | _ => fl
  | 45 => match stk with
    | [] => kh a (mx_kp ts loc) σ
    | _ => fl
  | 46 => match stk with
    | Sum.inl y :: Sum.inl x :: r => match Nat.ble r.length 4 with
      | true => match b with
        | 0 => kn loc (Sum.inl (if y < x then y else x) :: r) σ
        | _ => kn loc (Sum.inl (if x < y then y else x) :: r) σ
      | false => fl
    | _ => fl
  | 47 => match stk with
    | Sum.inl x :: r => match Nat.ble r.length 4 with
      | true => kn loc (Sum.inl (if 0 ≤ x then x else 0 - x) :: r) σ
      | false => fl
    | _ => fl
  | _ => fl
end Step
def mx_run (E : Nat → List mx_V → mx_S → Option mx_Rt) (P : List mx_Op) (K : Nat → mx_Loc → mx_S → Option mx_Rt) : Nat → List mx_Op → mx_Loc → List mx_V → mx_S → Option mx_Rt
  | 0, _, _, _, _ => none
  | _ + 1, [], _, _, _ => none
  | n + 1, i :: c, loc, stk, σ => mx_step (fun l s σ => mx_run E P K n c l s σ) (fun t l s σ => mx_run E P K n (P.drop t) l s σ) (fun v σ => some (v, σ)) (fun y rk as l s σ => match rk with
      | 0 => mx_bV none (E y as σ) (fun σ => mx_run E P K n c l s σ)
      | 1 => mx_bI none (E y as σ) (fun x σ => mx_run E P K n c l (Sum.inl x :: s) σ)
      | _ => mx_bJ none (E y as σ) (fun x σ => mx_run E P K n c l (Sum.inr (Sum.inl x) :: s) σ)) K none i loc stk σ
section Steps
variable {α : Type} (kn : mx_Loc → List mx_V → mx_S → α) (kj : Nat → mx_Loc → List mx_V → mx_S → α) (kr : Option mx_V → mx_S → α) (kc : Nat → Nat → List mx_V → mx_Loc → List mx_V → mx_S → α) (kh : Nat → mx_Loc → mx_S → α) (fl : α) (im : Int32) (jm : Int64) (a b : Nat) (ts : List Nat) (loc : mx_Loc) (stk : List mx_V) (σ : mx_S)
theorem mx_s0 : mx_step kn kj kr kc kh fl (0, im, jm, a, b, ts) loc stk σ = (match mx_lo loc a with
    | some (Sum.inl x) => kn loc (Sum.inl x :: stk) σ
    | _ => fl) := rfl
theorem mx_s1 : mx_step kn kj kr kc kh fl (1, im, jm, a, b, ts) loc stk σ = (match mx_lo loc a with
    | some (Sum.inr (Sum.inl x)) => kn loc (Sum.inr (Sum.inl x) :: stk) σ
    | _ => fl) := rfl
theorem mx_s2 : mx_step kn kj kr kc kh fl (2, im, jm, a, b, ts) loc stk σ = (match mx_lo loc a with
    | some (Sum.inr (Sum.inr (k, o))) => match Nat.beq o mx_oQ with
      | false => kn loc (Sum.inr (Sum.inr (k, o)) :: stk) σ
      | true => fl
    | _ => fl) := rfl
theorem mx_s3 : mx_step kn kj kr kc kh fl (3, im, jm, a, b, ts) loc stk σ = (match stk with
    | Sum.inl x :: r => kn (mx_st1 loc a (Sum.inl x)) r σ
    | _ => fl) := rfl
theorem mx_s4 : mx_step kn kj kr kc kh fl (4, im, jm, a, b, ts) loc stk σ = (match stk with
    | Sum.inr (Sum.inl x) :: r => kn ((mx_st1 loc a (Sum.inr (Sum.inl x))).set (a + 1) none) r σ
    | _ => fl) := rfl
theorem mx_s5 : mx_step kn kj kr kc kh fl (5, im, jm, a, b, ts) loc stk σ = (match stk with
    | Sum.inr (Sum.inr (k, o)) :: r => match Nat.beq o mx_oQ with
      | false => kn (mx_st1 loc a (Sum.inr (Sum.inr (k, o)))) r σ
      | true => fl
    | _ => fl) := rfl
theorem mx_s6 : mx_step kn kj kr kc kh fl (6, im, jm, a, b, ts) loc stk σ = (kn loc (Sum.inl im :: stk) σ) := rfl
theorem mx_s7 : mx_step kn kj kr kc kh fl (7, im, jm, a, b, ts) loc stk σ = (kn loc (Sum.inr (Sum.inl jm) :: stk) σ) := rfl
theorem mx_s8 : mx_step kn kj kr kc kh fl (8, im, jm, a, b, ts) loc stk σ = (match stk with
    | Sum.inl y :: Sum.inl x :: r => mx_bin b x y (fun z => kn loc (Sum.inl z :: r) σ)
    | _ => fl) := rfl
theorem mx_s9 : mx_step kn kj kr kc kh fl (9, im, jm, a, b, ts) loc stk σ = (match stk with
    | Sum.inl y :: Sum.inl x :: r => mx_d fl y (mx_div b x y (fun z => kn loc (Sum.inl z :: r) σ))
    | _ => fl) := rfl
theorem mx_s10 : mx_step kn kj kr kc kh fl (10, im, jm, a, b, ts) loc stk σ = (match stk with
    | Sum.inl x :: r => mx_un b x (fun z => kn loc (Sum.inl z :: r) σ)
    | _ => fl) := rfl
theorem mx_s11 : mx_step kn kj kr kc kh fl (11, im, jm, a, b, ts) loc stk σ = (match stk with
    | Sum.inr (Sum.inl y) :: Sum.inr (Sum.inl x) :: r => mx_lb b x y (fun z => kn loc (Sum.inr (Sum.inl z) :: r) σ)
    | _ => fl) := rfl
theorem mx_s12 : mx_step kn kj kr kc kh fl (12, im, jm, a, b, ts) loc stk σ = (match stk with
    | Sum.inl y :: Sum.inr (Sum.inl x) :: r => mx_lsh b x y (fun z => kn loc (Sum.inr (Sum.inl z) :: r) σ)
    | _ => fl) := rfl
theorem mx_s13 : mx_step kn kj kr kc kh fl (13, im, jm, a, b, ts) loc stk σ = (match stk with
    | Sum.inr (Sum.inl y) :: Sum.inr (Sum.inl x) :: r => kn loc (Sum.inl (lg_cmp x y) :: r) σ
    | _ => fl) := rfl
theorem mx_s14 : mx_step kn kj kr kc kh fl (14, im, jm, a, b, ts) loc stk σ = (match stk with
    | Sum.inl x :: r => kn loc (Sum.inr (Sum.inl x.toInt64) :: r) σ
    | _ => fl) := rfl
theorem mx_s15 : mx_step kn kj kr kc kh fl (15, im, jm, a, b, ts) loc stk σ = (match stk with
    | Sum.inr (Sum.inl x) :: r => kn loc (Sum.inl x.toInt32 :: r) σ
    | _ => fl) := rfl
theorem mx_s16 : mx_step kn kj kr kc kh fl (16, im, jm, a, b, ts) loc stk σ = (match mx_lo loc a with
    | some (Sum.inl x) => kn (mx_st1 loc a (Sum.inl (x + im))) stk σ
    | _ => fl) := rfl
theorem mx_s17 : mx_step kn kj kr kc kh fl (17, im, jm, a, b, ts) loc stk σ = (match stk with
    | Sum.inl x :: r => kn loc (Sum.inl x :: Sum.inl x :: r) σ
    | Sum.inr (Sum.inr q) :: r => kn loc (Sum.inr (Sum.inr q) :: Sum.inr (Sum.inr q) :: r) σ
    | _ => fl) := rfl
theorem mx_s18 : mx_step kn kj kr kc kh fl (18, im, jm, a, b, ts) loc stk σ = (match stk with
    | Sum.inl x :: Sum.inr (Sum.inr q) :: r => kn loc (Sum.inl x :: Sum.inr (Sum.inr q) :: Sum.inl x :: Sum.inr (Sum.inr q) :: r) σ
    | _ => fl) := rfl
theorem mx_s19 : mx_step kn kj kr kc kh fl (19, im, jm, a, b, ts) loc stk σ = (match stk with
    | Sum.inl x :: r => mx_if b x 0 (kj a loc r σ) (kn loc r σ)
    | _ => fl) := rfl
theorem mx_s20 : mx_step kn kj kr kc kh fl (20, im, jm, a, b, ts) loc stk σ = (match stk with
    | Sum.inl y :: Sum.inl x :: r => mx_if b x y (kj a loc r σ) (kn loc r σ)
    | _ => fl) := rfl
theorem mx_s21 : mx_step kn kj kr kc kh fl (21, im, jm, a, b, ts) loc stk σ = (kj a loc stk σ) := rfl
theorem mx_s22 : mx_step kn kj kr kc kh fl (22, im, jm, a, b, ts) loc stk σ = (match stk with
    | Sum.inl x :: r => mx_sw x (kj a loc r σ) b (ts.map fun t => kj t loc r σ)
    | _ => fl) := rfl
theorem mx_s23 : mx_step kn kj kr kc kh fl (23, im, jm, a, b, ts) loc stk σ = (mx_getf kn fl a b loc stk σ) := rfl
theorem mx_s24 : mx_step kn kj kr kc kh fl (24, im, jm, a, b, ts) loc stk σ = (mx_putf kn fl a b loc stk σ) := rfl
theorem mx_s25 : mx_step kn kj kr kc kh fl (25, im, jm, a, b, ts) loc stk σ = (match stk with
    | Sum.inl i :: Sum.inr (Sum.inr (k, o)) :: r => match Nat.beq (mx_aT o) 1 with
      | true => mx_g fl i (mx_aN o) (fun j => kn loc (Sum.inl (σ k o j) :: r) σ)
      | false => fl
    | _ => fl) := rfl
theorem mx_s26 : mx_step kn kj kr kc kh fl (26, im, jm, a, b, ts) loc stk σ = (match stk with
    | Sum.inl x :: Sum.inl i :: Sum.inr (Sum.inr (k, o)) :: r => match Nat.beq (mx_aT o) 1 with
      | true => mx_g fl i (mx_aN o) (fun j => mx_w (mx_up σ k o j x) (fun σ => kn loc r σ))
      | false => fl
    | _ => fl) := rfl
theorem mx_s27 : mx_step kn kj kr kc kh fl (27, im, jm, a, b, ts) loc stk σ = (match stk with
    | Sum.inl i :: Sum.inr (Sum.inr (k, o)) :: r => match Nat.beq (mx_aT o) (b + 2) with
      | true => mx_g fl i (mx_aN o) (fun j => kn loc (Sum.inl (σ k o j) :: r) σ)
      | false => fl
    | _ => fl) := rfl
theorem mx_s28 : mx_step kn kj kr kc kh fl (28, im, jm, a, b, ts) loc stk σ = (match stk with
    | Sum.inl x :: Sum.inl i :: Sum.inr (Sum.inr (k, o)) :: r => match Nat.beq (mx_aT o) (b + 2) with
      | true => mx_g fl i (mx_aN o) (fun j => mx_w (mx_up σ k o j (mx_nr b x)) (fun σ => kn loc r σ))
      | false => fl
    | _ => fl) := rfl
theorem mx_s29 : mx_step kn kj kr kc kh fl (29, im, jm, a, b, ts) loc stk σ = (match stk with
    | Sum.inl i :: Sum.inr (Sum.inr (_, o)) :: r => match Nat.beq (mx_aT o) (b + 4) with
      | true => mx_g fl i (mx_aN o) (fun j => match mx_rA o j with
        | (k', o') => kn loc (Sum.inr (Sum.inr (k', o')) :: r) σ)
      | false => fl
    | _ => fl) := rfl
theorem mx_s30 : mx_step kn kj kr kc kh fl (30, im, jm, a, b, ts) loc stk σ = (match stk with
    | Sum.inr (Sum.inr (_, o)) :: r => match Nat.beq (mx_aT o) 1 with
      | true => kn loc (Sum.inl (Int32.ofNat (mx_aN o)) :: r) σ
      | false => fl
    | _ => fl) := rfl
theorem mx_s31 : mx_step kn kj kr kc kh fl (31, im, jm, a, b, ts) loc stk σ = (match mx_cg b (mx_nth ts 1) (mx_nth ts 2) stk with
    | true => kc a (mx_nth ts 0) (stk.take b).reverse loc (stk.drop b) σ
    | false => fl) := rfl
theorem mx_s32 : mx_step kn kj kr kc kh fl (32, im, jm, a, b, ts) loc stk σ = (match stk with
    | [Sum.inl x] => match b with
      | 0 => kr (some (Sum.inl x)) σ
      | _ => mx_z fl b x (kr (some (Sum.inl x)) σ)
    | _ => fl) := rfl
theorem mx_s33 : mx_step kn kj kr kc kh fl (33, im, jm, a, b, ts) loc stk σ = (match stk with
    | [Sum.inr (Sum.inl x)] => kr (some (Sum.inr (Sum.inl x))) σ
    | _ => fl) := rfl
theorem mx_s34 : mx_step kn kj kr kc kh fl (34, im, jm, a, b, ts) loc stk σ = (match stk with
    | [] => kr none σ
    | _ => fl) := rfl
theorem mx_s35 : mx_step kn kj kr kc kh fl (35, im, jm, a, b, ts) loc stk σ = (kn loc (Sum.inr (Sum.inr (a, mx_oS)) :: stk) σ) := rfl
theorem mx_s36 : mx_step kn kj kr kc kh fl (36, im, jm, a, b, ts) loc stk σ = (match stk with
    | Sum.inl n :: Sum.inl dp :: Sum.inr (Sum.inr (k1, o1)) :: Sum.inl sp :: Sum.inr (Sum.inr (k, o)) :: r => match Nat.beq (mx_aT o) 1, Nat.beq (mx_aT o1) 1 with
      | true, true => match Nat.ble r.length 4 with
        | true => mx_c σ sp dp k o n k1 o1 fl (fun σ => kn loc r σ)
        | false => fl
      | _, _ => fl
    | _ => fl) := rfl
theorem mx_s37 : mx_step kn kj kr kc kh fl (37, im, jm, a, b, ts) loc stk σ = (kn loc (Sum.inl 1 :: stk) σ) := rfl
theorem mx_s38 : mx_step kn kj kr kc kh fl (38, im, jm, a, b, ts) loc stk σ = (kn loc (Sum.inr (Sum.inr (0, mx_oQ)) :: stk) σ) := rfl
theorem mx_s39 : mx_step kn kj kr kc kh fl (39, im, jm, a, b, ts) loc stk σ = (match stk with
    | Sum.inr (Sum.inr (k, o)) :: r => match Nat.beq o mx_oS with
      | true => match b with
        | 0 => kn loc (Sum.inr (Sum.inr (k, mx_oB)) :: r) σ
        | _ => kn loc (Sum.inl 0 :: r) σ
      | false => fl
    | _ => fl) := rfl
theorem mx_s40 : mx_step kn kj kr kc kh fl (40, im, jm, a, b, ts) loc stk σ = (match stk with
    | Sum.inr (Sum.inr (k, o)) :: r => match Nat.beq o mx_oB with
      | true => kn loc (Sum.inl (Int32.ofNat (mx_sN k)) :: r) σ
      | false => fl
    | _ => fl) := rfl
theorem mx_s41 : mx_step kn kj kr kc kh fl (41, im, jm, a, b, ts) loc stk σ = (match stk with
    | Sum.inl i :: Sum.inr (Sum.inr (k, o)) :: r => match Nat.beq o mx_oB with
      | true => mx_g fl i (mx_sN k) (fun j => kn loc (Sum.inl (mx_sB k j) :: r) σ)
      | false => fl
    | _ => fl) := rfl
theorem mx_s42 : mx_step kn kj kr kc kh fl (42, im, jm, a, b, ts) loc stk σ = (match stk with
    | Sum.inl _ :: r => kn loc r σ
    | _ => fl) := rfl
theorem mx_s43 : mx_step kn kj kr kc kh fl (43, im, jm, a, b, ts) loc stk σ = (match stk with
    | Sum.inl i :: Sum.inr (Sum.inr (0, o)) :: r => match Nat.beq o mx_oX with
      | true => mx_g fl i (σ 0 mx_oX 0).toNatClampNeg (fun j => kn loc (Sum.inl (σ 1 mx_oX j) :: r) σ)
      | false => fl
    | _ => fl) := rfl
theorem mx_s44 : mx_step kn kj kr kc kh fl (44, im, jm, a, b, ts) loc stk σ = (match stk with
    | Sum.inr (Sum.inr (0, o)) :: r => match Nat.beq o mx_oX with
      | true => kn loc (Sum.inl (σ 0 mx_oX 0) :: r) σ
      | false => fl
    | _ => fl) := rfl
theorem mx_s45 : mx_step kn kj kr kc kh fl (45, im, jm, a, b, ts) loc stk σ = (match stk with
    | [] => kh a (mx_kp ts loc) σ
    | _ => fl) := rfl
theorem mx_s46 : mx_step kn kj kr kc kh fl (46, im, jm, a, b, ts) loc stk σ = (match stk with
    | Sum.inl y :: Sum.inl x :: r => match Nat.ble r.length 4 with
      | true => match b with
        | 0 => kn loc (Sum.inl (if y < x then y else x) :: r) σ
        | _ => kn loc (Sum.inl (if x < y then y else x) :: r) σ
      | false => fl
    | _ => fl) := rfl
theorem mx_s47 : mx_step kn kj kr kc kh fl (47, im, jm, a, b, ts) loc stk σ = (match stk with
    | Sum.inl x :: r => match Nat.ble r.length 4 with
      | true => kn loc (Sum.inl (if 0 ≤ x then x else 0 - x) :: r) σ
      | false => fl
    | _ => fl) := rfl
end Steps
end
section
/-! ===== loops and calls to any depth: limits ===== -/
def mx_L (E : Nat → List mx_V → mx_S → Option mx_Rt) (P : List mx_Op) : Nat → Nat → mx_Loc → mx_S → Option mx_Rt
  | 0, _, _, _ => none
  | n + 1, h, loc, σ => mx_run E P (mx_L E P n) 2000 (P.drop (h + 1)) loc [] σ
noncomputable def mx_lim {β : Type} (f : Nat → Option β) : Option β := @dite _ (∃ n r, f n = some r) (Classical.propDecidable _) (fun h => some (Classical.choose (Classical.choose_spec h))) (fun _ => none)
theorem mx_lim_mono {β : Type} {f : Nat → Option β} (hm : ∀ n r, f n = some r → f (n + 1) = some r) : ∀ (n m : Nat) (r : β), n ≤ m → f n = some r → f m = some r := by
  intro n m r h
  induction h with
  | refl => exact id
  | step _ ih => exact fun q => hm _ _ (ih q)
theorem mx_lim_iff {β : Type} {f : Nat → Option β} (hm : ∀ n r, f n = some r → f (n + 1) = some r) (r : β) : mx_lim f = some r ↔ ∃ n, f n = some r := by
  unfold mx_lim
  constructor
  · intro h
    split at h
    · rename_i q
      have := Classical.choose_spec (Classical.choose_spec q)
      cases h
      exact ⟨_, this⟩
    · cases h
  · rintro ⟨n, hn⟩
    rw [dif_pos ⟨n, r, hn⟩]
    have q : ∃ n r, f n = some r := ⟨n, r, hn⟩
    have h2 := Classical.choose_spec (Classical.choose_spec q)
    have a := mx_lim_mono hm _ (max n (Classical.choose q)) _ (Nat.le_max_left _ _) hn
    have b := mx_lim_mono hm _ (max n (Classical.choose q)) _ (Nat.le_max_right _ _) h2
    rw [a] at b
    exact b.symm
theorem mx_sw_map {α β : Type} (x : Int32) (f : β → α) (d : β) : ∀ (k : Nat) (l : List β), mx_sw x (f d) k (l.map f) = f (mx_sw x d k l)
  | _, [] => rfl
  | k, t :: l => by
    show (if x = Int32.ofNat k then f t else mx_sw x (f d) (k + 1) (l.map f)) = f (if x = Int32.ofNat k then t else mx_sw x d (k + 1) l)
    rw [mx_sw_map x f d (k + 1) l]
    split <;> rfl
/-- an instruction's deed, apart from what is done with it -/
abbrev mx_Act : Type := Option ((mx_Loc × List mx_V × mx_S) ⊕ (Nat × mx_Loc × List mx_V × mx_S) ⊕ (Option mx_V × mx_S) ⊕ (Nat × Nat × List mx_V × mx_Loc × List mx_V × mx_S) ⊕ (Nat × mx_Loc × mx_S))
def mx_act (i : mx_Op) (loc : mx_Loc) (stk : List mx_V) (σ : mx_S) : mx_Act := mx_step (fun l s σ => some (.inl (l, s, σ))) (fun t l s σ => some (.inr (.inl (t, l, s, σ)))) (fun v σ => some (.inr (.inr (.inl (v, σ))))) (fun y rk as l s σ => some (.inr (.inr (.inr (.inl (y, rk, as, l, s, σ)))))) (fun h l σ => some (.inr (.inr (.inr (.inr (h, l, σ)))))) none i loc stk σ
def mx_elim {α : Type} (kn : mx_Loc → List mx_V → mx_S → α) (kj : Nat → mx_Loc → List mx_V → mx_S → α) (kr : Option mx_V → mx_S → α) (kc : Nat → Nat → List mx_V → mx_Loc → List mx_V → mx_S → α) (kh : Nat → mx_Loc → mx_S → α) (fl : α) (q : mx_Act) : α := match q with
  | none => fl
  | some (.inl (l, s, σ)) => kn l s σ
  | some (.inr (.inl (t, l, s, σ))) => kj t l s σ
  | some (.inr (.inr (.inl (v, σ)))) => kr v σ
  | some (.inr (.inr (.inr (.inl (y, rk, as, l, s, σ))))) => kc y rk as l s σ
  | some (.inr (.inr (.inr (.inr (h, l, σ))))) => kh h l σ
section Fac
variable {α : Type} (kn : mx_Loc → List mx_V → mx_S → α) (kj : Nat → mx_Loc → List mx_V → mx_S → α) (kr : Option mx_V → mx_S → α) (kc : Nat → Nat → List mx_V → mx_Loc → List mx_V → mx_S → α) (kh : Nat → mx_Loc → mx_S → α) (fl : α)
set_option maxHeartbeats 4000000 in
theorem mx_fac (i : mx_Op) (loc : mx_Loc) (stk : List mx_V) (σ : mx_S) : mx_step kn kj kr kc kh fl i loc stk σ = mx_elim kn kj kr kc kh fl (mx_act i loc stk σ) := by
  obtain ⟨op, im, jm, a, b, ts⟩ := i
  unfold mx_act
  rcases op with _ | _ | _ | _ | _ | _ | _ | _ | _ | _ | _ | _ | _ | _ | _ | _ | _ | _ | _ | _ | _ | _ | _ | _ | _ | _ | _ | _ | _ | _ | _ | _ | _ | _ | _ | _ | _ | _ | _ | _ | _ | _ | _ | _ | _ | _ | _ | _ | op
  · rw [mx_s0, mx_s0]; (repeat' split) <;> rfl
  · rw [mx_s1, mx_s1]; (repeat' split) <;> rfl
  · rw [mx_s2, mx_s2]; (repeat' split) <;> rfl
  · rw [mx_s3, mx_s3]; (repeat' split) <;> rfl
  · rw [mx_s4, mx_s4]; (repeat' split) <;> rfl
  · rw [mx_s5, mx_s5]; (repeat' split) <;> rfl
  · rw [mx_s6, mx_s6]; (repeat' split) <;> rfl
  · rw [mx_s7, mx_s7]; (repeat' split) <;> rfl
  · rw [mx_s8, mx_s8]; unfold mx_bin; (repeat' split) <;> rfl
  · rw [mx_s9, mx_s9]; unfold mx_d mx_div; (repeat' split) <;> rfl
  · rw [mx_s10, mx_s10]; unfold mx_un; (repeat' split) <;> rfl
  · rw [mx_s11, mx_s11]; unfold mx_lb; (repeat' split) <;> rfl
  · rw [mx_s12, mx_s12]; unfold mx_lsh; (repeat' split) <;> rfl
  · rw [mx_s13, mx_s13]; (repeat' split) <;> rfl
  · rw [mx_s14, mx_s14]; (repeat' split) <;> rfl
  · rw [mx_s15, mx_s15]; (repeat' split) <;> rfl
  · rw [mx_s16, mx_s16]; (repeat' split) <;> rfl
  · rw [mx_s17, mx_s17]; (repeat' split) <;> rfl
  · rw [mx_s18, mx_s18]; (repeat' split) <;> rfl
  · rw [mx_s19, mx_s19]; unfold mx_if; (repeat' split) <;> rfl
  · rw [mx_s20, mx_s20]; unfold mx_if; (repeat' split) <;> rfl
  · rw [mx_s21, mx_s21]; (repeat' split) <;> rfl
  · rw [mx_s22, mx_s22]
    split
    · rename_i x r
      rw [mx_sw_map x (fun t => kj t loc r σ) a b ts, mx_sw_map x (fun t => (some (.inr (.inl (t, loc, r, σ))) : mx_Act)) a b ts]
      rfl
    · rfl
  · rw [mx_s23, mx_s23]; unfold mx_getf; (repeat' split) <;> rfl
  · rw [mx_s24, mx_s24]; unfold mx_putf mx_z mx_w; (repeat' split) <;> rfl
  · rw [mx_s25, mx_s25]; unfold mx_g; (repeat' split) <;> rfl
  · rw [mx_s26, mx_s26]; unfold mx_g mx_w; (repeat' split) <;> rfl
  · rw [mx_s27, mx_s27]; unfold mx_g; (repeat' split) <;> rfl
  · rw [mx_s28, mx_s28]; unfold mx_g mx_w; (repeat' split) <;> rfl
  · rw [mx_s29, mx_s29]; unfold mx_g; (repeat' split) <;> rfl
  · rw [mx_s30, mx_s30]; (repeat' split) <;> rfl
  · rw [mx_s31, mx_s31]; (repeat' split) <;> rfl
  · rw [mx_s32, mx_s32]; unfold mx_z; (repeat' split) <;> rfl
  · rw [mx_s33, mx_s33]; (repeat' split) <;> rfl
  · rw [mx_s34, mx_s34]; (repeat' split) <;> rfl
  · rw [mx_s35, mx_s35]; (repeat' split) <;> rfl
  · rw [mx_s36, mx_s36]; unfold mx_c; (repeat' split) <;> rfl
  · rw [mx_s37, mx_s37]; (repeat' split) <;> rfl
  · rw [mx_s38, mx_s38]; (repeat' split) <;> rfl
  · rw [mx_s39, mx_s39]; (repeat' split) <;> rfl
  · rw [mx_s40, mx_s40]; (repeat' split) <;> rfl
  · rw [mx_s41, mx_s41]; unfold mx_g; (repeat' split) <;> rfl
  · rw [mx_s42, mx_s42]; (repeat' split) <;> rfl
  · rw [mx_s43, mx_s43]; unfold mx_g; (repeat' split) <;> rfl
  · rw [mx_s44, mx_s44]; (repeat' split) <;> rfl
  · rw [mx_s45, mx_s45]; (repeat' split) <;> rfl
  · rw [mx_s46, mx_s46]; (repeat' split) <;> rfl
  · rw [mx_s47, mx_s47]; (repeat' split) <;> rfl
  · rfl
end Fac
theorem mx_run_s (E : Nat → List mx_V → mx_S → Option mx_Rt) (P : List mx_Op) (K : Nat → mx_Loc → mx_S → Option mx_Rt) (n : Nat) (i : mx_Op) (c : List mx_Op) (loc : mx_Loc) (stk : List mx_V) (σ : mx_S) : mx_run E P K (n + 1) (i :: c) loc stk σ = mx_elim (fun l s σ => mx_run E P K n c l s σ) (fun t l s σ => mx_run E P K n (P.drop t) l s σ) (fun v σ => some (v, σ)) (fun y rk as l s σ => match rk with
      | 0 => mx_bV none (E y as σ) (fun σ => mx_run E P K n c l s σ)
      | 1 => mx_bI none (E y as σ) (fun x σ => mx_run E P K n c l (Sum.inl x :: s) σ)
      | _ => mx_bJ none (E y as σ) (fun x σ => mx_run E P K n c l (Sum.inr (Sum.inl x) :: s) σ)) K none (mx_act i loc stk σ) := mx_fac _ _ _ _ _ _ i loc stk σ
theorem mx_bV_iff {β : Type} {r : Option mx_Rt} {f : mx_S → Option β} {z : β} : mx_bV none r f = some z ↔ ∃ σ, r = some (none, σ) ∧ f σ = some z := by
  unfold mx_bV
  split
  · rename_i σ
    exact ⟨fun h => ⟨σ, rfl, h⟩, fun ⟨σ', e, h⟩ => by cases e; exact h⟩
  · rename_i hn
    exact ⟨fun h => (by cases h), fun ⟨σ', e, h⟩ => absurd e (hn σ')⟩
theorem mx_bI_iff {β : Type} {r : Option mx_Rt} {f : Int32 → mx_S → Option β} {z : β} : mx_bI none r f = some z ↔ ∃ x σ, r = some (some (Sum.inl x), σ) ∧ f x σ = some z := by
  unfold mx_bI
  split
  · rename_i x σ
    exact ⟨fun h => ⟨x, σ, rfl, h⟩, fun ⟨x', σ', e, h⟩ => by cases e; exact h⟩
  · rename_i hn
    exact ⟨fun h => (by cases h), fun ⟨x', σ', e, h⟩ => absurd e (hn x' σ')⟩
theorem mx_bJ_iff {β : Type} {r : Option mx_Rt} {f : Int64 → mx_S → Option β} {z : β} : mx_bJ none r f = some z ↔ ∃ x σ, r = some (some (Sum.inr (Sum.inl x)), σ) ∧ f x σ = some z := by
  unfold mx_bJ
  split
  · rename_i x σ
    exact ⟨fun h => ⟨x, σ, rfl, h⟩, fun ⟨x', σ', e, h⟩ => by cases e; exact h⟩
  · rename_i hn
    exact ⟨fun h => (by cases h), fun ⟨x', σ', e, h⟩ => absurd e (hn x' σ')⟩
/-- more at the heads, more of the whole; and what is had of a limit is had of a step of it -/
theorem mx_run_mono (E : Nat → List mx_V → mx_S → Option mx_Rt) (P : List mx_Op) (K K' : Nat → mx_Loc → mx_S → Option mx_Rt) (hK : ∀ h l σ r, K h l σ = some r → K' h l σ = some r) : ∀ n c l s σ r, mx_run E P K n c l s σ = some r → mx_run E P K' n c l s σ = some r := by
  intro n
  induction n with
  | zero => intro c l s σ r h; cases c <;> cases h
  | succ n ih =>
    intro c l s σ r h
    cases c with
    | nil => cases h
    | cons i c =>
      rw [mx_run_s] at h ⊢
      generalize mx_act i l s σ = q at h ⊢
      rcases q with _ | (⟨l', s', σ'⟩ | ⟨t, l', s', σ'⟩ | ⟨v, σ'⟩ | ⟨y, rk, as, l', s', σ'⟩ | ⟨h', l', σ'⟩)
      · cases h
      · exact ih _ _ _ _ _ h
      · exact ih _ _ _ _ _ h
      · exact h
      · rcases rk with _ | _ | rk
        · obtain ⟨σ2, e, h⟩ := mx_bV_iff.mp h
          exact mx_bV_iff.mpr ⟨σ2, e, ih _ _ _ _ _ h⟩
        · obtain ⟨x, σ2, e, h⟩ := mx_bI_iff.mp h
          exact mx_bI_iff.mpr ⟨x, σ2, e, ih _ _ _ _ _ h⟩
        · obtain ⟨x, σ2, e, h⟩ := mx_bJ_iff.mp h
          exact mx_bJ_iff.mpr ⟨x, σ2, e, ih _ _ _ _ _ h⟩
      · exact hK _ _ _ _ h
theorem mx_run_cont (E : Nat → List mx_V → mx_S → Option mx_Rt) (P : List mx_Op) (K : Nat → mx_Loc → mx_S → Option mx_Rt) (Kn : Nat → Nat → mx_Loc → mx_S → Option mx_Rt) (hK : ∀ h l σ r, K h l σ = some r → ∃ m, Kn m h l σ = some r) : ∀ n c l s σ r, mx_run E P K n c l s σ = some r → ∃ m, mx_run E P (Kn m) n c l s σ = some r := by
  intro n
  induction n with
  | zero => intro c l s σ r h; cases c <;> cases h
  | succ n ih =>
    intro c l s σ r h
    cases c with
    | nil => cases h
    | cons i c =>
      simp only [mx_run_s] at h ⊢
      generalize mx_act i l s σ = q at h ⊢
      rcases q with _ | (⟨l', s', σ'⟩ | ⟨t, l', s', σ'⟩ | ⟨v, σ'⟩ | ⟨y, rk, as, l', s', σ'⟩ | ⟨h', l', σ'⟩)
      · cases h
      · exact ih _ _ _ _ _ h
      · exact ih _ _ _ _ _ h
      · exact ⟨0, h⟩
      · rcases rk with _ | _ | rk
        · obtain ⟨σ2, e, h⟩ := mx_bV_iff.mp h
          obtain ⟨m, h⟩ := ih _ _ _ _ _ h
          exact ⟨m, mx_bV_iff.mpr ⟨σ2, e, h⟩⟩
        · obtain ⟨x, σ2, e, h⟩ := mx_bI_iff.mp h
          obtain ⟨m, h⟩ := ih _ _ _ _ _ h
          exact ⟨m, mx_bI_iff.mpr ⟨x, σ2, e, h⟩⟩
        · obtain ⟨x, σ2, e, h⟩ := mx_bJ_iff.mp h
          obtain ⟨m, h⟩ := ih _ _ _ _ _ h
          exact ⟨m, mx_bJ_iff.mpr ⟨x, σ2, e, h⟩⟩
      · exact hK _ _ _ _ h
theorem mx_L_mono (E : Nat → List mx_V → mx_S → Option mx_Rt) (P : List mx_Op) : ∀ n h loc σ r, mx_L E P n h loc σ = some r → mx_L E P (n + 1) h loc σ = some r := by
  intro n
  induction n with
  | zero => intro h loc σ r q; cases q
  | succ n ih => intro h loc σ r q; exact mx_run_mono E P _ _ ih _ _ _ _ _ _ q
noncomputable def mx_LL (E : Nat → List mx_V → mx_S → Option mx_Rt) (P : List mx_Op) (h : Nat) (loc : mx_Loc) (σ : mx_S) : Option mx_Rt := mx_lim (fun n => mx_L E P n h loc σ)
theorem mx_LL_iff (E : Nat → List mx_V → mx_S → Option mx_Rt) (P : List mx_Op) (h : Nat) (loc : mx_Loc) (σ : mx_S) (r : mx_Rt) : mx_LL E P h loc σ = some r ↔ ∃ n, mx_L E P n h loc σ = some r := mx_lim_iff (fun n r q => mx_L_mono E P n h loc σ r q) r
theorem mx_LL_eq (E : Nat → List mx_V → mx_S → Option mx_Rt) (P : List mx_Op) (h : Nat) (loc : mx_Loc) (σ : mx_S) : mx_LL E P h loc σ = mx_run E P (mx_LL E P) 2000 (P.drop (h + 1)) loc [] σ := by
  apply Option.ext
  intro r
  show mx_LL E P h loc σ = some r ↔ mx_run E P (mx_LL E P) 2000 (P.drop (h + 1)) loc [] σ = some r
  rw [mx_LL_iff]
  constructor
  · rintro ⟨n, q⟩
    cases n with
    | zero => cases q
    | succ n => exact mx_run_mono E P _ _ (fun h l σ r q => (mx_LL_iff E P h l σ r).mpr ⟨n, q⟩) _ _ _ _ _ _ q
  · intro q
    obtain ⟨m, q⟩ := mx_run_cont E P _ (mx_L E P) (fun h l σ r q => (mx_LL_iff E P h l σ r).mp q) _ _ _ _ _ _ q
    exact ⟨m + 1, q⟩
end
section
/-! ===== the programs, by number ===== -/
/-- RailOfHeads$Asks.begin.(I)V -/
def mx_p0 : List mx_Op := [(45, 0, 0, 0, 0, [1, 1]), (2, 0, 0, 0, 0, []), (23, 0, 0, 0, 2, []), (6, 16, 0, 0, 0, []), (20, 0, 0, 17, 3, []), (2, 0, 0, 0, 0, []), (23, 0, 0, 0, 1, []), (2, 0, 0, 0, 0, []), (23, 0, 0, 0, 2, []), (0, 0, 0, 1, 0, []), (26, 0, 0, 0, 0, []), (2, 0, 0, 0, 0, []), (17, 0, 0, 0, 0, []), (23, 0, 0, 0, 2, []), (6, 1, 0, 0, 0, []), (8, 0, 0, 0, 0, []), (24, 0, 0, 0, 2, []), (34, 0, 0, 0, 0, [])]
/-- RailOfHeads$Asks.body10.(I)I -/
def mx_p1 : List mx_Op := [(45, 0, 0, 0, 0, [1, 1]), (2, 0, 0, 0, 0, []), (6, 10, 0, 0, 0, []), (31, 0, 0, 0, 2, [0, 1, 2]), (2, 0, 0, 0, 0, []), (23, 0, 0, 0, 0, []), (23, 0, 0, 1, 7, []), (0, 0, 0, 1, 0, []), (25, 0, 0, 0, 0, []), (32, 0, 0, 0, 0, [])]
/-- RailOfHeads$Crowd.kindOf.(I)I -/
def mx_p2 : List mx_Op := [(45, 0, 0, 0, 0, [1, 1]), (2, 0, 0, 0, 0, []), (23, 0, 0, 1, 5, []), (0, 0, 0, 1, 0, []), (25, 0, 0, 0, 0, []), (6, (-2), 0, 0, 0, []), (20, 0, 0, 9, 1, []), (6, 5, 0, 0, 0, []), (32, 0, 0, 0, 0, []), (2, 0, 0, 0, 0, []), (23, 0, 0, 1, 13, []), (0, 0, 0, 1, 0, []), (25, 0, 0, 0, 0, []), (22, 0, 0, 20, 1, [14, 16, 18]), (6, 1, 0, 0, 0, []), (32, 0, 0, 0, 0, []), (6, 2, 0, 0, 0, []), (32, 0, 0, 0, 0, []), (6, 4, 0, 0, 0, []), (32, 0, 0, 0, 0, []), (2, 0, 0, 0, 0, []), (23, 0, 0, 1, 5, []), (0, 0, 0, 1, 0, []), (25, 0, 0, 0, 0, []), (6, (-1), 0, 0, 0, []), (20, 0, 0, 28, 1, []), (6, 5, 0, 0, 0, []), (21, 0, 0, 29, 0, []), (6, 3, 0, 0, 0, []), (32, 0, 0, 0, 0, [])]
/-- RailOfHeads$Asks.body20.(I)I -/
def mx_p3 : List mx_Op := [(45, 0, 0, 0, 0, [1, 1]), (2, 0, 0, 0, 0, []), (6, 20, 0, 0, 0, []), (31, 0, 0, 0, 2, [0, 1, 2]), (0, 0, 0, 1, 0, []), (32, 0, 0, 0, 0, [])]
/-- RailOfHeads$Asks.body24.(I)I -/
def mx_p4 : List mx_Op := [(45, 0, 0, 0, 0, [1, 1]), (2, 0, 0, 0, 0, []), (6, 24, 0, 0, 0, []), (31, 0, 0, 0, 2, [0, 1, 2]), (2, 0, 0, 0, 0, []), (0, 0, 0, 1, 0, []), (31, 0, 0, 3, 2, [1, 1, 2]), (6, 1000, 0, 0, 0, []), (8, 0, 0, 0, 0, []), (32, 0, 0, 0, 0, [])]
/-- RailOfHeads$Asks.body21.(I)I -/
def mx_p5 : List mx_Op := [(45, 0, 0, 0, 0, [1, 1]), (2, 0, 0, 0, 0, []), (6, 21, 0, 0, 0, []), (31, 0, 0, 0, 2, [0, 1, 2]), (2, 0, 0, 0, 0, []), (0, 0, 0, 1, 0, []), (31, 0, 0, 3, 2, [1, 1, 2]), (6, 100, 0, 0, 0, []), (6, 0, 0, 0, 0, []), (2, 0, 0, 0, 0, []), (23, 0, 0, 0, 0, []), (23, 0, 0, 1, 5, []), (0, 0, 0, 1, 0, []), (25, 0, 0, 0, 0, []), (46, 0, 0, 0, 1, []), (8, 0, 0, 0, 2, []), (8, 0, 0, 0, 0, []), (32, 0, 0, 0, 0, [])]
/-- RailOfHeads$Asks.body22.(I)I -/
def mx_p6 : List mx_Op := [(45, 0, 0, 0, 0, [1, 1]), (2, 0, 0, 0, 0, []), (6, 22, 0, 0, 0, []), (31, 0, 0, 0, 2, [0, 1, 2]), (2, 0, 0, 0, 0, []), (0, 0, 0, 1, 0, []), (31, 0, 0, 5, 2, [1, 1, 2]), (2, 0, 0, 0, 0, []), (23, 0, 0, 0, 0, []), (23, 0, 0, 1, 6, []), (0, 0, 0, 1, 0, []), (25, 0, 0, 0, 0, []), (8, 0, 0, 0, 0, []), (32, 0, 0, 0, 0, [])]
/-- RailOfHeads$Asks.body13.(I)I -/
def mx_p7 : List mx_Op := [(45, 0, 0, 0, 0, [1, 1]), (2, 0, 0, 0, 0, []), (6, 13, 0, 0, 0, []), (31, 0, 0, 0, 2, [0, 1, 2]), (2, 0, 0, 0, 0, []), (0, 0, 0, 1, 0, []), (31, 0, 0, 1, 2, [1, 1, 2]), (10, 0, 0, 0, 0, []), (32, 0, 0, 0, 0, [])]
/-- RailOfHeads$Asks.body14.(I)I -/
def mx_p8 : List mx_Op := [(45, 0, 0, 0, 0, [1, 1]), (2, 0, 0, 0, 0, []), (6, 14, 0, 0, 0, []), (31, 0, 0, 0, 2, [0, 1, 2]), (2, 0, 0, 0, 0, []), (0, 0, 0, 1, 0, []), (31, 0, 0, 7, 2, [1, 1, 2]), (6, 100, 0, 0, 0, []), (8, 0, 0, 0, 1, []), (32, 0, 0, 0, 0, [])]
/-- RailOfHeads$Asks.size.(II)I -/
def mx_p9 : List mx_Op := [(45, 0, 0, 0, 0, [1, 1, 1]), (0, 0, 0, 2, 0, []), (6, 4, 0, 0, 0, []), (20, 0, 0, 6, 5, []), (6, 0, 0, 0, 0, []), (32, 0, 0, 0, 0, []), (2, 0, 0, 0, 0, []), (23, 0, 0, 0, 0, []), (0, 0, 0, 1, 0, []), (31, 0, 0, 2, 2, [1, 2, 2]), (22, 0, 0, 29, 1, [11, 16, 21, 25]), (2, 0, 0, 0, 0, []), (0, 0, 0, 1, 0, []), (0, 0, 0, 2, 0, []), (31, 0, 0, 12, 3, [1, 1, 3]), (32, 0, 0, 0, 0, []), (2, 0, 0, 0, 0, []), (0, 0, 0, 1, 0, []), (0, 0, 0, 2, 0, []), (31, 0, 0, 13, 3, [1, 1, 3]), (32, 0, 0, 0, 0, []), (2, 0, 0, 0, 0, []), (0, 0, 0, 1, 0, []), (31, 0, 0, 7, 2, [1, 1, 2]), (32, 0, 0, 0, 0, []), (2, 0, 0, 0, 0, []), (0, 0, 0, 1, 0, []), (31, 0, 0, 8, 2, [1, 1, 2]), (32, 0, 0, 0, 0, []), (2, 0, 0, 0, 0, []), (0, 0, 0, 1, 0, []), (31, 0, 0, 1, 2, [1, 1, 2]), (32, 0, 0, 0, 0, [])]
/-- RailOfHeads$Asks.body23.(II)I -/
def mx_p10 : List mx_Op := [(45, 0, 0, 0, 0, [1, 1, 1]), (2, 0, 0, 0, 0, []), (6, 23, 0, 0, 0, []), (31, 0, 0, 0, 2, [0, 1, 2]), (2, 0, 0, 0, 0, []), (0, 0, 0, 1, 0, []), (31, 0, 0, 3, 2, [1, 1, 2]), (2, 0, 0, 0, 0, []), (0, 0, 0, 1, 0, []), (0, 0, 0, 2, 0, []), (6, 1, 0, 0, 0, []), (8, 0, 0, 0, 0, []), (31, 0, 0, 9, 3, [1, 1, 3]), (8, 0, 0, 0, 0, []), (32, 0, 0, 0, 0, [])]
/-- RailOfHeads$Asks.mark.(II)I -/
def mx_p11 : List mx_Op := [(45, 0, 0, 0, 0, [1, 1, 1]), (0, 0, 0, 2, 0, []), (6, 4, 0, 0, 0, []), (20, 0, 0, 6, 5, []), (6, 0, 0, 0, 0, []), (32, 0, 0, 0, 0, []), (2, 0, 0, 0, 0, []), (23, 0, 0, 0, 0, []), (0, 0, 0, 1, 0, []), (31, 0, 0, 2, 2, [1, 2, 2]), (22, 0, 0, 28, 2, [11, 15, 19, 23]), (2, 0, 0, 0, 0, []), (0, 0, 0, 1, 0, []), (31, 0, 0, 4, 2, [1, 1, 2]), (32, 0, 0, 0, 0, []), (2, 0, 0, 0, 0, []), (0, 0, 0, 1, 0, []), (31, 0, 0, 5, 2, [1, 1, 2]), (32, 0, 0, 0, 0, []), (2, 0, 0, 0, 0, []), (0, 0, 0, 1, 0, []), (31, 0, 0, 6, 2, [1, 1, 2]), (32, 0, 0, 0, 0, []), (2, 0, 0, 0, 0, []), (0, 0, 0, 1, 0, []), (0, 0, 0, 2, 0, []), (31, 0, 0, 10, 3, [1, 1, 3]), (32, 0, 0, 0, 0, []), (2, 0, 0, 0, 0, []), (0, 0, 0, 1, 0, []), (31, 0, 0, 3, 2, [1, 1, 2]), (32, 0, 0, 0, 0, [])]
/-- RailOfHeads$Asks.body11.(II)I -/
def mx_p12 : List mx_Op := [(45, 0, 0, 0, 0, [1, 1, 1]), (2, 0, 0, 0, 0, []), (6, 11, 0, 0, 0, []), (31, 0, 0, 0, 2, [0, 1, 2]), (2, 0, 0, 0, 0, []), (0, 0, 0, 1, 0, []), (31, 0, 0, 1, 2, [1, 1, 2]), (2, 0, 0, 0, 0, []), (0, 0, 0, 1, 0, []), (0, 0, 0, 2, 0, []), (6, 1, 0, 0, 0, []), (8, 0, 0, 0, 0, []), (31, 0, 0, 11, 3, [1, 1, 3]), (8, 0, 0, 0, 0, []), (32, 0, 0, 0, 0, [])]
/-- RailOfHeads$Asks.body12.(II)I -/
def mx_p13 : List mx_Op := [(45, 0, 0, 0, 0, [1, 1, 1]), (2, 0, 0, 0, 0, []), (6, 12, 0, 0, 0, []), (31, 0, 0, 0, 2, [0, 1, 2]), (2, 0, 0, 0, 0, []), (0, 0, 0, 1, 0, []), (31, 0, 0, 1, 2, [1, 1, 2]), (2, 0, 0, 0, 0, []), (0, 0, 0, 1, 0, []), (0, 0, 0, 2, 0, []), (6, 1, 0, 0, 0, []), (8, 0, 0, 0, 0, []), (31, 0, 0, 11, 3, [1, 1, 3]), (8, 0, 0, 0, 1, []), (32, 0, 0, 0, 0, [])]
/-- RailOfHeads$Asks.size.(II)I -/
def mx_p14 : List mx_Op := [(45, 0, 0, 0, 0, [1, 1, 1]), (0, 0, 0, 2, 0, []), (6, 4, 0, 0, 0, []), (20, 0, 0, 6, 5, []), (6, 0, 0, 0, 0, []), (32, 0, 0, 0, 0, []), (2, 0, 0, 0, 0, []), (23, 0, 0, 0, 0, []), (0, 0, 0, 1, 0, []), (31, 0, 0, 2, 2, [1, 2, 2]), (22, 0, 0, 29, 1, [11, 16, 21, 25]), (2, 0, 0, 0, 0, []), (0, 0, 0, 1, 0, []), (0, 0, 0, 2, 0, []), (31, 0, 0, 12, 3, [1, 1, 3]), (32, 0, 0, 0, 0, []), (2, 0, 0, 0, 0, []), (0, 0, 0, 1, 0, []), (0, 0, 0, 2, 0, []), (31, 0, 0, 13, 3, [1, 1, 3]), (32, 0, 0, 0, 0, []), (2, 0, 0, 0, 0, []), (0, 0, 0, 1, 0, []), (31, 0, 0, 7, 2, [1, 1, 2]), (32, 0, 0, 0, 0, []), (2, 0, 0, 0, 0, []), (0, 0, 0, 1, 0, []), (31, 0, 0, 8, 2, [1, 1, 2]), (32, 0, 0, 0, 0, []), (2, 0, 0, 0, 0, []), (0, 0, 0, 1, 0, []), (31, 0, 0, 1, 2, [1, 1, 2]), (32, 0, 0, 0, 0, [])]
/-- java/lang/Integer.bitCount.(I)I -/
def mx_p15 : List mx_Op := [(45, 0, 0, 0, 0, [1]), (0, 0, 0, 0, 0, []), (0, 0, 0, 0, 0, []), (6, 1, 0, 0, 0, []), (8, 0, 0, 0, 7, []), (6, 1431655765, 0, 0, 0, []), (8, 0, 0, 0, 3, []), (8, 0, 0, 0, 1, []), (3, 0, 0, 0, 0, []), (0, 0, 0, 0, 0, []), (6, 858993459, 0, 0, 0, []), (8, 0, 0, 0, 3, []), (0, 0, 0, 0, 0, []), (6, 2, 0, 0, 0, []), (8, 0, 0, 0, 7, []), (6, 858993459, 0, 0, 0, []), (8, 0, 0, 0, 3, []), (8, 0, 0, 0, 0, []), (3, 0, 0, 0, 0, []), (0, 0, 0, 0, 0, []), (0, 0, 0, 0, 0, []), (6, 4, 0, 0, 0, []), (8, 0, 0, 0, 7, []), (8, 0, 0, 0, 0, []), (6, 252645135, 0, 0, 0, []), (8, 0, 0, 0, 3, []), (3, 0, 0, 0, 0, []), (0, 0, 0, 0, 0, []), (0, 0, 0, 0, 0, []), (6, 8, 0, 0, 0, []), (8, 0, 0, 0, 7, []), (8, 0, 0, 0, 0, []), (3, 0, 0, 0, 0, []), (0, 0, 0, 0, 0, []), (0, 0, 0, 0, 0, []), (6, 16, 0, 0, 0, []), (8, 0, 0, 0, 7, []), (8, 0, 0, 0, 0, []), (3, 0, 0, 0, 0, []), (0, 0, 0, 0, 0, []), (6, 63, 0, 0, 0, []), (8, 0, 0, 0, 3, []), (32, 0, 0, 0, 0, [])]
/-- RailOfHeads$Crowd.allMissed.()I -/
def mx_p16 : List mx_Op := [(45, 0, 0, 0, 0, [1, 1, 1]), (6, 0, 0, 0, 0, []), (3, 0, 0, 1, 0, []), (6, 0, 0, 0, 0, []), (3, 0, 0, 2, 0, []), (45, 0, 0, 5, 0, [1, 1, 1]), (0, 0, 0, 2, 0, []), (2, 0, 0, 0, 0, []), (23, 0, 0, 1, 0, []), (23, 0, 0, 3, 17, []), (20, 0, 0, 21, 3, []), (0, 0, 0, 1, 0, []), (2, 0, 0, 0, 0, []), (23, 0, 0, 1, 9, []), (0, 0, 0, 2, 0, []), (25, 0, 0, 0, 0, []), (31, 0, 0, 15, 1, [1, 0, 1]), (8, 0, 0, 0, 0, []), (3, 0, 0, 1, 0, []), (16, 1, 0, 2, 0, []), (21, 0, 0, 5, 0, []), (0, 0, 0, 1, 0, []), (32, 0, 0, 0, 0, [])]
/-- RailOfHeads$Crowd.allSaw.()I -/
def mx_p17 : List mx_Op := [(45, 0, 0, 0, 0, [1, 1, 1]), (6, 0, 0, 0, 0, []), (3, 0, 0, 1, 0, []), (6, 0, 0, 0, 0, []), (3, 0, 0, 2, 0, []), (45, 0, 0, 5, 0, [1, 1, 1]), (0, 0, 0, 2, 0, []), (2, 0, 0, 0, 0, []), (23, 0, 0, 1, 0, []), (23, 0, 0, 3, 17, []), (20, 0, 0, 20, 3, []), (0, 0, 0, 1, 0, []), (2, 0, 0, 0, 0, []), (23, 0, 0, 1, 7, []), (0, 0, 0, 2, 0, []), (25, 0, 0, 0, 0, []), (8, 0, 0, 0, 0, []), (3, 0, 0, 1, 0, []), (16, 1, 0, 2, 0, []), (21, 0, 0, 5, 0, []), (0, 0, 0, 1, 0, []), (32, 0, 0, 0, 0, [])]
/-- java/util/Arrays.fill.([II)V -/
def mx_p18 : List mx_Op := [(45, 0, 0, 0, 0, [1, 1, 1, 1]), (6, 0, 0, 0, 0, []), (3, 0, 0, 2, 0, []), (2, 0, 0, 0, 0, []), (30, 0, 0, 0, 0, []), (3, 0, 0, 3, 0, []), (45, 0, 0, 6, 0, [1, 1, 1, 1]), (0, 0, 0, 2, 0, []), (0, 0, 0, 3, 0, []), (20, 0, 0, 16, 3, []), (2, 0, 0, 0, 0, []), (0, 0, 0, 2, 0, []), (0, 0, 0, 1, 0, []), (26, 0, 0, 0, 0, []), (16, 1, 0, 2, 0, []), (21, 0, 0, 6, 0, []), (34, 0, 0, 0, 0, [])]
/-- RailOfHeads$Crowd.begin.(I)V -/
def mx_p19 : List mx_Op := [(45, 0, 0, 0, 0, [1, 1, 1, 1, 1]), (2, 0, 0, 0, 0, []), (6, 0, 0, 0, 0, []), (24, 0, 0, 1, 2, []), (2, 0, 0, 0, 0, []), (6, 0, 0, 0, 0, []), (24, 0, 0, 1, 3, []), (6, 0, 0, 0, 0, []), (3, 0, 0, 2, 0, []), (6, 0, 0, 0, 0, []), (3, 0, 0, 3, 0, []), (45, 0, 0, 11, 0, [1, 1, 1, 1, 0]), (0, 0, 0, 3, 0, []), (2, 0, 0, 0, 0, []), (23, 0, 0, 1, 0, []), (23, 0, 0, 3, 12, []), (20, 0, 0, 49, 3, []), (6, 0, 0, 0, 0, []), (3, 0, 0, 4, 0, []), (45, 0, 0, 19, 0, [1, 1, 1, 1, 1]), (0, 0, 0, 4, 0, []), (2, 0, 0, 0, 0, []), (23, 0, 0, 1, 0, []), (23, 0, 0, 3, 13, []), (0, 0, 0, 3, 0, []), (25, 0, 0, 0, 0, []), (20, 0, 0, 47, 3, []), (0, 0, 0, 2, 0, []), (6, 30, 0, 0, 0, []), (20, 0, 0, 47, 3, []), (2, 0, 0, 0, 0, []), (23, 0, 0, 1, 4, []), (0, 0, 0, 2, 0, []), (0, 0, 0, 3, 0, []), (26, 0, 0, 0, 0, []), (2, 0, 0, 0, 0, []), (23, 0, 0, 1, 6, []), (0, 0, 0, 2, 0, []), (2, 0, 0, 0, 0, []), (23, 0, 0, 1, 0, []), (23, 0, 0, 3, 16, []), (0, 0, 0, 3, 0, []), (25, 0, 0, 0, 0, []), (26, 0, 0, 0, 0, []), (16, 1, 0, 2, 0, []), (16, 1, 0, 4, 0, []), (21, 0, 0, 19, 0, []), (16, 1, 0, 3, 0, []), (21, 0, 0, 11, 0, []), (2, 0, 0, 0, 0, []), (23, 0, 0, 1, 5, []), (6, (-1), 0, 0, 0, []), (31, 0, 0, 18, 2, [0, 0, 4]), (2, 0, 0, 0, 0, []), (23, 0, 0, 1, 7, []), (6, 0, 0, 0, 0, []), (31, 0, 0, 18, 2, [0, 0, 4]), (2, 0, 0, 0, 0, []), (23, 0, 0, 1, 8, []), (0, 0, 0, 1, 0, []), (31, 0, 0, 18, 2, [0, 0, 4]), (2, 0, 0, 0, 0, []), (23, 0, 0, 1, 9, []), (6, 0, 0, 0, 0, []), (31, 0, 0, 18, 2, [0, 0, 4]), (2, 0, 0, 0, 0, []), (23, 0, 0, 1, 10, []), (6, (-1), 0, 0, 0, []), (31, 0, 0, 18, 2, [0, 0, 4]), (2, 0, 0, 0, 0, []), (23, 0, 0, 1, 11, []), (6, 0, 0, 0, 0, []), (31, 0, 0, 18, 2, [0, 0, 4]), (2, 0, 0, 0, 0, []), (23, 0, 0, 1, 12, []), (6, 0, 0, 0, 0, []), (31, 0, 0, 18, 2, [0, 0, 4]), (2, 0, 0, 0, 0, []), (23, 0, 0, 1, 13, []), (6, 0, 0, 0, 0, []), (31, 0, 0, 18, 2, [0, 0, 4]), (34, 0, 0, 0, 0, [])]
/-- RailOfHeads$Crowd.chooseAim.(I)I -/
def mx_p20 : List mx_Op := [(45, 0, 0, 0, 0, [1, 1, 1, 1, 1, 1, 1, 1]), (2, 0, 0, 0, 0, []), (23, 0, 0, 1, 0, []), (23, 0, 0, 3, 15, []), (2, 0, 0, 0, 0, []), (23, 0, 0, 1, 4, []), (0, 0, 0, 1, 0, []), (25, 0, 0, 0, 0, []), (25, 0, 0, 0, 0, []), (3, 0, 0, 2, 0, []), (6, (-1), 0, 0, 0, []), (3, 0, 0, 3, 0, []), (6, 0, 0, 0, 0, []), (3, 0, 0, 4, 0, []), (6, 0, 0, 0, 0, []), (3, 0, 0, 5, 0, []), (45, 0, 0, 16, 0, [1, 1, 1, 1, 1, 1, 0, 0]), (0, 0, 0, 5, 0, []), (2, 0, 0, 0, 0, []), (23, 0, 0, 1, 0, []), (23, 0, 0, 3, 8, []), (20, 0, 0, 84, 3, []), (2, 0, 0, 0, 0, []), (23, 0, 0, 1, 1, []), (23, 0, 0, 6, 0, []), (2, 0, 0, 0, 0, []), (23, 0, 0, 1, 5, []), (0, 0, 0, 1, 0, []), (25, 0, 0, 0, 0, []), (6, 6, 0, 0, 0, []), (8, 0, 0, 0, 2, []), (2, 0, 0, 0, 0, []), (23, 0, 0, 1, 0, []), (23, 0, 0, 3, 9, []), (0, 0, 0, 5, 0, []), (25, 0, 0, 0, 0, []), (8, 0, 0, 0, 0, []), (25, 0, 0, 0, 0, []), (3, 0, 0, 6, 0, []), (0, 0, 0, 6, 0, []), (6, 1000, 0, 0, 0, []), (20, 0, 0, 82, 0, []), (2, 0, 0, 0, 0, []), (23, 0, 0, 1, 8, []), (0, 0, 0, 1, 0, []), (25, 0, 0, 0, 0, []), (0, 0, 0, 5, 0, []), (8, 0, 0, 0, 6, []), (6, 1, 0, 0, 0, []), (8, 0, 0, 0, 3, []), (6, 1, 0, 0, 0, []), (20, 0, 0, 53, 1, []), (21, 0, 0, 82, 0, []), (0, 0, 0, 2, 0, []), (6, 2, 0, 0, 0, []), (20, 0, 0, 60, 0, []), (0, 0, 0, 2, 0, []), (19, 0, 0, 62, 1, []), (0, 0, 0, 5, 0, []), (19, 0, 0, 62, 1, []), (0, 0, 0, 5, 0, []), (32, 0, 0, 0, 0, []), (2, 0, 0, 0, 0, []), (23, 0, 0, 1, 0, []), (23, 0, 0, 3, 10, []), (0, 0, 0, 5, 0, []), (25, 0, 0, 0, 0, []), (6, 5, 0, 0, 0, []), (0, 0, 0, 6, 0, []), (8, 0, 0, 0, 2, []), (8, 0, 0, 0, 1, []), (3, 0, 0, 7, 0, []), (0, 0, 0, 3, 0, []), (6, (-1), 0, 0, 0, []), (20, 0, 0, 78, 0, []), (0, 0, 0, 7, 0, []), (0, 0, 0, 4, 0, []), (20, 0, 0, 82, 5, []), (0, 0, 0, 5, 0, []), (3, 0, 0, 3, 0, []), (0, 0, 0, 7, 0, []), (3, 0, 0, 4, 0, []), (16, 1, 0, 5, 0, []), (21, 0, 0, 16, 0, []), (0, 0, 0, 3, 0, []), (32, 0, 0, 0, 0, [])]
/-- RailOfHeads.isBelow.(II)Z -/
def mx_p21 : List mx_Op := [(45, 0, 0, 0, 0, [1, 1]), (0, 0, 0, 0, 0, []), (19, 0, 0, 8, 2, []), (0, 0, 0, 0, 0, []), (0, 0, 0, 1, 0, []), (20, 0, 0, 8, 3, []), (6, 1, 0, 0, 0, []), (21, 0, 0, 9, 0, []), (6, 0, 0, 0, 0, []), (32, 0, 0, 0, 1, [])]
/-- RailOfHeads$Crowd.enter.(II)Z -/
def mx_p22 : List mx_Op := [(45, 0, 0, 0, 0, [1, 1, 1]), (0, 0, 0, 2, 0, []), (2, 0, 0, 0, 0, []), (23, 0, 0, 1, 0, []), (23, 0, 0, 3, 2, []), (31, 0, 0, 21, 2, [1, 0, 2]), (19, 0, 0, 17, 0, []), (2, 0, 0, 0, 0, []), (23, 0, 0, 1, 12, []), (0, 0, 0, 2, 0, []), (25, 0, 0, 0, 0, []), (2, 0, 0, 0, 0, []), (23, 0, 0, 1, 0, []), (23, 0, 0, 3, 3, []), (0, 0, 0, 2, 0, []), (25, 0, 0, 0, 0, []), (20, 0, 0, 19, 2, []), (6, 0, 0, 0, 0, []), (32, 0, 0, 0, 1, []), (2, 0, 0, 0, 0, []), (23, 0, 0, 1, 12, []), (0, 0, 0, 2, 0, []), (18, 0, 0, 0, 0, []), (25, 0, 0, 0, 0, []), (6, 1, 0, 0, 0, []), (8, 0, 0, 0, 0, []), (26, 0, 0, 0, 0, []), (2, 0, 0, 0, 0, []), (23, 0, 0, 1, 5, []), (0, 0, 0, 1, 0, []), (0, 0, 0, 2, 0, []), (26, 0, 0, 0, 0, []), (2, 0, 0, 0, 0, []), (23, 0, 0, 1, 10, []), (0, 0, 0, 1, 0, []), (2, 0, 0, 0, 0, []), (0, 0, 0, 1, 0, []), (31, 0, 0, 20, 2, [1, 2, 8]), (26, 0, 0, 0, 0, []), (6, 1, 0, 0, 0, []), (32, 0, 0, 0, 1, [])]
/-- RailOfHeads$Crowd.leave.(I)V -/
def mx_p23 : List mx_Op := [(45, 0, 0, 0, 0, [1, 1]), (2, 0, 0, 0, 0, []), (23, 0, 0, 1, 5, []), (0, 0, 0, 1, 0, []), (6, (-2), 0, 0, 0, []), (26, 0, 0, 0, 0, []), (2, 0, 0, 0, 0, []), (17, 0, 0, 0, 0, []), (23, 0, 0, 1, 3, []), (6, 1, 0, 0, 0, []), (8, 0, 0, 0, 0, []), (24, 0, 0, 1, 3, []), (34, 0, 0, 0, 0, [])]
/-- RailOfHeads$Crowd.waitOn.(I)V -/
def mx_p24 : List mx_Op := [(45, 0, 0, 0, 0, [1, 1]), (2, 0, 0, 0, 0, []), (23, 0, 0, 1, 13, []), (0, 0, 0, 1, 0, []), (6, 3, 0, 0, 0, []), (26, 0, 0, 0, 0, []), (2, 0, 0, 0, 0, []), (23, 0, 0, 1, 6, []), (0, 0, 0, 1, 0, []), (25, 0, 0, 0, 0, []), (19, 0, 0, 20, 5, []), (2, 0, 0, 0, 0, []), (23, 0, 0, 1, 6, []), (0, 0, 0, 1, 0, []), (18, 0, 0, 0, 0, []), (25, 0, 0, 0, 0, []), (6, 1, 0, 0, 0, []), (8, 0, 0, 0, 1, []), (26, 0, 0, 0, 0, []), (21, 0, 0, 62, 0, []), (2, 0, 0, 0, 0, []), (23, 0, 0, 1, 5, []), (0, 0, 0, 1, 0, []), (25, 0, 0, 0, 0, []), (6, (-1), 0, 0, 0, []), (20, 0, 0, 30, 1, []), (2, 0, 0, 0, 0, []), (0, 0, 0, 1, 0, []), (31, 0, 0, 23, 2, [0, 2, 2]), (21, 0, 0, 62, 0, []), (2, 0, 0, 0, 0, []), (23, 0, 0, 1, 10, []), (0, 0, 0, 1, 0, []), (25, 0, 0, 0, 0, []), (6, (-1), 0, 0, 0, []), (20, 0, 0, 62, 0, []), (2, 0, 0, 0, 0, []), (23, 0, 0, 1, 9, []), (0, 0, 0, 1, 0, []), (18, 0, 0, 0, 0, []), (25, 0, 0, 0, 0, []), (6, 1, 0, 0, 0, []), (2, 0, 0, 0, 0, []), (23, 0, 0, 1, 10, []), (0, 0, 0, 1, 0, []), (25, 0, 0, 0, 0, []), (8, 0, 0, 0, 5, []), (8, 0, 0, 0, 4, []), (26, 0, 0, 0, 0, []), (2, 0, 0, 0, 0, []), (23, 0, 0, 1, 8, []), (0, 0, 0, 1, 0, []), (18, 0, 0, 0, 0, []), (25, 0, 0, 0, 0, []), (6, 1, 0, 0, 0, []), (2, 0, 0, 0, 0, []), (23, 0, 0, 1, 10, []), (0, 0, 0, 1, 0, []), (25, 0, 0, 0, 0, []), (8, 0, 0, 0, 5, []), (8, 0, 0, 0, 4, []), (26, 0, 0, 0, 0, []), (34, 0, 0, 0, 0, [])]
/-- RailOfHeads$Crowd.comeIn.(I)V -/
def mx_p25 : List mx_Op := [(45, 0, 0, 0, 0, [1, 1]), (2, 0, 0, 0, 0, []), (23, 0, 0, 1, 0, []), (23, 0, 0, 3, 14, []), (2, 0, 0, 0, 0, []), (23, 0, 0, 1, 4, []), (0, 0, 0, 1, 0, []), (25, 0, 0, 0, 0, []), (25, 0, 0, 0, 0, []), (2, 0, 0, 0, 0, []), (23, 0, 0, 1, 2, []), (20, 0, 0, 20, 4, []), (2, 0, 0, 0, 0, []), (0, 0, 0, 1, 0, []), (6, 0, 0, 0, 0, []), (31, 0, 0, 22, 3, [1, 2, 3]), (19, 0, 0, 20, 1, []), (2, 0, 0, 0, 0, []), (0, 0, 0, 1, 0, []), (31, 0, 0, 24, 2, [0, 2, 2]), (34, 0, 0, 0, 0, [])]
/-- RailOfHeads$Crowd.lookAt.(II)V -/
def mx_p26 : List mx_Op := [(45, 0, 0, 0, 0, [1, 1, 1, 1, 1]), (2, 0, 0, 0, 0, []), (23, 0, 0, 1, 14, []), (0, 0, 0, 2, 0, []), (25, 0, 0, 0, 0, []), (2, 0, 0, 0, 0, []), (23, 0, 0, 1, 0, []), (23, 0, 0, 3, 0, []), (20, 0, 0, 11, 3, []), (6, 1, 0, 0, 0, []), (21, 0, 0, 12, 0, []), (6, 0, 0, 0, 0, []), (3, 0, 0, 3, 0, []), (2, 0, 0, 0, 0, []), (23, 0, 0, 1, 14, []), (0, 0, 0, 2, 0, []), (18, 0, 0, 0, 0, []), (25, 0, 0, 0, 0, []), (6, 1, 0, 0, 0, []), (8, 0, 0, 0, 0, []), (26, 0, 0, 0, 0, []), (2, 0, 0, 0, 0, []), (23, 0, 0, 1, 13, []), (0, 0, 0, 1, 0, []), (0, 0, 0, 3, 0, []), (19, 0, 0, 28, 0, []), (6, 1, 0, 0, 0, []), (21, 0, 0, 29, 0, []), (6, 2, 0, 0, 0, []), (26, 0, 0, 0, 0, []), (2, 0, 0, 0, 0, []), (23, 0, 0, 1, 7, []), (0, 0, 0, 1, 0, []), (18, 0, 0, 0, 0, []), (25, 0, 0, 0, 0, []), (0, 0, 0, 3, 0, []), (19, 0, 0, 39, 0, []), (6, 10, 0, 0, 0, []), (21, 0, 0, 40, 0, []), (6, 4, 0, 0, 0, []), (2, 0, 0, 0, 0, []), (23, 0, 0, 1, 0, []), (23, 0, 0, 3, 10, []), (0, 0, 0, 2, 0, []), (25, 0, 0, 0, 0, []), (8, 0, 0, 0, 2, []), (8, 0, 0, 0, 0, []), (26, 0, 0, 0, 0, []), (0, 0, 0, 1, 0, []), (6, 8, 0, 0, 0, []), (8, 0, 0, 0, 2, []), (0, 0, 0, 2, 0, []), (8, 0, 0, 0, 0, []), (3, 0, 0, 4, 0, []), (2, 0, 0, 0, 0, []), (23, 0, 0, 1, 11, []), (0, 0, 0, 4, 0, []), (18, 0, 0, 0, 0, []), (25, 0, 0, 0, 0, []), (6, 1, 0, 0, 0, []), (8, 0, 0, 0, 0, []), (26, 0, 0, 0, 0, []), (2, 0, 0, 0, 0, []), (23, 0, 0, 1, 11, []), (0, 0, 0, 4, 0, []), (25, 0, 0, 0, 0, []), (2, 0, 0, 0, 0, []), (23, 0, 0, 1, 0, []), (23, 0, 0, 3, 11, []), (0, 0, 0, 2, 0, []), (25, 0, 0, 0, 0, []), (20, 0, 0, 84, 3, []), (2, 0, 0, 0, 0, []), (23, 0, 0, 1, 0, []), (23, 0, 0, 3, 1, []), (19, 0, 0, 94, 5, []), (2, 0, 0, 0, 0, []), (23, 0, 0, 1, 11, []), (0, 0, 0, 4, 0, []), (25, 0, 0, 0, 0, []), (2, 0, 0, 0, 0, []), (23, 0, 0, 1, 0, []), (23, 0, 0, 3, 1, []), (20, 0, 0, 94, 2, []), (2, 0, 0, 0, 0, []), (23, 0, 0, 1, 8, []), (0, 0, 0, 1, 0, []), (18, 0, 0, 0, 0, []), (25, 0, 0, 0, 0, []), (6, 1, 0, 0, 0, []), (0, 0, 0, 2, 0, []), (8, 0, 0, 0, 5, []), (8, 0, 0, 0, 4, []), (26, 0, 0, 0, 0, []), (34, 0, 0, 0, 0, [])]
/-- RailOfHeads$Crowd.goAbout.(I)V -/
def mx_p27 : List mx_Op := [(45, 0, 0, 0, 0, [1, 1, 1, 1, 1]), (2, 0, 0, 0, 0, []), (23, 0, 0, 1, 5, []), (0, 0, 0, 1, 0, []), (25, 0, 0, 0, 0, []), (3, 0, 0, 2, 0, []), (2, 0, 0, 0, 0, []), (23, 0, 0, 1, 10, []), (0, 0, 0, 1, 0, []), (25, 0, 0, 0, 0, []), (6, (-1), 0, 0, 0, []), (20, 0, 0, 24, 1, []), (2, 0, 0, 0, 0, []), (23, 0, 0, 1, 12, []), (0, 0, 0, 2, 0, []), (18, 0, 0, 0, 0, []), (25, 0, 0, 0, 0, []), (6, 1, 0, 0, 0, []), (8, 0, 0, 0, 1, []), (26, 0, 0, 0, 0, []), (2, 0, 0, 0, 0, []), (0, 0, 0, 1, 0, []), (31, 0, 0, 23, 2, [0, 2, 2]), (34, 0, 0, 0, 0, []), (2, 0, 0, 0, 0, []), (23, 0, 0, 1, 8, []), (0, 0, 0, 1, 0, []), (25, 0, 0, 0, 0, []), (3, 0, 0, 3, 0, []), (2, 0, 0, 0, 0, []), (23, 0, 0, 1, 0, []), (23, 0, 0, 3, 9, []), (2, 0, 0, 0, 0, []), (23, 0, 0, 1, 10, []), (0, 0, 0, 1, 0, []), (25, 0, 0, 0, 0, []), (25, 0, 0, 0, 0, []), (3, 0, 0, 4, 0, []), (0, 0, 0, 4, 0, []), (0, 0, 0, 2, 0, []), (20, 0, 0, 49, 1, []), (2, 0, 0, 0, 0, []), (0, 0, 0, 1, 0, []), (2, 0, 0, 0, 0, []), (23, 0, 0, 1, 10, []), (0, 0, 0, 1, 0, []), (25, 0, 0, 0, 0, []), (31, 0, 0, 26, 3, [0, 2, 5]), (21, 0, 0, 74, 0, []), (2, 0, 0, 0, 0, []), (0, 0, 0, 1, 0, []), (2, 0, 0, 0, 0, []), (23, 0, 0, 1, 1, []), (23, 0, 0, 6, 1, []), (0, 0, 0, 2, 0, []), (6, 6, 0, 0, 0, []), (8, 0, 0, 0, 2, []), (0, 0, 0, 4, 0, []), (8, 0, 0, 0, 0, []), (25, 0, 0, 0, 0, []), (31, 0, 0, 22, 3, [1, 2, 3]), (19, 0, 0, 71, 0, []), (2, 0, 0, 0, 0, []), (23, 0, 0, 1, 12, []), (0, 0, 0, 2, 0, []), (18, 0, 0, 0, 0, []), (25, 0, 0, 0, 0, []), (6, 1, 0, 0, 0, []), (8, 0, 0, 0, 1, []), (26, 0, 0, 0, 0, []), (21, 0, 0, 74, 0, []), (2, 0, 0, 0, 0, []), (0, 0, 0, 1, 0, []), (31, 0, 0, 24, 2, [0, 2, 2]), (2, 0, 0, 0, 0, []), (23, 0, 0, 1, 8, []), (0, 0, 0, 1, 0, []), (25, 0, 0, 0, 0, []), (0, 0, 0, 3, 0, []), (20, 0, 0, 87, 0, []), (2, 0, 0, 0, 0, []), (23, 0, 0, 1, 10, []), (0, 0, 0, 1, 0, []), (2, 0, 0, 0, 0, []), (0, 0, 0, 1, 0, []), (31, 0, 0, 20, 2, [1, 2, 8]), (26, 0, 0, 0, 0, []), (34, 0, 0, 0, 0, [])]
/-- RailOfHeads$Crowd.leastSaw.()I -/
def mx_p28 : List mx_Op := [(45, 0, 0, 0, 0, [1, 1, 1]), (2, 0, 0, 0, 0, []), (23, 0, 0, 1, 7, []), (6, 0, 0, 0, 0, []), (25, 0, 0, 0, 0, []), (3, 0, 0, 1, 0, []), (6, 1, 0, 0, 0, []), (3, 0, 0, 2, 0, []), (45, 0, 0, 8, 0, [1, 1, 1]), (0, 0, 0, 2, 0, []), (2, 0, 0, 0, 0, []), (23, 0, 0, 1, 0, []), (23, 0, 0, 3, 17, []), (20, 0, 0, 23, 3, []), (0, 0, 0, 1, 0, []), (2, 0, 0, 0, 0, []), (23, 0, 0, 1, 7, []), (0, 0, 0, 2, 0, []), (25, 0, 0, 0, 0, []), (46, 0, 0, 0, 0, []), (3, 0, 0, 1, 0, []), (16, 1, 0, 2, 0, []), (21, 0, 0, 8, 0, []), (0, 0, 0, 1, 0, []), (32, 0, 0, 0, 0, [])]
/-- RailOfHeads$Crowd.passMinute.()V -/
def mx_p29 : List mx_Op := [(45, 0, 0, 0, 0, [1, 1]), (2, 0, 0, 0, 0, []), (23, 0, 0, 1, 14, []), (6, 0, 0, 0, 0, []), (31, 0, 0, 18, 2, [0, 0, 4]), (6, 0, 0, 0, 0, []), (3, 0, 0, 1, 0, []), (45, 0, 0, 7, 0, [1, 1]), (0, 0, 0, 1, 0, []), (2, 0, 0, 0, 0, []), (23, 0, 0, 1, 0, []), (23, 0, 0, 3, 17, []), (20, 0, 0, 39, 3, []), (2, 0, 0, 0, 0, []), (23, 0, 0, 1, 13, []), (0, 0, 0, 1, 0, []), (6, 0, 0, 0, 0, []), (26, 0, 0, 0, 0, []), (2, 0, 0, 0, 0, []), (23, 0, 0, 1, 5, []), (0, 0, 0, 1, 0, []), (25, 0, 0, 0, 0, []), (6, (-1), 0, 0, 0, []), (20, 0, 0, 28, 1, []), (2, 0, 0, 0, 0, []), (0, 0, 0, 1, 0, []), (31, 0, 0, 25, 2, [0, 2, 2]), (21, 0, 0, 37, 0, []), (2, 0, 0, 0, 0, []), (23, 0, 0, 1, 5, []), (0, 0, 0, 1, 0, []), (25, 0, 0, 0, 0, []), (6, (-2), 0, 0, 0, []), (20, 0, 0, 37, 0, []), (2, 0, 0, 0, 0, []), (0, 0, 0, 1, 0, []), (31, 0, 0, 27, 2, [0, 2, 5]), (16, 1, 0, 1, 0, []), (21, 0, 0, 7, 0, []), (2, 0, 0, 0, 0, []), (17, 0, 0, 0, 0, []), (23, 0, 0, 1, 2, []), (6, 1, 0, 0, 0, []), (8, 0, 0, 0, 0, []), (24, 0, 0, 1, 2, []), (34, 0, 0, 0, 0, [])]
/-- RailOfHeads$Crowd.takeOver.(LRailOfHeads$Crowd;)V -/
def mx_p30 : List mx_Op := [(45, 0, 0, 0, 0, [1, 1]), (2, 0, 0, 0, 0, []), (2, 0, 0, 1, 0, []), (23, 0, 0, 1, 2, []), (24, 0, 0, 1, 2, []), (2, 0, 0, 0, 0, []), (2, 0, 0, 1, 0, []), (23, 0, 0, 1, 3, []), (24, 0, 0, 1, 3, []), (2, 0, 0, 1, 0, []), (23, 0, 0, 1, 4, []), (6, 0, 0, 0, 0, []), (2, 0, 0, 0, 0, []), (23, 0, 0, 1, 4, []), (6, 0, 0, 0, 0, []), (6, 30, 0, 0, 0, []), (36, 0, 0, 0, 0, []), (2, 0, 0, 1, 0, []), (23, 0, 0, 1, 5, []), (6, 0, 0, 0, 0, []), (2, 0, 0, 0, 0, []), (23, 0, 0, 1, 5, []), (6, 0, 0, 0, 0, []), (6, 30, 0, 0, 0, []), (36, 0, 0, 0, 0, []), (2, 0, 0, 1, 0, []), (23, 0, 0, 1, 6, []), (6, 0, 0, 0, 0, []), (2, 0, 0, 0, 0, []), (23, 0, 0, 1, 6, []), (6, 0, 0, 0, 0, []), (6, 30, 0, 0, 0, []), (36, 0, 0, 0, 0, []), (2, 0, 0, 1, 0, []), (23, 0, 0, 1, 7, []), (6, 0, 0, 0, 0, []), (2, 0, 0, 0, 0, []), (23, 0, 0, 1, 7, []), (6, 0, 0, 0, 0, []), (6, 30, 0, 0, 0, []), (36, 0, 0, 0, 0, []), (2, 0, 0, 1, 0, []), (23, 0, 0, 1, 8, []), (6, 0, 0, 0, 0, []), (2, 0, 0, 0, 0, []), (23, 0, 0, 1, 8, []), (6, 0, 0, 0, 0, []), (6, 30, 0, 0, 0, []), (36, 0, 0, 0, 0, []), (2, 0, 0, 1, 0, []), (23, 0, 0, 1, 9, []), (6, 0, 0, 0, 0, []), (2, 0, 0, 0, 0, []), (23, 0, 0, 1, 9, []), (6, 0, 0, 0, 0, []), (6, 30, 0, 0, 0, []), (36, 0, 0, 0, 0, []), (2, 0, 0, 1, 0, []), (23, 0, 0, 1, 10, []), (6, 0, 0, 0, 0, []), (2, 0, 0, 0, 0, []), (23, 0, 0, 1, 10, []), (6, 0, 0, 0, 0, []), (6, 30, 0, 0, 0, []), (36, 0, 0, 0, 0, []), (2, 0, 0, 1, 0, []), (23, 0, 0, 1, 11, []), (6, 0, 0, 0, 0, []), (2, 0, 0, 0, 0, []), (23, 0, 0, 1, 11, []), (6, 0, 0, 0, 0, []), (2, 0, 0, 0, 0, []), (23, 0, 0, 1, 11, []), (30, 0, 0, 0, 0, []), (36, 0, 0, 0, 0, []), (2, 0, 0, 1, 0, []), (23, 0, 0, 1, 12, []), (6, 0, 0, 0, 0, []), (2, 0, 0, 0, 0, []), (23, 0, 0, 1, 12, []), (6, 0, 0, 0, 0, []), (6, 6, 0, 0, 0, []), (36, 0, 0, 0, 0, []), (2, 0, 0, 1, 0, []), (23, 0, 0, 1, 13, []), (6, 0, 0, 0, 0, []), (2, 0, 0, 0, 0, []), (23, 0, 0, 1, 13, []), (6, 0, 0, 0, 0, []), (6, 30, 0, 0, 0, []), (36, 0, 0, 0, 0, []), (34, 0, 0, 0, 0, [])]
/-- RailOfHeads$House.seenInDay.(III)I -/
def mx_p31 : List mx_Op := [(45, 0, 0, 0, 0, [1, 1, 1, 1, 1]), (2, 0, 0, 0, 0, []), (23, 0, 0, 2, 2, []), (0, 0, 0, 3, 0, []), (31, 0, 0, 19, 2, [0, 2, 5]), (6, 0, 0, 0, 0, []), (3, 0, 0, 4, 0, []), (45, 0, 0, 7, 0, [1, 1, 1, 0, 1]), (0, 0, 0, 4, 0, []), (0, 0, 0, 1, 0, []), (20, 0, 0, 23, 3, []), (2, 0, 0, 0, 0, []), (23, 0, 0, 2, 2, []), (23, 0, 0, 1, 3, []), (2, 0, 0, 0, 0, []), (23, 0, 0, 2, 0, []), (23, 0, 0, 3, 17, []), (20, 0, 0, 23, 3, []), (2, 0, 0, 0, 0, []), (23, 0, 0, 2, 2, []), (31, 0, 0, 29, 1, [0, 2, 2]), (16, 1, 0, 4, 0, []), (21, 0, 0, 7, 0, []), (0, 0, 0, 2, 0, []), (22, 0, 0, 33, 0, [25, 29]), (2, 0, 0, 0, 0, []), (23, 0, 0, 2, 2, []), (31, 0, 0, 17, 1, [1, 2, 3]), (32, 0, 0, 0, 0, []), (2, 0, 0, 0, 0, []), (23, 0, 0, 2, 2, []), (31, 0, 0, 28, 1, [1, 2, 3]), (32, 0, 0, 0, 0, []), (2, 0, 0, 0, 0, []), (23, 0, 0, 2, 2, []), (31, 0, 0, 16, 1, [1, 2, 3]), (32, 0, 0, 0, 0, [])]
/-- RailOfHeads$Plan.takeOver.(LRailOfHeads$Plan;)V -/
def mx_p32 : List mx_Op := [(45, 0, 0, 0, 0, [1, 1]), (2, 0, 0, 0, 0, []), (2, 0, 0, 1, 0, []), (23, 0, 0, 3, 0, []), (24, 0, 0, 3, 0, []), (2, 0, 0, 0, 0, []), (2, 0, 0, 1, 0, []), (23, 0, 0, 3, 1, []), (24, 0, 0, 3, 1, []), (2, 0, 0, 0, 0, []), (2, 0, 0, 1, 0, []), (23, 0, 0, 3, 2, []), (24, 0, 0, 3, 2, []), (2, 0, 0, 0, 0, []), (2, 0, 0, 1, 0, []), (23, 0, 0, 3, 4, []), (24, 0, 0, 3, 4, []), (2, 0, 0, 0, 0, []), (2, 0, 0, 1, 0, []), (23, 0, 0, 3, 8, []), (24, 0, 0, 3, 8, []), (2, 0, 0, 0, 0, []), (2, 0, 0, 1, 0, []), (23, 0, 0, 3, 12, []), (24, 0, 0, 3, 12, []), (2, 0, 0, 0, 0, []), (2, 0, 0, 1, 0, []), (23, 0, 0, 3, 17, []), (24, 0, 0, 3, 17, []), (2, 0, 0, 1, 0, []), (23, 0, 0, 3, 3, []), (6, 0, 0, 0, 0, []), (2, 0, 0, 0, 0, []), (23, 0, 0, 3, 3, []), (6, 0, 0, 0, 0, []), (6, 6, 0, 0, 0, []), (36, 0, 0, 0, 0, []), (2, 0, 0, 1, 0, []), (23, 0, 0, 3, 5, []), (6, 0, 0, 0, 0, []), (2, 0, 0, 0, 0, []), (23, 0, 0, 3, 5, []), (6, 0, 0, 0, 0, []), (6, 9, 0, 0, 0, []), (36, 0, 0, 0, 0, []), (2, 0, 0, 1, 0, []), (23, 0, 0, 3, 6, []), (6, 0, 0, 0, 0, []), (2, 0, 0, 0, 0, []), (23, 0, 0, 3, 6, []), (6, 0, 0, 0, 0, []), (6, 9, 0, 0, 0, []), (36, 0, 0, 0, 0, []), (2, 0, 0, 1, 0, []), (23, 0, 0, 3, 7, []), (6, 0, 0, 0, 0, []), (2, 0, 0, 0, 0, []), (23, 0, 0, 3, 7, []), (6, 0, 0, 0, 0, []), (6, 9, 0, 0, 0, []), (36, 0, 0, 0, 0, []), (2, 0, 0, 1, 0, []), (23, 0, 0, 3, 9, []), (6, 0, 0, 0, 0, []), (2, 0, 0, 0, 0, []), (23, 0, 0, 3, 9, []), (6, 0, 0, 0, 0, []), (6, 8, 0, 0, 0, []), (36, 0, 0, 0, 0, []), (2, 0, 0, 1, 0, []), (23, 0, 0, 3, 10, []), (6, 0, 0, 0, 0, []), (2, 0, 0, 0, 0, []), (23, 0, 0, 3, 10, []), (6, 0, 0, 0, 0, []), (6, 8, 0, 0, 0, []), (36, 0, 0, 0, 0, []), (2, 0, 0, 1, 0, []), (23, 0, 0, 3, 11, []), (6, 0, 0, 0, 0, []), (2, 0, 0, 0, 0, []), (23, 0, 0, 3, 11, []), (6, 0, 0, 0, 0, []), (6, 8, 0, 0, 0, []), (36, 0, 0, 0, 0, []), (2, 0, 0, 1, 0, []), (23, 0, 0, 3, 13, []), (6, 0, 0, 0, 0, []), (2, 0, 0, 0, 0, []), (23, 0, 0, 3, 13, []), (6, 0, 0, 0, 0, []), (6, 6, 0, 0, 0, []), (36, 0, 0, 0, 0, []), (2, 0, 0, 1, 0, []), (23, 0, 0, 3, 14, []), (6, 0, 0, 0, 0, []), (2, 0, 0, 0, 0, []), (23, 0, 0, 3, 14, []), (6, 0, 0, 0, 0, []), (6, 6, 0, 0, 0, []), (36, 0, 0, 0, 0, []), (2, 0, 0, 1, 0, []), (23, 0, 0, 3, 15, []), (6, 0, 0, 0, 0, []), (2, 0, 0, 0, 0, []), (23, 0, 0, 3, 15, []), (6, 0, 0, 0, 0, []), (6, 6, 0, 0, 0, []), (36, 0, 0, 0, 0, []), (2, 0, 0, 1, 0, []), (23, 0, 0, 3, 16, []), (6, 0, 0, 0, 0, []), (2, 0, 0, 0, 0, []), (23, 0, 0, 3, 16, []), (6, 0, 0, 0, 0, []), (6, 6, 0, 0, 0, []), (36, 0, 0, 0, 0, []), (34, 0, 0, 0, 0, [])]
/-- RailOfHeads$Ways.takeOver.(LRailOfHeads$Ways;)V -/
def mx_p33 : List mx_Op := [(45, 0, 0, 0, 0, [1, 1]), (2, 0, 0, 1, 0, []), (23, 0, 0, 6, 0, []), (6, 0, 0, 0, 0, []), (2, 0, 0, 0, 0, []), (23, 0, 0, 6, 0, []), (6, 0, 0, 0, 0, []), (2, 0, 0, 0, 0, []), (23, 0, 0, 6, 0, []), (30, 0, 0, 0, 0, []), (36, 0, 0, 0, 0, []), (2, 0, 0, 1, 0, []), (23, 0, 0, 6, 1, []), (6, 0, 0, 0, 0, []), (2, 0, 0, 0, 0, []), (23, 0, 0, 6, 1, []), (6, 0, 0, 0, 0, []), (2, 0, 0, 0, 0, []), (23, 0, 0, 6, 1, []), (30, 0, 0, 0, 0, []), (36, 0, 0, 0, 0, []), (34, 0, 0, 0, 0, [])]
/-- RailOfHeads$House.takePlan.(LRailOfHeads$House;)V -/
def mx_p34 : List mx_Op := [(45, 0, 0, 0, 0, [1, 1]), (2, 0, 0, 0, 0, []), (23, 0, 0, 2, 0, []), (2, 0, 0, 1, 0, []), (23, 0, 0, 2, 0, []), (31, 0, 0, 32, 2, [0, 4, 2]), (2, 0, 0, 0, 0, []), (23, 0, 0, 2, 1, []), (2, 0, 0, 1, 0, []), (23, 0, 0, 2, 1, []), (31, 0, 0, 33, 2, [0, 7, 2]), (34, 0, 0, 0, 0, [])]
/-- RailOfHeads$House.takeAll.(LRailOfHeads$House;)V -/
def mx_p35 : List mx_Op := [(45, 0, 0, 0, 0, [1, 1]), (2, 0, 0, 0, 0, []), (2, 0, 0, 1, 0, []), (31, 0, 0, 34, 2, [0, 3, 2]), (2, 0, 0, 0, 0, []), (23, 0, 0, 2, 2, []), (2, 0, 0, 1, 0, []), (23, 0, 0, 2, 2, []), (31, 0, 0, 30, 2, [0, 2, 2]), (34, 0, 0, 0, 0, [])]
/-- java/lang/String.isLatin1.()Z -/
def mx_p36 : List mx_Op := [(45, 0, 0, 0, 0, [1]), (37, 0, 0, 0, 0, []), (19, 0, 0, 8, 0, []), (2, 0, 0, 0, 0, []), (39, 0, 0, 0, 1, []), (19, 0, 0, 8, 1, []), (6, 1, 0, 0, 0, []), (21, 0, 0, 9, 0, []), (6, 0, 0, 0, 0, []), (32, 0, 0, 0, 1, [])]
/-- jdk/internal/util/Preconditions.checkIndex.(IILjava/util/function/BiFunction;)I -/
def mx_p37 : List mx_Op := [(45, 0, 0, 0, 0, [1, 1, 1]), (0, 0, 0, 0, 0, []), (19, 0, 0, 6, 2, []), (0, 0, 0, 0, 0, []), (0, 0, 0, 1, 0, []), (20, 0, 0, 11, 2, []), (2, 0, 0, 2, 0, []), (0, 0, 0, 0, 0, []), (0, 0, 0, 1, 0, []), (99, 0, 0, 0, 0, []), (99, 0, 0, 0, 0, []), (0, 0, 0, 0, 0, []), (32, 0, 0, 0, 0, [])]
/-- java/lang/String.checkIndex.(II)V -/
def mx_p38 : List mx_Op := [(45, 0, 0, 0, 0, [1, 1]), (0, 0, 0, 0, 0, []), (0, 0, 0, 1, 0, []), (38, 0, 0, 0, 0, []), (31, 0, 0, 37, 3, [1, 0, 3]), (42, 0, 0, 0, 0, []), (34, 0, 0, 0, 0, [])]
/-- java/lang/StringLatin1.charAt.([BI)C -/
def mx_p39 : List mx_Op := [(45, 0, 0, 0, 0, [1, 1]), (0, 0, 0, 1, 0, []), (2, 0, 0, 0, 0, []), (40, 0, 0, 0, 0, []), (31, 0, 0, 38, 2, [0, 0, 2]), (2, 0, 0, 0, 0, []), (0, 0, 0, 1, 0, []), (41, 0, 0, 0, 0, []), (6, 255, 0, 0, 0, []), (8, 0, 0, 0, 3, []), (10, 0, 0, 0, 3, []), (32, 0, 0, 0, 2, [])]
/-- java/lang/String.charAt.(I)C -/
def mx_p40 : List mx_Op := [(45, 0, 0, 0, 0, [1, 1]), (2, 0, 0, 0, 0, []), (31, 0, 0, 36, 1, [1, 10, 1]), (19, 0, 0, 9, 0, []), (2, 0, 0, 0, 0, []), (39, 0, 0, 0, 0, []), (0, 0, 0, 1, 0, []), (31, 0, 0, 39, 2, [1, 0, 2]), (32, 0, 0, 0, 2, []), (2, 0, 0, 0, 0, []), (39, 0, 0, 0, 0, []), (0, 0, 0, 1, 0, []), (99, 0, 0, 0, 0, []), (32, 0, 0, 0, 2, [])]
/-- java/lang/String.coder.()B -/
def mx_p41 : List mx_Op := [(45, 0, 0, 0, 0, [1]), (37, 0, 0, 0, 0, []), (19, 0, 0, 6, 0, []), (2, 0, 0, 0, 0, []), (39, 0, 0, 0, 1, []), (21, 0, 0, 7, 0, []), (6, 1, 0, 0, 0, []), (32, 0, 0, 0, 3, [])]
/-- java/lang/String.length.()I -/
def mx_p42 : List mx_Op := [(45, 0, 0, 0, 0, [1]), (2, 0, 0, 0, 0, []), (39, 0, 0, 0, 0, []), (40, 0, 0, 0, 0, []), (2, 0, 0, 0, 0, []), (31, 0, 0, 41, 1, [1, 10, 1]), (8, 0, 0, 0, 6, []), (32, 0, 0, 0, 0, [])]
/-- RailOfHeads$Plan.addDoor.(IIZ)V -/
def mx_p43 : List mx_Op := [(45, 0, 0, 0, 0, [1, 1, 1, 1]), (2, 0, 0, 0, 0, []), (23, 0, 0, 3, 4, []), (6, 9, 0, 0, 0, []), (20, 0, 0, 33, 3, []), (2, 0, 0, 0, 0, []), (23, 0, 0, 3, 5, []), (2, 0, 0, 0, 0, []), (23, 0, 0, 3, 4, []), (0, 0, 0, 1, 0, []), (26, 0, 0, 0, 0, []), (2, 0, 0, 0, 0, []), (23, 0, 0, 3, 6, []), (2, 0, 0, 0, 0, []), (23, 0, 0, 3, 4, []), (0, 0, 0, 2, 0, []), (26, 0, 0, 0, 0, []), (2, 0, 0, 0, 0, []), (23, 0, 0, 3, 7, []), (2, 0, 0, 0, 0, []), (23, 0, 0, 3, 4, []), (0, 0, 0, 3, 0, []), (19, 0, 0, 25, 0, []), (6, 1, 0, 0, 0, []), (21, 0, 0, 26, 0, []), (6, 0, 0, 0, 0, []), (26, 0, 0, 0, 0, []), (2, 0, 0, 0, 0, []), (17, 0, 0, 0, 0, []), (23, 0, 0, 3, 4, []), (6, 1, 0, 0, 0, []), (8, 0, 0, 0, 0, []), (24, 0, 0, 3, 4, []), (34, 0, 0, 0, 0, [])]
/-- RailOfHeads$Plan.addGroup.(IIII)V -/
def mx_p44 : List mx_Op := [(45, 0, 0, 0, 0, [1, 1, 1, 1, 1]), (2, 0, 0, 0, 0, []), (23, 0, 0, 3, 12, []), (6, 6, 0, 0, 0, []), (20, 0, 0, 47, 3, []), (2, 0, 0, 0, 0, []), (23, 0, 0, 3, 17, []), (0, 0, 0, 1, 0, []), (8, 0, 0, 0, 0, []), (6, 30, 0, 0, 0, []), (20, 0, 0, 47, 4, []), (2, 0, 0, 0, 0, []), (23, 0, 0, 3, 13, []), (2, 0, 0, 0, 0, []), (23, 0, 0, 3, 12, []), (0, 0, 0, 1, 0, []), (26, 0, 0, 0, 0, []), (2, 0, 0, 0, 0, []), (23, 0, 0, 3, 14, []), (2, 0, 0, 0, 0, []), (23, 0, 0, 3, 12, []), (0, 0, 0, 2, 0, []), (26, 0, 0, 0, 0, []), (2, 0, 0, 0, 0, []), (23, 0, 0, 3, 15, []), (2, 0, 0, 0, 0, []), (23, 0, 0, 3, 12, []), (0, 0, 0, 3, 0, []), (26, 0, 0, 0, 0, []), (2, 0, 0, 0, 0, []), (23, 0, 0, 3, 16, []), (2, 0, 0, 0, 0, []), (23, 0, 0, 3, 12, []), (0, 0, 0, 4, 0, []), (26, 0, 0, 0, 0, []), (2, 0, 0, 0, 0, []), (17, 0, 0, 0, 0, []), (23, 0, 0, 3, 12, []), (6, 1, 0, 0, 0, []), (8, 0, 0, 0, 0, []), (24, 0, 0, 3, 12, []), (2, 0, 0, 0, 0, []), (17, 0, 0, 0, 0, []), (23, 0, 0, 3, 17, []), (0, 0, 0, 1, 0, []), (8, 0, 0, 0, 0, []), (24, 0, 0, 3, 17, []), (34, 0, 0, 0, 0, [])]
/-- RailOfHeads$Plan.addPicture.(II)V -/
def mx_p45 : List mx_Op := [(45, 0, 0, 0, 0, [1, 1, 1]), (2, 0, 0, 0, 0, []), (23, 0, 0, 3, 8, []), (6, 8, 0, 0, 0, []), (20, 0, 0, 33, 3, []), (2, 0, 0, 0, 0, []), (23, 0, 0, 3, 9, []), (2, 0, 0, 0, 0, []), (23, 0, 0, 3, 8, []), (0, 0, 0, 1, 0, []), (26, 0, 0, 0, 0, []), (2, 0, 0, 0, 0, []), (23, 0, 0, 3, 10, []), (2, 0, 0, 0, 0, []), (23, 0, 0, 3, 8, []), (0, 0, 0, 2, 0, []), (26, 0, 0, 0, 0, []), (2, 0, 0, 0, 0, []), (23, 0, 0, 3, 11, []), (2, 0, 0, 0, 0, []), (23, 0, 0, 3, 8, []), (6, 2, 0, 0, 0, []), (0, 0, 0, 2, 0, []), (6, 10, 0, 0, 0, []), (9, 0, 0, 0, 0, []), (8, 0, 0, 0, 0, []), (26, 0, 0, 0, 0, []), (2, 0, 0, 0, 0, []), (17, 0, 0, 0, 0, []), (23, 0, 0, 3, 8, []), (6, 1, 0, 0, 0, []), (8, 0, 0, 0, 0, []), (24, 0, 0, 3, 8, []), (34, 0, 0, 0, 0, [])]
/-- RailOfHeads$Plan.addRoom.(I)V -/
def mx_p46 : List mx_Op := [(45, 0, 0, 0, 0, [1, 1]), (2, 0, 0, 0, 0, []), (23, 0, 0, 3, 2, []), (6, 6, 0, 0, 0, []), (20, 0, 0, 17, 3, []), (2, 0, 0, 0, 0, []), (23, 0, 0, 3, 3, []), (2, 0, 0, 0, 0, []), (23, 0, 0, 3, 2, []), (0, 0, 0, 1, 0, []), (26, 0, 0, 0, 0, []), (2, 0, 0, 0, 0, []), (17, 0, 0, 0, 0, []), (23, 0, 0, 3, 2, []), (6, 1, 0, 0, 0, []), (8, 0, 0, 0, 0, []), (24, 0, 0, 3, 2, []), (34, 0, 0, 0, 0, [])]
/-- RailOfHeads$Plan.clear.()V -/
def mx_p47 : List mx_Op := [(45, 0, 0, 0, 0, [1]), (2, 0, 0, 0, 0, []), (6, 0, 0, 0, 0, []), (24, 0, 0, 3, 2, []), (2, 0, 0, 0, 0, []), (6, 0, 0, 0, 0, []), (24, 0, 0, 3, 4, []), (2, 0, 0, 0, 0, []), (6, 0, 0, 0, 0, []), (24, 0, 0, 3, 8, []), (2, 0, 0, 0, 0, []), (6, 0, 0, 0, 0, []), (24, 0, 0, 3, 12, []), (2, 0, 0, 0, 0, []), (6, 0, 0, 0, 0, []), (24, 0, 0, 3, 17, []), (34, 0, 0, 0, 0, [])]
/-- RailOfHeads.isWithin.(III)Z -/
def mx_p48 : List mx_Op := [(45, 0, 0, 0, 0, [1, 1, 1]), (0, 0, 0, 0, 0, []), (0, 0, 0, 1, 0, []), (20, 0, 0, 9, 2, []), (0, 0, 0, 0, 0, []), (0, 0, 0, 2, 0, []), (20, 0, 0, 9, 4, []), (6, 1, 0, 0, 0, []), (21, 0, 0, 10, 0, []), (6, 0, 0, 0, 0, []), (32, 0, 0, 0, 1, [])]
/-- RailOfHeads$Reader.passName.()V -/
def mx_p49 : List mx_Op := [(45, 0, 0, 0, 0, [1]), (2, 0, 0, 0, 0, []), (6, 1, 0, 0, 0, []), (24, 0, 0, 4, 5, []), (45, 0, 0, 4, 0, [1]), (2, 0, 0, 0, 0, []), (23, 0, 0, 4, 4, []), (2, 0, 0, 0, 0, []), (23, 0, 0, 4, 1, []), (20, 0, 0, 26, 3, []), (2, 0, 0, 0, 0, []), (23, 0, 0, 4, 0, []), (2, 0, 0, 0, 0, []), (23, 0, 0, 4, 4, []), (27, 0, 0, 0, 0, []), (6, 97, 0, 0, 0, []), (6, 122, 0, 0, 0, []), (31, 0, 0, 48, 3, [1, 0, 3]), (19, 0, 0, 26, 0, []), (2, 0, 0, 0, 0, []), (17, 0, 0, 0, 0, []), (23, 0, 0, 4, 4, []), (6, 1, 0, 0, 0, []), (8, 0, 0, 0, 0, []), (24, 0, 0, 4, 4, []), (21, 0, 0, 4, 0, []), (34, 0, 0, 0, 0, [])]
/-- RailOfHeads$Reader.passNumber.()V -/
def mx_p50 : List mx_Op := [(45, 0, 0, 0, 0, [1]), (2, 0, 0, 0, 0, []), (6, 0, 0, 0, 0, []), (24, 0, 0, 4, 6, []), (45, 0, 0, 4, 0, [1]), (2, 0, 0, 0, 0, []), (23, 0, 0, 4, 4, []), (2, 0, 0, 0, 0, []), (23, 0, 0, 4, 1, []), (20, 0, 0, 50, 3, []), (2, 0, 0, 0, 0, []), (23, 0, 0, 4, 0, []), (2, 0, 0, 0, 0, []), (23, 0, 0, 4, 4, []), (27, 0, 0, 0, 0, []), (6, 48, 0, 0, 0, []), (6, 57, 0, 0, 0, []), (31, 0, 0, 48, 3, [1, 0, 3]), (19, 0, 0, 50, 0, []), (2, 0, 0, 0, 0, []), (2, 0, 0, 0, 0, []), (23, 0, 0, 4, 4, []), (2, 0, 0, 0, 0, []), (23, 0, 0, 4, 2, []), (8, 0, 0, 0, 1, []), (6, 3, 0, 0, 0, []), (20, 0, 0, 40, 3, []), (2, 0, 0, 0, 0, []), (23, 0, 0, 4, 6, []), (6, 10, 0, 0, 0, []), (8, 0, 0, 0, 2, []), (2, 0, 0, 0, 0, []), (23, 0, 0, 4, 0, []), (2, 0, 0, 0, 0, []), (23, 0, 0, 4, 4, []), (27, 0, 0, 0, 0, []), (8, 0, 0, 0, 0, []), (6, 48, 0, 0, 0, []), (8, 0, 0, 0, 1, []), (21, 0, 0, 42, 0, []), (2, 0, 0, 0, 0, []), (23, 0, 0, 4, 6, []), (24, 0, 0, 4, 6, []), (2, 0, 0, 0, 0, []), (17, 0, 0, 0, 0, []), (23, 0, 0, 4, 4, []), (6, 1, 0, 0, 0, []), (8, 0, 0, 0, 0, []), (24, 0, 0, 4, 4, []), (21, 0, 0, 4, 0, []), (2, 0, 0, 0, 0, []), (2, 0, 0, 0, 0, []), (23, 0, 0, 4, 4, []), (2, 0, 0, 0, 0, []), (23, 0, 0, 4, 2, []), (8, 0, 0, 0, 1, []), (6, 3, 0, 0, 0, []), (20, 0, 0, 60, 4, []), (6, 2, 0, 0, 0, []), (21, 0, 0, 61, 0, []), (6, 4, 0, 0, 0, []), (24, 0, 0, 4, 5, []), (34, 0, 0, 0, 0, [])]
/-- RailOfHeads$Reader.advance.()V -/
def mx_p51 : List mx_Op := [(45, 0, 0, 0, 0, [1]), (2, 0, 0, 0, 0, []), (23, 0, 0, 4, 4, []), (2, 0, 0, 0, 0, []), (23, 0, 0, 4, 1, []), (20, 0, 0, 27, 3, []), (2, 0, 0, 0, 0, []), (23, 0, 0, 4, 0, []), (2, 0, 0, 0, 0, []), (23, 0, 0, 4, 4, []), (27, 0, 0, 0, 0, []), (6, 32, 0, 0, 0, []), (20, 0, 0, 20, 0, []), (2, 0, 0, 0, 0, []), (23, 0, 0, 4, 0, []), (2, 0, 0, 0, 0, []), (23, 0, 0, 4, 4, []), (27, 0, 0, 0, 0, []), (6, 10, 0, 0, 0, []), (20, 0, 0, 27, 1, []), (2, 0, 0, 0, 0, []), (17, 0, 0, 0, 0, []), (23, 0, 0, 4, 4, []), (6, 1, 0, 0, 0, []), (8, 0, 0, 0, 0, []), (24, 0, 0, 4, 4, []), (21, 0, 0, 0, 0, []), (2, 0, 0, 0, 0, []), (2, 0, 0, 0, 0, []), (23, 0, 0, 4, 4, []), (24, 0, 0, 4, 2, []), (2, 0, 0, 0, 0, []), (23, 0, 0, 4, 4, []), (2, 0, 0, 0, 0, []), (23, 0, 0, 4, 1, []), (20, 0, 0, 40, 2, []), (2, 0, 0, 0, 0, []), (6, 0, 0, 0, 0, []), (24, 0, 0, 4, 5, []), (21, 0, 0, 82, 0, []), (2, 0, 0, 0, 0, []), (23, 0, 0, 4, 0, []), (2, 0, 0, 0, 0, []), (23, 0, 0, 4, 4, []), (27, 0, 0, 0, 0, []), (6, 97, 0, 0, 0, []), (6, 122, 0, 0, 0, []), (31, 0, 0, 48, 3, [1, 0, 3]), (19, 0, 0, 52, 0, []), (2, 0, 0, 0, 0, []), (31, 0, 0, 49, 1, [0, 5, 1]), (21, 0, 0, 82, 0, []), (2, 0, 0, 0, 0, []), (23, 0, 0, 4, 0, []), (2, 0, 0, 0, 0, []), (23, 0, 0, 4, 4, []), (27, 0, 0, 0, 0, []), (6, 48, 0, 0, 0, []), (6, 57, 0, 0, 0, []), (31, 0, 0, 48, 3, [1, 0, 3]), (19, 0, 0, 64, 0, []), (2, 0, 0, 0, 0, []), (31, 0, 0, 50, 1, [0, 5, 1]), (21, 0, 0, 82, 0, []), (2, 0, 0, 0, 0, []), (2, 0, 0, 0, 0, []), (23, 0, 0, 4, 0, []), (2, 0, 0, 0, 0, []), (23, 0, 0, 4, 4, []), (27, 0, 0, 0, 0, []), (6, 59, 0, 0, 0, []), (20, 0, 0, 74, 1, []), (6, 3, 0, 0, 0, []), (21, 0, 0, 75, 0, []), (6, 4, 0, 0, 0, []), (24, 0, 0, 4, 5, []), (2, 0, 0, 0, 0, []), (17, 0, 0, 0, 0, []), (23, 0, 0, 4, 4, []), (6, 1, 0, 0, 0, []), (8, 0, 0, 0, 0, []), (24, 0, 0, 4, 4, []), (34, 0, 0, 0, 0, [])]
/-- RailOfHeads$Reader.isWord.(Ljava/lang/String;)Z -/
def mx_p52 : List mx_Op := [(45, 0, 0, 0, 0, [1, 1, 1]), (2, 0, 0, 0, 0, []), (23, 0, 0, 4, 3, []), (19, 0, 0, 16, 1, []), (2, 0, 0, 0, 0, []), (23, 0, 0, 4, 5, []), (6, 1, 0, 0, 0, []), (20, 0, 0, 16, 1, []), (2, 0, 0, 0, 0, []), (23, 0, 0, 4, 4, []), (2, 0, 0, 0, 0, []), (23, 0, 0, 4, 2, []), (8, 0, 0, 0, 1, []), (2, 0, 0, 1, 0, []), (31, 0, 0, 42, 1, [1, 10, 1]), (20, 0, 0, 18, 0, []), (6, 0, 0, 0, 0, []), (32, 0, 0, 0, 1, []), (6, 0, 0, 0, 0, []), (3, 0, 0, 2, 0, []), (45, 0, 0, 20, 0, [1, 1, 1]), (0, 0, 0, 2, 0, []), (2, 0, 0, 1, 0, []), (31, 0, 0, 42, 1, [1, 10, 1]), (20, 0, 0, 40, 3, []), (2, 0, 0, 0, 0, []), (23, 0, 0, 4, 0, []), (2, 0, 0, 0, 0, []), (23, 0, 0, 4, 2, []), (0, 0, 0, 2, 0, []), (8, 0, 0, 0, 0, []), (27, 0, 0, 0, 0, []), (2, 0, 0, 1, 0, []), (0, 0, 0, 2, 0, []), (31, 0, 0, 40, 2, [1, 10, 2]), (20, 0, 0, 38, 0, []), (6, 0, 0, 0, 0, []), (32, 0, 0, 0, 1, []), (16, 1, 0, 2, 0, []), (21, 0, 0, 20, 0, []), (6, 1, 0, 0, 0, []), (32, 0, 0, 0, 1, [])]
/-- RailOfHeads$Reader.put.(B)V -/
def mx_p53 : List mx_Op := [(45, 0, 0, 0, 0, [1, 1]), (2, 0, 0, 0, 0, []), (23, 0, 0, 4, 1, []), (6, 400, 0, 0, 0, []), (20, 0, 0, 17, 3, []), (2, 0, 0, 0, 0, []), (23, 0, 0, 4, 0, []), (2, 0, 0, 0, 0, []), (23, 0, 0, 4, 1, []), (0, 0, 0, 1, 0, []), (28, 0, 0, 0, 0, []), (2, 0, 0, 0, 0, []), (17, 0, 0, 0, 0, []), (23, 0, 0, 4, 1, []), (6, 1, 0, 0, 0, []), (8, 0, 0, 0, 0, []), (24, 0, 0, 4, 1, []), (34, 0, 0, 0, 0, [])]
/-- RailOfHeads$Reader.takeWord.(Ljava/lang/String;II)V -/
def mx_p54 : List mx_Op := [(45, 0, 0, 0, 0, [1, 1, 1, 1]), (2, 0, 0, 0, 0, []), (23, 0, 0, 4, 3, []), (19, 0, 0, 5, 0, []), (34, 0, 0, 0, 0, []), (2, 0, 0, 0, 0, []), (2, 0, 0, 1, 0, []), (31, 0, 0, 52, 2, [1, 5, 3]), (19, 0, 0, 13, 1, []), (2, 0, 0, 0, 0, []), (6, 1, 0, 0, 0, []), (24, 0, 0, 4, 3, []), (21, 0, 0, 22, 0, []), (0, 0, 0, 2, 0, []), (0, 0, 0, 3, 0, []), (20, 0, 0, 20, 2, []), (2, 0, 0, 0, 0, []), (6, 3, 0, 0, 0, []), (24, 0, 0, 4, 3, []), (21, 0, 0, 22, 0, []), (2, 0, 0, 0, 0, []), (31, 0, 0, 51, 1, [0, 5, 1]), (34, 0, 0, 0, 0, [])]
/-- RailOfHeads$Reader.takeNumber.(II)I -/
def mx_p55 : List mx_Op := [(45, 0, 0, 0, 0, [1, 1, 1, 1]), (2, 0, 0, 0, 0, []), (23, 0, 0, 4, 6, []), (3, 0, 0, 3, 0, []), (2, 0, 0, 0, 0, []), (23, 0, 0, 4, 3, []), (19, 0, 0, 14, 1, []), (2, 0, 0, 0, 0, []), (23, 0, 0, 4, 5, []), (6, 2, 0, 0, 0, []), (20, 0, 0, 14, 0, []), (2, 0, 0, 0, 0, []), (6, 1, 0, 0, 0, []), (24, 0, 0, 4, 3, []), (2, 0, 0, 0, 0, []), (23, 0, 0, 4, 3, []), (19, 0, 0, 25, 1, []), (0, 0, 0, 3, 0, []), (0, 0, 0, 1, 0, []), (0, 0, 0, 2, 0, []), (31, 0, 0, 48, 3, [1, 0, 3]), (19, 0, 0, 25, 1, []), (2, 0, 0, 0, 0, []), (6, 2, 0, 0, 0, []), (24, 0, 0, 4, 3, []), (2, 0, 0, 0, 0, []), (23, 0, 0, 4, 3, []), (19, 0, 0, 30, 1, []), (2, 0, 0, 0, 0, []), (31, 0, 0, 51, 1, [0, 5, 1]), (0, 0, 0, 3, 0, []), (32, 0, 0, 0, 0, [])]
/-- RailOfHeads$Reader.takeSign.()V -/
def mx_p56 : List mx_Op := [(45, 0, 0, 0, 0, [1]), (2, 0, 0, 0, 0, []), (23, 0, 0, 4, 3, []), (19, 0, 0, 11, 1, []), (2, 0, 0, 0, 0, []), (23, 0, 0, 4, 5, []), (6, 3, 0, 0, 0, []), (20, 0, 0, 11, 0, []), (2, 0, 0, 0, 0, []), (6, 1, 0, 0, 0, []), (24, 0, 0, 4, 3, []), (2, 0, 0, 0, 0, []), (23, 0, 0, 4, 3, []), (19, 0, 0, 16, 1, []), (2, 0, 0, 0, 0, []), (31, 0, 0, 51, 1, [0, 5, 1]), (34, 0, 0, 0, 0, [])]
/-- RailOfHeads$Reader.readRail.()V -/
def mx_p57 : List mx_Op := [(45, 0, 0, 0, 0, [1]), (2, 0, 0, 0, 0, []), (35, 0, 0, 0, 0, []), (6, 0, 0, 0, 0, []), (6, 1, 0, 0, 0, []), (31, 0, 0, 54, 4, [0, 5, 4]), (2, 0, 0, 0, 0, []), (23, 0, 0, 4, 7, []), (2, 0, 0, 0, 0, []), (6, 1, 0, 0, 0, []), (6, 20, 0, 0, 0, []), (31, 0, 0, 55, 3, [1, 5, 4]), (24, 0, 0, 3, 0, []), (2, 0, 0, 0, 0, []), (23, 0, 0, 4, 7, []), (2, 0, 0, 0, 0, []), (6, 0, 0, 0, 0, []), (6, 20, 0, 0, 0, []), (31, 0, 0, 55, 3, [1, 5, 4]), (24, 0, 0, 3, 1, []), (2, 0, 0, 0, 0, []), (31, 0, 0, 56, 1, [0, 5, 1]), (34, 0, 0, 0, 0, [])]
/-- RailOfHeads$Reader.readRooms.()V -/
def mx_p58 : List mx_Op := [(45, 0, 0, 0, 0, [1, 1, 1]), (6, 0, 0, 0, 0, []), (3, 0, 0, 1, 0, []), (45, 0, 0, 3, 0, [1, 1, 0]), (0, 0, 0, 1, 0, []), (6, 6, 0, 0, 0, []), (20, 0, 0, 34, 4, []), (0, 0, 0, 1, 0, []), (19, 0, 0, 13, 0, []), (2, 0, 0, 0, 0, []), (35, 0, 0, 1, 0, []), (31, 0, 0, 52, 2, [1, 5, 3]), (19, 0, 0, 34, 0, []), (2, 0, 0, 0, 0, []), (35, 0, 0, 1, 0, []), (0, 0, 0, 1, 0, []), (6, 6, 0, 0, 0, []), (31, 0, 0, 54, 4, [0, 5, 4]), (2, 0, 0, 0, 0, []), (6, 1, 0, 0, 0, []), (6, 40, 0, 0, 0, []), (31, 0, 0, 55, 3, [1, 5, 4]), (3, 0, 0, 2, 0, []), (2, 0, 0, 0, 0, []), (31, 0, 0, 56, 1, [0, 5, 1]), (2, 0, 0, 0, 0, []), (23, 0, 0, 4, 3, []), (19, 0, 0, 32, 1, []), (2, 0, 0, 0, 0, []), (23, 0, 0, 4, 7, []), (0, 0, 0, 2, 0, []), (31, 0, 0, 46, 2, [0, 4, 2]), (16, 1, 0, 1, 0, []), (21, 0, 0, 3, 0, []), (34, 0, 0, 0, 0, [])]
/-- RailOfHeads$Reader.readDoors.()V -/
def mx_p59 : List mx_Op := [(45, 0, 0, 0, 0, [1, 1, 1, 1, 1]), (6, 0, 0, 0, 0, []), (3, 0, 0, 1, 0, []), (45, 0, 0, 3, 0, [1, 1, 0, 0, 0]), (0, 0, 0, 1, 0, []), (6, 9, 0, 0, 0, []), (20, 0, 0, 69, 4, []), (2, 0, 0, 0, 0, []), (35, 0, 0, 2, 0, []), (31, 0, 0, 52, 2, [1, 5, 3]), (19, 0, 0, 69, 0, []), (2, 0, 0, 0, 0, []), (35, 0, 0, 2, 0, []), (0, 0, 0, 1, 0, []), (6, 9, 0, 0, 0, []), (31, 0, 0, 54, 4, [0, 5, 4]), (2, 0, 0, 0, 0, []), (6, 0, 0, 0, 0, []), (2, 0, 0, 0, 0, []), (23, 0, 0, 4, 7, []), (23, 0, 0, 3, 2, []), (6, 1, 0, 0, 0, []), (8, 0, 0, 0, 1, []), (31, 0, 0, 55, 3, [1, 5, 4]), (3, 0, 0, 2, 0, []), (2, 0, 0, 0, 0, []), (23, 0, 0, 4, 3, []), (19, 0, 0, 39, 1, []), (2, 0, 0, 0, 0, []), (23, 0, 0, 4, 5, []), (6, 2, 0, 0, 0, []), (20, 0, 0, 39, 1, []), (2, 0, 0, 0, 0, []), (23, 0, 0, 4, 6, []), (0, 0, 0, 2, 0, []), (20, 0, 0, 39, 1, []), (2, 0, 0, 0, 0, []), (6, 2, 0, 0, 0, []), (24, 0, 0, 4, 3, []), (2, 0, 0, 0, 0, []), (6, 0, 0, 0, 0, []), (2, 0, 0, 0, 0, []), (23, 0, 0, 4, 7, []), (23, 0, 0, 3, 2, []), (6, 1, 0, 0, 0, []), (8, 0, 0, 0, 1, []), (31, 0, 0, 55, 3, [1, 5, 4]), (3, 0, 0, 3, 0, []), (2, 0, 0, 0, 0, []), (35, 0, 0, 3, 0, []), (31, 0, 0, 52, 2, [1, 5, 3]), (3, 0, 0, 4, 0, []), (0, 0, 0, 4, 0, []), (19, 0, 0, 56, 0, []), (2, 0, 0, 0, 0, []), (31, 0, 0, 51, 1, [0, 5, 1]), (2, 0, 0, 0, 0, []), (31, 0, 0, 56, 1, [0, 5, 1]), (2, 0, 0, 0, 0, []), (23, 0, 0, 4, 3, []), (19, 0, 0, 67, 1, []), (2, 0, 0, 0, 0, []), (23, 0, 0, 4, 7, []), (0, 0, 0, 2, 0, []), (0, 0, 0, 3, 0, []), (0, 0, 0, 4, 0, []), (31, 0, 0, 43, 4, [0, 4, 4]), (16, 1, 0, 1, 0, []), (21, 0, 0, 3, 0, []), (34, 0, 0, 0, 0, [])]
/-- RailOfHeads$Reader.readPictures.()V -/
def mx_p60 : List mx_Op := [(45, 0, 0, 0, 0, [1, 1, 1, 1]), (6, 0, 0, 0, 0, []), (3, 0, 0, 1, 0, []), (45, 0, 0, 3, 0, [1, 1, 0, 0]), (0, 0, 0, 1, 0, []), (6, 8, 0, 0, 0, []), (20, 0, 0, 44, 4, []), (0, 0, 0, 1, 0, []), (19, 0, 0, 13, 0, []), (2, 0, 0, 0, 0, []), (35, 0, 0, 4, 0, []), (31, 0, 0, 52, 2, [1, 5, 3]), (19, 0, 0, 44, 0, []), (2, 0, 0, 0, 0, []), (35, 0, 0, 4, 0, []), (0, 0, 0, 1, 0, []), (6, 8, 0, 0, 0, []), (31, 0, 0, 54, 4, [0, 5, 4]), (2, 0, 0, 0, 0, []), (6, 0, 0, 0, 0, []), (2, 0, 0, 0, 0, []), (23, 0, 0, 4, 7, []), (23, 0, 0, 3, 2, []), (6, 1, 0, 0, 0, []), (8, 0, 0, 0, 1, []), (31, 0, 0, 55, 3, [1, 5, 4]), (3, 0, 0, 2, 0, []), (2, 0, 0, 0, 0, []), (6, 1, 0, 0, 0, []), (6, 60, 0, 0, 0, []), (31, 0, 0, 55, 3, [1, 5, 4]), (3, 0, 0, 3, 0, []), (2, 0, 0, 0, 0, []), (31, 0, 0, 56, 1, [0, 5, 1]), (2, 0, 0, 0, 0, []), (23, 0, 0, 4, 3, []), (19, 0, 0, 42, 1, []), (2, 0, 0, 0, 0, []), (23, 0, 0, 4, 7, []), (0, 0, 0, 2, 0, []), (0, 0, 0, 3, 0, []), (31, 0, 0, 45, 3, [0, 4, 3]), (16, 1, 0, 1, 0, []), (21, 0, 0, 3, 0, []), (34, 0, 0, 0, 0, [])]
/-- RailOfHeads$Reader.takeLaw.()I -/
def mx_p61 : List mx_Op := [(45, 0, 0, 0, 0, [1, 1]), (2, 0, 0, 0, 0, []), (35, 0, 0, 6, 0, []), (31, 0, 0, 52, 2, [1, 5, 3]), (19, 0, 0, 7, 0, []), (6, 0, 0, 0, 0, []), (21, 0, 0, 20, 0, []), (2, 0, 0, 0, 0, []), (35, 0, 0, 7, 0, []), (31, 0, 0, 52, 2, [1, 5, 3]), (19, 0, 0, 13, 0, []), (6, 1, 0, 0, 0, []), (21, 0, 0, 20, 0, []), (2, 0, 0, 0, 0, []), (35, 0, 0, 8, 0, []), (31, 0, 0, 52, 2, [1, 5, 3]), (19, 0, 0, 19, 0, []), (6, 2, 0, 0, 0, []), (21, 0, 0, 20, 0, []), (6, 3, 0, 0, 0, []), (3, 0, 0, 1, 0, []), (2, 0, 0, 0, 0, []), (23, 0, 0, 4, 3, []), (19, 0, 0, 30, 1, []), (0, 0, 0, 1, 0, []), (6, 3, 0, 0, 0, []), (20, 0, 0, 30, 1, []), (2, 0, 0, 0, 0, []), (6, 1, 0, 0, 0, []), (24, 0, 0, 4, 3, []), (2, 0, 0, 0, 0, []), (23, 0, 0, 4, 3, []), (19, 0, 0, 35, 1, []), (2, 0, 0, 0, 0, []), (31, 0, 0, 51, 1, [0, 5, 1]), (0, 0, 0, 1, 0, []), (32, 0, 0, 0, 0, [])]
/-- RailOfHeads$Reader.readGroups.()V -/
def mx_p62 : List mx_Op := [(45, 0, 0, 0, 0, [1, 1, 1, 1, 1, 1]), (6, 0, 0, 0, 0, []), (3, 0, 0, 1, 0, []), (45, 0, 0, 3, 0, [1, 1, 0, 0, 0, 0]), (0, 0, 0, 1, 0, []), (6, 6, 0, 0, 0, []), (20, 0, 0, 56, 4, []), (0, 0, 0, 1, 0, []), (19, 0, 0, 13, 0, []), (2, 0, 0, 0, 0, []), (35, 0, 0, 5, 0, []), (31, 0, 0, 52, 2, [1, 5, 3]), (19, 0, 0, 56, 0, []), (2, 0, 0, 0, 0, []), (35, 0, 0, 5, 0, []), (0, 0, 0, 1, 0, []), (6, 6, 0, 0, 0, []), (31, 0, 0, 54, 4, [0, 5, 4]), (2, 0, 0, 0, 0, []), (6, 1, 0, 0, 0, []), (6, 20, 0, 0, 0, []), (6, 30, 0, 0, 0, []), (2, 0, 0, 0, 0, []), (23, 0, 0, 4, 7, []), (23, 0, 0, 3, 17, []), (8, 0, 0, 0, 1, []), (46, 0, 0, 0, 0, []), (31, 0, 0, 55, 3, [1, 5, 4]), (3, 0, 0, 2, 0, []), (2, 0, 0, 0, 0, []), (6, 0, 0, 0, 0, []), (6, 60, 0, 0, 0, []), (31, 0, 0, 55, 3, [1, 5, 4]), (3, 0, 0, 3, 0, []), (2, 0, 0, 0, 0, []), (31, 0, 0, 61, 1, [1, 5, 2]), (3, 0, 0, 4, 0, []), (2, 0, 0, 0, 0, []), (6, 0, 0, 0, 0, []), (6, 20, 0, 0, 0, []), (31, 0, 0, 55, 3, [1, 5, 4]), (3, 0, 0, 5, 0, []), (2, 0, 0, 0, 0, []), (31, 0, 0, 56, 1, [0, 5, 1]), (2, 0, 0, 0, 0, []), (23, 0, 0, 4, 3, []), (19, 0, 0, 54, 1, []), (2, 0, 0, 0, 0, []), (23, 0, 0, 4, 7, []), (0, 0, 0, 2, 0, []), (0, 0, 0, 3, 0, []), (0, 0, 0, 4, 0, []), (0, 0, 0, 5, 0, []), (31, 0, 0, 44, 5, [0, 4, 5]), (16, 1, 0, 1, 0, []), (21, 0, 0, 3, 0, []), (34, 0, 0, 0, 0, [])]
/-- RailOfHeads$Reader.read.(LRailOfHeads$Plan;)V -/
def mx_p63 : List mx_Op := [(45, 0, 0, 0, 0, [1, 1]), (2, 0, 0, 0, 0, []), (2, 0, 0, 1, 0, []), (24, 0, 0, 4, 7, []), (2, 0, 0, 0, 0, []), (23, 0, 0, 4, 7, []), (31, 0, 0, 47, 1, [0, 4, 1]), (2, 0, 0, 0, 0, []), (6, 0, 0, 0, 0, []), (24, 0, 0, 4, 4, []), (2, 0, 0, 0, 0, []), (6, 0, 0, 0, 0, []), (24, 0, 0, 4, 3, []), (2, 0, 0, 0, 0, []), (31, 0, 0, 51, 1, [0, 5, 1]), (2, 0, 0, 0, 0, []), (31, 0, 0, 57, 1, [0, 5, 1]), (2, 0, 0, 0, 0, []), (31, 0, 0, 58, 1, [0, 5, 3]), (2, 0, 0, 0, 0, []), (31, 0, 0, 59, 1, [0, 5, 5]), (2, 0, 0, 0, 0, []), (31, 0, 0, 60, 1, [0, 5, 4]), (2, 0, 0, 0, 0, []), (31, 0, 0, 62, 1, [0, 5, 6]), (2, 0, 0, 0, 0, []), (23, 0, 0, 4, 3, []), (19, 0, 0, 34, 1, []), (2, 0, 0, 0, 0, []), (23, 0, 0, 4, 5, []), (19, 0, 0, 34, 0, []), (2, 0, 0, 0, 0, []), (6, 1, 0, 0, 0, []), (24, 0, 0, 4, 3, []), (34, 0, 0, 0, 0, [])]
/-- RailOfHeads$Ways.openDoors.(LRailOfHeads$Plan;)V -/
def mx_p64 : List mx_Op := [(45, 0, 0, 0, 0, [1, 1, 1]), (2, 0, 0, 0, 0, []), (23, 0, 0, 6, 0, []), (6, 1000, 0, 0, 0, []), (31, 0, 0, 18, 2, [0, 0, 4]), (6, 0, 0, 0, 0, []), (3, 0, 0, 2, 0, []), (45, 0, 0, 7, 0, [1, 1, 1]), (0, 0, 0, 2, 0, []), (2, 0, 0, 1, 0, []), (23, 0, 0, 3, 2, []), (20, 0, 0, 23, 3, []), (2, 0, 0, 0, 0, []), (23, 0, 0, 6, 0, []), (0, 0, 0, 2, 0, []), (6, 6, 0, 0, 0, []), (8, 0, 0, 0, 2, []), (0, 0, 0, 2, 0, []), (8, 0, 0, 0, 0, []), (6, 0, 0, 0, 0, []), (26, 0, 0, 0, 0, []), (16, 1, 0, 2, 0, []), (21, 0, 0, 7, 0, []), (6, 0, 0, 0, 0, []), (3, 0, 0, 2, 0, []), (45, 0, 0, 25, 0, [1, 1, 1]), (0, 0, 0, 2, 0, []), (2, 0, 0, 1, 0, []), (23, 0, 0, 3, 4, []), (20, 0, 0, 67, 3, []), (2, 0, 0, 0, 0, []), (23, 0, 0, 6, 0, []), (2, 0, 0, 1, 0, []), (23, 0, 0, 3, 5, []), (0, 0, 0, 2, 0, []), (25, 0, 0, 0, 0, []), (6, 6, 0, 0, 0, []), (8, 0, 0, 0, 2, []), (2, 0, 0, 1, 0, []), (23, 0, 0, 3, 6, []), (0, 0, 0, 2, 0, []), (25, 0, 0, 0, 0, []), (8, 0, 0, 0, 0, []), (6, 1, 0, 0, 0, []), (26, 0, 0, 0, 0, []), (2, 0, 0, 1, 0, []), (23, 0, 0, 3, 7, []), (0, 0, 0, 2, 0, []), (25, 0, 0, 0, 0, []), (19, 0, 0, 65, 1, []), (2, 0, 0, 0, 0, []), (23, 0, 0, 6, 0, []), (2, 0, 0, 1, 0, []), (23, 0, 0, 3, 6, []), (0, 0, 0, 2, 0, []), (25, 0, 0, 0, 0, []), (6, 6, 0, 0, 0, []), (8, 0, 0, 0, 2, []), (2, 0, 0, 1, 0, []), (23, 0, 0, 3, 5, []), (0, 0, 0, 2, 0, []), (25, 0, 0, 0, 0, []), (8, 0, 0, 0, 0, []), (6, 1, 0, 0, 0, []), (26, 0, 0, 0, 0, []), (16, 1, 0, 2, 0, []), (21, 0, 0, 25, 0, []), (34, 0, 0, 0, 0, [])]
/-- RailOfHeads$Ways.nextRoom.(LRailOfHeads$Plan;II)I -/
def mx_p65 : List mx_Op := [(45, 0, 0, 0, 0, [1, 1, 1, 1, 1, 1, 1]), (6, (-1), 0, 0, 0, []), (3, 0, 0, 4, 0, []), (6, 1000, 0, 0, 0, []), (3, 0, 0, 5, 0, []), (6, 0, 0, 0, 0, []), (3, 0, 0, 6, 0, []), (45, 0, 0, 7, 0, [1, 1, 1, 1, 1, 1, 1]), (0, 0, 0, 6, 0, []), (2, 0, 0, 1, 0, []), (23, 0, 0, 3, 2, []), (20, 0, 0, 45, 3, []), (2, 0, 0, 0, 0, []), (23, 0, 0, 6, 0, []), (0, 0, 0, 2, 0, []), (6, 6, 0, 0, 0, []), (8, 0, 0, 0, 2, []), (0, 0, 0, 6, 0, []), (8, 0, 0, 0, 0, []), (25, 0, 0, 0, 0, []), (6, 1, 0, 0, 0, []), (20, 0, 0, 43, 1, []), (2, 0, 0, 0, 0, []), (23, 0, 0, 6, 0, []), (0, 0, 0, 6, 0, []), (6, 6, 0, 0, 0, []), (8, 0, 0, 0, 2, []), (0, 0, 0, 3, 0, []), (8, 0, 0, 0, 0, []), (25, 0, 0, 0, 0, []), (0, 0, 0, 5, 0, []), (20, 0, 0, 43, 3, []), (2, 0, 0, 0, 0, []), (23, 0, 0, 6, 0, []), (0, 0, 0, 6, 0, []), (6, 6, 0, 0, 0, []), (8, 0, 0, 0, 2, []), (0, 0, 0, 3, 0, []), (8, 0, 0, 0, 0, []), (25, 0, 0, 0, 0, []), (3, 0, 0, 5, 0, []), (0, 0, 0, 6, 0, []), (3, 0, 0, 4, 0, []), (16, 1, 0, 6, 0, []), (21, 0, 0, 7, 0, []), (0, 0, 0, 4, 0, []), (32, 0, 0, 0, 0, [])]
/-- RailOfHeads$Ways.measure.(LRailOfHeads$Plan;)V -/
def mx_p66 : List mx_Op := [(45, 0, 0, 0, 0, [1, 1, 1, 1, 1, 1]), (2, 0, 0, 0, 0, []), (2, 0, 0, 1, 0, []), (31, 0, 0, 64, 2, [0, 7, 3]), (6, 0, 0, 0, 0, []), (3, 0, 0, 2, 0, []), (45, 0, 0, 6, 0, [1, 1, 1, 0, 0, 0]), (0, 0, 0, 2, 0, []), (2, 0, 0, 1, 0, []), (23, 0, 0, 3, 2, []), (20, 0, 0, 67, 3, []), (6, 0, 0, 0, 0, []), (3, 0, 0, 3, 0, []), (45, 0, 0, 13, 0, [1, 1, 1, 1, 0, 0]), (0, 0, 0, 3, 0, []), (2, 0, 0, 1, 0, []), (23, 0, 0, 3, 2, []), (20, 0, 0, 65, 3, []), (6, 0, 0, 0, 0, []), (3, 0, 0, 4, 0, []), (45, 0, 0, 20, 0, [1, 1, 1, 1, 1, 0]), (0, 0, 0, 4, 0, []), (2, 0, 0, 1, 0, []), (23, 0, 0, 3, 2, []), (20, 0, 0, 63, 3, []), (2, 0, 0, 0, 0, []), (23, 0, 0, 6, 0, []), (0, 0, 0, 3, 0, []), (6, 6, 0, 0, 0, []), (8, 0, 0, 0, 2, []), (0, 0, 0, 2, 0, []), (8, 0, 0, 0, 0, []), (25, 0, 0, 0, 0, []), (2, 0, 0, 0, 0, []), (23, 0, 0, 6, 0, []), (0, 0, 0, 2, 0, []), (6, 6, 0, 0, 0, []), (8, 0, 0, 0, 2, []), (0, 0, 0, 4, 0, []), (8, 0, 0, 0, 0, []), (25, 0, 0, 0, 0, []), (8, 0, 0, 0, 0, []), (3, 0, 0, 5, 0, []), (2, 0, 0, 0, 0, []), (23, 0, 0, 6, 0, []), (0, 0, 0, 3, 0, []), (6, 6, 0, 0, 0, []), (8, 0, 0, 0, 2, []), (0, 0, 0, 4, 0, []), (8, 0, 0, 0, 0, []), (2, 0, 0, 0, 0, []), (23, 0, 0, 6, 0, []), (0, 0, 0, 3, 0, []), (6, 6, 0, 0, 0, []), (8, 0, 0, 0, 2, []), (0, 0, 0, 4, 0, []), (8, 0, 0, 0, 0, []), (25, 0, 0, 0, 0, []), (0, 0, 0, 5, 0, []), (46, 0, 0, 0, 0, []), (26, 0, 0, 0, 0, []), (16, 1, 0, 4, 0, []), (21, 0, 0, 20, 0, []), (16, 1, 0, 3, 0, []), (21, 0, 0, 13, 0, []), (16, 1, 0, 2, 0, []), (21, 0, 0, 6, 0, []), (6, 0, 0, 0, 0, []), (3, 0, 0, 2, 0, []), (45, 0, 0, 69, 0, [1, 1, 1, 0, 0, 0]), (0, 0, 0, 2, 0, []), (2, 0, 0, 1, 0, []), (23, 0, 0, 3, 2, []), (20, 0, 0, 98, 3, []), (6, 0, 0, 0, 0, []), (3, 0, 0, 3, 0, []), (45, 0, 0, 76, 0, [1, 1, 1, 1, 0, 0]), (0, 0, 0, 3, 0, []), (2, 0, 0, 1, 0, []), (23, 0, 0, 3, 2, []), (20, 0, 0, 96, 3, []), (2, 0, 0, 0, 0, []), (23, 0, 0, 6, 1, []), (0, 0, 0, 2, 0, []), (6, 6, 0, 0, 0, []), (8, 0, 0, 0, 2, []), (0, 0, 0, 3, 0, []), (8, 0, 0, 0, 0, []), (2, 0, 0, 0, 0, []), (2, 0, 0, 1, 0, []), (0, 0, 0, 2, 0, []), (0, 0, 0, 3, 0, []), (31, 0, 0, 65, 4, [1, 7, 7]), (26, 0, 0, 0, 0, []), (16, 1, 0, 3, 0, []), (21, 0, 0, 76, 0, []), (16, 1, 0, 2, 0, []), (21, 0, 0, 69, 0, []), (34, 0, 0, 0, 0, [])]
/-- RailOfHeads.noVisitor.(I)Z -/
def mx_p67 : List mx_Op := [(45, 0, 0, 0, 0, [1, 1]), (0, 0, 0, 1, 0, []), (2, 0, 0, 0, 0, []), (23, 0, 0, 7, 2, []), (23, 0, 0, 2, 0, []), (23, 0, 0, 3, 17, []), (31, 0, 0, 21, 2, [1, 0, 2]), (19, 0, 0, 10, 1, []), (6, 1, 0, 0, 0, []), (21, 0, 0, 11, 0, []), (6, 0, 0, 0, 0, []), (32, 0, 0, 0, 1, [])]
/-- RailOfHeads.unfound.(I)I -/
def mx_p68 : List mx_Op := [(45, 0, 0, 0, 0, [1, 1]), (2, 0, 0, 0, 0, []), (6, 0, 0, 0, 0, []), (24, 0, 0, 7, 9, []), (0, 0, 0, 1, 0, []), (32, 0, 0, 0, 0, [])]
/-- RailOfHeads.finding.(I)I -/
def mx_p69 : List mx_Op := [(45, 0, 0, 0, 0, [1, 1]), (2, 0, 0, 0, 0, []), (0, 0, 0, 1, 0, []), (24, 0, 0, 7, 9, []), (6, (-1000010), 0, 0, 0, []), (0, 0, 0, 1, 0, []), (8, 0, 0, 0, 1, []), (32, 0, 0, 0, 0, [])]
/-- RailOfHeads.as.(II)I -/
def mx_p70 : List mx_Op := [(45, 0, 0, 0, 0, [1, 1, 1, 1, 1]), (2, 0, 0, 0, 0, []), (0, 0, 0, 1, 0, []), (31, 0, 0, 67, 2, [1, 8, 2]), (19, 0, 0, 10, 1, []), (0, 0, 0, 2, 0, []), (6, 0, 0, 0, 0, []), (6, 5, 0, 0, 0, []), (31, 0, 0, 48, 3, [1, 0, 3]), (19, 0, 0, 12, 1, []), (6, (-1000001), 0, 0, 0, []), (32, 0, 0, 0, 0, []), (2, 0, 0, 0, 0, []), (23, 0, 0, 7, 2, []), (23, 0, 0, 2, 2, []), (0, 0, 0, 1, 0, []), (31, 0, 0, 2, 2, [1, 2, 2]), (3, 0, 0, 3, 0, []), (0, 0, 0, 2, 0, []), (19, 0, 0, 29, 0, []), (0, 0, 0, 2, 0, []), (0, 0, 0, 3, 0, []), (20, 0, 0, 29, 0, []), (0, 0, 0, 2, 0, []), (6, 3, 0, 0, 0, []), (20, 0, 0, 31, 1, []), (0, 0, 0, 3, 0, []), (6, 4, 0, 0, 0, []), (20, 0, 0, 31, 1, []), (6, 1, 0, 0, 0, []), (21, 0, 0, 32, 0, []), (6, 0, 0, 0, 0, []), (3, 0, 0, 4, 0, []), (0, 0, 0, 4, 0, []), (19, 0, 0, 39, 0, []), (2, 0, 0, 0, 0, []), (0, 0, 0, 1, 0, []), (31, 0, 0, 68, 2, [1, 8, 2]), (21, 0, 0, 42, 0, []), (2, 0, 0, 0, 0, []), (6, 3, 0, 0, 0, []), (31, 0, 0, 69, 2, [1, 8, 2]), (32, 0, 0, 0, 0, [])]
/-- RailOfHeads.ask.(II)I -/
def mx_p71 : List mx_Op := [(45, 0, 0, 0, 0, [1, 1, 1]), (2, 0, 0, 0, 0, []), (0, 0, 0, 1, 0, []), (31, 0, 0, 67, 2, [1, 8, 2]), (19, 0, 0, 9, 1, []), (0, 0, 0, 2, 0, []), (6, 2, 0, 0, 0, []), (31, 0, 0, 21, 2, [1, 0, 2]), (19, 0, 0, 11, 1, []), (6, (-1000001), 0, 0, 0, []), (32, 0, 0, 0, 0, []), (2, 0, 0, 0, 0, []), (23, 0, 0, 7, 5, []), (6, 0, 0, 0, 0, []), (24, 0, 0, 0, 2, []), (0, 0, 0, 2, 0, []), (19, 0, 0, 23, 1, []), (2, 0, 0, 0, 0, []), (23, 0, 0, 7, 5, []), (0, 0, 0, 1, 0, []), (6, 0, 0, 0, 0, []), (31, 0, 0, 14, 3, [1, 1, 3]), (21, 0, 0, 28, 0, []), (2, 0, 0, 0, 0, []), (23, 0, 0, 7, 5, []), (0, 0, 0, 1, 0, []), (6, 0, 0, 0, 0, []), (31, 0, 0, 11, 3, [1, 1, 3]), (32, 0, 0, 0, 0, [])]
/-- RailOfHeads.bestGuard.(II)I -/
def mx_p72 : List mx_Op := [(45, 0, 0, 0, 0, [1, 1, 1, 1, 1, 1, 1]), (6, 0, 0, 0, 0, []), (3, 0, 0, 3, 0, []), (6, (-1), 0, 0, 0, []), (3, 0, 0, 4, 0, []), (6, 0, 0, 0, 0, []), (3, 0, 0, 5, 0, []), (45, 0, 0, 7, 0, [1, 1, 1, 1, 1, 1, 0]), (0, 0, 0, 5, 0, []), (6, 20, 0, 0, 0, []), (20, 0, 0, 32, 4, []), (2, 0, 0, 0, 0, []), (23, 0, 0, 7, 3, []), (23, 0, 0, 2, 0, []), (0, 0, 0, 5, 0, []), (24, 0, 0, 3, 1, []), (2, 0, 0, 0, 0, []), (23, 0, 0, 7, 3, []), (0, 0, 0, 1, 0, []), (0, 0, 0, 2, 0, []), (6, 0, 0, 0, 0, []), (31, 0, 0, 31, 4, [1, 3, 5]), (3, 0, 0, 6, 0, []), (0, 0, 0, 6, 0, []), (0, 0, 0, 4, 0, []), (20, 0, 0, 30, 5, []), (0, 0, 0, 6, 0, []), (3, 0, 0, 4, 0, []), (0, 0, 0, 5, 0, []), (3, 0, 0, 3, 0, []), (16, 1, 0, 5, 0, []), (21, 0, 0, 7, 0, []), (0, 0, 0, 3, 0, []), (32, 0, 0, 0, 0, [])]
/-- RailOfHeads.bestRail.(II)I -/
def mx_p73 : List mx_Op := [(45, 0, 0, 0, 0, [1, 1, 1, 1, 1, 1, 1]), (6, 1, 0, 0, 0, []), (3, 0, 0, 3, 0, []), (6, (-1), 0, 0, 0, []), (3, 0, 0, 4, 0, []), (6, 1, 0, 0, 0, []), (3, 0, 0, 5, 0, []), (45, 0, 0, 7, 0, [1, 1, 1, 1, 1, 1, 0]), (0, 0, 0, 5, 0, []), (6, 20, 0, 0, 0, []), (20, 0, 0, 32, 4, []), (2, 0, 0, 0, 0, []), (23, 0, 0, 7, 3, []), (23, 0, 0, 2, 0, []), (0, 0, 0, 5, 0, []), (24, 0, 0, 3, 0, []), (2, 0, 0, 0, 0, []), (23, 0, 0, 7, 3, []), (0, 0, 0, 1, 0, []), (0, 0, 0, 2, 0, []), (6, 0, 0, 0, 0, []), (31, 0, 0, 31, 4, [1, 3, 5]), (3, 0, 0, 6, 0, []), (0, 0, 0, 6, 0, []), (0, 0, 0, 4, 0, []), (20, 0, 0, 30, 5, []), (0, 0, 0, 6, 0, []), (3, 0, 0, 4, 0, []), (0, 0, 0, 5, 0, []), (3, 0, 0, 3, 0, []), (16, 1, 0, 5, 0, []), (21, 0, 0, 7, 0, []), (0, 0, 0, 3, 0, []), (32, 0, 0, 0, 0, [])]
/-- RailOfHeads.noHouse.()Z -/
def mx_p74 : List mx_Op := [(45, 0, 0, 0, 0, [1]), (2, 0, 0, 0, 0, []), (23, 0, 0, 7, 2, []), (23, 0, 0, 2, 0, []), (23, 0, 0, 3, 2, []), (19, 0, 0, 8, 1, []), (6, 1, 0, 0, 0, []), (21, 0, 0, 9, 0, []), (6, 0, 0, 0, 0, []), (32, 0, 0, 0, 1, [])]
/-- RailOfHeads.noDay.(I)Z -/
def mx_p75 : List mx_Op := [(45, 0, 0, 0, 0, [1]), (0, 0, 0, 0, 0, []), (6, 1, 0, 0, 0, []), (6, 120, 0, 0, 0, []), (31, 0, 0, 48, 3, [1, 0, 3]), (19, 0, 0, 8, 1, []), (6, 1, 0, 0, 0, []), (21, 0, 0, 9, 0, []), (6, 0, 0, 0, 0, []), (32, 0, 0, 0, 1, [])]
/-- RailOfHeads.bestRule.(III)I -/
def mx_p76 : List mx_Op := [(45, 0, 0, 0, 0, [1, 1, 1, 1]), (2, 0, 0, 0, 0, []), (31, 0, 0, 74, 1, [1, 8, 1]), (19, 0, 0, 6, 0, []), (6, (-1000002), 0, 0, 0, []), (32, 0, 0, 0, 0, []), (0, 0, 0, 1, 0, []), (31, 0, 0, 75, 1, [1, 0, 1]), (19, 0, 0, 17, 1, []), (0, 0, 0, 2, 0, []), (6, 2, 0, 0, 0, []), (31, 0, 0, 21, 2, [1, 0, 2]), (19, 0, 0, 17, 0, []), (0, 0, 0, 3, 0, []), (6, 2, 0, 0, 0, []), (31, 0, 0, 21, 2, [1, 0, 2]), (19, 0, 0, 19, 1, []), (6, (-1000001), 0, 0, 0, []), (32, 0, 0, 0, 0, []), (2, 0, 0, 0, 0, []), (23, 0, 0, 7, 3, []), (2, 0, 0, 0, 0, []), (23, 0, 0, 7, 2, []), (31, 0, 0, 34, 2, [0, 3, 2]), (0, 0, 0, 2, 0, []), (19, 0, 0, 31, 1, []), (2, 0, 0, 0, 0, []), (0, 0, 0, 1, 0, []), (0, 0, 0, 3, 0, []), (31, 0, 0, 73, 3, [1, 8, 7]), (21, 0, 0, 35, 0, []), (2, 0, 0, 0, 0, []), (0, 0, 0, 1, 0, []), (0, 0, 0, 3, 0, []), (31, 0, 0, 72, 3, [1, 8, 7]), (32, 0, 0, 0, 0, [])]
/-- RailOfHeads$Row.holds.(II)Z -/
def mx_p77 : List mx_Op := [(45, 0, 0, 0, 0, [1, 1, 1]), (0, 0, 0, 1, 0, []), (19, 0, 0, 17, 2, []), (0, 0, 0, 2, 0, []), (19, 0, 0, 17, 2, []), (0, 0, 0, 2, 0, []), (2, 0, 0, 0, 0, []), (23, 0, 0, 5, 3, []), (20, 0, 0, 17, 4, []), (0, 0, 0, 1, 0, []), (2, 0, 0, 0, 0, []), (23, 0, 0, 5, 3, []), (0, 0, 0, 2, 0, []), (8, 0, 0, 0, 1, []), (20, 0, 0, 17, 4, []), (6, 1, 0, 0, 0, []), (21, 0, 0, 18, 0, []), (6, 0, 0, 0, 0, []), (32, 0, 0, 0, 1, [])]
/-- RailOfHeads.copy.(IIIII)I -/
def mx_p78 : List mx_Op := [(45, 0, 0, 0, 0, [1, 1, 1, 1, 1, 1, 1, 1]), (0, 0, 0, 1, 0, []), (6, 8, 0, 0, 0, []), (31, 0, 0, 21, 2, [1, 0, 2]), (19, 0, 0, 9, 0, []), (0, 0, 0, 3, 0, []), (6, 8, 0, 0, 0, []), (31, 0, 0, 21, 2, [1, 0, 2]), (19, 0, 0, 11, 1, []), (6, (-1000001), 0, 0, 0, []), (32, 0, 0, 0, 0, []), (2, 0, 0, 0, 0, []), (23, 0, 0, 7, 0, []), (0, 0, 0, 1, 0, []), (29, 0, 0, 0, 0, []), (5, 0, 0, 6, 0, []), (2, 0, 0, 0, 0, []), (23, 0, 0, 7, 0, []), (0, 0, 0, 3, 0, []), (29, 0, 0, 0, 0, []), (5, 0, 0, 7, 0, []), (2, 0, 0, 6, 0, []), (23, 0, 0, 5, 1, []), (19, 0, 0, 27, 1, []), (2, 0, 0, 7, 0, []), (23, 0, 0, 5, 1, []), (19, 0, 0, 31, 0, []), (2, 0, 0, 0, 0, []), (6, 1, 0, 0, 0, []), (31, 0, 0, 69, 2, [1, 8, 2]), (32, 0, 0, 0, 0, []), (2, 0, 0, 6, 0, []), (23, 0, 0, 5, 2, []), (2, 0, 0, 7, 0, []), (23, 0, 0, 5, 2, []), (20, 0, 0, 40, 0, []), (2, 0, 0, 0, 0, []), (6, 5, 0, 0, 0, []), (31, 0, 0, 69, 2, [1, 8, 2]), (32, 0, 0, 0, 0, []), (2, 0, 0, 6, 0, []), (0, 0, 0, 2, 0, []), (0, 0, 0, 5, 0, []), (31, 0, 0, 77, 3, [1, 6, 3]), (19, 0, 0, 50, 0, []), (2, 0, 0, 7, 0, []), (0, 0, 0, 4, 0, []), (0, 0, 0, 5, 0, []), (31, 0, 0, 77, 3, [1, 6, 3]), (19, 0, 0, 54, 1, []), (2, 0, 0, 0, 0, []), (6, 2, 0, 0, 0, []), (31, 0, 0, 69, 2, [1, 8, 2]), (32, 0, 0, 0, 0, []), (2, 0, 0, 6, 0, []), (23, 0, 0, 5, 0, []), (0, 0, 0, 2, 0, []), (2, 0, 0, 7, 0, []), (23, 0, 0, 5, 0, []), (0, 0, 0, 4, 0, []), (0, 0, 0, 5, 0, []), (36, 0, 0, 0, 0, []), (2, 0, 0, 0, 0, []), (0, 0, 0, 5, 0, []), (31, 0, 0, 68, 2, [1, 8, 2]), (32, 0, 0, 0, 0, [])]
/-- RailOfHeads.standingRows.()I -/
def mx_p79 : List mx_Op := [(45, 0, 0, 0, 0, [1, 1, 1]), (6, 0, 0, 0, 0, []), (3, 0, 0, 1, 0, []), (6, 0, 0, 0, 0, []), (3, 0, 0, 2, 0, []), (45, 0, 0, 5, 0, [1, 1, 1]), (0, 0, 0, 2, 0, []), (6, 8, 0, 0, 0, []), (20, 0, 0, 23, 3, []), (0, 0, 0, 1, 0, []), (2, 0, 0, 0, 0, []), (23, 0, 0, 7, 0, []), (0, 0, 0, 2, 0, []), (29, 0, 0, 0, 0, []), (23, 0, 0, 5, 1, []), (19, 0, 0, 18, 0, []), (6, 0, 0, 0, 0, []), (21, 0, 0, 19, 0, []), (6, 1, 0, 0, 0, []), (8, 0, 0, 0, 0, []), (3, 0, 0, 1, 0, []), (16, 1, 0, 2, 0, []), (21, 0, 0, 5, 0, []), (0, 0, 0, 1, 0, []), (32, 0, 0, 0, 0, [])]
/-- RailOfHeads.count.(I)I -/
def mx_p80 : List mx_Op := [(45, 0, 0, 0, 0, [1, 1]), (0, 0, 0, 1, 0, []), (22, 0, 0, 45, 0, [3, 6, 11, 16, 21, 26, 31, 36, 41]), (2, 0, 0, 0, 0, []), (31, 0, 0, 79, 1, [1, 8, 3]), (32, 0, 0, 0, 0, []), (2, 0, 0, 0, 0, []), (23, 0, 0, 7, 2, []), (23, 0, 0, 2, 0, []), (23, 0, 0, 3, 2, []), (32, 0, 0, 0, 0, []), (2, 0, 0, 0, 0, []), (23, 0, 0, 7, 2, []), (23, 0, 0, 2, 0, []), (23, 0, 0, 3, 4, []), (32, 0, 0, 0, 0, []), (2, 0, 0, 0, 0, []), (23, 0, 0, 7, 2, []), (23, 0, 0, 2, 0, []), (23, 0, 0, 3, 8, []), (32, 0, 0, 0, 0, []), (2, 0, 0, 0, 0, []), (23, 0, 0, 7, 2, []), (23, 0, 0, 2, 0, []), (23, 0, 0, 3, 12, []), (32, 0, 0, 0, 0, []), (2, 0, 0, 0, 0, []), (23, 0, 0, 7, 2, []), (23, 0, 0, 2, 0, []), (23, 0, 0, 3, 17, []), (32, 0, 0, 0, 0, []), (2, 0, 0, 0, 0, []), (23, 0, 0, 7, 2, []), (23, 0, 0, 2, 2, []), (23, 0, 0, 1, 2, []), (32, 0, 0, 0, 0, []), (2, 0, 0, 0, 0, []), (23, 0, 0, 7, 2, []), (23, 0, 0, 2, 2, []), (23, 0, 0, 1, 3, []), (32, 0, 0, 0, 0, []), (2, 0, 0, 0, 0, []), (23, 0, 0, 7, 1, []), (23, 0, 0, 4, 1, []), (32, 0, 0, 0, 0, []), (6, (-1000001), 0, 0, 0, []), (32, 0, 0, 0, 0, [])]
/-- RailOfHeads.offBy.(ILRailOfHeads$Row;II)I -/
def mx_p81 : List mx_Op := [(45, 0, 0, 0, 0, [1, 1, 1, 1, 1, 1, 1]), (6, 0, 0, 0, 0, []), (3, 0, 0, 5, 0, []), (2, 0, 0, 0, 0, []), (23, 0, 0, 7, 3, []), (23, 0, 0, 2, 2, []), (6, 0, 0, 0, 0, []), (31, 0, 0, 19, 2, [0, 2, 5]), (6, 0, 0, 0, 0, []), (3, 0, 0, 6, 0, []), (45, 0, 0, 10, 0, [1, 1, 1, 1, 1, 1, 1]), (0, 0, 0, 6, 0, []), (0, 0, 0, 4, 0, []), (20, 0, 0, 37, 3, []), (2, 0, 0, 0, 0, []), (23, 0, 0, 7, 3, []), (23, 0, 0, 2, 2, []), (31, 0, 0, 29, 1, [0, 2, 2]), (0, 0, 0, 5, 0, []), (2, 0, 0, 0, 0, []), (23, 0, 0, 7, 3, []), (23, 0, 0, 2, 2, []), (23, 0, 0, 1, 12, []), (0, 0, 0, 1, 0, []), (25, 0, 0, 0, 0, []), (2, 0, 0, 2, 0, []), (23, 0, 0, 5, 0, []), (0, 0, 0, 3, 0, []), (0, 0, 0, 6, 0, []), (8, 0, 0, 0, 0, []), (25, 0, 0, 0, 0, []), (8, 0, 0, 0, 1, []), (47, 0, 0, 0, 2, []), (8, 0, 0, 0, 0, []), (3, 0, 0, 5, 0, []), (16, 1, 0, 6, 0, []), (21, 0, 0, 10, 0, []), (0, 0, 0, 5, 0, []), (32, 0, 0, 0, 0, [])]
/-- RailOfHeads.nearestLaw.(ILRailOfHeads$Row;II)I -/
def mx_p82 : List mx_Op := [(45, 0, 0, 0, 0, [1, 1, 1, 1, 1, 1, 1, 1, 1]), (2, 0, 0, 0, 0, []), (23, 0, 0, 7, 3, []), (2, 0, 0, 0, 0, []), (23, 0, 0, 7, 2, []), (31, 0, 0, 34, 2, [0, 3, 2]), (6, 0, 0, 0, 0, []), (3, 0, 0, 5, 0, []), (6, (-1), 0, 0, 0, []), (3, 0, 0, 6, 0, []), (6, 0, 0, 0, 0, []), (3, 0, 0, 7, 0, []), (45, 0, 0, 12, 0, [1, 1, 1, 1, 1, 1, 1, 1, 0]), (0, 0, 0, 7, 0, []), (6, 3, 0, 0, 0, []), (20, 0, 0, 40, 3, []), (2, 0, 0, 0, 0, []), (23, 0, 0, 7, 3, []), (23, 0, 0, 2, 0, []), (23, 0, 0, 3, 15, []), (0, 0, 0, 7, 0, []), (31, 0, 0, 18, 2, [0, 0, 4]), (2, 0, 0, 0, 0, []), (0, 0, 0, 1, 0, []), (2, 0, 0, 2, 0, []), (0, 0, 0, 3, 0, []), (0, 0, 0, 4, 0, []), (31, 0, 0, 81, 5, [1, 8, 7]), (3, 0, 0, 8, 0, []), (0, 0, 0, 6, 0, []), (19, 0, 0, 34, 2, []), (0, 0, 0, 8, 0, []), (0, 0, 0, 6, 0, []), (20, 0, 0, 38, 3, []), (0, 0, 0, 8, 0, []), (3, 0, 0, 6, 0, []), (0, 0, 0, 7, 0, []), (3, 0, 0, 5, 0, []), (16, 1, 0, 7, 0, []), (21, 0, 0, 12, 0, []), (0, 0, 0, 5, 0, []), (32, 0, 0, 0, 0, [])]
/-- RailOfHeads.counts.(IIII)I -/
def mx_p83 : List mx_Op := [(45, 0, 0, 0, 0, [1, 1, 1, 1, 1, 1]), (0, 0, 0, 1, 0, []), (2, 0, 0, 0, 0, []), (23, 0, 0, 7, 2, []), (23, 0, 0, 2, 0, []), (23, 0, 0, 3, 2, []), (31, 0, 0, 21, 2, [1, 0, 2]), (19, 0, 0, 17, 0, []), (0, 0, 0, 2, 0, []), (6, 8, 0, 0, 0, []), (31, 0, 0, 21, 2, [1, 0, 2]), (19, 0, 0, 17, 0, []), (0, 0, 0, 4, 0, []), (6, 1, 0, 0, 0, []), (6, 40, 0, 0, 0, []), (31, 0, 0, 48, 3, [1, 0, 3]), (19, 0, 0, 19, 1, []), (6, (-1000001), 0, 0, 0, []), (32, 0, 0, 0, 0, []), (2, 0, 0, 0, 0, []), (23, 0, 0, 7, 0, []), (0, 0, 0, 2, 0, []), (29, 0, 0, 0, 0, []), (23, 0, 0, 5, 1, []), (19, 0, 0, 29, 0, []), (2, 0, 0, 0, 0, []), (6, 1, 0, 0, 0, []), (31, 0, 0, 69, 2, [1, 8, 2]), (32, 0, 0, 0, 0, []), (2, 0, 0, 0, 0, []), (23, 0, 0, 7, 0, []), (0, 0, 0, 2, 0, []), (29, 0, 0, 0, 0, []), (0, 0, 0, 3, 0, []), (0, 0, 0, 4, 0, []), (31, 0, 0, 77, 3, [1, 6, 3]), (19, 0, 0, 41, 1, []), (2, 0, 0, 0, 0, []), (6, 2, 0, 0, 0, []), (31, 0, 0, 69, 2, [1, 8, 2]), (32, 0, 0, 0, 0, []), (6, 0, 0, 0, 0, []), (3, 0, 0, 5, 0, []), (45, 0, 0, 43, 0, [1, 1, 1, 1, 1, 1]), (0, 0, 0, 5, 0, []), (0, 0, 0, 4, 0, []), (20, 0, 0, 64, 3, []), (2, 0, 0, 0, 0, []), (23, 0, 0, 7, 0, []), (0, 0, 0, 2, 0, []), (29, 0, 0, 0, 0, []), (23, 0, 0, 5, 0, []), (0, 0, 0, 3, 0, []), (0, 0, 0, 5, 0, []), (8, 0, 0, 0, 0, []), (25, 0, 0, 0, 0, []), (6, 0, 0, 0, 0, []), (6, 30, 0, 0, 0, []), (31, 0, 0, 48, 3, [1, 0, 3]), (19, 0, 0, 62, 1, []), (6, (-1000001), 0, 0, 0, []), (32, 0, 0, 0, 0, []), (16, 1, 0, 5, 0, []), (21, 0, 0, 43, 0, []), (2, 0, 0, 0, 0, []), (2, 0, 0, 0, 0, []), (0, 0, 0, 1, 0, []), (2, 0, 0, 0, 0, []), (23, 0, 0, 7, 0, []), (0, 0, 0, 2, 0, []), (29, 0, 0, 0, 0, []), (0, 0, 0, 3, 0, []), (0, 0, 0, 4, 0, []), (31, 0, 0, 82, 5, [1, 8, 9]), (31, 0, 0, 68, 2, [1, 8, 2]), (32, 0, 0, 0, 0, [])]
/-- RailOfHeads.drop.(I)I -/
def mx_p84 : List mx_Op := [(45, 0, 0, 0, 0, [1, 1]), (0, 0, 0, 1, 0, []), (6, 8, 0, 0, 0, []), (31, 0, 0, 21, 2, [1, 0, 2]), (19, 0, 0, 7, 1, []), (6, (-1000001), 0, 0, 0, []), (32, 0, 0, 0, 0, []), (2, 0, 0, 0, 0, []), (23, 0, 0, 7, 0, []), (0, 0, 0, 1, 0, []), (29, 0, 0, 0, 0, []), (23, 0, 0, 5, 1, []), (19, 0, 0, 17, 0, []), (2, 0, 0, 0, 0, []), (6, 1, 0, 0, 0, []), (31, 0, 0, 69, 2, [1, 8, 2]), (32, 0, 0, 0, 0, []), (2, 0, 0, 0, 0, []), (23, 0, 0, 7, 0, []), (0, 0, 0, 1, 0, []), (29, 0, 0, 0, 0, []), (6, 1, 0, 0, 0, []), (24, 0, 0, 5, 1, []), (2, 0, 0, 0, 0, []), (2, 0, 0, 0, 0, []), (23, 0, 0, 7, 0, []), (0, 0, 0, 1, 0, []), (29, 0, 0, 0, 0, []), (23, 0, 0, 5, 3, []), (31, 0, 0, 68, 2, [1, 8, 2]), (32, 0, 0, 0, 0, [])]
/-- RailOfHeads.far.(II)I -/
def mx_p85 : List mx_Op := [(45, 0, 0, 0, 0, [1, 1, 1, 1]), (0, 0, 0, 1, 0, []), (2, 0, 0, 0, 0, []), (23, 0, 0, 7, 2, []), (23, 0, 0, 2, 0, []), (23, 0, 0, 3, 2, []), (31, 0, 0, 21, 2, [1, 0, 2]), (19, 0, 0, 15, 0, []), (0, 0, 0, 2, 0, []), (2, 0, 0, 0, 0, []), (23, 0, 0, 7, 2, []), (23, 0, 0, 2, 0, []), (23, 0, 0, 3, 2, []), (31, 0, 0, 21, 2, [1, 0, 2]), (19, 0, 0, 17, 1, []), (6, (-1000001), 0, 0, 0, []), (32, 0, 0, 0, 0, []), (2, 0, 0, 0, 0, []), (23, 0, 0, 7, 2, []), (23, 0, 0, 2, 1, []), (23, 0, 0, 6, 0, []), (0, 0, 0, 1, 0, []), (6, 6, 0, 0, 0, []), (8, 0, 0, 0, 2, []), (0, 0, 0, 2, 0, []), (8, 0, 0, 0, 0, []), (25, 0, 0, 0, 0, []), (3, 0, 0, 3, 0, []), (0, 0, 0, 3, 0, []), (6, 1000, 0, 0, 0, []), (20, 0, 0, 33, 1, []), (6, (-1000000), 0, 0, 0, []), (21, 0, 0, 34, 0, []), (0, 0, 0, 3, 0, []), (32, 0, 0, 0, 0, [])]
/-- RailOfHeads.fault.()I -/
def mx_p86 : List mx_Op := [(45, 0, 0, 0, 0, [1]), (2, 0, 0, 0, 0, []), (23, 0, 0, 7, 8, []), (32, 0, 0, 0, 0, [])]
/-- RailOfHeads.feed.(JI)I -/
def mx_p87 : List mx_Op := [(45, 0, 0, 0, 0, [1, 1, 1, 1, 1]), (0, 0, 0, 3, 0, []), (6, 1, 0, 0, 0, []), (6, 8, 0, 0, 0, []), (31, 0, 0, 48, 3, [1, 0, 3]), (19, 0, 0, 8, 1, []), (6, (-1000001), 0, 0, 0, []), (32, 0, 0, 0, 0, []), (2, 0, 0, 0, 0, []), (23, 0, 0, 7, 1, []), (23, 0, 0, 4, 1, []), (0, 0, 0, 3, 0, []), (8, 0, 0, 0, 0, []), (6, 400, 0, 0, 0, []), (20, 0, 0, 17, 5, []), (6, (-1000003), 0, 0, 0, []), (32, 0, 0, 0, 0, []), (0, 0, 0, 3, 0, []), (6, 1, 0, 0, 0, []), (8, 0, 0, 0, 1, []), (3, 0, 0, 4, 0, []), (45, 0, 0, 21, 0, [1, 1, 0, 0, 1]), (0, 0, 0, 4, 0, []), (19, 0, 0, 36, 2, []), (2, 0, 0, 0, 0, []), (23, 0, 0, 7, 1, []), (1, 0, 0, 1, 0, []), (6, 8, 0, 0, 0, []), (0, 0, 0, 4, 0, []), (8, 0, 0, 0, 2, []), (12, 0, 0, 0, 1, []), (15, 0, 0, 0, 0, []), (10, 0, 0, 0, 1, []), (31, 0, 0, 53, 2, [0, 5, 2]), (16, (-1), 0, 4, 0, []), (21, 0, 0, 21, 0, []), (2, 0, 0, 0, 0, []), (23, 0, 0, 7, 1, []), (23, 0, 0, 4, 1, []), (32, 0, 0, 0, 0, [])]
/-- RailOfHeads.fire.()I -/
def mx_p88 : List mx_Op := [(45, 0, 0, 0, 0, [1, 1, 1, 1, 1]), (2, 0, 0, 0, 0, []), (31, 0, 0, 74, 1, [1, 8, 1]), (19, 0, 0, 6, 0, []), (6, (-1000002), 0, 0, 0, []), (32, 0, 0, 0, 0, []), (6, 0, 0, 0, 0, []), (3, 0, 0, 1, 0, []), (6, 0, 0, 0, 0, []), (3, 0, 0, 2, 0, []), (45, 0, 0, 10, 0, [1, 1, 1, 0, 0]), (0, 0, 0, 2, 0, []), (2, 0, 0, 0, 0, []), (23, 0, 0, 7, 2, []), (23, 0, 0, 2, 0, []), (23, 0, 0, 3, 17, []), (20, 0, 0, 49, 3, []), (2, 0, 0, 0, 0, []), (23, 0, 0, 7, 2, []), (23, 0, 0, 2, 2, []), (23, 0, 0, 1, 5, []), (0, 0, 0, 2, 0, []), (25, 0, 0, 0, 0, []), (3, 0, 0, 3, 0, []), (0, 0, 0, 3, 0, []), (19, 0, 0, 27, 3, []), (21, 0, 0, 47, 0, []), (2, 0, 0, 0, 0, []), (23, 0, 0, 7, 2, []), (23, 0, 0, 2, 1, []), (23, 0, 0, 6, 0, []), (0, 0, 0, 3, 0, []), (6, 6, 0, 0, 0, []), (8, 0, 0, 0, 2, []), (25, 0, 0, 0, 0, []), (3, 0, 0, 4, 0, []), (0, 0, 0, 4, 0, []), (6, 1000, 0, 0, 0, []), (20, 0, 0, 41, 1, []), (6, (-1000000), 0, 0, 0, []), (32, 0, 0, 0, 0, []), (0, 0, 0, 1, 0, []), (0, 0, 0, 4, 0, []), (6, 1, 0, 0, 0, []), (8, 0, 0, 0, 0, []), (46, 0, 0, 0, 1, []), (3, 0, 0, 1, 0, []), (16, 1, 0, 2, 0, []), (21, 0, 0, 10, 0, []), (0, 0, 0, 1, 0, []), (32, 0, 0, 0, 0, [])]
/-- RailOfHeads.go.(I)I -/
def mx_p89 : List mx_Op := [(45, 0, 0, 0, 0, [1, 1, 1]), (2, 0, 0, 0, 0, []), (31, 0, 0, 74, 1, [1, 8, 1]), (19, 0, 0, 6, 0, []), (6, (-1000002), 0, 0, 0, []), (32, 0, 0, 0, 0, []), (0, 0, 0, 1, 0, []), (6, 1, 0, 0, 0, []), (6, 60, 0, 0, 0, []), (31, 0, 0, 48, 3, [1, 0, 3]), (19, 0, 0, 13, 1, []), (6, (-1000001), 0, 0, 0, []), (32, 0, 0, 0, 0, []), (6, 0, 0, 0, 0, []), (3, 0, 0, 2, 0, []), (45, 0, 0, 15, 0, [1, 1, 1]), (0, 0, 0, 2, 0, []), (0, 0, 0, 1, 0, []), (20, 0, 0, 25, 3, []), (2, 0, 0, 0, 0, []), (23, 0, 0, 7, 2, []), (23, 0, 0, 2, 2, []), (31, 0, 0, 29, 1, [0, 2, 2]), (16, 1, 0, 2, 0, []), (21, 0, 0, 15, 0, []), (2, 0, 0, 0, 0, []), (23, 0, 0, 7, 2, []), (23, 0, 0, 2, 2, []), (23, 0, 0, 1, 2, []), (32, 0, 0, 0, 0, [])]
/-- RailOfHeads.hangBy.(II)Z -/
def mx_p90 : List mx_Op := [(45, 0, 0, 0, 0, [1, 1, 1, 1, 1, 1, 1]), (0, 0, 0, 1, 0, []), (3, 0, 0, 3, 0, []), (6, 0, 0, 0, 0, []), (3, 0, 0, 4, 0, []), (0, 0, 0, 2, 0, []), (6, 1, 0, 0, 0, []), (8, 0, 0, 0, 1, []), (3, 0, 0, 5, 0, []), (45, 0, 0, 9, 0, [1, 0, 1, 1, 1, 1, 0]), (0, 0, 0, 5, 0, []), (19, 0, 0, 45, 2, []), (0, 0, 0, 3, 0, []), (0, 0, 0, 2, 0, []), (9, 0, 0, 0, 1, []), (3, 0, 0, 6, 0, []), (0, 0, 0, 3, 0, []), (0, 0, 0, 2, 0, []), (9, 0, 0, 0, 0, []), (3, 0, 0, 3, 0, []), (0, 0, 0, 4, 0, []), (6, 1, 0, 0, 0, []), (0, 0, 0, 6, 0, []), (8, 0, 0, 0, 5, []), (8, 0, 0, 0, 4, []), (3, 0, 0, 4, 0, []), (2, 0, 0, 0, 0, []), (23, 0, 0, 7, 6, []), (0, 0, 0, 5, 0, []), (0, 0, 0, 6, 0, []), (26, 0, 0, 0, 0, []), (2, 0, 0, 0, 0, []), (23, 0, 0, 7, 3, []), (23, 0, 0, 2, 0, []), (23, 0, 0, 3, 9, []), (0, 0, 0, 5, 0, []), (2, 0, 0, 0, 0, []), (23, 0, 0, 7, 2, []), (23, 0, 0, 2, 0, []), (23, 0, 0, 3, 9, []), (0, 0, 0, 6, 0, []), (25, 0, 0, 0, 0, []), (26, 0, 0, 0, 0, []), (16, (-1), 0, 5, 0, []), (21, 0, 0, 9, 0, []), (0, 0, 0, 4, 0, []), (6, 1, 0, 0, 0, []), (0, 0, 0, 2, 0, []), (8, 0, 0, 0, 5, []), (6, 1, 0, 0, 0, []), (8, 0, 0, 0, 1, []), (20, 0, 0, 54, 1, []), (6, 1, 0, 0, 0, []), (21, 0, 0, 55, 0, []), (6, 0, 0, 0, 0, []), (32, 0, 0, 0, 1, [])]
/-- RailOfHeads.hangBest.(II)I -/
def mx_p91 : List mx_Op := [(45, 0, 0, 0, 0, [1, 1, 1, 1, 1, 1, 1]), (6, 1, 0, 0, 0, []), (3, 0, 0, 3, 0, []), (6, 0, 0, 0, 0, []), (3, 0, 0, 4, 0, []), (45, 0, 0, 5, 0, [1, 1, 1, 1, 1, 0, 0]), (0, 0, 0, 4, 0, []), (0, 0, 0, 2, 0, []), (20, 0, 0, 15, 3, []), (0, 0, 0, 3, 0, []), (0, 0, 0, 2, 0, []), (8, 0, 0, 0, 2, []), (3, 0, 0, 3, 0, []), (16, 1, 0, 4, 0, []), (21, 0, 0, 5, 0, []), (2, 0, 0, 0, 0, []), (23, 0, 0, 7, 3, []), (2, 0, 0, 0, 0, []), (23, 0, 0, 7, 2, []), (31, 0, 0, 34, 2, [0, 3, 2]), (6, (-1), 0, 0, 0, []), (3, 0, 0, 4, 0, []), (6, 0, 0, 0, 0, []), (3, 0, 0, 5, 0, []), (45, 0, 0, 24, 0, [1, 1, 1, 1, 1, 1, 0]), (0, 0, 0, 5, 0, []), (0, 0, 0, 3, 0, []), (20, 0, 0, 56, 3, []), (2, 0, 0, 0, 0, []), (0, 0, 0, 5, 0, []), (0, 0, 0, 2, 0, []), (31, 0, 0, 90, 3, [1, 8, 7]), (19, 0, 0, 34, 1, []), (21, 0, 0, 54, 0, []), (2, 0, 0, 0, 0, []), (23, 0, 0, 7, 3, []), (0, 0, 0, 1, 0, []), (6, 0, 0, 0, 0, []), (6, 0, 0, 0, 0, []), (31, 0, 0, 31, 4, [1, 3, 5]), (3, 0, 0, 6, 0, []), (0, 0, 0, 6, 0, []), (0, 0, 0, 4, 0, []), (20, 0, 0, 54, 5, []), (0, 0, 0, 6, 0, []), (3, 0, 0, 4, 0, []), (2, 0, 0, 0, 0, []), (23, 0, 0, 7, 6, []), (6, 0, 0, 0, 0, []), (2, 0, 0, 0, 0, []), (23, 0, 0, 7, 7, []), (6, 0, 0, 0, 0, []), (0, 0, 0, 2, 0, []), (36, 0, 0, 0, 0, []), (16, 1, 0, 5, 0, []), (21, 0, 0, 24, 0, []), (0, 0, 0, 4, 0, []), (32, 0, 0, 0, 0, [])]
/-- RailOfHeads.house.()I -/
def mx_p92 : List mx_Op := [(45, 0, 0, 0, 0, [1]), (2, 0, 0, 0, 0, []), (23, 0, 0, 7, 1, []), (2, 0, 0, 0, 0, []), (23, 0, 0, 7, 3, []), (23, 0, 0, 2, 0, []), (31, 0, 0, 63, 2, [0, 5, 2]), (2, 0, 0, 0, 0, []), (23, 0, 0, 7, 1, []), (6, 0, 0, 0, 0, []), (24, 0, 0, 4, 1, []), (2, 0, 0, 0, 0, []), (23, 0, 0, 7, 1, []), (23, 0, 0, 4, 3, []), (19, 0, 0, 26, 0, []), (2, 0, 0, 0, 0, []), (2, 0, 0, 0, 0, []), (23, 0, 0, 7, 1, []), (23, 0, 0, 4, 3, []), (24, 0, 0, 7, 8, []), (6, (-1000100), 0, 0, 0, []), (2, 0, 0, 0, 0, []), (23, 0, 0, 7, 1, []), (23, 0, 0, 4, 2, []), (8, 0, 0, 0, 1, []), (32, 0, 0, 0, 0, []), (2, 0, 0, 0, 0, []), (23, 0, 0, 7, 2, []), (2, 0, 0, 0, 0, []), (23, 0, 0, 7, 3, []), (31, 0, 0, 34, 2, [0, 3, 2]), (2, 0, 0, 0, 0, []), (23, 0, 0, 7, 2, []), (23, 0, 0, 2, 1, []), (2, 0, 0, 0, 0, []), (23, 0, 0, 7, 2, []), (23, 0, 0, 2, 0, []), (31, 0, 0, 66, 2, [0, 7, 6]), (2, 0, 0, 0, 0, []), (23, 0, 0, 7, 2, []), (23, 0, 0, 2, 2, []), (6, 0, 0, 0, 0, []), (31, 0, 0, 19, 2, [0, 2, 5]), (2, 0, 0, 0, 0, []), (23, 0, 0, 7, 2, []), (23, 0, 0, 2, 0, []), (23, 0, 0, 3, 17, []), (32, 0, 0, 0, 0, [])]
/-- RailOfHeads.hung.(II)I -/
def mx_p93 : List mx_Op := [(45, 0, 0, 0, 0, [1, 1, 1, 1, 1]), (2, 0, 0, 0, 0, []), (31, 0, 0, 74, 1, [1, 8, 1]), (19, 0, 0, 6, 0, []), (6, (-1000002), 0, 0, 0, []), (32, 0, 0, 0, 0, []), (0, 0, 0, 1, 0, []), (31, 0, 0, 75, 1, [1, 0, 1]), (19, 0, 0, 12, 1, []), (0, 0, 0, 2, 0, []), (6, (-1), 0, 0, 0, []), (20, 0, 0, 14, 3, []), (6, (-1000001), 0, 0, 0, []), (32, 0, 0, 0, 0, []), (2, 0, 0, 0, 0, []), (23, 0, 0, 7, 2, []), (23, 0, 0, 2, 0, []), (23, 0, 0, 3, 8, []), (3, 0, 0, 3, 0, []), (0, 0, 0, 3, 0, []), (6, 1, 0, 0, 0, []), (6, 4, 0, 0, 0, []), (31, 0, 0, 48, 3, [1, 0, 3]), (19, 0, 0, 27, 0, []), (0, 0, 0, 2, 0, []), (0, 0, 0, 3, 0, []), (20, 0, 0, 29, 2, []), (6, (-1000000), 0, 0, 0, []), (32, 0, 0, 0, 0, []), (2, 0, 0, 0, 0, []), (0, 0, 0, 1, 0, []), (0, 0, 0, 3, 0, []), (31, 0, 0, 91, 3, [1, 8, 7]), (3, 0, 0, 4, 0, []), (0, 0, 0, 2, 0, []), (6, (-1), 0, 0, 0, []), (20, 0, 0, 39, 1, []), (0, 0, 0, 4, 0, []), (21, 0, 0, 43, 0, []), (2, 0, 0, 0, 0, []), (23, 0, 0, 7, 7, []), (0, 0, 0, 2, 0, []), (25, 0, 0, 0, 0, []), (32, 0, 0, 0, 0, [])]
/-- RailOfHeads.image.(I)I -/
def mx_p94 : List mx_Op := [(45, 0, 0, 0, 0, [1, 1]), (0, 0, 0, 1, 0, []), (6, 2, 0, 0, 0, []), (31, 0, 0, 21, 2, [1, 0, 2]), (19, 0, 0, 7, 1, []), (6, (-1000001), 0, 0, 0, []), (32, 0, 0, 0, 0, []), (2, 0, 0, 0, 0, []), (31, 0, 0, 74, 1, [1, 8, 1]), (19, 0, 0, 12, 0, []), (6, (-1000002), 0, 0, 0, []), (32, 0, 0, 0, 0, []), (2, 0, 0, 0, 0, []), (23, 0, 0, 7, 4, []), (0, 0, 0, 1, 0, []), (29, 0, 0, 0, 1, []), (2, 0, 0, 0, 0, []), (23, 0, 0, 7, 2, []), (31, 0, 0, 35, 2, [0, 3, 2]), (6, 1, 0, 0, 0, []), (32, 0, 0, 0, 0, [])]
/-- RailOfHeads.kind.(I)I -/
def mx_p95 : List mx_Op := [(45, 0, 0, 0, 0, [1, 1]), (2, 0, 0, 0, 0, []), (0, 0, 0, 1, 0, []), (31, 0, 0, 67, 2, [1, 8, 2]), (19, 0, 0, 7, 0, []), (6, (-1000001), 0, 0, 0, []), (21, 0, 0, 12, 0, []), (2, 0, 0, 0, 0, []), (23, 0, 0, 7, 2, []), (23, 0, 0, 2, 2, []), (0, 0, 0, 1, 0, []), (31, 0, 0, 2, 2, [1, 2, 2]), (32, 0, 0, 0, 0, [])]
/-- RailOfHeads.oneWay.(II)I -/
def mx_p96 : List mx_Op := [(45, 0, 0, 0, 0, [1, 1, 1, 1]), (0, 0, 0, 1, 0, []), (2, 0, 0, 0, 0, []), (23, 0, 0, 7, 2, []), (23, 0, 0, 2, 0, []), (23, 0, 0, 3, 4, []), (31, 0, 0, 21, 2, [1, 0, 2]), (19, 0, 0, 11, 0, []), (0, 0, 0, 2, 0, []), (31, 0, 0, 75, 1, [1, 0, 1]), (19, 0, 0, 13, 0, []), (6, (-1000001), 0, 0, 0, []), (32, 0, 0, 0, 0, []), (2, 0, 0, 0, 0, []), (23, 0, 0, 7, 3, []), (2, 0, 0, 0, 0, []), (23, 0, 0, 7, 2, []), (31, 0, 0, 34, 2, [0, 3, 2]), (2, 0, 0, 0, 0, []), (23, 0, 0, 7, 3, []), (0, 0, 0, 2, 0, []), (6, 0, 0, 0, 0, []), (6, 0, 0, 0, 0, []), (31, 0, 0, 31, 4, [1, 3, 5]), (3, 0, 0, 3, 0, []), (2, 0, 0, 0, 0, []), (23, 0, 0, 7, 3, []), (23, 0, 0, 2, 0, []), (23, 0, 0, 3, 7, []), (0, 0, 0, 1, 0, []), (6, 1, 0, 0, 0, []), (26, 0, 0, 0, 0, []), (2, 0, 0, 0, 0, []), (23, 0, 0, 7, 3, []), (23, 0, 0, 2, 1, []), (2, 0, 0, 0, 0, []), (23, 0, 0, 7, 3, []), (23, 0, 0, 2, 0, []), (31, 0, 0, 66, 2, [0, 7, 6]), (2, 0, 0, 0, 0, []), (23, 0, 0, 7, 3, []), (0, 0, 0, 2, 0, []), (6, 0, 0, 0, 0, []), (6, 0, 0, 0, 0, []), (31, 0, 0, 31, 4, [1, 3, 5]), (0, 0, 0, 3, 0, []), (8, 0, 0, 0, 1, []), (32, 0, 0, 0, 0, [])]
/-- RailOfHeads.picture.(III)I -/
def mx_p97 : List mx_Op := [(45, 0, 0, 0, 0, [1, 1, 1, 1, 1]), (0, 0, 0, 1, 0, []), (2, 0, 0, 0, 0, []), (23, 0, 0, 7, 2, []), (23, 0, 0, 2, 0, []), (23, 0, 0, 3, 8, []), (31, 0, 0, 21, 2, [1, 0, 2]), (19, 0, 0, 15, 0, []), (0, 0, 0, 2, 0, []), (31, 0, 0, 75, 1, [1, 0, 1]), (19, 0, 0, 15, 1, []), (0, 0, 0, 3, 0, []), (6, 2, 0, 0, 0, []), (31, 0, 0, 21, 2, [1, 0, 2]), (19, 0, 0, 17, 1, []), (6, (-1000001), 0, 0, 0, []), (32, 0, 0, 0, 0, []), (2, 0, 0, 0, 0, []), (23, 0, 0, 7, 3, []), (2, 0, 0, 0, 0, []), (23, 0, 0, 7, 2, []), (31, 0, 0, 34, 2, [0, 3, 2]), (2, 0, 0, 0, 0, []), (23, 0, 0, 7, 3, []), (0, 0, 0, 2, 0, []), (6, 0, 0, 0, 0, []), (6, 0, 0, 0, 0, []), (31, 0, 0, 31, 4, [1, 3, 5]), (3, 0, 0, 4, 0, []), (0, 0, 0, 3, 0, []), (6, 1, 0, 0, 0, []), (20, 0, 0, 43, 1, []), (0, 0, 0, 4, 0, []), (2, 0, 0, 0, 0, []), (23, 0, 0, 7, 3, []), (0, 0, 0, 2, 0, []), (6, 0, 0, 0, 0, []), (6, 1, 0, 0, 0, []), (0, 0, 0, 1, 0, []), (8, 0, 0, 0, 5, []), (31, 0, 0, 31, 4, [1, 3, 5]), (8, 0, 0, 0, 1, []), (32, 0, 0, 0, 0, []), (2, 0, 0, 0, 0, []), (23, 0, 0, 7, 3, []), (23, 0, 0, 2, 0, []), (23, 0, 0, 3, 11, []), (0, 0, 0, 1, 0, []), (18, 0, 0, 0, 0, []), (25, 0, 0, 0, 0, []), (6, 1, 0, 0, 0, []), (8, 0, 0, 0, 1, []), (26, 0, 0, 0, 0, []), (2, 0, 0, 0, 0, []), (23, 0, 0, 7, 3, []), (0, 0, 0, 2, 0, []), (6, 0, 0, 0, 0, []), (6, 0, 0, 0, 0, []), (31, 0, 0, 31, 4, [1, 3, 5]), (0, 0, 0, 4, 0, []), (8, 0, 0, 0, 1, []), (32, 0, 0, 0, 0, [])]
/-- RailOfHeads.restore.(I)I -/
def mx_p98 : List mx_Op := [(45, 0, 0, 0, 0, [1, 1]), (0, 0, 0, 1, 0, []), (6, 2, 0, 0, 0, []), (31, 0, 0, 21, 2, [1, 0, 2]), (19, 0, 0, 7, 1, []), (6, (-1000001), 0, 0, 0, []), (32, 0, 0, 0, 0, []), (2, 0, 0, 0, 0, []), (23, 0, 0, 7, 4, []), (0, 0, 0, 1, 0, []), (29, 0, 0, 0, 1, []), (23, 0, 0, 2, 0, []), (23, 0, 0, 3, 2, []), (19, 0, 0, 16, 1, []), (6, (-1000002), 0, 0, 0, []), (32, 0, 0, 0, 0, []), (2, 0, 0, 0, 0, []), (23, 0, 0, 7, 2, []), (2, 0, 0, 0, 0, []), (23, 0, 0, 7, 4, []), (0, 0, 0, 1, 0, []), (29, 0, 0, 0, 1, []), (31, 0, 0, 35, 2, [0, 3, 2]), (6, 1, 0, 0, 0, []), (32, 0, 0, 0, 0, [])]
/-- RailOfHeads.room.(II)I -/
def mx_p99 : List mx_Op := [(45, 0, 0, 0, 0, [1, 1, 1]), (0, 0, 0, 1, 0, []), (2, 0, 0, 0, 0, []), (23, 0, 0, 7, 2, []), (23, 0, 0, 2, 0, []), (23, 0, 0, 3, 2, []), (31, 0, 0, 21, 2, [1, 0, 2]), (19, 0, 0, 12, 0, []), (0, 0, 0, 2, 0, []), (6, 2, 0, 0, 0, []), (31, 0, 0, 21, 2, [1, 0, 2]), (19, 0, 0, 14, 1, []), (6, (-1000001), 0, 0, 0, []), (32, 0, 0, 0, 0, []), (0, 0, 0, 2, 0, []), (19, 0, 0, 23, 1, []), (2, 0, 0, 0, 0, []), (23, 0, 0, 7, 2, []), (23, 0, 0, 2, 0, []), (23, 0, 0, 3, 3, []), (0, 0, 0, 1, 0, []), (25, 0, 0, 0, 0, []), (21, 0, 0, 29, 0, []), (2, 0, 0, 0, 0, []), (23, 0, 0, 7, 2, []), (23, 0, 0, 2, 2, []), (23, 0, 0, 1, 12, []), (0, 0, 0, 1, 0, []), (25, 0, 0, 0, 0, []), (32, 0, 0, 0, 0, [])]
/-- RailOfHeads$Row.make.(II)V -/
def mx_p100 : List mx_Op := [(45, 0, 0, 0, 0, [1, 1, 1]), (2, 0, 0, 0, 0, []), (6, 0, 0, 0, 0, []), (24, 0, 0, 5, 1, []), (2, 0, 0, 0, 0, []), (0, 0, 0, 1, 0, []), (24, 0, 0, 5, 2, []), (2, 0, 0, 0, 0, []), (0, 0, 0, 2, 0, []), (24, 0, 0, 5, 3, []), (2, 0, 0, 0, 0, []), (23, 0, 0, 5, 0, []), (6, 0, 0, 0, 0, []), (31, 0, 0, 18, 2, [0, 0, 4]), (34, 0, 0, 0, 0, [])]
/-- RailOfHeads.row.(III)I -/
def mx_p101 : List mx_Op := [(45, 0, 0, 0, 0, [1, 1, 1, 1]), (0, 0, 0, 1, 0, []), (6, 8, 0, 0, 0, []), (31, 0, 0, 21, 2, [1, 0, 2]), (19, 0, 0, 12, 0, []), (0, 0, 0, 2, 0, []), (6, 3, 0, 0, 0, []), (31, 0, 0, 21, 2, [1, 0, 2]), (19, 0, 0, 12, 0, []), (0, 0, 0, 3, 0, []), (6, 40, 0, 0, 0, []), (20, 0, 0, 14, 5, []), (6, (-1000001), 0, 0, 0, []), (32, 0, 0, 0, 0, []), (0, 0, 0, 3, 0, []), (19, 0, 0, 20, 3, []), (2, 0, 0, 0, 0, []), (6, 4, 0, 0, 0, []), (31, 0, 0, 69, 2, [1, 8, 2]), (32, 0, 0, 0, 0, []), (2, 0, 0, 0, 0, []), (23, 0, 0, 7, 0, []), (0, 0, 0, 1, 0, []), (29, 0, 0, 0, 0, []), (0, 0, 0, 2, 0, []), (0, 0, 0, 3, 0, []), (31, 0, 0, 100, 3, [0, 6, 3]), (2, 0, 0, 0, 0, []), (0, 0, 0, 3, 0, []), (31, 0, 0, 68, 2, [1, 8, 2]), (32, 0, 0, 0, 0, [])]
/-- RailOfHeads.rule.(II)I -/
def mx_p102 : List mx_Op := [(45, 0, 0, 0, 0, [1, 1, 1]), (2, 0, 0, 0, 0, []), (31, 0, 0, 74, 1, [1, 8, 1]), (19, 0, 0, 6, 0, []), (6, (-1000002), 0, 0, 0, []), (32, 0, 0, 0, 0, []), (0, 0, 0, 1, 0, []), (6, 1, 0, 0, 0, []), (6, 20, 0, 0, 0, []), (31, 0, 0, 48, 3, [1, 0, 3]), (19, 0, 0, 16, 0, []), (0, 0, 0, 2, 0, []), (6, 0, 0, 0, 0, []), (6, 20, 0, 0, 0, []), (31, 0, 0, 48, 3, [1, 0, 3]), (19, 0, 0, 18, 1, []), (6, (-1000001), 0, 0, 0, []), (32, 0, 0, 0, 0, []), (2, 0, 0, 0, 0, []), (23, 0, 0, 7, 2, []), (23, 0, 0, 2, 0, []), (0, 0, 0, 1, 0, []), (24, 0, 0, 3, 0, []), (2, 0, 0, 0, 0, []), (23, 0, 0, 7, 2, []), (23, 0, 0, 2, 0, []), (0, 0, 0, 2, 0, []), (24, 0, 0, 3, 1, []), (6, 1, 0, 0, 0, []), (32, 0, 0, 0, 0, [])]
/-- RailOfHeads.seen.(II)I -/
def mx_p103 : List mx_Op := [(45, 0, 0, 0, 0, [1, 1, 1]), (2, 0, 0, 0, 0, []), (31, 0, 0, 74, 1, [1, 8, 1]), (19, 0, 0, 6, 0, []), (6, (-1000002), 0, 0, 0, []), (32, 0, 0, 0, 0, []), (0, 0, 0, 1, 0, []), (31, 0, 0, 75, 1, [1, 0, 1]), (19, 0, 0, 13, 1, []), (0, 0, 0, 2, 0, []), (6, 3, 0, 0, 0, []), (31, 0, 0, 21, 2, [1, 0, 2]), (19, 0, 0, 15, 1, []), (6, (-1000001), 0, 0, 0, []), (32, 0, 0, 0, 0, []), (2, 0, 0, 0, 0, []), (23, 0, 0, 7, 3, []), (2, 0, 0, 0, 0, []), (23, 0, 0, 7, 2, []), (31, 0, 0, 34, 2, [0, 3, 2]), (2, 0, 0, 0, 0, []), (23, 0, 0, 7, 3, []), (0, 0, 0, 1, 0, []), (0, 0, 0, 2, 0, []), (6, 0, 0, 0, 0, []), (31, 0, 0, 31, 4, [1, 3, 5]), (32, 0, 0, 0, 0, [])]
/-- RailOfHeads$Row.cut.(I)I -/
def mx_p104 : List mx_Op := [(45, 0, 0, 0, 0, [1, 1]), (2, 0, 0, 0, 0, []), (23, 0, 0, 5, 2, []), (19, 0, 0, 7, 1, []), (0, 0, 0, 1, 0, []), (10, 0, 0, 0, 1, []), (21, 0, 0, 15, 0, []), (2, 0, 0, 0, 0, []), (23, 0, 0, 5, 2, []), (6, 1, 0, 0, 0, []), (20, 0, 0, 14, 1, []), (0, 0, 0, 1, 0, []), (10, 0, 0, 0, 2, []), (21, 0, 0, 15, 0, []), (0, 0, 0, 1, 0, []), (32, 0, 0, 0, 0, [])]
/-- RailOfHeads.set.(III)I -/
def mx_p105 : List mx_Op := [(45, 0, 0, 0, 0, [1, 1, 1, 1, 1]), (0, 0, 0, 1, 0, []), (6, 8, 0, 0, 0, []), (31, 0, 0, 21, 2, [1, 0, 2]), (19, 0, 0, 7, 1, []), (6, (-1000001), 0, 0, 0, []), (32, 0, 0, 0, 0, []), (2, 0, 0, 0, 0, []), (23, 0, 0, 7, 0, []), (0, 0, 0, 1, 0, []), (29, 0, 0, 0, 0, []), (5, 0, 0, 4, 0, []), (2, 0, 0, 4, 0, []), (23, 0, 0, 5, 1, []), (19, 0, 0, 19, 0, []), (2, 0, 0, 0, 0, []), (6, 1, 0, 0, 0, []), (31, 0, 0, 69, 2, [1, 8, 2]), (32, 0, 0, 0, 0, []), (2, 0, 0, 4, 0, []), (0, 0, 0, 2, 0, []), (6, 1, 0, 0, 0, []), (31, 0, 0, 77, 3, [1, 6, 3]), (19, 0, 0, 28, 1, []), (2, 0, 0, 0, 0, []), (6, 2, 0, 0, 0, []), (31, 0, 0, 69, 2, [1, 8, 2]), (32, 0, 0, 0, 0, []), (2, 0, 0, 4, 0, []), (23, 0, 0, 5, 0, []), (0, 0, 0, 2, 0, []), (2, 0, 0, 4, 0, []), (0, 0, 0, 3, 0, []), (31, 0, 0, 104, 2, [1, 6, 2]), (26, 0, 0, 0, 0, []), (2, 0, 0, 0, 0, []), (2, 0, 0, 4, 0, []), (23, 0, 0, 5, 0, []), (0, 0, 0, 2, 0, []), (25, 0, 0, 0, 0, []), (31, 0, 0, 68, 2, [1, 8, 2]), (32, 0, 0, 0, 0, [])]
/-- RailOfHeads.status.()I -/
def mx_p106 : List mx_Op := [(45, 0, 0, 0, 0, [1]), (2, 0, 0, 0, 0, []), (23, 0, 0, 7, 9, []), (32, 0, 0, 0, 0, [])]
/-- RailOfHeads.tickets.(II)I -/
def mx_p107 : List mx_Op := [(45, 0, 0, 0, 0, [1, 1, 1, 1, 1, 1, 1]), (0, 0, 0, 1, 0, []), (2, 0, 0, 0, 0, []), (23, 0, 0, 7, 2, []), (23, 0, 0, 2, 0, []), (23, 0, 0, 3, 12, []), (31, 0, 0, 21, 2, [1, 0, 2]), (19, 0, 0, 11, 0, []), (0, 0, 0, 2, 0, []), (31, 0, 0, 75, 1, [1, 0, 1]), (19, 0, 0, 13, 0, []), (6, (-1000001), 0, 0, 0, []), (32, 0, 0, 0, 0, []), (2, 0, 0, 0, 0, []), (23, 0, 0, 7, 3, []), (2, 0, 0, 0, 0, []), (23, 0, 0, 7, 2, []), (31, 0, 0, 34, 2, [0, 3, 2]), (6, 0, 0, 0, 0, []), (3, 0, 0, 3, 0, []), (6, (-1), 0, 0, 0, []), (3, 0, 0, 4, 0, []), (6, 0, 0, 0, 0, []), (3, 0, 0, 5, 0, []), (45, 0, 0, 24, 0, [1, 1, 1, 1, 1, 1, 0]), (0, 0, 0, 5, 0, []), (6, 60, 0, 0, 0, []), (20, 0, 0, 51, 4, []), (2, 0, 0, 0, 0, []), (23, 0, 0, 7, 3, []), (23, 0, 0, 2, 0, []), (23, 0, 0, 3, 14, []), (0, 0, 0, 1, 0, []), (0, 0, 0, 5, 0, []), (26, 0, 0, 0, 0, []), (2, 0, 0, 0, 0, []), (23, 0, 0, 7, 3, []), (0, 0, 0, 2, 0, []), (6, 0, 0, 0, 0, []), (6, 0, 0, 0, 0, []), (31, 0, 0, 31, 4, [1, 3, 5]), (3, 0, 0, 6, 0, []), (0, 0, 0, 6, 0, []), (0, 0, 0, 4, 0, []), (20, 0, 0, 49, 5, []), (0, 0, 0, 6, 0, []), (3, 0, 0, 4, 0, []), (0, 0, 0, 5, 0, []), (3, 0, 0, 3, 0, []), (16, 1, 0, 5, 0, []), (21, 0, 0, 24, 0, []), (0, 0, 0, 3, 0, []), (32, 0, 0, 0, 0, [])]
/-- RailOfHeads.trace.(I)I -/
def mx_p108 : List mx_Op := [(45, 0, 0, 0, 0, [1, 1]), (0, 0, 0, 1, 0, []), (2, 0, 0, 0, 0, []), (23, 0, 0, 7, 5, []), (23, 0, 0, 0, 2, []), (31, 0, 0, 21, 2, [1, 0, 2]), (19, 0, 0, 13, 0, []), (2, 0, 0, 0, 0, []), (23, 0, 0, 7, 5, []), (23, 0, 0, 0, 1, []), (0, 0, 0, 1, 0, []), (25, 0, 0, 0, 0, []), (21, 0, 0, 14, 0, []), (6, (-1000000), 0, 0, 0, []), (32, 0, 0, 0, 0, [])]
/-- RailOfHeads.visitor.(II)I -/
def mx_p109 : List mx_Op := [(45, 0, 0, 0, 0, [1, 1, 1, 1, 1]), (2, 0, 0, 0, 0, []), (0, 0, 0, 1, 0, []), (31, 0, 0, 67, 2, [1, 8, 2]), (19, 0, 0, 7, 0, []), (6, (-1000001), 0, 0, 0, []), (32, 0, 0, 0, 0, []), (2, 0, 0, 0, 0, []), (23, 0, 0, 7, 2, []), (23, 0, 0, 2, 2, []), (5, 0, 0, 3, 0, []), (2, 0, 0, 3, 0, []), (23, 0, 0, 1, 10, []), (0, 0, 0, 1, 0, []), (25, 0, 0, 0, 0, []), (3, 0, 0, 4, 0, []), (0, 0, 0, 2, 0, []), (22, 0, 0, 86, 0, [18, 23, 35, 45, 50, 55, 60, 65, 72]), (2, 0, 0, 3, 0, []), (23, 0, 0, 1, 4, []), (0, 0, 0, 1, 0, []), (25, 0, 0, 0, 0, []), (32, 0, 0, 0, 0, []), (2, 0, 0, 3, 0, []), (23, 0, 0, 1, 5, []), (0, 0, 0, 1, 0, []), (25, 0, 0, 0, 0, []), (19, 0, 0, 30, 3, []), (6, (-1000000), 0, 0, 0, []), (21, 0, 0, 34, 0, []), (2, 0, 0, 3, 0, []), (23, 0, 0, 1, 5, []), (0, 0, 0, 1, 0, []), (25, 0, 0, 0, 0, []), (32, 0, 0, 0, 0, []), (2, 0, 0, 3, 0, []), (23, 0, 0, 1, 5, []), (0, 0, 0, 1, 0, []), (25, 0, 0, 0, 0, []), (6, (-2), 0, 0, 0, []), (20, 0, 0, 43, 1, []), (6, 1, 0, 0, 0, []), (21, 0, 0, 44, 0, []), (6, 0, 0, 0, 0, []), (32, 0, 0, 0, 0, []), (2, 0, 0, 3, 0, []), (23, 0, 0, 1, 6, []), (0, 0, 0, 1, 0, []), (25, 0, 0, 0, 0, []), (32, 0, 0, 0, 0, []), (2, 0, 0, 3, 0, []), (23, 0, 0, 1, 7, []), (0, 0, 0, 1, 0, []), (25, 0, 0, 0, 0, []), (32, 0, 0, 0, 0, []), (2, 0, 0, 3, 0, []), (23, 0, 0, 1, 8, []), (0, 0, 0, 1, 0, []), (25, 0, 0, 0, 0, []), (32, 0, 0, 0, 0, []), (2, 0, 0, 3, 0, []), (23, 0, 0, 1, 9, []), (0, 0, 0, 1, 0, []), (25, 0, 0, 0, 0, []), (32, 0, 0, 0, 0, []), (0, 0, 0, 4, 0, []), (6, (-1), 0, 0, 0, []), (20, 0, 0, 70, 1, []), (6, (-1000000), 0, 0, 0, []), (21, 0, 0, 71, 0, []), (0, 0, 0, 4, 0, []), (32, 0, 0, 0, 0, []), (0, 0, 0, 4, 0, []), (6, (-1), 0, 0, 0, []), (20, 0, 0, 77, 1, []), (6, 0, 0, 0, 0, []), (21, 0, 0, 85, 0, []), (2, 0, 0, 3, 0, []), (23, 0, 0, 1, 11, []), (0, 0, 0, 1, 0, []), (6, 8, 0, 0, 0, []), (8, 0, 0, 0, 2, []), (0, 0, 0, 4, 0, []), (8, 0, 0, 0, 0, []), (25, 0, 0, 0, 0, []), (32, 0, 0, 0, 0, []), (6, (-1000001), 0, 0, 0, []), (32, 0, 0, 0, 0, [])]
/-- RailOfHeadsModel.groupOf.(I)I -/
def mx_p110 : List mx_Op := [(45, 0, 0, 0, 0, [1, 1, 1, 1]), (0, 0, 0, 1, 0, []), (3, 0, 0, 2, 0, []), (6, 0, 0, 0, 0, []), (3, 0, 0, 3, 0, []), (45, 0, 0, 5, 0, [1, 0, 1, 1]), (0, 0, 0, 2, 0, []), (2, 0, 0, 0, 0, []), (23, 0, 0, 8, 5, []), (6, 56, 0, 0, 0, []), (6, 4, 0, 0, 0, []), (0, 0, 0, 3, 0, []), (8, 0, 0, 0, 2, []), (8, 0, 0, 0, 0, []), (25, 0, 0, 0, 0, []), (20, 0, 0, 29, 2, []), (0, 0, 0, 2, 0, []), (2, 0, 0, 0, 0, []), (23, 0, 0, 8, 5, []), (6, 56, 0, 0, 0, []), (6, 4, 0, 0, 0, []), (0, 0, 0, 3, 0, []), (8, 0, 0, 0, 2, []), (8, 0, 0, 0, 0, []), (25, 0, 0, 0, 0, []), (8, 0, 0, 0, 1, []), (3, 0, 0, 2, 0, []), (16, 1, 0, 3, 0, []), (21, 0, 0, 5, 0, []), (0, 0, 0, 3, 0, []), (32, 0, 0, 0, 0, [])]
/-- RailOfHeadsModel.told.(II)I -/
def mx_p111 : List mx_Op := [(45, 0, 0, 0, 0, [1, 1, 1]), (2, 0, 0, 0, 0, []), (23, 0, 0, 8, 5, []), (6, 56, 0, 0, 0, []), (6, 4, 0, 0, 0, []), (2, 0, 0, 0, 0, []), (0, 0, 0, 1, 0, []), (31, 0, 0, 110, 2, [1, 9, 4]), (8, 0, 0, 0, 2, []), (8, 0, 0, 0, 0, []), (0, 0, 0, 2, 0, []), (8, 0, 0, 0, 0, []), (25, 0, 0, 0, 0, []), (32, 0, 0, 0, 0, [])]
/-- RailOfHeadsModel.lawNow.(I)I -/
def mx_p112 : List mx_Op := [(45, 0, 0, 0, 0, [1, 1]), (2, 0, 0, 0, 0, []), (23, 0, 0, 8, 21, []), (19, 0, 0, 9, 3, []), (2, 0, 0, 0, 0, []), (0, 0, 0, 1, 0, []), (6, 2, 0, 0, 0, []), (31, 0, 0, 111, 3, [1, 9, 3]), (21, 0, 0, 11, 0, []), (2, 0, 0, 0, 0, []), (23, 0, 0, 8, 21, []), (32, 0, 0, 0, 0, [])]
/-- RailOfHeadsModel.isOpen.([III)Z -/
def mx_p113 : List mx_Op := [(45, 0, 0, 0, 0, [1, 1, 1, 1]), (2, 0, 0, 1, 0, []), (6, 14, 0, 0, 0, []), (0, 0, 0, 2, 0, []), (8, 0, 0, 0, 2, []), (6, 3, 0, 0, 0, []), (8, 0, 0, 0, 0, []), (25, 0, 0, 0, 0, []), (0, 0, 0, 3, 0, []), (8, 0, 0, 0, 6, []), (6, 1, 0, 0, 0, []), (8, 0, 0, 0, 3, []), (19, 0, 0, 38, 1, []), (2, 0, 0, 0, 0, []), (23, 0, 0, 8, 20, []), (6, 6, 0, 0, 0, []), (2, 0, 0, 1, 0, []), (6, 14, 0, 0, 0, []), (0, 0, 0, 2, 0, []), (8, 0, 0, 0, 2, []), (6, 0, 0, 0, 0, []), (8, 0, 0, 0, 0, []), (25, 0, 0, 0, 0, []), (8, 0, 0, 0, 2, []), (2, 0, 0, 0, 0, []), (23, 0, 0, 8, 5, []), (6, 40, 0, 0, 0, []), (6, 2, 0, 0, 0, []), (0, 0, 0, 3, 0, []), (8, 0, 0, 0, 2, []), (8, 0, 0, 0, 0, []), (25, 0, 0, 0, 0, []), (8, 0, 0, 0, 0, []), (25, 0, 0, 0, 0, []), (6, (-1000000), 0, 0, 0, []), (20, 0, 0, 38, 0, []), (6, 1, 0, 0, 0, []), (21, 0, 0, 39, 0, []), (6, 0, 0, 0, 0, []), (32, 0, 0, 0, 1, [])]
/-- RailOfHeadsModel.aim.([II)I -/
def mx_p114 : List mx_Op := [(45, 0, 0, 0, 0, [1, 1, 1, 1, 1, 1, 1, 1, 1, 1]), (6, (-1000000), 0, 0, 0, []), (3, 0, 0, 3, 0, []), (6, 0, 0, 0, 0, []), (3, 0, 0, 4, 0, []), (2, 0, 0, 0, 0, []), (0, 0, 0, 2, 0, []), (31, 0, 0, 112, 2, [1, 9, 2]), (19, 0, 0, 11, 1, []), (6, 1, 0, 0, 0, []), (21, 0, 0, 12, 0, []), (6, 0, 0, 0, 0, []), (3, 0, 0, 5, 0, []), (6, 0, 0, 0, 0, []), (3, 0, 0, 6, 0, []), (45, 0, 0, 15, 0, [1, 1, 1, 1, 1, 1, 1, 0, 0, 0]), (0, 0, 0, 6, 0, []), (2, 0, 0, 0, 0, []), (23, 0, 0, 8, 5, []), (6, 4, 0, 0, 0, []), (25, 0, 0, 0, 0, []), (20, 0, 0, 96, 3, []), (2, 0, 0, 0, 0, []), (2, 0, 0, 1, 0, []), (0, 0, 0, 2, 0, []), (0, 0, 0, 6, 0, []), (31, 0, 0, 113, 4, [1, 9, 4]), (19, 0, 0, 94, 0, []), (6, 40, 0, 0, 0, []), (6, 2, 0, 0, 0, []), (0, 0, 0, 6, 0, []), (8, 0, 0, 0, 2, []), (8, 0, 0, 0, 0, []), (3, 0, 0, 7, 0, []), (2, 0, 0, 0, 0, []), (23, 0, 0, 8, 5, []), (0, 0, 0, 7, 0, []), (6, 1, 0, 0, 0, []), (8, 0, 0, 0, 0, []), (25, 0, 0, 0, 0, []), (6, 5, 0, 0, 0, []), (2, 0, 0, 0, 0, []), (23, 0, 0, 8, 20, []), (6, 6, 0, 0, 0, []), (2, 0, 0, 1, 0, []), (6, 14, 0, 0, 0, []), (0, 0, 0, 2, 0, []), (8, 0, 0, 0, 2, []), (6, 0, 0, 0, 0, []), (8, 0, 0, 0, 0, []), (25, 0, 0, 0, 0, []), (8, 0, 0, 0, 2, []), (2, 0, 0, 0, 0, []), (23, 0, 0, 8, 5, []), (0, 0, 0, 7, 0, []), (25, 0, 0, 0, 0, []), (8, 0, 0, 0, 0, []), (25, 0, 0, 0, 0, []), (8, 0, 0, 0, 2, []), (8, 0, 0, 0, 1, []), (3, 0, 0, 8, 0, []), (2, 0, 0, 0, 0, []), (0, 0, 0, 2, 0, []), (31, 0, 0, 112, 2, [1, 9, 2]), (6, 2, 0, 0, 0, []), (20, 0, 0, 70, 0, []), (0, 0, 0, 5, 0, []), (19, 0, 0, 72, 0, []), (0, 0, 0, 6, 0, []), (19, 0, 0, 72, 1, []), (0, 0, 0, 6, 0, []), (32, 0, 0, 0, 0, []), (0, 0, 0, 3, 0, []), (6, (-1000000), 0, 0, 0, []), (20, 0, 0, 78, 0, []), (0, 0, 0, 8, 0, []), (0, 0, 0, 4, 0, []), (20, 0, 0, 80, 5, []), (6, 1, 0, 0, 0, []), (21, 0, 0, 81, 0, []), (6, 0, 0, 0, 0, []), (3, 0, 0, 9, 0, []), (0, 0, 0, 9, 0, []), (19, 0, 0, 86, 0, []), (0, 0, 0, 6, 0, []), (21, 0, 0, 87, 0, []), (0, 0, 0, 3, 0, []), (3, 0, 0, 3, 0, []), (0, 0, 0, 9, 0, []), (19, 0, 0, 92, 0, []), (0, 0, 0, 8, 0, []), (21, 0, 0, 93, 0, []), (0, 0, 0, 4, 0, []), (3, 0, 0, 4, 0, []), (16, 1, 0, 6, 0, []), (21, 0, 0, 15, 0, []), (0, 0, 0, 3, 0, []), (32, 0, 0, 0, 0, [])]
/-- RailOfHeadsModel.in.(JJJ)Z -/
def mx_p115 : List mx_Op := [(45, 0, 0, 0, 0, [1, 1, 1, 1, 1, 1]), (1, 0, 0, 0, 0, []), (1, 0, 0, 2, 0, []), (13, 0, 0, 0, 0, []), (19, 0, 0, 11, 2, []), (1, 0, 0, 0, 0, []), (1, 0, 0, 4, 0, []), (13, 0, 0, 0, 0, []), (19, 0, 0, 11, 4, []), (6, 1, 0, 0, 0, []), (21, 0, 0, 12, 0, []), (6, 0, 0, 0, 0, []), (32, 0, 0, 0, 1, [])]
/-- RailOfHeadsModel.isVisitor.(I)Z -/
def mx_p116 : List mx_Op := [(45, 0, 0, 0, 0, [1, 1]), (0, 0, 0, 1, 0, []), (14, 0, 0, 0, 0, []), (7, 0, 0, 0, 0, []), (2, 0, 0, 0, 0, []), (23, 0, 0, 8, 5, []), (6, 6, 0, 0, 0, []), (25, 0, 0, 0, 0, []), (6, 1, 0, 0, 0, []), (8, 0, 0, 0, 1, []), (14, 0, 0, 0, 0, []), (31, 0, 0, 115, 3, [1, 0, 6]), (32, 0, 0, 0, 1, [])]
/-- RailOfHeadsModel.kindOf.(I)I -/
def mx_p117 : List mx_Op := [(45, 0, 0, 0, 0, [1, 1, 1, 1]), (2, 0, 0, 0, 0, []), (23, 0, 0, 8, 8, []), (6, 14, 0, 0, 0, []), (0, 0, 0, 1, 0, []), (8, 0, 0, 0, 2, []), (6, 5, 0, 0, 0, []), (8, 0, 0, 0, 0, []), (25, 0, 0, 0, 0, []), (3, 0, 0, 2, 0, []), (2, 0, 0, 0, 0, []), (23, 0, 0, 8, 8, []), (6, 14, 0, 0, 0, []), (0, 0, 0, 1, 0, []), (8, 0, 0, 0, 2, []), (6, 0, 0, 0, 0, []), (8, 0, 0, 0, 0, []), (25, 0, 0, 0, 0, []), (3, 0, 0, 3, 0, []), (0, 0, 0, 3, 0, []), (6, (-2), 0, 0, 0, []), (20, 0, 0, 28, 0, []), (0, 0, 0, 3, 0, []), (6, (-1), 0, 0, 0, []), (20, 0, 0, 30, 1, []), (0, 0, 0, 2, 0, []), (6, 3, 0, 0, 0, []), (20, 0, 0, 30, 0, []), (6, 5, 0, 0, 0, []), (32, 0, 0, 0, 0, []), (0, 0, 0, 2, 0, []), (6, 1, 0, 0, 0, []), (20, 0, 0, 35, 1, []), (6, 1, 0, 0, 0, []), (21, 0, 0, 46, 0, []), (0, 0, 0, 2, 0, []), (6, 2, 0, 0, 0, []), (20, 0, 0, 40, 1, []), (6, 2, 0, 0, 0, []), (21, 0, 0, 46, 0, []), (0, 0, 0, 2, 0, []), (6, 3, 0, 0, 0, []), (20, 0, 0, 45, 1, []), (6, 4, 0, 0, 0, []), (21, 0, 0, 46, 0, []), (6, 3, 0, 0, 0, []), (32, 0, 0, 0, 0, [])]
/-- RailOfHeadsModel.isOf.(II)Z -/
def mx_p118 : List mx_Op := [(45, 0, 0, 0, 0, [1, 1]), (0, 0, 0, 1, 0, []), (19, 0, 0, 12, 0, []), (0, 0, 0, 0, 0, []), (0, 0, 0, 1, 0, []), (20, 0, 0, 12, 0, []), (0, 0, 0, 1, 0, []), (6, 3, 0, 0, 0, []), (20, 0, 0, 14, 1, []), (0, 0, 0, 0, 0, []), (6, 4, 0, 0, 0, []), (20, 0, 0, 14, 1, []), (6, 1, 0, 0, 0, []), (21, 0, 0, 15, 0, []), (6, 0, 0, 0, 0, []), (32, 0, 0, 0, 1, [])]
/-- RailOfHeadsModel.finding.(I)I -/
def mx_p119 : List mx_Op := [(45, 0, 0, 0, 0, [1, 1]), (2, 0, 0, 0, 0, []), (0, 0, 0, 1, 0, []), (24, 0, 0, 8, 1, []), (6, (-1000010), 0, 0, 0, []), (0, 0, 0, 1, 0, []), (8, 0, 0, 0, 1, []), (32, 0, 0, 0, 0, [])]
/-- RailOfHeadsModel.as.(II)I -/
def mx_p120 : List mx_Op := [(45, 0, 0, 0, 0, [1, 1, 1]), (2, 0, 0, 0, 0, []), (6, 0, 0, 0, 0, []), (24, 0, 0, 8, 0, []), (2, 0, 0, 0, 0, []), (0, 0, 0, 1, 0, []), (31, 0, 0, 116, 2, [1, 9, 2]), (19, 0, 0, 14, 0, []), (0, 0, 0, 2, 0, []), (14, 0, 0, 0, 0, []), (7, 0, 0, 0, 0, []), (7, 0, 5, 0, 0, []), (31, 0, 0, 115, 3, [1, 0, 6]), (19, 0, 0, 16, 1, []), (6, (-1000001), 0, 0, 0, []), (32, 0, 0, 0, 0, []), (2, 0, 0, 0, 0, []), (6, 0, 0, 0, 0, []), (24, 0, 0, 8, 1, []), (2, 0, 0, 0, 0, []), (0, 0, 0, 1, 0, []), (31, 0, 0, 117, 2, [1, 9, 4]), (0, 0, 0, 2, 0, []), (31, 0, 0, 118, 2, [1, 0, 2]), (19, 0, 0, 27, 0, []), (0, 0, 0, 1, 0, []), (21, 0, 0, 30, 0, []), (2, 0, 0, 0, 0, []), (6, 3, 0, 0, 0, []), (31, 0, 0, 119, 2, [1, 9, 2]), (32, 0, 0, 0, 0, [])]
/-- RailOfHeadsModel.began.(I)V -/
def mx_p121 : List mx_Op := [(45, 0, 0, 0, 0, [1, 1]), (2, 0, 0, 0, 0, []), (23, 0, 0, 8, 32, []), (6, 16, 0, 0, 0, []), (20, 0, 0, 17, 3, []), (2, 0, 0, 0, 0, []), (23, 0, 0, 8, 31, []), (2, 0, 0, 0, 0, []), (23, 0, 0, 8, 32, []), (0, 0, 0, 1, 0, []), (26, 0, 0, 0, 0, []), (2, 0, 0, 0, 0, []), (17, 0, 0, 0, 0, []), (23, 0, 0, 8, 32, []), (6, 1, 0, 0, 0, []), (8, 0, 0, 0, 0, []), (24, 0, 0, 8, 32, []), (34, 0, 0, 0, 0, [])]
/-- RailOfHeadsModel.plainSize.(I)I -/
def mx_p122 : List mx_Op := [(45, 0, 0, 0, 0, [1, 1]), (2, 0, 0, 0, 0, []), (6, 10, 0, 0, 0, []), (31, 0, 0, 121, 2, [0, 9, 2]), (2, 0, 0, 0, 0, []), (23, 0, 0, 8, 8, []), (6, 14, 0, 0, 0, []), (0, 0, 0, 1, 0, []), (8, 0, 0, 0, 2, []), (6, 2, 0, 0, 0, []), (8, 0, 0, 0, 0, []), (25, 0, 0, 0, 0, []), (32, 0, 0, 0, 0, [])]
/-- RailOfHeadsModel.markOf.(I)I -/
def mx_p123 : List mx_Op := [(45, 0, 0, 0, 0, [1, 1, 1, 1, 1]), (2, 0, 0, 0, 0, []), (0, 0, 0, 1, 0, []), (31, 0, 0, 117, 2, [1, 9, 4]), (3, 0, 0, 2, 0, []), (2, 0, 0, 0, 0, []), (23, 0, 0, 8, 8, []), (6, 14, 0, 0, 0, []), (0, 0, 0, 1, 0, []), (8, 0, 0, 0, 2, []), (6, 0, 0, 0, 0, []), (8, 0, 0, 0, 0, []), (25, 0, 0, 0, 0, []), (3, 0, 0, 3, 0, []), (0, 0, 0, 2, 0, []), (6, 4, 0, 0, 0, []), (20, 0, 0, 20, 1, []), (2, 0, 0, 0, 0, []), (6, 22, 0, 0, 0, []), (31, 0, 0, 121, 2, [0, 9, 2]), (45, 0, 0, 20, 0, [1, 1, 1, 1, 0]), (0, 0, 0, 2, 0, []), (6, 3, 0, 0, 0, []), (31, 0, 0, 118, 2, [1, 0, 2]), (19, 0, 0, 28, 0, []), (2, 0, 0, 0, 0, []), (6, 21, 0, 0, 0, []), (31, 0, 0, 121, 2, [0, 9, 2]), (45, 0, 0, 28, 0, [1, 1, 1, 1, 0]), (0, 0, 0, 2, 0, []), (6, 5, 0, 0, 0, []), (20, 0, 0, 35, 0, []), (0, 0, 0, 2, 0, []), (6, 2, 0, 0, 0, []), (20, 0, 0, 43, 1, []), (2, 0, 0, 0, 0, []), (0, 0, 0, 2, 0, []), (6, 5, 0, 0, 0, []), (20, 0, 0, 41, 1, []), (6, 23, 0, 0, 0, []), (21, 0, 0, 42, 0, []), (6, 24, 0, 0, 0, []), (31, 0, 0, 121, 2, [0, 9, 2]), (45, 0, 0, 43, 0, [1, 1, 1, 1, 0]), (2, 0, 0, 0, 0, []), (6, 20, 0, 0, 0, []), (31, 0, 0, 121, 2, [0, 9, 2]), (0, 0, 0, 2, 0, []), (6, 5, 0, 0, 0, []), (20, 0, 0, 56, 1, []), (0, 0, 0, 1, 0, []), (2, 0, 0, 0, 0, []), (0, 0, 0, 1, 0, []), (31, 0, 0, 122, 2, [1, 9, 2]), (8, 0, 0, 0, 0, []), (32, 0, 0, 0, 0, []), (0, 0, 0, 1, 0, []), (6, 100, 0, 0, 0, []), (0, 0, 0, 3, 0, []), (19, 0, 0, 62, 3, []), (6, 0, 0, 0, 0, []), (21, 0, 0, 63, 0, []), (0, 0, 0, 3, 0, []), (8, 0, 0, 0, 2, []), (8, 0, 0, 0, 0, []), (3, 0, 0, 4, 0, []), (0, 0, 0, 2, 0, []), (6, 1, 0, 0, 0, []), (20, 0, 0, 71, 1, []), (0, 0, 0, 1, 0, []), (21, 0, 0, 93, 0, []), (0, 0, 0, 2, 0, []), (6, 2, 0, 0, 0, []), (20, 0, 0, 78, 1, []), (0, 0, 0, 1, 0, []), (6, 1000, 0, 0, 0, []), (8, 0, 0, 0, 0, []), (21, 0, 0, 93, 0, []), (0, 0, 0, 2, 0, []), (6, 3, 0, 0, 0, []), (20, 0, 0, 83, 1, []), (0, 0, 0, 4, 0, []), (21, 0, 0, 93, 0, []), (0, 0, 0, 4, 0, []), (2, 0, 0, 0, 0, []), (23, 0, 0, 8, 8, []), (6, 14, 0, 0, 0, []), (0, 0, 0, 1, 0, []), (8, 0, 0, 0, 2, []), (6, 1, 0, 0, 0, []), (8, 0, 0, 0, 0, []), (25, 0, 0, 0, 0, []), (8, 0, 0, 0, 0, []), (32, 0, 0, 0, 0, [])]
/-- RailOfHeadsModel.sizeOf.(I)I -/
def mx_p124 : List mx_Op := [(45, 0, 0, 0, 0, [1, 1, 1, 1, 1]), (2, 0, 0, 0, 0, []), (0, 0, 0, 1, 0, []), (31, 0, 0, 117, 2, [1, 9, 4]), (3, 0, 0, 2, 0, []), (0, 0, 0, 2, 0, []), (6, 5, 0, 0, 0, []), (20, 0, 0, 12, 1, []), (2, 0, 0, 0, 0, []), (0, 0, 0, 1, 0, []), (31, 0, 0, 122, 2, [1, 9, 2]), (32, 0, 0, 0, 0, []), (0, 0, 0, 2, 0, []), (6, 4, 0, 0, 0, []), (20, 0, 0, 18, 1, []), (2, 0, 0, 0, 0, []), (6, 14, 0, 0, 0, []), (31, 0, 0, 121, 2, [0, 9, 2]), (2, 0, 0, 0, 0, []), (0, 0, 0, 2, 0, []), (6, 1, 0, 0, 0, []), (20, 0, 0, 24, 1, []), (6, 11, 0, 0, 0, []), (21, 0, 0, 30, 0, []), (0, 0, 0, 2, 0, []), (6, 2, 0, 0, 0, []), (20, 0, 0, 29, 1, []), (6, 12, 0, 0, 0, []), (21, 0, 0, 30, 0, []), (6, 13, 0, 0, 0, []), (31, 0, 0, 121, 2, [0, 9, 2]), (2, 0, 0, 0, 0, []), (0, 0, 0, 1, 0, []), (31, 0, 0, 122, 2, [1, 9, 2]), (3, 0, 0, 3, 0, []), (0, 0, 0, 2, 0, []), (6, 3, 0, 0, 0, []), (31, 0, 0, 118, 2, [1, 0, 2]), (19, 0, 0, 50, 0, []), (0, 0, 0, 2, 0, []), (6, 4, 0, 0, 0, []), (20, 0, 0, 47, 1, []), (0, 0, 0, 3, 0, []), (10, 0, 0, 0, 0, []), (6, 100, 0, 0, 0, []), (8, 0, 0, 0, 1, []), (21, 0, 0, 49, 0, []), (0, 0, 0, 3, 0, []), (10, 0, 0, 0, 0, []), (32, 0, 0, 0, 0, []), (2, 0, 0, 0, 0, []), (0, 0, 0, 1, 0, []), (31, 0, 0, 123, 2, [1, 9, 5]), (3, 0, 0, 4, 0, []), (0, 0, 0, 2, 0, []), (6, 1, 0, 0, 0, []), (20, 0, 0, 61, 1, []), (0, 0, 0, 3, 0, []), (0, 0, 0, 4, 0, []), (8, 0, 0, 0, 0, []), (21, 0, 0, 64, 0, []), (0, 0, 0, 3, 0, []), (0, 0, 0, 4, 0, []), (8, 0, 0, 0, 1, []), (32, 0, 0, 0, 0, [])]
/-- RailOfHeadsModel.ask.(II)I -/
def mx_p125 : List mx_Op := [(45, 0, 0, 0, 0, [1, 1, 1]), (2, 0, 0, 0, 0, []), (6, 0, 0, 0, 0, []), (24, 0, 0, 8, 0, []), (2, 0, 0, 0, 0, []), (0, 0, 0, 1, 0, []), (31, 0, 0, 116, 2, [1, 9, 2]), (19, 0, 0, 14, 0, []), (0, 0, 0, 2, 0, []), (14, 0, 0, 0, 0, []), (7, 0, 0, 0, 0, []), (7, 0, 1, 1, 0, []), (31, 0, 0, 115, 3, [1, 0, 6]), (19, 0, 0, 16, 1, []), (6, (-1000001), 0, 0, 0, []), (32, 0, 0, 0, 0, []), (2, 0, 0, 0, 0, []), (6, 0, 0, 0, 0, []), (24, 0, 0, 8, 32, []), (0, 0, 0, 2, 0, []), (19, 0, 0, 25, 1, []), (2, 0, 0, 0, 0, []), (0, 0, 0, 1, 0, []), (31, 0, 0, 124, 2, [1, 9, 5]), (21, 0, 0, 28, 0, []), (2, 0, 0, 0, 0, []), (0, 0, 0, 1, 0, []), (31, 0, 0, 123, 2, [1, 9, 5]), (32, 0, 0, 0, 0, [])]
/-- RailOfHeadsModel.bad.(I)V -/
def mx_p126 : List mx_Op := [(45, 0, 0, 0, 0, [1, 1]), (2, 0, 0, 0, 0, []), (23, 0, 0, 8, 18, []), (19, 0, 0, 11, 1, []), (2, 0, 0, 0, 0, []), (0, 0, 0, 1, 0, []), (24, 0, 0, 8, 18, []), (2, 0, 0, 0, 0, []), (2, 0, 0, 0, 0, []), (23, 0, 0, 8, 16, []), (24, 0, 0, 8, 19, []), (34, 0, 0, 0, 0, [])]
/-- RailOfHeadsModel.byteAt.(I)I -/
def mx_p127 : List mx_Op := [(45, 0, 0, 0, 0, [1, 1]), (0, 0, 0, 1, 0, []), (2, 0, 0, 0, 0, []), (23, 0, 0, 8, 13, []), (20, 0, 0, 10, 3, []), (2, 0, 0, 0, 0, []), (23, 0, 0, 8, 10, []), (0, 0, 0, 1, 0, []), (25, 0, 0, 0, 0, []), (21, 0, 0, 11, 0, []), (6, (-1000000), 0, 0, 0, []), (32, 0, 0, 0, 0, [])]
/-- RailOfHeadsModel.isLetter.(I)Z -/
def mx_p128 : List mx_Op := [(45, 0, 0, 0, 0, [1]), (0, 0, 0, 0, 0, []), (6, 97, 0, 0, 0, []), (20, 0, 0, 9, 2, []), (0, 0, 0, 0, 0, []), (6, 122, 0, 0, 0, []), (20, 0, 0, 9, 4, []), (6, 1, 0, 0, 0, []), (21, 0, 0, 10, 0, []), (6, 0, 0, 0, 0, []), (32, 0, 0, 0, 1, [])]
/-- RailOfHeadsModel.isFigure.(I)Z -/
def mx_p129 : List mx_Op := [(45, 0, 0, 0, 0, [1]), (0, 0, 0, 0, 0, []), (6, 48, 0, 0, 0, []), (20, 0, 0, 9, 2, []), (0, 0, 0, 0, 0, []), (6, 57, 0, 0, 0, []), (20, 0, 0, 9, 4, []), (6, 1, 0, 0, 0, []), (21, 0, 0, 10, 0, []), (6, 0, 0, 0, 0, []), (32, 0, 0, 0, 1, [])]
/-- RailOfHeadsModel.next.()V -/
def mx_p130 : List mx_Op := [(45, 0, 0, 0, 0, [1, 1]), (2, 0, 0, 0, 0, []), (2, 0, 0, 0, 0, []), (23, 0, 0, 8, 14, []), (31, 0, 0, 127, 2, [1, 9, 2]), (6, 32, 0, 0, 0, []), (20, 0, 0, 13, 0, []), (2, 0, 0, 0, 0, []), (2, 0, 0, 0, 0, []), (23, 0, 0, 8, 14, []), (31, 0, 0, 127, 2, [1, 9, 2]), (6, 10, 0, 0, 0, []), (20, 0, 0, 20, 1, []), (2, 0, 0, 0, 0, []), (17, 0, 0, 0, 0, []), (23, 0, 0, 8, 14, []), (6, 1, 0, 0, 0, []), (8, 0, 0, 0, 0, []), (24, 0, 0, 8, 14, []), (21, 0, 0, 0, 0, []), (2, 0, 0, 0, 0, []), (2, 0, 0, 0, 0, []), (23, 0, 0, 8, 14, []), (24, 0, 0, 8, 16, []), (2, 0, 0, 0, 0, []), (2, 0, 0, 0, 0, []), (23, 0, 0, 8, 14, []), (31, 0, 0, 127, 2, [1, 9, 2]), (3, 0, 0, 1, 0, []), (0, 0, 0, 1, 0, []), (6, (-1000000), 0, 0, 0, []), (20, 0, 0, 36, 1, []), (2, 0, 0, 0, 0, []), (6, 1, 0, 0, 0, []), (24, 0, 0, 8, 15, []), (21, 0, 0, 101, 0, []), (0, 0, 0, 1, 0, []), (31, 0, 0, 128, 1, [1, 0, 1]), (19, 0, 0, 57, 0, []), (45, 0, 0, 39, 0, [1, 0]), (2, 0, 0, 0, 0, []), (2, 0, 0, 0, 0, []), (23, 0, 0, 8, 14, []), (31, 0, 0, 127, 2, [1, 9, 2]), (31, 0, 0, 128, 1, [1, 0, 1]), (19, 0, 0, 53, 0, []), (2, 0, 0, 0, 0, []), (17, 0, 0, 0, 0, []), (23, 0, 0, 8, 14, []), (6, 1, 0, 0, 0, []), (8, 0, 0, 0, 0, []), (24, 0, 0, 8, 14, []), (21, 0, 0, 39, 0, []), (2, 0, 0, 0, 0, []), (6, 2, 0, 0, 0, []), (24, 0, 0, 8, 15, []), (21, 0, 0, 101, 0, []), (0, 0, 0, 1, 0, []), (31, 0, 0, 129, 1, [1, 0, 1]), (19, 0, 0, 87, 0, []), (45, 0, 0, 60, 0, [1, 0]), (2, 0, 0, 0, 0, []), (2, 0, 0, 0, 0, []), (23, 0, 0, 8, 14, []), (31, 0, 0, 127, 2, [1, 9, 2]), (31, 0, 0, 129, 1, [1, 0, 1]), (19, 0, 0, 74, 0, []), (2, 0, 0, 0, 0, []), (17, 0, 0, 0, 0, []), (23, 0, 0, 8, 14, []), (6, 1, 0, 0, 0, []), (8, 0, 0, 0, 0, []), (24, 0, 0, 8, 14, []), (21, 0, 0, 60, 0, []), (2, 0, 0, 0, 0, []), (2, 0, 0, 0, 0, []), (23, 0, 0, 8, 14, []), (2, 0, 0, 0, 0, []), (23, 0, 0, 8, 16, []), (8, 0, 0, 0, 1, []), (6, 3, 0, 0, 0, []), (20, 0, 0, 84, 5, []), (6, 0, 0, 0, 0, []), (21, 0, 0, 85, 0, []), (6, 3, 0, 0, 0, []), (24, 0, 0, 8, 15, []), (21, 0, 0, 101, 0, []), (2, 0, 0, 0, 0, []), (17, 0, 0, 0, 0, []), (23, 0, 0, 8, 14, []), (6, 1, 0, 0, 0, []), (8, 0, 0, 0, 0, []), (24, 0, 0, 8, 14, []), (2, 0, 0, 0, 0, []), (0, 0, 0, 1, 0, []), (6, 59, 0, 0, 0, []), (20, 0, 0, 99, 1, []), (6, 4, 0, 0, 0, []), (21, 0, 0, 100, 0, []), (6, 0, 0, 0, 0, []), (24, 0, 0, 8, 15, []), (2, 0, 0, 0, 0, []), (2, 0, 0, 0, 0, []), (23, 0, 0, 8, 14, []), (24, 0, 0, 8, 17, []), (34, 0, 0, 0, 0, [])]
/-- RailOfHeadsModel.begin.()V -/
def mx_p131 : List mx_Op := [(45, 0, 0, 0, 0, [1]), (2, 0, 0, 0, 0, []), (2, 0, 0, 0, 0, []), (23, 0, 0, 8, 11, []), (24, 0, 0, 8, 13, []), (2, 0, 0, 0, 0, []), (6, 0, 0, 0, 0, []), (24, 0, 0, 8, 11, []), (2, 0, 0, 0, 0, []), (6, 0, 0, 0, 0, []), (24, 0, 0, 8, 14, []), (2, 0, 0, 0, 0, []), (6, 0, 0, 0, 0, []), (24, 0, 0, 8, 18, []), (2, 0, 0, 0, 0, []), (31, 0, 0, 130, 1, [0, 9, 2]), (34, 0, 0, 0, 0, [])]
/-- RailOfHeadsModel.must.(Z)V -/
def mx_p132 : List mx_Op := [(45, 0, 0, 0, 0, [1, 1]), (0, 0, 0, 1, 0, []), (19, 0, 0, 6, 1, []), (2, 0, 0, 0, 0, []), (6, 1, 0, 0, 0, []), (31, 0, 0, 126, 2, [0, 9, 2]), (2, 0, 0, 0, 0, []), (23, 0, 0, 8, 18, []), (19, 0, 0, 11, 1, []), (2, 0, 0, 0, 0, []), (31, 0, 0, 130, 1, [0, 9, 2]), (34, 0, 0, 0, 0, [])]
/-- RailOfHeadsModel.begins.(II)V -/
def mx_p133 : List mx_Op := [(45, 0, 0, 0, 0, [1, 1, 1]), (2, 0, 0, 0, 0, []), (23, 0, 0, 8, 6, []), (0, 0, 0, 1, 0, []), (25, 0, 0, 0, 0, []), (0, 0, 0, 2, 0, []), (20, 0, 0, 10, 1, []), (2, 0, 0, 0, 0, []), (6, 3, 0, 0, 0, []), (31, 0, 0, 126, 2, [0, 9, 2]), (2, 0, 0, 0, 0, []), (6, 1, 0, 0, 0, []), (31, 0, 0, 132, 2, [0, 9, 2]), (34, 0, 0, 0, 0, [])]
/-- RailOfHeadsModel.opens.([I)V -/
def mx_p134 : List mx_Op := [(45, 0, 0, 0, 0, [1, 1, 1]), (6, 0, 0, 0, 0, []), (3, 0, 0, 2, 0, []), (45, 0, 0, 3, 0, [1, 1, 1]), (0, 0, 0, 2, 0, []), (6, 421, 0, 0, 0, []), (20, 0, 0, 13, 3, []), (2, 0, 0, 1, 0, []), (0, 0, 0, 2, 0, []), (6, 0, 0, 0, 0, []), (26, 0, 0, 0, 0, []), (16, 1, 0, 2, 0, []), (21, 0, 0, 3, 0, []), (6, 0, 0, 0, 0, []), (3, 0, 0, 2, 0, []), (45, 0, 0, 15, 0, [1, 1, 1]), (0, 0, 0, 2, 0, []), (2, 0, 0, 0, 0, []), (23, 0, 0, 8, 5, []), (6, 6, 0, 0, 0, []), (25, 0, 0, 0, 0, []), (20, 0, 0, 59, 3, []), (2, 0, 0, 1, 0, []), (6, 14, 0, 0, 0, []), (0, 0, 0, 2, 0, []), (8, 0, 0, 0, 2, []), (6, 0, 0, 0, 0, []), (8, 0, 0, 0, 0, []), (6, (-1), 0, 0, 0, []), (26, 0, 0, 0, 0, []), (2, 0, 0, 1, 0, []), (6, 14, 0, 0, 0, []), (0, 0, 0, 2, 0, []), (8, 0, 0, 0, 2, []), (6, 1, 0, 0, 0, []), (8, 0, 0, 0, 0, []), (2, 0, 0, 0, 0, []), (0, 0, 0, 2, 0, []), (6, 3, 0, 0, 0, []), (31, 0, 0, 111, 3, [1, 9, 3]), (26, 0, 0, 0, 0, []), (2, 0, 0, 1, 0, []), (6, 14, 0, 0, 0, []), (0, 0, 0, 2, 0, []), (8, 0, 0, 0, 2, []), (6, 3, 0, 0, 0, []), (8, 0, 0, 0, 0, []), (2, 0, 0, 0, 0, []), (23, 0, 0, 8, 23, []), (19, 0, 0, 52, 3, []), (6, 0, 0, 0, 0, []), (21, 0, 0, 56, 0, []), (6, 1, 0, 0, 0, []), (2, 0, 0, 0, 0, []), (23, 0, 0, 8, 23, []), (8, 0, 0, 0, 5, []), (26, 0, 0, 0, 0, []), (16, 1, 0, 2, 0, []), (21, 0, 0, 15, 0, []), (34, 0, 0, 0, 0, [])]
/-- RailOfHeadsModel.inRoom.([II)I -/
def mx_p135 : List mx_Op := [(45, 0, 0, 0, 0, [1, 1, 1, 1, 1]), (6, 0, 0, 0, 0, []), (3, 0, 0, 3, 0, []), (6, 0, 0, 0, 0, []), (3, 0, 0, 4, 0, []), (45, 0, 0, 5, 0, [1, 1, 1, 1, 1]), (0, 0, 0, 4, 0, []), (2, 0, 0, 0, 0, []), (23, 0, 0, 8, 5, []), (6, 6, 0, 0, 0, []), (25, 0, 0, 0, 0, []), (20, 0, 0, 29, 3, []), (0, 0, 0, 3, 0, []), (2, 0, 0, 1, 0, []), (6, 14, 0, 0, 0, []), (0, 0, 0, 4, 0, []), (8, 0, 0, 0, 2, []), (6, 0, 0, 0, 0, []), (8, 0, 0, 0, 0, []), (25, 0, 0, 0, 0, []), (0, 0, 0, 2, 0, []), (20, 0, 0, 24, 1, []), (6, 1, 0, 0, 0, []), (21, 0, 0, 25, 0, []), (6, 0, 0, 0, 0, []), (8, 0, 0, 0, 0, []), (3, 0, 0, 3, 0, []), (16, 1, 0, 4, 0, []), (21, 0, 0, 5, 0, []), (0, 0, 0, 3, 0, []), (32, 0, 0, 0, 0, [])]
/-- RailOfHeadsModel.holdsOne.([II)Z -/
def mx_p136 : List mx_Op := [(45, 0, 0, 0, 0, [1, 1, 1]), (2, 0, 0, 0, 0, []), (2, 0, 0, 1, 0, []), (0, 0, 0, 2, 0, []), (31, 0, 0, 135, 3, [1, 9, 5]), (2, 0, 0, 0, 0, []), (23, 0, 0, 8, 5, []), (6, 7, 0, 0, 0, []), (0, 0, 0, 2, 0, []), (8, 0, 0, 0, 0, []), (25, 0, 0, 0, 0, []), (20, 0, 0, 14, 3, []), (6, 1, 0, 0, 0, []), (21, 0, 0, 15, 0, []), (6, 0, 0, 0, 0, []), (32, 0, 0, 0, 1, [])]
/-- RailOfHeadsModel.waits.([III)V -/
def mx_p137 : List mx_Op := [(45, 0, 0, 0, 0, [1, 1, 1, 1, 1]), (6, 14, 0, 0, 0, []), (0, 0, 0, 2, 0, []), (8, 0, 0, 0, 2, []), (3, 0, 0, 4, 0, []), (2, 0, 0, 1, 0, []), (0, 0, 0, 4, 0, []), (6, 5, 0, 0, 0, []), (8, 0, 0, 0, 0, []), (6, 3, 0, 0, 0, []), (26, 0, 0, 0, 0, []), (2, 0, 0, 1, 0, []), (0, 0, 0, 4, 0, []), (6, 1, 0, 0, 0, []), (8, 0, 0, 0, 0, []), (25, 0, 0, 0, 0, []), (19, 0, 0, 27, 5, []), (2, 0, 0, 1, 0, []), (0, 0, 0, 4, 0, []), (6, 1, 0, 0, 0, []), (8, 0, 0, 0, 0, []), (18, 0, 0, 0, 0, []), (25, 0, 0, 0, 0, []), (6, 1, 0, 0, 0, []), (8, 0, 0, 0, 1, []), (26, 0, 0, 0, 0, []), (21, 0, 0, 58, 0, []), (0, 0, 0, 3, 0, []), (19, 0, 0, 36, 3, []), (2, 0, 0, 1, 0, []), (0, 0, 0, 4, 0, []), (6, 0, 0, 0, 0, []), (8, 0, 0, 0, 0, []), (6, (-2), 0, 0, 0, []), (26, 0, 0, 0, 0, []), (21, 0, 0, 58, 0, []), (2, 0, 0, 1, 0, []), (0, 0, 0, 4, 0, []), (6, 3, 0, 0, 0, []), (8, 0, 0, 0, 0, []), (18, 0, 0, 0, 0, []), (25, 0, 0, 0, 0, []), (6, 1, 0, 0, 0, []), (0, 0, 0, 3, 0, []), (8, 0, 0, 0, 5, []), (8, 0, 0, 0, 4, []), (26, 0, 0, 0, 0, []), (2, 0, 0, 1, 0, []), (0, 0, 0, 4, 0, []), (6, 4, 0, 0, 0, []), (8, 0, 0, 0, 0, []), (18, 0, 0, 0, 0, []), (25, 0, 0, 0, 0, []), (6, 1, 0, 0, 0, []), (0, 0, 0, 3, 0, []), (8, 0, 0, 0, 5, []), (8, 0, 0, 0, 4, []), (26, 0, 0, 0, 0, []), (34, 0, 0, 0, 0, [])]
/-- RailOfHeadsModel.enters.([IIII)V -/
def mx_p138 : List mx_Op := [(45, 0, 0, 0, 0, [1, 1, 1, 1, 1]), (2, 0, 0, 0, 0, []), (2, 0, 0, 1, 0, []), (0, 0, 0, 3, 0, []), (31, 0, 0, 136, 3, [1, 9, 3]), (19, 0, 0, 15, 0, []), (2, 0, 0, 1, 0, []), (6, 14, 0, 0, 0, []), (0, 0, 0, 2, 0, []), (8, 0, 0, 0, 2, []), (6, 0, 0, 0, 0, []), (8, 0, 0, 0, 0, []), (0, 0, 0, 3, 0, []), (26, 0, 0, 0, 0, []), (21, 0, 0, 20, 0, []), (2, 0, 0, 0, 0, []), (2, 0, 0, 1, 0, []), (0, 0, 0, 2, 0, []), (0, 0, 0, 4, 0, []), (31, 0, 0, 137, 4, [0, 9, 5]), (34, 0, 0, 0, 0, [])]
/-- RailOfHeadsModel.looks.([III)V -/
def mx_p139 : List mx_Op := [(45, 0, 0, 0, 0, [1, 1, 1, 1, 1, 1, 1, 1, 1]), (6, 14, 0, 0, 0, []), (0, 0, 0, 2, 0, []), (8, 0, 0, 0, 2, []), (3, 0, 0, 4, 0, []), (2, 0, 0, 0, 0, []), (23, 0, 0, 8, 5, []), (6, 40, 0, 0, 0, []), (6, 2, 0, 0, 0, []), (0, 0, 0, 3, 0, []), (8, 0, 0, 0, 2, []), (8, 0, 0, 0, 0, []), (6, 1, 0, 0, 0, []), (8, 0, 0, 0, 0, []), (25, 0, 0, 0, 0, []), (3, 0, 0, 5, 0, []), (2, 0, 0, 0, 0, []), (23, 0, 0, 8, 24, []), (0, 0, 0, 3, 0, []), (25, 0, 0, 0, 0, []), (2, 0, 0, 0, 0, []), (23, 0, 0, 8, 5, []), (6, 0, 0, 0, 0, []), (25, 0, 0, 0, 0, []), (20, 0, 0, 27, 3, []), (6, 1, 0, 0, 0, []), (21, 0, 0, 28, 0, []), (6, 0, 0, 0, 0, []), (3, 0, 0, 6, 0, []), (45, 0, 0, 29, 0, [1, 1, 0, 1, 1, 1, 1, 0, 0]), (2, 0, 0, 0, 0, []), (23, 0, 0, 8, 24, []), (0, 0, 0, 3, 0, []), (18, 0, 0, 0, 0, []), (25, 0, 0, 0, 0, []), (6, 1, 0, 0, 0, []), (8, 0, 0, 0, 0, []), (26, 0, 0, 0, 0, []), (2, 0, 0, 1, 0, []), (0, 0, 0, 4, 0, []), (6, 5, 0, 0, 0, []), (8, 0, 0, 0, 0, []), (0, 0, 0, 6, 0, []), (19, 0, 0, 46, 0, []), (6, 1, 0, 0, 0, []), (21, 0, 0, 47, 0, []), (6, 2, 0, 0, 0, []), (26, 0, 0, 0, 0, []), (2, 0, 0, 1, 0, []), (0, 0, 0, 4, 0, []), (6, 2, 0, 0, 0, []), (8, 0, 0, 0, 0, []), (18, 0, 0, 0, 0, []), (25, 0, 0, 0, 0, []), (0, 0, 0, 6, 0, []), (19, 0, 0, 58, 0, []), (6, 10, 0, 0, 0, []), (21, 0, 0, 59, 0, []), (6, 4, 0, 0, 0, []), (0, 0, 0, 5, 0, []), (8, 0, 0, 0, 2, []), (8, 0, 0, 0, 0, []), (26, 0, 0, 0, 0, []), (2, 0, 0, 1, 0, []), (0, 0, 0, 4, 0, []), (6, 6, 0, 0, 0, []), (8, 0, 0, 0, 0, []), (0, 0, 0, 3, 0, []), (8, 0, 0, 0, 0, []), (18, 0, 0, 0, 0, []), (25, 0, 0, 0, 0, []), (6, 1, 0, 0, 0, []), (8, 0, 0, 0, 0, []), (26, 0, 0, 0, 0, []), (2, 0, 0, 1, 0, []), (0, 0, 0, 4, 0, []), (6, 6, 0, 0, 0, []), (8, 0, 0, 0, 0, []), (0, 0, 0, 3, 0, []), (8, 0, 0, 0, 0, []), (25, 0, 0, 0, 0, []), (3, 0, 0, 7, 0, []), (45, 0, 0, 82, 0, [1, 1, 0, 1, 1, 1, 0, 1, 0]), (0, 0, 0, 7, 0, []), (6, 2, 0, 0, 0, []), (0, 0, 0, 5, 0, []), (6, 10, 0, 0, 0, []), (9, 0, 0, 0, 0, []), (8, 0, 0, 0, 0, []), (0, 0, 0, 3, 0, []), (2, 0, 0, 0, 0, []), (23, 0, 0, 8, 22, []), (20, 0, 0, 95, 1, []), (6, 1, 0, 0, 0, []), (21, 0, 0, 96, 0, []), (6, 0, 0, 0, 0, []), (8, 0, 0, 0, 1, []), (20, 0, 0, 100, 2, []), (6, 1, 0, 0, 0, []), (21, 0, 0, 101, 0, []), (6, 0, 0, 0, 0, []), (3, 0, 0, 8, 0, []), (0, 0, 0, 8, 0, []), (19, 0, 0, 115, 1, []), (2, 0, 0, 0, 0, []), (23, 0, 0, 8, 5, []), (6, 1, 0, 0, 0, []), (25, 0, 0, 0, 0, []), (19, 0, 0, 126, 5, []), (0, 0, 0, 7, 0, []), (2, 0, 0, 0, 0, []), (23, 0, 0, 8, 5, []), (6, 1, 0, 0, 0, []), (25, 0, 0, 0, 0, []), (20, 0, 0, 126, 2, []), (2, 0, 0, 1, 0, []), (0, 0, 0, 4, 0, []), (6, 3, 0, 0, 0, []), (8, 0, 0, 0, 0, []), (18, 0, 0, 0, 0, []), (25, 0, 0, 0, 0, []), (6, 1, 0, 0, 0, []), (0, 0, 0, 3, 0, []), (8, 0, 0, 0, 5, []), (8, 0, 0, 0, 4, []), (26, 0, 0, 0, 0, []), (34, 0, 0, 0, 0, [])]
/-- RailOfHeadsModel.leads.(III)Z -/
def mx_p140 : List mx_Op := [(45, 0, 0, 0, 0, [1, 1, 1, 1, 1]), (6, 13, 0, 0, 0, []), (6, 3, 0, 0, 0, []), (0, 0, 0, 1, 0, []), (8, 0, 0, 0, 2, []), (8, 0, 0, 0, 0, []), (3, 0, 0, 4, 0, []), (2, 0, 0, 0, 0, []), (23, 0, 0, 8, 5, []), (0, 0, 0, 4, 0, []), (25, 0, 0, 0, 0, []), (0, 0, 0, 2, 0, []), (20, 0, 0, 21, 1, []), (2, 0, 0, 0, 0, []), (23, 0, 0, 8, 5, []), (0, 0, 0, 4, 0, []), (6, 1, 0, 0, 0, []), (8, 0, 0, 0, 0, []), (25, 0, 0, 0, 0, []), (0, 0, 0, 3, 0, []), (20, 0, 0, 42, 0, []), (2, 0, 0, 0, 0, []), (23, 0, 0, 8, 5, []), (0, 0, 0, 4, 0, []), (6, 2, 0, 0, 0, []), (8, 0, 0, 0, 0, []), (25, 0, 0, 0, 0, []), (19, 0, 0, 44, 1, []), (2, 0, 0, 0, 0, []), (23, 0, 0, 8, 5, []), (0, 0, 0, 4, 0, []), (25, 0, 0, 0, 0, []), (0, 0, 0, 3, 0, []), (20, 0, 0, 44, 1, []), (2, 0, 0, 0, 0, []), (23, 0, 0, 8, 5, []), (0, 0, 0, 4, 0, []), (6, 1, 0, 0, 0, []), (8, 0, 0, 0, 0, []), (25, 0, 0, 0, 0, []), (0, 0, 0, 2, 0, []), (20, 0, 0, 44, 1, []), (6, 1, 0, 0, 0, []), (21, 0, 0, 45, 0, []), (6, 0, 0, 0, 0, []), (32, 0, 0, 0, 1, [])]
/-- RailOfHeadsModel.nextRoom.(II)I -/
def mx_p141 : List mx_Op := [(45, 0, 0, 0, 0, [1, 1, 1, 1, 1, 1, 1]), (6, (-1000000), 0, 0, 0, []), (3, 0, 0, 3, 0, []), (6, 0, 0, 0, 0, []), (3, 0, 0, 4, 0, []), (45, 0, 0, 5, 0, [1, 1, 1, 1, 1, 0, 0]), (0, 0, 0, 4, 0, []), (2, 0, 0, 0, 0, []), (23, 0, 0, 8, 5, []), (6, 2, 0, 0, 0, []), (25, 0, 0, 0, 0, []), (20, 0, 0, 81, 3, []), (6, 0, 0, 0, 0, []), (3, 0, 0, 5, 0, []), (6, 0, 0, 0, 0, []), (3, 0, 0, 6, 0, []), (45, 0, 0, 16, 0, [1, 1, 1, 1, 1, 1, 1]), (0, 0, 0, 6, 0, []), (2, 0, 0, 0, 0, []), (23, 0, 0, 8, 5, []), (6, 3, 0, 0, 0, []), (25, 0, 0, 0, 0, []), (20, 0, 0, 37, 3, []), (0, 0, 0, 5, 0, []), (19, 0, 0, 31, 1, []), (2, 0, 0, 0, 0, []), (0, 0, 0, 6, 0, []), (0, 0, 0, 1, 0, []), (0, 0, 0, 4, 0, []), (31, 0, 0, 140, 4, [1, 9, 5]), (19, 0, 0, 33, 0, []), (6, 1, 0, 0, 0, []), (21, 0, 0, 34, 0, []), (6, 0, 0, 0, 0, []), (3, 0, 0, 5, 0, []), (16, 1, 0, 6, 0, []), (21, 0, 0, 16, 0, []), (0, 0, 0, 5, 0, []), (19, 0, 0, 51, 0, []), (2, 0, 0, 0, 0, []), (23, 0, 0, 8, 20, []), (6, 6, 0, 0, 0, []), (0, 0, 0, 4, 0, []), (8, 0, 0, 0, 2, []), (0, 0, 0, 2, 0, []), (8, 0, 0, 0, 0, []), (25, 0, 0, 0, 0, []), (6, (-1000000), 0, 0, 0, []), (20, 0, 0, 51, 0, []), (6, 1, 0, 0, 0, []), (21, 0, 0, 52, 0, []), (6, 0, 0, 0, 0, []), (3, 0, 0, 6, 0, []), (0, 0, 0, 6, 0, []), (19, 0, 0, 77, 0, []), (0, 0, 0, 3, 0, []), (6, (-1000000), 0, 0, 0, []), (20, 0, 0, 75, 0, []), (2, 0, 0, 0, 0, []), (23, 0, 0, 8, 20, []), (6, 6, 0, 0, 0, []), (0, 0, 0, 4, 0, []), (8, 0, 0, 0, 2, []), (0, 0, 0, 2, 0, []), (8, 0, 0, 0, 0, []), (25, 0, 0, 0, 0, []), (2, 0, 0, 0, 0, []), (23, 0, 0, 8, 20, []), (6, 6, 0, 0, 0, []), (0, 0, 0, 3, 0, []), (8, 0, 0, 0, 2, []), (0, 0, 0, 2, 0, []), (8, 0, 0, 0, 0, []), (25, 0, 0, 0, 0, []), (20, 0, 0, 77, 3, []), (0, 0, 0, 4, 0, []), (21, 0, 0, 78, 0, []), (0, 0, 0, 3, 0, []), (3, 0, 0, 3, 0, []), (16, 1, 0, 4, 0, []), (21, 0, 0, 5, 0, []), (0, 0, 0, 3, 0, []), (32, 0, 0, 0, 0, [])]
/-- RailOfHeadsModel.goes.([II)V -/
def mx_p142 : List mx_Op := [(45, 0, 0, 0, 0, [1, 1, 1, 1, 1, 1]), (6, 14, 0, 0, 0, []), (0, 0, 0, 2, 0, []), (8, 0, 0, 0, 2, []), (3, 0, 0, 3, 0, []), (2, 0, 0, 1, 0, []), (0, 0, 0, 3, 0, []), (6, 5, 0, 0, 0, []), (8, 0, 0, 0, 0, []), (6, 0, 0, 0, 0, []), (26, 0, 0, 0, 0, []), (2, 0, 0, 1, 0, []), (0, 0, 0, 3, 0, []), (6, 0, 0, 0, 0, []), (8, 0, 0, 0, 0, []), (25, 0, 0, 0, 0, []), (6, (-1), 0, 0, 0, []), (20, 0, 0, 33, 1, []), (2, 0, 0, 0, 0, []), (0, 0, 0, 2, 0, []), (6, 1, 0, 0, 0, []), (31, 0, 0, 111, 3, [1, 9, 3]), (2, 0, 0, 1, 0, []), (6, 420, 0, 0, 0, []), (25, 0, 0, 0, 0, []), (20, 0, 0, 32, 4, []), (2, 0, 0, 0, 0, []), (2, 0, 0, 1, 0, []), (0, 0, 0, 2, 0, []), (6, 0, 0, 0, 0, []), (6, (-1), 0, 0, 0, []), (31, 0, 0, 138, 5, [0, 9, 5]), (34, 0, 0, 0, 0, []), (2, 0, 0, 1, 0, []), (0, 0, 0, 3, 0, []), (6, 0, 0, 0, 0, []), (8, 0, 0, 0, 0, []), (25, 0, 0, 0, 0, []), (6, (-2), 0, 0, 0, []), (20, 0, 0, 42, 1, []), (6, (-1000000), 0, 0, 0, []), (21, 0, 0, 46, 0, []), (2, 0, 0, 0, 0, []), (2, 0, 0, 1, 0, []), (0, 0, 0, 2, 0, []), (31, 0, 0, 114, 3, [1, 9, 10]), (3, 0, 0, 4, 0, []), (0, 0, 0, 4, 0, []), (6, (-1000000), 0, 0, 0, []), (20, 0, 0, 57, 1, []), (2, 0, 0, 1, 0, []), (0, 0, 0, 3, 0, []), (6, 0, 0, 0, 0, []), (8, 0, 0, 0, 0, []), (6, (-2), 0, 0, 0, []), (26, 0, 0, 0, 0, []), (34, 0, 0, 0, 0, []), (2, 0, 0, 0, 0, []), (23, 0, 0, 8, 5, []), (6, 40, 0, 0, 0, []), (6, 2, 0, 0, 0, []), (0, 0, 0, 4, 0, []), (8, 0, 0, 0, 2, []), (8, 0, 0, 0, 0, []), (25, 0, 0, 0, 0, []), (3, 0, 0, 5, 0, []), (0, 0, 0, 5, 0, []), (2, 0, 0, 1, 0, []), (0, 0, 0, 3, 0, []), (6, 0, 0, 0, 0, []), (8, 0, 0, 0, 0, []), (25, 0, 0, 0, 0, []), (20, 0, 0, 79, 1, []), (2, 0, 0, 0, 0, []), (2, 0, 0, 1, 0, []), (0, 0, 0, 2, 0, []), (0, 0, 0, 4, 0, []), (31, 0, 0, 139, 4, [0, 9, 9]), (21, 0, 0, 92, 0, []), (2, 0, 0, 0, 0, []), (2, 0, 0, 1, 0, []), (0, 0, 0, 2, 0, []), (2, 0, 0, 0, 0, []), (2, 0, 0, 1, 0, []), (0, 0, 0, 3, 0, []), (6, 0, 0, 0, 0, []), (8, 0, 0, 0, 0, []), (25, 0, 0, 0, 0, []), (0, 0, 0, 5, 0, []), (31, 0, 0, 141, 3, [1, 9, 7]), (0, 0, 0, 4, 0, []), (31, 0, 0, 138, 5, [0, 9, 5]), (34, 0, 0, 0, 0, [])]
/-- RailOfHeadsModel.minute.([I)V -/
def mx_p143 : List mx_Op := [(45, 0, 0, 0, 0, [1, 1, 1]), (6, 0, 0, 0, 0, []), (3, 0, 0, 2, 0, []), (45, 0, 0, 3, 0, [1, 1, 1]), (0, 0, 0, 2, 0, []), (6, 8, 0, 0, 0, []), (20, 0, 0, 14, 3, []), (2, 0, 0, 0, 0, []), (23, 0, 0, 8, 24, []), (0, 0, 0, 2, 0, []), (6, 0, 0, 0, 0, []), (26, 0, 0, 0, 0, []), (16, 1, 0, 2, 0, []), (21, 0, 0, 3, 0, []), (6, 0, 0, 0, 0, []), (3, 0, 0, 2, 0, []), (45, 0, 0, 16, 0, [1, 1, 1]), (0, 0, 0, 2, 0, []), (2, 0, 0, 0, 0, []), (23, 0, 0, 8, 5, []), (6, 6, 0, 0, 0, []), (25, 0, 0, 0, 0, []), (20, 0, 0, 29, 3, []), (2, 0, 0, 0, 0, []), (2, 0, 0, 1, 0, []), (0, 0, 0, 2, 0, []), (31, 0, 0, 142, 3, [0, 9, 6]), (16, 1, 0, 2, 0, []), (21, 0, 0, 16, 0, []), (2, 0, 0, 1, 0, []), (6, 420, 0, 0, 0, []), (18, 0, 0, 0, 0, []), (25, 0, 0, 0, 0, []), (6, 1, 0, 0, 0, []), (8, 0, 0, 0, 0, []), (26, 0, 0, 0, 0, []), (34, 0, 0, 0, 0, [])]
/-- RailOfHeadsModel.ones.(I)I -/
def mx_p144 : List mx_Op := [(45, 0, 0, 0, 0, [1, 1, 1]), (6, 0, 0, 0, 0, []), (3, 0, 0, 1, 0, []), (6, 0, 0, 0, 0, []), (3, 0, 0, 2, 0, []), (45, 0, 0, 5, 0, [1, 1, 1]), (0, 0, 0, 2, 0, []), (6, 8, 0, 0, 0, []), (20, 0, 0, 19, 3, []), (0, 0, 0, 1, 0, []), (0, 0, 0, 0, 0, []), (0, 0, 0, 2, 0, []), (8, 0, 0, 0, 6, []), (6, 1, 0, 0, 0, []), (8, 0, 0, 0, 3, []), (8, 0, 0, 0, 0, []), (3, 0, 0, 1, 0, []), (16, 1, 0, 2, 0, []), (21, 0, 0, 5, 0, []), (0, 0, 0, 1, 0, []), (32, 0, 0, 0, 0, [])]
/-- RailOfHeadsModel.dayOf.(II)I -/
def mx_p145 : List mx_Op := [(45, 0, 0, 0, 0, [1, 1, 1, 1, 1, 1, 1, 1]), (2, 0, 0, 0, 0, []), (2, 0, 0, 0, 0, []), (23, 0, 0, 8, 9, []), (31, 0, 0, 134, 2, [0, 9, 3]), (6, 0, 0, 0, 0, []), (3, 0, 0, 3, 0, []), (45, 0, 0, 7, 0, [1, 1, 1, 1, 0, 0, 0, 0]), (0, 0, 0, 3, 0, []), (0, 0, 0, 1, 0, []), (20, 0, 0, 17, 3, []), (2, 0, 0, 0, 0, []), (2, 0, 0, 0, 0, []), (23, 0, 0, 8, 9, []), (31, 0, 0, 143, 2, [0, 9, 3]), (16, 1, 0, 3, 0, []), (21, 0, 0, 7, 0, []), (6, 0, 0, 0, 0, []), (3, 0, 0, 3, 0, []), (6, 0, 0, 0, 0, []), (3, 0, 0, 4, 0, []), (6, 0, 0, 0, 0, []), (3, 0, 0, 5, 0, []), (6, 0, 0, 0, 0, []), (3, 0, 0, 6, 0, []), (45, 0, 0, 25, 0, [1, 0, 1, 1, 1, 1, 1, 0]), (0, 0, 0, 6, 0, []), (2, 0, 0, 0, 0, []), (23, 0, 0, 8, 5, []), (6, 6, 0, 0, 0, []), (25, 0, 0, 0, 0, []), (20, 0, 0, 68, 3, []), (2, 0, 0, 0, 0, []), (23, 0, 0, 8, 9, []), (6, 14, 0, 0, 0, []), (0, 0, 0, 6, 0, []), (8, 0, 0, 0, 2, []), (6, 2, 0, 0, 0, []), (8, 0, 0, 0, 0, []), (25, 0, 0, 0, 0, []), (3, 0, 0, 7, 0, []), (0, 0, 0, 3, 0, []), (0, 0, 0, 7, 0, []), (8, 0, 0, 0, 0, []), (3, 0, 0, 3, 0, []), (0, 0, 0, 6, 0, []), (19, 0, 0, 50, 0, []), (0, 0, 0, 7, 0, []), (0, 0, 0, 4, 0, []), (20, 0, 0, 52, 3, []), (0, 0, 0, 7, 0, []), (21, 0, 0, 53, 0, []), (0, 0, 0, 4, 0, []), (3, 0, 0, 4, 0, []), (0, 0, 0, 5, 0, []), (2, 0, 0, 0, 0, []), (23, 0, 0, 8, 9, []), (6, 14, 0, 0, 0, []), (0, 0, 0, 6, 0, []), (8, 0, 0, 0, 2, []), (6, 4, 0, 0, 0, []), (8, 0, 0, 0, 0, []), (25, 0, 0, 0, 0, []), (31, 0, 0, 144, 1, [1, 0, 3]), (8, 0, 0, 0, 0, []), (3, 0, 0, 5, 0, []), (16, 1, 0, 6, 0, []), (21, 0, 0, 25, 0, []), (0, 0, 0, 2, 0, []), (19, 0, 0, 72, 1, []), (0, 0, 0, 3, 0, []), (21, 0, 0, 78, 0, []), (0, 0, 0, 2, 0, []), (6, 1, 0, 0, 0, []), (20, 0, 0, 77, 1, []), (0, 0, 0, 4, 0, []), (21, 0, 0, 78, 0, []), (0, 0, 0, 5, 0, []), (32, 0, 0, 0, 0, [])]
/-- RailOfHeadsModel.bestAt.(IIIII)I -/
def mx_p146 : List mx_Op := [(45, 0, 0, 0, 0, [1, 1, 1, 1, 1, 1, 1, 1, 1, 1, 1]), (2, 0, 0, 0, 0, []), (23, 0, 0, 8, 5, []), (0, 0, 0, 1, 0, []), (25, 0, 0, 0, 0, []), (3, 0, 0, 6, 0, []), (0, 0, 0, 2, 0, []), (3, 0, 0, 7, 0, []), (6, (-1), 0, 0, 0, []), (3, 0, 0, 8, 0, []), (0, 0, 0, 2, 0, []), (3, 0, 0, 9, 0, []), (45, 0, 0, 12, 0, [1, 1, 0, 1, 1, 1, 1, 1, 1, 1, 0]), (0, 0, 0, 9, 0, []), (0, 0, 0, 3, 0, []), (20, 0, 0, 42, 4, []), (2, 0, 0, 0, 0, []), (23, 0, 0, 8, 5, []), (0, 0, 0, 1, 0, []), (0, 0, 0, 9, 0, []), (26, 0, 0, 0, 0, []), (2, 0, 0, 0, 0, []), (0, 0, 0, 4, 0, []), (0, 0, 0, 5, 0, []), (31, 0, 0, 145, 3, [1, 9, 8]), (3, 0, 0, 10, 0, []), (0, 0, 0, 10, 0, []), (0, 0, 0, 8, 0, []), (20, 0, 0, 31, 5, []), (0, 0, 0, 9, 0, []), (21, 0, 0, 32, 0, []), (0, 0, 0, 7, 0, []), (3, 0, 0, 7, 0, []), (0, 0, 0, 10, 0, []), (0, 0, 0, 8, 0, []), (20, 0, 0, 38, 5, []), (0, 0, 0, 10, 0, []), (21, 0, 0, 39, 0, []), (0, 0, 0, 8, 0, []), (3, 0, 0, 8, 0, []), (16, 1, 0, 9, 0, []), (21, 0, 0, 12, 0, []), (2, 0, 0, 0, 0, []), (23, 0, 0, 8, 5, []), (0, 0, 0, 1, 0, []), (0, 0, 0, 6, 0, []), (26, 0, 0, 0, 0, []), (0, 0, 0, 7, 0, []), (32, 0, 0, 0, 0, [])]
/-- RailOfHeadsModel.isLong.(I)Z -/
def mx_p147 : List mx_Op := [(45, 0, 0, 0, 0, [1]), (0, 0, 0, 0, 0, []), (14, 0, 0, 0, 0, []), (7, 0, 1, 1, 0, []), (7, 0, 120, 0, 0, []), (31, 0, 0, 115, 3, [1, 0, 6]), (32, 0, 0, 0, 1, [])]
/-- RailOfHeadsModel.bestRule.(III)I -/
def mx_p148 : List mx_Op := [(45, 0, 0, 0, 0, [1, 1, 1, 1]), (2, 0, 0, 0, 0, []), (6, 0, 0, 0, 0, []), (24, 0, 0, 8, 0, []), (2, 0, 0, 0, 0, []), (23, 0, 0, 8, 7, []), (19, 0, 0, 9, 1, []), (6, (-1000002), 0, 0, 0, []), (32, 0, 0, 0, 0, []), (0, 0, 0, 1, 0, []), (31, 0, 0, 147, 1, [1, 0, 1]), (19, 0, 0, 24, 0, []), (0, 0, 0, 2, 0, []), (14, 0, 0, 0, 0, []), (7, 0, 0, 0, 0, []), (7, 0, 1, 1, 0, []), (31, 0, 0, 115, 3, [1, 0, 6]), (19, 0, 0, 24, 0, []), (0, 0, 0, 3, 0, []), (14, 0, 0, 0, 0, []), (7, 0, 0, 0, 0, []), (7, 0, 1, 1, 0, []), (31, 0, 0, 115, 3, [1, 0, 6]), (19, 0, 0, 26, 1, []), (6, (-1000001), 0, 0, 0, []), (32, 0, 0, 0, 0, []), (0, 0, 0, 2, 0, []), (19, 0, 0, 36, 1, []), (2, 0, 0, 0, 0, []), (6, 0, 0, 0, 0, []), (6, 1, 0, 0, 0, []), (6, 20, 0, 0, 0, []), (0, 0, 0, 1, 0, []), (0, 0, 0, 3, 0, []), (31, 0, 0, 146, 6, [1, 9, 11]), (21, 0, 0, 43, 0, []), (2, 0, 0, 0, 0, []), (6, 1, 0, 0, 0, []), (6, 0, 0, 0, 0, []), (6, 20, 0, 0, 0, []), (0, 0, 0, 1, 0, []), (0, 0, 0, 3, 0, []), (31, 0, 0, 146, 6, [1, 9, 11]), (32, 0, 0, 0, 0, [])]
/-- RailOfHeadsModel.isRow.(I)Z -/
def mx_p149 : List mx_Op := [(45, 0, 0, 0, 0, [1]), (0, 0, 0, 0, 0, []), (14, 0, 0, 0, 0, []), (7, 0, 0, 0, 0, []), (7, 0, 7, 0, 0, []), (31, 0, 0, 115, 3, [1, 0, 6]), (32, 0, 0, 0, 1, [])]
/-- RailOfHeadsModel.copy.(IIIII)I -/
def mx_p150 : List mx_Op := [(45, 0, 0, 0, 0, [1, 1, 1, 1, 1, 1, 1, 1, 1]), (2, 0, 0, 0, 0, []), (6, 0, 0, 0, 0, []), (24, 0, 0, 8, 0, []), (0, 0, 0, 1, 0, []), (31, 0, 0, 149, 1, [1, 0, 1]), (19, 0, 0, 10, 0, []), (0, 0, 0, 3, 0, []), (31, 0, 0, 149, 1, [1, 0, 1]), (19, 0, 0, 12, 1, []), (6, (-1000001), 0, 0, 0, []), (32, 0, 0, 0, 0, []), (2, 0, 0, 0, 0, []), (6, 0, 0, 0, 0, []), (24, 0, 0, 8, 1, []), (2, 0, 0, 0, 0, []), (23, 0, 0, 8, 2, []), (0, 0, 0, 1, 0, []), (25, 0, 0, 0, 0, []), (19, 0, 0, 25, 2, []), (2, 0, 0, 0, 0, []), (23, 0, 0, 8, 2, []), (0, 0, 0, 3, 0, []), (25, 0, 0, 0, 0, []), (19, 0, 0, 29, 3, []), (2, 0, 0, 0, 0, []), (6, 1, 0, 0, 0, []), (31, 0, 0, 119, 2, [1, 9, 2]), (32, 0, 0, 0, 0, []), (2, 0, 0, 0, 0, []), (23, 0, 0, 8, 2, []), (0, 0, 0, 1, 0, []), (25, 0, 0, 0, 0, []), (2, 0, 0, 0, 0, []), (23, 0, 0, 8, 2, []), (0, 0, 0, 3, 0, []), (25, 0, 0, 0, 0, []), (20, 0, 0, 42, 0, []), (2, 0, 0, 0, 0, []), (6, 5, 0, 0, 0, []), (31, 0, 0, 119, 2, [1, 9, 2]), (32, 0, 0, 0, 0, []), (0, 0, 0, 2, 0, []), (19, 0, 0, 72, 2, []), (0, 0, 0, 4, 0, []), (19, 0, 0, 72, 2, []), (0, 0, 0, 5, 0, []), (19, 0, 0, 72, 2, []), (0, 0, 0, 2, 0, []), (14, 0, 0, 0, 0, []), (0, 0, 0, 5, 0, []), (14, 0, 0, 0, 0, []), (11, 0, 0, 0, 0, []), (2, 0, 0, 0, 0, []), (23, 0, 0, 8, 3, []), (0, 0, 0, 1, 0, []), (25, 0, 0, 0, 0, []), (14, 0, 0, 0, 0, []), (13, 0, 0, 0, 0, []), (19, 0, 0, 72, 4, []), (0, 0, 0, 4, 0, []), (14, 0, 0, 0, 0, []), (0, 0, 0, 5, 0, []), (14, 0, 0, 0, 0, []), (11, 0, 0, 0, 0, []), (2, 0, 0, 0, 0, []), (23, 0, 0, 8, 3, []), (0, 0, 0, 3, 0, []), (25, 0, 0, 0, 0, []), (14, 0, 0, 0, 0, []), (13, 0, 0, 0, 0, []), (19, 0, 0, 76, 5, []), (2, 0, 0, 0, 0, []), (6, 2, 0, 0, 0, []), (31, 0, 0, 119, 2, [1, 9, 2]), (32, 0, 0, 0, 0, []), (0, 0, 0, 2, 0, []), (0, 0, 0, 4, 0, []), (20, 0, 0, 81, 2, []), (6, 1, 0, 0, 0, []), (21, 0, 0, 82, 0, []), (6, 0, 0, 0, 0, []), (3, 0, 0, 6, 0, []), (6, 0, 0, 0, 0, []), (3, 0, 0, 7, 0, []), (45, 0, 0, 85, 0, [1, 1, 1, 1, 1, 1, 1, 1, 0]), (0, 0, 0, 7, 0, []), (0, 0, 0, 5, 0, []), (20, 0, 0, 121, 3, []), (0, 0, 0, 6, 0, []), (19, 0, 0, 93, 0, []), (0, 0, 0, 7, 0, []), (21, 0, 0, 98, 0, []), (0, 0, 0, 5, 0, []), (6, 1, 0, 0, 0, []), (8, 0, 0, 0, 1, []), (0, 0, 0, 7, 0, []), (8, 0, 0, 0, 1, []), (3, 0, 0, 8, 0, []), (2, 0, 0, 0, 0, []), (23, 0, 0, 8, 4, []), (6, 40, 0, 0, 0, []), (0, 0, 0, 3, 0, []), (8, 0, 0, 0, 2, []), (0, 0, 0, 4, 0, []), (8, 0, 0, 0, 0, []), (0, 0, 0, 8, 0, []), (8, 0, 0, 0, 0, []), (2, 0, 0, 0, 0, []), (23, 0, 0, 8, 4, []), (6, 40, 0, 0, 0, []), (0, 0, 0, 1, 0, []), (8, 0, 0, 0, 2, []), (0, 0, 0, 2, 0, []), (8, 0, 0, 0, 0, []), (0, 0, 0, 8, 0, []), (8, 0, 0, 0, 0, []), (25, 0, 0, 0, 0, []), (26, 0, 0, 0, 0, []), (16, 1, 0, 7, 0, []), (21, 0, 0, 85, 0, []), (0, 0, 0, 5, 0, []), (32, 0, 0, 0, 0, [])]
/-- RailOfHeadsModel.count.(I)I -/
def mx_p151 : List mx_Op := [(45, 0, 0, 0, 0, [1, 1, 1, 1]), (2, 0, 0, 0, 0, []), (6, 0, 0, 0, 0, []), (24, 0, 0, 8, 0, []), (6, 0, 0, 0, 0, []), (3, 0, 0, 2, 0, []), (0, 0, 0, 1, 0, []), (22, 0, 0, 75, 0, [8, 29, 29, 29, 29, 29, 38, 43, 72]), (6, 0, 0, 0, 0, []), (3, 0, 0, 3, 0, []), (45, 0, 0, 10, 0, [1, 0, 1, 1]), (0, 0, 0, 3, 0, []), (6, 8, 0, 0, 0, []), (20, 0, 0, 27, 3, []), (0, 0, 0, 2, 0, []), (2, 0, 0, 0, 0, []), (23, 0, 0, 8, 2, []), (0, 0, 0, 3, 0, []), (25, 0, 0, 0, 0, []), (19, 0, 0, 22, 2, []), (6, 1, 0, 0, 0, []), (21, 0, 0, 23, 0, []), (6, 0, 0, 0, 0, []), (8, 0, 0, 0, 0, []), (3, 0, 0, 2, 0, []), (16, 1, 0, 3, 0, []), (21, 0, 0, 10, 0, []), (0, 0, 0, 2, 0, []), (32, 0, 0, 0, 0, []), (2, 0, 0, 0, 0, []), (23, 0, 0, 8, 5, []), (6, 2, 0, 0, 0, []), (0, 0, 0, 1, 0, []), (8, 0, 0, 0, 0, []), (6, 1, 0, 0, 0, []), (8, 0, 0, 0, 1, []), (25, 0, 0, 0, 0, []), (32, 0, 0, 0, 0, []), (2, 0, 0, 0, 0, []), (23, 0, 0, 8, 8, []), (6, 420, 0, 0, 0, []), (25, 0, 0, 0, 0, []), (32, 0, 0, 0, 0, []), (6, 0, 0, 0, 0, []), (3, 0, 0, 3, 0, []), (45, 0, 0, 45, 0, [1, 0, 1, 1]), (0, 0, 0, 3, 0, []), (2, 0, 0, 0, 0, []), (23, 0, 0, 8, 5, []), (6, 6, 0, 0, 0, []), (25, 0, 0, 0, 0, []), (20, 0, 0, 70, 3, []), (0, 0, 0, 2, 0, []), (2, 0, 0, 0, 0, []), (23, 0, 0, 8, 8, []), (6, 14, 0, 0, 0, []), (0, 0, 0, 3, 0, []), (8, 0, 0, 0, 2, []), (6, 0, 0, 0, 0, []), (8, 0, 0, 0, 0, []), (25, 0, 0, 0, 0, []), (6, (-2), 0, 0, 0, []), (20, 0, 0, 65, 1, []), (6, 1, 0, 0, 0, []), (21, 0, 0, 66, 0, []), (6, 0, 0, 0, 0, []), (8, 0, 0, 0, 0, []), (3, 0, 0, 2, 0, []), (16, 1, 0, 3, 0, []), (21, 0, 0, 45, 0, []), (0, 0, 0, 2, 0, []), (32, 0, 0, 0, 0, []), (2, 0, 0, 0, 0, []), (23, 0, 0, 8, 11, []), (32, 0, 0, 0, 0, []), (6, (-1000001), 0, 0, 0, []), (32, 0, 0, 0, 0, [])]
/-- RailOfHeadsModel.isRoom.(I)Z -/
def mx_p152 : List mx_Op := [(45, 0, 0, 0, 0, [1, 1]), (0, 0, 0, 1, 0, []), (14, 0, 0, 0, 0, []), (7, 0, 0, 0, 0, []), (2, 0, 0, 0, 0, []), (23, 0, 0, 8, 5, []), (6, 2, 0, 0, 0, []), (25, 0, 0, 0, 0, []), (6, 1, 0, 0, 0, []), (8, 0, 0, 0, 1, []), (14, 0, 0, 0, 0, []), (31, 0, 0, 115, 3, [1, 0, 6]), (32, 0, 0, 0, 1, [])]
/-- RailOfHeadsModel.offBy.(III)I -/
def mx_p153 : List mx_Op := [(45, 0, 0, 0, 0, [1, 1, 1, 1, 1, 1, 1]), (2, 0, 0, 0, 0, []), (2, 0, 0, 0, 0, []), (23, 0, 0, 8, 9, []), (31, 0, 0, 134, 2, [0, 9, 3]), (6, 0, 0, 0, 0, []), (3, 0, 0, 4, 0, []), (6, 0, 0, 0, 0, []), (3, 0, 0, 5, 0, []), (45, 0, 0, 9, 0, [1, 1, 1, 1, 1, 1, 0]), (0, 0, 0, 5, 0, []), (0, 0, 0, 3, 0, []), (20, 0, 0, 41, 3, []), (2, 0, 0, 0, 0, []), (2, 0, 0, 0, 0, []), (23, 0, 0, 8, 9, []), (31, 0, 0, 143, 2, [0, 9, 3]), (2, 0, 0, 0, 0, []), (2, 0, 0, 0, 0, []), (23, 0, 0, 8, 9, []), (0, 0, 0, 1, 0, []), (31, 0, 0, 135, 3, [1, 9, 5]), (2, 0, 0, 0, 0, []), (23, 0, 0, 8, 4, []), (0, 0, 0, 2, 0, []), (0, 0, 0, 5, 0, []), (8, 0, 0, 0, 0, []), (25, 0, 0, 0, 0, []), (8, 0, 0, 0, 1, []), (3, 0, 0, 6, 0, []), (0, 0, 0, 4, 0, []), (0, 0, 0, 6, 0, []), (19, 0, 0, 36, 3, []), (0, 0, 0, 6, 0, []), (10, 0, 0, 0, 0, []), (21, 0, 0, 37, 0, []), (0, 0, 0, 6, 0, []), (8, 0, 0, 0, 0, []), (3, 0, 0, 4, 0, []), (16, 1, 0, 5, 0, []), (21, 0, 0, 9, 0, []), (0, 0, 0, 4, 0, []), (32, 0, 0, 0, 0, [])]
/-- RailOfHeadsModel.counts.(IIII)I -/
def mx_p154 : List mx_Op := [(45, 0, 0, 0, 0, [1, 1, 1, 1, 1, 1, 1, 1, 1]), (2, 0, 0, 0, 0, []), (6, 0, 0, 0, 0, []), (24, 0, 0, 8, 0, []), (2, 0, 0, 0, 0, []), (0, 0, 0, 1, 0, []), (31, 0, 0, 152, 2, [1, 9, 2]), (19, 0, 0, 17, 0, []), (0, 0, 0, 2, 0, []), (31, 0, 0, 149, 1, [1, 0, 1]), (19, 0, 0, 17, 0, []), (0, 0, 0, 4, 0, []), (14, 0, 0, 0, 0, []), (7, 0, 1, 1, 0, []), (7, 0, 40, 0, 0, []), (31, 0, 0, 115, 3, [1, 0, 6]), (19, 0, 0, 19, 1, []), (6, (-1000001), 0, 0, 0, []), (32, 0, 0, 0, 0, []), (2, 0, 0, 0, 0, []), (23, 0, 0, 8, 2, []), (0, 0, 0, 2, 0, []), (25, 0, 0, 0, 0, []), (19, 0, 0, 28, 3, []), (2, 0, 0, 0, 0, []), (6, 1, 0, 0, 0, []), (31, 0, 0, 119, 2, [1, 9, 2]), (32, 0, 0, 0, 0, []), (0, 0, 0, 3, 0, []), (19, 0, 0, 42, 2, []), (0, 0, 0, 3, 0, []), (14, 0, 0, 0, 0, []), (0, 0, 0, 4, 0, []), (14, 0, 0, 0, 0, []), (11, 0, 0, 0, 0, []), (2, 0, 0, 0, 0, []), (23, 0, 0, 8, 3, []), (0, 0, 0, 2, 0, []), (25, 0, 0, 0, 0, []), (14, 0, 0, 0, 0, []), (13, 0, 0, 0, 0, []), (19, 0, 0, 46, 5, []), (2, 0, 0, 0, 0, []), (6, 2, 0, 0, 0, []), (31, 0, 0, 119, 2, [1, 9, 2]), (32, 0, 0, 0, 0, []), (6, 0, 0, 0, 0, []), (3, 0, 0, 5, 0, []), (45, 0, 0, 48, 0, [1, 1, 1, 1, 1, 1, 0, 0, 0]), (0, 0, 0, 5, 0, []), (0, 0, 0, 4, 0, []), (20, 0, 0, 71, 3, []), (2, 0, 0, 0, 0, []), (23, 0, 0, 8, 4, []), (6, 40, 0, 0, 0, []), (0, 0, 0, 2, 0, []), (8, 0, 0, 0, 2, []), (0, 0, 0, 3, 0, []), (8, 0, 0, 0, 0, []), (0, 0, 0, 5, 0, []), (8, 0, 0, 0, 0, []), (25, 0, 0, 0, 0, []), (14, 0, 0, 0, 0, []), (7, 0, 0, 0, 0, []), (7, 0, 30, 0, 0, []), (31, 0, 0, 115, 3, [1, 0, 6]), (19, 0, 0, 69, 1, []), (6, (-1000001), 0, 0, 0, []), (32, 0, 0, 0, 0, []), (16, 1, 0, 5, 0, []), (21, 0, 0, 48, 0, []), (2, 0, 0, 0, 0, []), (6, 0, 0, 0, 0, []), (24, 0, 0, 8, 1, []), (6, 0, 0, 0, 0, []), (3, 0, 0, 5, 0, []), (6, 0, 0, 0, 0, []), (3, 0, 0, 6, 0, []), (6, 0, 0, 0, 0, []), (3, 0, 0, 7, 0, []), (45, 0, 0, 80, 0, [1, 1, 1, 1, 1, 1, 1, 1, 0]), (0, 0, 0, 7, 0, []), (6, 3, 0, 0, 0, []), (20, 0, 0, 117, 3, []), (2, 0, 0, 0, 0, []), (0, 0, 0, 7, 0, []), (24, 0, 0, 8, 21, []), (2, 0, 0, 0, 0, []), (0, 0, 0, 1, 0, []), (6, 40, 0, 0, 0, []), (0, 0, 0, 2, 0, []), (8, 0, 0, 0, 2, []), (0, 0, 0, 3, 0, []), (8, 0, 0, 0, 0, []), (0, 0, 0, 4, 0, []), (31, 0, 0, 153, 4, [1, 9, 7]), (3, 0, 0, 8, 0, []), (0, 0, 0, 7, 0, []), (19, 0, 0, 102, 0, []), (0, 0, 0, 8, 0, []), (0, 0, 0, 6, 0, []), (20, 0, 0, 104, 3, []), (0, 0, 0, 7, 0, []), (21, 0, 0, 105, 0, []), (0, 0, 0, 5, 0, []), (3, 0, 0, 5, 0, []), (0, 0, 0, 7, 0, []), (19, 0, 0, 111, 0, []), (0, 0, 0, 8, 0, []), (0, 0, 0, 6, 0, []), (20, 0, 0, 113, 3, []), (0, 0, 0, 8, 0, []), (21, 0, 0, 114, 0, []), (0, 0, 0, 6, 0, []), (3, 0, 0, 6, 0, []), (16, 1, 0, 7, 0, []), (21, 0, 0, 80, 0, []), (2, 0, 0, 0, 0, []), (6, (-1), 0, 0, 0, []), (24, 0, 0, 8, 21, []), (0, 0, 0, 5, 0, []), (32, 0, 0, 0, 0, [])]
/-- RailOfHeadsModel.drop.(I)I -/
def mx_p155 : List mx_Op := [(45, 0, 0, 0, 0, [1, 1]), (2, 0, 0, 0, 0, []), (6, 0, 0, 0, 0, []), (24, 0, 0, 8, 0, []), (0, 0, 0, 1, 0, []), (31, 0, 0, 149, 1, [1, 0, 1]), (19, 0, 0, 9, 1, []), (6, (-1000001), 0, 0, 0, []), (32, 0, 0, 0, 0, []), (2, 0, 0, 0, 0, []), (6, 0, 0, 0, 0, []), (24, 0, 0, 8, 1, []), (2, 0, 0, 0, 0, []), (23, 0, 0, 8, 2, []), (0, 0, 0, 1, 0, []), (25, 0, 0, 0, 0, []), (19, 0, 0, 21, 3, []), (2, 0, 0, 0, 0, []), (6, 1, 0, 0, 0, []), (31, 0, 0, 119, 2, [1, 9, 2]), (32, 0, 0, 0, 0, []), (2, 0, 0, 0, 0, []), (23, 0, 0, 8, 2, []), (0, 0, 0, 1, 0, []), (6, (-1), 0, 0, 0, []), (26, 0, 0, 0, 0, []), (2, 0, 0, 0, 0, []), (23, 0, 0, 8, 3, []), (0, 0, 0, 1, 0, []), (25, 0, 0, 0, 0, []), (32, 0, 0, 0, 0, [])]
/-- RailOfHeadsModel.far.(II)I -/
def mx_p156 : List mx_Op := [(45, 0, 0, 0, 0, [1, 1, 1]), (2, 0, 0, 0, 0, []), (6, 0, 0, 0, 0, []), (24, 0, 0, 8, 0, []), (2, 0, 0, 0, 0, []), (0, 0, 0, 1, 0, []), (31, 0, 0, 152, 2, [1, 9, 2]), (19, 0, 0, 21, 0, []), (2, 0, 0, 0, 0, []), (0, 0, 0, 2, 0, []), (31, 0, 0, 152, 2, [1, 9, 2]), (19, 0, 0, 21, 0, []), (2, 0, 0, 0, 0, []), (23, 0, 0, 8, 20, []), (6, 6, 0, 0, 0, []), (0, 0, 0, 1, 0, []), (8, 0, 0, 0, 2, []), (0, 0, 0, 2, 0, []), (8, 0, 0, 0, 0, []), (25, 0, 0, 0, 0, []), (21, 0, 0, 22, 0, []), (6, (-1000001), 0, 0, 0, []), (32, 0, 0, 0, 0, [])]
/-- RailOfHeadsModel.fault.()I -/
def mx_p157 : List mx_Op := [(45, 0, 0, 0, 0, [1]), (2, 0, 0, 0, 0, []), (6, 0, 0, 0, 0, []), (24, 0, 0, 8, 0, []), (2, 0, 0, 0, 0, []), (23, 0, 0, 8, 12, []), (32, 0, 0, 0, 0, [])]
/-- RailOfHeadsModel.feed.(JI)I -/
def mx_p158 : List mx_Op := [(45, 0, 0, 0, 0, [1, 1, 1, 1, 1]), (2, 0, 0, 0, 0, []), (6, 0, 0, 0, 0, []), (24, 0, 0, 8, 0, []), (0, 0, 0, 3, 0, []), (14, 0, 0, 0, 0, []), (7, 0, 1, 1, 0, []), (7, 0, 8, 0, 0, []), (31, 0, 0, 115, 3, [1, 0, 6]), (19, 0, 0, 12, 1, []), (6, (-1000001), 0, 0, 0, []), (32, 0, 0, 0, 0, []), (2, 0, 0, 0, 0, []), (23, 0, 0, 8, 11, []), (0, 0, 0, 3, 0, []), (8, 0, 0, 0, 0, []), (6, 400, 0, 0, 0, []), (20, 0, 0, 20, 5, []), (6, (-1000003), 0, 0, 0, []), (32, 0, 0, 0, 0, []), (0, 0, 0, 3, 0, []), (6, 1, 0, 0, 0, []), (8, 0, 0, 0, 1, []), (3, 0, 0, 4, 0, []), (45, 0, 0, 24, 0, [1, 1, 0, 0, 1]), (0, 0, 0, 4, 0, []), (19, 0, 0, 48, 2, []), (2, 0, 0, 0, 0, []), (23, 0, 0, 8, 10, []), (2, 0, 0, 0, 0, []), (23, 0, 0, 8, 11, []), (1, 0, 0, 1, 0, []), (6, 8, 0, 0, 0, []), (0, 0, 0, 4, 0, []), (8, 0, 0, 0, 2, []), (12, 0, 0, 0, 1, []), (7, 0, 255, 0, 0, []), (11, 0, 0, 0, 1, []), (15, 0, 0, 0, 0, []), (26, 0, 0, 0, 0, []), (2, 0, 0, 0, 0, []), (17, 0, 0, 0, 0, []), (23, 0, 0, 8, 11, []), (6, 1, 0, 0, 0, []), (8, 0, 0, 0, 0, []), (24, 0, 0, 8, 11, []), (16, (-1), 0, 4, 0, []), (21, 0, 0, 24, 0, []), (2, 0, 0, 0, 0, []), (23, 0, 0, 8, 11, []), (32, 0, 0, 0, 0, [])]
/-- RailOfHeadsModel.figures.()I -/
def mx_p159 : List mx_Op := [(45, 0, 0, 0, 0, [1, 1, 1]), (6, 0, 0, 0, 0, []), (3, 0, 0, 1, 0, []), (2, 0, 0, 0, 0, []), (23, 0, 0, 8, 16, []), (3, 0, 0, 2, 0, []), (45, 0, 0, 6, 0, [1, 1, 1]), (0, 0, 0, 2, 0, []), (2, 0, 0, 0, 0, []), (23, 0, 0, 8, 17, []), (20, 0, 0, 28, 3, []), (2, 0, 0, 0, 0, []), (23, 0, 0, 8, 15, []), (6, 3, 0, 0, 0, []), (20, 0, 0, 28, 1, []), (6, 10, 0, 0, 0, []), (0, 0, 0, 1, 0, []), (8, 0, 0, 0, 2, []), (2, 0, 0, 0, 0, []), (23, 0, 0, 8, 10, []), (0, 0, 0, 2, 0, []), (25, 0, 0, 0, 0, []), (8, 0, 0, 0, 0, []), (6, 48, 0, 0, 0, []), (8, 0, 0, 0, 1, []), (3, 0, 0, 1, 0, []), (16, 1, 0, 2, 0, []), (21, 0, 0, 6, 0, []), (0, 0, 0, 1, 0, []), (32, 0, 0, 0, 0, [])]
/-- RailOfHeadsModel.fire.()I -/
def mx_p160 : List mx_Op := [(45, 0, 0, 0, 0, [1, 1, 1, 1, 1]), (2, 0, 0, 0, 0, []), (6, 0, 0, 0, 0, []), (24, 0, 0, 8, 0, []), (2, 0, 0, 0, 0, []), (23, 0, 0, 8, 7, []), (19, 0, 0, 9, 1, []), (6, (-1000002), 0, 0, 0, []), (32, 0, 0, 0, 0, []), (6, 0, 0, 0, 0, []), (3, 0, 0, 1, 0, []), (6, 0, 0, 0, 0, []), (3, 0, 0, 2, 0, []), (45, 0, 0, 13, 0, [1, 1, 1, 0, 0]), (0, 0, 0, 2, 0, []), (2, 0, 0, 0, 0, []), (23, 0, 0, 8, 5, []), (6, 6, 0, 0, 0, []), (25, 0, 0, 0, 0, []), (20, 0, 0, 58, 3, []), (2, 0, 0, 0, 0, []), (23, 0, 0, 8, 8, []), (6, 14, 0, 0, 0, []), (0, 0, 0, 2, 0, []), (8, 0, 0, 0, 2, []), (6, 0, 0, 0, 0, []), (8, 0, 0, 0, 0, []), (25, 0, 0, 0, 0, []), (3, 0, 0, 3, 0, []), (0, 0, 0, 3, 0, []), (19, 0, 0, 33, 3, []), (6, (-1), 0, 0, 0, []), (21, 0, 0, 39, 0, []), (2, 0, 0, 0, 0, []), (23, 0, 0, 8, 20, []), (6, 6, 0, 0, 0, []), (0, 0, 0, 3, 0, []), (8, 0, 0, 0, 2, []), (25, 0, 0, 0, 0, []), (3, 0, 0, 4, 0, []), (0, 0, 0, 4, 0, []), (6, (-1000000), 0, 0, 0, []), (20, 0, 0, 45, 1, []), (6, (-1000000), 0, 0, 0, []), (32, 0, 0, 0, 0, []), (0, 0, 0, 4, 0, []), (6, 1, 0, 0, 0, []), (8, 0, 0, 0, 0, []), (0, 0, 0, 1, 0, []), (20, 0, 0, 54, 5, []), (0, 0, 0, 4, 0, []), (6, 1, 0, 0, 0, []), (8, 0, 0, 0, 0, []), (21, 0, 0, 55, 0, []), (0, 0, 0, 1, 0, []), (3, 0, 0, 1, 0, []), (16, 1, 0, 2, 0, []), (21, 0, 0, 13, 0, []), (0, 0, 0, 1, 0, []), (32, 0, 0, 0, 0, [])]
/-- RailOfHeadsModel.go.(I)I -/
def mx_p161 : List mx_Op := [(45, 0, 0, 0, 0, [1, 1, 1]), (2, 0, 0, 0, 0, []), (6, 0, 0, 0, 0, []), (24, 0, 0, 8, 0, []), (2, 0, 0, 0, 0, []), (23, 0, 0, 8, 7, []), (19, 0, 0, 9, 1, []), (6, (-1000002), 0, 0, 0, []), (32, 0, 0, 0, 0, []), (0, 0, 0, 1, 0, []), (14, 0, 0, 0, 0, []), (7, 0, 1, 1, 0, []), (7, 0, 60, 0, 0, []), (31, 0, 0, 115, 3, [1, 0, 6]), (19, 0, 0, 17, 1, []), (6, (-1000001), 0, 0, 0, []), (32, 0, 0, 0, 0, []), (6, 0, 0, 0, 0, []), (3, 0, 0, 2, 0, []), (45, 0, 0, 19, 0, [1, 1, 1]), (0, 0, 0, 2, 0, []), (0, 0, 0, 1, 0, []), (20, 0, 0, 29, 3, []), (2, 0, 0, 0, 0, []), (2, 0, 0, 0, 0, []), (23, 0, 0, 8, 8, []), (31, 0, 0, 143, 2, [0, 9, 3]), (16, 1, 0, 2, 0, []), (21, 0, 0, 19, 0, []), (2, 0, 0, 0, 0, []), (23, 0, 0, 8, 8, []), (6, 420, 0, 0, 0, []), (25, 0, 0, 0, 0, []), (32, 0, 0, 0, 0, [])]
/-- RailOfHeadsModel.hang.(II)V -/
def mx_p162 : List mx_Op := [(45, 0, 0, 0, 0, [1, 1, 1, 1, 1]), (6, 0, 0, 0, 0, []), (3, 0, 0, 3, 0, []), (45, 0, 0, 3, 0, [1, 1, 1, 1, 0]), (0, 0, 0, 3, 0, []), (0, 0, 0, 1, 0, []), (20, 0, 0, 28, 3, []), (2, 0, 0, 0, 0, []), (23, 0, 0, 8, 5, []), (6, 40, 0, 0, 0, []), (6, 2, 0, 0, 0, []), (0, 0, 0, 3, 0, []), (8, 0, 0, 0, 2, []), (8, 0, 0, 0, 0, []), (2, 0, 0, 0, 0, []), (23, 0, 0, 8, 6, []), (6, 40, 0, 0, 0, []), (6, 2, 0, 0, 0, []), (2, 0, 0, 0, 0, []), (23, 0, 0, 8, 25, []), (0, 0, 0, 3, 0, []), (25, 0, 0, 0, 0, []), (8, 0, 0, 0, 2, []), (8, 0, 0, 0, 0, []), (25, 0, 0, 0, 0, []), (26, 0, 0, 0, 0, []), (16, 1, 0, 3, 0, []), (21, 0, 0, 3, 0, []), (2, 0, 0, 0, 0, []), (0, 0, 0, 2, 0, []), (6, 0, 0, 0, 0, []), (31, 0, 0, 145, 3, [1, 9, 8]), (3, 0, 0, 3, 0, []), (6, 0, 0, 0, 0, []), (3, 0, 0, 4, 0, []), (45, 0, 0, 35, 0, [1, 1, 0, 1, 1]), (0, 0, 0, 4, 0, []), (0, 0, 0, 1, 0, []), (20, 0, 0, 53, 3, []), (0, 0, 0, 3, 0, []), (2, 0, 0, 0, 0, []), (23, 0, 0, 8, 27, []), (20, 0, 0, 53, 5, []), (2, 0, 0, 0, 0, []), (23, 0, 0, 8, 26, []), (0, 0, 0, 4, 0, []), (2, 0, 0, 0, 0, []), (23, 0, 0, 8, 25, []), (0, 0, 0, 4, 0, []), (25, 0, 0, 0, 0, []), (26, 0, 0, 0, 0, []), (16, 1, 0, 4, 0, []), (21, 0, 0, 35, 0, []), (2, 0, 0, 0, 0, []), (0, 0, 0, 3, 0, []), (2, 0, 0, 0, 0, []), (23, 0, 0, 8, 27, []), (20, 0, 0, 60, 5, []), (0, 0, 0, 3, 0, []), (21, 0, 0, 62, 0, []), (2, 0, 0, 0, 0, []), (23, 0, 0, 8, 27, []), (24, 0, 0, 8, 27, []), (34, 0, 0, 0, 0, [])]
/-- RailOfHeadsModel.name.()J -/
def mx_p163 : List mx_Op := [(45, 0, 0, 0, 0, [1, 1, 1, 1]), (7, 0, 0, 0, 0, []), (4, 0, 0, 1, 0, []), (2, 0, 0, 0, 0, []), (23, 0, 0, 8, 16, []), (3, 0, 0, 3, 0, []), (45, 0, 0, 6, 0, [1, 1, 0, 1]), (0, 0, 0, 3, 0, []), (2, 0, 0, 0, 0, []), (23, 0, 0, 8, 17, []), (20, 0, 0, 34, 3, []), (2, 0, 0, 0, 0, []), (23, 0, 0, 8, 15, []), (6, 2, 0, 0, 0, []), (20, 0, 0, 34, 1, []), (2, 0, 0, 0, 0, []), (23, 0, 0, 8, 17, []), (2, 0, 0, 0, 0, []), (23, 0, 0, 8, 16, []), (8, 0, 0, 0, 1, []), (6, 8, 0, 0, 0, []), (20, 0, 0, 34, 3, []), (1, 0, 0, 1, 0, []), (6, 8, 0, 0, 0, []), (12, 0, 0, 0, 0, []), (2, 0, 0, 0, 0, []), (23, 0, 0, 8, 10, []), (0, 0, 0, 3, 0, []), (25, 0, 0, 0, 0, []), (14, 0, 0, 0, 0, []), (11, 0, 0, 0, 2, []), (4, 0, 0, 1, 0, []), (16, 1, 0, 3, 0, []), (21, 0, 0, 6, 0, []), (2, 0, 0, 0, 0, []), (23, 0, 0, 8, 18, []), (19, 0, 0, 39, 1, []), (1, 0, 0, 1, 0, []), (21, 0, 0, 40, 0, []), (7, 0, 0, 0, 0, []), (33, 0, 0, 0, 0, [])]
/-- RailOfHeadsModel.number.(II)I -/
def mx_p164 : List mx_Op := [(45, 0, 0, 0, 0, [1, 1, 1, 1]), (2, 0, 0, 0, 0, []), (23, 0, 0, 8, 18, []), (19, 0, 0, 6, 5, []), (6, 0, 0, 0, 0, []), (32, 0, 0, 0, 0, []), (2, 0, 0, 0, 0, []), (31, 0, 0, 159, 1, [1, 9, 3]), (3, 0, 0, 3, 0, []), (2, 0, 0, 0, 0, []), (23, 0, 0, 8, 15, []), (6, 3, 0, 0, 0, []), (20, 0, 0, 24, 1, []), (0, 0, 0, 3, 0, []), (14, 0, 0, 0, 0, []), (0, 0, 0, 1, 0, []), (14, 0, 0, 0, 0, []), (0, 0, 0, 2, 0, []), (14, 0, 0, 0, 0, []), (31, 0, 0, 115, 3, [1, 0, 6]), (19, 0, 0, 24, 1, []), (2, 0, 0, 0, 0, []), (6, 2, 0, 0, 0, []), (31, 0, 0, 126, 2, [0, 9, 2]), (2, 0, 0, 0, 0, []), (2, 0, 0, 0, 0, []), (23, 0, 0, 8, 15, []), (6, 3, 0, 0, 0, []), (20, 0, 0, 31, 1, []), (6, 1, 0, 0, 0, []), (21, 0, 0, 32, 0, []), (6, 0, 0, 0, 0, []), (31, 0, 0, 132, 2, [0, 9, 2]), (0, 0, 0, 3, 0, []), (32, 0, 0, 0, 0, [])]
/-- RailOfHeadsModel.mustEnd.()V -/
def mx_p165 : List mx_Op := [(45, 0, 0, 0, 0, [1]), (2, 0, 0, 0, 0, []), (23, 0, 0, 8, 18, []), (19, 0, 0, 13, 1, []), (2, 0, 0, 0, 0, []), (2, 0, 0, 0, 0, []), (23, 0, 0, 8, 15, []), (6, 4, 0, 0, 0, []), (20, 0, 0, 11, 1, []), (6, 1, 0, 0, 0, []), (21, 0, 0, 12, 0, []), (6, 0, 0, 0, 0, []), (31, 0, 0, 132, 2, [0, 9, 2]), (34, 0, 0, 0, 0, [])]
/-- RailOfHeadsModel.readRail.()V -/
def mx_p166 : List mx_Op := [(45, 0, 0, 0, 0, [1]), (2, 0, 0, 0, 0, []), (2, 0, 0, 0, 0, []), (31, 0, 0, 163, 1, [2, 9, 4]), (7, 0, 1918986604, 0, 0, []), (13, 0, 0, 0, 0, []), (19, 0, 0, 9, 1, []), (6, 1, 0, 0, 0, []), (21, 0, 0, 10, 0, []), (6, 0, 0, 0, 0, []), (31, 0, 0, 132, 2, [0, 9, 2]), (2, 0, 0, 0, 0, []), (23, 0, 0, 8, 6, []), (6, 0, 0, 0, 0, []), (2, 0, 0, 0, 0, []), (6, 1, 0, 0, 0, []), (6, 20, 0, 0, 0, []), (31, 0, 0, 164, 3, [1, 9, 4]), (26, 0, 0, 0, 0, []), (2, 0, 0, 0, 0, []), (23, 0, 0, 8, 6, []), (6, 1, 0, 0, 0, []), (2, 0, 0, 0, 0, []), (6, 0, 0, 0, 0, []), (6, 20, 0, 0, 0, []), (31, 0, 0, 164, 3, [1, 9, 4]), (26, 0, 0, 0, 0, []), (2, 0, 0, 0, 0, []), (31, 0, 0, 165, 1, [0, 9, 1]), (34, 0, 0, 0, 0, [])]
/-- RailOfHeadsModel.mustBegin.(J)V -/
def mx_p167 : List mx_Op := [(45, 0, 0, 0, 0, [1, 1, 1]), (2, 0, 0, 0, 0, []), (31, 0, 0, 163, 1, [2, 9, 4]), (1, 0, 0, 1, 0, []), (13, 0, 0, 0, 0, []), (19, 0, 0, 9, 0, []), (2, 0, 0, 0, 0, []), (6, 1, 0, 0, 0, []), (31, 0, 0, 126, 2, [0, 9, 2]), (34, 0, 0, 0, 0, [])]
/-- RailOfHeadsModel.readRoom.()V -/
def mx_p168 : List mx_Op := [(45, 0, 0, 0, 0, [1, 1]), (2, 0, 0, 0, 0, []), (6, 2, 0, 0, 0, []), (6, 6, 0, 0, 0, []), (31, 0, 0, 133, 3, [0, 9, 3]), (2, 0, 0, 0, 0, []), (6, 1, 0, 0, 0, []), (6, 40, 0, 0, 0, []), (31, 0, 0, 164, 3, [1, 9, 4]), (3, 0, 0, 1, 0, []), (2, 0, 0, 0, 0, []), (31, 0, 0, 165, 1, [0, 9, 1]), (2, 0, 0, 0, 0, []), (23, 0, 0, 8, 18, []), (19, 0, 0, 33, 1, []), (2, 0, 0, 0, 0, []), (23, 0, 0, 8, 6, []), (6, 7, 0, 0, 0, []), (2, 0, 0, 0, 0, []), (23, 0, 0, 8, 6, []), (6, 2, 0, 0, 0, []), (25, 0, 0, 0, 0, []), (8, 0, 0, 0, 0, []), (0, 0, 0, 1, 0, []), (26, 0, 0, 0, 0, []), (2, 0, 0, 0, 0, []), (23, 0, 0, 8, 6, []), (6, 2, 0, 0, 0, []), (18, 0, 0, 0, 0, []), (25, 0, 0, 0, 0, []), (6, 1, 0, 0, 0, []), (8, 0, 0, 0, 0, []), (26, 0, 0, 0, 0, []), (34, 0, 0, 0, 0, [])]
/-- RailOfHeadsModel.readDoor.()V -/
def mx_p169 : List mx_Op := [(45, 0, 0, 0, 0, [1, 1, 1, 1, 1]), (2, 0, 0, 0, 0, []), (6, 3, 0, 0, 0, []), (6, 9, 0, 0, 0, []), (31, 0, 0, 133, 3, [0, 9, 3]), (2, 0, 0, 0, 0, []), (6, 0, 0, 0, 0, []), (2, 0, 0, 0, 0, []), (23, 0, 0, 8, 6, []), (6, 2, 0, 0, 0, []), (25, 0, 0, 0, 0, []), (6, 1, 0, 0, 0, []), (8, 0, 0, 0, 1, []), (31, 0, 0, 164, 3, [1, 9, 4]), (3, 0, 0, 1, 0, []), (2, 0, 0, 0, 0, []), (23, 0, 0, 8, 18, []), (19, 0, 0, 29, 1, []), (2, 0, 0, 0, 0, []), (23, 0, 0, 8, 15, []), (6, 3, 0, 0, 0, []), (20, 0, 0, 29, 1, []), (2, 0, 0, 0, 0, []), (31, 0, 0, 159, 1, [1, 9, 3]), (0, 0, 0, 1, 0, []), (20, 0, 0, 29, 1, []), (2, 0, 0, 0, 0, []), (6, 2, 0, 0, 0, []), (31, 0, 0, 126, 2, [0, 9, 2]), (2, 0, 0, 0, 0, []), (6, 0, 0, 0, 0, []), (2, 0, 0, 0, 0, []), (23, 0, 0, 8, 6, []), (6, 2, 0, 0, 0, []), (25, 0, 0, 0, 0, []), (6, 1, 0, 0, 0, []), (8, 0, 0, 0, 1, []), (31, 0, 0, 164, 3, [1, 9, 4]), (3, 0, 0, 2, 0, []), (2, 0, 0, 0, 0, []), (31, 0, 0, 163, 1, [2, 9, 4]), (7, 0, 7302757, 0, 0, []), (13, 0, 0, 0, 0, []), (19, 0, 0, 46, 1, []), (6, 1, 0, 0, 0, []), (21, 0, 0, 47, 0, []), (6, 0, 0, 0, 0, []), (3, 0, 0, 3, 0, []), (0, 0, 0, 3, 0, []), (19, 0, 0, 53, 0, []), (2, 0, 0, 0, 0, []), (6, 1, 0, 0, 0, []), (31, 0, 0, 132, 2, [0, 9, 2]), (2, 0, 0, 0, 0, []), (31, 0, 0, 165, 1, [0, 9, 1]), (2, 0, 0, 0, 0, []), (23, 0, 0, 8, 18, []), (19, 0, 0, 98, 1, []), (6, 13, 0, 0, 0, []), (6, 3, 0, 0, 0, []), (2, 0, 0, 0, 0, []), (23, 0, 0, 8, 6, []), (6, 3, 0, 0, 0, []), (25, 0, 0, 0, 0, []), (8, 0, 0, 0, 2, []), (8, 0, 0, 0, 0, []), (3, 0, 0, 4, 0, []), (2, 0, 0, 0, 0, []), (23, 0, 0, 8, 6, []), (0, 0, 0, 4, 0, []), (0, 0, 0, 1, 0, []), (26, 0, 0, 0, 0, []), (2, 0, 0, 0, 0, []), (23, 0, 0, 8, 6, []), (0, 0, 0, 4, 0, []), (6, 1, 0, 0, 0, []), (8, 0, 0, 0, 0, []), (0, 0, 0, 2, 0, []), (26, 0, 0, 0, 0, []), (2, 0, 0, 0, 0, []), (23, 0, 0, 8, 6, []), (0, 0, 0, 4, 0, []), (6, 2, 0, 0, 0, []), (8, 0, 0, 0, 0, []), (0, 0, 0, 3, 0, []), (19, 0, 0, 88, 0, []), (6, 1, 0, 0, 0, []), (21, 0, 0, 89, 0, []), (6, 0, 0, 0, 0, []), (26, 0, 0, 0, 0, []), (2, 0, 0, 0, 0, []), (23, 0, 0, 8, 6, []), (6, 3, 0, 0, 0, []), (18, 0, 0, 0, 0, []), (25, 0, 0, 0, 0, []), (6, 1, 0, 0, 0, []), (8, 0, 0, 0, 0, []), (26, 0, 0, 0, 0, []), (34, 0, 0, 0, 0, [])]
/-- RailOfHeadsModel.readPicture.()V -/
def mx_p170 : List mx_Op := [(45, 0, 0, 0, 0, [1, 1, 1]), (2, 0, 0, 0, 0, []), (6, 4, 0, 0, 0, []), (6, 8, 0, 0, 0, []), (31, 0, 0, 133, 3, [0, 9, 3]), (2, 0, 0, 0, 0, []), (6, 0, 0, 0, 0, []), (2, 0, 0, 0, 0, []), (23, 0, 0, 8, 6, []), (6, 2, 0, 0, 0, []), (25, 0, 0, 0, 0, []), (6, 1, 0, 0, 0, []), (8, 0, 0, 0, 1, []), (31, 0, 0, 164, 3, [1, 9, 4]), (3, 0, 0, 1, 0, []), (2, 0, 0, 0, 0, []), (6, 1, 0, 0, 0, []), (6, 60, 0, 0, 0, []), (31, 0, 0, 164, 3, [1, 9, 4]), (3, 0, 0, 2, 0, []), (2, 0, 0, 0, 0, []), (31, 0, 0, 165, 1, [0, 9, 1]), (2, 0, 0, 0, 0, []), (23, 0, 0, 8, 18, []), (19, 0, 0, 59, 1, []), (2, 0, 0, 0, 0, []), (23, 0, 0, 8, 6, []), (6, 40, 0, 0, 0, []), (6, 2, 0, 0, 0, []), (2, 0, 0, 0, 0, []), (23, 0, 0, 8, 6, []), (6, 4, 0, 0, 0, []), (25, 0, 0, 0, 0, []), (8, 0, 0, 0, 2, []), (8, 0, 0, 0, 0, []), (0, 0, 0, 1, 0, []), (26, 0, 0, 0, 0, []), (2, 0, 0, 0, 0, []), (23, 0, 0, 8, 6, []), (6, 40, 0, 0, 0, []), (6, 2, 0, 0, 0, []), (2, 0, 0, 0, 0, []), (23, 0, 0, 8, 6, []), (6, 4, 0, 0, 0, []), (25, 0, 0, 0, 0, []), (8, 0, 0, 0, 2, []), (8, 0, 0, 0, 0, []), (6, 1, 0, 0, 0, []), (8, 0, 0, 0, 0, []), (0, 0, 0, 2, 0, []), (26, 0, 0, 0, 0, []), (2, 0, 0, 0, 0, []), (23, 0, 0, 8, 6, []), (6, 4, 0, 0, 0, []), (18, 0, 0, 0, 0, []), (25, 0, 0, 0, 0, []), (6, 1, 0, 0, 0, []), (8, 0, 0, 0, 0, []), (26, 0, 0, 0, 0, []), (34, 0, 0, 0, 0, [])]
/-- RailOfHeadsModel.lawOf.(J)I -/
def mx_p171 : List mx_Op := [(45, 0, 0, 0, 0, [1, 1]), (1, 0, 0, 0, 0, []), (7, 0, 439855772532, 0, 0, []), (13, 0, 0, 0, 0, []), (19, 0, 0, 7, 1, []), (6, 0, 0, 0, 0, []), (21, 0, 0, 20, 0, []), (1, 0, 0, 0, 0, []), (7, 0, 1685217655, 0, 0, []), (13, 0, 0, 0, 0, []), (19, 0, 0, 13, 1, []), (6, 1, 0, 0, 0, []), (21, 0, 0, 20, 0, []), (1, 0, 0, 0, 0, []), (7, 0, 491496238692, 0, 0, []), (13, 0, 0, 0, 0, []), (19, 0, 0, 19, 1, []), (6, 2, 0, 0, 0, []), (21, 0, 0, 20, 0, []), (6, (-1000000), 0, 0, 0, []), (32, 0, 0, 0, 0, [])]
/-- RailOfHeadsModel.readGroup.()V -/
def mx_p172 : List mx_Op := [(45, 0, 0, 0, 0, [1, 1, 1, 1, 1, 1, 1]), (2, 0, 0, 0, 0, []), (6, 5, 0, 0, 0, []), (6, 6, 0, 0, 0, []), (31, 0, 0, 133, 3, [0, 9, 3]), (6, 30, 0, 0, 0, []), (2, 0, 0, 0, 0, []), (23, 0, 0, 8, 6, []), (6, 6, 0, 0, 0, []), (25, 0, 0, 0, 0, []), (8, 0, 0, 0, 1, []), (3, 0, 0, 1, 0, []), (2, 0, 0, 0, 0, []), (6, 1, 0, 0, 0, []), (0, 0, 0, 1, 0, []), (6, 20, 0, 0, 0, []), (20, 0, 0, 19, 3, []), (0, 0, 0, 1, 0, []), (21, 0, 0, 20, 0, []), (6, 20, 0, 0, 0, []), (31, 0, 0, 164, 3, [1, 9, 4]), (3, 0, 0, 2, 0, []), (2, 0, 0, 0, 0, []), (6, 0, 0, 0, 0, []), (6, 60, 0, 0, 0, []), (31, 0, 0, 164, 3, [1, 9, 4]), (3, 0, 0, 3, 0, []), (2, 0, 0, 0, 0, []), (31, 0, 0, 163, 1, [2, 9, 4]), (31, 0, 0, 171, 1, [1, 0, 2]), (3, 0, 0, 4, 0, []), (2, 0, 0, 0, 0, []), (23, 0, 0, 8, 18, []), (19, 0, 0, 42, 1, []), (2, 0, 0, 0, 0, []), (0, 0, 0, 4, 0, []), (6, (-1000000), 0, 0, 0, []), (20, 0, 0, 40, 0, []), (6, 1, 0, 0, 0, []), (21, 0, 0, 41, 0, []), (6, 0, 0, 0, 0, []), (31, 0, 0, 132, 2, [0, 9, 2]), (2, 0, 0, 0, 0, []), (6, 0, 0, 0, 0, []), (6, 20, 0, 0, 0, []), (31, 0, 0, 164, 3, [1, 9, 4]), (3, 0, 0, 5, 0, []), (2, 0, 0, 0, 0, []), (31, 0, 0, 165, 1, [0, 9, 1]), (2, 0, 0, 0, 0, []), (23, 0, 0, 8, 18, []), (19, 0, 0, 103, 1, []), (6, 56, 0, 0, 0, []), (6, 4, 0, 0, 0, []), (2, 0, 0, 0, 0, []), (23, 0, 0, 8, 6, []), (6, 5, 0, 0, 0, []), (25, 0, 0, 0, 0, []), (8, 0, 0, 0, 2, []), (8, 0, 0, 0, 0, []), (3, 0, 0, 6, 0, []), (2, 0, 0, 0, 0, []), (23, 0, 0, 8, 6, []), (0, 0, 0, 6, 0, []), (0, 0, 0, 2, 0, []), (26, 0, 0, 0, 0, []), (2, 0, 0, 0, 0, []), (23, 0, 0, 8, 6, []), (0, 0, 0, 6, 0, []), (6, 1, 0, 0, 0, []), (8, 0, 0, 0, 0, []), (0, 0, 0, 3, 0, []), (26, 0, 0, 0, 0, []), (2, 0, 0, 0, 0, []), (23, 0, 0, 8, 6, []), (0, 0, 0, 6, 0, []), (6, 2, 0, 0, 0, []), (8, 0, 0, 0, 0, []), (0, 0, 0, 4, 0, []), (26, 0, 0, 0, 0, []), (2, 0, 0, 0, 0, []), (23, 0, 0, 8, 6, []), (0, 0, 0, 6, 0, []), (6, 3, 0, 0, 0, []), (8, 0, 0, 0, 0, []), (0, 0, 0, 5, 0, []), (26, 0, 0, 0, 0, []), (2, 0, 0, 0, 0, []), (23, 0, 0, 8, 6, []), (6, 5, 0, 0, 0, []), (18, 0, 0, 0, 0, []), (25, 0, 0, 0, 0, []), (6, 1, 0, 0, 0, []), (8, 0, 0, 0, 0, []), (26, 0, 0, 0, 0, []), (2, 0, 0, 0, 0, []), (23, 0, 0, 8, 6, []), (6, 6, 0, 0, 0, []), (18, 0, 0, 0, 0, []), (25, 0, 0, 0, 0, []), (0, 0, 0, 2, 0, []), (8, 0, 0, 0, 0, []), (26, 0, 0, 0, 0, []), (34, 0, 0, 0, 0, [])]
/-- RailOfHeadsModel.layFar.()V -/
def mx_p173 : List mx_Op := [(45, 0, 0, 0, 0, [1, 1, 1, 1, 1, 1, 1, 1]), (2, 0, 0, 0, 0, []), (23, 0, 0, 8, 5, []), (6, 2, 0, 0, 0, []), (25, 0, 0, 0, 0, []), (3, 0, 0, 1, 0, []), (6, 0, 0, 0, 0, []), (3, 0, 0, 2, 0, []), (45, 0, 0, 8, 0, [1, 1, 1, 0, 0, 0, 0, 0]), (0, 0, 0, 2, 0, []), (6, 36, 0, 0, 0, []), (20, 0, 0, 28, 3, []), (2, 0, 0, 0, 0, []), (23, 0, 0, 8, 20, []), (0, 0, 0, 2, 0, []), (0, 0, 0, 2, 0, []), (6, 6, 0, 0, 0, []), (9, 0, 0, 0, 0, []), (0, 0, 0, 2, 0, []), (6, 6, 0, 0, 0, []), (9, 0, 0, 0, 1, []), (20, 0, 0, 24, 1, []), (6, 0, 0, 0, 0, []), (21, 0, 0, 25, 0, []), (6, (-1000000), 0, 0, 0, []), (26, 0, 0, 0, 0, []), (16, 1, 0, 2, 0, []), (21, 0, 0, 8, 0, []), (6, 1, 0, 0, 0, []), (3, 0, 0, 2, 0, []), (45, 0, 0, 30, 0, [1, 1, 1, 0, 0, 0, 0, 0]), (0, 0, 0, 2, 0, []), (0, 0, 0, 1, 0, []), (20, 0, 0, 112, 3, []), (6, 0, 0, 0, 0, []), (3, 0, 0, 3, 0, []), (45, 0, 0, 36, 0, [1, 1, 1, 1, 0, 0, 0, 0]), (0, 0, 0, 3, 0, []), (6, 36, 0, 0, 0, []), (20, 0, 0, 110, 3, []), (0, 0, 0, 3, 0, []), (6, 6, 0, 0, 0, []), (9, 0, 0, 0, 0, []), (3, 0, 0, 4, 0, []), (6, 0, 0, 0, 0, []), (3, 0, 0, 5, 0, []), (45, 0, 0, 46, 0, [1, 1, 1, 1, 1, 1, 0, 0]), (0, 0, 0, 5, 0, []), (6, 6, 0, 0, 0, []), (2, 0, 0, 0, 0, []), (23, 0, 0, 8, 5, []), (6, 3, 0, 0, 0, []), (25, 0, 0, 0, 0, []), (8, 0, 0, 0, 2, []), (20, 0, 0, 108, 3, []), (0, 0, 0, 4, 0, []), (0, 0, 0, 1, 0, []), (20, 0, 0, 108, 3, []), (0, 0, 0, 5, 0, []), (6, 6, 0, 0, 0, []), (9, 0, 0, 0, 1, []), (3, 0, 0, 6, 0, []), (2, 0, 0, 0, 0, []), (23, 0, 0, 8, 20, []), (0, 0, 0, 3, 0, []), (25, 0, 0, 0, 0, []), (6, (-1000000), 0, 0, 0, []), (20, 0, 0, 92, 1, []), (2, 0, 0, 0, 0, []), (23, 0, 0, 8, 20, []), (6, 6, 0, 0, 0, []), (0, 0, 0, 4, 0, []), (8, 0, 0, 0, 2, []), (0, 0, 0, 6, 0, []), (8, 0, 0, 0, 0, []), (25, 0, 0, 0, 0, []), (0, 0, 0, 2, 0, []), (6, 1, 0, 0, 0, []), (8, 0, 0, 0, 1, []), (20, 0, 0, 92, 1, []), (2, 0, 0, 0, 0, []), (0, 0, 0, 5, 0, []), (6, 6, 0, 0, 0, []), (9, 0, 0, 0, 0, []), (0, 0, 0, 6, 0, []), (0, 0, 0, 3, 0, []), (6, 6, 0, 0, 0, []), (9, 0, 0, 0, 1, []), (31, 0, 0, 140, 4, [1, 9, 5]), (19, 0, 0, 92, 0, []), (6, 1, 0, 0, 0, []), (21, 0, 0, 93, 0, []), (6, 0, 0, 0, 0, []), (3, 0, 0, 7, 0, []), (2, 0, 0, 0, 0, []), (23, 0, 0, 8, 20, []), (0, 0, 0, 3, 0, []), (0, 0, 0, 7, 0, []), (19, 0, 0, 101, 0, []), (0, 0, 0, 2, 0, []), (21, 0, 0, 105, 0, []), (2, 0, 0, 0, 0, []), (23, 0, 0, 8, 20, []), (0, 0, 0, 3, 0, []), (25, 0, 0, 0, 0, []), (26, 0, 0, 0, 0, []), (16, 1, 0, 5, 0, []), (21, 0, 0, 46, 0, []), (16, 1, 0, 3, 0, []), (21, 0, 0, 36, 0, []), (16, 1, 0, 2, 0, []), (21, 0, 0, 30, 0, []), (34, 0, 0, 0, 0, [])]
/-- RailOfHeadsModel.house.()I -/
def mx_p174 : List mx_Op := [(45, 0, 0, 0, 0, [1, 1]), (2, 0, 0, 0, 0, []), (6, 0, 0, 0, 0, []), (24, 0, 0, 8, 0, []), (2, 0, 0, 0, 0, []), (31, 0, 0, 131, 1, [0, 9, 1]), (6, 0, 0, 0, 0, []), (3, 0, 0, 1, 0, []), (45, 0, 0, 8, 0, [1, 1]), (0, 0, 0, 1, 0, []), (6, 80, 0, 0, 0, []), (20, 0, 0, 19, 3, []), (2, 0, 0, 0, 0, []), (23, 0, 0, 8, 6, []), (0, 0, 0, 1, 0, []), (6, 0, 0, 0, 0, []), (26, 0, 0, 0, 0, []), (16, 1, 0, 1, 0, []), (21, 0, 0, 8, 0, []), (2, 0, 0, 0, 0, []), (31, 0, 0, 166, 1, [0, 9, 1]), (2, 0, 0, 0, 0, []), (7, 0, 1919905645, 0, 0, []), (31, 0, 0, 167, 2, [0, 9, 3]), (45, 0, 0, 24, 0, [1, 0]), (2, 0, 0, 0, 0, []), (31, 0, 0, 163, 1, [2, 9, 4]), (7, 0, 1919905645, 0, 0, []), (13, 0, 0, 0, 0, []), (19, 0, 0, 33, 1, []), (2, 0, 0, 0, 0, []), (31, 0, 0, 168, 1, [0, 9, 2]), (21, 0, 0, 24, 0, []), (45, 0, 0, 33, 0, [1, 0]), (2, 0, 0, 0, 0, []), (31, 0, 0, 163, 1, [2, 9, 4]), (7, 0, 1685024626, 0, 0, []), (13, 0, 0, 0, 0, []), (19, 0, 0, 42, 1, []), (2, 0, 0, 0, 0, []), (31, 0, 0, 169, 1, [0, 9, 5]), (21, 0, 0, 33, 0, []), (2, 0, 0, 0, 0, []), (7, 0, 31641073268126309, 0, 0, []), (31, 0, 0, 167, 2, [0, 9, 3]), (45, 0, 0, 45, 0, [1, 0]), (2, 0, 0, 0, 0, []), (31, 0, 0, 163, 1, [2, 9, 4]), (7, 0, 31641073268126309, 0, 0, []), (13, 0, 0, 0, 0, []), (19, 0, 0, 54, 1, []), (2, 0, 0, 0, 0, []), (31, 0, 0, 170, 1, [0, 9, 3]), (21, 0, 0, 45, 0, []), (2, 0, 0, 0, 0, []), (7, 0, 444301538672, 0, 0, []), (31, 0, 0, 167, 2, [0, 9, 3]), (45, 0, 0, 57, 0, [1, 0]), (2, 0, 0, 0, 0, []), (31, 0, 0, 163, 1, [2, 9, 4]), (7, 0, 444301538672, 0, 0, []), (13, 0, 0, 0, 0, []), (19, 0, 0, 66, 1, []), (2, 0, 0, 0, 0, []), (31, 0, 0, 172, 1, [0, 9, 7]), (21, 0, 0, 57, 0, []), (2, 0, 0, 0, 0, []), (23, 0, 0, 8, 18, []), (19, 0, 0, 76, 1, []), (2, 0, 0, 0, 0, []), (23, 0, 0, 8, 15, []), (6, 1, 0, 0, 0, []), (20, 0, 0, 76, 0, []), (2, 0, 0, 0, 0, []), (6, 1, 0, 0, 0, []), (31, 0, 0, 126, 2, [0, 9, 2]), (2, 0, 0, 0, 0, []), (23, 0, 0, 8, 18, []), (19, 0, 0, 88, 5, []), (2, 0, 0, 0, 0, []), (2, 0, 0, 0, 0, []), (23, 0, 0, 8, 18, []), (24, 0, 0, 8, 12, []), (6, (-1000100), 0, 0, 0, []), (2, 0, 0, 0, 0, []), (23, 0, 0, 8, 19, []), (8, 0, 0, 0, 1, []), (32, 0, 0, 0, 0, []), (2, 0, 0, 0, 0, []), (6, 1, 0, 0, 0, []), (24, 0, 0, 8, 7, []), (6, 0, 0, 0, 0, []), (3, 0, 0, 1, 0, []), (45, 0, 0, 93, 0, [1, 1]), (0, 0, 0, 1, 0, []), (6, 80, 0, 0, 0, []), (20, 0, 0, 107, 3, []), (2, 0, 0, 0, 0, []), (23, 0, 0, 8, 5, []), (0, 0, 0, 1, 0, []), (2, 0, 0, 0, 0, []), (23, 0, 0, 8, 6, []), (0, 0, 0, 1, 0, []), (25, 0, 0, 0, 0, []), (26, 0, 0, 0, 0, []), (16, 1, 0, 1, 0, []), (21, 0, 0, 93, 0, []), (2, 0, 0, 0, 0, []), (31, 0, 0, 173, 1, [0, 9, 8]), (2, 0, 0, 0, 0, []), (2, 0, 0, 0, 0, []), (23, 0, 0, 8, 8, []), (31, 0, 0, 134, 2, [0, 9, 3]), (2, 0, 0, 0, 0, []), (23, 0, 0, 8, 5, []), (6, 6, 0, 0, 0, []), (25, 0, 0, 0, 0, []), (32, 0, 0, 0, 0, [])]
/-- RailOfHeadsModel.isEachOnce.(I)Z -/
def mx_p175 : List mx_Op := [(45, 0, 0, 0, 0, [1, 1, 1, 1]), (6, 0, 0, 0, 0, []), (3, 0, 0, 2, 0, []), (6, 0, 0, 0, 0, []), (3, 0, 0, 3, 0, []), (45, 0, 0, 5, 0, [1, 1, 1, 1]), (0, 0, 0, 3, 0, []), (0, 0, 0, 1, 0, []), (20, 0, 0, 20, 3, []), (0, 0, 0, 2, 0, []), (6, 1, 0, 0, 0, []), (2, 0, 0, 0, 0, []), (23, 0, 0, 8, 25, []), (0, 0, 0, 3, 0, []), (25, 0, 0, 0, 0, []), (8, 0, 0, 0, 5, []), (8, 0, 0, 0, 4, []), (3, 0, 0, 2, 0, []), (16, 1, 0, 3, 0, []), (21, 0, 0, 5, 0, []), (0, 0, 0, 2, 0, []), (6, 1, 0, 0, 0, []), (0, 0, 0, 1, 0, []), (8, 0, 0, 0, 5, []), (6, 1, 0, 0, 0, []), (8, 0, 0, 0, 1, []), (20, 0, 0, 29, 1, []), (6, 1, 0, 0, 0, []), (21, 0, 0, 30, 0, []), (6, 0, 0, 0, 0, []), (32, 0, 0, 0, 1, [])]
/-- RailOfHeadsModel.hung.(II)I -/
def mx_p176 : List mx_Op := [(45, 0, 0, 0, 0, [1, 1, 1, 1, 1, 1, 1, 1]), (2, 0, 0, 0, 0, []), (6, 0, 0, 0, 0, []), (24, 0, 0, 8, 0, []), (2, 0, 0, 0, 0, []), (23, 0, 0, 8, 7, []), (19, 0, 0, 9, 1, []), (6, (-1000002), 0, 0, 0, []), (32, 0, 0, 0, 0, []), (0, 0, 0, 1, 0, []), (31, 0, 0, 147, 1, [1, 0, 1]), (19, 0, 0, 15, 0, []), (0, 0, 0, 2, 0, []), (6, (-1), 0, 0, 0, []), (20, 0, 0, 17, 3, []), (6, (-1000001), 0, 0, 0, []), (32, 0, 0, 0, 0, []), (2, 0, 0, 0, 0, []), (23, 0, 0, 8, 5, []), (6, 4, 0, 0, 0, []), (25, 0, 0, 0, 0, []), (3, 0, 0, 3, 0, []), (0, 0, 0, 3, 0, []), (6, 4, 0, 0, 0, []), (20, 0, 0, 27, 5, []), (6, (-1000000), 0, 0, 0, []), (32, 0, 0, 0, 0, []), (6, 0, 0, 0, 0, []), (3, 0, 0, 4, 0, []), (45, 0, 0, 29, 0, [1, 1, 1, 1, 1, 0, 0, 0]), (0, 0, 0, 4, 0, []), (0, 0, 0, 3, 0, []), (20, 0, 0, 51, 3, []), (2, 0, 0, 0, 0, []), (23, 0, 0, 8, 6, []), (6, 40, 0, 0, 0, []), (6, 2, 0, 0, 0, []), (0, 0, 0, 4, 0, []), (8, 0, 0, 0, 2, []), (8, 0, 0, 0, 0, []), (2, 0, 0, 0, 0, []), (23, 0, 0, 8, 5, []), (6, 40, 0, 0, 0, []), (6, 2, 0, 0, 0, []), (0, 0, 0, 4, 0, []), (8, 0, 0, 0, 2, []), (8, 0, 0, 0, 0, []), (25, 0, 0, 0, 0, []), (26, 0, 0, 0, 0, []), (16, 1, 0, 4, 0, []), (21, 0, 0, 29, 0, []), (2, 0, 0, 0, 0, []), (6, (-1), 0, 0, 0, []), (24, 0, 0, 8, 27, []), (6, 1, 0, 0, 0, []), (3, 0, 0, 4, 0, []), (6, 0, 0, 0, 0, []), (3, 0, 0, 5, 0, []), (45, 0, 0, 58, 0, [1, 1, 1, 1, 1, 1, 0, 0]), (0, 0, 0, 5, 0, []), (0, 0, 0, 3, 0, []), (20, 0, 0, 68, 3, []), (0, 0, 0, 4, 0, []), (0, 0, 0, 3, 0, []), (8, 0, 0, 0, 2, []), (3, 0, 0, 4, 0, []), (16, 1, 0, 5, 0, []), (21, 0, 0, 58, 0, []), (6, 0, 0, 0, 0, []), (3, 0, 0, 5, 0, []), (45, 0, 0, 70, 0, [1, 1, 1, 1, 1, 1, 0, 0]), (0, 0, 0, 5, 0, []), (0, 0, 0, 4, 0, []), (20, 0, 0, 106, 3, []), (0, 0, 0, 5, 0, []), (3, 0, 0, 6, 0, []), (0, 0, 0, 3, 0, []), (6, 1, 0, 0, 0, []), (8, 0, 0, 0, 1, []), (3, 0, 0, 7, 0, []), (45, 0, 0, 80, 0, [1, 1, 1, 1, 1, 1, 1, 1]), (0, 0, 0, 7, 0, []), (19, 0, 0, 96, 2, []), (2, 0, 0, 0, 0, []), (23, 0, 0, 8, 25, []), (0, 0, 0, 7, 0, []), (0, 0, 0, 6, 0, []), (0, 0, 0, 3, 0, []), (9, 0, 0, 0, 1, []), (26, 0, 0, 0, 0, []), (0, 0, 0, 6, 0, []), (0, 0, 0, 3, 0, []), (9, 0, 0, 0, 0, []), (3, 0, 0, 6, 0, []), (16, (-1), 0, 7, 0, []), (21, 0, 0, 80, 0, []), (2, 0, 0, 0, 0, []), (0, 0, 0, 3, 0, []), (31, 0, 0, 175, 2, [1, 9, 4]), (19, 0, 0, 104, 0, []), (2, 0, 0, 0, 0, []), (0, 0, 0, 3, 0, []), (0, 0, 0, 1, 0, []), (31, 0, 0, 162, 3, [0, 9, 5]), (16, 1, 0, 5, 0, []), (21, 0, 0, 70, 0, []), (6, 0, 0, 0, 0, []), (3, 0, 0, 5, 0, []), (45, 0, 0, 108, 0, [1, 0, 1, 1, 0, 1, 0, 0]), (0, 0, 0, 5, 0, []), (0, 0, 0, 3, 0, []), (20, 0, 0, 130, 3, []), (2, 0, 0, 0, 0, []), (23, 0, 0, 8, 5, []), (6, 40, 0, 0, 0, []), (6, 2, 0, 0, 0, []), (0, 0, 0, 5, 0, []), (8, 0, 0, 0, 2, []), (8, 0, 0, 0, 0, []), (2, 0, 0, 0, 0, []), (23, 0, 0, 8, 6, []), (6, 40, 0, 0, 0, []), (6, 2, 0, 0, 0, []), (0, 0, 0, 5, 0, []), (8, 0, 0, 0, 2, []), (8, 0, 0, 0, 0, []), (25, 0, 0, 0, 0, []), (26, 0, 0, 0, 0, []), (16, 1, 0, 5, 0, []), (21, 0, 0, 108, 0, []), (0, 0, 0, 2, 0, []), (19, 0, 0, 135, 3, []), (2, 0, 0, 0, 0, []), (23, 0, 0, 8, 27, []), (21, 0, 0, 144, 0, []), (0, 0, 0, 2, 0, []), (0, 0, 0, 3, 0, []), (20, 0, 0, 143, 3, []), (2, 0, 0, 0, 0, []), (23, 0, 0, 8, 26, []), (0, 0, 0, 2, 0, []), (25, 0, 0, 0, 0, []), (21, 0, 0, 144, 0, []), (6, (-1000000), 0, 0, 0, []), (32, 0, 0, 0, 0, [])]
/-- RailOfHeadsModel.image.(I)I -/
def mx_p177 : List mx_Op := [(45, 0, 0, 0, 0, [1, 1, 1]), (2, 0, 0, 0, 0, []), (6, 0, 0, 0, 0, []), (24, 0, 0, 8, 0, []), (0, 0, 0, 1, 0, []), (14, 0, 0, 0, 0, []), (7, 0, 0, 0, 0, []), (7, 0, 1, 1, 0, []), (31, 0, 0, 115, 3, [1, 0, 6]), (19, 0, 0, 12, 1, []), (6, (-1000001), 0, 0, 0, []), (32, 0, 0, 0, 0, []), (2, 0, 0, 0, 0, []), (23, 0, 0, 8, 7, []), (19, 0, 0, 17, 1, []), (6, (-1000002), 0, 0, 0, []), (32, 0, 0, 0, 0, []), (6, 0, 0, 0, 0, []), (3, 0, 0, 2, 0, []), (45, 0, 0, 19, 0, [1, 1, 1]), (0, 0, 0, 2, 0, []), (6, 80, 0, 0, 0, []), (20, 0, 0, 37, 3, []), (2, 0, 0, 0, 0, []), (23, 0, 0, 8, 29, []), (6, 80, 0, 0, 0, []), (0, 0, 0, 1, 0, []), (8, 0, 0, 0, 2, []), (0, 0, 0, 2, 0, []), (8, 0, 0, 0, 0, []), (2, 0, 0, 0, 0, []), (23, 0, 0, 8, 5, []), (0, 0, 0, 2, 0, []), (25, 0, 0, 0, 0, []), (26, 0, 0, 0, 0, []), (16, 1, 0, 2, 0, []), (21, 0, 0, 19, 0, []), (6, 0, 0, 0, 0, []), (3, 0, 0, 2, 0, []), (45, 0, 0, 39, 0, [1, 1, 1]), (0, 0, 0, 2, 0, []), (6, 421, 0, 0, 0, []), (20, 0, 0, 57, 3, []), (2, 0, 0, 0, 0, []), (23, 0, 0, 8, 30, []), (6, 421, 0, 0, 0, []), (0, 0, 0, 1, 0, []), (8, 0, 0, 0, 2, []), (0, 0, 0, 2, 0, []), (8, 0, 0, 0, 0, []), (2, 0, 0, 0, 0, []), (23, 0, 0, 8, 8, []), (0, 0, 0, 2, 0, []), (25, 0, 0, 0, 0, []), (26, 0, 0, 0, 0, []), (16, 1, 0, 2, 0, []), (21, 0, 0, 39, 0, []), (2, 0, 0, 0, 0, []), (23, 0, 0, 8, 28, []), (0, 0, 0, 1, 0, []), (6, 1, 0, 0, 0, []), (28, 0, 0, 0, 1, []), (6, 1, 0, 0, 0, []), (32, 0, 0, 0, 0, [])]
/-- RailOfHeadsModel.kind.(I)I -/
def mx_p178 : List mx_Op := [(45, 0, 0, 0, 0, [1, 1]), (2, 0, 0, 0, 0, []), (6, 0, 0, 0, 0, []), (24, 0, 0, 8, 0, []), (2, 0, 0, 0, 0, []), (0, 0, 0, 1, 0, []), (31, 0, 0, 116, 2, [1, 9, 2]), (19, 0, 0, 12, 0, []), (2, 0, 0, 0, 0, []), (0, 0, 0, 1, 0, []), (31, 0, 0, 117, 2, [1, 9, 4]), (21, 0, 0, 13, 0, []), (6, (-1000001), 0, 0, 0, []), (32, 0, 0, 0, 0, [])]
/-- RailOfHeadsModel.oneWay.(II)I -/
def mx_p179 : List mx_Op := [(45, 0, 0, 0, 0, [1, 1, 1, 1, 1, 1]), (2, 0, 0, 0, 0, []), (6, 0, 0, 0, 0, []), (24, 0, 0, 8, 0, []), (0, 0, 0, 1, 0, []), (14, 0, 0, 0, 0, []), (7, 0, 0, 0, 0, []), (2, 0, 0, 0, 0, []), (23, 0, 0, 8, 5, []), (6, 3, 0, 0, 0, []), (25, 0, 0, 0, 0, []), (6, 1, 0, 0, 0, []), (8, 0, 0, 0, 1, []), (14, 0, 0, 0, 0, []), (31, 0, 0, 115, 3, [1, 0, 6]), (19, 0, 0, 19, 0, []), (0, 0, 0, 2, 0, []), (31, 0, 0, 147, 1, [1, 0, 1]), (19, 0, 0, 21, 1, []), (6, (-1000001), 0, 0, 0, []), (32, 0, 0, 0, 0, []), (2, 0, 0, 0, 0, []), (0, 0, 0, 2, 0, []), (6, 0, 0, 0, 0, []), (31, 0, 0, 145, 3, [1, 9, 8]), (3, 0, 0, 3, 0, []), (2, 0, 0, 0, 0, []), (23, 0, 0, 8, 5, []), (6, 13, 0, 0, 0, []), (6, 3, 0, 0, 0, []), (0, 0, 0, 1, 0, []), (8, 0, 0, 0, 2, []), (8, 0, 0, 0, 0, []), (6, 2, 0, 0, 0, []), (8, 0, 0, 0, 0, []), (25, 0, 0, 0, 0, []), (3, 0, 0, 4, 0, []), (2, 0, 0, 0, 0, []), (23, 0, 0, 8, 5, []), (6, 13, 0, 0, 0, []), (6, 3, 0, 0, 0, []), (0, 0, 0, 1, 0, []), (8, 0, 0, 0, 2, []), (8, 0, 0, 0, 0, []), (6, 2, 0, 0, 0, []), (8, 0, 0, 0, 0, []), (6, 1, 0, 0, 0, []), (26, 0, 0, 0, 0, []), (2, 0, 0, 0, 0, []), (31, 0, 0, 173, 1, [0, 9, 8]), (2, 0, 0, 0, 0, []), (0, 0, 0, 2, 0, []), (6, 0, 0, 0, 0, []), (31, 0, 0, 145, 3, [1, 9, 8]), (3, 0, 0, 5, 0, []), (2, 0, 0, 0, 0, []), (23, 0, 0, 8, 5, []), (6, 13, 0, 0, 0, []), (6, 3, 0, 0, 0, []), (0, 0, 0, 1, 0, []), (8, 0, 0, 0, 2, []), (8, 0, 0, 0, 0, []), (6, 2, 0, 0, 0, []), (8, 0, 0, 0, 0, []), (0, 0, 0, 4, 0, []), (26, 0, 0, 0, 0, []), (2, 0, 0, 0, 0, []), (31, 0, 0, 173, 1, [0, 9, 8]), (0, 0, 0, 5, 0, []), (0, 0, 0, 3, 0, []), (8, 0, 0, 0, 1, []), (32, 0, 0, 0, 0, [])]
/-- RailOfHeadsModel.picture.(III)I -/
def mx_p180 : List mx_Op := [(45, 0, 0, 0, 0, [1, 1, 1, 1, 1, 1]), (2, 0, 0, 0, 0, []), (6, 0, 0, 0, 0, []), (24, 0, 0, 8, 0, []), (0, 0, 0, 1, 0, []), (14, 0, 0, 0, 0, []), (7, 0, 0, 0, 0, []), (2, 0, 0, 0, 0, []), (23, 0, 0, 8, 5, []), (6, 4, 0, 0, 0, []), (25, 0, 0, 0, 0, []), (6, 1, 0, 0, 0, []), (8, 0, 0, 0, 1, []), (14, 0, 0, 0, 0, []), (31, 0, 0, 115, 3, [1, 0, 6]), (19, 0, 0, 25, 0, []), (0, 0, 0, 2, 0, []), (31, 0, 0, 147, 1, [1, 0, 1]), (19, 0, 0, 25, 0, []), (0, 0, 0, 3, 0, []), (14, 0, 0, 0, 0, []), (7, 0, 0, 0, 0, []), (7, 0, 1, 1, 0, []), (31, 0, 0, 115, 3, [1, 0, 6]), (19, 0, 0, 27, 1, []), (6, (-1000001), 0, 0, 0, []), (32, 0, 0, 0, 0, []), (2, 0, 0, 0, 0, []), (0, 0, 0, 2, 0, []), (6, 0, 0, 0, 0, []), (31, 0, 0, 145, 3, [1, 9, 8]), (3, 0, 0, 4, 0, []), (2, 0, 0, 0, 0, []), (0, 0, 0, 3, 0, []), (19, 0, 0, 37, 1, []), (0, 0, 0, 1, 0, []), (21, 0, 0, 38, 0, []), (6, (-1), 0, 0, 0, []), (24, 0, 0, 8, 22, []), (2, 0, 0, 0, 0, []), (0, 0, 0, 3, 0, []), (6, 1, 0, 0, 0, []), (20, 0, 0, 45, 1, []), (0, 0, 0, 1, 0, []), (21, 0, 0, 46, 0, []), (6, (-1), 0, 0, 0, []), (24, 0, 0, 8, 23, []), (2, 0, 0, 0, 0, []), (0, 0, 0, 2, 0, []), (6, 0, 0, 0, 0, []), (31, 0, 0, 145, 3, [1, 9, 8]), (3, 0, 0, 5, 0, []), (2, 0, 0, 0, 0, []), (6, (-1), 0, 0, 0, []), (24, 0, 0, 8, 22, []), (2, 0, 0, 0, 0, []), (6, (-1), 0, 0, 0, []), (24, 0, 0, 8, 23, []), (0, 0, 0, 3, 0, []), (19, 0, 0, 64, 1, []), (0, 0, 0, 5, 0, []), (0, 0, 0, 4, 0, []), (8, 0, 0, 0, 1, []), (21, 0, 0, 67, 0, []), (0, 0, 0, 4, 0, []), (0, 0, 0, 5, 0, []), (8, 0, 0, 0, 1, []), (32, 0, 0, 0, 0, [])]
/-- RailOfHeadsModel.restore.(I)I -/
def mx_p181 : List mx_Op := [(45, 0, 0, 0, 0, [1, 1, 1]), (2, 0, 0, 0, 0, []), (6, 0, 0, 0, 0, []), (24, 0, 0, 8, 0, []), (0, 0, 0, 1, 0, []), (14, 0, 0, 0, 0, []), (7, 0, 0, 0, 0, []), (7, 0, 1, 1, 0, []), (31, 0, 0, 115, 3, [1, 0, 6]), (19, 0, 0, 12, 1, []), (6, (-1000001), 0, 0, 0, []), (32, 0, 0, 0, 0, []), (2, 0, 0, 0, 0, []), (23, 0, 0, 8, 28, []), (0, 0, 0, 1, 0, []), (27, 0, 0, 0, 1, []), (19, 0, 0, 19, 1, []), (6, (-1000002), 0, 0, 0, []), (32, 0, 0, 0, 0, []), (6, 0, 0, 0, 0, []), (3, 0, 0, 2, 0, []), (45, 0, 0, 21, 0, [1, 1, 1]), (0, 0, 0, 2, 0, []), (6, 80, 0, 0, 0, []), (20, 0, 0, 39, 3, []), (2, 0, 0, 0, 0, []), (23, 0, 0, 8, 5, []), (0, 0, 0, 2, 0, []), (2, 0, 0, 0, 0, []), (23, 0, 0, 8, 29, []), (6, 80, 0, 0, 0, []), (0, 0, 0, 1, 0, []), (8, 0, 0, 0, 2, []), (0, 0, 0, 2, 0, []), (8, 0, 0, 0, 0, []), (25, 0, 0, 0, 0, []), (26, 0, 0, 0, 0, []), (16, 1, 0, 2, 0, []), (21, 0, 0, 21, 0, []), (6, 0, 0, 0, 0, []), (3, 0, 0, 2, 0, []), (45, 0, 0, 41, 0, [1, 1, 1]), (0, 0, 0, 2, 0, []), (6, 421, 0, 0, 0, []), (20, 0, 0, 59, 3, []), (2, 0, 0, 0, 0, []), (23, 0, 0, 8, 8, []), (0, 0, 0, 2, 0, []), (2, 0, 0, 0, 0, []), (23, 0, 0, 8, 30, []), (6, 421, 0, 0, 0, []), (0, 0, 0, 1, 0, []), (8, 0, 0, 0, 2, []), (0, 0, 0, 2, 0, []), (8, 0, 0, 0, 0, []), (25, 0, 0, 0, 0, []), (26, 0, 0, 0, 0, []), (16, 1, 0, 2, 0, []), (21, 0, 0, 41, 0, []), (2, 0, 0, 0, 0, []), (31, 0, 0, 173, 1, [0, 9, 8]), (6, 1, 0, 0, 0, []), (32, 0, 0, 0, 0, [])]
/-- RailOfHeadsModel.room.(II)I -/
def mx_p182 : List mx_Op := [(45, 0, 0, 0, 0, [1, 1, 1]), (2, 0, 0, 0, 0, []), (6, 0, 0, 0, 0, []), (24, 0, 0, 8, 0, []), (2, 0, 0, 0, 0, []), (0, 0, 0, 1, 0, []), (31, 0, 0, 152, 2, [1, 9, 2]), (19, 0, 0, 14, 0, []), (0, 0, 0, 2, 0, []), (14, 0, 0, 0, 0, []), (7, 0, 0, 0, 0, []), (7, 0, 1, 1, 0, []), (31, 0, 0, 115, 3, [1, 0, 6]), (19, 0, 0, 16, 1, []), (6, (-1000001), 0, 0, 0, []), (32, 0, 0, 0, 0, []), (0, 0, 0, 2, 0, []), (19, 0, 0, 25, 1, []), (2, 0, 0, 0, 0, []), (23, 0, 0, 8, 5, []), (6, 7, 0, 0, 0, []), (0, 0, 0, 1, 0, []), (8, 0, 0, 0, 0, []), (25, 0, 0, 0, 0, []), (21, 0, 0, 30, 0, []), (2, 0, 0, 0, 0, []), (2, 0, 0, 0, 0, []), (23, 0, 0, 8, 8, []), (0, 0, 0, 1, 0, []), (31, 0, 0, 135, 3, [1, 9, 5]), (32, 0, 0, 0, 0, [])]
/-- RailOfHeadsModel.row.(III)I -/
def mx_p183 : List mx_Op := [(45, 0, 0, 0, 0, [1, 1, 1, 1, 1]), (2, 0, 0, 0, 0, []), (6, 0, 0, 0, 0, []), (24, 0, 0, 8, 0, []), (0, 0, 0, 1, 0, []), (31, 0, 0, 149, 1, [1, 0, 1]), (19, 0, 0, 16, 0, []), (0, 0, 0, 2, 0, []), (14, 0, 0, 0, 0, []), (7, 0, 0, 0, 0, []), (7, 0, 2, 0, 0, []), (31, 0, 0, 115, 3, [1, 0, 6]), (19, 0, 0, 16, 0, []), (0, 0, 0, 3, 0, []), (6, 40, 0, 0, 0, []), (20, 0, 0, 18, 5, []), (6, (-1000001), 0, 0, 0, []), (32, 0, 0, 0, 0, []), (2, 0, 0, 0, 0, []), (6, 0, 0, 0, 0, []), (24, 0, 0, 8, 1, []), (0, 0, 0, 3, 0, []), (19, 0, 0, 27, 3, []), (2, 0, 0, 0, 0, []), (6, 4, 0, 0, 0, []), (31, 0, 0, 119, 2, [1, 9, 2]), (32, 0, 0, 0, 0, []), (2, 0, 0, 0, 0, []), (23, 0, 0, 8, 2, []), (0, 0, 0, 1, 0, []), (0, 0, 0, 2, 0, []), (26, 0, 0, 0, 0, []), (2, 0, 0, 0, 0, []), (23, 0, 0, 8, 3, []), (0, 0, 0, 1, 0, []), (0, 0, 0, 3, 0, []), (26, 0, 0, 0, 0, []), (6, 0, 0, 0, 0, []), (3, 0, 0, 4, 0, []), (45, 0, 0, 39, 0, [1, 1, 0, 1, 1]), (0, 0, 0, 4, 0, []), (6, 40, 0, 0, 0, []), (20, 0, 0, 54, 3, []), (2, 0, 0, 0, 0, []), (23, 0, 0, 8, 4, []), (6, 40, 0, 0, 0, []), (0, 0, 0, 1, 0, []), (8, 0, 0, 0, 2, []), (0, 0, 0, 4, 0, []), (8, 0, 0, 0, 0, []), (6, 0, 0, 0, 0, []), (26, 0, 0, 0, 0, []), (16, 1, 0, 4, 0, []), (21, 0, 0, 39, 0, []), (0, 0, 0, 3, 0, []), (32, 0, 0, 0, 0, [])]
/-- RailOfHeadsModel.rule.(II)I -/
def mx_p184 : List mx_Op := [(45, 0, 0, 0, 0, [1, 1, 1]), (2, 0, 0, 0, 0, []), (6, 0, 0, 0, 0, []), (24, 0, 0, 8, 0, []), (2, 0, 0, 0, 0, []), (23, 0, 0, 8, 7, []), (19, 0, 0, 9, 1, []), (6, (-1000002), 0, 0, 0, []), (32, 0, 0, 0, 0, []), (0, 0, 0, 1, 0, []), (14, 0, 0, 0, 0, []), (7, 0, 1, 1, 0, []), (7, 0, 20, 0, 0, []), (31, 0, 0, 115, 3, [1, 0, 6]), (19, 0, 0, 21, 0, []), (0, 0, 0, 2, 0, []), (14, 0, 0, 0, 0, []), (7, 0, 0, 0, 0, []), (7, 0, 20, 0, 0, []), (31, 0, 0, 115, 3, [1, 0, 6]), (19, 0, 0, 23, 1, []), (6, (-1000001), 0, 0, 0, []), (32, 0, 0, 0, 0, []), (2, 0, 0, 0, 0, []), (23, 0, 0, 8, 5, []), (6, 0, 0, 0, 0, []), (0, 0, 0, 1, 0, []), (26, 0, 0, 0, 0, []), (2, 0, 0, 0, 0, []), (23, 0, 0, 8, 5, []), (6, 1, 0, 0, 0, []), (0, 0, 0, 2, 0, []), (26, 0, 0, 0, 0, []), (6, 1, 0, 0, 0, []), (32, 0, 0, 0, 0, [])]
/-- RailOfHeadsModel.seen.(II)I -/
def mx_p185 : List mx_Op := [(45, 0, 0, 0, 0, [1, 1, 1]), (2, 0, 0, 0, 0, []), (6, 0, 0, 0, 0, []), (24, 0, 0, 8, 0, []), (2, 0, 0, 0, 0, []), (23, 0, 0, 8, 7, []), (19, 0, 0, 9, 1, []), (6, (-1000002), 0, 0, 0, []), (32, 0, 0, 0, 0, []), (0, 0, 0, 1, 0, []), (31, 0, 0, 147, 1, [1, 0, 1]), (19, 0, 0, 23, 0, []), (0, 0, 0, 2, 0, []), (14, 0, 0, 0, 0, []), (7, 0, 0, 0, 0, []), (7, 0, 2, 0, 0, []), (31, 0, 0, 115, 3, [1, 0, 6]), (19, 0, 0, 23, 0, []), (2, 0, 0, 0, 0, []), (0, 0, 0, 1, 0, []), (0, 0, 0, 2, 0, []), (31, 0, 0, 145, 3, [1, 9, 8]), (21, 0, 0, 24, 0, []), (6, (-1000001), 0, 0, 0, []), (32, 0, 0, 0, 0, [])]
/-- RailOfHeadsModel.set.(III)I -/
def mx_p186 : List mx_Op := [(45, 0, 0, 0, 0, [1, 1, 1, 1]), (2, 0, 0, 0, 0, []), (6, 0, 0, 0, 0, []), (24, 0, 0, 8, 0, []), (0, 0, 0, 1, 0, []), (31, 0, 0, 149, 1, [1, 0, 1]), (19, 0, 0, 9, 1, []), (6, (-1000001), 0, 0, 0, []), (32, 0, 0, 0, 0, []), (2, 0, 0, 0, 0, []), (6, 0, 0, 0, 0, []), (24, 0, 0, 8, 1, []), (2, 0, 0, 0, 0, []), (23, 0, 0, 8, 2, []), (0, 0, 0, 1, 0, []), (25, 0, 0, 0, 0, []), (19, 0, 0, 21, 3, []), (2, 0, 0, 0, 0, []), (6, 1, 0, 0, 0, []), (31, 0, 0, 119, 2, [1, 9, 2]), (32, 0, 0, 0, 0, []), (0, 0, 0, 2, 0, []), (14, 0, 0, 0, 0, []), (7, 0, 0, 0, 0, []), (2, 0, 0, 0, 0, []), (23, 0, 0, 8, 3, []), (0, 0, 0, 1, 0, []), (25, 0, 0, 0, 0, []), (6, 1, 0, 0, 0, []), (8, 0, 0, 0, 1, []), (14, 0, 0, 0, 0, []), (31, 0, 0, 115, 3, [1, 0, 6]), (19, 0, 0, 37, 1, []), (2, 0, 0, 0, 0, []), (6, 2, 0, 0, 0, []), (31, 0, 0, 119, 2, [1, 9, 2]), (32, 0, 0, 0, 0, []), (2, 0, 0, 0, 0, []), (23, 0, 0, 8, 4, []), (6, 40, 0, 0, 0, []), (0, 0, 0, 1, 0, []), (8, 0, 0, 0, 2, []), (0, 0, 0, 2, 0, []), (8, 0, 0, 0, 0, []), (2, 0, 0, 0, 0, []), (23, 0, 0, 8, 2, []), (0, 0, 0, 1, 0, []), (25, 0, 0, 0, 0, []), (19, 0, 0, 52, 1, []), (0, 0, 0, 3, 0, []), (10, 0, 0, 0, 1, []), (21, 0, 0, 62, 0, []), (2, 0, 0, 0, 0, []), (23, 0, 0, 8, 2, []), (0, 0, 0, 1, 0, []), (25, 0, 0, 0, 0, []), (6, 1, 0, 0, 0, []), (20, 0, 0, 61, 1, []), (0, 0, 0, 3, 0, []), (10, 0, 0, 0, 2, []), (21, 0, 0, 62, 0, []), (0, 0, 0, 3, 0, []), (26, 0, 0, 0, 0, []), (2, 0, 0, 0, 0, []), (23, 0, 0, 8, 4, []), (6, 40, 0, 0, 0, []), (0, 0, 0, 1, 0, []), (8, 0, 0, 0, 2, []), (0, 0, 0, 2, 0, []), (8, 0, 0, 0, 0, []), (25, 0, 0, 0, 0, []), (32, 0, 0, 0, 0, [])]
/-- RailOfHeadsModel.status.()I -/
def mx_p187 : List mx_Op := [(45, 0, 0, 0, 0, [1]), (2, 0, 0, 0, 0, []), (6, 0, 0, 0, 0, []), (24, 0, 0, 8, 0, []), (2, 0, 0, 0, 0, []), (23, 0, 0, 8, 1, []), (32, 0, 0, 0, 0, [])]
/-- RailOfHeadsModel.tickets.(II)I -/
def mx_p188 : List mx_Op := [(45, 0, 0, 0, 0, [1, 1, 1]), (2, 0, 0, 0, 0, []), (6, 0, 0, 0, 0, []), (24, 0, 0, 8, 0, []), (0, 0, 0, 1, 0, []), (14, 0, 0, 0, 0, []), (7, 0, 0, 0, 0, []), (2, 0, 0, 0, 0, []), (23, 0, 0, 8, 5, []), (6, 5, 0, 0, 0, []), (25, 0, 0, 0, 0, []), (6, 1, 0, 0, 0, []), (8, 0, 0, 0, 1, []), (14, 0, 0, 0, 0, []), (31, 0, 0, 115, 3, [1, 0, 6]), (19, 0, 0, 33, 0, []), (0, 0, 0, 2, 0, []), (31, 0, 0, 147, 1, [1, 0, 1]), (19, 0, 0, 33, 0, []), (2, 0, 0, 0, 0, []), (6, 56, 0, 0, 0, []), (6, 4, 0, 0, 0, []), (0, 0, 0, 1, 0, []), (8, 0, 0, 0, 2, []), (8, 0, 0, 0, 0, []), (6, 1, 0, 0, 0, []), (8, 0, 0, 0, 0, []), (6, 0, 0, 0, 0, []), (6, 60, 0, 0, 0, []), (0, 0, 0, 2, 0, []), (6, 0, 0, 0, 0, []), (31, 0, 0, 146, 6, [1, 9, 11]), (21, 0, 0, 34, 0, []), (6, (-1000001), 0, 0, 0, []), (32, 0, 0, 0, 0, [])]
/-- RailOfHeadsModel.trace.(I)I -/
def mx_p189 : List mx_Op := [(45, 0, 0, 0, 0, [1, 1]), (2, 0, 0, 0, 0, []), (6, 0, 0, 0, 0, []), (24, 0, 0, 8, 0, []), (0, 0, 0, 1, 0, []), (14, 0, 0, 0, 0, []), (7, 0, 0, 0, 0, []), (2, 0, 0, 0, 0, []), (23, 0, 0, 8, 32, []), (6, 1, 0, 0, 0, []), (8, 0, 0, 0, 1, []), (14, 0, 0, 0, 0, []), (31, 0, 0, 115, 3, [1, 0, 6]), (19, 0, 0, 19, 0, []), (2, 0, 0, 0, 0, []), (23, 0, 0, 8, 31, []), (0, 0, 0, 1, 0, []), (25, 0, 0, 0, 0, []), (21, 0, 0, 20, 0, []), (6, (-1000000), 0, 0, 0, []), (32, 0, 0, 0, 0, [])]
/-- RailOfHeadsModel.visitor.(II)I -/
def mx_p190 : List mx_Op := [(45, 0, 0, 0, 0, [1, 1, 1, 1, 1]), (2, 0, 0, 0, 0, []), (6, 0, 0, 0, 0, []), (24, 0, 0, 8, 0, []), (2, 0, 0, 0, 0, []), (0, 0, 0, 1, 0, []), (31, 0, 0, 116, 2, [1, 9, 2]), (19, 0, 0, 10, 1, []), (6, (-1000001), 0, 0, 0, []), (32, 0, 0, 0, 0, []), (2, 0, 0, 0, 0, []), (23, 0, 0, 8, 8, []), (6, 14, 0, 0, 0, []), (0, 0, 0, 1, 0, []), (8, 0, 0, 0, 2, []), (6, 0, 0, 0, 0, []), (8, 0, 0, 0, 0, []), (25, 0, 0, 0, 0, []), (3, 0, 0, 3, 0, []), (0, 0, 0, 3, 0, []), (19, 0, 0, 23, 3, []), (6, (-1000000), 0, 0, 0, []), (21, 0, 0, 28, 0, []), (2, 0, 0, 0, 0, []), (2, 0, 0, 0, 0, []), (23, 0, 0, 8, 8, []), (0, 0, 0, 1, 0, []), (31, 0, 0, 114, 3, [1, 9, 10]), (3, 0, 0, 4, 0, []), (0, 0, 0, 2, 0, []), (22, 0, 0, 77, 0, [31, 35, 41, 48, 48, 48, 48, 59, 61]), (2, 0, 0, 0, 0, []), (0, 0, 0, 1, 0, []), (31, 0, 0, 110, 2, [1, 9, 4]), (32, 0, 0, 0, 0, []), (0, 0, 0, 3, 0, []), (19, 0, 0, 39, 3, []), (6, (-1000000), 0, 0, 0, []), (21, 0, 0, 40, 0, []), (0, 0, 0, 3, 0, []), (32, 0, 0, 0, 0, []), (0, 0, 0, 3, 0, []), (6, (-2), 0, 0, 0, []), (20, 0, 0, 46, 1, []), (6, 1, 0, 0, 0, []), (21, 0, 0, 47, 0, []), (6, 0, 0, 0, 0, []), (32, 0, 0, 0, 0, []), (2, 0, 0, 0, 0, []), (23, 0, 0, 8, 8, []), (6, 14, 0, 0, 0, []), (0, 0, 0, 1, 0, []), (8, 0, 0, 0, 2, []), (0, 0, 0, 2, 0, []), (8, 0, 0, 0, 0, []), (6, 2, 0, 0, 0, []), (8, 0, 0, 0, 1, []), (25, 0, 0, 0, 0, []), (32, 0, 0, 0, 0, []), (0, 0, 0, 4, 0, []), (32, 0, 0, 0, 0, []), (0, 0, 0, 4, 0, []), (6, (-1000000), 0, 0, 0, []), (20, 0, 0, 66, 1, []), (6, 0, 0, 0, 0, []), (21, 0, 0, 76, 0, []), (2, 0, 0, 0, 0, []), (23, 0, 0, 8, 8, []), (6, 14, 0, 0, 0, []), (0, 0, 0, 1, 0, []), (8, 0, 0, 0, 2, []), (6, 6, 0, 0, 0, []), (8, 0, 0, 0, 0, []), (0, 0, 0, 4, 0, []), (8, 0, 0, 0, 0, []), (25, 0, 0, 0, 0, []), (32, 0, 0, 0, 0, []), (6, (-1000001), 0, 0, 0, []), (32, 0, 0, 0, 0, [])]
/-- RailOfHeadsLaw.law.([I)Z -/
def mx_p191 : List mx_Op := [(45, 0, 0, 0, 0, [1, 1, 1, 1]), (99, 0, 0, 0, 0, []), (17, 0, 0, 0, 0, []), (99, 0, 0, 0, 0, []), (5, 0, 0, 1, 0, []), (99, 0, 0, 0, 0, []), (17, 0, 0, 0, 0, []), (99, 0, 0, 0, 0, []), (5, 0, 0, 2, 0, []), (6, 0, 0, 0, 0, []), (3, 0, 0, 3, 0, []), (45, 0, 0, 11, 0, [1, 1, 1, 1]), (0, 0, 0, 3, 0, []), (2, 0, 0, 0, 0, []), (44, 0, 0, 0, 0, []), (6, 6, 0, 0, 0, []), (8, 0, 0, 0, 1, []), (20, 0, 0, 746, 4, []), (2, 0, 0, 0, 0, []), (0, 0, 0, 3, 0, []), (43, 0, 0, 0, 0, []), (6, 31, 0, 0, 0, []), (8, 0, 0, 0, 3, []), (22, 0, 0, 744, 0, [24, 61, 98, 155, 172, 223, 230, 237, 264, 281, 308, 335, 362, 389, 426, 453, 480, 517, 544, 551, 598, 615, 632, 649, 676, 703, 720, 737]), (2, 0, 0, 1, 0, []), (2, 0, 0, 0, 0, []), (0, 0, 0, 3, 0, []), (6, 1, 0, 0, 0, []), (8, 0, 0, 0, 0, []), (43, 0, 0, 0, 0, []), (2, 0, 0, 0, 0, []), (0, 0, 0, 3, 0, []), (6, 2, 0, 0, 0, []), (8, 0, 0, 0, 0, []), (43, 0, 0, 0, 0, []), (2, 0, 0, 0, 0, []), (0, 0, 0, 3, 0, []), (6, 3, 0, 0, 0, []), (8, 0, 0, 0, 0, []), (43, 0, 0, 0, 0, []), (31, 0, 0, 101, 4, [1, 8, 4]), (2, 0, 0, 2, 0, []), (2, 0, 0, 0, 0, []), (0, 0, 0, 3, 0, []), (6, 1, 0, 0, 0, []), (8, 0, 0, 0, 0, []), (43, 0, 0, 0, 0, []), (2, 0, 0, 0, 0, []), (0, 0, 0, 3, 0, []), (6, 2, 0, 0, 0, []), (8, 0, 0, 0, 0, []), (43, 0, 0, 0, 0, []), (2, 0, 0, 0, 0, []), (0, 0, 0, 3, 0, []), (6, 3, 0, 0, 0, []), (8, 0, 0, 0, 0, []), (43, 0, 0, 0, 0, []), (31, 0, 0, 183, 4, [1, 9, 5]), (20, 0, 0, 744, 0, []), (6, 0, 0, 0, 0, []), (32, 0, 0, 0, 1, []), (2, 0, 0, 1, 0, []), (2, 0, 0, 0, 0, []), (0, 0, 0, 3, 0, []), (6, 1, 0, 0, 0, []), (8, 0, 0, 0, 0, []), (43, 0, 0, 0, 0, []), (2, 0, 0, 0, 0, []), (0, 0, 0, 3, 0, []), (6, 2, 0, 0, 0, []), (8, 0, 0, 0, 0, []), (43, 0, 0, 0, 0, []), (2, 0, 0, 0, 0, []), (0, 0, 0, 3, 0, []), (6, 3, 0, 0, 0, []), (8, 0, 0, 0, 0, []), (43, 0, 0, 0, 0, []), (31, 0, 0, 105, 4, [1, 8, 5]), (2, 0, 0, 2, 0, []), (2, 0, 0, 0, 0, []), (0, 0, 0, 3, 0, []), (6, 1, 0, 0, 0, []), (8, 0, 0, 0, 0, []), (43, 0, 0, 0, 0, []), (2, 0, 0, 0, 0, []), (0, 0, 0, 3, 0, []), (6, 2, 0, 0, 0, []), (8, 0, 0, 0, 0, []), (43, 0, 0, 0, 0, []), (2, 0, 0, 0, 0, []), (0, 0, 0, 3, 0, []), (6, 3, 0, 0, 0, []), (8, 0, 0, 0, 0, []), (43, 0, 0, 0, 0, []), (31, 0, 0, 186, 4, [1, 9, 4]), (20, 0, 0, 744, 0, []), (6, 0, 0, 0, 0, []), (32, 0, 0, 0, 1, []), (2, 0, 0, 1, 0, []), (2, 0, 0, 0, 0, []), (0, 0, 0, 3, 0, []), (6, 1, 0, 0, 0, []), (8, 0, 0, 0, 0, []), (43, 0, 0, 0, 0, []), (2, 0, 0, 0, 0, []), (0, 0, 0, 3, 0, []), (6, 2, 0, 0, 0, []), (8, 0, 0, 0, 0, []), (43, 0, 0, 0, 0, []), (2, 0, 0, 0, 0, []), (0, 0, 0, 3, 0, []), (6, 3, 0, 0, 0, []), (8, 0, 0, 0, 0, []), (43, 0, 0, 0, 0, []), (2, 0, 0, 0, 0, []), (0, 0, 0, 3, 0, []), (6, 4, 0, 0, 0, []), (8, 0, 0, 0, 0, []), (43, 0, 0, 0, 0, []), (2, 0, 0, 0, 0, []), (0, 0, 0, 3, 0, []), (6, 5, 0, 0, 0, []), (8, 0, 0, 0, 0, []), (43, 0, 0, 0, 0, []), (31, 0, 0, 78, 6, [1, 8, 8]), (2, 0, 0, 2, 0, []), (2, 0, 0, 0, 0, []), (0, 0, 0, 3, 0, []), (6, 1, 0, 0, 0, []), (8, 0, 0, 0, 0, []), (43, 0, 0, 0, 0, []), (2, 0, 0, 0, 0, []), (0, 0, 0, 3, 0, []), (6, 2, 0, 0, 0, []), (8, 0, 0, 0, 0, []), (43, 0, 0, 0, 0, []), (2, 0, 0, 0, 0, []), (0, 0, 0, 3, 0, []), (6, 3, 0, 0, 0, []), (8, 0, 0, 0, 0, []), (43, 0, 0, 0, 0, []), (2, 0, 0, 0, 0, []), (0, 0, 0, 3, 0, []), (6, 4, 0, 0, 0, []), (8, 0, 0, 0, 0, []), (43, 0, 0, 0, 0, []), (2, 0, 0, 0, 0, []), (0, 0, 0, 3, 0, []), (6, 5, 0, 0, 0, []), (8, 0, 0, 0, 0, []), (43, 0, 0, 0, 0, []), (31, 0, 0, 150, 6, [1, 9, 9]), (20, 0, 0, 744, 0, []), (6, 0, 0, 0, 0, []), (32, 0, 0, 0, 1, []), (2, 0, 0, 1, 0, []), (2, 0, 0, 0, 0, []), (0, 0, 0, 3, 0, []), (6, 1, 0, 0, 0, []), (8, 0, 0, 0, 0, []), (43, 0, 0, 0, 0, []), (31, 0, 0, 84, 2, [1, 8, 2]), (2, 0, 0, 2, 0, []), (2, 0, 0, 0, 0, []), (0, 0, 0, 3, 0, []), (6, 1, 0, 0, 0, []), (8, 0, 0, 0, 0, []), (43, 0, 0, 0, 0, []), (31, 0, 0, 155, 2, [1, 9, 2]), (20, 0, 0, 744, 0, []), (6, 0, 0, 0, 0, []), (32, 0, 0, 0, 1, []), (2, 0, 0, 1, 0, []), (2, 0, 0, 0, 0, []), (0, 0, 0, 3, 0, []), (6, 1, 0, 0, 0, []), (8, 0, 0, 0, 0, []), (43, 0, 0, 0, 0, []), (14, 0, 0, 0, 0, []), (6, 32, 0, 0, 0, []), (12, 0, 0, 0, 0, []), (2, 0, 0, 0, 0, []), (0, 0, 0, 3, 0, []), (6, 2, 0, 0, 0, []), (8, 0, 0, 0, 0, []), (43, 0, 0, 0, 0, []), (14, 0, 0, 0, 0, []), (7, 0, 4294967295, 0, 0, []), (11, 0, 0, 0, 1, []), (11, 0, 0, 0, 2, []), (2, 0, 0, 0, 0, []), (0, 0, 0, 3, 0, []), (6, 3, 0, 0, 0, []), (8, 0, 0, 0, 0, []), (43, 0, 0, 0, 0, []), (31, 0, 0, 87, 3, [1, 8, 5]), (2, 0, 0, 2, 0, []), (2, 0, 0, 0, 0, []), (0, 0, 0, 3, 0, []), (6, 1, 0, 0, 0, []), (8, 0, 0, 0, 0, []), (43, 0, 0, 0, 0, []), (14, 0, 0, 0, 0, []), (6, 32, 0, 0, 0, []), (12, 0, 0, 0, 0, []), (2, 0, 0, 0, 0, []), (0, 0, 0, 3, 0, []), (6, 2, 0, 0, 0, []), (8, 0, 0, 0, 0, []), (43, 0, 0, 0, 0, []), (14, 0, 0, 0, 0, []), (7, 0, 4294967295, 0, 0, []), (11, 0, 0, 0, 1, []), (11, 0, 0, 0, 2, []), (2, 0, 0, 0, 0, []), (0, 0, 0, 3, 0, []), (6, 3, 0, 0, 0, []), (8, 0, 0, 0, 0, []), (43, 0, 0, 0, 0, []), (31, 0, 0, 158, 3, [1, 9, 5]), (20, 0, 0, 744, 0, []), (6, 0, 0, 0, 0, []), (32, 0, 0, 0, 1, []), (2, 0, 0, 1, 0, []), (31, 0, 0, 92, 1, [1, 8, 1]), (2, 0, 0, 2, 0, []), (31, 0, 0, 174, 1, [1, 9, 2]), (20, 0, 0, 744, 0, []), (6, 0, 0, 0, 0, []), (32, 0, 0, 0, 1, []), (2, 0, 0, 1, 0, []), (31, 0, 0, 86, 1, [1, 8, 1]), (2, 0, 0, 2, 0, []), (31, 0, 0, 157, 1, [1, 9, 1]), (20, 0, 0, 744, 0, []), (6, 0, 0, 0, 0, []), (32, 0, 0, 0, 1, []), (2, 0, 0, 1, 0, []), (2, 0, 0, 0, 0, []), (0, 0, 0, 3, 0, []), (6, 1, 0, 0, 0, []), (8, 0, 0, 0, 0, []), (43, 0, 0, 0, 0, []), (2, 0, 0, 0, 0, []), (0, 0, 0, 3, 0, []), (6, 2, 0, 0, 0, []), (8, 0, 0, 0, 0, []), (43, 0, 0, 0, 0, []), (31, 0, 0, 85, 3, [1, 8, 4]), (2, 0, 0, 2, 0, []), (2, 0, 0, 0, 0, []), (0, 0, 0, 3, 0, []), (6, 1, 0, 0, 0, []), (8, 0, 0, 0, 0, []), (43, 0, 0, 0, 0, []), (2, 0, 0, 0, 0, []), (0, 0, 0, 3, 0, []), (6, 2, 0, 0, 0, []), (8, 0, 0, 0, 0, []), (43, 0, 0, 0, 0, []), (31, 0, 0, 156, 3, [1, 9, 3]), (20, 0, 0, 744, 0, []), (6, 0, 0, 0, 0, []), (32, 0, 0, 0, 1, []), (2, 0, 0, 1, 0, []), (2, 0, 0, 0, 0, []), (0, 0, 0, 3, 0, []), (6, 1, 0, 0, 0, []), (8, 0, 0, 0, 0, []), (43, 0, 0, 0, 0, []), (31, 0, 0, 89, 2, [1, 8, 3]), (2, 0, 0, 2, 0, []), (2, 0, 0, 0, 0, []), (0, 0, 0, 3, 0, []), (6, 1, 0, 0, 0, []), (8, 0, 0, 0, 0, []), (43, 0, 0, 0, 0, []), (31, 0, 0, 161, 2, [1, 9, 3]), (20, 0, 0, 744, 0, []), (6, 0, 0, 0, 0, []), (32, 0, 0, 0, 1, []), (2, 0, 0, 1, 0, []), (2, 0, 0, 0, 0, []), (0, 0, 0, 3, 0, []), (6, 1, 0, 0, 0, []), (8, 0, 0, 0, 0, []), (43, 0, 0, 0, 0, []), (2, 0, 0, 0, 0, []), (0, 0, 0, 3, 0, []), (6, 2, 0, 0, 0, []), (8, 0, 0, 0, 0, []), (43, 0, 0, 0, 0, []), (31, 0, 0, 102, 3, [1, 8, 3]), (2, 0, 0, 2, 0, []), (2, 0, 0, 0, 0, []), (0, 0, 0, 3, 0, []), (6, 1, 0, 0, 0, []), (8, 0, 0, 0, 0, []), (43, 0, 0, 0, 0, []), (2, 0, 0, 0, 0, []), (0, 0, 0, 3, 0, []), (6, 2, 0, 0, 0, []), (8, 0, 0, 0, 0, []), (43, 0, 0, 0, 0, []), (31, 0, 0, 184, 3, [1, 9, 3]), (20, 0, 0, 744, 0, []), (6, 0, 0, 0, 0, []), (32, 0, 0, 0, 1, []), (2, 0, 0, 1, 0, []), (2, 0, 0, 0, 0, []), (0, 0, 0, 3, 0, []), (6, 1, 0, 0, 0, []), (8, 0, 0, 0, 0, []), (43, 0, 0, 0, 0, []), (2, 0, 0, 0, 0, []), (0, 0, 0, 3, 0, []), (6, 2, 0, 0, 0, []), (8, 0, 0, 0, 0, []), (43, 0, 0, 0, 0, []), (31, 0, 0, 109, 3, [1, 8, 5]), (2, 0, 0, 2, 0, []), (2, 0, 0, 0, 0, []), (0, 0, 0, 3, 0, []), (6, 1, 0, 0, 0, []), (8, 0, 0, 0, 0, []), (43, 0, 0, 0, 0, []), (2, 0, 0, 0, 0, []), (0, 0, 0, 3, 0, []), (6, 2, 0, 0, 0, []), (8, 0, 0, 0, 0, []), (43, 0, 0, 0, 0, []), (31, 0, 0, 190, 3, [1, 9, 5]), (20, 0, 0, 744, 0, []), (6, 0, 0, 0, 0, []), (32, 0, 0, 0, 1, []), (2, 0, 0, 1, 0, []), (2, 0, 0, 0, 0, []), (0, 0, 0, 3, 0, []), (6, 1, 0, 0, 0, []), (8, 0, 0, 0, 0, []), (43, 0, 0, 0, 0, []), (2, 0, 0, 0, 0, []), (0, 0, 0, 3, 0, []), (6, 2, 0, 0, 0, []), (8, 0, 0, 0, 0, []), (43, 0, 0, 0, 0, []), (31, 0, 0, 99, 3, [1, 8, 3]), (2, 0, 0, 2, 0, []), (2, 0, 0, 0, 0, []), (0, 0, 0, 3, 0, []), (6, 1, 0, 0, 0, []), (8, 0, 0, 0, 0, []), (43, 0, 0, 0, 0, []), (2, 0, 0, 0, 0, []), (0, 0, 0, 3, 0, []), (6, 2, 0, 0, 0, []), (8, 0, 0, 0, 0, []), (43, 0, 0, 0, 0, []), (31, 0, 0, 182, 3, [1, 9, 3]), (20, 0, 0, 744, 0, []), (6, 0, 0, 0, 0, []), (32, 0, 0, 0, 1, []), (2, 0, 0, 1, 0, []), (2, 0, 0, 0, 0, []), (0, 0, 0, 3, 0, []), (6, 1, 0, 0, 0, []), (8, 0, 0, 0, 0, []), (43, 0, 0, 0, 0, []), (2, 0, 0, 0, 0, []), (0, 0, 0, 3, 0, []), (6, 2, 0, 0, 0, []), (8, 0, 0, 0, 0, []), (43, 0, 0, 0, 0, []), (31, 0, 0, 103, 3, [1, 8, 3]), (2, 0, 0, 2, 0, []), (2, 0, 0, 0, 0, []), (0, 0, 0, 3, 0, []), (6, 1, 0, 0, 0, []), (8, 0, 0, 0, 0, []), (43, 0, 0, 0, 0, []), (2, 0, 0, 0, 0, []), (0, 0, 0, 3, 0, []), (6, 2, 0, 0, 0, []), (8, 0, 0, 0, 0, []), (43, 0, 0, 0, 0, []), (31, 0, 0, 185, 3, [1, 9, 3]), (20, 0, 0, 744, 0, []), (6, 0, 0, 0, 0, []), (32, 0, 0, 0, 1, []), (2, 0, 0, 1, 0, []), (2, 0, 0, 0, 0, []), (0, 0, 0, 3, 0, []), (6, 1, 0, 0, 0, []), (8, 0, 0, 0, 0, []), (43, 0, 0, 0, 0, []), (2, 0, 0, 0, 0, []), (0, 0, 0, 3, 0, []), (6, 2, 0, 0, 0, []), (8, 0, 0, 0, 0, []), (43, 0, 0, 0, 0, []), (2, 0, 0, 0, 0, []), (0, 0, 0, 3, 0, []), (6, 3, 0, 0, 0, []), (8, 0, 0, 0, 0, []), (43, 0, 0, 0, 0, []), (31, 0, 0, 76, 4, [1, 8, 4]), (2, 0, 0, 2, 0, []), (2, 0, 0, 0, 0, []), (0, 0, 0, 3, 0, []), (6, 1, 0, 0, 0, []), (8, 0, 0, 0, 0, []), (43, 0, 0, 0, 0, []), (2, 0, 0, 0, 0, []), (0, 0, 0, 3, 0, []), (6, 2, 0, 0, 0, []), (8, 0, 0, 0, 0, []), (43, 0, 0, 0, 0, []), (2, 0, 0, 0, 0, []), (0, 0, 0, 3, 0, []), (6, 3, 0, 0, 0, []), (8, 0, 0, 0, 0, []), (43, 0, 0, 0, 0, []), (31, 0, 0, 148, 4, [1, 9, 4]), (20, 0, 0, 744, 0, []), (6, 0, 0, 0, 0, []), (32, 0, 0, 0, 1, []), (2, 0, 0, 1, 0, []), (2, 0, 0, 0, 0, []), (0, 0, 0, 3, 0, []), (6, 1, 0, 0, 0, []), (8, 0, 0, 0, 0, []), (43, 0, 0, 0, 0, []), (2, 0, 0, 0, 0, []), (0, 0, 0, 3, 0, []), (6, 2, 0, 0, 0, []), (8, 0, 0, 0, 0, []), (43, 0, 0, 0, 0, []), (31, 0, 0, 107, 3, [1, 8, 7]), (2, 0, 0, 2, 0, []), (2, 0, 0, 0, 0, []), (0, 0, 0, 3, 0, []), (6, 1, 0, 0, 0, []), (8, 0, 0, 0, 0, []), (43, 0, 0, 0, 0, []), (2, 0, 0, 0, 0, []), (0, 0, 0, 3, 0, []), (6, 2, 0, 0, 0, []), (8, 0, 0, 0, 0, []), (43, 0, 0, 0, 0, []), (31, 0, 0, 188, 3, [1, 9, 3]), (20, 0, 0, 744, 0, []), (6, 0, 0, 0, 0, []), (32, 0, 0, 0, 1, []), (2, 0, 0, 1, 0, []), (2, 0, 0, 0, 0, []), (0, 0, 0, 3, 0, []), (6, 1, 0, 0, 0, []), (8, 0, 0, 0, 0, []), (43, 0, 0, 0, 0, []), (2, 0, 0, 0, 0, []), (0, 0, 0, 3, 0, []), (6, 2, 0, 0, 0, []), (8, 0, 0, 0, 0, []), (43, 0, 0, 0, 0, []), (31, 0, 0, 96, 3, [1, 8, 4]), (2, 0, 0, 2, 0, []), (2, 0, 0, 0, 0, []), (0, 0, 0, 3, 0, []), (6, 1, 0, 0, 0, []), (8, 0, 0, 0, 0, []), (43, 0, 0, 0, 0, []), (2, 0, 0, 0, 0, []), (0, 0, 0, 3, 0, []), (6, 2, 0, 0, 0, []), (8, 0, 0, 0, 0, []), (43, 0, 0, 0, 0, []), (31, 0, 0, 179, 3, [1, 9, 6]), (20, 0, 0, 744, 0, []), (6, 0, 0, 0, 0, []), (32, 0, 0, 0, 1, []), (2, 0, 0, 1, 0, []), (2, 0, 0, 0, 0, []), (0, 0, 0, 3, 0, []), (6, 1, 0, 0, 0, []), (8, 0, 0, 0, 0, []), (43, 0, 0, 0, 0, []), (2, 0, 0, 0, 0, []), (0, 0, 0, 3, 0, []), (6, 2, 0, 0, 0, []), (8, 0, 0, 0, 0, []), (43, 0, 0, 0, 0, []), (2, 0, 0, 0, 0, []), (0, 0, 0, 3, 0, []), (6, 3, 0, 0, 0, []), (8, 0, 0, 0, 0, []), (43, 0, 0, 0, 0, []), (31, 0, 0, 97, 4, [1, 8, 5]), (2, 0, 0, 2, 0, []), (2, 0, 0, 0, 0, []), (0, 0, 0, 3, 0, []), (6, 1, 0, 0, 0, []), (8, 0, 0, 0, 0, []), (43, 0, 0, 0, 0, []), (2, 0, 0, 0, 0, []), (0, 0, 0, 3, 0, []), (6, 2, 0, 0, 0, []), (8, 0, 0, 0, 0, []), (43, 0, 0, 0, 0, []), (2, 0, 0, 0, 0, []), (0, 0, 0, 3, 0, []), (6, 3, 0, 0, 0, []), (8, 0, 0, 0, 0, []), (43, 0, 0, 0, 0, []), (31, 0, 0, 180, 4, [1, 9, 6]), (20, 0, 0, 744, 0, []), (6, 0, 0, 0, 0, []), (32, 0, 0, 0, 1, []), (2, 0, 0, 1, 0, []), (2, 0, 0, 0, 0, []), (0, 0, 0, 3, 0, []), (6, 1, 0, 0, 0, []), (8, 0, 0, 0, 0, []), (43, 0, 0, 0, 0, []), (2, 0, 0, 0, 0, []), (0, 0, 0, 3, 0, []), (6, 2, 0, 0, 0, []), (8, 0, 0, 0, 0, []), (43, 0, 0, 0, 0, []), (31, 0, 0, 93, 3, [1, 8, 5]), (2, 0, 0, 2, 0, []), (2, 0, 0, 0, 0, []), (0, 0, 0, 3, 0, []), (6, 1, 0, 0, 0, []), (8, 0, 0, 0, 0, []), (43, 0, 0, 0, 0, []), (2, 0, 0, 0, 0, []), (0, 0, 0, 3, 0, []), (6, 2, 0, 0, 0, []), (8, 0, 0, 0, 0, []), (43, 0, 0, 0, 0, []), (31, 0, 0, 176, 3, [1, 9, 8]), (20, 0, 0, 744, 0, []), (6, 0, 0, 0, 0, []), (32, 0, 0, 0, 1, []), (2, 0, 0, 1, 0, []), (31, 0, 0, 88, 1, [1, 8, 5]), (2, 0, 0, 2, 0, []), (31, 0, 0, 160, 1, [1, 9, 5]), (20, 0, 0, 744, 0, []), (6, 0, 0, 0, 0, []), (32, 0, 0, 0, 1, []), (2, 0, 0, 1, 0, []), (2, 0, 0, 0, 0, []), (0, 0, 0, 3, 0, []), (6, 1, 0, 0, 0, []), (8, 0, 0, 0, 0, []), (43, 0, 0, 0, 0, []), (2, 0, 0, 0, 0, []), (0, 0, 0, 3, 0, []), (6, 2, 0, 0, 0, []), (8, 0, 0, 0, 0, []), (43, 0, 0, 0, 0, []), (2, 0, 0, 0, 0, []), (0, 0, 0, 3, 0, []), (6, 3, 0, 0, 0, []), (8, 0, 0, 0, 0, []), (43, 0, 0, 0, 0, []), (2, 0, 0, 0, 0, []), (0, 0, 0, 3, 0, []), (6, 4, 0, 0, 0, []), (8, 0, 0, 0, 0, []), (43, 0, 0, 0, 0, []), (31, 0, 0, 83, 5, [1, 8, 6]), (2, 0, 0, 2, 0, []), (2, 0, 0, 0, 0, []), (0, 0, 0, 3, 0, []), (6, 1, 0, 0, 0, []), (8, 0, 0, 0, 0, []), (43, 0, 0, 0, 0, []), (2, 0, 0, 0, 0, []), (0, 0, 0, 3, 0, []), (6, 2, 0, 0, 0, []), (8, 0, 0, 0, 0, []), (43, 0, 0, 0, 0, []), (2, 0, 0, 0, 0, []), (0, 0, 0, 3, 0, []), (6, 3, 0, 0, 0, []), (8, 0, 0, 0, 0, []), (43, 0, 0, 0, 0, []), (2, 0, 0, 0, 0, []), (0, 0, 0, 3, 0, []), (6, 4, 0, 0, 0, []), (8, 0, 0, 0, 0, []), (43, 0, 0, 0, 0, []), (31, 0, 0, 154, 5, [1, 9, 9]), (20, 0, 0, 744, 0, []), (6, 0, 0, 0, 0, []), (32, 0, 0, 0, 1, []), (2, 0, 0, 1, 0, []), (2, 0, 0, 0, 0, []), (0, 0, 0, 3, 0, []), (6, 1, 0, 0, 0, []), (8, 0, 0, 0, 0, []), (43, 0, 0, 0, 0, []), (31, 0, 0, 94, 2, [1, 8, 2]), (2, 0, 0, 2, 0, []), (2, 0, 0, 0, 0, []), (0, 0, 0, 3, 0, []), (6, 1, 0, 0, 0, []), (8, 0, 0, 0, 0, []), (43, 0, 0, 0, 0, []), (31, 0, 0, 177, 2, [1, 9, 3]), (20, 0, 0, 744, 0, []), (6, 0, 0, 0, 0, []), (32, 0, 0, 0, 1, []), (2, 0, 0, 1, 0, []), (2, 0, 0, 0, 0, []), (0, 0, 0, 3, 0, []), (6, 1, 0, 0, 0, []), (8, 0, 0, 0, 0, []), (43, 0, 0, 0, 0, []), (31, 0, 0, 98, 2, [1, 8, 2]), (2, 0, 0, 2, 0, []), (2, 0, 0, 0, 0, []), (0, 0, 0, 3, 0, []), (6, 1, 0, 0, 0, []), (8, 0, 0, 0, 0, []), (43, 0, 0, 0, 0, []), (31, 0, 0, 181, 2, [1, 9, 3]), (20, 0, 0, 744, 0, []), (6, 0, 0, 0, 0, []), (32, 0, 0, 0, 1, []), (2, 0, 0, 1, 0, []), (2, 0, 0, 0, 0, []), (0, 0, 0, 3, 0, []), (6, 1, 0, 0, 0, []), (8, 0, 0, 0, 0, []), (43, 0, 0, 0, 0, []), (31, 0, 0, 95, 2, [1, 8, 2]), (2, 0, 0, 2, 0, []), (2, 0, 0, 0, 0, []), (0, 0, 0, 3, 0, []), (6, 1, 0, 0, 0, []), (8, 0, 0, 0, 0, []), (43, 0, 0, 0, 0, []), (31, 0, 0, 178, 2, [1, 9, 2]), (20, 0, 0, 744, 0, []), (6, 0, 0, 0, 0, []), (32, 0, 0, 0, 1, []), (2, 0, 0, 1, 0, []), (2, 0, 0, 0, 0, []), (0, 0, 0, 3, 0, []), (6, 1, 0, 0, 0, []), (8, 0, 0, 0, 0, []), (43, 0, 0, 0, 0, []), (2, 0, 0, 0, 0, []), (0, 0, 0, 3, 0, []), (6, 2, 0, 0, 0, []), (8, 0, 0, 0, 0, []), (43, 0, 0, 0, 0, []), (31, 0, 0, 70, 3, [1, 8, 5]), (2, 0, 0, 2, 0, []), (2, 0, 0, 0, 0, []), (0, 0, 0, 3, 0, []), (6, 1, 0, 0, 0, []), (8, 0, 0, 0, 0, []), (43, 0, 0, 0, 0, []), (2, 0, 0, 0, 0, []), (0, 0, 0, 3, 0, []), (6, 2, 0, 0, 0, []), (8, 0, 0, 0, 0, []), (43, 0, 0, 0, 0, []), (31, 0, 0, 120, 3, [1, 9, 3]), (20, 0, 0, 744, 0, []), (6, 0, 0, 0, 0, []), (32, 0, 0, 0, 1, []), (2, 0, 0, 1, 0, []), (2, 0, 0, 0, 0, []), (0, 0, 0, 3, 0, []), (6, 1, 0, 0, 0, []), (8, 0, 0, 0, 0, []), (43, 0, 0, 0, 0, []), (2, 0, 0, 0, 0, []), (0, 0, 0, 3, 0, []), (6, 2, 0, 0, 0, []), (8, 0, 0, 0, 0, []), (43, 0, 0, 0, 0, []), (31, 0, 0, 71, 3, [1, 8, 3]), (2, 0, 0, 2, 0, []), (2, 0, 0, 0, 0, []), (0, 0, 0, 3, 0, []), (6, 1, 0, 0, 0, []), (8, 0, 0, 0, 0, []), (43, 0, 0, 0, 0, []), (2, 0, 0, 0, 0, []), (0, 0, 0, 3, 0, []), (6, 2, 0, 0, 0, []), (8, 0, 0, 0, 0, []), (43, 0, 0, 0, 0, []), (31, 0, 0, 125, 3, [1, 9, 3]), (20, 0, 0, 744, 0, []), (6, 0, 0, 0, 0, []), (32, 0, 0, 0, 1, []), (2, 0, 0, 1, 0, []), (2, 0, 0, 0, 0, []), (0, 0, 0, 3, 0, []), (6, 1, 0, 0, 0, []), (8, 0, 0, 0, 0, []), (43, 0, 0, 0, 0, []), (31, 0, 0, 108, 2, [1, 8, 2]), (2, 0, 0, 2, 0, []), (2, 0, 0, 0, 0, []), (0, 0, 0, 3, 0, []), (6, 1, 0, 0, 0, []), (8, 0, 0, 0, 0, []), (43, 0, 0, 0, 0, []), (31, 0, 0, 189, 2, [1, 9, 2]), (20, 0, 0, 744, 0, []), (6, 0, 0, 0, 0, []), (32, 0, 0, 0, 1, []), (2, 0, 0, 1, 0, []), (2, 0, 0, 0, 0, []), (0, 0, 0, 3, 0, []), (6, 1, 0, 0, 0, []), (8, 0, 0, 0, 0, []), (43, 0, 0, 0, 0, []), (31, 0, 0, 80, 2, [1, 8, 2]), (2, 0, 0, 2, 0, []), (2, 0, 0, 0, 0, []), (0, 0, 0, 3, 0, []), (6, 1, 0, 0, 0, []), (8, 0, 0, 0, 0, []), (43, 0, 0, 0, 0, []), (31, 0, 0, 151, 2, [1, 9, 4]), (20, 0, 0, 744, 0, []), (6, 0, 0, 0, 0, []), (32, 0, 0, 0, 1, []), (2, 0, 0, 1, 0, []), (31, 0, 0, 106, 1, [1, 8, 1]), (2, 0, 0, 2, 0, []), (31, 0, 0, 187, 1, [1, 9, 1]), (20, 0, 0, 744, 0, []), (6, 0, 0, 0, 0, []), (32, 0, 0, 0, 1, []), (16, 6, 0, 3, 0, []), (21, 0, 0, 11, 0, []), (6, 1, 0, 0, 0, []), (32, 0, 0, 0, 1, [])]
def mx_prT : List (List mx_Op) := [mx_p0, mx_p1, mx_p2, mx_p3, mx_p4, mx_p5, mx_p6, mx_p7, mx_p8, mx_p9, mx_p10, mx_p11, mx_p12, mx_p13, mx_p14, mx_p15, mx_p16, mx_p17, mx_p18, mx_p19, mx_p20, mx_p21, mx_p22, mx_p23, mx_p24, mx_p25, mx_p26, mx_p27, mx_p28, mx_p29, mx_p30, mx_p31, mx_p32, mx_p33, mx_p34, mx_p35, mx_p36, mx_p37, mx_p38, mx_p39, mx_p40, mx_p41, mx_p42, mx_p43, mx_p44, mx_p45, mx_p46, mx_p47, mx_p48, mx_p49, mx_p50, mx_p51, mx_p52, mx_p53, mx_p54, mx_p55, mx_p56, mx_p57, mx_p58, mx_p59, mx_p60, mx_p61, mx_p62, mx_p63, mx_p64, mx_p65, mx_p66, mx_p67, mx_p68, mx_p69, mx_p70, mx_p71, mx_p72, mx_p73, mx_p74, mx_p75, mx_p76, mx_p77, mx_p78, mx_p79, mx_p80, mx_p81, mx_p82, mx_p83, mx_p84, mx_p85, mx_p86, mx_p87, mx_p88, mx_p89, mx_p90, mx_p91, mx_p92, mx_p93, mx_p94, mx_p95, mx_p96, mx_p97, mx_p98, mx_p99, mx_p100, mx_p101, mx_p102, mx_p103, mx_p104, mx_p105, mx_p106, mx_p107, mx_p108, mx_p109, mx_p110, mx_p111, mx_p112, mx_p113, mx_p114, mx_p115, mx_p116, mx_p117, mx_p118, mx_p119, mx_p120, mx_p121, mx_p122, mx_p123, mx_p124, mx_p125, mx_p126, mx_p127, mx_p128, mx_p129, mx_p130, mx_p131, mx_p132, mx_p133, mx_p134, mx_p135, mx_p136, mx_p137, mx_p138, mx_p139, mx_p140, mx_p141, mx_p142, mx_p143, mx_p144, mx_p145, mx_p146, mx_p147, mx_p148, mx_p149, mx_p150, mx_p151, mx_p152, mx_p153, mx_p154, mx_p155, mx_p156, mx_p157, mx_p158, mx_p159, mx_p160, mx_p161, mx_p162, mx_p163, mx_p164, mx_p165, mx_p166, mx_p167, mx_p168, mx_p169, mx_p170, mx_p171, mx_p172, mx_p173, mx_p174, mx_p175, mx_p176, mx_p177, mx_p178, mx_p179, mx_p180, mx_p181, mx_p182, mx_p183, mx_p184, mx_p185, mx_p186, mx_p187, mx_p188, mx_p189, mx_p190, mx_p191]
def mx_pr (y : Nat) : List mx_Op := mx_nthL mx_prT y
def mx_nlT : List Nat := [2, 2, 2, 2, 2, 2, 2, 2, 2, 3, 3, 3, 3, 3, 3, 1, 3, 3, 4, 5, 8, 2, 3, 2, 2, 2, 5, 5, 3, 2, 2, 5, 2, 2, 2, 2, 1, 3, 2, 2, 2, 1, 1, 4, 5, 3, 2, 1, 3, 1, 1, 1, 3, 2, 4, 4, 1, 1, 3, 5, 4, 2, 6, 2, 3, 7, 6, 2, 2, 2, 5, 3, 7, 7, 1, 1, 4, 3, 8, 3, 2, 7, 9, 6, 2, 4, 1, 5, 5, 3, 7, 7, 1, 5, 2, 2, 4, 5, 2, 3, 3, 4, 3, 3, 2, 5, 1, 7, 2, 5, 4, 3, 2, 4, 10, 6, 2, 4, 2, 2, 3, 2, 2, 5, 5, 3, 2, 2, 1, 1, 2, 1, 2, 3, 3, 5, 3, 5, 5, 9, 5, 7, 6, 3, 3, 8, 11, 1, 4, 1, 9, 4, 2, 7, 9, 2, 3, 1, 5, 3, 5, 3, 5, 4, 4, 1, 1, 3, 2, 5, 3, 2, 7, 8, 2, 4, 8, 3, 2, 6, 6, 3, 3, 5, 3, 3, 4, 1, 3, 2, 5, 4]
def mx_nl (y : Nat) : Nat := mx_nth mx_nlT y
def mx_mNT : List MethodName := [yX0_begin, yX0_body10, yX1_kindOf, yX0_body20, yX0_body24, yX0_body21, yX0_body22, yX0_body13, yX0_body14, yX0_size, yX0_body23, yX0_mark, yX0_body11, yX0_body12, yX0_size, yJ6_bitCount_0f7a4, yX1_allMissed, yX1_allSaw, yJ7_fill_53178, yX1_begin, yX1_chooseAim, yX7_isBelow, yX1_enter, yX1_leave, yX1_waitOn, yX1_comeIn, yX1_lookAt, yX1_goAbout, yX1_leastSaw, yX1_passMinute, yX1_takeOver, yX2_seenInDay, yX3_takeOver, yX6_takeOver, yX2_takePlan, yX2_takeAll, yJ0_isLatin1_aae02, yJ3_checkIndex_8e157, yJ0_checkIndex_df160, yJ1_charAt_3b067, yJ0_charAt_5068e, yJ0_coder_7d493, yJ0_length_8abf5, yX3_addDoor, yX3_addGroup, yX3_addPicture, yX3_addRoom, yX3_clear, yX7_isWithin, yX4_passName, yX4_passNumber, yX4_advance, yX4_isWord, yX4_put, yX4_takeWord, yX4_takeNumber, yX4_takeSign, yX4_readRail, yX4_readRooms, yX4_readDoors, yX4_readPictures, yX4_takeLaw, yX4_readGroups, yX4_read, yX6_openDoors, yX6_nextRoom, yX6_measure, yX7_noVisitor, yX7_unfound, yX7_finding, yX7_as, yX7_ask, yX7_bestGuard, yX7_bestRail, yX7_noHouse, yX7_noDay, yX7_bestRule, yX5_holds, yX7_copy, yX7_standingRows, yX7_count, yX7_offBy, yX7_nearestLaw, yX7_counts, yX7_drop, yX7_far, yX7_fault, yX7_feed, yX7_fire, yX7_go, yX7_hangBy, yX7_hangBest, yX7_house, yX7_hung, yX7_image, yX7_kind, yX7_oneWay, yX7_picture, yX7_restore, yX7_room, yX5_make, yX7_row, yX7_rule, yX7_seen, yX5_cut, yX7_set, yX7_status, yX7_tickets, yX7_trace, yX7_visitor, yX8_groupOf, yX8_told, yX8_lawNow, yX8_isOpen, yX8_aim, yX8_in, yX8_isVisitor, yX8_kindOf, yX8_isOf, yX8_finding, yX8_as, yX8_began, yX8_plainSize, yX8_markOf, yX8_sizeOf, yX8_ask, yX8_bad, yX8_byteAt, yX8_isLetter, yX8_isFigure, yX8_next, yX8_begin, yX8_must, yX8_begins, yX8_opens, yX8_inRoom, yX8_holdsOne, yX8_waits, yX8_enters, yX8_looks, yX8_leads, yX8_nextRoom, yX8_goes, yX8_minute, yX8_ones, yX8_dayOf, yX8_bestAt, yX8_isLong, yX8_bestRule, yX8_isRow, yX8_copy, yX8_count, yX8_isRoom, yX8_offBy, yX8_counts, yX8_drop, yX8_far, yX8_fault, yX8_feed, yX8_figures, yX8_fire, yX8_go, yX8_hang, yX8_name, yX8_number, yX8_mustEnd, yX8_readRail, yX8_mustBegin, yX8_readRoom, yX8_readDoor, yX8_readPicture, yX8_lawOf, yX8_readGroup, yX8_layFar, yX8_house, yX8_isEachOnce, yX8_hung, yX8_image, yX8_kind, yX8_oneWay, yX8_picture, yX8_restore, yX8_room, yX8_row, yX8_rule, yX8_seen, yX8_set, yX8_status, yX8_tickets, yX8_trace, yX8_visitor, yL_law]
def mx_mN (y : Nat) : MethodName := mx_mNT.getD y ⟨"", "", ""⟩
def mx_mCT : List ByteArray := [cX0_begin, cX0_body10, cX1_kindOf, cX0_body20, cX0_body24, cX0_body21, cX0_body22, cX0_body13, cX0_body14, cX0_size, cX0_body23, cX0_mark, cX0_body11, cX0_body12, cX0_size, cJ6_bitCount_0f7a4, cX1_allMissed, cX1_allSaw, cJ7_fill_53178, cX1_begin, cX1_chooseAim, cX7_isBelow, cX1_enter, cX1_leave, cX1_waitOn, cX1_comeIn, cX1_lookAt, cX1_goAbout, cX1_leastSaw, cX1_passMinute, cX1_takeOver, cX2_seenInDay, cX3_takeOver, cX6_takeOver, cX2_takePlan, cX2_takeAll, cJ0_isLatin1_aae02, cJ3_checkIndex_8e157, cJ0_checkIndex_df160, cJ1_charAt_3b067, cJ0_charAt_5068e, cJ0_coder_7d493, cJ0_length_8abf5, cX3_addDoor, cX3_addGroup, cX3_addPicture, cX3_addRoom, cX3_clear, cX7_isWithin, cX4_passName, cX4_passNumber, cX4_advance, cX4_isWord, cX4_put, cX4_takeWord, cX4_takeNumber, cX4_takeSign, cX4_readRail, cX4_readRooms, cX4_readDoors, cX4_readPictures, cX4_takeLaw, cX4_readGroups, cX4_read, cX6_openDoors, cX6_nextRoom, cX6_measure, cX7_noVisitor, cX7_unfound, cX7_finding, cX7_as, cX7_ask, cX7_bestGuard, cX7_bestRail, cX7_noHouse, cX7_noDay, cX7_bestRule, cX5_holds, cX7_copy, cX7_standingRows, cX7_count, cX7_offBy, cX7_nearestLaw, cX7_counts, cX7_drop, cX7_far, cX7_fault, cX7_feed, cX7_fire, cX7_go, cX7_hangBy, cX7_hangBest, cX7_house, cX7_hung, cX7_image, cX7_kind, cX7_oneWay, cX7_picture, cX7_restore, cX7_room, cX5_make, cX7_row, cX7_rule, cX7_seen, cX5_cut, cX7_set, cX7_status, cX7_tickets, cX7_trace, cX7_visitor, cX8_groupOf, cX8_told, cX8_lawNow, cX8_isOpen, cX8_aim, cX8_in, cX8_isVisitor, cX8_kindOf, cX8_isOf, cX8_finding, cX8_as, cX8_began, cX8_plainSize, cX8_markOf, cX8_sizeOf, cX8_ask, cX8_bad, cX8_byteAt, cX8_isLetter, cX8_isFigure, cX8_next, cX8_begin, cX8_must, cX8_begins, cX8_opens, cX8_inRoom, cX8_holdsOne, cX8_waits, cX8_enters, cX8_looks, cX8_leads, cX8_nextRoom, cX8_goes, cX8_minute, cX8_ones, cX8_dayOf, cX8_bestAt, cX8_isLong, cX8_bestRule, cX8_isRow, cX8_copy, cX8_count, cX8_isRoom, cX8_offBy, cX8_counts, cX8_drop, cX8_far, cX8_fault, cX8_feed, cX8_figures, cX8_fire, cX8_go, cX8_hang, cX8_name, cX8_number, cX8_mustEnd, cX8_readRail, cX8_mustBegin, cX8_readRoom, cX8_readDoor, cX8_readPicture, cX8_lawOf, cX8_readGroup, cX8_layFar, cX8_house, cX8_isEachOnce, cX8_hung, cX8_image, cX8_kind, cX8_oneWay, cX8_picture, cX8_restore, cX8_room, cX8_row, cX8_rule, cX8_seen, cX8_set, cX8_status, cX8_tickets, cX8_trace, cX8_visitor, cL_law]
def mx_mC (y : Nat) : ByteArray := mx_mCT.getD y ⟨#[]⟩
def mx_mRT : List (Option FieldType) := [none, some .int, some .int, some .int, some .int, some .int, some .int, some .int, some .int, some .int, some .int, some .int, some .int, some .int, some .int, some .int, some .int, some .int, none, none, some .int, some .boolean, some .boolean, none, none, none, none, none, some .int, none, none, some .int, none, none, none, none, some .boolean, some .int, none, some .char, some .char, some .byte, some .int, none, none, none, none, none, some .boolean, none, none, none, some .boolean, none, none, some .int, none, none, none, none, none, some .int, none, none, none, some .int, none, some .boolean, some .int, some .int, some .int, some .int, some .int, some .int, some .boolean, some .boolean, some .int, some .boolean, some .int, some .int, some .int, some .int, some .int, some .int, some .int, some .int, some .int, some .int, some .int, some .int, some .boolean, some .int, some .int, some .int, some .int, some .int, some .int, some .int, some .int, some .int, none, some .int, some .int, some .int, some .int, some .int, some .int, some .int, some .int, some .int, some .int, some .int, some .int, some .boolean, some .int, some .boolean, some .boolean, some .int, some .boolean, some .int, some .int, none, some .int, some .int, some .int, some .int, none, some .int, some .boolean, some .boolean, none, none, none, none, none, some .int, some .boolean, none, none, none, some .boolean, some .int, none, none, some .int, some .int, some .int, some .boolean, some .int, some .boolean, some .int, some .int, some .boolean, some .int, some .int, some .int, some .int, some .int, some .int, some .int, some .int, some .int, none, some .long, some .int, none, none, none, none, none, none, some .int, none, none, some .int, some .boolean, some .int, some .int, some .int, some .int, some .int, some .int, some .int, some .int, some .int, some .int, some .int, some .int, some .int, some .int, some .int, some .boolean]
def mx_mR (y : Nat) : Option FieldType := mx_mRT.getD y none
def mx_onT : List String := ["RailOfHeads$Asks", "RailOfHeads$Crowd", "RailOfHeads$House", "RailOfHeads$Plan", "RailOfHeads$Reader", "RailOfHeads$Row", "RailOfHeads$Ways", "RailOfHeads", "RailOfHeadsModel", "java/lang/String", "java/lang/StringLatin1", "jdk/internal/util/Preconditions", "java/lang/Integer", "java/util/Arrays", "java/lang/Math", "RailOfHeadsLaw"]
def mx_on (k : Nat) : String := mx_onT.getD k ""
def mx_nwT : List (Nat × Nat × Nat) := [(1, 136, 21), (4, 121, 48), (7, 260, 14), (7, 263, 11)]
end
section
/-! ===== what a method does ===== -/
/-- the locals at a method's entry -/
def mx_ent : Nat → List mx_V → mx_Loc
  | 0, _ => []
  | n + 1, [] => none :: mx_ent n []
  | 1, v :: _ => [some v]
  | n + 2, Sum.inr (Sum.inl x) :: as => some (Sum.inr (Sum.inl x)) :: none :: mx_ent n as
  | n + 2, v :: as => some v :: mx_ent (n + 1) as
noncomputable def mx_sem : Nat → List mx_V → mx_S → Option mx_Rt := WellFounded.fix Nat.lt_wfRel.wf (fun y ih as σ => mx_LL (fun y' as' σ' => if h : y' < y then ih y' h as' σ' else none) (mx_pr y) 0 (mx_ent (mx_nl y) as) σ)
noncomputable def mx_E (y : Nat) (y' : Nat) (as : List mx_V) (σ : mx_S) : Option mx_Rt := if y' < y then mx_sem y' as σ else none
noncomputable def mx_H (y h : Nat) (loc : mx_Loc) (σ : mx_S) : Option mx_Rt := mx_LL (mx_E y) (mx_pr y) h loc σ
theorem mx_H_eq (y h : Nat) (loc : mx_Loc) (σ : mx_S) : mx_H y h loc σ = mx_run (mx_E y) (mx_pr y) (mx_H y) 2000 ((mx_pr y).drop (h + 1)) loc [] σ := mx_LL_eq (mx_E y) (mx_pr y) h loc σ
theorem mx_sem_eq (y : Nat) (as : List mx_V) (σ : mx_S) : mx_sem y as σ = mx_run (mx_E y) (mx_pr y) (mx_H y) 2000 ((mx_pr y).drop 1) (mx_ent (mx_nl y) as) [] σ := by
  have h0 : mx_sem y as σ = mx_H y 0 (mx_ent (mx_nl y) as) σ := by
    unfold mx_H mx_sem
    rw [WellFounded.fix_eq]
    congr 1
  rw [h0]
  exact mx_H_eq y 0 _ σ
end
section
/-! ===== the world of the machine, in the kit's words ===== -/
def lw_gd : List Cond := lw_tbl.filter goodWord
theorem lw_gd_of {w : Cond} {k : Nat} (h : (decide (lw_tbl[k]? = some w) && goodWord w) = true) : w ∈ lw_gd := by
  simp only [Bool.and_eq_true, decide_eq_true_eq] at h
  exact List.mem_filter.mpr ⟨List.mem_of_getElem? h.1, h.2⟩
abbrev mx_G : Type := (Nat → Nat → Nat) × va_G × (Nat → ClassId) × Value
def mx_rv (g : mx_G) : mx_V → Value
  | Sum.inl x => .int x
  | Sum.inr (Sum.inl x) => .long x
  | Sum.inr (Sum.inr q) => if q.2 = mx_oQ then g.2.2.2 else .ref (g.1 q.1 q.2)
def mx_fv (g : mx_G) (σ : mx_S) (k o j : Nat) : Value := match mx_fk o j with
  | 2 => .ref (g.1 (mx_pt k o j).1 (mx_pt k o j).2)
  | 3 => if σ k o j = 0 then .null else .ref (g.1 (mx_pt k o j).1 (mx_pt k o j).2)
  | _ => .int (σ k o j)
def mx_nf (o : Nat) : Nat := (mx_nthL mx_fkT o).length
def mx_cell (g : mx_G) (σ : mx_S) (k o : Nat) : va_E := match mx_cO o with
  | 0 => .inl (g.2.2.1 (mx_aT o), mx_aN o, if mx_aT o ≤ 3 then .inl (σ k o) else .inr (.inr (.inr (.inr (fun j => some (g.1 (mx_rA o j).1 (mx_rA o j).2))))))
  | c + 1 => .inr (c, (List.range (mx_nf o)).map (mx_fv g σ k o))
def mx_cs : List (Nat × Nat) := (List.range 55).flatMap (fun o => (List.range (mx_kM o)).map (fun k => (k, o)))
def mx_ws (g : mx_G) (σ : mx_S) : va_W := mx_cs.map (fun q => (g.1 q.1 q.2, mx_cell g σ q.1 q.2))
theorem mx_nth_ge : ∀ (l : List Nat) (n : Nat), l.length ≤ n → mx_nth l n = 0
  | [], _, _ => rfl
  | _ :: _, 0, h => absurd h (by simp)
  | _ :: l, n + 1, h => mx_nth_ge l n (by simpa using h)
theorem mx_kM_lt {k o : Nat} (h : k < mx_kM o) : o < 55 := by
  rcases Nat.lt_or_ge o 55 with q | q
  · exact q
  · rw [mx_kM, mx_nth_ge _ _ (show mx_kMT.length ≤ o from q)] at h
    exact absurd h (Nat.not_lt_zero _)
theorem mx_cs_mem {k o : Nat} (h : k < mx_kM o) : (k, o) ∈ mx_cs := List.mem_flatMap.mpr ⟨o, List.mem_range.mpr (mx_kM_lt h), List.mem_map.mpr ⟨k, List.mem_range.mpr h, rfl⟩⟩
theorem mx_cs_of {q : Nat × Nat} (h : q ∈ mx_cs) : q.1 < mx_kM q.2 := by
  obtain ⟨o, -, h⟩ := List.mem_flatMap.mp h
  obtain ⟨k, hk, rfl⟩ := List.mem_map.mp h
  exact List.mem_range.mp hk
theorem mx_cs_nd : mx_cs.Nodup := by decide +kernel
theorem mx_cs_inj {i j : Nat} {q : Nat × Nat} (h1 : mx_cs[i]? = some q) (h2 : mx_cs[j]? = some q) : i = j := (List.getElem?_inj (List.getElem?_eq_some_iff.mp h1).1 mx_cs_nd).mp (h1.trans h2.symm)
theorem mx_at {k o : Nat} (h : k < mx_kM o) : ∃ i : Nat, mx_cs[i]? = some (k, o) := List.getElem?_of_mem (mx_cs_mem h)
theorem mx_ws_at {g : mx_G} {σ : mx_S} {i k o : Nat} (h : mx_cs[i]? = some (k, o)) : (mx_ws g σ)[i]? = some (g.1 k o, mx_cell g σ k o) := by
  rw [mx_ws, List.getElem?_map, h]
  rfl
theorem mx_ws_set {g : mx_G} {σ τ : mx_S} {i k o : Nat} {e : va_E} (h : mx_cs[i]? = some (k, o)) (he : mx_cell g τ k o = e) (ho : ∀ k' o', (k', o') ≠ (k, o) → mx_cell g τ k' o' = mx_cell g σ k' o') : (mx_ws g σ).set i (g.1 k o, e) = mx_ws g τ := by
  apply List.ext_getElem?
  intro n
  by_cases hn : n = i
  · subst hn
    rw [List.getElem?_set_self (by rw [mx_ws, List.length_map]; exact (List.getElem?_eq_some_iff.mp h).1), mx_ws_at h, he]
  · rw [List.getElem?_set_ne (Ne.symm hn), mx_ws, mx_ws, List.getElem?_map, List.getElem?_map]
    cases hq : mx_cs[n]? with
    | none => rfl
    | some q =>
      obtain ⟨k', o'⟩ := q
      have : (k', o') ≠ (k, o) := fun z => hn (mx_cs_inj (z ▸ hq) h)
      simp only [Option.map_some, ho k' o' this]
def mx_A (g : mx_G) : Nat → Prop := fun a => ∃ k o, k < mx_kM o ∧ a = g.1 k o
def mx_inj (g : mx_G) : Prop := ∀ k o k' o', k < mx_kM o → k' < mx_kM o' → g.1 k o = g.1 k' o' → (k, o) = (k', o')
theorem mx_Dof {g : mx_G} (h : mx_inj g) (σ : mx_S) : va_D (mx_A g) (mx_ws g σ) := by
  have key : ∀ (i : Nat) (p : Nat × va_E), (mx_ws g σ)[i]? = some p → ∃ k o, mx_cs[i]? = some (k, o) ∧ k < mx_kM o ∧ p.1 = g.1 k o := by
    intro i p hp
    rw [mx_ws, List.getElem?_map] at hp
    cases hq : mx_cs[i]? with
    | none => rw [hq] at hp; cases hp
    | some q =>
      rw [hq] at hp
      cases hp
      exact ⟨q.1, q.2, rfl, mx_cs_of (List.mem_of_getElem? hq), rfl⟩
  refine ⟨fun i j p q hi hj hpq => ?_, fun i p hp => ?_⟩
  · obtain ⟨k, o, h1, h2, h3⟩ := key i p hi
    obtain ⟨k', o', h4, h5, h6⟩ := key j q hj
    have := h k o k' o' h2 h5 (by rw [← h3, ← h6]; exact hpq)
    rw [this] at h1
    exact mx_cs_inj h1 h4
  · obtain ⟨k, o, h1, h2, h3⟩ := key i p hp
    exact ⟨k, o, h2, h3⟩
def mx_okV : mx_V → Prop
  | Sum.inr (Sum.inr (k, o)) => k < mx_kM o ∨ ((o = mx_oS ∨ o = mx_oB) ∧ k < 9) ∨ o = mx_oQ ∨ (k = 0 ∧ o = mx_oX)
  | _ => True
theorem mx_rv_ref {g : mx_G} {k o : Nat} (h : k < mx_kM o) : mx_rv g (Sum.inr (Sum.inr (k, o))) = .ref (g.1 k o) := by
  have := mx_kM_lt h
  show (if o = mx_oQ then _ else _) = _
  rw [if_neg (by show ¬ o = 57; omega)]
theorem mx_okV_cell {k o : Nat} (h : mx_okV (Sum.inr (Sum.inr (k, o)))) (ho : o < 55) : k < mx_kM o := by
  rcases h with h | ⟨h | h, -⟩ | h | h
  · exact h
  · exact absurd h (by show ¬ o = 55; omega)
  · exact absurd h (by show ¬ o = 56; omega)
  · exact absurd h (by show ¬ o = 57; omega)
  · exact absurd h.2 (by show ¬ o = 58; omega)
theorem mx_cO_lt {o c : Nat} (h : mx_cO o = c + 1) : o < 55 := by
  rcases Nat.lt_or_ge o 55 with q | q
  · exact q
  · rw [mx_cO, mx_nth_ge _ _ (show mx_cOT.length ≤ o from q)] at h
    cases h
theorem mx_aT_lt {o c : Nat} (h : mx_aT o = c + 1) : o < 55 := by
  rcases Nat.lt_or_ge o 55 with q | q
  · exact q
  · rw [mx_aT, mx_nth_ge _ _ (show mx_aTT.length ≤ o from q)] at h
    cases h
theorem mx_aT_c : ∀ o, o < 55 → (mx_aT o ≠ 0 → mx_cO o = 0) ∧ (mx_cO o ≠ 0 → (mx_cO o - 1 < 9 ∧ mx_nf o = (vwCl.getD (mx_cO o - 1) (RX0, TX0, 0)).2.2)) := by decide +kernel
theorem mx_pt_if (k o j : Nat) : mx_pt k o j = if (mx_nthP (mx_nthL mx_ptT o) j).1 = 1 then (k, (mx_nthP (mx_nthL mx_ptT o) j).2.2) else ((mx_nthP (mx_nthL mx_ptT o) j).2.1, (mx_nthP (mx_nthL mx_ptT o) j).2.2) := by
  unfold mx_pt
  generalize mx_nthP (mx_nthL mx_ptT o) j = e
  obtain ⟨a, b, c⟩ := e
  by_cases h : a = 1
  · subst h; rfl
  · rw [if_neg h]
    split
    · rename_i e2; cases e2; exact absurd rfl h
    · rename_i e2; cases e2; rfl
theorem mx_pt_tab : ∀ o, o < 55 → ∀ j, j < mx_nf o → mx_fk o j = 2 ∨ mx_fk o j = 3 → (if (mx_nthP (mx_nthL mx_ptT o) j).1 = 1 then mx_kM o = mx_kM (mx_nthP (mx_nthL mx_ptT o) j).2.2 else (mx_nthP (mx_nthL mx_ptT o) j).2.1 < mx_kM (mx_nthP (mx_nthL mx_ptT o) j).2.2) := by decide +kernel
theorem mx_pt_ok {k o j : Nat} (hk : k < mx_kM o) (hj : j < mx_nf o) (hf : mx_fk o j = 2 ∨ mx_fk o j = 3) : (mx_pt k o j).1 < mx_kM (mx_pt k o j).2 := by
  have h := mx_pt_tab o (mx_kM_lt hk) j hj hf
  rw [mx_pt_if]
  split at h
  · rename_i e
    rw [if_pos e, ← h]
    exact hk
  · rename_i e
    rw [if_neg e]
    exact h
/-! the locals -/
theorem mx_lo_lt : ∀ {l : mx_Loc} {j : Nat} {w : mx_V}, mx_lo l j = some w → j < l.length
  | [], _, _, h => by cases h
  | _ :: _, 0, _, _ => by simp
  | _ :: l, n + 1, _, h => by
    have := mx_lo_lt (l := l) h
    simp; omega
theorem mx_lo_set : ∀ (l : mx_Loc) (i j : Nat) (v : Option mx_V) (w : mx_V), mx_lo (l.set i v) j = some w → (j = i ∧ v = some w) ∨ (j ≠ i ∧ mx_lo l j = some w)
  | [], _, _, _, _, h => by cases h
  | _ :: _, 0, 0, _, _, h => Or.inl ⟨rfl, h⟩
  | _ :: _, 0, n + 1, _, _, h => Or.inr ⟨by omega, h⟩
  | _ :: _, i + 1, 0, _, _, h => Or.inr ⟨by omega, h⟩
  | _ :: l, i + 1, n + 1, v, w, h => by
    rcases mx_lo_set l i n v w h with ⟨h1, h2⟩ | ⟨h1, h2⟩
    · exact Or.inl ⟨by omega, h2⟩
    · exact Or.inr ⟨by omega, h2⟩
def mx_lg : mx_V → Prop
  | Sum.inr (Sum.inl _) => True
  | _ => False
theorem mx_lo_st1 {l : mx_Loc} {i j : Nat} {v w : mx_V} (h : mx_lo (mx_st1 l i v) j = some w) : (j = i ∧ w = v) ∨ (j ≠ i ∧ mx_lo l j = some w ∧ ¬ (j + 1 = i ∧ mx_lg w)) := by
  cases i with
  | zero =>
    rcases mx_lo_set _ _ _ _ _ h with ⟨h1, h2⟩ | ⟨h1, h2⟩
    · exact Or.inl ⟨h1, (Option.some.inj h2).symm⟩
    · exact Or.inr ⟨h1, h2, fun q => by omega⟩
  | succ i =>
    unfold mx_st1 at h
    dsimp only at h
    split at h
    · rcases mx_lo_set _ _ _ _ _ h with ⟨h1, h2⟩ | ⟨h1, h2⟩
      · exact Or.inl ⟨h1, (Option.some.inj h2).symm⟩
      · rcases mx_lo_set _ _ _ _ _ h2 with ⟨h3, h4⟩ | ⟨h3, h4⟩
        · cases h4
        · exact Or.inr ⟨h1, h4, fun q => by omega⟩
    · rename_i hn
      rcases mx_lo_set _ _ _ _ _ h with ⟨h1, h2⟩ | ⟨h1, h2⟩
      · exact Or.inl ⟨h1, (Option.some.inj h2).symm⟩
      · refine Or.inr ⟨h1, h2, fun q => ?_⟩
        obtain ⟨q1, q2⟩ := q
        have : j = i := by omega
        subst this
        rcases w with x | x | x
        · exact q2
        · exact hn x h2
        · exact q2
theorem mx_lo_kp : ∀ {ts : List Nat} {l : mx_Loc} {j : Nat} {w : mx_V}, mx_lo (mx_kp ts l) j = some w → mx_lo l j = some w
  | [], [], _, _, h => by cases h
  | [], _ :: _, _, _, h => by cases h
  | 0 :: _, [], _, _, h => by cases h
  | 1 :: _, [], _, _, h => by cases h
  | (_ + 2) :: _, [], _, _, h => by cases h
  | 1 :: ts, v :: l, 0, w, h => h
  | 1 :: ts, v :: l, n + 1, w, h => mx_lo_kp (ts := ts) (l := l) h
  | 0 :: ts, v :: l, 0, w, h => by cases h
  | 0 :: ts, v :: l, n + 1, w, h => mx_lo_kp (ts := ts) (l := l) h
  | (_ + 2) :: ts, v :: l, 0, w, h => by cases h
  | (_ + 2) :: ts, v :: l, n + 1, w, h => mx_lo_kp (ts := ts) (l := l) h
def mx_lv (g : mx_G) (ls : Array Slot) (nL : Nat) (loc : mx_Loc) : Prop := ls.size = nL ∧ lv_wf ls ∧ ∀ i v, mx_lo loc i = some v → ls[i]? = some (.val (mx_rv g v))
def mx_al (g : mx_G) (loc : mx_Loc) : List (Nat × Value) := (List.range loc.length).filterMap (fun i => (mx_lo loc i).map (fun v => (i, mx_rv g v)))
theorem mx_al_mem {g : mx_G} {loc : mx_Loc} {i : Nat} {v : mx_V} (h : mx_lo loc i = some v) : (i, mx_rv g v) ∈ mx_al g loc := List.mem_filterMap.mpr ⟨i, List.mem_range.mpr (mx_lo_lt h), by rw [h]; rfl⟩
theorem mx_lv.has {g : mx_G} {ls : Array Slot} {nL : Nat} {loc : mx_Loc} (h : mx_lv g ls nL loc) : lv_has ls nL (mx_al g loc) := by
  refine ⟨h.1, h.2.1, fun q hq => ?_⟩
  obtain ⟨i, -, hi⟩ := List.mem_filterMap.mp hq
  cases hl : mx_lo loc i with
  | none => rw [hl] at hi; cases hi
  | some v => rw [hl] at hi; cases hi; exact h.2.2 i v hl
theorem mx_lg_of {g : mx_G} (hq : g.2.2.2.category = 1) {w : mx_V} (h : (mx_rv g w).category = 2) : mx_lg w := by
  rcases w with x | x | x
  · cases h
  · trivial
  · have h' : (if x.2 = mx_oQ then g.2.2.2 else Value.ref (g.1 x.1 x.2)).category = 2 := h
    split at h'
    · omega
    · cases h'
theorem mx_lv.st1 {g : mx_G} (hq : g.2.2.2.category = 1) {ls : Array Slot} {nL i : Nat} {loc : mx_Loc} {v : mx_V} (h : lv_has ls nL ((i, mx_rv g v) :: (mx_al g loc).filter (fun q => !(q.1 == i) && !(q.1 + 1 == i && q.2.category == 2)))) : mx_lv g ls nL (mx_st1 loc i v) := by
  refine ⟨h.1, h.2.1, fun j w hj => ?_⟩
  rcases mx_lo_st1 hj with ⟨rfl, rfl⟩ | ⟨h1, h2, h3⟩
  · exact h.2.2 (j, mx_rv g w) List.mem_cons_self
  · refine h.2.2 (j, mx_rv g w) (List.mem_cons_of_mem _ (List.mem_filter.mpr ⟨mx_al_mem h2, ?_⟩))
    simp only [Bool.and_eq_true, Bool.not_eq_true', beq_eq_false_iff_ne, Bool.and_eq_false_iff]
    refine ⟨h1, ?_⟩
    by_cases q : j + 1 = i
    · exact Or.inr fun z => h3 ⟨q, mx_lg_of hq z⟩
    · exact Or.inl q
theorem mx_lv.st2 {g : mx_G} (hq : g.2.2.2.category = 1) {ls : Array Slot} {nL i : Nat} {loc : mx_Loc} {v : mx_V} (h : lv_has ls nL ((i, mx_rv g v) :: (mx_al g loc).filter (fun q => !(q.1 == i) && (!(q.1 == i + 1) && !(q.1 + 1 == i && q.2.category == 2))))) : mx_lv g ls nL ((mx_st1 loc i v).set (i + 1) none) := by
  refine ⟨h.1, h.2.1, fun j w hj => ?_⟩
  rcases mx_lo_set _ _ _ _ _ hj with ⟨-, h0⟩ | ⟨h0, hj⟩
  · cases h0
  · rcases mx_lo_st1 hj with ⟨rfl, rfl⟩ | ⟨h1, h2, h3⟩
    · exact h.2.2 (j, mx_rv g w) List.mem_cons_self
    · refine h.2.2 (j, mx_rv g w) (List.mem_cons_of_mem _ (List.mem_filter.mpr ⟨mx_al_mem h2, ?_⟩))
      simp only [Bool.and_eq_true, Bool.not_eq_true', beq_eq_false_iff_ne, Bool.and_eq_false_iff]
      refine ⟨h1, h0, ?_⟩
      by_cases q : j + 1 = i
      · exact Or.inr fun z => h3 ⟨q, mx_lg_of hq z⟩
      · exact Or.inl q
/-! what an update does to the cells -/
theorem mx_up_o {σ : mx_S} {k o j : Nat} {x : Int32} {k' o' : Nat} (h : (k', o') ≠ (k, o)) : mx_up σ k o j x k' o' = σ k' o' := by
  funext j'
  show (if k' = k ∧ o' = o ∧ j' = j then x else σ k' o' j') = _
  rw [if_neg (fun q => h (by rw [q.1, q.2.1]))]
theorem mx_up_s {σ : mx_S} {k o j : Nat} {x : Int32} : mx_up σ k o j x k o = upd (σ k o) j x := by
  funext j'
  show (if k = k ∧ o = o ∧ j' = j then x else σ k o j') = if j' = j then x else σ k o j'
  by_cases h : j' = j
  · rw [if_pos ⟨rfl, rfl, h⟩, if_pos h]
  · rw [if_neg (fun q => h q.2.2), if_neg h]
theorem mx_cell_congr {g : mx_G} {σ τ : mx_S} {k o : Nat} (h : τ k o = σ k o) : mx_cell g τ k o = mx_cell g σ k o := by
  have e : mx_fv g τ k o = mx_fv g σ k o := by
    funext j
    unfold mx_fv
    rw [h]
  unfold mx_cell
  rw [e, h]
end
section
/-! ===== each instruction of the machine is the bytecode's ===== -/
def mx_cl (a : Nat) : vw_C := vwCl.getD a (RX0, TX0, 0)
theorem mx_cl_at {a : Nat} (h : a < 9) : vwCl[a]? = some (mx_cl a) := by
  rcases (show a = 0 ∨ a = 1 ∨ a = 2 ∨ a = 3 ∨ a = 4 ∨ a = 5 ∨ a = 6 ∨ a = 7 ∨ a = 8 by omega) with rfl | rfl | rfl | rfl | rfl | rfl | rfl | rfl | rfl <;> rfl
def mx_tyf (a k : Nat) : FieldType := (parseFieldDescriptor ((mx_cl a).2.1 k).2.2.1).getD .int
theorem mx_ty_ok : ∀ a, a < 9 → ∀ k, k < (mx_cl a).2.2 → parseFieldDescriptor ((mx_cl a).2.1 k).2.2.1 = some (mx_tyf a k) := by decide +kernel
theorem mx_nm_ok : ∀ a, a < 9 → ∀ j, j < (mx_cl a).2.2 → ∀ k, k < (mx_cl a).2.2 → j ≠ k → ((mx_cl a).2.1 j).2.1 ≠ ((mx_cl a).2.1 k).2.1 := by decide +kernel
theorem mx_uw : ∀ a, a < 9 → ∀ w ∈ u_ws (mx_cl a).1 (mx_cl a).2.1 (mx_cl a).2.2, w ∈ lw_gd := by decide +kernel
/-- the kind of a field is its type's -/
theorem mx_fk_0 : ∀ o, o < 55 → mx_cO o ≠ 0 → ∀ j, j < mx_nf o → mx_fk o j = 0 → mx_tyf (mx_cO o - 1) j = .int := by decide +kernel
theorem mx_fk_1 : ∀ o, o < 55 → mx_cO o ≠ 0 → ∀ j, j < mx_nf o → mx_fk o j = 1 → mx_tyf (mx_cO o - 1) j = .boolean := by decide +kernel
theorem mx_fk_3 : ∀ o, o < 55 → mx_cO o ≠ 0 → ∀ j, j < mx_nf o → mx_fk o j = 3 → mx_tyf (mx_cO o - 1) j = .object RX3 := by decide +kernel
theorem mx_fk_f : ∀ o, o < 55 → mx_cO o ≠ 0 → ∀ j, j < mx_nf o → mx_fk o j ≠ 2 → ((mx_cl (mx_cO o - 1)).2.1 j).2.2.2 = false := by decide +kernel
def mx_tys (g : mx_G) : List (ClassId × FieldType) := [(g.2.2.1 1, .int), (g.2.2.1 2, .byte), (g.2.2.1 3, .boolean), (g.2.2.1 4, .object RX5), (g.2.2.1 5, .object RX2)]
def mx_sPT : List Nat := [55, 73, 83, 91, 97, 103, 125, 127, 129]
def mx_sX (k : Nat) : String := (["rail", "room", "door", "one", "picture", "group", "first", "draw", "round"] : List String).getD k ""
theorem mx_sB_at : ∀ k, k < 9 → ∀ j, j < mx_sN k → (mx_sT.getD k []).getD j 0 = mx_sB k j := by decide +kernel
theorem mx_sN_at : ∀ k, k < 9 → mx_sNT.getD k 0 = mx_sN k := by decide +kernel
/-- what stands fast: the tables, the constants, the script -/
def mx_Fx (g : mx_G) (L : Nat) (xs : Nat → Int32) (U : State) : Prop :=
  va_K g.2.1 vwCl (mx_tys g) U ∧ vk_S 9 mx_sNT mx_sT (fun k => g.1 k mx_oS) (fun k => g.1 k mx_oB) (mx_A g) U U.heap ∧ (∀ k, k < 9 → vk_R RX4 (mx_nth mx_sPT k) (mx_sX k) (g.1 k mx_oS) U) ∧ va_Z "java/lang/String" "COMPACT_STRINGS" "Z" (.int 1) (mx_A g) U U.heap ∧ va_Z "jdk/internal/util/Preconditions" "SIOOBE_FORMATTER" "Ljava/util/function/BiFunction;" g.2.2.2 (mx_A g) U U.heap ∧ va_X (g.1 0 mx_oX) L xs U U.heap ∧ g.1 0 mx_oX < U.heap.size ∧ ¬ mx_A g (g.1 0 mx_oX) ∧ ∀ t ∈ mx_nwT, va_Nw (.methodLinkNest (mx_on t.1) t.2.1 (mx_mN t.2.2) "RailOfHeads") U
theorem mx_Fx.same {g : mx_G} {L : Nat} {xs : Nat → Int32} {u U : State} (hv : U.vm = u.vm) (hh : U.heap = u.heap) (h : mx_Fx g L xs u) : mx_Fx g L xs U := by
  obtain ⟨h1, h2, h3, h4, h5, h6, h7, h8, h9⟩ := h
  have ha : u.vm.Alike U.vm := by rw [hv]; exact Vm.Alike.refl u.vm
  refine ⟨h1.moved ha, ?_, fun k hk => (h3 k hk).same hv, ?_, ?_, ?_, by rw [hh]; exact h7, h8, fun t ht => (h9 t ht).same rfl hv.symm⟩
  · rw [hh]; exact h2.moved ha
  · rw [hh]; exact h4.moved ha
  · rw [hh]; exact h5.moved ha
  · rw [hh]; exact h6.moved ha
theorem mx_Fx.warm {g : mx_G} {L : Nat} {xs : Nat → Int32} {s U : State} {H : Heap} {locs : List Loc} (hW : s.WarmedH U.vm) (hh : U.heap = H) (hS : va_S (mx_A g) s.heap H locs) (h : mx_Fx g L xs s) : mx_Fx g L xs U := by
  obtain ⟨h1, h2, h3, h4, h5, h6, h7, h8, h9⟩ := h
  subst hh
  exact ⟨h1.moved hW.alike, (h2.kept hS.2.1).moved hW.alike, fun k hk => (h3 k hk).warm hW, (h4.kept hS.2.1).moved hW.alike, (h5.kept hS.2.1).moved hW.alike, (h6.kept (hS.2.1 _ h7 h8)).moved hW.alike, Nat.lt_of_lt_of_le h7 hS.1, h8, fun t ht => va_Nw.warmM hW (h9 t ht)⟩
def mx_sc (L : Nat) (xs : Nat → Int32) (σ : mx_S) : Prop := σ 0 mx_oX 0 = Int32.ofNat L ∧ ∀ j, j < L → σ 1 mx_oX j = xs j
def mx_Cx (p : Program) (R : Room) (s : State) (m : MethodId) (args : Array Value) (c : Code) (cells slots : Nat) (cc : ByteArray) (nL : Nat) (own : String) (g : mx_G) (L : Nat) (xs : Nat → Int32) (Y : Nat) : Prop :=
  p.tables.exec = Jvm.exec ∧ c.code = cc ∧ c.maxLocals = nL ∧ s.vm.findClass own = some m.cls ∧ (∀ w ∈ lw_gd, w.before args s = true) ∧ mx_Fx g L xs s ∧ mx_inj g ∧ g.2.2.2.category = 1 ∧ (cells ≤ R.cells ∧ slots ≤ R.slots) ∧ L < 2 ^ 31 ∧ (1 ≤ R.frames ∧ 100 ≤ R.locals) ∧ (∀ y', y' < Y → y' + 3 ≤ R.frames ∧ 8 + (mx_nl y' + 11) + 100 * (y' + 2) ≤ R.locals)
def mx_W (p : Program) (l : Launch) (e : Env) (R : Room) (s : State) (m : MethodId) (args : Array Value) (below : List Frame) (meth : Method) (c : Code) (cells slots : Nat) (Q : State → Prop) (nL : Nat) (g : mx_G) (L : Nat) (xs : Nat → Int32) (pc : Nat) (loc : mx_Loc) (stk : List mx_V) (σ : mx_S) : Prop :=
  ∀ (H : Heap) (ls : Array Slot) (locs : List Loc), va_P g.2.1 vwCl (mx_ws g σ) H → va_S (mx_A g) s.heap H locs → mx_lv g ls nL loc → (∀ v ∈ stk, mx_okV v) → (∀ i v, mx_lo loc i = some v → mx_okV v) → mx_sc L xs σ → W p l e R s m args below meth c H locs cells slots Q (F0 m pc ls (stk.map (mx_rv g)))
section Sd
variable {p : Program} {l : Launch} {e : Env} {R : Room} {s : State} {m : MethodId} {args : Array Value} {below : List Frame} {meth : Method} {c : Code} {cells slots : Nat} {Q : State → Prop} {cc : ByteArray} {nL : Nat} {own : String} {g : mx_G} {L : Nat} {xs : Nat → Int32} {pc npc a b x0 Y : Nat} {loc : mx_Loc} {stk r : List mx_V} {σ : mx_S} {x y im : Int32} {u w jm : Int64}
theorem sd_iload (C : mx_Cx p R s m args c cells slots cc nL own g L xs Y) (hd : decode cc pc = .ok (.iload a, 2) ∧ npc = pc + 2 ∨ a < 4 ∧ decode cc pc = .ok (.iload_n (Fin.ofNat 4 a), 1) ∧ npc = pc + 1) (hl : mx_lo loc a = some (Sum.inl x)) (k : mx_W p l e R s m args below meth c cells slots Q nL g L xs npc loc (Sum.inl x :: stk) σ) : mx_W p l e R s m args below meth c cells slots Q nL g L xs pc loc stk σ := by
  obtain ⟨hx, hb, -⟩ := C
  intro H ls locs hP hS hv hs hlo hc
  have hl' : ls[a]? = some (.val (.int x)) := hv.2.2 a _ hl
  have kk := k H ls locs hP hS hv (List.forall_mem_cons.mpr ⟨trivial, hs⟩) hlo hc
  rcases hd with ⟨hd, rfl⟩ | ⟨ha, hd, rfl⟩
  · exact lv_iload hx hb hd hl' kk
  · exact lv_iload_n hx hb hd (by simp [Fin.ofNat]; omega) hl' kk
theorem sd_lload (C : mx_Cx p R s m args c cells slots cc nL own g L xs Y) (hd : decode cc pc = .ok (.lload a, 2) ∧ npc = pc + 2 ∨ a < 4 ∧ decode cc pc = .ok (.lload_n (Fin.ofNat 4 a), 1) ∧ npc = pc + 1) (hl : mx_lo loc a = some (Sum.inr (Sum.inl u))) (k : mx_W p l e R s m args below meth c cells slots Q nL g L xs npc loc (Sum.inr (Sum.inl u) :: stk) σ) : mx_W p l e R s m args below meth c cells slots Q nL g L xs pc loc stk σ := by
  obtain ⟨hx, hb, -⟩ := C
  intro H ls locs hP hS hv hs hlo hc
  have hl' : ls[a]? = some (.val (.long u)) := hv.2.2 a _ hl
  have kk := k H ls locs hP hS hv (List.forall_mem_cons.mpr ⟨trivial, hs⟩) hlo hc
  rcases hd with ⟨hd, rfl⟩ | ⟨ha, hd, rfl⟩
  · exact lv_lload hx hb hd hl' kk
  · exact lv_lload_n hx hb hd (by simp [Fin.ofNat]; omega) hl' kk
theorem sd_aload (C : mx_Cx p R s m args c cells slots cc nL own g L xs Y) {q : Nat × Nat} (hd : decode cc pc = .ok (.aload a, 2) ∧ npc = pc + 2 ∨ a < 4 ∧ decode cc pc = .ok (.aload_n (Fin.ofNat 4 a), 1) ∧ npc = pc + 1) (hq : q.2 ≠ mx_oQ) (hl : mx_lo loc a = some (Sum.inr (Sum.inr q))) (k : mx_W p l e R s m args below meth c cells slots Q nL g L xs npc loc (Sum.inr (Sum.inr q) :: stk) σ) : mx_W p l e R s m args below meth c cells slots Q nL g L xs pc loc stk σ := by
  obtain ⟨hx, hb, -⟩ := C
  intro H ls locs hP hS hv hs hlo hc
  have e0 : mx_rv g (Sum.inr (Sum.inr q)) = .ref (g.1 q.1 q.2) := if_neg hq
  have hl' : ls[a]? = some (.val (.ref (g.1 q.1 q.2))) := by rw [← e0]; exact hv.2.2 a _ hl
  have kk := k H ls locs hP hS hv (List.forall_mem_cons.mpr ⟨hlo a _ hl, hs⟩) hlo hc
  rw [List.map_cons, e0] at kk
  rcases hd with ⟨hd, rfl⟩ | ⟨ha, hd, rfl⟩
  · exact lv_aload hx hb hd hl' kk
  · exact lv_aload_n hx hb hd (by simp [Fin.ofNat]; omega) hl' kk
theorem mx_ok_st1 {v : mx_V} (hlo : ∀ i v, mx_lo loc i = some v → mx_okV v) (hv : mx_okV v) : ∀ i w, mx_lo (mx_st1 loc a v) i = some w → mx_okV w := by
  intro i w h
  rcases mx_lo_st1 h with ⟨-, rfl⟩ | ⟨-, h, -⟩
  · exact hv
  · exact hlo i w h
theorem sd_istore (C : mx_Cx p R s m args c cells slots cc nL own g L xs Y) (ha : a < nL) (hd : decode cc pc = .ok (.istore a, 2) ∧ npc = pc + 2 ∨ a < 4 ∧ decode cc pc = .ok (.istore_n (Fin.ofNat 4 a), 1) ∧ npc = pc + 1) (k : mx_W p l e R s m args below meth c cells slots Q nL g L xs npc (mx_st1 loc a (Sum.inl x)) r σ) : mx_W p l e R s m args below meth c cells slots Q nL g L xs pc loc (Sum.inl x :: r) σ := by
  obtain ⟨hx, hb, -, -, -, -, -, hq, -⟩ := C
  intro H ls locs hP hS hv hs hlo hc
  obtain ⟨-, hs⟩ := List.forall_mem_cons.mp hs
  rcases hd with ⟨hd, rfl⟩ | ⟨ha4, hd, rfl⟩
  · exact lv_istore hx hb hd hv.has ha rfl (fun ls' h' => k H ls' locs hP hS (mx_lv.st1 (v := Sum.inl x) hq h') hs (mx_ok_st1 hlo trivial) hc)
  · exact lv_istore_n hx hb hd (by simp [Fin.ofNat]; omega) hv.has ha rfl (fun ls' h' => k H ls' locs hP hS (mx_lv.st1 (v := Sum.inl x) hq h') hs (mx_ok_st1 hlo trivial) hc)
theorem sd_astore (C : mx_Cx p R s m args c cells slots cc nL own g L xs Y) {q : Nat × Nat} (ha : a < nL) (hd : decode cc pc = .ok (.astore a, 2) ∧ npc = pc + 2 ∨ a < 4 ∧ decode cc pc = .ok (.astore_n (Fin.ofNat 4 a), 1) ∧ npc = pc + 1) (hq0 : q.2 ≠ mx_oQ) (k : mx_W p l e R s m args below meth c cells slots Q nL g L xs npc (mx_st1 loc a (Sum.inr (Sum.inr q))) r σ) : mx_W p l e R s m args below meth c cells slots Q nL g L xs pc loc (Sum.inr (Sum.inr q) :: r) σ := by
  obtain ⟨hx, hb, -, -, -, -, -, hq, -⟩ := C
  intro H ls locs hP hS hv hs hlo hc
  obtain ⟨h0, hs⟩ := List.forall_mem_cons.mp hs
  have e0 : mx_rv g (Sum.inr (Sum.inr q)) = .ref (g.1 q.1 q.2) := if_neg hq0
  rw [List.map_cons, e0]
  rcases hd with ⟨hd, rfl⟩ | ⟨ha4, hd, rfl⟩
  · exact lv_astore hx hb hd hv.has ha rfl (fun ls' h' => k H ls' locs hP hS (mx_lv.st1 (v := Sum.inr (Sum.inr q)) hq (by rw [e0]; exact h')) hs (mx_ok_st1 hlo h0) hc)
  · exact lv_astore_n hx hb hd (by simp [Fin.ofNat]; omega) hv.has ha rfl (fun ls' h' => k H ls' locs hP hS (mx_lv.st1 (v := Sum.inr (Sum.inr q)) hq (by rw [e0]; exact h')) hs (mx_ok_st1 hlo h0) hc)
theorem sd_lstore (C : mx_Cx p R s m args c cells slots cc nL own g L xs Y) (ha : a + 1 < nL) (hd : decode cc pc = .ok (.lstore a, 2) ∧ npc = pc + 2 ∨ a < 4 ∧ decode cc pc = .ok (.lstore_n (Fin.ofNat 4 a), 1) ∧ npc = pc + 1) (k : mx_W p l e R s m args below meth c cells slots Q nL g L xs npc ((mx_st1 loc a (Sum.inr (Sum.inl u))).set (a + 1) none) r σ) : mx_W p l e R s m args below meth c cells slots Q nL g L xs pc loc (Sum.inr (Sum.inl u) :: r) σ := by
  obtain ⟨hx, hb, -, -, -, -, -, hq, -⟩ := C
  intro H ls locs hP hS hv hs hlo hc
  obtain ⟨-, hs⟩ := List.forall_mem_cons.mp hs
  have ho : ∀ i w, mx_lo ((mx_st1 loc a (Sum.inr (Sum.inl u))).set (a + 1) none) i = some w → mx_okV w := by
    intro i w h
    rcases mx_lo_set _ _ _ _ _ h with ⟨-, h⟩ | ⟨-, h⟩
    · cases h
    · exact mx_ok_st1 (v := Sum.inr (Sum.inl u)) hlo trivial i w h
  rcases hd with ⟨hd, rfl⟩ | ⟨ha4, hd, rfl⟩
  · exact lv_lstore hx hb hd hv.has ha rfl (fun ls' h' => k H ls' locs hP hS (mx_lv.st2 (v := Sum.inr (Sum.inl u)) hq h') hs ho hc)
  · exact lv_lstore_n hx hb hd (by simp [Fin.ofNat]; omega) hv.has ha rfl (fun ls' h' => k H ls' locs hP hS (mx_lv.st2 (v := Sum.inr (Sum.inl u)) hq h') hs ho hc)
theorem sd_const (C : mx_Cx p R s m args c cells slots cc nL own g L xs Y) (hd : (decode cc pc = .ok (.iconst im.toInt, 1) ∧ npc = pc + 1) ∨ (decode cc pc = .ok (.bipush im.toInt, 2) ∧ (Int8.ofInt im.toInt).toInt32 = im ∧ npc = pc + 2) ∨ (decode cc pc = .ok (.sipush im.toInt, 3) ∧ (Int16.ofInt im.toInt).toInt32 = im ∧ npc = pc + 3) ∨ (decode cc pc = .ok (.ldc x0, 2) ∧ Cond.constant own x0 im ∈ lw_gd ∧ npc = pc + 2) ∨ (decode cc pc = .ok (.ldc_w x0, 3) ∧ Cond.constant own x0 im ∈ lw_gd ∧ npc = pc + 3)) (k : mx_W p l e R s m args below meth c cells slots Q nL g L xs npc loc (Sum.inl im :: stk) σ) : mx_W p l e R s m args below meth c cells slots Q nL g L xs pc loc stk σ := by
  obtain ⟨hx, hb, -, hown, hts, -⟩ := C
  intro H ls locs hP hS hv hs hlo hc
  have kk := k H ls locs hP hS hv (List.forall_mem_cons.mpr ⟨trivial, hs⟩) hlo hc
  rcases hd with ⟨hd, rfl⟩ | ⟨hd, h1, rfl⟩ | ⟨hd, h1, rfl⟩ | ⟨hd, h1, rfl⟩ | ⟨hd, h1, rfl⟩
  · exact lv_iconst hx hb hd (by simp) kk
  · exact lv_bipush hx hb hd h1 kk
  · exact lv_sipush hx hb hd h1 kk
  · exact lv_ldc hx hb hown (hts _ h1) hd kk
  · exact lv_ldcw hx hb hown (hts _ h1) hd kk
theorem sd_lconst (C : mx_Cx p R s m args c cells slots cc nL own g L xs Y) (hd : (decode cc pc = .ok (.lconst (Fin.ofNat 2 a), 1) ∧ Int64.ofNat (Fin.ofNat 2 a : Fin 2).val = jm ∧ npc = pc + 1) ∨ (decode cc pc = .ok (.ldc2_w x0, 3) ∧ Cond.constantLong own x0 jm ∈ lw_gd ∧ npc = pc + 3)) (k : mx_W p l e R s m args below meth c cells slots Q nL g L xs npc loc (Sum.inr (Sum.inl jm) :: stk) σ) : mx_W p l e R s m args below meth c cells slots Q nL g L xs pc loc stk σ := by
  obtain ⟨hx, hb, -, hown, hts, -⟩ := C
  intro H ls locs hP hS hv hs hlo hc
  have kk := k H ls locs hP hS hv (List.forall_mem_cons.mpr ⟨trivial, hs⟩) hlo hc
  rcases hd with ⟨hd, h1, rfl⟩ | ⟨hd, h1, rfl⟩
  · exact lv_lconst hx hb hd h1 kk
  · exact lv_ldc2 hx hb hown (hts _ h1) hd kk
def mx_binI (b : Nat) : Instr := match b with
  | 0 => .iadd
  | 1 => .isub
  | 2 => .imul
  | 3 => .iand
  | 4 => .ior
  | 5 => .ishl
  | 6 => .ishr
  | _ => .iushr
/-- a goal out of what 'mx_step' has made of it -/
theorem sd_bin (C : mx_Cx p R s m args c cells slots cc nL own g L xs Y) (hd : decode cc pc = .ok (mx_binI b, 1)) (kk : mx_bin b x y (fun z => mx_W p l e R s m args below meth c cells slots Q nL g L xs (pc + 1) loc (Sum.inl z :: r) σ)) : mx_W p l e R s m args below meth c cells slots Q nL g L xs pc loc (Sum.inl y :: Sum.inl x :: r) σ := by
  obtain ⟨hx, hb, -⟩ := C
  intro H ls locs hP hS hv hs hlo hc
  obtain ⟨-, hs⟩ := List.forall_mem_cons.mp hs
  obtain ⟨-, hs⟩ := List.forall_mem_cons.mp hs
  have hk : ∀ z, mx_W p l e R s m args below meth c cells slots Q nL g L xs (pc + 1) loc (Sum.inl z :: r) σ → W p l e R s m args below meth c H locs cells slots Q (F0 m (pc + 1) ls (.int z :: r.map (mx_rv g))) := fun z q => q H ls locs hP hS hv (List.forall_mem_cons.mpr ⟨trivial, hs⟩) hlo hc
  unfold mx_bin at kk
  unfold mx_binI at hd
  split at kk
  · exact lv_iadd hx hb hd (hk _ kk)
  · exact lv_isub hx hb hd (hk _ kk)
  · exact lv_imul hx hb hd (hk _ kk)
  · exact lv_iand hx hb hd (hk _ kk)
  · exact lv_ior hx hb hd (hk _ kk)
  · exact lv_ishl hx hb hd (hk _ kk)
  · exact lv_ishr hx hb hd (hk _ kk)
  · rename_i n0 n1 n2 n3 n4 n5 n6
    have hd : decode cc pc = .ok (.iushr, 1) := by
      split at hd
      · exact absurd rfl n0
      · exact absurd rfl n1
      · exact absurd rfl n2
      · exact absurd rfl n3
      · exact absurd rfl n4
      · exact absurd rfl n5
      · exact absurd rfl n6
      · exact hd
    exact lv_iushr hx hb hd rfl (hk _ kk)
def mx_divI (b : Nat) : Instr := match b with
  | 0 => .idiv
  | _ => .irem
theorem sd_div (C : mx_Cx p R s m args c cells slots cc nL own g L xs Y) (hd : decode cc pc = .ok (mx_divI b, 1)) (kk : mx_d False y (mx_div b x y (fun z => mx_W p l e R s m args below meth c cells slots Q nL g L xs (pc + 1) loc (Sum.inl z :: r) σ))) : mx_W p l e R s m args below meth c cells slots Q nL g L xs pc loc (Sum.inl y :: Sum.inl x :: r) σ := by
  obtain ⟨hx, hb, -⟩ := C
  intro H ls locs hP hS hv hs hlo hc
  obtain ⟨-, hs⟩ := List.forall_mem_cons.mp hs
  obtain ⟨-, hs⟩ := List.forall_mem_cons.mp hs
  have hk : ∀ z, mx_W p l e R s m args below meth c cells slots Q nL g L xs (pc + 1) loc (Sum.inl z :: r) σ → W p l e R s m args below meth c H locs cells slots Q (F0 m (pc + 1) ls (.int z :: r.map (mx_rv g))) := fun z q => q H ls locs hP hS hv (List.forall_mem_cons.mpr ⟨trivial, hs⟩) hlo hc
  unfold mx_d at kk
  split at kk
  · exact kk.elim
  · rename_i hne
    unfold mx_div at kk
    unfold mx_divI at hd
    split at kk
    · exact lv_idiv hx hb hd hne (hk _ kk)
    · rename_i n0
      have hd : decode cc pc = .ok (.irem, 1) := by
        split at hd
        · exact absurd rfl n0
        · exact hd
      exact lv_irem hx hb hd hne (hk _ kk)
def mx_unI (b : Nat) : Instr := match b with
  | 0 => .ineg
  | 1 => .i2b
  | 2 => .i2s
  | _ => .i2c
theorem sd_un (C : mx_Cx p R s m args c cells slots cc nL own g L xs Y) (hd : decode cc pc = .ok (mx_unI b, 1)) (kk : mx_un b x (fun z => mx_W p l e R s m args below meth c cells slots Q nL g L xs (pc + 1) loc (Sum.inl z :: r) σ)) : mx_W p l e R s m args below meth c cells slots Q nL g L xs pc loc (Sum.inl x :: r) σ := by
  obtain ⟨hx, hb, -⟩ := C
  intro H ls locs hP hS hv hs hlo hc
  obtain ⟨-, hs⟩ := List.forall_mem_cons.mp hs
  have hk : ∀ z, mx_W p l e R s m args below meth c cells slots Q nL g L xs (pc + 1) loc (Sum.inl z :: r) σ → W p l e R s m args below meth c H locs cells slots Q (F0 m (pc + 1) ls (.int z :: r.map (mx_rv g))) := fun z q => q H ls locs hP hS hv (List.forall_mem_cons.mpr ⟨trivial, hs⟩) hlo hc
  unfold mx_un at kk
  unfold mx_unI at hd
  split at kk
  · exact lv_ineg hx hb hd (hk _ kk)
  · exact lv_i2b hx hb hd rfl (hk _ kk)
  · exact lv_i2s hx hb hd rfl (hk _ kk)
  · rename_i n0 n1 n2
    have hd : decode cc pc = .ok (.i2c, 1) := by
      split at hd
      · exact absurd rfl n0
      · exact absurd rfl n1
      · exact absurd rfl n2
      · exact hd
    exact lv_i2c hx hb hd rfl (hk _ kk)
def mx_lbI (b : Nat) : Instr := match b with
  | 0 => .ladd
  | 1 => .land
  | _ => .lor
theorem sd_lb (C : mx_Cx p R s m args c cells slots cc nL own g L xs Y) (hd : decode cc pc = .ok (mx_lbI b, 1)) (kk : mx_lb b u w (fun z => mx_W p l e R s m args below meth c cells slots Q nL g L xs (pc + 1) loc (Sum.inr (Sum.inl z) :: r) σ)) : mx_W p l e R s m args below meth c cells slots Q nL g L xs pc loc (Sum.inr (Sum.inl w) :: Sum.inr (Sum.inl u) :: r) σ := by
  obtain ⟨hx, hb, -⟩ := C
  intro H ls locs hP hS hv hs hlo hc
  obtain ⟨-, hs⟩ := List.forall_mem_cons.mp hs
  obtain ⟨-, hs⟩ := List.forall_mem_cons.mp hs
  have hk : ∀ z, mx_W p l e R s m args below meth c cells slots Q nL g L xs (pc + 1) loc (Sum.inr (Sum.inl z) :: r) σ → W p l e R s m args below meth c H locs cells slots Q (F0 m (pc + 1) ls (.long z :: r.map (mx_rv g))) := fun z q => q H ls locs hP hS hv (List.forall_mem_cons.mpr ⟨trivial, hs⟩) hlo hc
  unfold mx_lb at kk
  unfold mx_lbI at hd
  split at kk
  · exact lv_ladd hx hb hd (hk _ kk)
  · exact lv_land hx hb hd (hk _ kk)
  · rename_i n0 n1
    have hd : decode cc pc = .ok (.lor, 1) := by
      split at hd
      · exact absurd rfl n0
      · exact absurd rfl n1
      · exact hd
    exact lv_lor hx hb hd (hk _ kk)
def mx_lshI (b : Nat) : Instr := match b with
  | 0 => .lshl
  | _ => .lshr
theorem sd_lsh (C : mx_Cx p R s m args c cells slots cc nL own g L xs Y) (hd : decode cc pc = .ok (mx_lshI b, 1)) (kk : mx_lsh b u y (fun z => mx_W p l e R s m args below meth c cells slots Q nL g L xs (pc + 1) loc (Sum.inr (Sum.inl z) :: r) σ)) : mx_W p l e R s m args below meth c cells slots Q nL g L xs pc loc (Sum.inl y :: Sum.inr (Sum.inl u) :: r) σ := by
  obtain ⟨hx, hb, -⟩ := C
  intro H ls locs hP hS hv hs hlo hc
  obtain ⟨-, hs⟩ := List.forall_mem_cons.mp hs
  obtain ⟨-, hs⟩ := List.forall_mem_cons.mp hs
  have hk : ∀ z, mx_W p l e R s m args below meth c cells slots Q nL g L xs (pc + 1) loc (Sum.inr (Sum.inl z) :: r) σ → W p l e R s m args below meth c H locs cells slots Q (F0 m (pc + 1) ls (.long z :: r.map (mx_rv g))) := fun z q => q H ls locs hP hS hv (List.forall_mem_cons.mpr ⟨trivial, hs⟩) hlo hc
  unfold mx_lsh at kk
  unfold mx_lshI at hd
  split at kk
  · exact lv_lshl hx hb hd rfl (hk _ kk)
  · rename_i n0
    have hd : decode cc pc = .ok (.lshr, 1) := by
      split at hd
      · exact absurd rfl n0
      · exact hd
    exact lv_lshr hx hb hd rfl (hk _ kk)
theorem sd_lcmp (C : mx_Cx p R s m args c cells slots cc nL own g L xs Y) (hd : decode cc pc = .ok (.lcmp, 1)) (kk : mx_W p l e R s m args below meth c cells slots Q nL g L xs (pc + 1) loc (Sum.inl (lg_cmp u w) :: r) σ) : mx_W p l e R s m args below meth c cells slots Q nL g L xs pc loc (Sum.inr (Sum.inl w) :: Sum.inr (Sum.inl u) :: r) σ := by
  obtain ⟨hx, hb, -⟩ := C
  intro H ls locs hP hS hv hs hlo hc
  obtain ⟨-, hs⟩ := List.forall_mem_cons.mp hs
  obtain ⟨-, hs⟩ := List.forall_mem_cons.mp hs
  exact W.lcmp hx hb hd (kk H ls locs hP hS hv (List.forall_mem_cons.mpr ⟨trivial, hs⟩) hlo hc)
theorem sd_i2l (C : mx_Cx p R s m args c cells slots cc nL own g L xs Y) (hd : decode cc pc = .ok (.i2l, 1)) (kk : mx_W p l e R s m args below meth c cells slots Q nL g L xs (pc + 1) loc (Sum.inr (Sum.inl x.toInt64) :: r) σ) : mx_W p l e R s m args below meth c cells slots Q nL g L xs pc loc (Sum.inl x :: r) σ := by
  obtain ⟨hx, hb, -⟩ := C
  intro H ls locs hP hS hv hs hlo hc
  obtain ⟨-, hs⟩ := List.forall_mem_cons.mp hs
  exact lv_i2l hx hb hd rfl (kk H ls locs hP hS hv (List.forall_mem_cons.mpr ⟨trivial, hs⟩) hlo hc)
theorem sd_l2i (C : mx_Cx p R s m args c cells slots cc nL own g L xs Y) (hd : decode cc pc = .ok (.l2i, 1)) (kk : mx_W p l e R s m args below meth c cells slots Q nL g L xs (pc + 1) loc (Sum.inl u.toInt32 :: r) σ) : mx_W p l e R s m args below meth c cells slots Q nL g L xs pc loc (Sum.inr (Sum.inl u) :: r) σ := by
  obtain ⟨hx, hb, -⟩ := C
  intro H ls locs hP hS hv hs hlo hc
  obtain ⟨-, hs⟩ := List.forall_mem_cons.mp hs
  exact lv_l2i hx hb hd rfl (kk H ls locs hP hS hv (List.forall_mem_cons.mpr ⟨trivial, hs⟩) hlo hc)
theorem sd_iinc (C : mx_Cx p R s m args c cells slots cc nL own g L xs Y) (ha : a < nL) (hd : decode cc pc = .ok (.iinc a im.toInt, 3)) (hl : mx_lo loc a = some (Sum.inl x)) (kk : mx_W p l e R s m args below meth c cells slots Q nL g L xs (pc + 3) (mx_st1 loc a (Sum.inl (x + im))) stk σ) : mx_W p l e R s m args below meth c cells slots Q nL g L xs pc loc stk σ := by
  obtain ⟨hx, hb, -, -, -, -, -, hq, -⟩ := C
  intro H ls locs hP hS hv hs hlo hc
  obtain ⟨k, hk⟩ := List.getElem?_of_mem (mx_al_mem (g := g) hl)
  exact lv_iinc (x := x) (v := x + im) hx hb hd hv.has hk (by simp) ha rfl (fun ls' h' => kk H ls' locs hP hS (mx_lv.st1 (v := Sum.inl (x + im)) hq h') hs (mx_ok_st1 hlo trivial) hc)
theorem mx_cat1 {v : mx_V} (hq : g.2.2.2.category = 1) (h : ¬ mx_lg v) : (mx_rv g v).category = 1 := by
  rcases v with x | x | x
  · rfl
  · exact absurd trivial h
  · show (if x.2 = mx_oQ then g.2.2.2 else Value.ref (g.1 x.1 x.2)).category = 1
    split
    · exact hq
    · rfl
theorem sd_dup (C : mx_Cx p R s m args c cells slots cc nL own g L xs Y) {v : mx_V} (hv1 : ¬ mx_lg v) (hd : decode cc pc = .ok (.dup, 1)) (kk : mx_W p l e R s m args below meth c cells slots Q nL g L xs (pc + 1) loc (v :: v :: r) σ) : mx_W p l e R s m args below meth c cells slots Q nL g L xs pc loc (v :: r) σ := by
  obtain ⟨hx, hb, -, -, -, -, -, hq, -⟩ := C
  intro H ls locs hP hS hv hs hlo hc
  have h0 := (List.forall_mem_cons.mp hs).1
  exact lv_dup hx hb hd (mx_cat1 hq hv1) (kk H ls locs hP hS hv (List.forall_mem_cons.mpr ⟨h0, hs⟩) hlo hc)
theorem sd_dup2 (C : mx_Cx p R s m args c cells slots cc nL own g L xs Y) {v v' : mx_V} (hv1 : ¬ mx_lg v) (hv2 : ¬ mx_lg v') (hd : decode cc pc = .ok (.dup2, 1)) (kk : mx_W p l e R s m args below meth c cells slots Q nL g L xs (pc + 1) loc (v :: v' :: v :: v' :: r) σ) : mx_W p l e R s m args below meth c cells slots Q nL g L xs pc loc (v :: v' :: r) σ := by
  obtain ⟨hx, hb, -, -, -, -, -, hq, -⟩ := C
  intro H ls locs hP hS hv hs hlo hc
  have h0 := (List.forall_mem_cons.mp hs).1
  have h1 := (List.forall_mem_cons.mp (List.forall_mem_cons.mp hs).2).1
  exact lv_dup2_11 hx hb hd (mx_cat1 hq hv1) (mx_cat1 hq hv2) (kk H ls locs hP hS hv (List.forall_mem_cons.mpr ⟨h0, List.forall_mem_cons.mpr ⟨h1, hs⟩⟩) hlo hc)
theorem sd_pop (C : mx_Cx p R s m args c cells slots cc nL own g L xs Y) (hd : decode cc pc = .ok (.pop, 1)) (kk : mx_W p l e R s m args below meth c cells slots Q nL g L xs (pc + 1) loc r σ) : mx_W p l e R s m args below meth c cells slots Q nL g L xs pc loc (Sum.inl x :: r) σ := by
  obtain ⟨hx, hb, -⟩ := C
  intro H ls locs hP hS hv hs hlo hc
  exact lv_pop hx hb hd rfl (kk H ls locs hP hS hv (List.forall_mem_cons.mp hs).2 hlo hc)
def mx_cn (b : Nat) : ClassFile.Cond := match b with
  | 0 => .eq
  | 1 => .ne
  | 2 => .lt
  | 3 => .ge
  | 4 => .gt
  | _ => .le
theorem sd_ifc (C : mx_Cx p R s m args c cells slots cc nL own g L xs Y) {tgt : Nat} (hd : decode cc pc = .ok (.ifCond (mx_cn b) ((tgt : Int) - pc), 3)) (kk : mx_if b x 0 (mx_W p l e R s m args below meth c cells slots Q nL g L xs tgt loc r σ) (mx_W p l e R s m args below meth c cells slots Q nL g L xs (pc + 3) loc r σ)) : mx_W p l e R s m args below meth c cells slots Q nL g L xs pc loc (Sum.inl x :: r) σ := by
  obtain ⟨hx, hb, -⟩ := C
  intro H ls locs hP hS hv hs hlo hc
  obtain ⟨-, hs⟩ := List.forall_mem_cons.mp hs
  have ht : (pc : Int) + ((tgt : Int) - pc) = (tgt : Int) := by omega
  have h1 : mx_W p l e R s m args below meth c cells slots Q nL g L xs tgt loc r σ → _ := fun q => q H ls locs hP hS hv hs hlo hc
  have h2 : mx_W p l e R s m args below meth c cells slots Q nL g L xs (pc + 3) loc r σ → _ := fun q => q H ls locs hP hS hv hs hlo hc
  unfold mx_if at kk
  unfold mx_cn at hd
  split at kk
  · exact lv_if_eq hx hb hd ht (fun q => h1 (by rw [if_pos q] at kk; exact kk)) (fun q => h2 (by rw [if_neg q] at kk; exact kk))
  · exact lv_if_ne hx hb hd ht (fun q => h1 (by rw [if_neg q] at kk; exact kk)) (fun q => h2 (by rw [if_pos q] at kk; exact kk))
  · exact lv_if_lt hx hb hd ht (fun q => h1 (by rw [if_pos q] at kk; exact kk)) (fun q => h2 (by rw [if_neg q] at kk; exact kk))
  · exact lv_if_ge hx hb hd ht (fun q => h1 (by rw [if_pos q] at kk; exact kk)) (fun q => h2 (by rw [if_neg q] at kk; exact kk))
  · exact lv_if_gt hx hb hd ht (fun q => h1 (by rw [if_pos q] at kk; exact kk)) (fun q => h2 (by rw [if_neg q] at kk; exact kk))
  · rename_i n0 n1 n2 n3 n4
    have hd : decode cc pc = .ok (.ifCond .le ((tgt : Int) - pc), 3) := by
      split at hd
      · exact absurd rfl n0
      · exact absurd rfl n1
      · exact absurd rfl n2
      · exact absurd rfl n3
      · exact absurd rfl n4
      · exact hd
    exact lv_if_le hx hb hd ht (fun q => h1 (by rw [if_pos q] at kk; exact kk)) (fun q => h2 (by rw [if_neg q] at kk; exact kk))
theorem sd_icmp (C : mx_Cx p R s m args c cells slots cc nL own g L xs Y) {tgt : Nat} (hd : decode cc pc = .ok (.if_icmp (mx_cn b) ((tgt : Int) - pc), 3)) (kk : mx_if b x y (mx_W p l e R s m args below meth c cells slots Q nL g L xs tgt loc r σ) (mx_W p l e R s m args below meth c cells slots Q nL g L xs (pc + 3) loc r σ)) : mx_W p l e R s m args below meth c cells slots Q nL g L xs pc loc (Sum.inl y :: Sum.inl x :: r) σ := by
  obtain ⟨hx, hb, -⟩ := C
  intro H ls locs hP hS hv hs hlo hc
  obtain ⟨-, hs⟩ := List.forall_mem_cons.mp hs
  obtain ⟨-, hs⟩ := List.forall_mem_cons.mp hs
  have ht : (pc : Int) + ((tgt : Int) - pc) = (tgt : Int) := by omega
  have h1 : mx_W p l e R s m args below meth c cells slots Q nL g L xs tgt loc r σ → _ := fun q => q H ls locs hP hS hv hs hlo hc
  have h2 : mx_W p l e R s m args below meth c cells slots Q nL g L xs (pc + 3) loc r σ → _ := fun q => q H ls locs hP hS hv hs hlo hc
  unfold mx_if at kk
  unfold mx_cn at hd
  split at kk
  · exact lv_icmp_eq hx hb hd ht (fun q => h1 (by rw [if_pos q] at kk; exact kk)) (fun q => h2 (by rw [if_neg q] at kk; exact kk))
  · exact lv_icmp_ne hx hb hd ht (fun q => h1 (by rw [if_neg q] at kk; exact kk)) (fun q => h2 (by rw [if_pos q] at kk; exact kk))
  · exact lv_icmp_lt hx hb hd ht (fun q => h1 (by rw [if_pos q] at kk; exact kk)) (fun q => h2 (by rw [if_neg q] at kk; exact kk))
  · exact lv_icmp_ge hx hb hd ht (fun q => h1 (by rw [if_pos q] at kk; exact kk)) (fun q => h2 (by rw [if_neg q] at kk; exact kk))
  · exact lv_icmp_gt hx hb hd ht (fun q => h1 (by rw [if_pos q] at kk; exact kk)) (fun q => h2 (by rw [if_neg q] at kk; exact kk))
  · rename_i n0 n1 n2 n3 n4
    have hd : decode cc pc = .ok (.if_icmp .le ((tgt : Int) - pc), 3) := by
      split at hd
      · exact absurd rfl n0
      · exact absurd rfl n1
      · exact absurd rfl n2
      · exact absurd rfl n3
      · exact absurd rfl n4
      · exact hd
    exact lv_icmp_le hx hb hd ht (fun q => h1 (by rw [if_pos q] at kk; exact kk)) (fun q => h2 (by rw [if_neg q] at kk; exact kk))
theorem sd_goto (C : mx_Cx p R s m args c cells slots cc nL own g L xs Y) {tgt : Nat} (hd : decode cc pc = .ok (.goto ((tgt : Int) - pc), 3)) (kk : mx_W p l e R s m args below meth c cells slots Q nL g L xs tgt loc stk σ) : mx_W p l e R s m args below meth c cells slots Q nL g L xs pc loc stk σ := by
  obtain ⟨hx, hb, -⟩ := C
  intro H ls locs hP hS hv hs hlo hc
  exact lv_goto hx hb hd (by omega) (kk H ls locs hP hS hv hs hlo hc)
theorem mx_sw_spec (x : Int32) (d : Nat) : ∀ (ts : List Nat) (b : Nat), (∃ i t, ts[i]? = some t ∧ x = Int32.ofNat (b + i) ∧ mx_sw x d b ts = t) ∨ ((∀ i, i < ts.length → x ≠ Int32.ofNat (b + i)) ∧ mx_sw x d b ts = d)
  | [], b => Or.inr ⟨fun i h => absurd h (Nat.not_lt_zero i), rfl⟩
  | t :: ts, b => by
    by_cases h : x = Int32.ofNat b
    · exact Or.inl ⟨0, t, rfl, h, if_pos h⟩
    · have e : mx_sw x d b (t :: ts) = mx_sw x d (b + 1) ts := if_neg h
      rw [e]
      rcases mx_sw_spec x d ts (b + 1) with ⟨i, t', h1, h2, h3⟩ | ⟨h1, h2⟩
      · exact Or.inl ⟨i + 1, t', by rw [List.getElem?_cons_succ]; exact h1, by rw [h2]; congr 1; omega, h3⟩
      · refine Or.inr ⟨fun i hi => ?_, h2⟩
        cases i with
        | zero => exact h
        | succ i =>
          have := h1 i (by simpa using hi)
          intro q
          exact this (by rw [q]; congr 1; omega)
theorem sd_sw (C : mx_Cx p R s m args c cells slots cc nL own g L xs Y) {len : Nat} {ts : List Nat} {tg : Nat → Nat} (hd : decode cc pc = .ok (.tableswitch ((tg a : Int) - pc) (b : Int) (((b + ts.length : Nat) : Int) - 1) (ts.map (fun t => (tg t : Int) - pc)).toArray, len)) (hb0 : b + ts.length < 2 ^ 31) (kk : mx_W p l e R s m args below meth c cells slots Q nL g L xs (tg (mx_sw x a b ts)) loc r σ) : mx_W p l e R s m args below meth c cells slots Q nL g L xs pc loc (Sum.inl x :: r) σ := by
  obtain ⟨hx, hb, -⟩ := C
  intro H ls locs hP hS hv hs hlo hc
  obtain ⟨-, hs⟩ := List.forall_mem_cons.mp hs
  have k1 := kk H ls locs hP hS hv hs hlo hc
  rcases mx_sw_spec x a ts b with ⟨i, t, h1, h2, h3⟩ | ⟨h1, h2⟩
  · rw [h3] at k1
    have hi : i < ts.length := (List.getElem?_eq_some_iff.mp h1).1
    have ex : x.toInt = ((b + i : Nat) : Int) := by rw [h2]; exact nI_toInt (by omega)
    refine lv_tableIn (off := (tg t : Int) - pc) (tgt := tg t) hx hb hd (by omega) (by omega) ?_ (by omega) k1
    have e1 : (x.toInt - (b : Int)).toNat = i := by omega
    rw [e1]
    simp [h1]
  · rw [h2] at k1
    refine lv_tableOut (tgt := tg a) hx hb hd ?_ (by omega) k1
    rcases Int.lt_or_le x.toInt (b : Int) with q | q
    · exact Or.inl q
    · refine Or.inr ?_
      rcases Int.lt_or_le (((b + ts.length : Nat) : Int) - 1) x.toInt with q2 | q2
      · exact q2
      · exfalso
        refine h1 (x.toInt - b).toNat (by omega) (Int32.toInt_inj.mp ?_)
        rw [show (Int32.ofNat (b + (x.toInt - b).toNat)).toInt = _ from nI_toInt (by omega)]
        omega
theorem sd_lsw (C : mx_Cx p R s m args c cells slots cc nL own g L xs Y) {len t0 t1 : Nat} {tg : Nat → Nat} (hd : decode cc pc = .ok (.lookupswitch ((tg a : Int) - pc) #[(0, (tg t0 : Int) - pc), (1, (tg t1 : Int) - pc)], len)) (kk : mx_W p l e R s m args below meth c cells slots Q nL g L xs (tg (mx_sw x a 0 [t0, t1])) loc r σ) : mx_W p l e R s m args below meth c cells slots Q nL g L xs pc loc (Sum.inl x :: r) σ := by
  obtain ⟨hx, hb, -⟩ := C
  intro H ls locs hP hS hv hs hlo hc
  obtain ⟨-, hs⟩ := List.forall_mem_cons.mp hs
  have k1 := kk H ls locs hP hS hv hs hlo hc
  have h0 : (x = Int32.ofNat 0) ↔ x.toInt = 0 := by rw [← Int32.toInt_inj]; exact Iff.rfl
  have h1 : (x = Int32.ofNat 1) ↔ x.toInt = 1 := by rw [← Int32.toInt_inj]; exact Iff.rfl
  have e : mx_sw x a 0 [t0, t1] = if x.toInt = 0 then t0 else if x.toInt = 1 then t1 else a := by
    show (if x = Int32.ofNat 0 then t0 else if x = Int32.ofNat 1 then t1 else a) = _
    simp only [h0, h1]
  rw [e] at k1
  by_cases q0 : x.toInt = 0
  · rw [if_pos q0] at k1
    exact lv_lookup (off := (tg t0 : Int) - pc) hx hb hd (by simp) (by rw [Op.lookupswitch.offset_cons, if_pos q0.symm]) (by omega) k1
  · rw [if_neg q0] at k1
    by_cases q1 : x.toInt = 1
    · rw [if_pos q1] at k1
      exact lv_lookup (off := (tg t1 : Int) - pc) hx hb hd (by simp) (by rw [Op.lookupswitch.offset_cons, if_neg (Ne.symm q0), Op.lookupswitch.offset_cons, if_pos q1.symm]) (by omega) k1
    · rw [if_neg q1] at k1
      exact lv_lookup (off := (tg a : Int) - pc) hx hb hd (by simp) (by rw [Op.lookupswitch.offset_cons, if_neg (Ne.symm q0), Op.lookupswitch.offset_cons, if_neg (Ne.symm q1)]; rfl) (by omega) k1
theorem mx_obj {k o : Nat} (h : mx_cO o = a + 1) : mx_cell g σ k o = .inr (a, (List.range (mx_nf o)).map (mx_fv g σ k o)) := by
  unfold mx_cell
  rw [h]
theorem mx_arr {k o : Nat} (h : mx_aT o ≠ 0) (ho : o < 55) : mx_cell g σ k o = .inl (g.2.2.1 (mx_aT o), mx_aN o, if mx_aT o ≤ 3 then .inl (σ k o) else .inr (.inr (.inr (.inr (fun j => some (g.1 (mx_rA o j).1 (mx_rA o j).2)))))) := by
  unfold mx_cell
  rw [(mx_aT_c o ho).1 h]
theorem sd_getf (C : mx_Cx p R s m args c cells slots cc nL own g L xs Y) {k o : Nat} (hN : b < mx_nf o) (hd : decode cc pc = .ok (.getfield x0, 3)) (hw : Cond.fieldLink own x0 (mx_cl a).1 ((mx_cl a).2.1 b).2.1 ((mx_cl a).2.1 b).2.2.1 ∈ lw_gd) (hT : ((mx_cl a).2.1 b).1 = (mx_cl a).1) (ho : mx_cO o = a + 1) (hk : k < mx_kM o) {v : mx_V} (hv0 : mx_okV v) (hfv : mx_fv g σ k o b = mx_rv g v) (kk : mx_W p l e R s m args below meth c cells slots Q nL g L xs (pc + 3) loc (v :: r) σ) : mx_W p l e R s m args below meth c cells slots Q nL g L xs pc loc (Sum.inr (Sum.inr (k, o)) :: r) σ := by
  obtain ⟨hx, hb, -, hown, hts, hF, hinj, hq, -⟩ := C
  intro H ls locs hP hS hv hs hlo hc
  obtain ⟨-, hs⟩ := List.forall_mem_cons.mp hs
  have ho5 : o < 55 := mx_kM_lt hk
  obtain ⟨ha9, hnf⟩ := (mx_aT_c o ho5).2 (by omega)
  have ea : mx_cO o - 1 = a := by omega
  rw [ea] at ha9 hnf
  obtain ⟨i, hi⟩ := mx_at hk
  have he : (mx_ws g σ)[i]? = some (g.1 k o, .inr (a, (List.range (mx_nf o)).map (mx_fv g σ k o))) := by rw [mx_ws_at hi, mx_obj ho]
  rw [List.map_cons, mx_rv_ref hk]
  refine va_get (C := (mx_cl a).1) (T := (mx_cl a).2.1) (N := (mx_cl a).2.2) (ref := (mx_cl a).1) (own := own) (index := x0) hx hb hts (mx_uw a ha9) hown hF.1 hP i he (mx_cl_at ha9) b (by rw [show (mx_cl a).2.2 = mx_nf o from hnf.symm]; exact hN) (hts _ hw) (fun z hz => by rw [hT] at hz; exact hz) (v := mx_rv g v) (by rw [List.getElem?_map, List.getElem?_range hN]; exact congrArg some hfv) hd ?_
  exact kk H ls locs hP hS hv (List.forall_mem_cons.mpr ⟨hv0, hs⟩) hlo hc
theorem mx_fs_set {k o j : Nat} {x : Int32} {v : Value} (hj : j < mx_nf o) (hv : mx_fv g (mx_up σ k o j x) k o j = v) : ((List.range (mx_nf o)).map (mx_fv g σ k o)).set j v = (List.range (mx_nf o)).map (mx_fv g (mx_up σ k o j x) k o) := by
  apply List.ext_getElem?
  intro n
  by_cases hn : n = j
  · subst hn
    rw [List.getElem?_set_self (by simpa using hj), List.getElem?_map, List.getElem?_range hj, ← hv]
    rfl
  · rw [List.getElem?_set_ne (Ne.symm hn), List.getElem?_map, List.getElem?_map]
    by_cases hl : n < mx_nf o
    · rw [List.getElem?_range hl]
      simp only [Option.map_some]
      have : mx_up σ k o j x k o n = σ k o n := by rw [mx_up_s]; exact if_neg hn
      unfold mx_fv
      rw [this]
    · rw [List.getElem?_eq_none (by simpa using hl)]
      rfl
theorem sd_putf (C : mx_Cx p R s m args c cells slots cc nL own g L xs Y) {k o : Nat} {v : mx_V} {z : Int32} (hN : b < mx_nf o) (hd : decode cc pc = .ok (.putfield x0, 3)) (hw : Cond.fieldLink own x0 (mx_cl a).1 ((mx_cl a).2.1 b).2.1 ((mx_cl a).2.1 b).2.2.1 ∈ lw_gd) (hT : ((mx_cl a).2.1 b).1 = (mx_cl a).1) (ho : mx_cO o = a + 1) (hk : k < mx_kM o) (hnf2 : mx_fk o b ≠ 2) (hn : narrow (mx_tyf a b) (mx_rv g v) = mx_rv g v) (hfit : fits (mx_tyf a b) (mx_rv g v) = true) (hfv : mx_fv g (mx_up σ k o b z) k o b = mx_rv g v) (kk : mx_W p l e R s m args below meth c cells slots Q nL g L xs (pc + 3) loc r (mx_up σ k o b z)) : mx_W p l e R s m args below meth c cells slots Q nL g L xs pc loc (v :: Sum.inr (Sum.inr (k, o)) :: r) σ := by
  obtain ⟨hx, hb, -, hown, hts, hF, hinj, hq, -⟩ := C
  intro H ls locs hP hS hv hs hlo hc
  obtain ⟨-, hs⟩ := List.forall_mem_cons.mp hs
  obtain ⟨-, hs⟩ := List.forall_mem_cons.mp hs
  have ho5 : o < 55 := mx_kM_lt hk
  obtain ⟨ha9, hnf⟩ := (mx_aT_c o ho5).2 (by omega)
  have ea : mx_cO o - 1 = a := by omega
  rw [ea] at ha9 hnf
  obtain ⟨i, hi⟩ := mx_at hk
  have he : (mx_ws g σ)[i]? = some (g.1 k o, .inr (a, (List.range (mx_nf o)).map (mx_fv g σ k o))) := by rw [mx_ws_at hi, mx_obj ho]
  have hNc : b < (mx_cl a).2.2 := by rw [show (mx_cl a).2.2 = mx_nf o from hnf.symm]; exact hN
  have hfin := mx_fk_f o ho5 (by omega) b hN hnf2
  rw [ea] at hfin
  rw [List.map_cons, List.map_cons, mx_rv_ref hk]
  refine va_put (C := (mx_cl a).1) (T := (mx_cl a).2.1) (N := (mx_cl a).2.2) (ref := (mx_cl a).1) (own := own) (index := x0) hx hb hts (mx_uw a ha9) (mx_tyf a) (mx_ty_ok a ha9) (mx_nm_ok a ha9) hown hF.1 hP (mx_Dof hinj σ) hS i he (mx_cl_at ha9) b hNc (hts _ hw) (fun z hz => by rw [hT] at hz; exact hz) hfin (ty := mx_tyf a b) (v := mx_rv g v) (mx_ty_ok a ha9 b hNc) hn hfit (by simpa using hN) hd (fun H1 locs1 hP1 hD1 hS1 => ?_)
  have ew : (mx_ws g σ).set i (g.1 k o, .inr (a, ((List.range (mx_nf o)).map (mx_fv g σ k o)).set b (mx_rv g v))) = mx_ws g (mx_up σ k o b z) := mx_ws_set hi (by rw [mx_obj ho, mx_fs_set hN hfv]) (fun k' o' h => mx_cell_congr (mx_up_o h))
  rw [ew] at hP1
  refine kk H1 ls locs1 hP1 hS1 hv hs hlo ?_
  have hne : ∀ k', (k', mx_oX) ≠ (k, o) := fun k' h => by cases h; exact absurd ho5 (by decide)
  exact ⟨by rw [mx_up_o (hne 0)]; exact hc.1, fun j hj => by rw [mx_up_o (hne 1)]; exact hc.2 j hj⟩
theorem sd_iald (C : mx_Cx p R s m args c cells slots cc nL own g L xs Y) {k o : Nat} {i : Int32} (hd : decode cc pc = .ok (.iaload, 1)) (ht : mx_aT o = 1) (hk : k < mx_kM o) (kk : mx_g False i (mx_aN o) (fun j => mx_W p l e R s m args below meth c cells slots Q nL g L xs (pc + 1) loc (Sum.inl (σ k o j) :: r) σ)) : mx_W p l e R s m args below meth c cells slots Q nL g L xs pc loc (Sum.inl i :: Sum.inr (Sum.inr (k, o)) :: r) σ := by
  obtain ⟨hx, hb, -, hown, hts, hF, hinj, hq, -⟩ := C
  intro H ls locs hP hS hv hs hlo hc
  obtain ⟨-, hs⟩ := List.forall_mem_cons.mp hs
  obtain ⟨-, hs⟩ := List.forall_mem_cons.mp hs
  obtain ⟨n, hn⟩ := mx_at hk
  have he : (mx_ws g σ)[n]? = some (g.1 k o, .inl (g.2.2.1 1, mx_aN o, .inl (σ k o))) := by rw [mx_ws_at hn, mx_arr (by omega) (mx_kM_lt hk), ht]; rfl
  unfold mx_g at kk
  split at kk
  · exact kk.elim
  · rename_i hin
    rw [List.map_cons, List.map_cons, mx_rv_ref hk]
    exact va_iald hx hb hF.1 hP n 0 he rfl hin hd (kk H ls locs hP hS hv (List.forall_mem_cons.mpr ⟨trivial, hs⟩) hlo hc)
theorem sd_bald (C : mx_Cx p R s m args c cells slots cc nL own g L xs Y) {k o : Nat} {i : Int32} (hd : decode cc pc = .ok (.baload, 1)) (ht : mx_aT o = 2 ∨ mx_aT o = 3) (hk : k < mx_kM o) (kk : mx_g False i (mx_aN o) (fun j => mx_W p l e R s m args below meth c cells slots Q nL g L xs (pc + 1) loc (Sum.inl (σ k o j) :: r) σ)) : mx_W p l e R s m args below meth c cells slots Q nL g L xs pc loc (Sum.inl i :: Sum.inr (Sum.inr (k, o)) :: r) σ := by
  obtain ⟨hx, hb, -, hown, hts, hF, hinj, hq, -⟩ := C
  intro H ls locs hP hS hv hs hlo hc
  obtain ⟨-, hs⟩ := List.forall_mem_cons.mp hs
  obtain ⟨-, hs⟩ := List.forall_mem_cons.mp hs
  obtain ⟨n, hn⟩ := mx_at hk
  unfold mx_g at kk
  split at kk
  · exact kk.elim
  · rename_i hin
    rw [List.map_cons, List.map_cons, mx_rv_ref hk]
    rcases ht with ht | ht
    · have he : (mx_ws g σ)[n]? = some (g.1 k o, .inl (g.2.2.1 2, mx_aN o, .inl (σ k o))) := by rw [mx_ws_at hn, mx_arr (by omega) (mx_kM_lt hk), ht]; rfl
      exact va_bald hx hb hF.1 hP n 1 he rfl hin hd (kk H ls locs hP hS hv (List.forall_mem_cons.mpr ⟨trivial, hs⟩) hlo hc)
    · have he : (mx_ws g σ)[n]? = some (g.1 k o, .inl (g.2.2.1 3, mx_aN o, .inl (σ k o))) := by rw [mx_ws_at hn, mx_arr (by omega) (mx_kM_lt hk), ht]; rfl
      exact va_zald hx hb hF.1 hP n 2 he rfl hin hd (kk H ls locs hP hS hv (List.forall_mem_cons.mpr ⟨trivial, hs⟩) hlo hc)
theorem mx_arr_set {k o n j : Nat} {x : Int32} {t : Nat} (hn : mx_cs[n]? = some (k, o)) (hk : k < mx_kM o) (ht : mx_aT o = t) (ht0 : t ≠ 0) (ht3 : t ≤ 3) : (mx_ws g σ).set n (g.1 k o, .inl (g.2.2.1 t, mx_aN o, .inl (upd (σ k o) j x))) = mx_ws g (mx_up σ k o j x) := by
  refine mx_ws_set hn ?_ (fun k' o' h => mx_cell_congr (mx_up_o h))
  rw [mx_arr (by omega) (mx_kM_lt hk), ht, if_pos ht3, mx_up_s]
theorem mx_sc_up {k o j : Nat} {x : Int32} (hk : k < mx_kM o) (hc : mx_sc L xs σ) : mx_sc L xs (mx_up σ k o j x) := by
  have ho5 := mx_kM_lt hk
  have hne : ∀ k', (k', mx_oX) ≠ (k, o) := fun k' h => by cases h; exact absurd ho5 (by decide)
  exact ⟨by rw [mx_up_o (hne 0)]; exact hc.1, fun j hj => by rw [mx_up_o (hne 1)]; exact hc.2 j hj⟩
theorem sd_iast (C : mx_Cx p R s m args c cells slots cc nL own g L xs Y) {k o : Nat} {i : Int32} (hd : decode cc pc = .ok (.iastore, 1)) (ht : mx_aT o = 1) (hk : k < mx_kM o) (kk : mx_g False i (mx_aN o) (fun j => mx_w (mx_up σ k o j x) (fun σ => mx_W p l e R s m args below meth c cells slots Q nL g L xs (pc + 1) loc r σ))) : mx_W p l e R s m args below meth c cells slots Q nL g L xs pc loc (Sum.inl x :: Sum.inl i :: Sum.inr (Sum.inr (k, o)) :: r) σ := by
  obtain ⟨hx, hb, -, hown, hts, hF, hinj, hq, -⟩ := C
  intro H ls locs hP hS hv hs hlo hc
  obtain ⟨-, hs⟩ := List.forall_mem_cons.mp hs
  obtain ⟨-, hs⟩ := List.forall_mem_cons.mp hs
  obtain ⟨-, hs⟩ := List.forall_mem_cons.mp hs
  obtain ⟨n, hn⟩ := mx_at hk
  have he : (mx_ws g σ)[n]? = some (g.1 k o, .inl (g.2.2.1 1, mx_aN o, .inl (σ k o))) := by rw [mx_ws_at hn, mx_arr (by omega) (mx_kM_lt hk), ht]; rfl
  unfold mx_g at kk
  split at kk
  · exact kk.elim
  · rename_i hin
    rw [List.map_cons, List.map_cons, List.map_cons, mx_rv_ref hk]
    refine va_iast hx hb hF.1 hP (mx_Dof hinj σ) hS n 0 he rfl hin hd (fun H1 locs1 hP1 hD1 hS1 => ?_)
    rw [mx_arr_set hn hk ht (by omega) (by omega)] at hP1
    exact kk H1 ls locs1 hP1 hS1 hv hs hlo (mx_sc_up hk hc)
theorem sd_bast (C : mx_Cx p R s m args c cells slots cc nL own g L xs Y) {k o : Nat} {i : Int32} (hd : decode cc pc = .ok (.bastore, 1)) (ht : mx_aT o = b + 2) (hb2 : b < 2) (hk : k < mx_kM o) (kk : mx_g False i (mx_aN o) (fun j => mx_w (mx_up σ k o j (mx_nr b x)) (fun σ => mx_W p l e R s m args below meth c cells slots Q nL g L xs (pc + 1) loc r σ))) : mx_W p l e R s m args below meth c cells slots Q nL g L xs pc loc (Sum.inl x :: Sum.inl i :: Sum.inr (Sum.inr (k, o)) :: r) σ := by
  obtain ⟨hx, hb, -, hown, hts, hF, hinj, hq, -⟩ := C
  intro H ls locs hP hS hv hs hlo hc
  obtain ⟨-, hs⟩ := List.forall_mem_cons.mp hs
  obtain ⟨-, hs⟩ := List.forall_mem_cons.mp hs
  obtain ⟨-, hs⟩ := List.forall_mem_cons.mp hs
  obtain ⟨n, hn⟩ := mx_at hk
  unfold mx_g at kk
  split at kk
  · exact kk.elim
  · rename_i hin
    rw [List.map_cons, List.map_cons, List.map_cons, mx_rv_ref hk]
    rcases (show b = 0 ∨ b = 1 by omega) with rfl | rfl
    · have he : (mx_ws g σ)[n]? = some (g.1 k o, .inl (g.2.2.1 2, mx_aN o, .inl (σ k o))) := by rw [mx_ws_at hn, mx_arr (by omega) (mx_kM_lt hk), ht]; rfl
      refine va_bast hx hb hF.1 hP (mx_Dof hinj σ) hS n 1 he rfl hin hd (fun H1 locs1 hP1 hD1 hS1 => ?_)
      rw [mx_arr_set hn hk ht (by omega) (by omega)] at hP1
      exact kk H1 ls locs1 hP1 hS1 hv hs hlo (mx_sc_up hk hc)
    · have he : (mx_ws g σ)[n]? = some (g.1 k o, .inl (g.2.2.1 3, mx_aN o, .inl (σ k o))) := by rw [mx_ws_at hn, mx_arr (by omega) (mx_kM_lt hk), ht]; rfl
      refine va_zast hx hb hF.1 hP (mx_Dof hinj σ) hS n 2 he rfl hin hd (fun H1 locs1 hP1 hD1 hS1 => ?_)
      rw [mx_arr_set hn hk ht (by omega) (by omega)] at hP1
      exact kk H1 ls locs1 hP1 hS1 hv hs hlo (mx_sc_up hk hc)
theorem mx_rA_ok : ∀ o, o < 55 → 4 ≤ mx_aT o → ∀ j, j < mx_aN o → (mx_rA o j).1 < mx_kM (mx_rA o j).2 := by decide +kernel
theorem sd_aald (C : mx_Cx p R s m args c cells slots cc nL own g L xs Y) {k o : Nat} {i : Int32} (hd : decode cc pc = .ok (.aaload, 1)) (ht : mx_aT o = 4 ∨ mx_aT o = 5) (hk : k < mx_kM o) (kk : mx_g False i (mx_aN o) (fun j => mx_W p l e R s m args below meth c cells slots Q nL g L xs (pc + 1) loc (Sum.inr (Sum.inr ((mx_rA o j).1, (mx_rA o j).2)) :: r) σ)) : mx_W p l e R s m args below meth c cells slots Q nL g L xs pc loc (Sum.inl i :: Sum.inr (Sum.inr (k, o)) :: r) σ := by
  obtain ⟨hx, hb, -, hown, hts, hF, hinj, hq, -⟩ := C
  intro H ls locs hP hS hv hs hlo hc
  obtain ⟨-, hs⟩ := List.forall_mem_cons.mp hs
  obtain ⟨-, hs⟩ := List.forall_mem_cons.mp hs
  obtain ⟨n, hn⟩ := mx_at hk
  unfold mx_g at kk
  split at kk
  · exact kk.elim
  · rename_i hin
    rw [List.map_cons, List.map_cons, mx_rv_ref hk]
    have hj : i.toNatClampNeg < mx_aN o := Nat.not_le.mp fun q => hin (Or.inr q)
    have hr := mx_rA_ok o (mx_kM_lt hk) (by omega) _ hj
    have k1 := kk H ls locs hP hS hv (List.forall_mem_cons.mpr ⟨Or.inl hr, hs⟩) hlo hc
    rw [List.map_cons, mx_rv_ref hr] at k1
    rcases ht with ht | ht
    · have he : (mx_ws g σ)[n]? = some (g.1 k o, .inl (g.2.2.1 4, mx_aN o, .inr (.inr (.inr (.inr (fun j => some (g.1 (mx_rA o j).1 (mx_rA o j).2))))))) := by rw [mx_ws_at hn, mx_arr (by omega) (mx_kM_lt hk), ht]; rfl
      exact va_aldq hx hb hF.1 hP n 3 he rfl hin hd k1
    · have he : (mx_ws g σ)[n]? = some (g.1 k o, .inl (g.2.2.1 5, mx_aN o, .inr (.inr (.inr (.inr (fun j => some (g.1 (mx_rA o j).1 (mx_rA o j).2))))))) := by rw [mx_ws_at hn, mx_arr (by omega) (mx_kM_lt hk), ht]; rfl
      exact va_aldq hx hb hF.1 hP n 4 he rfl hin hd k1
theorem sd_alen (C : mx_Cx p R s m args c cells slots cc nL own g L xs Y) {k o : Nat} (hd : decode cc pc = .ok (.arraylength, 1)) (ht : mx_aT o = 1) (hk : k < mx_kM o) (kk : mx_W p l e R s m args below meth c cells slots Q nL g L xs (pc + 1) loc (Sum.inl (Int32.ofNat (mx_aN o)) :: r) σ) : mx_W p l e R s m args below meth c cells slots Q nL g L xs pc loc (Sum.inr (Sum.inr (k, o)) :: r) σ := by
  obtain ⟨hx, hb, -, hown, hts, hF, hinj, hq, -⟩ := C
  intro H ls locs hP hS hv hs hlo hc
  obtain ⟨-, hs⟩ := List.forall_mem_cons.mp hs
  obtain ⟨n, hn⟩ := mx_at hk
  have he : (mx_ws g σ)[n]? = some (g.1 k o, .inl (g.2.2.1 1, mx_aN o, .inl (σ k o))) := by rw [mx_ws_at hn, mx_arr (by omega) (mx_kM_lt hk), ht]; rfl
  rw [List.map_cons, mx_rv_ref hk]
  exact va_alen hx hb hF.1 hP n 0 he (ty := .int) rfl rfl hd (kk H ls locs hP hS hv (List.forall_mem_cons.mpr ⟨trivial, hs⟩) hlo hc)
def mx_Q (g : mx_G) (r : mx_Rt) : Array Value → State → Outcome → State → Prop := fun _ st oc t => oc = .returned (r.1.map (mx_rv g)) ∧ va_P g.2.1 vwCl (mx_ws g r.2) t.heap ∧ va_F (mx_A g) st t
def mx_Pc (g : mx_G) (L : Nat) (xs : Nat → Int32) (as : List mx_V) (σ : mx_S) : Array Value → State → Prop := va_Pc (as.map (mx_rv g)) (fun U => va_P g.2.1 vwCl (mx_ws g σ) U.heap ∧ mx_Fx g L xs U)
def mx_rm (y : Nat) : Room := { frames := y + 2, cells := 0, slots := 0, locals := 100 * (y + 2) }
abbrev mx_wy (y : Nat) : List Cond := Cond.code (mx_mN y) (mx_mC y) (mx_nl y) (mx_mR y) :: lw_gd
/-- what is to be shown of a method's answer -/
def mx_OK (l : Launch) (y : Nat) (as : List mx_V) (σ : mx_S) (r : mx_Rt) : Prop := ∀ (g : mx_G) (L : Nat) (xs : Nat → Int32), mx_inj g → g.2.2.2.category = 1 → L < 2 ^ 31 → (∀ v ∈ as, mx_okV v) → mx_wd as ≤ mx_nl y → mx_sc L xs σ → Met l (mx_mN y) (mx_wy y) (mx_rm y) (mx_Pc g L xs as σ) (mx_Q g r) 0 0 (mx_A g)
theorem mx_blind {as : List mx_V} : FrameBlind (mx_Pc g L xs as σ) := by
  intro a U f mk q
  exact ⟨q.1, q.2.1, q.2.2.same rfl rfl⟩
theorem mx_callW {rest st0 : List Value} {rr : mx_Rt} {aa : Array Value} {H : Heap} {locs : List Loc} {ls : Array Slot} (hr : va_Run p l e R s m args below meth c H locs cells slots 0 0 (F0 m pc ls st0) rest (mx_Q g rr aa) (mx_A g)) (hS : va_S (mx_A g) s.heap H locs) (kk : ∀ (H1 : Heap) (locs1 : List Loc), va_P g.2.1 vwCl (mx_ws g rr.2) H1 → va_S (mx_A g) s.heap H1 locs1 → W p l e R s m args below meth c H1 locs1 cells slots Q (F0 m (pc + 3) ls ((rr.1.map (mx_rv g)).toList ++ rest))) : W p l e R s m args below meth c H locs cells slots Q (F0 m pc ls st0) := by
  intro T hT X
  obtain ⟨v, st₀, t, T', Lc, h0, X', hL, e1, e2, ⟨hv, hP1, hz, hk⟩, st⟩ := hr T hT X
  have hv : v = rr.1.map (mx_rv g) := by injection hv
  subst hv
  rw [h0] at hz hk
  obtain ⟨t2, a1, b1⟩ := kk T'.heap (locs ++ Lc) (by rw [e1]; exact hP1) ⟨Nat.le_trans hS.1 (by rw [e1]; exact hz), fun q h1 h2 => by rw [e1, hk q (Nat.lt_of_lt_of_le h1 hS.1) h2]; exact hS.2.1 q h1 h2, fun q hq => by
    rcases List.mem_append.mp hq with h | h
    · exact hS.2.2 q h
    · exact hL q h⟩ T' rfl X'
  exact ⟨t2, st t2 a1, b1⟩
theorem lw_gd_good : GoodIn lw_gd lw_gd := fun w h => ⟨h, good_of_word (List.mem_filter.mp h).2⟩
theorem mx_good {y : Nat} (h : Cond.code (mx_mN y) (mx_mC y) (mx_nl y) (mx_mR y) ∈ lw_gd) : GoodIn lw_gd (mx_wy y) := fun w hw => (List.mem_cons.mp hw).elim (fun e => e ▸ lw_gd_good _ h) (fun e => lw_gd_good _ e)
theorem mx_catle {v : mx_V} (hq : g.2.2.2.category = 1) : (mx_rv g v).category ≤ 2 := by
  rcases v with x | x | x
  · exact Nat.le_succ 1
  · exact Nat.le_refl 2
  · show (if x.2 = mx_oQ then g.2.2.2 else Value.ref (g.1 x.1 x.2)).category ≤ 2
    split
    · omega
    · exact Nat.le_succ 1
theorem mx_sum (hq : g.2.2.2.category = 1) : ∀ (st : List mx_V), ((st.map (mx_rv g)).map fun v => v.category).sum ≤ 2 * st.length
  | [] => Nat.le_refl 0
  | v :: st => by
    have h1 := mx_sum hq st
    have h2 := mx_catle (g := g) (v := v) hq
    simp only [List.map_cons, List.sum_cons, List.length_cons]
    omega
/-- the words of a method, as a call of it wants them -/
def mx_mok (y : Nat) : Prop := Cond.code (mx_mN y) (mx_mC y) (mx_nl y) (mx_mR y) ∈ lw_gd ∧ Cond.initialized (mx_mN y).cls ∈ lw_gd ∧ (mx_mN y).cls ≠ "java/lang/invoke/MethodHandle" ∧ (mx_mN y).cls ≠ "java/lang/invoke/VarHandle"
theorem sd_callV (C : mx_Cx p R s m args c cells slots cc nL own g L xs Y) {y' : Nat} {v0 : mx_V} {as rest : List mx_V} {rr : mx_Rt} {ad0 : Nat} {host : String} (hY : y' < Y) (hwd : mx_wd (v0 :: as) ≤ mx_nl y') (hOK : mx_OK l y' (v0 :: as) σ rr) (hm : mx_mok y') (hn : (parseMethodDescriptor (mx_mN y').desc).map (fun d => d.parameters.length) = some as.length) (hi : Cond.instanceMethod (mx_mN y') ∈ lw_gd) (hse : Cond.selects (mx_mN y').cls (mx_mN y') (mx_mN y') ∈ lw_gd) (hl : Cond.methodLink own x0 (mx_mN y') ∈ lw_gd ∨ va_Nw (.methodLinkNest own x0 (mx_mN y') host) s) (hd : decode cc pc = .ok (.invokevirtual x0, 3)) (h4 : rest.length ≤ 4) (hstk : stk = (v0 :: as).reverse ++ rest) (hv0 : mx_rv g v0 = .ref ad0)
    (hrc : ∀ H locs, va_P g.2.1 vwCl (mx_ws g σ) H → va_S (mx_A g) s.heap H locs → ∃ cell : Cell, H[ad0]? = some cell ∧ cell.vm.isStatics = false ∧ s.vm.findClass (mx_mN y').cls = some cell.cls)
    (hX : ∀ k j, rr.2 k mx_oX j = σ k mx_oX j) (hrv : ∀ v, rr.1 = some v → mx_okV v) (kk : mx_W p l e R s m args below meth c cells slots Q nL g L xs (pc + 3) loc (rr.1.toList ++ rest) rr.2) : mx_W p l e R s m args below meth c cells slots Q nL g L xs pc loc stk σ := by
  obtain ⟨hx, hb, hml, hown, hts, hF, hinj, hq, hcs, hL31, hR1, hRY⟩ := C
  intro H ls locs hP hS hv hs hlo hc
  obtain ⟨hcode, hini, hc1, hc2⟩ := hm
  subst hstk
  have hs1 : ∀ v ∈ v0 :: as, mx_okV v := fun v h => hs v (List.mem_append_left _ (List.mem_reverse.mpr h))
  have hs2 : ∀ v ∈ rest, mx_okV v := fun v h => hs v (List.mem_append_right _ h)
  have hM := hOK g L xs hinj hq hL31 hs1 hwd hc
  have hPre : PreV s H (mx_mN y').cls ad0 (mx_Pc g L xs (v0 :: as) σ) (as.map (mx_rv g)) := ⟨mx_blind, hrc H locs hP hS, fun U hU hW => ⟨by rw [List.map_cons, hv0], by rw [hU]; exact hP, hF.warm hW hU hS⟩⟩
  have hstk : ((v0 :: as).reverse ++ rest).map (mx_rv g) = (as.map (mx_rv g)).reverse ++ .ref ad0 :: rest.map (mx_rv g) := by
    rw [List.map_append, List.reverse_cons, List.map_append, List.map_reverse, List.append_assoc]
    show _ ++ (mx_rv g v0 :: _) = _
    rw [hv0]
    rfl
  have hrun : va_Run p l e R s m args below meth c H locs cells slots 0 0 (F0 m pc ls (((v0 :: as).reverse ++ rest).map (mx_rv g))) (rest.map (mx_rv g)) (mx_Q g rr (Value.ref ad0 :: as.map (mx_rv g)).toArray) (mx_A g) := by
    rcases hl with hl | hl
    · exact va_runV (g := F0 m pc ls (((v0 :: as).reverse ++ rest).map (mx_rv g))) (As := as.map (mx_rv g)) (rest := rest.map (mx_rv g)) (b := ad0) (C := (mx_mN y').cls) ⟨hx, hb, hml, hown, hts⟩ hM ⟨callB_of as.length hts (mx_good hcode) rfl rfl rfl (hts _ hini) (hts _ hl) ⟨hc1, hc2, hn⟩ (hRY y' hY), hts _ hi, hts _ hse⟩ hPre rfl (by rw [List.length_map]) hv.1 hstk (lv_room (Nat.le_trans (mx_sum hq rest) (by omega))) hd ⟨hcs.1, hcs.2⟩
    · exact va_runVN (g := F0 m pc ls (((v0 :: as).reverse ++ rest).map (mx_rv g))) (As := as.map (mx_rv g)) (rest := rest.map (mx_rv g)) (b := ad0) (C := (mx_mN y').cls) (host := host) ⟨hx, hb, hml, hown, hts⟩ hM ⟨va_cnB as.length hts (mx_good hcode) rfl rfl rfl hl (hts _ hini) ⟨hc1, hc2, hn⟩ (hRY y' hY), hts _ hi, hts _ hse⟩ hPre rfl (by rw [List.length_map]) hv.1 hstk (lv_room (Nat.le_trans (mx_sum hq rest) (by omega))) hd ⟨hcs.1, hcs.2⟩
  refine mx_callW (rr := rr) hrun hS (fun H1 locs1 hP1 hS1 => ?_)
  have k1 := kk H1 ls locs1 hP1 hS1 hv (fun v h => by
    rcases List.mem_append.mp h with h | h
    · exact hrv v (Option.mem_toList.mp h)
    · exact hs2 v h) hlo ⟨by rw [hX]; exact hc.1, fun j hj => by rw [hX]; exact hc.2 j hj⟩
  have e1 : (rr.1.toList ++ rest).map (mx_rv g) = (rr.1.map (mx_rv g)).toList ++ rest.map (mx_rv g) := by
    rw [List.map_append]
    cases rr.1 <;> rfl
  rw [e1] at k1
  exact k1
theorem sd_callS (C : mx_Cx p R s m args c cells slots cc nL own g L xs Y) {y' : Nat} {as rest : List mx_V} {rr : mx_Rt} {host : String} (hY : y' < Y) (hwd : mx_wd as ≤ mx_nl y') (hOK : mx_OK l y' as σ rr) (hm : mx_mok y') (hn : (parseMethodDescriptor (mx_mN y').desc).map (fun d => d.parameters.length) = some as.length) (hi : Cond.static (mx_mN y') ∈ lw_gd) (hl : Cond.methodLink own x0 (mx_mN y') ∈ lw_gd ∨ va_Nw (.methodLinkNest own x0 (mx_mN y') host) s) (hd : decode cc pc = .ok (.invokestatic x0, 3)) (h4 : rest.length ≤ 4) (hstk : stk = as.reverse ++ rest)
    (hX : ∀ k j, rr.2 k mx_oX j = σ k mx_oX j) (hrv : ∀ v, rr.1 = some v → mx_okV v) (kk : mx_W p l e R s m args below meth c cells slots Q nL g L xs (pc + 3) loc (rr.1.toList ++ rest) rr.2) : mx_W p l e R s m args below meth c cells slots Q nL g L xs pc loc stk σ := by
  obtain ⟨hx, hb, hml, hown, hts, hF, hinj, hq, hcs, hL31, hR1, hRY⟩ := C
  intro H ls locs hP hS hv hs hlo hc
  obtain ⟨hcode, hini, hc1, hc2⟩ := hm
  subst hstk
  have hs1 : ∀ v ∈ as, mx_okV v := fun v h => hs v (List.mem_append_left _ (List.mem_reverse.mpr h))
  have hs2 : ∀ v ∈ rest, mx_okV v := fun v h => hs v (List.mem_append_right _ h)
  have hM := hOK g L xs hinj hq hL31 hs1 hwd hc
  have hPre : PreS s H (mx_Pc g L xs as σ) (as.map (mx_rv g)) := ⟨mx_blind, fun U hU hW => ⟨rfl, by rw [hU]; exact hP, hF.warm hW hU hS⟩⟩
  have hstk : (as.reverse ++ rest).map (mx_rv g) = (as.map (mx_rv g)).reverse ++ rest.map (mx_rv g) := by rw [List.map_append, List.map_reverse]
  have hrun : va_Run p l e R s m args below meth c H locs cells slots 0 0 (F0 m pc ls ((as.reverse ++ rest).map (mx_rv g))) (rest.map (mx_rv g)) (mx_Q g rr (as.map (mx_rv g)).toArray) (mx_A g) := by
    rcases hl with hl | hl
    · exact va_runS (g := F0 m pc ls ((as.reverse ++ rest).map (mx_rv g))) (As := as.map (mx_rv g)) (rest := rest.map (mx_rv g)) ⟨hx, hb, hml, hown, hts⟩ hM ⟨callB_of as.length hts (mx_good hcode) rfl rfl rfl (hts _ hini) (hts _ hl) ⟨hc1, hc2, hn⟩ (hRY y' hY), hts _ hi⟩ hPre rfl (by rw [List.length_map]) hv.1 hstk (lv_room (Nat.le_trans (mx_sum hq rest) (by omega))) hd ⟨hcs.1, hcs.2⟩
    · exact va_runSN (g := F0 m pc ls ((as.reverse ++ rest).map (mx_rv g))) (As := as.map (mx_rv g)) (rest := rest.map (mx_rv g)) (host := host) ⟨hx, hb, hml, hown, hts⟩ hM ⟨va_cnB as.length hts (mx_good hcode) rfl rfl rfl hl (hts _ hini) ⟨hc1, hc2, hn⟩ (hRY y' hY), hts _ hi, trivial⟩ hPre rfl (by rw [List.length_map]) hv.1 hstk (lv_room (Nat.le_trans (mx_sum hq rest) (by omega))) hd ⟨hcs.1, hcs.2⟩
  refine mx_callW (rr := rr) hrun hS (fun H1 locs1 hP1 hS1 => ?_)
  have k1 := kk H1 ls locs1 hP1 hS1 hv (fun v h => by
    rcases List.mem_append.mp h with h | h
    · exact hrv v (Option.mem_toList.mp h)
    · exact hs2 v h) hlo ⟨by rw [hX]; exact hc.1, fun j hj => by rw [hX]; exact hc.2 j hj⟩
  have e1 : (rr.1.toList ++ rest).map (mx_rv g) = (rr.1.map (mx_rv g)).toList ++ rest.map (mx_rv g) := by
    rw [List.map_append]
    cases rr.1 <;> rfl
  rw [e1] at k1
  exact k1
theorem sd_ldcS (C : mx_Cx p R s m args c cells slots cc nL own g L xs Y) (ho : own = RX4) (ha : a < 9) (hp : x0 = mx_nth mx_sPT a) (hd : decode cc pc = .ok (.ldc x0, 2)) (kk : mx_W p l e R s m args below meth c cells slots Q nL g L xs (pc + 2) loc (Sum.inr (Sum.inr (a, mx_oS)) :: stk) σ) : mx_W p l e R s m args below meth c cells slots Q nL g L xs pc loc stk σ := by
  obtain ⟨hx, hb, hml, hown, hts, hF, hinj, hq, -⟩ := C
  intro H ls locs hP hS hv hs hlo hc
  subst ho
  subst hp
  exact va_ldcS hx hb hown (hF.2.2.1 a ha) hd (kk H ls locs hP hS hv (List.forall_mem_cons.mpr ⟨Or.inr (Or.inl ⟨Or.inl rfl, ha⟩), hs⟩) hlo hc)
theorem sd_copy (C : mx_Cx p R s m args c cells slots cc nL own g L xs Y) {k o k1 o1 : Nat} {n dp sp : Int32} (hd : decode cc pc = .ok (.invokestatic x0, 3)) (hl : Cond.methodLink own x0 arraycopyName ∈ lw_gd) (hnat : Cond.native arraycopyName ∈ lw_gd) (hst : Cond.static arraycopyName ∈ lw_gd) (hini : Cond.initialized "java/lang/System" ∈ lw_gd) (ht : mx_aT o = 1) (ht1 : mx_aT o1 = 1) (hk : k < mx_kM o) (hk1 : k1 < mx_kM o1) (h4 : r.length ≤ 4) (kk : mx_c σ sp dp k o n k1 o1 False (fun σ => mx_W p l e R s m args below meth c cells slots Q nL g L xs (pc + 3) loc r σ)) : mx_W p l e R s m args below meth c cells slots Q nL g L xs pc loc (Sum.inl n :: Sum.inl dp :: Sum.inr (Sum.inr (k1, o1)) :: Sum.inl sp :: Sum.inr (Sum.inr (k, o)) :: r) σ := by
  obtain ⟨hx, hb, hml, hown, hts, hF, hinj, hq, hcs, hL31, hR1, hRY⟩ := C
  intro H ls locs hP hS hv hs hlo hc
  obtain ⟨-, hs⟩ := List.forall_mem_cons.mp hs
  obtain ⟨-, hs⟩ := List.forall_mem_cons.mp hs
  obtain ⟨-, hs⟩ := List.forall_mem_cons.mp hs
  obtain ⟨-, hs⟩ := List.forall_mem_cons.mp hs
  obtain ⟨-, hs⟩ := List.forall_mem_cons.mp hs
  obtain ⟨i, hi⟩ := mx_at hk
  obtain ⟨i1, hi1⟩ := mx_at hk1
  have he : (mx_ws g σ)[i]? = some (g.1 k o, .inl (g.2.2.1 1, mx_aN o, .inl (σ k o))) := by rw [mx_ws_at hi, mx_arr (by omega) (mx_kM_lt hk), ht]; rfl
  have he1 : (mx_ws g σ)[i1]? = some (g.1 k1 o1, .inl (g.2.2.1 1, mx_aN o1, .inl (σ k1 o1))) := by rw [mx_ws_at hi1, mx_arr (by omega) (mx_kM_lt hk1), ht1]; rfl
  unfold mx_c at kk
  split at kk
  · exact kk.elim
  · rename_i hin
    simp only [not_or] at hin
    obtain ⟨q1, q2, q3, q4, q5⟩ := hin
    rw [List.map_cons, List.map_cons, List.map_cons, List.map_cons, List.map_cons, mx_rv_ref hk, mx_rv_ref hk1]
    refine va_copyi hx hb (by rw [hml]; exact hv.1.symm) hown (hts _ hl) (hts _ hnat) (hts _ hst) (hts _ hini) hF.1 hP (mx_Dof hinj σ) hS i i1 0 0 (ty := .int) he he1 rfl rfl rfl q1 q2 q3 (by omega) (by omega) (fun _ _ => rfl) hR1.1 ?_ hd (fun H1 locs1 hP1 hD1 hS1 => ?_)
    · have := mx_sum (g := g) hq r
      have e7 : nativeFrameWords "java/lang/System" "arraycopy" 5 = 7 := by decide +kernel
      omega
    · have ew : (mx_ws g σ).set i1 (g.1 k1 o1, .inl (g.2.2.1 1, mx_aN o1, .inl (va_cpy (σ k o) (σ k1 o1) sp.toNatClampNeg dp.toNatClampNeg n.toNatClampNeg))) = mx_ws g (mx_cp σ k o k1 o1 sp.toNatClampNeg dp.toNatClampNeg n.toNatClampNeg) := by
        refine mx_ws_set hi1 ?_ (fun k' o' h => mx_cell_congr ?_)
        · have e2 : mx_cp σ k o k1 o1 sp.toNatClampNeg dp.toNatClampNeg n.toNatClampNeg k1 o1 = va_cpy (σ k o) (σ k1 o1) sp.toNatClampNeg dp.toNatClampNeg n.toNatClampNeg := by
            funext j
            exact if_pos ⟨rfl, rfl⟩
          rw [mx_arr (by omega) (mx_kM_lt hk1), ht1, if_pos (by omega), e2]
        · funext j
          exact if_neg (fun q => h (by rw [q.1, q.2]))
      rw [ew] at hP1
      have ho5 := mx_kM_lt hk1
      have hX : ∀ k' j, mx_cp σ k o k1 o1 sp.toNatClampNeg dp.toNatClampNeg n.toNatClampNeg k' mx_oX j = σ k' mx_oX j := fun k' j => if_neg (fun q => absurd (show mx_oX < 55 by rw [q.2]; exact ho5) (by decide))
      exact kk H1 ls locs1 hP1 hS1 hv hs hlo ⟨by rw [hX]; exact hc.1, fun j hj => by rw [hX]; exact hc.2 j hj⟩
theorem sd_gets1 (C : mx_Cx p R s m args c cells slots cc nL own g L xs Y) (hd : decode cc pc = .ok (.getstatic x0, 3)) (hw : Cond.fieldLink own x0 "java/lang/String" "COMPACT_STRINGS" "Z" ∈ lw_gd) (kk : mx_W p l e R s m args below meth c cells slots Q nL g L xs (pc + 3) loc (Sum.inl 1 :: stk) σ) : mx_W p l e R s m args below meth c cells slots Q nL g L xs pc loc stk σ := by
  obtain ⟨hx, hb, hml, hown, hts, hF, hinj, hq, -⟩ := C
  intro H ls locs hP hS hv hs hlo hc
  exact va_gets hx hb hF.2.2.2.1 hS hown (hts _ hw) (fun _ h => h) hd (kk H ls locs hP hS hv (List.forall_mem_cons.mpr ⟨trivial, hs⟩) hlo hc)
theorem sd_gets2 (C : mx_Cx p R s m args c cells slots cc nL own g L xs Y) (hd : decode cc pc = .ok (.getstatic x0, 3)) (hw : Cond.fieldLink own x0 "jdk/internal/util/Preconditions" "SIOOBE_FORMATTER" "Ljava/util/function/BiFunction;" ∈ lw_gd) (kk : mx_W p l e R s m args below meth c cells slots Q nL g L xs (pc + 3) loc (Sum.inr (Sum.inr (0, mx_oQ)) :: stk) σ) : mx_W p l e R s m args below meth c cells slots Q nL g L xs pc loc stk σ := by
  obtain ⟨hx, hb, hml, hown, hts, hF, hinj, hq, -⟩ := C
  intro H ls locs hP hS hv hs hlo hc
  exact va_gets hx hb hF.2.2.2.2.1 hS hown (hts _ hw) (fun _ h => h) hd (kk H ls locs hP hS hv (List.forall_mem_cons.mpr ⟨Or.inr (Or.inr (Or.inl rfl)), hs⟩) hlo hc)
theorem sd_sval (C : mx_Cx p R s m args c cells slots cc nL own g L xs Y) {k : Nat} (hk : k < 9) (hd : decode cc pc = .ok (.getfield x0, 3)) (hw : Cond.fieldLink own x0 "java/lang/String" "value" "[B" ∈ lw_gd) (kk : mx_W p l e R s m args below meth c cells slots Q nL g L xs (pc + 3) loc (Sum.inr (Sum.inr (k, mx_oB)) :: r) σ) : mx_W p l e R s m args below meth c cells slots Q nL g L xs pc loc (Sum.inr (Sum.inr (k, mx_oS)) :: r) σ := by
  obtain ⟨hx, hb, hml, hown, hts, hF, hinj, hq, -⟩ := C
  intro H ls locs hP hS hv hs hlo hc
  obtain ⟨-, hs⟩ := List.forall_mem_cons.mp hs
  exact vk_getf hx hb (hF.2.1.1 k hk).2.2.1 hS hown (hts _ hw) (fun _ h => h) hd (kk H ls locs hP hS hv (List.forall_mem_cons.mpr ⟨Or.inr (Or.inl ⟨Or.inr rfl, hk⟩), hs⟩) hlo hc)
theorem sd_scod (C : mx_Cx p R s m args c cells slots cc nL own g L xs Y) {k : Nat} (hk : k < 9) (hd : decode cc pc = .ok (.getfield x0, 3)) (hw : Cond.fieldLink own x0 "java/lang/String" "coder" "B" ∈ lw_gd) (kk : mx_W p l e R s m args below meth c cells slots Q nL g L xs (pc + 3) loc (Sum.inl 0 :: r) σ) : mx_W p l e R s m args below meth c cells slots Q nL g L xs pc loc (Sum.inr (Sum.inr (k, mx_oS)) :: r) σ := by
  obtain ⟨hx, hb, hml, hown, hts, hF, hinj, hq, -⟩ := C
  intro H ls locs hP hS hv hs hlo hc
  obtain ⟨-, hs⟩ := List.forall_mem_cons.mp hs
  exact vk_getf hx hb (hF.2.1.1 k hk).2.1 hS hown (hts _ hw) (fun _ h => h) hd (kk H ls locs hP hS hv (List.forall_mem_cons.mpr ⟨trivial, hs⟩) hlo hc)
theorem sd_slen (C : mx_Cx p R s m args c cells slots cc nL own g L xs Y) {k : Nat} (hk : k < 9) (hd : decode cc pc = .ok (.arraylength, 1)) (kk : mx_W p l e R s m args below meth c cells slots Q nL g L xs (pc + 1) loc (Sum.inl (Int32.ofNat (mx_sN k)) :: r) σ) : mx_W p l e R s m args below meth c cells slots Q nL g L xs pc loc (Sum.inr (Sum.inr (k, mx_oB)) :: r) σ := by
  obtain ⟨hx, hb, hml, hown, hts, hF, hinj, hq, -⟩ := C
  intro H ls locs hP hS hv hs hlo hc
  obtain ⟨-, hs⟩ := List.forall_mem_cons.mp hs
  exact va_tlen hx hb (hF.2.1.1 k hk).2.2.2 hS (by rw [mx_sN_at k hk]) hd (kk H ls locs hP hS hv (List.forall_mem_cons.mpr ⟨trivial, hs⟩) hlo hc)
theorem sd_sbyt (C : mx_Cx p R s m args c cells slots cc nL own g L xs Y) {k : Nat} {i : Int32} (hk : k < 9) (hd : decode cc pc = .ok (.baload, 1)) (kk : mx_g False i (mx_sN k) (fun j => mx_W p l e R s m args below meth c cells slots Q nL g L xs (pc + 1) loc (Sum.inl (mx_sB k j) :: r) σ)) : mx_W p l e R s m args below meth c cells slots Q nL g L xs pc loc (Sum.inl i :: Sum.inr (Sum.inr (k, mx_oB)) :: r) σ := by
  obtain ⟨hx, hb, hml, hown, hts, hF, hinj, hq, -⟩ := C
  intro H ls locs hP hS hv hs hlo hc
  obtain ⟨-, hs⟩ := List.forall_mem_cons.mp hs
  obtain ⟨-, hs⟩ := List.forall_mem_cons.mp hs
  unfold mx_g at kk
  split at kk
  · exact kk.elim
  · rename_i hin
    have hj : i.toNatClampNeg < mx_sN k := Nat.not_le.mp fun q => hin (Or.inr q)
    exact va_tb hx hb (hF.2.1.1 k hk).2.2.2 hS (i := i) (by rw [mx_sN_at k hk]; exact hin) (by rw [mx_sB_at k hk _ hj]; rfl) hd (kk H ls locs hP hS hv (List.forall_mem_cons.mpr ⟨trivial, hs⟩) hlo hc)
theorem sd_xld (C : mx_Cx p R s m args c cells slots cc nL own g L xs Y) {i : Int32} (hd : decode cc pc = .ok (.iaload, 1)) (kk : mx_g False i (σ 0 mx_oX 0).toNatClampNeg (fun j => mx_W p l e R s m args below meth c cells slots Q nL g L xs (pc + 1) loc (Sum.inl (σ 1 mx_oX j) :: r) σ)) : mx_W p l e R s m args below meth c cells slots Q nL g L xs pc loc (Sum.inl i :: Sum.inr (Sum.inr (0, mx_oX)) :: r) σ := by
  obtain ⟨hx, hb, hml, hown, hts, hF, hinj, hq, hcs, hL31, -⟩ := C
  intro H ls locs hP hS hv hs hlo hc
  obtain ⟨-, hs⟩ := List.forall_mem_cons.mp hs
  obtain ⟨-, hs⟩ := List.forall_mem_cons.mp hs
  rw [hc.1, show (Int32.ofNat L).toNatClampNeg = L from nI_clamp hL31] at kk
  unfold mx_g at kk
  split at kk
  · exact kk.elim
  · rename_i hin
    have hj : i.toNatClampNeg < L := Nat.not_le.mp fun q => hin (Or.inr q)
    rw [hc.2 _ hj] at kk
    exact va_sld hx hb hF.2.2.2.2.2.1 hF.2.2.2.2.2.2.1 hF.2.2.2.2.2.2.2.1 hS hin hd (kk H ls locs hP hS hv (List.forall_mem_cons.mpr ⟨trivial, hs⟩) hlo hc)
theorem sd_xlen (C : mx_Cx p R s m args c cells slots cc nL own g L xs Y) (hd : decode cc pc = .ok (.arraylength, 1)) (kk : mx_W p l e R s m args below meth c cells slots Q nL g L xs (pc + 1) loc (Sum.inl (σ 0 mx_oX 0) :: r) σ) : mx_W p l e R s m args below meth c cells slots Q nL g L xs pc loc (Sum.inr (Sum.inr (0, mx_oX)) :: r) σ := by
  obtain ⟨hx, hb, hml, hown, hts, hF, hinj, hq, hcs, hL31, -⟩ := C
  intro H ls locs hP hS hv hs hlo hc
  obtain ⟨-, hs⟩ := List.forall_mem_cons.mp hs
  have k1 := kk H ls locs hP hS hv (List.forall_mem_cons.mpr ⟨trivial, hs⟩) hlo hc
  rw [hc.1] at k1
  exact va_slen hx hb hF.2.2.2.2.2.1 hF.2.2.2.2.2.2.1 hF.2.2.2.2.2.2.2.1 hS hd k1
theorem mx_mthw : (Cond.static Lib.Math.min.name ∈ lw_gd ∧ Cond.code Lib.Math.min.name Lib.Math.min.code 2 (some .int) ∈ lw_gd) ∧ (Cond.static Lib.Math.max.name ∈ lw_gd ∧ Cond.code Lib.Math.max.name Lib.Math.max.code 2 (some .int) ∈ lw_gd) ∧ (Cond.static Lib.Math.abs.name ∈ lw_gd ∧ Cond.code Lib.Math.abs.name Lib.Math.abs.code 1 (some .int) ∈ lw_gd) ∧ Cond.initialized "java/lang/Math" ∈ lw_gd := ⟨⟨lw_gd_of (k := 614) (by decide +kernel), lw_gd_of (k := 615) (by decide +kernel)⟩, ⟨lw_gd_of (k := 801) (by decide +kernel), lw_gd_of (k := 802) (by decide +kernel)⟩, ⟨lw_gd_of (k := 817) (by decide +kernel), lw_gd_of (k := 818) (by decide +kernel)⟩, lw_gd_of (k := 107) (by decide +kernel)⟩
theorem sd_mmin (C : mx_Cx p R s m args c cells slots cc nL own g L xs Y) (hd : decode cc pc = .ok (.invokestatic x0, 3)) (hl : Cond.methodLink own x0 Lib.Math.min.name ∈ lw_gd) (h4 : r.length ≤ 4) (kk : mx_W p l e R s m args below meth c cells slots Q nL g L xs (pc + 3) loc (Sum.inl (if y < x then y else x) :: r) σ) : mx_W p l e R s m args below meth c cells slots Q nL g L xs pc loc (Sum.inl y :: Sum.inl x :: r) σ := by
  obtain ⟨hx, hb, hml, hown, hts, hF, hinj, hq, hcs, hL31, hR1, hRY⟩ := C
  intro H ls locs hP hS hv hs hlo hc
  obtain ⟨-, hs⟩ := List.forall_mem_cons.mp hs
  obtain ⟨-, hs⟩ := List.forall_mem_cons.mp hs
  have hsum := mx_sum (g := g) hq r
  exact va_mmin hx hb (by rw [hml]; exact hv.1.symm) hown (hts _ hl) (hts _ mx_mthw.1.1) (hts _ mx_mthw.2.2.2) (hts _ mx_mthw.1.2) hR1.1 (by omega) hcs.1 hcs.2 hd (kk H ls locs hP hS hv (List.forall_mem_cons.mpr ⟨trivial, hs⟩) hlo hc)
theorem sd_mmax (C : mx_Cx p R s m args c cells slots cc nL own g L xs Y) (hd : decode cc pc = .ok (.invokestatic x0, 3)) (hl : Cond.methodLink own x0 Lib.Math.max.name ∈ lw_gd) (h4 : r.length ≤ 4) (kk : mx_W p l e R s m args below meth c cells slots Q nL g L xs (pc + 3) loc (Sum.inl (if x < y then y else x) :: r) σ) : mx_W p l e R s m args below meth c cells slots Q nL g L xs pc loc (Sum.inl y :: Sum.inl x :: r) σ := by
  obtain ⟨hx, hb, hml, hown, hts, hF, hinj, hq, hcs, hL31, hR1, hRY⟩ := C
  intro H ls locs hP hS hv hs hlo hc
  obtain ⟨-, hs⟩ := List.forall_mem_cons.mp hs
  obtain ⟨-, hs⟩ := List.forall_mem_cons.mp hs
  have hsum := mx_sum (g := g) hq r
  exact va_mmax hx hb (by rw [hml]; exact hv.1.symm) hown (hts _ hl) (hts _ mx_mthw.2.1.1) (hts _ mx_mthw.2.2.2) (hts _ mx_mthw.2.1.2) hR1.1 (by omega) hcs.1 hcs.2 hd (kk H ls locs hP hS hv (List.forall_mem_cons.mpr ⟨trivial, hs⟩) hlo hc)
theorem sd_mabs (C : mx_Cx p R s m args c cells slots cc nL own g L xs Y) (hd : decode cc pc = .ok (.invokestatic x0, 3)) (hl : Cond.methodLink own x0 Lib.Math.abs.name ∈ lw_gd) (h4 : r.length ≤ 4) (kk : mx_W p l e R s m args below meth c cells slots Q nL g L xs (pc + 3) loc (Sum.inl (if 0 ≤ x then x else 0 - x) :: r) σ) : mx_W p l e R s m args below meth c cells slots Q nL g L xs pc loc (Sum.inl x :: r) σ := by
  obtain ⟨hx, hb, hml, hown, hts, hF, hinj, hq, hcs, hL31, hR1, hRY⟩ := C
  intro H ls locs hP hS hv hs hlo hc
  obtain ⟨-, hs⟩ := List.forall_mem_cons.mp hs
  have hsum := mx_sum (g := g) hq r
  exact va_mabs hx hb (by rw [hml]; exact hv.1.symm) hown (hts _ hl) (hts _ mx_mthw.2.2.1.1) (hts _ mx_mthw.2.2.2) (hts _ mx_mthw.2.2.1.2) hR1.1 (by omega) hcs.1 hcs.2 hd (kk H ls locs hP hS hv (List.forall_mem_cons.mpr ⟨trivial, hs⟩) hlo hc)
end Sd
end
section
/-! ===== the check of a method's table against its bytecode ===== -/
def mx_dq (cc : ByteArray) (pc : Nat) (i : Instr) (n : Nat) : Bool := decide (decode cc pc = .ok (i, n))
def mx_hw (k : Nat) (w : Cond) : Bool := decide (lw_tbl[k]? = some w) && goodWord w
theorem mx_dq_of {cc : ByteArray} {pc : Nat} {i : Instr} {n : Nat} (h : mx_dq cc pc i n = true) : decode cc pc = .ok (i, n) := of_decide_eq_true h
theorem mx_hw_of {k : Nat} {w : Cond} (h : mx_hw k w = true) : w ∈ lw_gd := lw_gd_of h
def mx_pC : List Nat := [865, 869, 844, 881, 877, 885, 890, 903, 907, 856, 894, 873, 861, 899, 856, 756, 753, 744, 446, 659, 695, 433, 690, 703, 699, 686, 711, 707, 748, 682, 831, 738, 635, 640, 631, 826, 541, 552, 547, 544, 537, 531, 527, 598, 626, 607, 588, 497, 480, 506, 510, 501, 523, 485, 519, 575, 579, 514, 583, 592, 602, 619, 611, 493, 649, 655, 645, 723, 450, 438, 848, 852, 771, 767, 677, 734, 763, 458, 466, 920, 916, 815, 810, 806, 473, 668, 664, 477, 799, 673, 795, 791, 489, 787, 822, 840, 779, 783, 836, 727, 443, 430, 715, 731, 462, 454, 924, 775, 912, 719, 1176, 1172, 1226, 1230, 1222, 1042, 1251, 1332, 1340, 1048, 1336, 1356, 1352, 1360, 1348, 1344, 1108, 1084, 1088, 1091, 1080, 1076, 1104, 1133, 1168, 1214, 1210, 1218, 1206, 1234, 1164, 1238, 1202, 1198, 1270, 1267, 1278, 1262, 1274, 1038, 1057, 1368, 1188, 1316, 1310, 1061, 1184, 1180, 1065, 1116, 1306, 1192, 1302, 1099, 1112, 1120, 1095, 1125, 1129, 1138, 1144, 1152, 1149, 1160, 1072, 1298, 1294, 1320, 1328, 1286, 1290, 1324, 1255, 1035, 1242, 1259, 1053, 1372, 1282, 1364, 1247, 0]
def mx_pI : List Nat := [98, 98, 97, 98, 98, 98, 98, 98, 98, 98, 98, 98, 98, 98, 98, 108, 97, 97, 101, 97, 97, 92, 97, 97, 97, 97, 97, 97, 97, 97, 97, 94, 95, 96, 94, 94, 103, 105, 103, 104, 103, 103, 103, 95, 95, 95, 95, 95, 92, 93, 93, 93, 93, 93, 93, 93, 93, 93, 93, 93, 93, 93, 93, 93, 96, 96, 96, 92, 92, 92, 92, 92, 92, 92, 92, 92, 92, 99, 92, 92, 92, 92, 92, 92, 92, 92, 92, 92, 92, 92, 92, 92, 92, 92, 92, 92, 92, 92, 92, 92, 99, 92, 92, 92, 99, 92, 92, 92, 92, 92, 100, 100, 100, 100, 100, 100, 100, 100, 100, 100, 100, 100, 100, 100, 100, 100, 100, 100, 100, 100, 100, 100, 100, 100, 100, 100, 100, 100, 100, 100, 100, 100, 100, 100, 100, 100, 100, 100, 100, 100, 100, 100, 100, 100, 100, 100, 100, 100, 100, 100, 100, 100, 100, 100, 100, 100, 100, 100, 100, 100, 100, 100, 100, 100, 100, 100, 100, 100, 100, 100, 100, 100, 100, 100, 100, 100, 100, 100, 100, 100, 100, 91]
def mx_pT : List Nat := [0, 0, 0, 0, 0, 0, 0, 0, 0, 0, 0, 0, 0, 0, 0, 1, 0, 0, 1, 0, 0, 1, 0, 0, 0, 0, 0, 0, 0, 0, 0, 0, 0, 0, 0, 0, 0, 1, 1, 1, 0, 0, 0, 0, 0, 0, 0, 0, 1, 0, 0, 0, 0, 0, 0, 0, 0, 0, 0, 0, 0, 0, 0, 0, 0, 0, 0, 0, 0, 0, 0, 0, 0, 0, 0, 1, 0, 0, 0, 0, 0, 0, 0, 0, 0, 0, 0, 0, 0, 0, 0, 0, 0, 0, 0, 0, 0, 0, 0, 0, 0, 0, 0, 0, 0, 0, 0, 0, 0, 0, 0, 0, 0, 0, 0, 1, 0, 0, 1, 0, 0, 0, 0, 0, 0, 0, 0, 0, 1, 1, 0, 0, 0, 0, 0, 0, 0, 0, 0, 0, 0, 0, 0, 0, 1, 0, 0, 1, 0, 1, 0, 0, 0, 0, 0, 0, 0, 0, 0, 0, 0, 0, 0, 0, 0, 0, 0, 0, 0, 0, 0, 1, 0, 0, 0, 0, 0, 0, 0, 0, 0, 0, 0, 0, 0, 0, 0, 0, 0, 0, 0, 1]
def mx_pM : List Nat := [864, 868, 842, 880, 876, 884, 889, 902, 906, 855, 893, 872, 860, 898, 855, 755, 751, 742, 445, 657, 694, 432, 689, 702, 698, 685, 710, 706, 746, 680, 829, 736, 633, 638, 629, 824, 539, 551, 546, 543, 535, 529, 525, 596, 624, 605, 586, 495, 479, 505, 509, 500, 522, 483, 518, 574, 578, 513, 582, 591, 601, 618, 610, 491, 648, 654, 643, 722, 449, 437, 846, 850, 770, 766, 676, 733, 761, 456, 464, 919, 914, 814, 809, 804, 471, 666, 662, 475, 797, 671, 794, 790, 487, 785, 820, 838, 777, 781, 834, 725, 441, 428, 713, 729, 460, 452, 922, 773, 910, 717, 1175, 1171, 1225, 1229, 1221, 1041, 1250, 1331, 1339, 1047, 1334, 1355, 1351, 1359, 1347, 1342, 1107, 1083, 1087, 1090, 1079, 1075, 1103, 1132, 1167, 1213, 1209, 1217, 1205, 1233, 1163, 1237, 1201, 1197, 1269, 1266, 1277, 1261, 1272, 1037, 1055, 1366, 1187, 1315, 1308, 1059, 1182, 1178, 1063, 1115, 1304, 1190, 1301, 1098, 1111, 1119, 1094, 1124, 1128, 1137, 1143, 1151, 1148, 1159, 1070, 1297, 1292, 1318, 1326, 1284, 1288, 1322, 1253, 1033, 1240, 1257, 1051, 1370, 1280, 1362, 1245, 0]
def mx_pS : List Nat := [34, 35, 843, 38, 37, 39, 40, 43, 44, 32, 41, 36, 33, 42, 32, 0, 752, 743, 0, 658, 20, 0, 19, 22, 21, 18, 24, 23, 747, 681, 830, 737, 634, 639, 630, 825, 540, 0, 0, 0, 536, 530, 526, 597, 625, 606, 587, 496, 0, 3, 4, 2, 7, 484, 6, 8, 9, 5, 10, 11, 12, 14, 13, 492, 15, 16, 644, 25, 1, 0, 847, 851, 27, 26, 17, 0, 762, 457, 465, 45, 915, 31, 30, 805, 472, 667, 663, 476, 798, 672, 29, 28, 488, 786, 821, 839, 778, 782, 835, 726, 442, 429, 714, 730, 461, 453, 923, 774, 911, 718, 67, 66, 76, 77, 75, 0, 80, 86, 0, 46, 1335, 89, 88, 90, 87, 1343, 53, 49, 0, 0, 48, 47, 52, 59, 65, 73, 72, 74, 71, 78, 64, 79, 70, 69, 0, 81, 82, 0, 1273, 0, 1056, 1367, 68, 85, 1309, 1060, 1183, 1179, 1064, 55, 1305, 1191, 84, 51, 54, 56, 50, 57, 58, 60, 61, 0, 62, 63, 1071, 83, 1293, 1319, 1327, 1285, 1289, 1323, 1254, 1034, 1241, 1258, 1052, 1371, 1281, 1363, 1246, 0]
/-- a method's own words: its code, its class, instance (and selected) or static -/
def mx_mck (y : Nat) : Bool := (mx_hw (mx_nth mx_pI y) (Cond.initialized (mx_mN y).cls) && (decide ((mx_mN y).cls ≠ "java/lang/invoke/MethodHandle") && (decide ((mx_mN y).cls ≠ "java/lang/invoke/VarHandle") && (match mx_nth mx_pT y with
  | 0 => mx_hw (mx_nth mx_pM y) (Cond.instanceMethod (mx_mN y)) && mx_hw (mx_nth mx_pS y) (Cond.selects (mx_mN y).cls (mx_mN y) (mx_mN y))
  | _ => mx_hw (mx_nth mx_pM y) (Cond.static (mx_mN y))))))
theorem mx_mck_all : (List.range 191).all mx_mck = true := by decide +kernel
theorem mx_mck_at {y : Nat} (h : y < 191) : mx_mck y = true := List.all_eq_true.mp mx_mck_all y (List.mem_range.mpr h)
def mx_allP (P : Nat → Prop) : Nat → Prop
  | 0 => True
  | n + 1 => mx_allP P n ∧ P n
theorem mx_allP_at {P : Nat → Prop} : ∀ {n y : Nat}, mx_allP P n → y < n → P y
  | 0, _, _, h => absurd h (Nat.not_lt_zero _)
  | n + 1, y, q, h => by
    rcases Nat.lt_or_ge y n with hy | hy
    · exact mx_allP_at q.1 hy
    · have : y = n := by omega
      subst this
      exact q.2
def mx_cdp (y : Nat) : Prop := Cond.code (mx_mN y) (mx_mC y) (mx_nl y) (mx_mR y) ∈ lw_gd
set_option maxRecDepth 100000 in
theorem mx_cw0 : mx_cdp 0 := List.mem_filter.mpr ⟨List.mem_of_getElem? (i := 865) rfl, rfl⟩
set_option maxRecDepth 100000 in
theorem mx_cw1 : mx_cdp 1 := List.mem_filter.mpr ⟨List.mem_of_getElem? (i := 869) rfl, rfl⟩
set_option maxRecDepth 100000 in
theorem mx_cw2 : mx_cdp 2 := List.mem_filter.mpr ⟨List.mem_of_getElem? (i := 844) rfl, rfl⟩
set_option maxRecDepth 100000 in
theorem mx_cw3 : mx_cdp 3 := List.mem_filter.mpr ⟨List.mem_of_getElem? (i := 881) rfl, rfl⟩
set_option maxRecDepth 100000 in
theorem mx_cw4 : mx_cdp 4 := List.mem_filter.mpr ⟨List.mem_of_getElem? (i := 877) rfl, rfl⟩
set_option maxRecDepth 100000 in
theorem mx_cw5 : mx_cdp 5 := List.mem_filter.mpr ⟨List.mem_of_getElem? (i := 885) rfl, rfl⟩
set_option maxRecDepth 100000 in
theorem mx_cw6 : mx_cdp 6 := List.mem_filter.mpr ⟨List.mem_of_getElem? (i := 890) rfl, rfl⟩
set_option maxRecDepth 100000 in
theorem mx_cw7 : mx_cdp 7 := List.mem_filter.mpr ⟨List.mem_of_getElem? (i := 903) rfl, rfl⟩
set_option maxRecDepth 100000 in
theorem mx_cw8 : mx_cdp 8 := List.mem_filter.mpr ⟨List.mem_of_getElem? (i := 907) rfl, rfl⟩
set_option maxRecDepth 100000 in
theorem mx_cw9 : mx_cdp 9 := List.mem_filter.mpr ⟨List.mem_of_getElem? (i := 856) rfl, rfl⟩
set_option maxRecDepth 100000 in
theorem mx_cw10 : mx_cdp 10 := List.mem_filter.mpr ⟨List.mem_of_getElem? (i := 894) rfl, rfl⟩
set_option maxRecDepth 100000 in
theorem mx_cw11 : mx_cdp 11 := List.mem_filter.mpr ⟨List.mem_of_getElem? (i := 873) rfl, rfl⟩
set_option maxRecDepth 100000 in
theorem mx_cw12 : mx_cdp 12 := List.mem_filter.mpr ⟨List.mem_of_getElem? (i := 861) rfl, rfl⟩
set_option maxRecDepth 100000 in
theorem mx_cw13 : mx_cdp 13 := List.mem_filter.mpr ⟨List.mem_of_getElem? (i := 899) rfl, rfl⟩
set_option maxRecDepth 100000 in
theorem mx_cw14 : mx_cdp 14 := List.mem_filter.mpr ⟨List.mem_of_getElem? (i := 856) rfl, rfl⟩
set_option maxRecDepth 100000 in
theorem mx_cw15 : mx_cdp 15 := List.mem_filter.mpr ⟨List.mem_of_getElem? (i := 756) rfl, rfl⟩
set_option maxRecDepth 100000 in
theorem mx_cw16 : mx_cdp 16 := List.mem_filter.mpr ⟨List.mem_of_getElem? (i := 753) rfl, rfl⟩
set_option maxRecDepth 100000 in
theorem mx_cw17 : mx_cdp 17 := List.mem_filter.mpr ⟨List.mem_of_getElem? (i := 744) rfl, rfl⟩
set_option maxRecDepth 100000 in
theorem mx_cw18 : mx_cdp 18 := List.mem_filter.mpr ⟨List.mem_of_getElem? (i := 446) rfl, rfl⟩
set_option maxRecDepth 100000 in
theorem mx_cw19 : mx_cdp 19 := List.mem_filter.mpr ⟨List.mem_of_getElem? (i := 659) rfl, rfl⟩
set_option maxRecDepth 100000 in
theorem mx_cw20 : mx_cdp 20 := List.mem_filter.mpr ⟨List.mem_of_getElem? (i := 695) rfl, rfl⟩
set_option maxRecDepth 100000 in
theorem mx_cw21 : mx_cdp 21 := List.mem_filter.mpr ⟨List.mem_of_getElem? (i := 433) rfl, rfl⟩
set_option maxRecDepth 100000 in
theorem mx_cw22 : mx_cdp 22 := List.mem_filter.mpr ⟨List.mem_of_getElem? (i := 690) rfl, rfl⟩
set_option maxRecDepth 100000 in
theorem mx_cw23 : mx_cdp 23 := List.mem_filter.mpr ⟨List.mem_of_getElem? (i := 703) rfl, rfl⟩
set_option maxRecDepth 100000 in
theorem mx_cw24 : mx_cdp 24 := List.mem_filter.mpr ⟨List.mem_of_getElem? (i := 699) rfl, rfl⟩
set_option maxRecDepth 100000 in
theorem mx_cw25 : mx_cdp 25 := List.mem_filter.mpr ⟨List.mem_of_getElem? (i := 686) rfl, rfl⟩
set_option maxRecDepth 100000 in
theorem mx_cw26 : mx_cdp 26 := List.mem_filter.mpr ⟨List.mem_of_getElem? (i := 711) rfl, rfl⟩
set_option maxRecDepth 100000 in
theorem mx_cw27 : mx_cdp 27 := List.mem_filter.mpr ⟨List.mem_of_getElem? (i := 707) rfl, rfl⟩
set_option maxRecDepth 100000 in
theorem mx_cw28 : mx_cdp 28 := List.mem_filter.mpr ⟨List.mem_of_getElem? (i := 748) rfl, rfl⟩
set_option maxRecDepth 100000 in
theorem mx_cw29 : mx_cdp 29 := List.mem_filter.mpr ⟨List.mem_of_getElem? (i := 682) rfl, rfl⟩
set_option maxRecDepth 100000 in
theorem mx_cw30 : mx_cdp 30 := List.mem_filter.mpr ⟨List.mem_of_getElem? (i := 831) rfl, rfl⟩
set_option maxRecDepth 100000 in
theorem mx_cw31 : mx_cdp 31 := List.mem_filter.mpr ⟨List.mem_of_getElem? (i := 738) rfl, rfl⟩
set_option maxRecDepth 100000 in
theorem mx_cw32 : mx_cdp 32 := List.mem_filter.mpr ⟨List.mem_of_getElem? (i := 635) rfl, rfl⟩
set_option maxRecDepth 100000 in
theorem mx_cw33 : mx_cdp 33 := List.mem_filter.mpr ⟨List.mem_of_getElem? (i := 640) rfl, rfl⟩
set_option maxRecDepth 100000 in
theorem mx_cw34 : mx_cdp 34 := List.mem_filter.mpr ⟨List.mem_of_getElem? (i := 631) rfl, rfl⟩
set_option maxRecDepth 100000 in
theorem mx_cw35 : mx_cdp 35 := List.mem_filter.mpr ⟨List.mem_of_getElem? (i := 826) rfl, rfl⟩
set_option maxRecDepth 100000 in
theorem mx_cw36 : mx_cdp 36 := List.mem_filter.mpr ⟨List.mem_of_getElem? (i := 541) rfl, rfl⟩
set_option maxRecDepth 100000 in
theorem mx_cw37 : mx_cdp 37 := List.mem_filter.mpr ⟨List.mem_of_getElem? (i := 552) rfl, rfl⟩
set_option maxRecDepth 100000 in
theorem mx_cw38 : mx_cdp 38 := List.mem_filter.mpr ⟨List.mem_of_getElem? (i := 547) rfl, rfl⟩
set_option maxRecDepth 100000 in
theorem mx_cw39 : mx_cdp 39 := List.mem_filter.mpr ⟨List.mem_of_getElem? (i := 544) rfl, rfl⟩
set_option maxRecDepth 100000 in
theorem mx_cw40 : mx_cdp 40 := List.mem_filter.mpr ⟨List.mem_of_getElem? (i := 537) rfl, rfl⟩
set_option maxRecDepth 100000 in
theorem mx_cw41 : mx_cdp 41 := List.mem_filter.mpr ⟨List.mem_of_getElem? (i := 531) rfl, rfl⟩
set_option maxRecDepth 100000 in
theorem mx_cw42 : mx_cdp 42 := List.mem_filter.mpr ⟨List.mem_of_getElem? (i := 527) rfl, rfl⟩
set_option maxRecDepth 100000 in
theorem mx_cw43 : mx_cdp 43 := List.mem_filter.mpr ⟨List.mem_of_getElem? (i := 598) rfl, rfl⟩
set_option maxRecDepth 100000 in
theorem mx_cw44 : mx_cdp 44 := List.mem_filter.mpr ⟨List.mem_of_getElem? (i := 626) rfl, rfl⟩
set_option maxRecDepth 100000 in
theorem mx_cw45 : mx_cdp 45 := List.mem_filter.mpr ⟨List.mem_of_getElem? (i := 607) rfl, rfl⟩
set_option maxRecDepth 100000 in
theorem mx_cw46 : mx_cdp 46 := List.mem_filter.mpr ⟨List.mem_of_getElem? (i := 588) rfl, rfl⟩
set_option maxRecDepth 100000 in
theorem mx_cw47 : mx_cdp 47 := List.mem_filter.mpr ⟨List.mem_of_getElem? (i := 497) rfl, rfl⟩
set_option maxRecDepth 100000 in
theorem mx_cw48 : mx_cdp 48 := List.mem_filter.mpr ⟨List.mem_of_getElem? (i := 480) rfl, rfl⟩
set_option maxRecDepth 100000 in
theorem mx_cw49 : mx_cdp 49 := List.mem_filter.mpr ⟨List.mem_of_getElem? (i := 506) rfl, rfl⟩
set_option maxRecDepth 100000 in
theorem mx_cw50 : mx_cdp 50 := List.mem_filter.mpr ⟨List.mem_of_getElem? (i := 510) rfl, rfl⟩
set_option maxRecDepth 100000 in
theorem mx_cw51 : mx_cdp 51 := List.mem_filter.mpr ⟨List.mem_of_getElem? (i := 501) rfl, rfl⟩
set_option maxRecDepth 100000 in
theorem mx_cw52 : mx_cdp 52 := List.mem_filter.mpr ⟨List.mem_of_getElem? (i := 523) rfl, rfl⟩
set_option maxRecDepth 100000 in
theorem mx_cw53 : mx_cdp 53 := List.mem_filter.mpr ⟨List.mem_of_getElem? (i := 485) rfl, rfl⟩
set_option maxRecDepth 100000 in
theorem mx_cw54 : mx_cdp 54 := List.mem_filter.mpr ⟨List.mem_of_getElem? (i := 519) rfl, rfl⟩
set_option maxRecDepth 100000 in
theorem mx_cw55 : mx_cdp 55 := List.mem_filter.mpr ⟨List.mem_of_getElem? (i := 575) rfl, rfl⟩
set_option maxRecDepth 100000 in
theorem mx_cw56 : mx_cdp 56 := List.mem_filter.mpr ⟨List.mem_of_getElem? (i := 579) rfl, rfl⟩
set_option maxRecDepth 100000 in
theorem mx_cw57 : mx_cdp 57 := List.mem_filter.mpr ⟨List.mem_of_getElem? (i := 514) rfl, rfl⟩
set_option maxRecDepth 100000 in
theorem mx_cw58 : mx_cdp 58 := List.mem_filter.mpr ⟨List.mem_of_getElem? (i := 583) rfl, rfl⟩
set_option maxRecDepth 100000 in
theorem mx_cw59 : mx_cdp 59 := List.mem_filter.mpr ⟨List.mem_of_getElem? (i := 592) rfl, rfl⟩
set_option maxRecDepth 100000 in
theorem mx_cw60 : mx_cdp 60 := List.mem_filter.mpr ⟨List.mem_of_getElem? (i := 602) rfl, rfl⟩
set_option maxRecDepth 100000 in
theorem mx_cw61 : mx_cdp 61 := List.mem_filter.mpr ⟨List.mem_of_getElem? (i := 619) rfl, rfl⟩
set_option maxRecDepth 100000 in
theorem mx_cw62 : mx_cdp 62 := List.mem_filter.mpr ⟨List.mem_of_getElem? (i := 611) rfl, rfl⟩
set_option maxRecDepth 100000 in
theorem mx_cw63 : mx_cdp 63 := List.mem_filter.mpr ⟨List.mem_of_getElem? (i := 493) rfl, rfl⟩
set_option maxRecDepth 100000 in
theorem mx_cw64 : mx_cdp 64 := List.mem_filter.mpr ⟨List.mem_of_getElem? (i := 649) rfl, rfl⟩
set_option maxRecDepth 100000 in
theorem mx_cw65 : mx_cdp 65 := List.mem_filter.mpr ⟨List.mem_of_getElem? (i := 655) rfl, rfl⟩
set_option maxRecDepth 100000 in
theorem mx_cw66 : mx_cdp 66 := List.mem_filter.mpr ⟨List.mem_of_getElem? (i := 645) rfl, rfl⟩
set_option maxRecDepth 100000 in
theorem mx_cw67 : mx_cdp 67 := List.mem_filter.mpr ⟨List.mem_of_getElem? (i := 723) rfl, rfl⟩
set_option maxRecDepth 100000 in
theorem mx_cw68 : mx_cdp 68 := List.mem_filter.mpr ⟨List.mem_of_getElem? (i := 450) rfl, rfl⟩
set_option maxRecDepth 100000 in
theorem mx_cw69 : mx_cdp 69 := List.mem_filter.mpr ⟨List.mem_of_getElem? (i := 438) rfl, rfl⟩
set_option maxRecDepth 100000 in
theorem mx_cw70 : mx_cdp 70 := List.mem_filter.mpr ⟨List.mem_of_getElem? (i := 848) rfl, rfl⟩
set_option maxRecDepth 100000 in
theorem mx_cw71 : mx_cdp 71 := List.mem_filter.mpr ⟨List.mem_of_getElem? (i := 852) rfl, rfl⟩
set_option maxRecDepth 100000 in
theorem mx_cw72 : mx_cdp 72 := List.mem_filter.mpr ⟨List.mem_of_getElem? (i := 771) rfl, rfl⟩
set_option maxRecDepth 100000 in
theorem mx_cw73 : mx_cdp 73 := List.mem_filter.mpr ⟨List.mem_of_getElem? (i := 767) rfl, rfl⟩
set_option maxRecDepth 100000 in
theorem mx_cw74 : mx_cdp 74 := List.mem_filter.mpr ⟨List.mem_of_getElem? (i := 677) rfl, rfl⟩
set_option maxRecDepth 100000 in
theorem mx_cw75 : mx_cdp 75 := List.mem_filter.mpr ⟨List.mem_of_getElem? (i := 734) rfl, rfl⟩
set_option maxRecDepth 100000 in
theorem mx_cw76 : mx_cdp 76 := List.mem_filter.mpr ⟨List.mem_of_getElem? (i := 763) rfl, rfl⟩
set_option maxRecDepth 100000 in
theorem mx_cw77 : mx_cdp 77 := List.mem_filter.mpr ⟨List.mem_of_getElem? (i := 458) rfl, rfl⟩
set_option maxRecDepth 100000 in
theorem mx_cw78 : mx_cdp 78 := List.mem_filter.mpr ⟨List.mem_of_getElem? (i := 466) rfl, rfl⟩
set_option maxRecDepth 100000 in
theorem mx_cw79 : mx_cdp 79 := List.mem_filter.mpr ⟨List.mem_of_getElem? (i := 920) rfl, rfl⟩
set_option maxRecDepth 100000 in
theorem mx_cw80 : mx_cdp 80 := List.mem_filter.mpr ⟨List.mem_of_getElem? (i := 916) rfl, rfl⟩
set_option maxRecDepth 100000 in
theorem mx_cw81 : mx_cdp 81 := List.mem_filter.mpr ⟨List.mem_of_getElem? (i := 815) rfl, rfl⟩
set_option maxRecDepth 100000 in
theorem mx_cw82 : mx_cdp 82 := List.mem_filter.mpr ⟨List.mem_of_getElem? (i := 810) rfl, rfl⟩
set_option maxRecDepth 100000 in
theorem mx_cw83 : mx_cdp 83 := List.mem_filter.mpr ⟨List.mem_of_getElem? (i := 806) rfl, rfl⟩
set_option maxRecDepth 100000 in
theorem mx_cw84 : mx_cdp 84 := List.mem_filter.mpr ⟨List.mem_of_getElem? (i := 473) rfl, rfl⟩
set_option maxRecDepth 100000 in
theorem mx_cw85 : mx_cdp 85 := List.mem_filter.mpr ⟨List.mem_of_getElem? (i := 668) rfl, rfl⟩
set_option maxRecDepth 100000 in
theorem mx_cw86 : mx_cdp 86 := List.mem_filter.mpr ⟨List.mem_of_getElem? (i := 664) rfl, rfl⟩
set_option maxRecDepth 100000 in
theorem mx_cw87 : mx_cdp 87 := List.mem_filter.mpr ⟨List.mem_of_getElem? (i := 477) rfl, rfl⟩
set_option maxRecDepth 100000 in
theorem mx_cw88 : mx_cdp 88 := List.mem_filter.mpr ⟨List.mem_of_getElem? (i := 799) rfl, rfl⟩
set_option maxRecDepth 100000 in
theorem mx_cw89 : mx_cdp 89 := List.mem_filter.mpr ⟨List.mem_of_getElem? (i := 673) rfl, rfl⟩
set_option maxRecDepth 100000 in
theorem mx_cw90 : mx_cdp 90 := List.mem_filter.mpr ⟨List.mem_of_getElem? (i := 795) rfl, rfl⟩
set_option maxRecDepth 100000 in
theorem mx_cw91 : mx_cdp 91 := List.mem_filter.mpr ⟨List.mem_of_getElem? (i := 791) rfl, rfl⟩
set_option maxRecDepth 100000 in
theorem mx_cw92 : mx_cdp 92 := List.mem_filter.mpr ⟨List.mem_of_getElem? (i := 489) rfl, rfl⟩
set_option maxRecDepth 100000 in
theorem mx_cw93 : mx_cdp 93 := List.mem_filter.mpr ⟨List.mem_of_getElem? (i := 787) rfl, rfl⟩
set_option maxRecDepth 100000 in
theorem mx_cw94 : mx_cdp 94 := List.mem_filter.mpr ⟨List.mem_of_getElem? (i := 822) rfl, rfl⟩
set_option maxRecDepth 100000 in
theorem mx_cw95 : mx_cdp 95 := List.mem_filter.mpr ⟨List.mem_of_getElem? (i := 840) rfl, rfl⟩
set_option maxRecDepth 100000 in
theorem mx_cw96 : mx_cdp 96 := List.mem_filter.mpr ⟨List.mem_of_getElem? (i := 779) rfl, rfl⟩
set_option maxRecDepth 100000 in
theorem mx_cw97 : mx_cdp 97 := List.mem_filter.mpr ⟨List.mem_of_getElem? (i := 783) rfl, rfl⟩
set_option maxRecDepth 100000 in
theorem mx_cw98 : mx_cdp 98 := List.mem_filter.mpr ⟨List.mem_of_getElem? (i := 836) rfl, rfl⟩
set_option maxRecDepth 100000 in
theorem mx_cw99 : mx_cdp 99 := List.mem_filter.mpr ⟨List.mem_of_getElem? (i := 727) rfl, rfl⟩
set_option maxRecDepth 100000 in
theorem mx_cw100 : mx_cdp 100 := List.mem_filter.mpr ⟨List.mem_of_getElem? (i := 443) rfl, rfl⟩
set_option maxRecDepth 100000 in
theorem mx_cw101 : mx_cdp 101 := List.mem_filter.mpr ⟨List.mem_of_getElem? (i := 430) rfl, rfl⟩
set_option maxRecDepth 100000 in
theorem mx_cw102 : mx_cdp 102 := List.mem_filter.mpr ⟨List.mem_of_getElem? (i := 715) rfl, rfl⟩
set_option maxRecDepth 100000 in
theorem mx_cw103 : mx_cdp 103 := List.mem_filter.mpr ⟨List.mem_of_getElem? (i := 731) rfl, rfl⟩
set_option maxRecDepth 100000 in
theorem mx_cw104 : mx_cdp 104 := List.mem_filter.mpr ⟨List.mem_of_getElem? (i := 462) rfl, rfl⟩
set_option maxRecDepth 100000 in
theorem mx_cw105 : mx_cdp 105 := List.mem_filter.mpr ⟨List.mem_of_getElem? (i := 454) rfl, rfl⟩
set_option maxRecDepth 100000 in
theorem mx_cw106 : mx_cdp 106 := List.mem_filter.mpr ⟨List.mem_of_getElem? (i := 924) rfl, rfl⟩
set_option maxRecDepth 100000 in
theorem mx_cw107 : mx_cdp 107 := List.mem_filter.mpr ⟨List.mem_of_getElem? (i := 775) rfl, rfl⟩
set_option maxRecDepth 100000 in
theorem mx_cw108 : mx_cdp 108 := List.mem_filter.mpr ⟨List.mem_of_getElem? (i := 912) rfl, rfl⟩
set_option maxRecDepth 100000 in
theorem mx_cw109 : mx_cdp 109 := List.mem_filter.mpr ⟨List.mem_of_getElem? (i := 719) rfl, rfl⟩
set_option maxRecDepth 100000 in
theorem mx_cw110 : mx_cdp 110 := List.mem_filter.mpr ⟨List.mem_of_getElem? (i := 1176) rfl, rfl⟩
set_option maxRecDepth 100000 in
theorem mx_cw111 : mx_cdp 111 := List.mem_filter.mpr ⟨List.mem_of_getElem? (i := 1172) rfl, rfl⟩
set_option maxRecDepth 100000 in
theorem mx_cw112 : mx_cdp 112 := List.mem_filter.mpr ⟨List.mem_of_getElem? (i := 1226) rfl, rfl⟩
set_option maxRecDepth 100000 in
theorem mx_cw113 : mx_cdp 113 := List.mem_filter.mpr ⟨List.mem_of_getElem? (i := 1230) rfl, rfl⟩
set_option maxRecDepth 100000 in
theorem mx_cw114 : mx_cdp 114 := List.mem_filter.mpr ⟨List.mem_of_getElem? (i := 1222) rfl, rfl⟩
set_option maxRecDepth 100000 in
theorem mx_cw115 : mx_cdp 115 := List.mem_filter.mpr ⟨List.mem_of_getElem? (i := 1042) rfl, rfl⟩
set_option maxRecDepth 100000 in
theorem mx_cw116 : mx_cdp 116 := List.mem_filter.mpr ⟨List.mem_of_getElem? (i := 1251) rfl, rfl⟩
set_option maxRecDepth 100000 in
theorem mx_cw117 : mx_cdp 117 := List.mem_filter.mpr ⟨List.mem_of_getElem? (i := 1332) rfl, rfl⟩
set_option maxRecDepth 100000 in
theorem mx_cw118 : mx_cdp 118 := List.mem_filter.mpr ⟨List.mem_of_getElem? (i := 1340) rfl, rfl⟩
set_option maxRecDepth 100000 in
theorem mx_cw119 : mx_cdp 119 := List.mem_filter.mpr ⟨List.mem_of_getElem? (i := 1048) rfl, rfl⟩
set_option maxRecDepth 100000 in
theorem mx_cw120 : mx_cdp 120 := List.mem_filter.mpr ⟨List.mem_of_getElem? (i := 1336) rfl, rfl⟩
set_option maxRecDepth 100000 in
theorem mx_cw121 : mx_cdp 121 := List.mem_filter.mpr ⟨List.mem_of_getElem? (i := 1356) rfl, rfl⟩
set_option maxRecDepth 100000 in
theorem mx_cw122 : mx_cdp 122 := List.mem_filter.mpr ⟨List.mem_of_getElem? (i := 1352) rfl, rfl⟩
set_option maxRecDepth 100000 in
theorem mx_cw123 : mx_cdp 123 := List.mem_filter.mpr ⟨List.mem_of_getElem? (i := 1360) rfl, rfl⟩
set_option maxRecDepth 100000 in
theorem mx_cw124 : mx_cdp 124 := List.mem_filter.mpr ⟨List.mem_of_getElem? (i := 1348) rfl, rfl⟩
set_option maxRecDepth 100000 in
theorem mx_cw125 : mx_cdp 125 := List.mem_filter.mpr ⟨List.mem_of_getElem? (i := 1344) rfl, rfl⟩
set_option maxRecDepth 100000 in
theorem mx_cw126 : mx_cdp 126 := List.mem_filter.mpr ⟨List.mem_of_getElem? (i := 1108) rfl, rfl⟩
set_option maxRecDepth 100000 in
theorem mx_cw127 : mx_cdp 127 := List.mem_filter.mpr ⟨List.mem_of_getElem? (i := 1084) rfl, rfl⟩
set_option maxRecDepth 100000 in
theorem mx_cw128 : mx_cdp 128 := List.mem_filter.mpr ⟨List.mem_of_getElem? (i := 1088) rfl, rfl⟩
set_option maxRecDepth 100000 in
theorem mx_cw129 : mx_cdp 129 := List.mem_filter.mpr ⟨List.mem_of_getElem? (i := 1091) rfl, rfl⟩
set_option maxRecDepth 100000 in
theorem mx_cw130 : mx_cdp 130 := List.mem_filter.mpr ⟨List.mem_of_getElem? (i := 1080) rfl, rfl⟩
set_option maxRecDepth 100000 in
theorem mx_cw131 : mx_cdp 131 := List.mem_filter.mpr ⟨List.mem_of_getElem? (i := 1076) rfl, rfl⟩
set_option maxRecDepth 100000 in
theorem mx_cw132 : mx_cdp 132 := List.mem_filter.mpr ⟨List.mem_of_getElem? (i := 1104) rfl, rfl⟩
set_option maxRecDepth 100000 in
theorem mx_cw133 : mx_cdp 133 := List.mem_filter.mpr ⟨List.mem_of_getElem? (i := 1133) rfl, rfl⟩
set_option maxRecDepth 100000 in
theorem mx_cw134 : mx_cdp 134 := List.mem_filter.mpr ⟨List.mem_of_getElem? (i := 1168) rfl, rfl⟩
set_option maxRecDepth 100000 in
theorem mx_cw135 : mx_cdp 135 := List.mem_filter.mpr ⟨List.mem_of_getElem? (i := 1214) rfl, rfl⟩
set_option maxRecDepth 100000 in
theorem mx_cw136 : mx_cdp 136 := List.mem_filter.mpr ⟨List.mem_of_getElem? (i := 1210) rfl, rfl⟩
set_option maxRecDepth 100000 in
theorem mx_cw137 : mx_cdp 137 := List.mem_filter.mpr ⟨List.mem_of_getElem? (i := 1218) rfl, rfl⟩
set_option maxRecDepth 100000 in
theorem mx_cw138 : mx_cdp 138 := List.mem_filter.mpr ⟨List.mem_of_getElem? (i := 1206) rfl, rfl⟩
set_option maxRecDepth 100000 in
theorem mx_cw139 : mx_cdp 139 := List.mem_filter.mpr ⟨List.mem_of_getElem? (i := 1234) rfl, rfl⟩
set_option maxRecDepth 100000 in
theorem mx_cw140 : mx_cdp 140 := List.mem_filter.mpr ⟨List.mem_of_getElem? (i := 1164) rfl, rfl⟩
set_option maxRecDepth 100000 in
theorem mx_cw141 : mx_cdp 141 := List.mem_filter.mpr ⟨List.mem_of_getElem? (i := 1238) rfl, rfl⟩
set_option maxRecDepth 100000 in
theorem mx_cw142 : mx_cdp 142 := List.mem_filter.mpr ⟨List.mem_of_getElem? (i := 1202) rfl, rfl⟩
set_option maxRecDepth 100000 in
theorem mx_cw143 : mx_cdp 143 := List.mem_filter.mpr ⟨List.mem_of_getElem? (i := 1198) rfl, rfl⟩
set_option maxRecDepth 100000 in
theorem mx_cw144 : mx_cdp 144 := List.mem_filter.mpr ⟨List.mem_of_getElem? (i := 1270) rfl, rfl⟩
set_option maxRecDepth 100000 in
theorem mx_cw145 : mx_cdp 145 := List.mem_filter.mpr ⟨List.mem_of_getElem? (i := 1267) rfl, rfl⟩
set_option maxRecDepth 100000 in
theorem mx_cw146 : mx_cdp 146 := List.mem_filter.mpr ⟨List.mem_of_getElem? (i := 1278) rfl, rfl⟩
set_option maxRecDepth 100000 in
theorem mx_cw147 : mx_cdp 147 := List.mem_filter.mpr ⟨List.mem_of_getElem? (i := 1262) rfl, rfl⟩
set_option maxRecDepth 100000 in
theorem mx_cw148 : mx_cdp 148 := List.mem_filter.mpr ⟨List.mem_of_getElem? (i := 1274) rfl, rfl⟩
set_option maxRecDepth 100000 in
theorem mx_cw149 : mx_cdp 149 := List.mem_filter.mpr ⟨List.mem_of_getElem? (i := 1038) rfl, rfl⟩
set_option maxRecDepth 100000 in
theorem mx_cw150 : mx_cdp 150 := List.mem_filter.mpr ⟨List.mem_of_getElem? (i := 1057) rfl, rfl⟩
set_option maxRecDepth 100000 in
theorem mx_cw151 : mx_cdp 151 := List.mem_filter.mpr ⟨List.mem_of_getElem? (i := 1368) rfl, rfl⟩
set_option maxRecDepth 100000 in
theorem mx_cw152 : mx_cdp 152 := List.mem_filter.mpr ⟨List.mem_of_getElem? (i := 1188) rfl, rfl⟩
set_option maxRecDepth 100000 in
theorem mx_cw153 : mx_cdp 153 := List.mem_filter.mpr ⟨List.mem_of_getElem? (i := 1316) rfl, rfl⟩
set_option maxRecDepth 100000 in
theorem mx_cw154 : mx_cdp 154 := List.mem_filter.mpr ⟨List.mem_of_getElem? (i := 1310) rfl, rfl⟩
set_option maxRecDepth 100000 in
theorem mx_cw155 : mx_cdp 155 := List.mem_filter.mpr ⟨List.mem_of_getElem? (i := 1061) rfl, rfl⟩
set_option maxRecDepth 100000 in
theorem mx_cw156 : mx_cdp 156 := List.mem_filter.mpr ⟨List.mem_of_getElem? (i := 1184) rfl, rfl⟩
set_option maxRecDepth 100000 in
theorem mx_cw157 : mx_cdp 157 := List.mem_filter.mpr ⟨List.mem_of_getElem? (i := 1180) rfl, rfl⟩
set_option maxRecDepth 100000 in
theorem mx_cw158 : mx_cdp 158 := List.mem_filter.mpr ⟨List.mem_of_getElem? (i := 1065) rfl, rfl⟩
set_option maxRecDepth 100000 in
theorem mx_cw159 : mx_cdp 159 := List.mem_filter.mpr ⟨List.mem_of_getElem? (i := 1116) rfl, rfl⟩
set_option maxRecDepth 100000 in
theorem mx_cw160 : mx_cdp 160 := List.mem_filter.mpr ⟨List.mem_of_getElem? (i := 1306) rfl, rfl⟩
set_option maxRecDepth 100000 in
theorem mx_cw161 : mx_cdp 161 := List.mem_filter.mpr ⟨List.mem_of_getElem? (i := 1192) rfl, rfl⟩
set_option maxRecDepth 100000 in
theorem mx_cw162 : mx_cdp 162 := List.mem_filter.mpr ⟨List.mem_of_getElem? (i := 1302) rfl, rfl⟩
set_option maxRecDepth 100000 in
theorem mx_cw163 : mx_cdp 163 := List.mem_filter.mpr ⟨List.mem_of_getElem? (i := 1099) rfl, rfl⟩
set_option maxRecDepth 100000 in
theorem mx_cw164 : mx_cdp 164 := List.mem_filter.mpr ⟨List.mem_of_getElem? (i := 1112) rfl, rfl⟩
set_option maxRecDepth 100000 in
theorem mx_cw165 : mx_cdp 165 := List.mem_filter.mpr ⟨List.mem_of_getElem? (i := 1120) rfl, rfl⟩
set_option maxRecDepth 100000 in
theorem mx_cw166 : mx_cdp 166 := List.mem_filter.mpr ⟨List.mem_of_getElem? (i := 1095) rfl, rfl⟩
set_option maxRecDepth 100000 in
theorem mx_cw167 : mx_cdp 167 := List.mem_filter.mpr ⟨List.mem_of_getElem? (i := 1125) rfl, rfl⟩
set_option maxRecDepth 100000 in
theorem mx_cw168 : mx_cdp 168 := List.mem_filter.mpr ⟨List.mem_of_getElem? (i := 1129) rfl, rfl⟩
set_option maxRecDepth 100000 in
theorem mx_cw169 : mx_cdp 169 := List.mem_filter.mpr ⟨List.mem_of_getElem? (i := 1138) rfl, rfl⟩
set_option maxRecDepth 100000 in
theorem mx_cw170 : mx_cdp 170 := List.mem_filter.mpr ⟨List.mem_of_getElem? (i := 1144) rfl, rfl⟩
set_option maxRecDepth 100000 in
theorem mx_cw171 : mx_cdp 171 := List.mem_filter.mpr ⟨List.mem_of_getElem? (i := 1152) rfl, rfl⟩
set_option maxRecDepth 100000 in
theorem mx_cw172 : mx_cdp 172 := List.mem_filter.mpr ⟨List.mem_of_getElem? (i := 1149) rfl, rfl⟩
set_option maxRecDepth 100000 in
theorem mx_cw173 : mx_cdp 173 := List.mem_filter.mpr ⟨List.mem_of_getElem? (i := 1160) rfl, rfl⟩
set_option maxRecDepth 100000 in
theorem mx_cw174 : mx_cdp 174 := List.mem_filter.mpr ⟨List.mem_of_getElem? (i := 1072) rfl, rfl⟩
set_option maxRecDepth 100000 in
theorem mx_cw175 : mx_cdp 175 := List.mem_filter.mpr ⟨List.mem_of_getElem? (i := 1298) rfl, rfl⟩
set_option maxRecDepth 100000 in
theorem mx_cw176 : mx_cdp 176 := List.mem_filter.mpr ⟨List.mem_of_getElem? (i := 1294) rfl, rfl⟩
set_option maxRecDepth 100000 in
theorem mx_cw177 : mx_cdp 177 := List.mem_filter.mpr ⟨List.mem_of_getElem? (i := 1320) rfl, rfl⟩
set_option maxRecDepth 100000 in
theorem mx_cw178 : mx_cdp 178 := List.mem_filter.mpr ⟨List.mem_of_getElem? (i := 1328) rfl, rfl⟩
set_option maxRecDepth 100000 in
theorem mx_cw179 : mx_cdp 179 := List.mem_filter.mpr ⟨List.mem_of_getElem? (i := 1286) rfl, rfl⟩
set_option maxRecDepth 100000 in
theorem mx_cw180 : mx_cdp 180 := List.mem_filter.mpr ⟨List.mem_of_getElem? (i := 1290) rfl, rfl⟩
set_option maxRecDepth 100000 in
theorem mx_cw181 : mx_cdp 181 := List.mem_filter.mpr ⟨List.mem_of_getElem? (i := 1324) rfl, rfl⟩
set_option maxRecDepth 100000 in
theorem mx_cw182 : mx_cdp 182 := List.mem_filter.mpr ⟨List.mem_of_getElem? (i := 1255) rfl, rfl⟩
set_option maxRecDepth 100000 in
theorem mx_cw183 : mx_cdp 183 := List.mem_filter.mpr ⟨List.mem_of_getElem? (i := 1035) rfl, rfl⟩
set_option maxRecDepth 100000 in
theorem mx_cw184 : mx_cdp 184 := List.mem_filter.mpr ⟨List.mem_of_getElem? (i := 1242) rfl, rfl⟩
set_option maxRecDepth 100000 in
theorem mx_cw185 : mx_cdp 185 := List.mem_filter.mpr ⟨List.mem_of_getElem? (i := 1259) rfl, rfl⟩
set_option maxRecDepth 100000 in
theorem mx_cw186 : mx_cdp 186 := List.mem_filter.mpr ⟨List.mem_of_getElem? (i := 1053) rfl, rfl⟩
set_option maxRecDepth 100000 in
theorem mx_cw187 : mx_cdp 187 := List.mem_filter.mpr ⟨List.mem_of_getElem? (i := 1372) rfl, rfl⟩
set_option maxRecDepth 100000 in
theorem mx_cw188 : mx_cdp 188 := List.mem_filter.mpr ⟨List.mem_of_getElem? (i := 1282) rfl, rfl⟩
set_option maxRecDepth 100000 in
theorem mx_cw189 : mx_cdp 189 := List.mem_filter.mpr ⟨List.mem_of_getElem? (i := 1364) rfl, rfl⟩
set_option maxRecDepth 100000 in
theorem mx_cw190 : mx_cdp 190 := List.mem_filter.mpr ⟨List.mem_of_getElem? (i := 1247) rfl, rfl⟩
theorem mx_cdp_all : mx_allP mx_cdp 191 := ⟨⟨⟨⟨⟨⟨⟨⟨⟨⟨⟨⟨⟨⟨⟨⟨⟨⟨⟨⟨⟨⟨⟨⟨⟨⟨⟨⟨⟨⟨⟨⟨⟨⟨⟨⟨⟨⟨⟨⟨⟨⟨⟨⟨⟨⟨⟨⟨⟨⟨⟨⟨⟨⟨⟨⟨⟨⟨⟨⟨⟨⟨⟨⟨⟨⟨⟨⟨⟨⟨⟨⟨⟨⟨⟨⟨⟨⟨⟨⟨⟨⟨⟨⟨⟨⟨⟨⟨⟨⟨⟨⟨⟨⟨⟨⟨⟨⟨⟨⟨⟨⟨⟨⟨⟨⟨⟨⟨⟨⟨⟨⟨⟨⟨⟨⟨⟨⟨⟨⟨⟨⟨⟨⟨⟨⟨⟨⟨⟨⟨⟨⟨⟨⟨⟨⟨⟨⟨⟨⟨⟨⟨⟨⟨⟨⟨⟨⟨⟨⟨⟨⟨⟨⟨⟨⟨⟨⟨⟨⟨⟨⟨⟨⟨⟨⟨⟨⟨⟨⟨⟨⟨⟨⟨⟨⟨⟨⟨⟨⟨⟨⟨⟨⟨⟨⟨⟨⟨⟨⟨⟨trivial, mx_cw0⟩, mx_cw1⟩, mx_cw2⟩, mx_cw3⟩, mx_cw4⟩, mx_cw5⟩, mx_cw6⟩, mx_cw7⟩, mx_cw8⟩, mx_cw9⟩, mx_cw10⟩, mx_cw11⟩, mx_cw12⟩, mx_cw13⟩, mx_cw14⟩, mx_cw15⟩, mx_cw16⟩, mx_cw17⟩, mx_cw18⟩, mx_cw19⟩, mx_cw20⟩, mx_cw21⟩, mx_cw22⟩, mx_cw23⟩, mx_cw24⟩, mx_cw25⟩, mx_cw26⟩, mx_cw27⟩, mx_cw28⟩, mx_cw29⟩, mx_cw30⟩, mx_cw31⟩, mx_cw32⟩, mx_cw33⟩, mx_cw34⟩, mx_cw35⟩, mx_cw36⟩, mx_cw37⟩, mx_cw38⟩, mx_cw39⟩, mx_cw40⟩, mx_cw41⟩, mx_cw42⟩, mx_cw43⟩, mx_cw44⟩, mx_cw45⟩, mx_cw46⟩, mx_cw47⟩, mx_cw48⟩, mx_cw49⟩, mx_cw50⟩, mx_cw51⟩, mx_cw52⟩, mx_cw53⟩, mx_cw54⟩, mx_cw55⟩, mx_cw56⟩, mx_cw57⟩, mx_cw58⟩, mx_cw59⟩, mx_cw60⟩, mx_cw61⟩, mx_cw62⟩, mx_cw63⟩, mx_cw64⟩, mx_cw65⟩, mx_cw66⟩, mx_cw67⟩, mx_cw68⟩, mx_cw69⟩, mx_cw70⟩, mx_cw71⟩, mx_cw72⟩, mx_cw73⟩, mx_cw74⟩, mx_cw75⟩, mx_cw76⟩, mx_cw77⟩, mx_cw78⟩, mx_cw79⟩, mx_cw80⟩, mx_cw81⟩, mx_cw82⟩, mx_cw83⟩, mx_cw84⟩, mx_cw85⟩, mx_cw86⟩, mx_cw87⟩, mx_cw88⟩, mx_cw89⟩, mx_cw90⟩, mx_cw91⟩, mx_cw92⟩, mx_cw93⟩, mx_cw94⟩, mx_cw95⟩, mx_cw96⟩, mx_cw97⟩, mx_cw98⟩, mx_cw99⟩, mx_cw100⟩, mx_cw101⟩, mx_cw102⟩, mx_cw103⟩, mx_cw104⟩, mx_cw105⟩, mx_cw106⟩, mx_cw107⟩, mx_cw108⟩, mx_cw109⟩, mx_cw110⟩, mx_cw111⟩, mx_cw112⟩, mx_cw113⟩, mx_cw114⟩, mx_cw115⟩, mx_cw116⟩, mx_cw117⟩, mx_cw118⟩, mx_cw119⟩, mx_cw120⟩, mx_cw121⟩, mx_cw122⟩, mx_cw123⟩, mx_cw124⟩, mx_cw125⟩, mx_cw126⟩, mx_cw127⟩, mx_cw128⟩, mx_cw129⟩, mx_cw130⟩, mx_cw131⟩, mx_cw132⟩, mx_cw133⟩, mx_cw134⟩, mx_cw135⟩, mx_cw136⟩, mx_cw137⟩, mx_cw138⟩, mx_cw139⟩, mx_cw140⟩, mx_cw141⟩, mx_cw142⟩, mx_cw143⟩, mx_cw144⟩, mx_cw145⟩, mx_cw146⟩, mx_cw147⟩, mx_cw148⟩, mx_cw149⟩, mx_cw150⟩, mx_cw151⟩, mx_cw152⟩, mx_cw153⟩, mx_cw154⟩, mx_cw155⟩, mx_cw156⟩, mx_cw157⟩, mx_cw158⟩, mx_cw159⟩, mx_cw160⟩, mx_cw161⟩, mx_cw162⟩, mx_cw163⟩, mx_cw164⟩, mx_cw165⟩, mx_cw166⟩, mx_cw167⟩, mx_cw168⟩, mx_cw169⟩, mx_cw170⟩, mx_cw171⟩, mx_cw172⟩, mx_cw173⟩, mx_cw174⟩, mx_cw175⟩, mx_cw176⟩, mx_cw177⟩, mx_cw178⟩, mx_cw179⟩, mx_cw180⟩, mx_cw181⟩, mx_cw182⟩, mx_cw183⟩, mx_cw184⟩, mx_cw185⟩, mx_cw186⟩, mx_cw187⟩, mx_cw188⟩, mx_cw189⟩, mx_cw190⟩

def mx_LF : List (Nat × Nat × Nat × Nat) := [(0, 56, 0, 2), (0, 9, 0, 1), (0, 15, 0, 0), (0, 64, 1, 7), (1, 15, 1, 5), (1, 39, 1, 13), (0, 70, 1, 5), (0, 78, 1, 6), (1, 45, 1, 0), (1, 83, 3, 17), (1, 27, 1, 9), (1, 21, 1, 7), (1, 53, 1, 2), (1, 57, 1, 3), (1, 60, 3, 12), (1, 65, 3, 13), (1, 9, 1, 4), (1, 18, 1, 6), (1, 68, 3, 16), (1, 24, 1, 8), (1, 30, 1, 10), (1, 33, 1, 11), (1, 36, 1, 12), (1, 154, 3, 15), (1, 157, 3, 8), (1, 49, 1, 1), (1, 160, 6, 0), (1, 118, 3, 9), (1, 145, 3, 10), (1, 133, 3, 2), (1, 139, 3, 3), (1, 105, 3, 14), (1, 42, 1, 14), (1, 142, 3, 0), (1, 148, 3, 11), (1, 151, 3, 1), (1, 125, 6, 1), (2, 28, 2, 2), (2, 50, 1, 3), (2, 10, 2, 0), (2, 54, 3, 17), (3, 61, 3, 0), (3, 64, 3, 1), (3, 45, 3, 2), (3, 49, 3, 4), (3, 52, 3, 8), (3, 55, 3, 12), (3, 58, 3, 17), (3, 9, 3, 3), (3, 15, 3, 5), (3, 18, 3, 6), (3, 21, 3, 7), (3, 24, 3, 9), (3, 27, 3, 10), (3, 30, 3, 11), (3, 33, 3, 13), (3, 36, 3, 14), (3, 39, 3, 15), (3, 42, 3, 16), (6, 9, 6, 0), (6, 15, 6, 1), (2, 19, 2, 1), (9, 38, 9, 0), (9, 15, 9, 3), (9, 1053, 9, 1), (9, 9, 9, 2), (4, 52, 4, 5), (4, 28, 4, 4), (4, 15, 4, 1), (4, 9, 4, 0), (4, 88, 4, 6), (4, 131, 4, 2), (4, 31, 4, 3), (4, 19, 4, 7), (4, 65, 3, 0), (4, 67, 3, 1), (4, 85, 3, 2), (4, 105, 3, 17), (6, 22, 3, 2), (6, 50, 3, 4), (6, 52, 3, 5), (6, 55, 3, 6), (6, 58, 3, 7), (7, 25, 7, 2), (7, 109, 2, 0), (7, 146, 3, 17), (7, 276, 7, 9), (7, 38, 2, 2), (7, 45, 7, 5), (7, 257, 0, 2), (7, 29, 7, 3), (7, 172, 3, 1), (7, 169, 3, 0), (7, 151, 3, 2), (5, 23, 5, 3), (7, 11, 7, 0), (7, 73, 5, 1), (7, 86, 5, 2), (7, 80, 5, 0), (7, 228, 3, 4), (7, 233, 3, 8), (7, 222, 3, 12), (7, 166, 1, 2), (7, 273, 1, 3), (7, 18, 7, 1), (7, 103, 4, 1), (7, 205, 1, 12), (7, 286, 3, 15), (7, 96, 5, 3), (7, 131, 2, 1), (7, 154, 6, 0), (7, 120, 7, 8), (7, 185, 1, 5), (7, 49, 7, 6), (7, 283, 3, 9), (7, 53, 7, 7), (7, 117, 4, 3), (7, 124, 4, 2), (7, 32, 7, 4), (7, 230, 3, 7), (7, 236, 3, 11), (7, 203, 3, 3), (5, 15, 5, 1), (5, 19, 5, 2), (5, 9, 5, 0), (7, 225, 3, 14), (7, 266, 0, 1), (7, 179, 1, 10), (7, 182, 1, 4), (7, 188, 1, 6), (7, 191, 1, 7), (7, 194, 1, 8), (7, 197, 1, 9), (7, 200, 1, 11), (8, 19, 8, 5), (8, 37, 8, 21), (8, 34, 8, 20), (8, 25, 8, 8), (8, 72, 8, 1), (8, 69, 8, 0), (8, 322, 8, 32), (8, 66, 8, 31), (8, 126, 8, 18), (8, 111, 8, 16), (8, 132, 8, 19), (8, 101, 8, 13), (8, 31, 8, 10), (8, 105, 8, 14), (8, 114, 8, 15), (8, 123, 8, 17), (8, 95, 8, 11), (8, 22, 8, 6), (8, 44, 8, 23), (8, 47, 8, 24), (8, 41, 8, 22), (8, 28, 8, 9), (8, 210, 8, 7), (8, 7, 8, 2), (8, 13, 8, 3), (8, 16, 8, 4), (8, 206, 8, 12), (8, 50, 8, 25), (8, 296, 8, 27), (8, 53, 8, 26), (8, 60, 8, 29), (8, 63, 8, 30), (8, 56, 8, 28)]
def mx_LM : List (Nat × Nat × Nat) := [(0, 60, 0), (0, 53, 3), (0, 73, 1002), (0, 44, 5), (0, 38, 1), (0, 32, 7), (0, 19, 2), (0, 25, 12), (0, 29, 13), (0, 35, 8), (0, 81, 9), (0, 41, 4), (0, 47, 6), (0, 50, 10), (0, 67, 11), (1, 99, 15), (1, 71, 18), (1, 130, 20), (1, 115, 23), (1, 108, 22), (1, 112, 24), (1, 121, 26), (1, 93, 1001), (1, 86, 25), (1, 90, 27), (1, 77, 1000), (2, 46, 19), (2, 57, 29), (2, 60, 17), (2, 64, 28), (2, 67, 16), (3, 67, 1000), (6, 38, 1000), (2, 32, 32), (2, 36, 33), (2, 39, 34), (2, 43, 30), (9, 1059, 37), (10, 9, 38), (9, 492, 36), (9, 495, 39), (9, 335, 41), (4, 142, 49), (4, 145, 50), (4, 134, 42), (4, 138, 40), (4, 75, 52), (4, 34, 51), (4, 57, 54), (4, 61, 55), (4, 70, 56), (4, 79, 46), (4, 93, 43), (4, 99, 45), (4, 108, 1001), (4, 113, 61), (4, 117, 44), (4, 23, 47), (4, 37, 57), (4, 40, 58), (4, 43, 59), (4, 46, 60), (4, 49, 62), (6, 44, 18), (6, 18, 64), (6, 28, 1001), (6, 34, 65), (7, 57, 21), (7, 175, 67), (7, 99, 48), (7, 254, 2), (7, 70, 68), (7, 62, 69), (7, 211, 31), (7, 158, 74), (7, 208, 75), (7, 127, 34), (7, 215, 73), (7, 219, 72), (7, 77, 77), (7, 90, 1000), (7, 269, 79), (7, 140, 19), (7, 163, 29), (7, 298, 1003), (7, 289, 18), (7, 295, 81), (7, 247, 82), (7, 105, 53), (7, 242, 1002), (7, 280, 90), (7, 113, 63), (7, 135, 66), (7, 239, 91), (7, 251, 35), (5, 26, 18), (7, 66, 100), (7, 83, 104), (8, 228, 110), (8, 231, 111), (8, 234, 112), (8, 237, 113), (8, 78, 115), (8, 278, 116), (8, 313, 117), (8, 318, 118), (8, 89, 119), (8, 325, 121), (8, 328, 122), (8, 331, 123), (8, 334, 124), (8, 108, 127), (8, 117, 128), (8, 120, 129), (8, 129, 130), (8, 135, 126), (8, 143, 132), (8, 241, 135), (8, 259, 136), (8, 263, 137), (8, 221, 140), (8, 245, 138), (8, 249, 114), (8, 252, 139), (8, 256, 141), (8, 266, 142), (8, 217, 134), (8, 273, 143), (8, 283, 144), (8, 289, 145), (8, 286, 147), (8, 292, 146), (8, 82, 149), (8, 225, 152), (8, 309, 153), (8, 139, 159), (8, 153, 163), (8, 159, 164), (8, 163, 165), (8, 166, 133), (8, 172, 171), (8, 176, 131), (8, 179, 166), (8, 184, 167), (8, 188, 168), (8, 193, 169), (8, 198, 170), (8, 203, 172), (8, 214, 173), (8, 299, 175), (8, 302, 162), (15, 13, 101), (15, 17, 183), (15, 18, 105), (15, 21, 186), (15, 22, 78), (15, 26, 150), (15, 27, 84), (15, 31, 155), (15, 34, 87), (15, 38, 158), (15, 39, 92), (15, 43, 174), (15, 44, 86), (15, 47, 157), (15, 48, 85), (15, 52, 156), (15, 53, 89), (15, 56, 161), (15, 57, 102), (15, 60, 184), (15, 61, 109), (15, 64, 190), (15, 65, 99), (15, 68, 182), (15, 69, 103), (15, 72, 185), (15, 73, 76), (15, 76, 148), (15, 77, 107), (15, 80, 188), (15, 81, 96), (15, 84, 179), (15, 85, 97), (15, 88, 180), (15, 89, 93), (15, 92, 176), (15, 93, 88), (15, 96, 160), (15, 97, 83), (15, 101, 154), (15, 102, 94), (15, 105, 177), (15, 106, 98), (15, 109, 181), (15, 110, 95), (15, 113, 178), (15, 114, 70), (15, 117, 120), (15, 118, 71), (15, 121, 125), (15, 122, 108), (15, 125, 189), (15, 126, 80), (15, 129, 151), (15, 130, 106), (15, 133, 187)]
def mx_LC : List (Nat × Nat × Int32) := [(12, 265, 1431655765), (12, 266, 858993459), (12, 267, 252645135), (7, 279, (-1000010)), (7, 61, (-1000001)), (7, 162, (-1000002)), (7, 157, (-1000000)), (7, 104, (-1000003)), (7, 123, (-1000100)), (8, 104, (-1000000)), (8, 75, (-1000010)), (8, 88, (-1000001)), (8, 270, (-1000002)), (8, 98, (-1000003)), (8, 209, (-1000100))]
def mx_LJ : List (Nat × Nat × Int64) := [(8, 316, 5), (8, 281, 120), (8, 76, 7), (8, 305, 40), (8, 307, 30), (8, 93, 8), (8, 99, 255), (8, 271, 60), (8, 157, 1918986604), (8, 170, 7302757), (8, 147, 439855772532), (8, 149, 1685217655), (8, 151, 491496238692), (8, 182, 1919905645), (8, 191, 1685024626), (8, 196, 31641073268126309), (8, 201, 444301538672), (8, 86, 2), (8, 276, 20), (15, 32, 4294967295)]
def mx_LFp : List Nat := [365, 363, 362, 297, 290, 309, 291, 294, 281, 217, 301, 296, 283, 285, 204, 207, 288, 293, 215, 299, 303, 305, 307, 212, 193, 282, 267, 196, 199, 178, 180, 209, 310, 169, 201, 173, 269, 346, 286, 342, 218, 167, 171, 174, 182, 192, 203, 216, 179, 185, 187, 189, 195, 198, 200, 206, 208, 211, 214, 265, 268, 344, 532, 1375, 548, 1374, 133, 132, 126, 125, 134, 129, 130, 135, 166, 170, 176, 220, 175, 183, 186, 188, 190, 398, 343, 219, 405, 347, 401, 366, 399, 172, 168, 177, 385, 396, 382, 384, 380, 184, 194, 205, 284, 287, 397, 127, 308, 213, 386, 345, 266, 404, 292, 402, 197, 403, 131, 128, 400, 191, 202, 181, 381, 383, 379, 210, 364, 304, 289, 295, 298, 300, 302, 306, 936, 952, 951, 939, 932, 931, 963, 962, 949, 947, 950, 944, 941, 945, 946, 948, 942, 937, 954, 955, 953, 940, 938, 933, 934, 935, 943, 956, 958, 957, 960, 961, 959]
def mx_LMp : List Nat := [862, 878, 886, 882, 866, 900, 857, 858, 896, 904, 895, 874, 887, 891, 870, 754, 660, 692, 700, 687, 696, 708, 749, 683, 704, 832, 739, 740, 741, 745, 750, 636, 641, 632, 637, 827, 828, 550, 545, 538, 542, 528, 503, 507, 524, 534, 520, 498, 516, 572, 576, 585, 595, 604, 613, 616, 623, 494, 511, 580, 589, 599, 608, 650, 646, 651, 652, 431, 720, 478, 841, 447, 435, 735, 674, 732, 628, 764, 768, 455, 467, 917, 656, 679, 816, 811, 812, 807, 482, 800, 792, 490, 642, 788, 823, 444, 440, 459, 1173, 1169, 1223, 1227, 1040, 1248, 1329, 1338, 1045, 1353, 1349, 1357, 1345, 1081, 1086, 1089, 1077, 1105, 1101, 1211, 1207, 1215, 1161, 1203, 1219, 1231, 1235, 1199, 1165, 1195, 1268, 1264, 1260, 1275, 1036, 1185, 1313, 1113, 1096, 1109, 1117, 1130, 1150, 1073, 1092, 1122, 1126, 1135, 1141, 1146, 1157, 1295, 1299, 427, 1032, 451, 1050, 463, 1054, 470, 1058, 474, 1062, 486, 1069, 661, 1177, 665, 1181, 670, 1189, 712, 1239, 716, 1244, 724, 1252, 728, 1256, 760, 1271, 772, 1279, 776, 1283, 780, 1287, 784, 1291, 796, 1303, 803, 1307, 819, 1317, 833, 1321, 837, 1325, 845, 1333, 849, 1341, 909, 1361, 913, 1365, 921, 1369]
def mx_LCp : List Nat := [757, 758, 759, 439, 434, 678, 669, 481, 627, 1085, 1049, 1044, 1193, 1067, 1156]
def mx_LJp : List Nat := [1337, 1263, 1039, 1311, 1312, 1066, 1068, 1194, 1100, 1139, 1153, 1154, 1155, 1121, 1134, 1140, 1145, 1043, 1243, 1373]
def mx_wF (t : Nat × Nat × Nat × Nat) : Cond := if t.2.2.1 = 9 then (match t.2.2.2 with
  | 0 => .fieldLink (mx_on t.1) t.2.1 "java/lang/String" "COMPACT_STRINGS" "Z"
  | 1 => .fieldLink (mx_on t.1) t.2.1 "jdk/internal/util/Preconditions" "SIOOBE_FORMATTER" "Ljava/util/function/BiFunction;"
  | 2 => .fieldLink (mx_on t.1) t.2.1 "java/lang/String" "value" "[B"
  | _ => .fieldLink (mx_on t.1) t.2.1 "java/lang/String" "coder" "B") else .fieldLink (mx_on t.1) t.2.1 (mx_cl t.2.2.1).1 ((mx_cl t.2.2.1).2.1 t.2.2.2).2.1 ((mx_cl t.2.2.1).2.1 t.2.2.2).2.2.1
def mx_wM (t : Nat × Nat × Nat) : Cond := if t.2.2 = 1000 then .methodLink (mx_on t.1) t.2.1 arraycopyName else if t.2.2 = 1001 then .methodLink (mx_on t.1) t.2.1 Lib.Math.min.name else if t.2.2 = 1002 then .methodLink (mx_on t.1) t.2.1 Lib.Math.max.name else if t.2.2 = 1003 then .methodLink (mx_on t.1) t.2.1 Lib.Math.abs.name else .methodLink (mx_on t.1) t.2.1 (mx_mN t.2.2)
def mx_zip {α : Type} (f : Nat → α → Bool) : List α → List Nat → Bool
  | [], _ => true
  | _ :: _, [] => false
  | a :: l, k :: ks => f k a && mx_zip f l ks
theorem mx_zip_at {α : Type} {f : Nat → α → Bool} : ∀ {l : List α} {ks : List Nat}, mx_zip f l ks = true → ∀ a ∈ l, ∃ k, f k a = true
  | [], _, _, a, h => absurd h List.not_mem_nil
  | _ :: _, [], h, _, _ => by cases h
  | b :: l, k :: ks, h, a, ha => by
    simp only [mx_zip, Bool.and_eq_true] at h
    rcases List.mem_cons.mp ha with rfl | ha
    · exact ⟨k, h.1⟩
    · exact mx_zip_at h.2 a ha
theorem mx_LF_ok : mx_zip (fun k t => mx_hw k (mx_wF t) && (decide (t.2.2.1 = 9) || (decide (((mx_cl t.2.2.1).2.1 t.2.2.2).1 = (mx_cl t.2.2.1).1) && decide (t.2.2.2 < (mx_cl t.2.2.1).2.2)))) mx_LF mx_LFp = true := by decide +kernel
theorem mx_LM_ok : mx_zip (fun k t => mx_hw k (mx_wM t)) mx_LM mx_LMp = true := by decide +kernel
theorem mx_LC_ok : mx_zip (fun k t => mx_hw k (.constant (mx_on t.1) t.2.1 t.2.2)) mx_LC mx_LCp = true := by decide +kernel
theorem mx_LJ_ok : mx_zip (fun k t => mx_hw k (.constantLong (mx_on t.1) t.2.1 t.2.2)) mx_LJ mx_LJp = true := by decide +kernel
def mx_lkF (w ow q a b : Nat) : Bool := decide (mx_LF[w]? = some (ow, q, a, b))
def mx_lkM (w ow q y : Nat) : Bool := decide (mx_LM[w]? = some (ow, q, y))
def mx_lkC (w ow q : Nat) (x : Int32) : Bool := decide (mx_LC[w]? = some (ow, q, x))
def mx_lkJ (w ow q : Nat) (x : Int64) : Bool := decide (mx_LJ[w]? = some (ow, q, x))
theorem mx_lkC_of {w ow q : Nat} {x : Int32} (h : mx_lkC w ow q x = true) : Cond.constant (mx_on ow) q x ∈ lw_gd := by
  obtain ⟨k, hk⟩ := mx_zip_at mx_LC_ok _ (List.mem_of_getElem? (of_decide_eq_true h))
  exact mx_hw_of hk
theorem mx_lkJ_of {w ow q : Nat} {x : Int64} (h : mx_lkJ w ow q x = true) : Cond.constantLong (mx_on ow) q x ∈ lw_gd := by
  obtain ⟨k, hk⟩ := mx_zip_at mx_LJ_ok _ (List.mem_of_getElem? (of_decide_eq_true h))
  exact mx_hw_of hk
theorem mx_lkM_of {w ow q y : Nat} (h : mx_lkM w ow q y = true) : mx_wM (ow, q, y) ∈ lw_gd := by
  obtain ⟨k, hk⟩ := mx_zip_at mx_LM_ok _ (List.mem_of_getElem? (of_decide_eq_true h))
  exact mx_hw_of hk
theorem mx_lkF_of {w ow q a b : Nat} (h : mx_lkF w ow q a b = true) : mx_wF (ow, q, a, b) ∈ lw_gd ∧ (a = 9 ∨ (((mx_cl a).2.1 b).1 = (mx_cl a).1 ∧ b < (mx_cl a).2.2)) := by
  obtain ⟨k, hk⟩ := mx_zip_at mx_LF_ok _ (List.mem_of_getElem? (of_decide_eq_true h))
  rw [Bool.and_eq_true] at hk
  refine ⟨mx_hw_of hk.1, ?_⟩
  have h2 := hk.2
  simp only [Bool.or_eq_true, Bool.and_eq_true, decide_eq_true_eq] at h2
  exact h2
theorem mx_wF_lt {ow q a b : Nat} (h : a ≠ 9) : mx_wF (ow, q, a, b) = .fieldLink (mx_on ow) q (mx_cl a).1 ((mx_cl a).2.1 b).2.1 ((mx_cl a).2.1 b).2.2.1 := if_neg h
def mx_lkN (w ow q y : Nat) : Bool := decide (mx_nwT[w]? = some (ow, q, y))

def mx_okl (v w ow q a : Nat) : Bool := match v with
  | 0 => mx_lkM w ow q a
  | 1 => mx_lkM w ow q a
  | _ => mx_lkN w ow q a
def mx_okc (ow : Nat) (cc : ByteArray) (pc q v w a b rc : Nat) : Bool := decide (a < 191) && (mx_okl v w ow q a && (match mx_nth mx_pT a with
  | 0 => mx_dq cc pc (.invokevirtual q) 3 && (decide ((parseMethodDescriptor (mx_mN a).desc).map (fun d => d.parameters.length + 1) = some b) && (match rc with
    | 0 => false
    | 10 => decide ((mx_mN a).cls = "java/lang/String")
    | c + 1 => decide (c < 9) && decide ((mx_cl c).1 = (mx_mN a).cls)))
  | _ => mx_dq cc pc (.invokestatic q) 3 && decide ((parseMethodDescriptor (mx_mN a).desc).map (fun d => d.parameters.length) = some b)))
def mx_ok (ow : Nat) (cc : ByteArray) (nL : Nat) (ret : Option FieldType) (tg : Nat → Nat) (pc npc q v w : Nat) (i : mx_Op) : Bool :=
  let im := i.2.1
  let jm := i.2.2.1
  let a := i.2.2.2.1
  let b := i.2.2.2.2.1
  let ts := i.2.2.2.2.2
  match i.1 with
  | 0 => match v with | 0 => decide (a < 4) && (mx_dq cc pc (.iload_n (Fin.ofNat 4 a)) 1 && decide (npc = pc + 1)) | _ => mx_dq cc pc (.iload a) 2 && decide (npc = pc + 2)
  | 1 => match v with | 0 => decide (a < 4) && (mx_dq cc pc (.lload_n (Fin.ofNat 4 a)) 1 && decide (npc = pc + 1)) | _ => mx_dq cc pc (.lload a) 2 && decide (npc = pc + 2)
  | 2 => match v with | 0 => decide (a < 4) && (mx_dq cc pc (.aload_n (Fin.ofNat 4 a)) 1 && decide (npc = pc + 1)) | _ => mx_dq cc pc (.aload a) 2 && decide (npc = pc + 2)
  | 3 => decide (a < nL) && (match v with | 0 => decide (a < 4) && (mx_dq cc pc (.istore_n (Fin.ofNat 4 a)) 1 && decide (npc = pc + 1)) | _ => mx_dq cc pc (.istore a) 2 && decide (npc = pc + 2))
  | 4 => decide (a + 1 < nL) && (match v with | 0 => decide (a < 4) && (mx_dq cc pc (.lstore_n (Fin.ofNat 4 a)) 1 && decide (npc = pc + 1)) | _ => mx_dq cc pc (.lstore a) 2 && decide (npc = pc + 2))
  | 5 => decide (a < nL) && (match v with | 0 => decide (a < 4) && (mx_dq cc pc (.astore_n (Fin.ofNat 4 a)) 1 && decide (npc = pc + 1)) | _ => mx_dq cc pc (.astore a) 2 && decide (npc = pc + 2))
  | 6 => match v with | 0 => mx_dq cc pc (.iconst im.toInt) 1 && decide (npc = pc + 1) | 1 => mx_dq cc pc (.bipush im.toInt) 2 && (decide ((Int8.ofInt im.toInt).toInt32 = im) && decide (npc = pc + 2)) | 2 => mx_dq cc pc (.sipush im.toInt) 3 && (decide ((Int16.ofInt im.toInt).toInt32 = im) && decide (npc = pc + 3)) | 3 => mx_dq cc pc (.ldc q) 2 && (mx_lkC w ow q im && decide (npc = pc + 2)) | _ => mx_dq cc pc (.ldc_w q) 3 && (mx_lkC w ow q im && decide (npc = pc + 3))
  | 7 => match v with | 0 => mx_dq cc pc (.lconst (Fin.ofNat 2 a)) 1 && (decide (Int64.ofNat (Fin.ofNat 2 a : Fin 2).val = jm) && decide (npc = pc + 1)) | _ => mx_dq cc pc (.ldc2_w q) 3 && (mx_lkJ w ow q jm && decide (npc = pc + 3))
  | 8 => mx_dq cc pc (mx_binI b) 1 && decide (npc = pc + 1)
  | 9 => mx_dq cc pc (mx_divI b) 1 && decide (npc = pc + 1)
  | 10 => mx_dq cc pc (mx_unI b) 1 && decide (npc = pc + 1)
  | 11 => mx_dq cc pc (mx_lbI b) 1 && decide (npc = pc + 1)
  | 12 => mx_dq cc pc (mx_lshI b) 1 && decide (npc = pc + 1)
  | 13 => mx_dq cc pc .lcmp 1 && decide (npc = pc + 1)
  | 14 => mx_dq cc pc .i2l 1 && decide (npc = pc + 1)
  | 15 => mx_dq cc pc .l2i 1 && decide (npc = pc + 1)
  | 16 => decide (a < nL) && (mx_dq cc pc (.iinc a im.toInt) 3 && decide (npc = pc + 3))
  | 17 => mx_dq cc pc .dup 1 && decide (npc = pc + 1)
  | 18 => mx_dq cc pc .dup2 1 && decide (npc = pc + 1)
  | 19 => mx_dq cc pc (.ifCond (mx_cn b) ((tg a : Int) - pc)) 3 && decide (npc = pc + 3)
  | 20 => mx_dq cc pc (.if_icmp (mx_cn b) ((tg a : Int) - pc)) 3 && decide (npc = pc + 3)
  | 21 => mx_dq cc pc (.goto ((tg a : Int) - pc)) 3
  | 22 => match v with | 0 => mx_dq cc pc (.tableswitch ((tg a : Int) - pc) (b : Int) (((b + ts.length : Nat) : Int) - 1) (ts.map (fun t => (tg t : Int) - pc)).toArray) q && decide (b + ts.length < 2 ^ 31) | _ => match ts with | [t0, t1] => mx_dq cc pc (.lookupswitch ((tg a : Int) - pc) #[(0, (tg t0 : Int) - pc), (1, (tg t1 : Int) - pc)]) q && decide (b = 0) | _ => false
  | 23 => mx_dq cc pc (.getfield q) 3 && (mx_lkF w ow q a b && decide (npc = pc + 3))
  | 24 => mx_dq cc pc (.putfield q) 3 && (mx_lkF w ow q a b && decide (npc = pc + 3))
  | 25 => mx_dq cc pc .iaload 1 && decide (npc = pc + 1)
  | 26 => mx_dq cc pc .iastore 1 && decide (npc = pc + 1)
  | 27 => mx_dq cc pc .baload 1 && decide (npc = pc + 1) && decide (b < 2)
  | 28 => mx_dq cc pc .bastore 1 && decide (npc = pc + 1) && decide (b < 2)
  | 29 => mx_dq cc pc .aaload 1 && decide (npc = pc + 1) && decide (b < 2)
  | 30 => mx_dq cc pc .arraylength 1 && decide (npc = pc + 1)
  | 31 => mx_okc ow cc pc q v w a b (mx_nth ts 1) && (decide (mx_nth ts 2 = mx_nl a) && decide (npc = pc + 3))
  | 32 => mx_dq cc pc .ireturn 1 && decide (ret = some (match b with | 0 => .int | 1 => .boolean | 2 => .char | _ => .byte))
  | 33 => mx_dq cc pc .lreturn 1 && decide (ret = some .long)
  | 34 => mx_dq cc pc .return_ 1 && decide (ret = none)
  | 35 => mx_dq cc pc (.ldc q) 2 && (decide (ow = 4) && (decide (a < 9) && (decide (q = mx_nth mx_sPT a) && decide (npc = pc + 2))))
  | 36 => mx_dq cc pc (.invokestatic q) 3 && (mx_lkM w ow q 1000 && decide (npc = pc + 3))
  | 37 => mx_dq cc pc (.getstatic q) 3 && (mx_lkF w ow q 9 0 && decide (npc = pc + 3))
  | 38 => mx_dq cc pc (.getstatic q) 3 && (mx_lkF w ow q 9 1 && decide (npc = pc + 3))
  | 39 => mx_dq cc pc (.getfield q) 3 && ((match b with | 0 => mx_lkF w ow q 9 2 | _ => mx_lkF w ow q 9 3) && decide (npc = pc + 3))
  | 40 => mx_dq cc pc .arraylength 1 && decide (npc = pc + 1)
  | 41 => mx_dq cc pc .baload 1 && decide (npc = pc + 1)
  | 42 => mx_dq cc pc .pop 1 && decide (npc = pc + 1)
  | 43 => mx_dq cc pc .iaload 1 && decide (npc = pc + 1)
  | 44 => mx_dq cc pc .arraylength 1 && decide (npc = pc + 1)
  | 45 => decide (tg (a + 1) = pc)
  | 46 => mx_dq cc pc (.invokestatic q) 3 && ((match b with | 0 => mx_lkM w ow q 1001 | _ => mx_lkM w ow q 1002) && decide (npc = pc + 3))
  | 47 => mx_dq cc pc (.invokestatic q) 3 && (mx_lkM w ow q 1003 && decide (npc = pc + 3))
  | _ => true
section Oks
variable (ow : Nat) (cc : ByteArray) (nL : Nat) (ret : Option FieldType) (tg : Nat → Nat) (pc npc q v w : Nat) (im : Int32) (jm : Int64) (a b : Nat) (ts : List Nat)
theorem mx_o0 : mx_ok ow cc nL ret tg pc npc q v w (0, im, jm, a, b, ts) = (match v with | 0 => decide (a < 4) && (mx_dq cc pc (.iload_n (Fin.ofNat 4 a)) 1 && decide (npc = pc + 1)) | _ => mx_dq cc pc (.iload a) 2 && decide (npc = pc + 2)) := rfl
theorem mx_o1 : mx_ok ow cc nL ret tg pc npc q v w (1, im, jm, a, b, ts) = (match v with | 0 => decide (a < 4) && (mx_dq cc pc (.lload_n (Fin.ofNat 4 a)) 1 && decide (npc = pc + 1)) | _ => mx_dq cc pc (.lload a) 2 && decide (npc = pc + 2)) := rfl
theorem mx_o2 : mx_ok ow cc nL ret tg pc npc q v w (2, im, jm, a, b, ts) = (match v with | 0 => decide (a < 4) && (mx_dq cc pc (.aload_n (Fin.ofNat 4 a)) 1 && decide (npc = pc + 1)) | _ => mx_dq cc pc (.aload a) 2 && decide (npc = pc + 2)) := rfl
theorem mx_o3 : mx_ok ow cc nL ret tg pc npc q v w (3, im, jm, a, b, ts) = (decide (a < nL) && (match v with | 0 => decide (a < 4) && (mx_dq cc pc (.istore_n (Fin.ofNat 4 a)) 1 && decide (npc = pc + 1)) | _ => mx_dq cc pc (.istore a) 2 && decide (npc = pc + 2))) := rfl
theorem mx_o4 : mx_ok ow cc nL ret tg pc npc q v w (4, im, jm, a, b, ts) = (decide (a + 1 < nL) && (match v with | 0 => decide (a < 4) && (mx_dq cc pc (.lstore_n (Fin.ofNat 4 a)) 1 && decide (npc = pc + 1)) | _ => mx_dq cc pc (.lstore a) 2 && decide (npc = pc + 2))) := rfl
theorem mx_o5 : mx_ok ow cc nL ret tg pc npc q v w (5, im, jm, a, b, ts) = (decide (a < nL) && (match v with | 0 => decide (a < 4) && (mx_dq cc pc (.astore_n (Fin.ofNat 4 a)) 1 && decide (npc = pc + 1)) | _ => mx_dq cc pc (.astore a) 2 && decide (npc = pc + 2))) := rfl
theorem mx_o6 : mx_ok ow cc nL ret tg pc npc q v w (6, im, jm, a, b, ts) = (match v with | 0 => mx_dq cc pc (.iconst im.toInt) 1 && decide (npc = pc + 1) | 1 => mx_dq cc pc (.bipush im.toInt) 2 && (decide ((Int8.ofInt im.toInt).toInt32 = im) && decide (npc = pc + 2)) | 2 => mx_dq cc pc (.sipush im.toInt) 3 && (decide ((Int16.ofInt im.toInt).toInt32 = im) && decide (npc = pc + 3)) | 3 => mx_dq cc pc (.ldc q) 2 && (mx_lkC w ow q im && decide (npc = pc + 2)) | _ => mx_dq cc pc (.ldc_w q) 3 && (mx_lkC w ow q im && decide (npc = pc + 3))) := rfl
theorem mx_o7 : mx_ok ow cc nL ret tg pc npc q v w (7, im, jm, a, b, ts) = (match v with | 0 => mx_dq cc pc (.lconst (Fin.ofNat 2 a)) 1 && (decide (Int64.ofNat (Fin.ofNat 2 a : Fin 2).val = jm) && decide (npc = pc + 1)) | _ => mx_dq cc pc (.ldc2_w q) 3 && (mx_lkJ w ow q jm && decide (npc = pc + 3))) := rfl
theorem mx_o8 : mx_ok ow cc nL ret tg pc npc q v w (8, im, jm, a, b, ts) = (mx_dq cc pc (mx_binI b) 1 && decide (npc = pc + 1)) := rfl
theorem mx_o9 : mx_ok ow cc nL ret tg pc npc q v w (9, im, jm, a, b, ts) = (mx_dq cc pc (mx_divI b) 1 && decide (npc = pc + 1)) := rfl
theorem mx_o10 : mx_ok ow cc nL ret tg pc npc q v w (10, im, jm, a, b, ts) = (mx_dq cc pc (mx_unI b) 1 && decide (npc = pc + 1)) := rfl
theorem mx_o11 : mx_ok ow cc nL ret tg pc npc q v w (11, im, jm, a, b, ts) = (mx_dq cc pc (mx_lbI b) 1 && decide (npc = pc + 1)) := rfl
theorem mx_o12 : mx_ok ow cc nL ret tg pc npc q v w (12, im, jm, a, b, ts) = (mx_dq cc pc (mx_lshI b) 1 && decide (npc = pc + 1)) := rfl
theorem mx_o13 : mx_ok ow cc nL ret tg pc npc q v w (13, im, jm, a, b, ts) = (mx_dq cc pc .lcmp 1 && decide (npc = pc + 1)) := rfl
theorem mx_o14 : mx_ok ow cc nL ret tg pc npc q v w (14, im, jm, a, b, ts) = (mx_dq cc pc .i2l 1 && decide (npc = pc + 1)) := rfl
theorem mx_o15 : mx_ok ow cc nL ret tg pc npc q v w (15, im, jm, a, b, ts) = (mx_dq cc pc .l2i 1 && decide (npc = pc + 1)) := rfl
theorem mx_o16 : mx_ok ow cc nL ret tg pc npc q v w (16, im, jm, a, b, ts) = (decide (a < nL) && (mx_dq cc pc (.iinc a im.toInt) 3 && decide (npc = pc + 3))) := rfl
theorem mx_o17 : mx_ok ow cc nL ret tg pc npc q v w (17, im, jm, a, b, ts) = (mx_dq cc pc .dup 1 && decide (npc = pc + 1)) := rfl
theorem mx_o18 : mx_ok ow cc nL ret tg pc npc q v w (18, im, jm, a, b, ts) = (mx_dq cc pc .dup2 1 && decide (npc = pc + 1)) := rfl
theorem mx_o19 : mx_ok ow cc nL ret tg pc npc q v w (19, im, jm, a, b, ts) = (mx_dq cc pc (.ifCond (mx_cn b) ((tg a : Int) - pc)) 3 && decide (npc = pc + 3)) := rfl
theorem mx_o20 : mx_ok ow cc nL ret tg pc npc q v w (20, im, jm, a, b, ts) = (mx_dq cc pc (.if_icmp (mx_cn b) ((tg a : Int) - pc)) 3 && decide (npc = pc + 3)) := rfl
theorem mx_o21 : mx_ok ow cc nL ret tg pc npc q v w (21, im, jm, a, b, ts) = (mx_dq cc pc (.goto ((tg a : Int) - pc)) 3) := rfl
theorem mx_o22 : mx_ok ow cc nL ret tg pc npc q v w (22, im, jm, a, b, ts) = (match v with | 0 => mx_dq cc pc (.tableswitch ((tg a : Int) - pc) (b : Int) (((b + ts.length : Nat) : Int) - 1) (ts.map (fun t => (tg t : Int) - pc)).toArray) q && decide (b + ts.length < 2 ^ 31) | _ => match ts with | [t0, t1] => mx_dq cc pc (.lookupswitch ((tg a : Int) - pc) #[(0, (tg t0 : Int) - pc), (1, (tg t1 : Int) - pc)]) q && decide (b = 0) | _ => false) := rfl
theorem mx_o23 : mx_ok ow cc nL ret tg pc npc q v w (23, im, jm, a, b, ts) = (mx_dq cc pc (.getfield q) 3 && (mx_lkF w ow q a b && decide (npc = pc + 3))) := rfl
theorem mx_o24 : mx_ok ow cc nL ret tg pc npc q v w (24, im, jm, a, b, ts) = (mx_dq cc pc (.putfield q) 3 && (mx_lkF w ow q a b && decide (npc = pc + 3))) := rfl
theorem mx_o25 : mx_ok ow cc nL ret tg pc npc q v w (25, im, jm, a, b, ts) = (mx_dq cc pc .iaload 1 && decide (npc = pc + 1)) := rfl
theorem mx_o26 : mx_ok ow cc nL ret tg pc npc q v w (26, im, jm, a, b, ts) = (mx_dq cc pc .iastore 1 && decide (npc = pc + 1)) := rfl
theorem mx_o27 : mx_ok ow cc nL ret tg pc npc q v w (27, im, jm, a, b, ts) = (mx_dq cc pc .baload 1 && decide (npc = pc + 1) && decide (b < 2)) := rfl
theorem mx_o28 : mx_ok ow cc nL ret tg pc npc q v w (28, im, jm, a, b, ts) = (mx_dq cc pc .bastore 1 && decide (npc = pc + 1) && decide (b < 2)) := rfl
theorem mx_o29 : mx_ok ow cc nL ret tg pc npc q v w (29, im, jm, a, b, ts) = (mx_dq cc pc .aaload 1 && decide (npc = pc + 1) && decide (b < 2)) := rfl
theorem mx_o30 : mx_ok ow cc nL ret tg pc npc q v w (30, im, jm, a, b, ts) = (mx_dq cc pc .arraylength 1 && decide (npc = pc + 1)) := rfl
theorem mx_o31 : mx_ok ow cc nL ret tg pc npc q v w (31, im, jm, a, b, ts) = (mx_okc ow cc pc q v w a b (mx_nth ts 1) && (decide (mx_nth ts 2 = mx_nl a) && decide (npc = pc + 3))) := rfl
theorem mx_o32 : mx_ok ow cc nL ret tg pc npc q v w (32, im, jm, a, b, ts) = (mx_dq cc pc .ireturn 1 && decide (ret = some (match b with | 0 => .int | 1 => .boolean | 2 => .char | _ => .byte))) := rfl
theorem mx_o33 : mx_ok ow cc nL ret tg pc npc q v w (33, im, jm, a, b, ts) = (mx_dq cc pc .lreturn 1 && decide (ret = some .long)) := rfl
theorem mx_o34 : mx_ok ow cc nL ret tg pc npc q v w (34, im, jm, a, b, ts) = (mx_dq cc pc .return_ 1 && decide (ret = none)) := rfl
theorem mx_o35 : mx_ok ow cc nL ret tg pc npc q v w (35, im, jm, a, b, ts) = (mx_dq cc pc (.ldc q) 2 && (decide (ow = 4) && (decide (a < 9) && (decide (q = mx_nth mx_sPT a) && decide (npc = pc + 2))))) := rfl
theorem mx_o36 : mx_ok ow cc nL ret tg pc npc q v w (36, im, jm, a, b, ts) = (mx_dq cc pc (.invokestatic q) 3 && (mx_lkM w ow q 1000 && decide (npc = pc + 3))) := rfl
theorem mx_o37 : mx_ok ow cc nL ret tg pc npc q v w (37, im, jm, a, b, ts) = (mx_dq cc pc (.getstatic q) 3 && (mx_lkF w ow q 9 0 && decide (npc = pc + 3))) := rfl
theorem mx_o38 : mx_ok ow cc nL ret tg pc npc q v w (38, im, jm, a, b, ts) = (mx_dq cc pc (.getstatic q) 3 && (mx_lkF w ow q 9 1 && decide (npc = pc + 3))) := rfl
theorem mx_o39 : mx_ok ow cc nL ret tg pc npc q v w (39, im, jm, a, b, ts) = (mx_dq cc pc (.getfield q) 3 && ((match b with | 0 => mx_lkF w ow q 9 2 | _ => mx_lkF w ow q 9 3) && decide (npc = pc + 3))) := rfl
theorem mx_o40 : mx_ok ow cc nL ret tg pc npc q v w (40, im, jm, a, b, ts) = (mx_dq cc pc .arraylength 1 && decide (npc = pc + 1)) := rfl
theorem mx_o41 : mx_ok ow cc nL ret tg pc npc q v w (41, im, jm, a, b, ts) = (mx_dq cc pc .baload 1 && decide (npc = pc + 1)) := rfl
theorem mx_o42 : mx_ok ow cc nL ret tg pc npc q v w (42, im, jm, a, b, ts) = (mx_dq cc pc .pop 1 && decide (npc = pc + 1)) := rfl
theorem mx_o43 : mx_ok ow cc nL ret tg pc npc q v w (43, im, jm, a, b, ts) = (mx_dq cc pc .iaload 1 && decide (npc = pc + 1)) := rfl
theorem mx_o44 : mx_ok ow cc nL ret tg pc npc q v w (44, im, jm, a, b, ts) = (mx_dq cc pc .arraylength 1 && decide (npc = pc + 1)) := rfl
theorem mx_o45 : mx_ok ow cc nL ret tg pc npc q v w (45, im, jm, a, b, ts) = (decide (tg (a + 1) = pc)) := rfl
theorem mx_o46 : mx_ok ow cc nL ret tg pc npc q v w (46, im, jm, a, b, ts) = (mx_dq cc pc (.invokestatic q) 3 && ((match b with | 0 => mx_lkM w ow q 1001 | _ => mx_lkM w ow q 1002) && decide (npc = pc + 3))) := rfl
theorem mx_o47 : mx_ok ow cc nL ret tg pc npc q v w (47, im, jm, a, b, ts) = (mx_dq cc pc (.invokestatic q) 3 && (mx_lkM w ow q 1003 && decide (npc = pc + 3))) := rfl
end Oks
end
section
/-! ===== one step ===== -/
theorem mx_nfo {o a : Nat} (h : mx_cO o = a + 1) : mx_nf o = (mx_cl a).2.2 ∧ a < 9 := by
  obtain ⟨h1, h2⟩ := (mx_aT_c o (mx_cO_lt h)).2 (by omega)
  have e : mx_cO o - 1 = a := by omega
  rw [e] at h1 h2
  exact ⟨h2, h1⟩
theorem mx_up_v {σ : mx_S} {k o j : Nat} {x : Int32} : mx_up σ k o j x k o j = x := if_pos ⟨rfl, rfl, rfl⟩
theorem mx_small {x : Int32} {n : Nat} (h : Nat.ble x.toBitVec.toNat n = true) : ∃ k, k ≤ n ∧ x = nI k := by
  refine ⟨x.toBitVec.toNat, Nat.le_of_ble_eq_true h, ?_⟩
  apply Int32.toBitVec_inj.mp
  apply BitVec.eq_of_toNat_eq
  show _ = (BitVec.ofNat 32 x.toBitVec.toNat).toNat
  rw [BitVec.toNat_ofNat, Nat.mod_eq_of_lt x.toBitVec.isLt]
theorem mx_b01 {x : Int32} (h : Nat.ble x.toBitVec.toNat 1 = true) : x = 0 ∨ x = 1 := by
  obtain ⟨k, hk, e⟩ := mx_small h
  rcases (show k = 0 ∨ k = 1 by omega) with rfl | rfl
  · exact Or.inl e
  · exact Or.inr e
theorem mx_nbool {x : Int32} (h : Nat.ble x.toBitVec.toNat 1 = true) : narrow .boolean (.int x) = .int x ∧ fits .boolean (.int x) = true := by
  rcases mx_b01 h with rfl | rfl <;> exact ⟨rfl, rfl⟩
theorem mx_nchar {x : Int32} (h : Nat.ble x.toBitVec.toNat 65535 = true) : narrow .char (.int x) = .int x := by
  obtain ⟨k, hk, rfl⟩ := mx_small h
  exact (pk_charN (by omega)).1
theorem mx_nbyte {x : Int32} (h : Nat.ble x.toBitVec.toNat 127 = true) : narrow .byte (.int x) = .int x := by
  obtain ⟨k, hk, rfl⟩ := mx_small h
  have : ∀ k, k < 128 → narrow .byte (.int (nI k)) = .int (nI k) := by decide +kernel
  exact this k (by omega)
def mx_rt (cc : ByteArray) (pc : Nat) (ret : Option FieldType) (v : Option mx_V) : Prop := match v with
  | some (Sum.inl x) => decode cc pc = .ok (.ireturn, 1) ∧ ∃ ty, ret = some ty ∧ narrow ty (.int x) = .int x
  | some (Sum.inr (Sum.inl _)) => decode cc pc = .ok (.lreturn, 1) ∧ ret = some .long
  | some (Sum.inr (Sum.inr _)) => False
  | none => decode cc pc = .ok (.return_, 1) ∧ ret = none
theorem mx_acw : Cond.native arraycopyName ∈ lw_gd ∧ Cond.static arraycopyName ∈ lw_gd ∧ Cond.initialized "java/lang/System" ∈ lw_gd := ⟨mx_hw_of (k := 469) (by decide +kernel), mx_hw_of (k := 468) (by decide +kernel), mx_hw_of (k := 102) (by decide +kernel)⟩
theorem mx_take_drop (b : Nat) (stk : List mx_V) : stk = (stk.take b).reverse.reverse ++ stk.drop b := by rw [List.reverse_reverse, List.take_append_drop]
section St
variable {p : Program} {l : Launch} {e : Env} {R : Room} {s : State} {m : MethodId} {args : Array Value} {below : List Frame} {meth : Method} {c : Code} {cells slots : Nat} {Q : State → Prop} {cc : ByteArray} {nL : Nat} {g : mx_G} {L : Nat} {xs : Nat → Int32} {pc npc Y : Nat} {loc : mx_Loc} {stk : List mx_V} {σ : mx_S}
set_option maxHeartbeats 4000000 in
set_option maxRecDepth 10000 in
theorem sd_step {ow : Nat} (C : mx_Cx p R s m args c cells slots cc nL (mx_on ow) g L xs Y) {ret : Option FieldType} {tg : Nat → Nat} {q v w : Nat} {i : mx_Op} {KR : Option mx_V → mx_S → Prop} (hok : mx_ok ow cc nL ret tg pc npc q v w i = true)
    (hKR : ∀ (v0 : Option mx_V) (σ' : mx_S) (H : Heap) (ls : Array Slot) (locs : List Loc), KR v0 σ' → va_P g.2.1 vwCl (mx_ws g σ') H → va_S (mx_A g) s.heap H locs → mx_rt cc pc ret v0 → W p l e R s m args below meth c H locs cells slots Q (F0 m pc ls (v0.map (mx_rv g)).toList))
    (h : mx_step (fun lo st σ => mx_W p l e R s m args below meth c cells slots Q nL g L xs npc lo st σ) (fun t lo st σ => mx_W p l e R s m args below meth c cells slots Q nL g L xs (tg t) lo st σ) KR (fun y' _ as lo st σ => ∃ rr : mx_Rt, y' < Y ∧ mx_OK l y' as σ rr ∧ (∀ k j, rr.2 k mx_oX j = σ k mx_oX j) ∧ (∀ v, rr.1 = some v → mx_okV v) ∧ mx_W p l e R s m args below meth c cells slots Q nL g L xs npc lo (rr.1.toList ++ st) rr.2) (fun hh lo σ => mx_W p l e R s m args below meth c cells slots Q nL g L xs (tg (hh + 1)) lo [] σ) False i loc stk σ) : mx_W p l e R s m args below meth c cells slots Q nL g L xs pc loc stk σ := by
  intro H ls locs hP hS hv hs hlo hc
  obtain ⟨op, im, jm, a, b, ts⟩ := i
  rcases op with _ | _ | _ | _ | _ | _ | _ | _ | _ | _ | _ | _ | _ | _ | _ | _ | _ | _ | _ | _ | _ | _ | _ | _ | _ | _ | _ | _ | _ | _ | _ | _ | _ | _ | _ | _ | _ | _ | _ | _ | _ | _ | _ | _ | _ | _ | _ | _ | op
  · rw [mx_o0] at hok; rw [mx_s0] at h
    split at h
    · rename_i x hx0
      refine sd_iload C ?_ hx0 h H ls locs hP hS hv hs hlo hc
      revert hok
      split
      · intro hok
        simp only [Bool.and_eq_true, decide_eq_true_eq] at hok
        exact Or.inr ⟨hok.1, mx_dq_of hok.2.1, hok.2.2⟩
      · intro hok
        simp only [Bool.and_eq_true, decide_eq_true_eq] at hok
        exact Or.inl ⟨mx_dq_of hok.1, hok.2⟩
    · exact h.elim
  · rw [mx_o1] at hok; rw [mx_s1] at h
    split at h
    · rename_i x hx0
      refine sd_lload C ?_ hx0 h H ls locs hP hS hv hs hlo hc
      revert hok
      split
      · intro hok
        simp only [Bool.and_eq_true, decide_eq_true_eq] at hok
        exact Or.inr ⟨hok.1, mx_dq_of hok.2.1, hok.2.2⟩
      · intro hok
        simp only [Bool.and_eq_true, decide_eq_true_eq] at hok
        exact Or.inl ⟨mx_dq_of hok.1, hok.2⟩
    · exact h.elim
  · rw [mx_o2] at hok; rw [mx_s2] at h
    split at h
    · rename_i k o hx0
      split at h
      · rename_i hb
        refine sd_aload (q := (k, o)) C ?_ (fun z => by have z : o = mx_oQ := z; subst z; exact absurd hb (by decide)) hx0 h H ls locs hP hS hv hs hlo hc
        revert hok
        split
        · intro hok
          simp only [Bool.and_eq_true, decide_eq_true_eq] at hok
          exact Or.inr ⟨hok.1, mx_dq_of hok.2.1, hok.2.2⟩
        · intro hok
          simp only [Bool.and_eq_true, decide_eq_true_eq] at hok
          exact Or.inl ⟨mx_dq_of hok.1, hok.2⟩
      · exact h.elim
    · exact h.elim
  · rw [mx_o3] at hok; rw [mx_s3] at h
    split at h
    · rw [Bool.and_eq_true] at hok
      obtain ⟨ha, hok⟩ := hok
      refine sd_istore C (of_decide_eq_true ha) ?_ h H ls locs hP hS hv hs hlo hc
      revert hok
      split
      · intro hok
        simp only [Bool.and_eq_true, decide_eq_true_eq] at hok
        exact Or.inr ⟨hok.1, mx_dq_of hok.2.1, hok.2.2⟩
      · intro hok
        simp only [Bool.and_eq_true, decide_eq_true_eq] at hok
        exact Or.inl ⟨mx_dq_of hok.1, hok.2⟩
    · exact h.elim
  · rw [mx_o4] at hok; rw [mx_s4] at h
    split at h
    · rw [Bool.and_eq_true] at hok
      obtain ⟨ha, hok⟩ := hok
      refine sd_lstore C (of_decide_eq_true ha) ?_ h H ls locs hP hS hv hs hlo hc
      revert hok
      split
      · intro hok
        simp only [Bool.and_eq_true, decide_eq_true_eq] at hok
        exact Or.inr ⟨hok.1, mx_dq_of hok.2.1, hok.2.2⟩
      · intro hok
        simp only [Bool.and_eq_true, decide_eq_true_eq] at hok
        exact Or.inl ⟨mx_dq_of hok.1, hok.2⟩
    · exact h.elim
  · rw [mx_o5] at hok; rw [mx_s5] at h
    split at h
    · rename_i k o r
      split at h
      · rename_i hb
        rw [Bool.and_eq_true] at hok
        obtain ⟨ha, hok⟩ := hok
        refine sd_astore (q := (k, o)) C (of_decide_eq_true ha) ?_ (fun z => by have z : o = mx_oQ := z; subst z; exact absurd hb (by decide)) h H ls locs hP hS hv hs hlo hc
        revert hok
        split
        · intro hok
          simp only [Bool.and_eq_true, decide_eq_true_eq] at hok
          exact Or.inr ⟨hok.1, mx_dq_of hok.2.1, hok.2.2⟩
        · intro hok
          simp only [Bool.and_eq_true, decide_eq_true_eq] at hok
          exact Or.inl ⟨mx_dq_of hok.1, hok.2⟩
      · exact h.elim
    · exact h.elim
  · rw [mx_o6] at hok; rw [mx_s6] at h
    refine sd_const (x0 := q) C ?_ h H ls locs hP hS hv hs hlo hc
    revert hok
    split
    · intro hok
      simp only [Bool.and_eq_true, decide_eq_true_eq] at hok
      exact Or.inl ⟨mx_dq_of hok.1, hok.2⟩
    · intro hok
      simp only [Bool.and_eq_true, decide_eq_true_eq] at hok
      exact Or.inr (Or.inl ⟨mx_dq_of hok.1, hok.2.1, hok.2.2⟩)
    · intro hok
      simp only [Bool.and_eq_true, decide_eq_true_eq] at hok
      exact Or.inr (Or.inr (Or.inl ⟨mx_dq_of hok.1, hok.2.1, hok.2.2⟩))
    · intro hok
      simp only [Bool.and_eq_true, decide_eq_true_eq] at hok
      exact Or.inr (Or.inr (Or.inr (Or.inl ⟨mx_dq_of hok.1, mx_lkC_of hok.2.1, hok.2.2⟩)))
    · intro hok
      simp only [Bool.and_eq_true, decide_eq_true_eq] at hok
      exact Or.inr (Or.inr (Or.inr (Or.inr ⟨mx_dq_of hok.1, mx_lkC_of hok.2.1, hok.2.2⟩)))
  · rw [mx_o7] at hok; rw [mx_s7] at h
    refine sd_lconst (a := a) (x0 := q) C ?_ h H ls locs hP hS hv hs hlo hc
    revert hok
    split
    · intro hok
      simp only [Bool.and_eq_true, decide_eq_true_eq] at hok
      exact Or.inl ⟨mx_dq_of hok.1, hok.2.1, hok.2.2⟩
    · intro hok
      simp only [Bool.and_eq_true, decide_eq_true_eq] at hok
      exact Or.inr ⟨mx_dq_of hok.1, mx_lkJ_of hok.2.1, hok.2.2⟩
  · rw [mx_o8] at hok; rw [mx_s8] at h
    simp only [Bool.and_eq_true, decide_eq_true_eq] at hok
    obtain ⟨hd, rfl⟩ := hok
    split at h
    · exact sd_bin C (mx_dq_of hd) h H ls locs hP hS hv hs hlo hc
    · exact h.elim
  · rw [mx_o9] at hok; rw [mx_s9] at h
    simp only [Bool.and_eq_true, decide_eq_true_eq] at hok
    obtain ⟨hd, rfl⟩ := hok
    split at h
    · exact sd_div C (mx_dq_of hd) h H ls locs hP hS hv hs hlo hc
    · exact h.elim
  · rw [mx_o10] at hok; rw [mx_s10] at h
    simp only [Bool.and_eq_true, decide_eq_true_eq] at hok
    obtain ⟨hd, rfl⟩ := hok
    split at h
    · exact sd_un C (mx_dq_of hd) h H ls locs hP hS hv hs hlo hc
    · exact h.elim
  · rw [mx_o11] at hok; rw [mx_s11] at h
    simp only [Bool.and_eq_true, decide_eq_true_eq] at hok
    obtain ⟨hd, rfl⟩ := hok
    split at h
    · exact sd_lb C (mx_dq_of hd) h H ls locs hP hS hv hs hlo hc
    · exact h.elim
  · rw [mx_o12] at hok; rw [mx_s12] at h
    simp only [Bool.and_eq_true, decide_eq_true_eq] at hok
    obtain ⟨hd, rfl⟩ := hok
    split at h
    · exact sd_lsh C (mx_dq_of hd) h H ls locs hP hS hv hs hlo hc
    · exact h.elim
  · rw [mx_o13] at hok; rw [mx_s13] at h
    simp only [Bool.and_eq_true, decide_eq_true_eq] at hok
    obtain ⟨hd, rfl⟩ := hok
    split at h
    · exact sd_lcmp C (mx_dq_of hd) h H ls locs hP hS hv hs hlo hc
    · exact h.elim
  · rw [mx_o14] at hok; rw [mx_s14] at h
    simp only [Bool.and_eq_true, decide_eq_true_eq] at hok
    obtain ⟨hd, rfl⟩ := hok
    split at h
    · exact sd_i2l C (mx_dq_of hd) h H ls locs hP hS hv hs hlo hc
    · exact h.elim
  · rw [mx_o15] at hok; rw [mx_s15] at h
    simp only [Bool.and_eq_true, decide_eq_true_eq] at hok
    obtain ⟨hd, rfl⟩ := hok
    split at h
    · exact sd_l2i C (mx_dq_of hd) h H ls locs hP hS hv hs hlo hc
    · exact h.elim
  · rw [mx_o16] at hok; rw [mx_s16] at h
    simp only [Bool.and_eq_true, decide_eq_true_eq] at hok
    obtain ⟨ha, hd, rfl⟩ := hok
    split at h
    · rename_i x hx0
      exact sd_iinc C ha (mx_dq_of hd) hx0 h H ls locs hP hS hv hs hlo hc
    · exact h.elim
  · rw [mx_o17] at hok; rw [mx_s17] at h
    simp only [Bool.and_eq_true, decide_eq_true_eq] at hok
    obtain ⟨hd, rfl⟩ := hok
    split at h
    · exact sd_dup (v := Sum.inl _) C (fun z => z) (mx_dq_of hd) h H ls locs hP hS hv hs hlo hc
    · exact sd_dup (v := Sum.inr (Sum.inr _)) C (fun z => z) (mx_dq_of hd) h H ls locs hP hS hv hs hlo hc
    · exact h.elim
  · rw [mx_o18] at hok; rw [mx_s18] at h
    simp only [Bool.and_eq_true, decide_eq_true_eq] at hok
    obtain ⟨hd, rfl⟩ := hok
    split at h
    · exact sd_dup2 (v := Sum.inl _) (v' := Sum.inr (Sum.inr _)) C (fun z => z) (fun z => z) (mx_dq_of hd) h H ls locs hP hS hv hs hlo hc
    · exact h.elim
  · rw [mx_o19] at hok; rw [mx_s19] at h
    simp only [Bool.and_eq_true, decide_eq_true_eq] at hok
    obtain ⟨hd, rfl⟩ := hok
    split at h
    · exact sd_ifc C (mx_dq_of hd) h H ls locs hP hS hv hs hlo hc
    · exact h.elim
  · rw [mx_o20] at hok; rw [mx_s20] at h
    simp only [Bool.and_eq_true, decide_eq_true_eq] at hok
    obtain ⟨hd, rfl⟩ := hok
    split at h
    · exact sd_icmp C (mx_dq_of hd) h H ls locs hP hS hv hs hlo hc
    · exact h.elim
  · rw [mx_o21] at hok; rw [mx_s21] at h
    exact sd_goto C (mx_dq_of hok) h H ls locs hP hS hv hs hlo hc
  · rw [mx_o22] at hok; rw [mx_s22] at h
    split at h
    · rename_i x r
      rw [mx_sw_map x (fun t => mx_W p l e R s m args below meth c cells slots Q nL g L xs (tg t) loc r σ) a b ts] at h
      revert hok
      split
      · intro hok
        simp only [Bool.and_eq_true, decide_eq_true_eq] at hok
        exact sd_sw C (mx_dq_of hok.1) hok.2 h H ls locs hP hS hv hs hlo hc
      · intro hok
        split at hok
        · simp only [Bool.and_eq_true, decide_eq_true_eq] at hok
          obtain ⟨hd, rfl⟩ := hok
          exact sd_lsw C (mx_dq_of hd) h H ls locs hP hS hv hs hlo hc
        · cases hok
    · exact h.elim
  · rw [mx_o23] at hok; rw [mx_s23] at h
    simp only [Bool.and_eq_true, decide_eq_true_eq] at hok
    obtain ⟨hd, hlk, rfl⟩ := hok
    obtain ⟨hw, hT9⟩ := mx_lkF_of hlk
    unfold mx_getf at h
    split at h
    · rename_i k o r
      split at h
      · rename_i hbq
        have ho : mx_cO o = a + 1 := Nat.eq_of_beq_eq_true hbq
        obtain ⟨en, ha9⟩ := mx_nfo ho
        obtain ⟨hT, hb9⟩ := hT9.resolve_left (by omega)
        rw [mx_wF_lt (by omega)] at hw
        have hN : b < mx_nf o := by rw [en]; exact hb9
        have hk : k < mx_kM o := mx_okV_cell (hs _ List.mem_cons_self) (mx_cO_lt ho)
        split at h
        · rename_i hf
          have hp := mx_pt_ok hk hN (Or.inl hf)
          exact sd_getf (v := Sum.inr (Sum.inr ((mx_pt k o b).1, (mx_pt k o b).2))) C hN (mx_dq_of hd) hw hT ho hk (Or.inl hp) (by unfold mx_fv; rw [hf, mx_rv_ref hp]; rfl) h H ls locs hP hS hv hs hlo hc
        · rename_i hf
          have hp := mx_pt_ok hk hN (Or.inr hf)
          by_cases hz : σ k o b = 0
          · exact (show False by simpa [hz] using h).elim
          · refine sd_getf (v := Sum.inr (Sum.inr ((mx_pt k o b).1, (mx_pt k o b).2))) C hN (mx_dq_of hd) hw hT ho hk (Or.inl hp) (by unfold mx_fv; rw [hf]; show (if σ k o b = 0 then _ else _) = _; rw [if_neg hz, mx_rv_ref hp]) ?_ H ls locs hP hS hv hs hlo hc
            have h2 : (if σ k o b = 0 then False else mx_W p l e R s m args below meth c cells slots Q nL g L xs (pc + 3) loc (Sum.inr (Sum.inr ((mx_pt k o b).1, (mx_pt k o b).2)) :: r) σ) := h
            rw [if_neg hz] at h2
            exact h2
        · rename_i h2 h3
          refine sd_getf (v := Sum.inl (σ k o b)) C hN (mx_dq_of hd) hw hT ho hk trivial ?_ h H ls locs hP hS hv hs hlo hc
          unfold mx_fv
          split
          · rename_i z; exact absurd z h2
          · rename_i z; exact absurd z h3
          · rfl
      · exact h.elim
    · exact h.elim
  · rw [mx_o24] at hok; rw [mx_s24] at h
    simp only [Bool.and_eq_true, decide_eq_true_eq] at hok
    obtain ⟨hd, hlk, rfl⟩ := hok
    obtain ⟨hw, hT9⟩ := mx_lkF_of hlk
    unfold mx_putf at h
    split at h
    · rename_i x k o r
      split at h
      · rename_i hbq
        have ho : mx_cO o = a + 1 := Nat.eq_of_beq_eq_true hbq
        obtain ⟨en, ha9⟩ := mx_nfo ho
        obtain ⟨hT, hb9⟩ := hT9.resolve_left (by omega)
        rw [mx_wF_lt (by omega)] at hw
        have hN : b < mx_nf o := by rw [en]; exact hb9
        have ho5 := mx_cO_lt ho
        have ea : mx_cO o - 1 = a := by omega
        have hk : k < mx_kM o := mx_okV_cell (hs _ (List.mem_cons_of_mem _ List.mem_cons_self)) ho5
        split at h
        · rename_i hf
          have ety := mx_fk_0 o ho5 (by omega) b hN hf
          rw [ea] at ety
          exact sd_putf (v := Sum.inl x) (z := x) C hN (mx_dq_of hd) hw hT ho hk (by omega) (by rw [ety]; rfl) (by rw [ety]; rfl) (by unfold mx_fv; rw [hf, mx_up_v]; rfl) h H ls locs hP hS hv hs hlo hc
        · rename_i hf
          have ety := mx_fk_1 o ho5 (by omega) b hN hf
          rw [ea] at ety
          unfold mx_z at h
          split at h
          · rename_i hz
            have h2 := mx_nbool hz
            exact sd_putf (v := Sum.inl x) (z := x) C hN (mx_dq_of hd) hw hT ho hk (by omega) (by rw [ety]; exact h2.1) (by rw [ety]; exact h2.2) (by unfold mx_fv; rw [hf, mx_up_v]; rfl) h H ls locs hP hS hv hs hlo hc
          · exact h.elim
        · exact h.elim
      · exact h.elim
    · rename_i k' o' k o r
      split at h
      · rename_i hbq
        have ho : mx_cO o = a + 1 := Nat.eq_of_beq_eq_true hbq
        obtain ⟨en, ha9⟩ := mx_nfo ho
        obtain ⟨hT, hb9⟩ := hT9.resolve_left (by omega)
        rw [mx_wF_lt (by omega)] at hw
        have hN : b < mx_nf o := by rw [en]; exact hb9
        have ho5 := mx_cO_lt ho
        have ea : mx_cO o - 1 = a := by omega
        have hk : k < mx_kM o := mx_okV_cell (hs _ (List.mem_cons_of_mem _ List.mem_cons_self)) ho5
        split at h
        · rename_i hf
          have ety := mx_fk_3 o ho5 (by omega) b hN hf
          rw [ea] at ety
          have hp := mx_pt_ok hk hN (Or.inr hf)
          split at h
          · rename_i h1 h2
            have e1 : (mx_pt k o b).1 = k' := Nat.eq_of_beq_eq_true h1
            have e2 : (mx_pt k o b).2 = o' := Nat.eq_of_beq_eq_true h2
            have er : mx_rv g (Sum.inr (Sum.inr (k', o'))) = .ref (g.1 k' o') := mx_rv_ref (by rw [← e1, ← e2]; exact hp)
            exact sd_putf (v := Sum.inr (Sum.inr (k', o'))) (z := 1) C hN (mx_dq_of hd) hw hT ho hk (by omega) (by rw [ety, er]; rfl) (by rw [ety, er]; rfl) (by unfold mx_fv; rw [hf, er]; show (if mx_up σ k o b 1 k o b = 0 then _ else _) = _; rw [mx_up_v, if_neg (by decide), e1, e2]) h H ls locs hP hS hv hs hlo hc
          · exact h.elim
        · exact h.elim
      · exact h.elim
    · exact h.elim
  · rw [mx_o25] at hok; rw [mx_s25] at h
    simp only [Bool.and_eq_true, decide_eq_true_eq] at hok
    obtain ⟨hd, rfl⟩ := hok
    split at h
    · rename_i i k o r
      split at h
      · rename_i hbq
        have ht := Nat.eq_of_beq_eq_true hbq
        have hk : k < mx_kM o := mx_okV_cell (hs _ (by simp)) (mx_aT_lt ht)
        exact sd_iald C (mx_dq_of hd) ht hk h H ls locs hP hS hv hs hlo hc
      · exact h.elim
    · exact h.elim
  · rw [mx_o26] at hok; rw [mx_s26] at h
    simp only [Bool.and_eq_true, decide_eq_true_eq] at hok
    obtain ⟨hd, rfl⟩ := hok
    split at h
    · rename_i x i k o r
      split at h
      · rename_i hbq
        have ht := Nat.eq_of_beq_eq_true hbq
        have hk : k < mx_kM o := mx_okV_cell (hs _ (by simp)) (mx_aT_lt ht)
        exact sd_iast C (mx_dq_of hd) ht hk h H ls locs hP hS hv hs hlo hc
      · exact h.elim
    · exact h.elim
  · rw [mx_o27] at hok; rw [mx_s27] at h
    simp only [Bool.and_eq_true, decide_eq_true_eq] at hok
    obtain ⟨⟨hd, rfl⟩, hb2⟩ := hok
    split at h
    · rename_i i k o r
      split at h
      · rename_i hbq
        have ht := Nat.eq_of_beq_eq_true hbq
        have hk : k < mx_kM o := mx_okV_cell (hs _ (by simp)) (mx_aT_lt ht)
        exact sd_bald C (mx_dq_of hd) (by omega) hk h H ls locs hP hS hv hs hlo hc
      · exact h.elim
    · exact h.elim
  · rw [mx_o28] at hok; rw [mx_s28] at h
    simp only [Bool.and_eq_true, decide_eq_true_eq] at hok
    obtain ⟨⟨hd, rfl⟩, hb2⟩ := hok
    split at h
    · rename_i x i k o r
      split at h
      · rename_i hbq
        have ht := Nat.eq_of_beq_eq_true hbq
        have hk : k < mx_kM o := mx_okV_cell (hs _ (by simp)) (mx_aT_lt ht)
        exact sd_bast C (mx_dq_of hd) ht hb2 hk h H ls locs hP hS hv hs hlo hc
      · exact h.elim
    · exact h.elim
  · rw [mx_o29] at hok; rw [mx_s29] at h
    simp only [Bool.and_eq_true, decide_eq_true_eq] at hok
    obtain ⟨⟨hd, rfl⟩, hb2⟩ := hok
    split at h
    · rename_i i k o r
      split at h
      · rename_i hbq
        have ht := Nat.eq_of_beq_eq_true hbq
        have hk : k < mx_kM o := mx_okV_cell (hs _ (by simp)) (mx_aT_lt ht)
        exact sd_aald C (mx_dq_of hd) (by omega) hk h H ls locs hP hS hv hs hlo hc
      · exact h.elim
    · exact h.elim
  · rw [mx_o30] at hok; rw [mx_s30] at h
    simp only [Bool.and_eq_true, decide_eq_true_eq] at hok
    obtain ⟨hd, rfl⟩ := hok
    split at h
    · rename_i k o r
      split at h
      · rename_i hbq
        have ht := Nat.eq_of_beq_eq_true hbq
        have hk : k < mx_kM o := mx_okV_cell (hs _ (by simp)) (mx_aT_lt ht)
        exact sd_alen C (mx_dq_of hd) ht hk h H ls locs hP hS hv hs hlo hc
      · exact h.elim
    · exact h.elim
  · rw [mx_o31] at hok; rw [mx_s31] at h
    split at h
    · rename_i hcg
      simp only [Bool.and_eq_true, decide_eq_true_eq] at hok
      obtain ⟨hok, hnl, hnp⟩ := hok
      subst hnp
      unfold mx_cg at hcg
      simp only [Bool.and_eq_true] at hcg
      obtain ⟨hl1, hl2, hwd, hrc⟩ := hcg
      have hl1 : b ≤ stk.length := Nat.le_of_ble_eq_true hl1
      have hl2 : (stk.drop b).length ≤ 4 := Nat.le_of_ble_eq_true hl2
      have hwd : mx_wd (stk.take b).reverse ≤ mx_nl a := by rw [← hnl]; exact Nat.le_of_ble_eq_true hwd
      have hlen : (stk.take b).reverse.length = b := by rw [List.length_reverse, List.length_take]; omega
      have hst := mx_take_drop b stk
      obtain ⟨rr, hY, hOK, hX, hrv, hW⟩ := h
      unfold mx_okc at hok
      rw [Bool.and_eq_true, Bool.and_eq_true] at hok
      obtain ⟨ha, hlk, hok⟩ := hok
      have ha : a < 191 := of_decide_eq_true ha
      have hl : Cond.methodLink (mx_on ow) q (mx_mN a) ∈ lw_gd ∨ va_Nw (.methodLinkNest (mx_on ow) q (mx_mN a) "RailOfHeads") s := by
        have hM : mx_lkM w ow q a = true → Cond.methodLink (mx_on ow) q (mx_mN a) ∈ lw_gd := fun z => by
          have := mx_lkM_of z
          unfold mx_wM at this
          rw [if_neg (by show ¬ a = 1000; omega), if_neg (by show ¬ a = 1001; omega), if_neg (by show ¬ a = 1002; omega), if_neg (by show ¬ a = 1003; omega)] at this
          exact this
        unfold mx_okl at hlk
        split at hlk
        · exact Or.inl (hM hlk)
        · exact Or.inl (hM hlk)
        · exact Or.inr (C.2.2.2.2.2.1.2.2.2.2.2.2.2.2 (ow, q, a) (List.mem_of_getElem? (of_decide_eq_true hlk)))
      have hmk := mx_mck_at ha
      unfold mx_mck at hmk
      simp only [Bool.and_eq_true, decide_eq_true_eq] at hmk
      obtain ⟨hm1, hm2, hm3, hm4⟩ := hmk
      have hm : mx_mok a := ⟨mx_allP_at mx_cdp_all ha, mx_hw_of hm1, hm2, hm3⟩
      revert hok
      split
      · rename_i hpt
        intro hok
        simp only [Bool.and_eq_true, decide_eq_true_eq] at hok
        obtain ⟨hd, hpar, hcl⟩ := hok
        rw [hpt] at hm4
        simp only [Bool.and_eq_true] at hm4
        generalize (stk.take b).reverse = as at hrc hOK hlen hst hwd
        generalize stk.drop b = rest at hl2 hW hst
        generalize mx_nth ts 1 = rc at hrc hcl
        unfold mx_rc at hrc
        split at hrc
        · cases hcl
        · rename_i hrc0
          split at hrc
          · rename_i k o as'
            have hpn : (parseMethodDescriptor (mx_mN a).desc).map (fun d => d.parameters.length) = some as'.length := by
              cases hpd : parseMethodDescriptor (mx_mN a).desc with
              | none => rw [hpd] at hpar; cases hpar
              | some d =>
                rw [hpd] at hpar
                simp only [Option.map_some, Option.some.injEq, List.length_cons] at hpar hlen ⊢
                omega
            have hok0 : mx_okV (Sum.inr (Sum.inr (k, o))) := hs _ (by rw [hst]; simp)
            split at hrc
            · rename_i h10
              have ho : o = mx_oS := Nat.eq_of_beq_eq_true hrc
              have e10 : rc = 10 := Nat.eq_of_beq_eq_true h10
              subst ho
              subst e10
              have hk9 : k < 9 := by
                rcases hok0 with z | ⟨-, z⟩ | z | z
                · exact absurd (mx_kM_lt z) (by decide)
                · exact z
                · exact absurd z (by decide)
                · exact absurd z.2 (by decide)
              have ecl : (mx_mN a).cls = "java/lang/String" := of_decide_eq_true hcl
              refine sd_callV (v0 := Sum.inr (Sum.inr (k, mx_oS))) (as := as') (rest := rest) (ad0 := g.1 k mx_oS) C hY hwd hOK hm hpn (mx_hw_of hm4.1) (mx_hw_of hm4.2) hl (mx_dq_of hd) hl2 hst rfl (fun H locs hP hS => ?_) hX hrv hW H ls locs hP hS hv hs hlo hc
              rw [ecl]
              exact vk_recv (adK := fun k => g.1 k mx_oS) (i := k) C.2.2.2.2.2.1.2.1 hk9 hS
            · rename_i h10
              have ho : mx_cO o = rc := Nat.eq_of_beq_eq_true hrc
              cases rc with
              | zero => exact absurd rfl hrc0
              | succ rc =>
                have hcl : rc < 9 ∧ (mx_cl rc).1 = (mx_mN a).cls := by
                  split at hcl
                  · rename_i z; cases z
                  · rename_i z; cases z; cases h10
                  · rename_i z
                    cases z
                    simp only [Bool.and_eq_true, decide_eq_true_eq] at hcl
                    exact hcl
                have hk : k < mx_kM o := mx_okV_cell hok0 (mx_cO_lt ho)
                refine sd_callV (v0 := Sum.inr (Sum.inr (k, o))) (as := as') (rest := rest) (ad0 := g.1 k o) C hY hwd hOK hm hpn (mx_hw_of hm4.1) (mx_hw_of hm4.2) hl (mx_dq_of hd) hl2 hst (mx_rv_ref hk) (fun H locs hP hS => ?_) hX hrv hW H ls locs hP hS hv hs hlo hc
                obtain ⟨n, hn⟩ := mx_at hk
                have he : (mx_ws g σ)[n]? = some (g.1 k o, .inr (rc, (List.range (mx_nf o)).map (mx_fv g σ k o))) := by rw [mx_ws_at hn, mx_obj ho]
                rw [← hcl.2]
                exact va_recv C.2.2.2.2.2.1.1 hP (mx_cl_at hcl.1) he
          · cases hrc
      · rename_i hpt
        intro hok
        simp only [Bool.and_eq_true, decide_eq_true_eq] at hok
        obtain ⟨hd, hpar⟩ := hok
        split at hm4
        · rename_i z; exact absurd z hpt
        · exact sd_callS (as := (stk.take b).reverse) (rest := stk.drop b) C hY hwd hOK hm (by rw [hlen]; exact hpar) (mx_hw_of hm4) hl (mx_dq_of hd) hl2 hst hX hrv hW H ls locs hP hS hv hs hlo hc
    · exact h.elim
  · rw [mx_o32] at hok; rw [mx_s32] at h
    simp only [Bool.and_eq_true, decide_eq_true_eq] at hok
    obtain ⟨hd, hr⟩ := hok
    split at h
    · rename_i x
      split at h
      · exact hKR (some (Sum.inl x)) σ H ls locs h hP hS ⟨mx_dq_of hd, _, hr, rfl⟩
      · rename_i hb0
        unfold mx_z at h
        split at h
        · rename_i hz
          refine hKR (some (Sum.inl x)) σ H ls locs h hP hS ⟨mx_dq_of hd, _, hr, ?_⟩
          split at hz
          · exact (mx_nbool hz).1
          · exact mx_nchar hz
          · rename_i h1 h2
            split
            · rename_i z; exact absurd rfl hb0
            · rename_i z; exact absurd rfl h1
            · rename_i z; exact absurd rfl h2
            · exact mx_nbyte hz
        · exact h.elim
    · exact h.elim
  · rw [mx_o33] at hok; rw [mx_s33] at h
    simp only [Bool.and_eq_true, decide_eq_true_eq] at hok
    obtain ⟨hd, hr⟩ := hok
    split at h
    · rename_i x
      exact hKR (some (Sum.inr (Sum.inl x))) σ H ls locs h hP hS ⟨mx_dq_of hd, hr⟩
    · exact h.elim
  · rw [mx_o34] at hok; rw [mx_s34] at h
    simp only [Bool.and_eq_true, decide_eq_true_eq] at hok
    obtain ⟨hd, hr⟩ := hok
    split at h
    · exact hKR none σ H ls locs h hP hS ⟨mx_dq_of hd, hr⟩
    · exact h.elim
  · rw [mx_o35] at hok; rw [mx_s35] at h
    simp only [Bool.and_eq_true, decide_eq_true_eq] at hok
    obtain ⟨hd, ho, ha, hp, rfl⟩ := hok
    exact sd_ldcS C (by rw [ho]; rfl) ha hp (mx_dq_of hd) h H ls locs hP hS hv hs hlo hc
  · rw [mx_o36] at hok; rw [mx_s36] at h
    simp only [Bool.and_eq_true, decide_eq_true_eq] at hok
    obtain ⟨hd, hl, rfl⟩ := hok
    split at h
    · rename_i n dp k1 o1 sp k o r
      split at h
      · rename_i h1 h2
        have ht := Nat.eq_of_beq_eq_true h1
        have ht1 := Nat.eq_of_beq_eq_true h2
        have hk : k < mx_kM o := mx_okV_cell (hs _ (by simp)) (mx_aT_lt ht)
        have hk1 : k1 < mx_kM o1 := mx_okV_cell (hs _ (by simp)) (mx_aT_lt ht1)
        split at h
        · rename_i h4
          exact sd_copy C (mx_dq_of hd) (mx_lkM_of hl) mx_acw.1 mx_acw.2.1 mx_acw.2.2 ht ht1 hk hk1 (Nat.le_of_ble_eq_true h4) h H ls locs hP hS hv hs hlo hc
        · exact h.elim
      · exact h.elim
    · exact h.elim
  · rw [mx_o37] at hok; rw [mx_s37] at h
    simp only [Bool.and_eq_true, decide_eq_true_eq] at hok
    obtain ⟨hd, hl, rfl⟩ := hok
    exact sd_gets1 C (mx_dq_of hd) (mx_lkF_of hl).1 h H ls locs hP hS hv hs hlo hc
  · rw [mx_o38] at hok; rw [mx_s38] at h
    simp only [Bool.and_eq_true, decide_eq_true_eq] at hok
    obtain ⟨hd, hl, rfl⟩ := hok
    exact sd_gets2 C (mx_dq_of hd) (mx_lkF_of hl).1 h H ls locs hP hS hv hs hlo hc
  · rw [mx_o39] at hok; rw [mx_s39] at h
    simp only [Bool.and_eq_true, decide_eq_true_eq] at hok
    obtain ⟨hd, hl, rfl⟩ := hok
    split at h
    · rename_i k o r
      split at h
      · rename_i hbq
        have ho : o = mx_oS := Nat.eq_of_beq_eq_true hbq
        subst ho
        have hk9 : k < 9 := by
          rcases hs _ List.mem_cons_self with z | ⟨-, z⟩ | z | z
          · exact absurd (mx_kM_lt z) (by decide)
          · exact z
          · exact absurd z (by decide)
          · exact absurd z.2 (by decide)
        split at h
        · exact sd_sval C hk9 (mx_dq_of hd) (mx_lkF_of hl).1 h H ls locs hP hS hv hs hlo hc
        · rename_i hb0
          refine sd_scod C hk9 (mx_dq_of hd) ?_ h H ls locs hP hS hv hs hlo hc
          split at hl
          · exact absurd rfl hb0
          · exact (mx_lkF_of hl).1
      · exact h.elim
    · exact h.elim
  · rw [mx_o40] at hok; rw [mx_s40] at h
    simp only [Bool.and_eq_true, decide_eq_true_eq] at hok
    obtain ⟨hd, rfl⟩ := hok
    split at h
    · rename_i k o r
      split at h
      · rename_i hbq
        have ho : o = mx_oB := Nat.eq_of_beq_eq_true hbq
        subst ho
        have hk9 : k < 9 := by
          rcases hs _ List.mem_cons_self with z | ⟨-, z⟩ | z | z
          · exact absurd (mx_kM_lt z) (by decide)
          · exact z
          · exact absurd z (by decide)
          · exact absurd z.2 (by decide)
        exact sd_slen C hk9 (mx_dq_of hd) h H ls locs hP hS hv hs hlo hc
      · exact h.elim
    · exact h.elim
  · rw [mx_o41] at hok; rw [mx_s41] at h
    simp only [Bool.and_eq_true, decide_eq_true_eq] at hok
    obtain ⟨hd, rfl⟩ := hok
    split at h
    · rename_i i k o r
      split at h
      · rename_i hbq
        have ho : o = mx_oB := Nat.eq_of_beq_eq_true hbq
        subst ho
        have hk9 : k < 9 := by
          rcases hs _ (List.mem_cons_of_mem _ List.mem_cons_self) with z | ⟨-, z⟩ | z | z
          · exact absurd (mx_kM_lt z) (by decide)
          · exact z
          · exact absurd z (by decide)
          · exact absurd z.2 (by decide)
        exact sd_sbyt C hk9 (mx_dq_of hd) h H ls locs hP hS hv hs hlo hc
      · exact h.elim
    · exact h.elim
  · rw [mx_o42] at hok; rw [mx_s42] at h
    simp only [Bool.and_eq_true, decide_eq_true_eq] at hok
    obtain ⟨hd, rfl⟩ := hok
    split at h
    · exact sd_pop C (mx_dq_of hd) h H ls locs hP hS hv hs hlo hc
    · exact h.elim
  · rw [mx_o43] at hok; rw [mx_s43] at h
    simp only [Bool.and_eq_true, decide_eq_true_eq] at hok
    obtain ⟨hd, rfl⟩ := hok
    split at h
    · rename_i i o r
      split at h
      · rename_i hbq
        have ho : o = mx_oX := Nat.eq_of_beq_eq_true hbq
        subst ho
        exact sd_xld C (mx_dq_of hd) h H ls locs hP hS hv hs hlo hc
      · exact h.elim
    · exact h.elim
  · rw [mx_o44] at hok; rw [mx_s44] at h
    simp only [Bool.and_eq_true, decide_eq_true_eq] at hok
    obtain ⟨hd, rfl⟩ := hok
    split at h
    · rename_i o r
      split at h
      · rename_i hbq
        have ho : o = mx_oX := Nat.eq_of_beq_eq_true hbq
        subst ho
        exact sd_xlen C (mx_dq_of hd) h H ls locs hP hS hv hs hlo hc
      · exact h.elim
    · exact h.elim
  · rw [mx_o45] at hok; rw [mx_s45] at h
    split at h
    · have ht : tg (a + 1) = pc := of_decide_eq_true hok
      rw [ht] at h
      exact h H ls locs hP hS ⟨hv.1, hv.2.1, fun i v hi => hv.2.2 i v (mx_lo_kp hi)⟩ hs (fun i v hi => hlo i v (mx_lo_kp hi)) hc
    · exact h.elim
  · rw [mx_o46] at hok; rw [mx_s46] at h
    simp only [Bool.and_eq_true, decide_eq_true_eq] at hok
    obtain ⟨hd, hl, rfl⟩ := hok
    split at h
    · split at h
      · rename_i h4
        split at h
        · exact sd_mmin C (mx_dq_of hd) (mx_lkM_of hl) (Nat.le_of_ble_eq_true h4) h H ls locs hP hS hv hs hlo hc
        · rename_i hb0
          refine sd_mmax C (mx_dq_of hd) ?_ (Nat.le_of_ble_eq_true h4) h H ls locs hP hS hv hs hlo hc
          split at hl
          · exact absurd rfl hb0
          · exact mx_lkM_of hl
      · exact h.elim
    · exact h.elim
  · rw [mx_o47] at hok; rw [mx_s47] at h
    simp only [Bool.and_eq_true, decide_eq_true_eq] at hok
    obtain ⟨hd, hl, rfl⟩ := hok
    split at h
    · split at h
      · rename_i h4
        exact sd_mabs C (mx_dq_of hd) (mx_lkM_of hl) (Nat.le_of_ble_eq_true h4) h H ls locs hP hS hv hs hlo hc
      · exact h.elim
    · exact h.elim
  · rw [show mx_step (fun lo st σ => mx_W p l e R s m args below meth c cells slots Q nL g L xs npc lo st σ) (fun t lo st σ => mx_W p l e R s m args below meth c cells slots Q nL g L xs (tg t) lo st σ) KR (fun y' _ as lo st σ => ∃ rr : mx_Rt, y' < Y ∧ mx_OK l y' as σ rr ∧ (∀ k j, rr.2 k mx_oX j = σ k mx_oX j) ∧ (∀ v, rr.1 = some v → mx_okV v) ∧ mx_W p l e R s m args below meth c cells slots Q nL g L xs npc lo (rr.1.toList ++ st) rr.2) (fun hh lo σ => mx_W p l e R s m args below meth c cells slots Q nL g L xs (tg (hh + 1)) lo [] σ) False (op + 48, im, jm, a, b, ts) loc stk σ = False from rfl] at h
    exact h.elim
end St
end
section
/-! ===== the tables are the bytecode's ===== -/
def mx_chk (ow : Nat) (cc : ByteArray) (nL : Nat) (ret : Option FieldType) (tg : Nat → Nat) : Nat → List mx_Op → List (Nat × Nat × Nat) → Bool
  | _, [], _ => true
  | _, _ :: _, [] => false
  | j, i :: c, k :: ks => mx_ok ow cc nL ret tg (tg j) (tg (j + 1)) k.1 k.2.1 k.2.2 i && mx_chk ow cc nL ret tg (j + 1) c ks
theorem mx_chk_at {ow : Nat} {cc : ByteArray} {nL : Nat} {ret : Option FieldType} {tg : Nat → Nat} : ∀ {P : List mx_Op} {ks : List (Nat × Nat × Nat)} {j n : Nat} {i : mx_Op} {c : List mx_Op}, mx_chk ow cc nL ret tg j P ks = true → P.drop n = i :: c → ∃ q v w, mx_ok ow cc nL ret tg (tg (j + n)) (tg (j + n + 1)) q v w i = true ∧ c = P.drop (n + 1)
  | [], _, _, n, _, _, _, h => by simp at h
  | _ :: _, [], _, _, _, _, h, _ => by cases h
  | i0 :: P, k :: ks, j, 0, i, c, h, hd => by
    cases hd
    simp only [mx_chk, Bool.and_eq_true] at h
    exact ⟨k.1, k.2.1, k.2.2, h.1, rfl⟩
  | i0 :: P, k :: ks, j, n + 1, i, c, h, hd => by
    simp only [mx_chk, Bool.and_eq_true] at h
    obtain ⟨q, v, w, h1, h2⟩ := mx_chk_at (n := n) h.2 hd
    refine ⟨q, v, w, ?_, h2⟩
    rw [show j + (n + 1) = j + 1 + n by omega]
    exact h1
theorem mx_chk_app {ow : Nat} {cc : ByteArray} {nL : Nat} {ret : Option FieldType} {tg : Nat → Nat} : ∀ {P P2 : List mx_Op} {ks k2 : List (Nat × Nat × Nat)} {j : Nat}, P.length = ks.length → mx_chk ow cc nL ret tg j P ks = true → mx_chk ow cc nL ret tg (j + P.length) P2 k2 = true → mx_chk ow cc nL ret tg j (P ++ P2) (ks ++ k2) = true
  | [], _, [], _, _, _, _, h => h
  | [], _, _ :: _, _, _, h, _, _ => by cases h
  | _ :: _, _, [], _, _, h, _, _ => by cases h
  | i :: P, P2, k :: ks, k2, j, hl, h1, h2 => by
    simp only [mx_chk, Bool.and_eq_true] at h1
    simp only [List.cons_append, mx_chk, Bool.and_eq_true]
    refine ⟨h1.1, mx_chk_app (by simpa using hl) h1.2 ?_⟩
    rw [List.length_cons] at h2
    rw [show j + 1 + P.length = j + (P.length + 1) by omega]
    exact h2
end
section
def mx_c0 : List Nat := [0, 0, 1, 4, 6, 9, 10, 13, 14, 17, 18, 19, 20, 21, 24, 25, 26, 29]
def mx_k0 : List (Nat × Nat × Nat) := [(0, 0, 0), (0, 0, 0), (56, 0, 0), (0, 1, 0), (0, 0, 0), (0, 0, 0), (9, 0, 1), (0, 0, 0), (56, 0, 0), (0, 0, 0), (0, 0, 0), (0, 0, 0), (0, 0, 0), (56, 0, 0), (0, 0, 0), (0, 0, 0), (56, 0, 0), (0, 0, 0)]
set_option maxRecDepth 100000 in
theorem mx_t0 : mx_chk 0 (mx_mC 0) (mx_nl 0) (mx_mR 0) (mx_nth mx_c0) 0 mx_p0 mx_k0 = true := by decide +kernel
def mx_c1 : List Nat := [0, 0, 1, 3, 6, 7, 10, 13, 14, 15]
def mx_k1 : List (Nat × Nat × Nat) := [(0, 0, 0), (0, 0, 0), (0, 1, 0), (60, 0, 0), (0, 0, 0), (15, 0, 2), (64, 0, 3), (0, 0, 0), (0, 0, 0), (0, 0, 0)]
set_option maxRecDepth 100000 in
theorem mx_t1 : mx_chk 0 (mx_mC 1) (mx_nl 1) (mx_mR 1) (mx_nth mx_c1) 0 mx_p1 mx_k1 = true := by decide +kernel
def mx_c2 : List Nat := [0, 0, 1, 4, 5, 6, 8, 11, 12, 13, 14, 17, 18, 19, 44, 45, 46, 47, 48, 49, 50, 51, 54, 55, 56, 57, 60, 61, 64, 65]
def mx_k2 : List (Nat × Nat × Nat) := [(0, 0, 0), (0, 0, 0), (15, 0, 4), (0, 0, 0), (0, 0, 0), (0, 1, 0), (0, 0, 0), (0, 0, 0), (0, 0, 0), (0, 0, 0), (39, 0, 5), (0, 0, 0), (0, 0, 0), (25, 0, 0), (0, 0, 0), (0, 0, 0), (0, 0, 0), (0, 0, 0), (0, 0, 0), (0, 0, 0), (0, 0, 0), (15, 0, 4), (0, 0, 0), (0, 0, 0), (0, 0, 0), (0, 0, 0), (0, 0, 0), (0, 0, 0), (0, 0, 0), (0, 0, 0)]
set_option maxRecDepth 100000 in
theorem mx_t2 : mx_chk 1 (mx_mC 2) (mx_nl 2) (mx_mR 2) (mx_nth mx_c2) 0 mx_p2 mx_k2 = true := by decide +kernel
def mx_c3 : List Nat := [0, 0, 1, 3, 6, 7]
def mx_k3 : List (Nat × Nat × Nat) := [(0, 0, 0), (0, 0, 0), (0, 1, 0), (60, 0, 0), (0, 0, 0), (0, 0, 0)]
set_option maxRecDepth 100000 in
theorem mx_t3 : mx_chk 0 (mx_mC 3) (mx_nl 3) (mx_mR 3) (mx_nth mx_c3) 0 mx_p3 mx_k3 = true := by decide +kernel
def mx_c4 : List Nat := [0, 0, 1, 3, 6, 7, 8, 11, 14, 15]
def mx_k4 : List (Nat × Nat × Nat) := [(0, 0, 0), (0, 0, 0), (0, 1, 0), (60, 0, 0), (0, 0, 0), (0, 0, 0), (53, 0, 1), (0, 2, 0), (0, 0, 0), (0, 0, 0)]
set_option maxRecDepth 100000 in
theorem mx_t4 : mx_chk 0 (mx_mC 4) (mx_nl 4) (mx_mR 4) (mx_nth mx_c4) 0 mx_p4 mx_k4 = true := by decide +kernel
def mx_c5 : List Nat := [0, 0, 1, 3, 6, 7, 8, 11, 13, 14, 15, 18, 21, 22, 23, 26, 27, 28]
def mx_k5 : List (Nat × Nat × Nat) := [(0, 0, 0), (0, 0, 0), (0, 1, 0), (60, 0, 0), (0, 0, 0), (0, 0, 0), (53, 0, 1), (0, 1, 0), (0, 0, 0), (0, 0, 0), (15, 0, 2), (70, 0, 6), (0, 0, 0), (0, 0, 0), (73, 0, 2), (0, 0, 0), (0, 0, 0), (0, 0, 0)]
set_option maxRecDepth 100000 in
theorem mx_t5 : mx_chk 0 (mx_mC 5) (mx_nl 5) (mx_mR 5) (mx_nth mx_c5) 0 mx_p5 mx_k5 = true := by decide +kernel
def mx_c6 : List Nat := [0, 0, 1, 3, 6, 7, 8, 11, 12, 15, 18, 19, 20, 21]
def mx_k6 : List (Nat × Nat × Nat) := [(0, 0, 0), (0, 0, 0), (0, 1, 0), (60, 0, 0), (0, 0, 0), (0, 0, 0), (44, 0, 3), (0, 0, 0), (15, 0, 2), (78, 0, 7), (0, 0, 0), (0, 0, 0), (0, 0, 0), (0, 0, 0)]
set_option maxRecDepth 100000 in
theorem mx_t6 : mx_chk 0 (mx_mC 6) (mx_nl 6) (mx_mR 6) (mx_nth mx_c6) 0 mx_p6 mx_k6 = true := by decide +kernel
def mx_c7 : List Nat := [0, 0, 1, 3, 6, 7, 8, 11, 12]
def mx_k7 : List (Nat × Nat × Nat) := [(0, 0, 0), (0, 0, 0), (0, 1, 0), (60, 0, 0), (0, 0, 0), (0, 0, 0), (38, 0, 4), (0, 0, 0), (0, 0, 0)]
set_option maxRecDepth 100000 in
theorem mx_t7 : mx_chk 0 (mx_mC 7) (mx_nl 7) (mx_mR 7) (mx_nth mx_c7) 0 mx_p7 mx_k7 = true := by decide +kernel
def mx_c8 : List Nat := [0, 0, 1, 3, 6, 7, 8, 11, 13, 14]
def mx_k8 : List (Nat × Nat × Nat) := [(0, 0, 0), (0, 0, 0), (0, 1, 0), (60, 0, 0), (0, 0, 0), (0, 0, 0), (32, 0, 5), (0, 1, 0), (0, 0, 0), (0, 0, 0)]
set_option maxRecDepth 100000 in
theorem mx_t8 : mx_chk 0 (mx_mC 8) (mx_nl 8) (mx_mR 8) (mx_nth mx_c8) 0 mx_p8 mx_k8 = true := by decide +kernel
def mx_c9 : List Nat := [0, 0, 1, 2, 5, 6, 7, 8, 11, 12, 15, 44, 45, 46, 47, 50, 51, 52, 53, 54, 57, 58, 59, 60, 63, 64, 65, 66, 69, 70, 71, 72, 75]
def mx_k9 : List (Nat × Nat × Nat) := [(0, 0, 0), (0, 0, 0), (0, 0, 0), (0, 0, 0), (0, 0, 0), (0, 0, 0), (0, 0, 0), (15, 0, 2), (0, 0, 0), (19, 0, 6), (29, 0, 0), (0, 0, 0), (0, 0, 0), (0, 0, 0), (25, 0, 7), (0, 0, 0), (0, 0, 0), (0, 0, 0), (0, 0, 0), (29, 0, 8), (0, 0, 0), (0, 0, 0), (0, 0, 0), (32, 0, 5), (0, 0, 0), (0, 0, 0), (0, 0, 0), (35, 0, 9), (0, 0, 0), (0, 0, 0), (0, 0, 0), (38, 0, 4), (0, 0, 0)]
set_option maxRecDepth 100000 in
theorem mx_t9 : mx_chk 0 (mx_mC 9) (mx_nl 9) (mx_mR 9) (mx_nth mx_c9) 0 mx_p9 mx_k9 = true := by decide +kernel
def mx_c10 : List Nat := [0, 0, 1, 3, 6, 7, 8, 11, 12, 13, 14, 15, 16, 19, 20]
def mx_k10 : List (Nat × Nat × Nat) := [(0, 0, 0), (0, 0, 0), (0, 1, 0), (60, 0, 0), (0, 0, 0), (0, 0, 0), (53, 0, 1), (0, 0, 0), (0, 0, 0), (0, 0, 0), (0, 0, 0), (0, 0, 0), (81, 0, 10), (0, 0, 0), (0, 0, 0)]
set_option maxRecDepth 100000 in
theorem mx_t10 : mx_chk 0 (mx_mC 10) (mx_nl 10) (mx_mR 10) (mx_nth mx_c10) 0 mx_p10 mx_k10 = true := by decide +kernel
def mx_c11 : List Nat := [0, 0, 1, 2, 5, 6, 7, 8, 11, 12, 15, 44, 45, 46, 49, 50, 51, 52, 55, 56, 57, 58, 61, 62, 63, 64, 65, 68, 69, 70, 71, 74]
def mx_k11 : List (Nat × Nat × Nat) := [(0, 0, 0), (0, 0, 0), (0, 0, 0), (0, 0, 0), (0, 0, 0), (0, 0, 0), (0, 0, 0), (15, 0, 2), (0, 0, 0), (19, 0, 6), (29, 0, 0), (0, 0, 0), (0, 0, 0), (41, 0, 11), (0, 0, 0), (0, 0, 0), (0, 0, 0), (44, 0, 3), (0, 0, 0), (0, 0, 0), (0, 0, 0), (47, 0, 12), (0, 0, 0), (0, 0, 0), (0, 0, 0), (0, 0, 0), (50, 0, 13), (0, 0, 0), (0, 0, 0), (0, 0, 0), (53, 0, 1), (0, 0, 0)]
set_option maxRecDepth 100000 in
theorem mx_t11 : mx_chk 0 (mx_mC 11) (mx_nl 11) (mx_mR 11) (mx_nth mx_c11) 0 mx_p11 mx_k11 = true := by decide +kernel
def mx_c12 : List Nat := [0, 0, 1, 3, 6, 7, 8, 11, 12, 13, 14, 15, 16, 19, 20]
def mx_k12 : List (Nat × Nat × Nat) := [(0, 0, 0), (0, 0, 0), (0, 1, 0), (60, 0, 0), (0, 0, 0), (0, 0, 0), (38, 0, 4), (0, 0, 0), (0, 0, 0), (0, 0, 0), (0, 0, 0), (0, 0, 0), (67, 0, 14), (0, 0, 0), (0, 0, 0)]
set_option maxRecDepth 100000 in
theorem mx_t12 : mx_chk 0 (mx_mC 12) (mx_nl 12) (mx_mR 12) (mx_nth mx_c12) 0 mx_p12 mx_k12 = true := by decide +kernel
def mx_c13 : List Nat := [0, 0, 1, 3, 6, 7, 8, 11, 12, 13, 14, 15, 16, 19, 20]
def mx_k13 : List (Nat × Nat × Nat) := [(0, 0, 0), (0, 0, 0), (0, 1, 0), (60, 0, 0), (0, 0, 0), (0, 0, 0), (38, 0, 4), (0, 0, 0), (0, 0, 0), (0, 0, 0), (0, 0, 0), (0, 0, 0), (67, 0, 14), (0, 0, 0), (0, 0, 0)]
set_option maxRecDepth 100000 in
theorem mx_t13 : mx_chk 0 (mx_mC 13) (mx_nl 13) (mx_mR 13) (mx_nth mx_c13) 0 mx_p13 mx_k13 = true := by decide +kernel
def mx_c14 : List Nat := [0, 0, 1, 2, 5, 6, 7, 8, 11, 12, 15, 44, 45, 46, 47, 50, 51, 52, 53, 54, 57, 58, 59, 60, 63, 64, 65, 66, 69, 70, 71, 72, 75]
def mx_k14 : List (Nat × Nat × Nat) := [(0, 0, 0), (0, 0, 0), (0, 0, 0), (0, 0, 0), (0, 0, 0), (0, 0, 0), (0, 0, 0), (15, 0, 2), (0, 0, 0), (19, 0, 6), (29, 0, 0), (0, 0, 0), (0, 0, 0), (0, 0, 0), (25, 0, 7), (0, 0, 0), (0, 0, 0), (0, 0, 0), (0, 0, 0), (29, 0, 8), (0, 0, 0), (0, 0, 0), (0, 0, 0), (32, 0, 5), (0, 0, 0), (0, 0, 0), (0, 0, 0), (35, 0, 9), (0, 0, 0), (0, 0, 0), (0, 0, 0), (38, 0, 4), (0, 0, 0)]
set_option maxRecDepth 100000 in
theorem mx_t14 : mx_chk 0 (mx_mC 14) (mx_nl 14) (mx_mR 14) (mx_nth mx_c14) 0 mx_p14 mx_k14 = true := by decide +kernel
def mx_c15 : List Nat := [0, 0, 1, 2, 3, 4, 7, 8, 9, 10, 11, 14, 15, 16, 17, 18, 21, 22, 23, 24, 25, 26, 27, 28, 29, 32, 33, 34, 35, 36, 38, 39, 40, 41, 42, 43, 45, 46, 47, 48, 49, 51, 52]
def mx_k15 : List (Nat × Nat × Nat) := [(0, 0, 0), (0, 0, 0), (0, 0, 0), (0, 0, 0), (0, 0, 0), (265, 4, 0), (0, 0, 0), (0, 0, 0), (0, 0, 0), (0, 0, 0), (266, 4, 1), (0, 0, 0), (0, 0, 0), (0, 0, 0), (0, 0, 0), (266, 4, 1), (0, 0, 0), (0, 0, 0), (0, 0, 0), (0, 0, 0), (0, 0, 0), (0, 0, 0), (0, 0, 0), (0, 0, 0), (267, 4, 2), (0, 0, 0), (0, 0, 0), (0, 0, 0), (0, 0, 0), (0, 1, 0), (0, 0, 0), (0, 0, 0), (0, 0, 0), (0, 0, 0), (0, 0, 0), (0, 1, 0), (0, 0, 0), (0, 0, 0), (0, 0, 0), (0, 0, 0), (0, 1, 0), (0, 0, 0), (0, 0, 0)]
set_option maxRecDepth 100000 in
theorem mx_t15 : mx_chk 12 (mx_mC 15) (mx_nl 15) (mx_mR 15) (mx_nth mx_c15) 0 mx_p15 mx_k15 = true := by decide +kernel
def mx_c16 : List Nat := [0, 0, 1, 2, 3, 4, 4, 5, 6, 9, 12, 15, 16, 17, 20, 21, 22, 25, 26, 27, 30, 33, 34]
def mx_k16 : List (Nat × Nat × Nat) := [(0, 0, 0), (0, 0, 0), (0, 0, 0), (0, 0, 0), (0, 0, 0), (0, 0, 0), (0, 0, 0), (0, 0, 0), (45, 0, 8), (83, 0, 9), (0, 0, 0), (0, 0, 0), (0, 0, 0), (27, 0, 10), (0, 0, 0), (0, 0, 0), (99, 1, 15), (0, 0, 0), (0, 0, 0), (0, 0, 0), (0, 0, 0), (0, 0, 0), (0, 0, 0)]
set_option maxRecDepth 100000 in
theorem mx_t16 : mx_chk 1 (mx_mC 16) (mx_nl 16) (mx_mR 16) (mx_nth mx_c16) 0 mx_p16 mx_k16 = true := by decide +kernel
def mx_c17 : List Nat := [0, 0, 1, 2, 3, 4, 4, 5, 6, 9, 12, 15, 16, 17, 20, 21, 22, 23, 24, 27, 30, 31]
def mx_k17 : List (Nat × Nat × Nat) := [(0, 0, 0), (0, 0, 0), (0, 0, 0), (0, 0, 0), (0, 0, 0), (0, 0, 0), (0, 0, 0), (0, 0, 0), (45, 0, 8), (83, 0, 9), (0, 0, 0), (0, 0, 0), (0, 0, 0), (21, 0, 11), (0, 0, 0), (0, 0, 0), (0, 0, 0), (0, 0, 0), (0, 0, 0), (0, 0, 0), (0, 0, 0), (0, 0, 0)]
set_option maxRecDepth 100000 in
theorem mx_t17 : mx_chk 1 (mx_mC 17) (mx_nl 17) (mx_mR 17) (mx_nth mx_c17) 0 mx_p17 mx_k17 = true := by decide +kernel
def mx_c18 : List Nat := [0, 0, 1, 2, 3, 4, 5, 5, 6, 7, 10, 11, 12, 13, 14, 17, 20]
def mx_k18 : List (Nat × Nat × Nat) := [(0, 0, 0), (0, 0, 0), (0, 0, 0), (0, 0, 0), (0, 0, 0), (0, 0, 0), (0, 0, 0), (0, 0, 0), (0, 0, 0), (0, 0, 0), (0, 0, 0), (0, 0, 0), (0, 0, 0), (0, 0, 0), (0, 0, 0), (0, 0, 0), (0, 0, 0)]
set_option maxRecDepth 100000 in
theorem mx_t18 : mx_chk 13 (mx_mC 18) (mx_nl 18) (mx_mR 18) (mx_nth mx_c18) 0 mx_p18 mx_k18 = true := by decide +kernel
def mx_c19 : List Nat := [0, 0, 1, 2, 5, 6, 7, 10, 11, 12, 13, 14, 14, 15, 16, 19, 22, 25, 26, 28, 28, 30, 31, 34, 37, 38, 39, 42, 43, 45, 48, 49, 52, 53, 54, 55, 56, 59, 60, 61, 64, 67, 68, 69, 70, 73, 76, 79, 82, 85, 86, 89, 90, 93, 94, 97, 98, 101, 102, 105, 106, 109, 110, 113, 114, 117, 118, 121, 122, 125, 126, 129, 130, 133, 134, 137, 138, 141, 142, 145, 146, 149]
def mx_k19 : List (Nat × Nat × Nat) := [(0, 0, 0), (0, 0, 0), (0, 0, 0), (53, 0, 12), (0, 0, 0), (0, 0, 0), (57, 0, 13), (0, 0, 0), (0, 0, 0), (0, 0, 0), (0, 0, 0), (0, 0, 0), (0, 0, 0), (0, 0, 0), (45, 0, 8), (60, 0, 14), (0, 0, 0), (0, 0, 0), (0, 1, 0), (0, 0, 0), (0, 1, 0), (0, 0, 0), (45, 0, 8), (65, 0, 15), (0, 0, 0), (0, 0, 0), (0, 0, 0), (0, 0, 0), (0, 1, 0), (0, 0, 0), (0, 0, 0), (9, 0, 16), (0, 0, 0), (0, 0, 0), (0, 0, 0), (0, 0, 0), (18, 0, 17), (0, 0, 0), (0, 0, 0), (45, 0, 8), (68, 0, 18), (0, 0, 0), (0, 0, 0), (0, 0, 0), (0, 0, 0), (0, 0, 0), (0, 0, 0), (0, 0, 0), (0, 0, 0), (0, 0, 0), (15, 0, 4), (0, 0, 0), (71, 1, 16), (0, 0, 0), (21, 0, 11), (0, 0, 0), (71, 1, 16), (0, 0, 0), (24, 0, 19), (0, 0, 0), (71, 1, 16), (0, 0, 0), (27, 0, 10), (0, 0, 0), (71, 1, 16), (0, 0, 0), (30, 0, 20), (0, 0, 0), (71, 1, 16), (0, 0, 0), (33, 0, 21), (0, 0, 0), (71, 1, 16), (0, 0, 0), (36, 0, 22), (0, 0, 0), (71, 1, 16), (0, 0, 0), (39, 0, 5), (0, 0, 0), (71, 1, 16), (0, 0, 0)]
set_option maxRecDepth 100000 in
theorem mx_t19 : mx_chk 1 (mx_mC 19) (mx_nl 19) (mx_mR 19) (mx_nth mx_c19) 0 mx_p19 mx_k19 = true := by decide +kernel
def mx_c20 : List Nat := [0, 0, 1, 4, 7, 8, 11, 12, 13, 14, 15, 16, 17, 18, 20, 21, 23, 23, 25, 26, 29, 32, 35, 36, 39, 42, 43, 46, 47, 48, 50, 51, 52, 55, 58, 60, 61, 62, 63, 65, 67, 70, 73, 74, 77, 78, 79, 81, 82, 83, 84, 85, 88, 91, 92, 93, 96, 97, 100, 102, 105, 107, 108, 109, 112, 115, 117, 118, 119, 121, 122, 123, 125, 126, 127, 130, 132, 134, 137, 139, 140, 142, 144, 147, 150, 151]
def mx_k20 : List (Nat × Nat × Nat) := [(0, 0, 0), (0, 0, 0), (45, 0, 8), (154, 0, 23), (0, 0, 0), (9, 0, 16), (0, 0, 0), (0, 0, 0), (0, 0, 0), (0, 0, 0), (0, 0, 0), (0, 0, 0), (0, 0, 0), (0, 1, 0), (0, 0, 0), (0, 1, 0), (0, 0, 0), (0, 1, 0), (0, 0, 0), (45, 0, 8), (157, 0, 24), (0, 0, 0), (0, 0, 0), (49, 0, 25), (160, 0, 26), (0, 0, 0), (15, 0, 4), (0, 0, 0), (0, 0, 0), (0, 1, 0), (0, 0, 0), (0, 0, 0), (45, 0, 8), (118, 0, 27), (0, 1, 0), (0, 0, 0), (0, 0, 0), (0, 0, 0), (0, 1, 0), (0, 1, 0), (0, 2, 0), (0, 0, 0), (0, 0, 0), (24, 0, 19), (0, 0, 0), (0, 0, 0), (0, 1, 0), (0, 0, 0), (0, 0, 0), (0, 0, 0), (0, 0, 0), (0, 0, 0), (0, 0, 0), (0, 0, 0), (0, 0, 0), (0, 0, 0), (0, 0, 0), (0, 0, 0), (0, 1, 0), (0, 0, 0), (0, 1, 0), (0, 0, 0), (0, 0, 0), (45, 0, 8), (145, 0, 28), (0, 1, 0), (0, 0, 0), (0, 0, 0), (0, 1, 0), (0, 0, 0), (0, 0, 0), (0, 1, 0), (0, 0, 0), (0, 0, 0), (0, 0, 0), (0, 1, 0), (0, 1, 0), (0, 0, 0), (0, 1, 0), (0, 0, 0), (0, 1, 0), (0, 1, 0), (0, 0, 0), (0, 0, 0), (0, 0, 0), (0, 0, 0)]
set_option maxRecDepth 100000 in
theorem mx_t20 : mx_chk 1 (mx_mC 20) (mx_nl 20) (mx_mR 20) (mx_nth mx_c20) 0 mx_p20 mx_k20 = true := by decide +kernel
def mx_c21 : List Nat := [0, 0, 1, 4, 5, 6, 9, 10, 13, 14]
def mx_k21 : List (Nat × Nat × Nat) := [(0, 0, 0), (0, 0, 0), (0, 0, 0), (0, 0, 0), (0, 0, 0), (0, 0, 0), (0, 0, 0), (0, 0, 0), (0, 0, 0), (0, 0, 0)]
set_option maxRecDepth 100000 in
theorem mx_t21 : mx_chk 7 (mx_mC 21) (mx_nl 21) (mx_mR 21) (mx_nth mx_c21) 0 mx_p21 mx_k21 = true := by decide +kernel
def mx_c22 : List Nat := [0, 0, 1, 2, 5, 8, 11, 14, 15, 18, 19, 20, 21, 24, 27, 28, 29, 32, 33, 34, 35, 38, 39, 40, 41, 42, 43, 44, 45, 48, 49, 50, 51, 52, 55, 56, 57, 58, 61, 62, 63]
def mx_k22 : List (Nat × Nat × Nat) := [(0, 0, 0), (0, 0, 0), (0, 0, 0), (45, 0, 8), (133, 0, 29), (136, 3, 0), (0, 0, 0), (0, 0, 0), (36, 0, 22), (0, 0, 0), (0, 0, 0), (0, 0, 0), (45, 0, 8), (139, 0, 30), (0, 0, 0), (0, 0, 0), (0, 0, 0), (0, 0, 0), (0, 0, 0), (0, 0, 0), (36, 0, 22), (0, 0, 0), (0, 0, 0), (0, 0, 0), (0, 0, 0), (0, 0, 0), (0, 0, 0), (0, 0, 0), (15, 0, 4), (0, 0, 0), (0, 0, 0), (0, 0, 0), (0, 0, 0), (30, 0, 20), (0, 0, 0), (0, 0, 0), (0, 0, 0), (130, 0, 17), (0, 0, 0), (0, 0, 0), (0, 0, 0)]
set_option maxRecDepth 100000 in
theorem mx_t22 : mx_chk 1 (mx_mC 22) (mx_nl 22) (mx_mR 22) (mx_nth mx_c22) 0 mx_p22 mx_k22 = true := by decide +kernel
def mx_c23 : List Nat := [0, 0, 1, 4, 5, 7, 8, 9, 10, 13, 14, 15, 18]
def mx_k23 : List (Nat × Nat × Nat) := [(0, 0, 0), (0, 0, 0), (15, 0, 4), (0, 0, 0), (0, 1, 0), (0, 0, 0), (0, 0, 0), (0, 0, 0), (57, 0, 13), (0, 0, 0), (0, 0, 0), (57, 0, 13), (0, 0, 0)]
set_option maxRecDepth 100000 in
theorem mx_t23 : mx_chk 1 (mx_mC 23) (mx_nl 23) (mx_mR 23) (mx_nth mx_c23) 0 mx_p23 mx_k23 = true := by decide +kernel
def mx_c24 : List Nat := [0, 0, 1, 4, 5, 6, 7, 8, 11, 12, 13, 16, 17, 20, 21, 22, 23, 24, 25, 26, 29, 30, 33, 34, 35, 36, 39, 40, 41, 44, 47, 48, 51, 52, 53, 54, 57, 58, 61, 62, 63, 64, 65, 66, 69, 70, 71, 72, 73, 74, 75, 78, 79, 80, 81, 82, 83, 86, 87, 88, 89, 90, 91]
def mx_k24 : List (Nat × Nat × Nat) := [(0, 0, 0), (0, 0, 0), (39, 0, 5), (0, 0, 0), (0, 0, 0), (0, 0, 0), (0, 0, 0), (18, 0, 17), (0, 0, 0), (0, 0, 0), (0, 0, 0), (0, 0, 0), (18, 0, 17), (0, 0, 0), (0, 0, 0), (0, 0, 0), (0, 0, 0), (0, 0, 0), (0, 0, 0), (0, 0, 0), (0, 0, 0), (15, 0, 4), (0, 0, 0), (0, 0, 0), (0, 0, 0), (0, 0, 0), (0, 0, 0), (0, 0, 0), (115, 0, 18), (0, 0, 0), (0, 0, 0), (30, 0, 20), (0, 0, 0), (0, 0, 0), (0, 0, 0), (0, 0, 0), (0, 0, 0), (27, 0, 10), (0, 0, 0), (0, 0, 0), (0, 0, 0), (0, 0, 0), (0, 0, 0), (30, 0, 20), (0, 0, 0), (0, 0, 0), (0, 0, 0), (0, 0, 0), (0, 0, 0), (0, 0, 0), (24, 0, 19), (0, 0, 0), (0, 0, 0), (0, 0, 0), (0, 0, 0), (0, 0, 0), (30, 0, 20), (0, 0, 0), (0, 0, 0), (0, 0, 0), (0, 0, 0), (0, 0, 0), (0, 0, 0)]
set_option maxRecDepth 100000 in
theorem mx_t24 : mx_chk 1 (mx_mC 24) (mx_nl 24) (mx_mR 24) (mx_nth mx_c24) 0 mx_p24 mx_k24 = true := by decide +kernel
def mx_c25 : List Nat := [0, 0, 1, 4, 7, 8, 11, 12, 13, 14, 15, 18, 21, 22, 23, 24, 27, 30, 31, 32, 35]
def mx_k25 : List (Nat × Nat × Nat) := [(0, 0, 0), (0, 0, 0), (45, 0, 8), (105, 0, 31), (0, 0, 0), (9, 0, 16), (0, 0, 0), (0, 0, 0), (0, 0, 0), (0, 0, 0), (53, 0, 12), (0, 0, 0), (0, 0, 0), (0, 0, 0), (0, 0, 0), (108, 0, 19), (0, 0, 0), (0, 0, 0), (0, 0, 0), (112, 0, 20), (0, 0, 0)]
set_option maxRecDepth 100000 in
theorem mx_t25 : mx_chk 1 (mx_mC 25) (mx_nl 25) (mx_mR 25) (mx_nth mx_c25) 0 mx_p25 mx_k25 = true := by decide +kernel
def mx_c26 : List Nat := [0, 0, 1, 4, 5, 6, 7, 10, 13, 16, 17, 20, 21, 22, 23, 26, 27, 28, 29, 30, 31, 32, 33, 36, 37, 38, 41, 42, 45, 46, 47, 48, 51, 52, 53, 54, 55, 58, 60, 63, 64, 65, 68, 71, 72, 73, 74, 75, 76, 77, 79, 80, 81, 82, 84, 85, 88, 90, 91, 92, 93, 94, 95, 96, 99, 101, 102, 103, 106, 109, 110, 111, 114, 115, 118, 121, 124, 125, 128, 130, 131, 132, 135, 138, 141, 142, 145, 146, 147, 148, 149, 150, 151, 152, 153]
def mx_k26 : List (Nat × Nat × Nat) := [(0, 0, 0), (0, 0, 0), (42, 0, 32), (0, 0, 0), (0, 0, 0), (0, 0, 0), (45, 0, 8), (142, 0, 33), (0, 0, 0), (0, 0, 0), (0, 0, 0), (0, 0, 0), (0, 0, 0), (0, 0, 0), (42, 0, 32), (0, 0, 0), (0, 0, 0), (0, 0, 0), (0, 0, 0), (0, 0, 0), (0, 0, 0), (0, 0, 0), (39, 0, 5), (0, 0, 0), (0, 0, 0), (0, 0, 0), (0, 0, 0), (0, 0, 0), (0, 0, 0), (0, 0, 0), (0, 0, 0), (21, 0, 11), (0, 0, 0), (0, 0, 0), (0, 0, 0), (0, 0, 0), (0, 0, 0), (0, 1, 0), (0, 0, 0), (0, 0, 0), (0, 0, 0), (45, 0, 8), (145, 0, 28), (0, 0, 0), (0, 0, 0), (0, 0, 0), (0, 0, 0), (0, 0, 0), (0, 0, 0), (0, 1, 0), (0, 0, 0), (0, 0, 0), (0, 0, 0), (0, 1, 0), (0, 0, 0), (33, 0, 21), (0, 1, 0), (0, 0, 0), (0, 0, 0), (0, 0, 0), (0, 0, 0), (0, 0, 0), (0, 0, 0), (33, 0, 21), (0, 1, 0), (0, 0, 0), (0, 0, 0), (45, 0, 8), (148, 0, 34), (0, 0, 0), (0, 0, 0), (0, 0, 0), (0, 0, 0), (45, 0, 8), (151, 0, 35), (0, 0, 0), (0, 0, 0), (33, 0, 21), (0, 1, 0), (0, 0, 0), (0, 0, 0), (45, 0, 8), (151, 0, 35), (0, 0, 0), (0, 0, 0), (24, 0, 19), (0, 0, 0), (0, 0, 0), (0, 0, 0), (0, 0, 0), (0, 0, 0), (0, 0, 0), (0, 0, 0), (0, 0, 0), (0, 0, 0)]
set_option maxRecDepth 100000 in
theorem mx_t26 : mx_chk 1 (mx_mC 26) (mx_nl 26) (mx_mR 26) (mx_nth mx_c26) 0 mx_p26 mx_k26 = true := by decide +kernel
def mx_c27 : List Nat := [0, 0, 1, 4, 5, 6, 7, 8, 11, 12, 13, 14, 17, 18, 21, 22, 23, 24, 25, 26, 27, 28, 29, 32, 33, 34, 37, 38, 39, 40, 41, 44, 47, 48, 51, 52, 53, 54, 56, 58, 59, 62, 63, 64, 65, 68, 69, 70, 73, 76, 77, 78, 79, 82, 85, 86, 88, 89, 91, 92, 93, 96, 99, 100, 103, 104, 105, 106, 107, 108, 109, 112, 113, 114, 117, 118, 121, 122, 123, 124, 127, 128, 131, 132, 133, 134, 137, 138]
def mx_k27 : List (Nat × Nat × Nat) := [(0, 0, 0), (0, 0, 0), (15, 0, 4), (0, 0, 0), (0, 0, 0), (0, 0, 0), (0, 0, 0), (30, 0, 20), (0, 0, 0), (0, 0, 0), (0, 0, 0), (0, 0, 0), (0, 0, 0), (36, 0, 22), (0, 0, 0), (0, 0, 0), (0, 0, 0), (0, 0, 0), (0, 0, 0), (0, 0, 0), (0, 0, 0), (0, 0, 0), (115, 0, 18), (0, 0, 0), (0, 0, 0), (24, 0, 19), (0, 0, 0), (0, 0, 0), (0, 0, 0), (0, 0, 0), (45, 0, 8), (118, 0, 27), (0, 0, 0), (30, 0, 20), (0, 0, 0), (0, 0, 0), (0, 0, 0), (0, 1, 0), (0, 1, 0), (0, 0, 0), (0, 0, 0), (0, 0, 0), (0, 0, 0), (0, 0, 0), (30, 0, 20), (0, 0, 0), (0, 0, 0), (121, 0, 21), (0, 0, 0), (0, 0, 0), (0, 0, 0), (0, 0, 0), (49, 0, 25), (125, 0, 36), (0, 0, 0), (0, 1, 0), (0, 0, 0), (0, 1, 0), (0, 0, 0), (0, 0, 0), (108, 0, 19), (0, 0, 0), (0, 0, 0), (36, 0, 22), (0, 0, 0), (0, 0, 0), (0, 0, 0), (0, 0, 0), (0, 0, 0), (0, 0, 0), (0, 0, 0), (0, 0, 0), (0, 0, 0), (112, 0, 20), (0, 0, 0), (24, 0, 19), (0, 0, 0), (0, 0, 0), (0, 0, 0), (0, 0, 0), (0, 0, 0), (30, 0, 20), (0, 0, 0), (0, 0, 0), (0, 0, 0), (130, 0, 17), (0, 0, 0), (0, 0, 0)]
set_option maxRecDepth 100000 in
theorem mx_t27 : mx_chk 1 (mx_mC 27) (mx_nl 27) (mx_mR 27) (mx_nth mx_c27) 0 mx_p27 mx_k27 = true := by decide +kernel
def mx_c28 : List Nat := [0, 0, 1, 4, 5, 6, 7, 8, 9, 9, 10, 11, 14, 17, 20, 21, 22, 25, 26, 27, 30, 31, 34, 37, 38]
def mx_k28 : List (Nat × Nat × Nat) := [(0, 0, 0), (0, 0, 0), (21, 0, 11), (0, 0, 0), (0, 0, 0), (0, 0, 0), (0, 0, 0), (0, 0, 0), (0, 0, 0), (0, 0, 0), (0, 0, 0), (45, 0, 8), (83, 0, 9), (0, 0, 0), (0, 0, 0), (0, 0, 0), (21, 0, 11), (0, 0, 0), (0, 0, 0), (93, 0, 22), (0, 0, 0), (0, 0, 0), (0, 0, 0), (0, 0, 0), (0, 0, 0)]
set_option maxRecDepth 100000 in
theorem mx_t28 : mx_chk 1 (mx_mC 28) (mx_nl 28) (mx_mR 28) (mx_nth mx_c28) 0 mx_p28 mx_k28 = true := by decide +kernel
def mx_c29 : List Nat := [0, 0, 1, 4, 5, 8, 9, 10, 10, 11, 12, 15, 18, 21, 22, 25, 26, 27, 28, 29, 32, 33, 34, 35, 38, 39, 40, 43, 46, 47, 50, 51, 52, 54, 57, 58, 59, 62, 65, 68, 69, 70, 73, 74, 75, 78]
def mx_k29 : List (Nat × Nat × Nat) := [(0, 0, 0), (0, 0, 0), (42, 0, 32), (0, 0, 0), (71, 1, 16), (0, 0, 0), (0, 0, 0), (0, 0, 0), (0, 0, 0), (0, 0, 0), (45, 0, 8), (83, 0, 9), (0, 0, 0), (0, 0, 0), (39, 0, 5), (0, 0, 0), (0, 0, 0), (0, 0, 0), (0, 0, 0), (15, 0, 4), (0, 0, 0), (0, 0, 0), (0, 0, 0), (0, 0, 0), (0, 0, 0), (0, 0, 0), (86, 0, 23), (0, 0, 0), (0, 0, 0), (15, 0, 4), (0, 0, 0), (0, 0, 0), (0, 1, 0), (0, 0, 0), (0, 0, 0), (0, 0, 0), (90, 0, 24), (0, 0, 0), (0, 0, 0), (0, 0, 0), (0, 0, 0), (53, 0, 12), (0, 0, 0), (0, 0, 0), (53, 0, 12), (0, 0, 0)]
set_option maxRecDepth 100000 in
theorem mx_t29 : mx_chk 1 (mx_mC 29) (mx_nl 29) (mx_mR 29) (mx_nth mx_c29) 0 mx_p29 mx_k29 = true := by decide +kernel
end
section
def mx_c30 : List Nat := [0, 0, 1, 2, 5, 8, 9, 10, 13, 16, 17, 20, 21, 22, 25, 26, 28, 31, 32, 35, 36, 37, 40, 41, 43, 46, 47, 50, 51, 52, 55, 56, 58, 61, 62, 65, 66, 67, 70, 71, 73, 76, 77, 80, 81, 82, 85, 86, 88, 91, 92, 95, 96, 97, 100, 101, 103, 106, 107, 110, 111, 112, 115, 116, 118, 121, 122, 125, 126, 127, 130, 131, 132, 135, 136, 139, 140, 143, 144, 145, 148, 149, 151, 154, 155, 158, 159, 160, 163, 164, 166, 169]
def mx_k30 : List (Nat × Nat × Nat) := [(0, 0, 0), (0, 0, 0), (0, 0, 0), (53, 0, 12), (53, 0, 12), (0, 0, 0), (0, 0, 0), (57, 0, 13), (57, 0, 13), (0, 0, 0), (9, 0, 16), (0, 0, 0), (0, 0, 0), (9, 0, 16), (0, 0, 0), (0, 1, 0), (77, 0, 25), (0, 0, 0), (15, 0, 4), (0, 0, 0), (0, 0, 0), (15, 0, 4), (0, 0, 0), (0, 1, 0), (77, 0, 25), (0, 0, 0), (18, 0, 17), (0, 0, 0), (0, 0, 0), (18, 0, 17), (0, 0, 0), (0, 1, 0), (77, 0, 25), (0, 0, 0), (21, 0, 11), (0, 0, 0), (0, 0, 0), (21, 0, 11), (0, 0, 0), (0, 1, 0), (77, 0, 25), (0, 0, 0), (24, 0, 19), (0, 0, 0), (0, 0, 0), (24, 0, 19), (0, 0, 0), (0, 1, 0), (77, 0, 25), (0, 0, 0), (27, 0, 10), (0, 0, 0), (0, 0, 0), (27, 0, 10), (0, 0, 0), (0, 1, 0), (77, 0, 25), (0, 0, 0), (30, 0, 20), (0, 0, 0), (0, 0, 0), (30, 0, 20), (0, 0, 0), (0, 1, 0), (77, 0, 25), (0, 0, 0), (33, 0, 21), (0, 0, 0), (0, 0, 0), (33, 0, 21), (0, 0, 0), (0, 0, 0), (33, 0, 21), (0, 0, 0), (77, 0, 25), (0, 0, 0), (36, 0, 22), (0, 0, 0), (0, 0, 0), (36, 0, 22), (0, 0, 0), (0, 1, 0), (77, 0, 25), (0, 0, 0), (39, 0, 5), (0, 0, 0), (0, 0, 0), (39, 0, 5), (0, 0, 0), (0, 1, 0), (77, 0, 25), (0, 0, 0)]
set_option maxRecDepth 100000 in
theorem mx_t30 : mx_chk 1 (mx_mC 30) (mx_nl 30) (mx_mR 30) (mx_nth mx_c30) 0 mx_p30 mx_k30 = true := by decide +kernel
def mx_c31 : List Nat := [0, 0, 1, 4, 5, 8, 9, 11, 11, 13, 14, 17, 18, 21, 24, 25, 28, 31, 34, 35, 38, 41, 44, 47, 48, 76, 77, 80, 83, 84, 85, 88, 91, 92, 93, 96, 99]
def mx_k31 : List (Nat × Nat × Nat) := [(0, 0, 0), (0, 0, 0), (28, 0, 37), (0, 0, 0), (46, 0, 26), (0, 0, 0), (0, 1, 0), (0, 0, 0), (0, 1, 0), (0, 0, 0), (0, 0, 0), (0, 0, 0), (28, 0, 37), (50, 0, 38), (0, 0, 0), (10, 0, 39), (54, 0, 40), (0, 0, 0), (0, 0, 0), (28, 0, 37), (57, 0, 27), (0, 0, 0), (0, 0, 0), (0, 0, 0), (28, 1, 0), (0, 0, 0), (28, 0, 37), (60, 0, 28), (0, 0, 0), (0, 0, 0), (28, 0, 37), (64, 0, 29), (0, 0, 0), (0, 0, 0), (28, 0, 37), (67, 0, 30), (0, 0, 0)]
set_option maxRecDepth 100000 in
theorem mx_t31 : mx_chk 2 (mx_mC 31) (mx_nl 31) (mx_mR 31) (mx_nth mx_c31) 0 mx_p31 mx_k31 = true := by decide +kernel
def mx_c32 : List Nat := [0, 0, 1, 2, 5, 8, 9, 10, 13, 16, 17, 18, 21, 24, 25, 26, 29, 32, 33, 34, 37, 40, 41, 42, 45, 48, 49, 50, 53, 56, 57, 60, 61, 62, 65, 66, 68, 71, 72, 75, 76, 77, 80, 81, 83, 86, 87, 90, 91, 92, 95, 96, 98, 101, 102, 105, 106, 107, 110, 111, 113, 116, 117, 120, 121, 122, 125, 126, 128, 131, 132, 135, 136, 137, 140, 141, 143, 146, 147, 150, 151, 152, 155, 156, 158, 161, 162, 165, 166, 167, 170, 171, 173, 176, 177, 180, 181, 182, 185, 186, 188, 191, 192, 195, 196, 197, 200, 201, 203, 206, 207, 210, 211, 212, 215, 216, 218, 221]
def mx_k32 : List (Nat × Nat × Nat) := [(0, 0, 0), (0, 0, 0), (0, 0, 0), (61, 0, 41), (61, 0, 41), (0, 0, 0), (0, 0, 0), (64, 0, 42), (64, 0, 42), (0, 0, 0), (0, 0, 0), (45, 0, 43), (45, 0, 43), (0, 0, 0), (0, 0, 0), (49, 0, 44), (49, 0, 44), (0, 0, 0), (0, 0, 0), (52, 0, 45), (52, 0, 45), (0, 0, 0), (0, 0, 0), (55, 0, 46), (55, 0, 46), (0, 0, 0), (0, 0, 0), (58, 0, 47), (58, 0, 47), (0, 0, 0), (9, 0, 48), (0, 0, 0), (0, 0, 0), (9, 0, 48), (0, 0, 0), (0, 1, 0), (67, 0, 31), (0, 0, 0), (15, 0, 49), (0, 0, 0), (0, 0, 0), (15, 0, 49), (0, 0, 0), (0, 1, 0), (67, 0, 31), (0, 0, 0), (18, 0, 50), (0, 0, 0), (0, 0, 0), (18, 0, 50), (0, 0, 0), (0, 1, 0), (67, 0, 31), (0, 0, 0), (21, 0, 51), (0, 0, 0), (0, 0, 0), (21, 0, 51), (0, 0, 0), (0, 1, 0), (67, 0, 31), (0, 0, 0), (24, 0, 52), (0, 0, 0), (0, 0, 0), (24, 0, 52), (0, 0, 0), (0, 1, 0), (67, 0, 31), (0, 0, 0), (27, 0, 53), (0, 0, 0), (0, 0, 0), (27, 0, 53), (0, 0, 0), (0, 1, 0), (67, 0, 31), (0, 0, 0), (30, 0, 54), (0, 0, 0), (0, 0, 0), (30, 0, 54), (0, 0, 0), (0, 1, 0), (67, 0, 31), (0, 0, 0), (33, 0, 55), (0, 0, 0), (0, 0, 0), (33, 0, 55), (0, 0, 0), (0, 1, 0), (67, 0, 31), (0, 0, 0), (36, 0, 56), (0, 0, 0), (0, 0, 0), (36, 0, 56), (0, 0, 0), (0, 1, 0), (67, 0, 31), (0, 0, 0), (39, 0, 57), (0, 0, 0), (0, 0, 0), (39, 0, 57), (0, 0, 0), (0, 1, 0), (67, 0, 31), (0, 0, 0), (42, 0, 58), (0, 0, 0), (0, 0, 0), (42, 0, 58), (0, 0, 0), (0, 1, 0), (67, 0, 31), (0, 0, 0)]
set_option maxRecDepth 100000 in
theorem mx_t32 : mx_chk 3 (mx_mC 32) (mx_nl 32) (mx_mR 32) (mx_nth mx_c32) 0 mx_p32 mx_k32 = true := by decide +kernel
def mx_c33 : List Nat := [0, 0, 1, 4, 5, 6, 9, 10, 11, 14, 15, 18, 19, 22, 23, 24, 27, 28, 29, 32, 33, 36]
def mx_k33 : List (Nat × Nat × Nat) := [(0, 0, 0), (0, 0, 0), (9, 0, 59), (0, 0, 0), (0, 0, 0), (9, 0, 59), (0, 0, 0), (0, 0, 0), (9, 0, 59), (0, 0, 0), (38, 0, 32), (0, 0, 0), (15, 0, 60), (0, 0, 0), (0, 0, 0), (15, 0, 60), (0, 0, 0), (0, 0, 0), (15, 0, 60), (0, 0, 0), (38, 0, 32), (0, 0, 0)]
set_option maxRecDepth 100000 in
theorem mx_t33 : mx_chk 6 (mx_mC 33) (mx_nl 33) (mx_mR 33) (mx_nth mx_c33) 0 mx_p33 mx_k33 = true := by decide +kernel
def mx_c34 : List Nat := [0, 0, 1, 4, 5, 8, 11, 12, 15, 16, 19, 22]
def mx_k34 : List (Nat × Nat × Nat) := [(0, 0, 0), (0, 0, 0), (10, 0, 39), (0, 0, 0), (10, 0, 39), (32, 0, 33), (0, 0, 0), (19, 0, 61), (0, 0, 0), (19, 0, 61), (36, 0, 34), (0, 0, 0)]
set_option maxRecDepth 100000 in
theorem mx_t34 : mx_chk 2 (mx_mC 34) (mx_nl 34) (mx_mR 34) (mx_nth mx_c34) 0 mx_p34 mx_k34 = true := by decide +kernel
def mx_c35 : List Nat := [0, 0, 1, 2, 5, 6, 9, 10, 13, 16]
def mx_k35 : List (Nat × Nat × Nat) := [(0, 0, 0), (0, 0, 0), (0, 0, 0), (39, 0, 35), (0, 0, 0), (28, 0, 37), (0, 0, 0), (28, 0, 37), (43, 0, 36), (0, 0, 0)]
set_option maxRecDepth 100000 in
theorem mx_t35 : mx_chk 2 (mx_mC 35) (mx_nl 35) (mx_mR 35) (mx_nth mx_c35) 0 mx_p35 mx_k35 = true := by decide +kernel
def mx_c36 : List Nat := [0, 0, 3, 6, 7, 10, 13, 14, 17, 18]
def mx_k36 : List (Nat × Nat × Nat) := [(0, 0, 0), (38, 0, 62), (0, 0, 0), (0, 0, 0), (15, 0, 63), (0, 0, 0), (0, 0, 0), (0, 0, 0), (0, 0, 0), (0, 0, 0)]
set_option maxRecDepth 100000 in
theorem mx_t36 : mx_chk 9 (mx_mC 36) (mx_nl 36) (mx_mR 36) (mx_nth mx_c36) 0 mx_p36 mx_k36 = true := by decide +kernel
def mx_c37 : List Nat := [0, 0, 1, 4, 5, 6, 9, 10, 11, 12, 15, 16, 17]
def mx_k37 : List (Nat × Nat × Nat) := [(0, 0, 0), (0, 0, 0), (0, 0, 0), (0, 0, 0), (0, 0, 0), (0, 0, 0), (0, 0, 0), (0, 0, 0), (0, 0, 0), (0, 0, 0), (0, 0, 0), (0, 0, 0), (0, 0, 0)]
set_option maxRecDepth 100000 in
theorem mx_t37 : mx_chk 11 (mx_mC 37) (mx_nl 37) (mx_mR 37) (mx_nth mx_c37) 0 mx_p37 mx_k37 = true := by decide +kernel
def mx_c38 : List Nat := [0, 0, 1, 2, 5, 8, 9]
def mx_k38 : List (Nat × Nat × Nat) := [(0, 0, 0), (0, 0, 0), (0, 0, 0), (1053, 0, 64), (1059, 1, 37), (0, 0, 0), (0, 0, 0)]
set_option maxRecDepth 100000 in
theorem mx_t38 : mx_chk 9 (mx_mC 38) (mx_nl 38) (mx_mR 38) (mx_nth mx_c38) 0 mx_p38 mx_k38 = true := by decide +kernel
def mx_c39 : List Nat := [0, 0, 1, 2, 3, 6, 7, 8, 9, 12, 13, 14]
def mx_k39 : List (Nat × Nat × Nat) := [(0, 0, 0), (0, 0, 0), (0, 0, 0), (0, 0, 0), (9, 1, 38), (0, 0, 0), (0, 0, 0), (0, 0, 0), (0, 2, 0), (0, 0, 0), (0, 0, 0), (0, 0, 0)]
set_option maxRecDepth 100000 in
theorem mx_t39 : mx_chk 10 (mx_mC 39) (mx_nl 39) (mx_mR 39) (mx_nth mx_c39) 0 mx_p39 mx_k39 = true := by decide +kernel
def mx_c40 : List Nat := [0, 0, 1, 4, 7, 8, 11, 12, 15, 16, 17, 20, 21, 24]
def mx_k40 : List (Nat × Nat × Nat) := [(0, 0, 0), (0, 0, 0), (492, 0, 39), (0, 0, 0), (0, 0, 0), (9, 0, 65), (0, 0, 0), (495, 1, 40), (0, 0, 0), (0, 0, 0), (9, 0, 65), (0, 0, 0), (0, 0, 0), (0, 0, 0)]
set_option maxRecDepth 100000 in
theorem mx_t40 : mx_chk 9 (mx_mC 40) (mx_nl 40) (mx_mR 40) (mx_nth mx_c40) 0 mx_p40 mx_k40 = true := by decide +kernel
def mx_c41 : List Nat := [0, 0, 3, 6, 7, 10, 13, 14]
def mx_k41 : List (Nat × Nat × Nat) := [(0, 0, 0), (38, 0, 62), (0, 0, 0), (0, 0, 0), (15, 0, 63), (0, 0, 0), (0, 0, 0), (0, 0, 0)]
set_option maxRecDepth 100000 in
theorem mx_t41 : mx_chk 9 (mx_mC 41) (mx_nl 41) (mx_mR 41) (mx_nth mx_c41) 0 mx_p41 mx_k41 = true := by decide +kernel
def mx_c42 : List Nat := [0, 0, 1, 4, 5, 6, 9, 10]
def mx_k42 : List (Nat × Nat × Nat) := [(0, 0, 0), (0, 0, 0), (9, 0, 65), (0, 0, 0), (0, 0, 0), (335, 0, 41), (0, 0, 0), (0, 0, 0)]
set_option maxRecDepth 100000 in
theorem mx_t42 : mx_chk 9 (mx_mC 42) (mx_nl 42) (mx_mR 42) (mx_nth mx_c42) 0 mx_p42 mx_k42 = true := by decide +kernel
def mx_c43 : List Nat := [0, 0, 1, 4, 6, 9, 10, 13, 14, 17, 18, 19, 20, 23, 24, 27, 28, 29, 30, 33, 34, 37, 38, 41, 42, 45, 46, 47, 48, 49, 52, 53, 54, 57]
def mx_k43 : List (Nat × Nat × Nat) := [(0, 0, 0), (0, 0, 0), (49, 0, 44), (0, 1, 0), (0, 0, 0), (0, 0, 0), (15, 0, 49), (0, 0, 0), (49, 0, 44), (0, 0, 0), (0, 0, 0), (0, 0, 0), (18, 0, 50), (0, 0, 0), (49, 0, 44), (0, 0, 0), (0, 0, 0), (0, 0, 0), (21, 0, 51), (0, 0, 0), (49, 0, 44), (0, 0, 0), (0, 0, 0), (0, 0, 0), (0, 0, 0), (0, 0, 0), (0, 0, 0), (0, 0, 0), (0, 0, 0), (49, 0, 44), (0, 0, 0), (0, 0, 0), (49, 0, 44), (0, 0, 0)]
set_option maxRecDepth 100000 in
theorem mx_t43 : mx_chk 3 (mx_mC 43) (mx_nl 43) (mx_mR 43) (mx_nth mx_c43) 0 mx_p43 mx_k43 = true := by decide +kernel
def mx_c44 : List Nat := [0, 0, 1, 4, 6, 9, 10, 13, 14, 15, 17, 20, 21, 24, 25, 28, 29, 30, 31, 34, 35, 38, 39, 40, 41, 44, 45, 48, 49, 50, 51, 54, 55, 58, 60, 61, 62, 63, 66, 67, 68, 71, 72, 73, 76, 77, 78, 81]
def mx_k44 : List (Nat × Nat × Nat) := [(0, 0, 0), (0, 0, 0), (55, 0, 46), (0, 1, 0), (0, 0, 0), (0, 0, 0), (58, 0, 47), (0, 0, 0), (0, 0, 0), (0, 1, 0), (0, 0, 0), (0, 0, 0), (33, 0, 55), (0, 0, 0), (55, 0, 46), (0, 0, 0), (0, 0, 0), (0, 0, 0), (36, 0, 56), (0, 0, 0), (55, 0, 46), (0, 0, 0), (0, 0, 0), (0, 0, 0), (39, 0, 57), (0, 0, 0), (55, 0, 46), (0, 0, 0), (0, 0, 0), (0, 0, 0), (42, 0, 58), (0, 0, 0), (55, 0, 46), (0, 1, 0), (0, 0, 0), (0, 0, 0), (0, 0, 0), (55, 0, 46), (0, 0, 0), (0, 0, 0), (55, 0, 46), (0, 0, 0), (0, 0, 0), (58, 0, 47), (0, 0, 0), (0, 0, 0), (58, 0, 47), (0, 0, 0)]
set_option maxRecDepth 100000 in
theorem mx_t44 : mx_chk 3 (mx_mC 44) (mx_nl 44) (mx_mR 44) (mx_nth mx_c44) 0 mx_p44 mx_k44 = true := by decide +kernel
def mx_c45 : List Nat := [0, 0, 1, 4, 6, 9, 10, 13, 14, 17, 18, 19, 20, 23, 24, 27, 28, 29, 30, 33, 34, 37, 38, 39, 41, 42, 43, 44, 45, 46, 49, 50, 51, 54]
def mx_k45 : List (Nat × Nat × Nat) := [(0, 0, 0), (0, 0, 0), (52, 0, 45), (0, 1, 0), (0, 0, 0), (0, 0, 0), (24, 0, 52), (0, 0, 0), (52, 0, 45), (0, 0, 0), (0, 0, 0), (0, 0, 0), (27, 0, 53), (0, 0, 0), (52, 0, 45), (0, 0, 0), (0, 0, 0), (0, 0, 0), (30, 0, 54), (0, 0, 0), (52, 0, 45), (0, 0, 0), (0, 0, 0), (0, 1, 0), (0, 0, 0), (0, 0, 0), (0, 0, 0), (0, 0, 0), (0, 0, 0), (52, 0, 45), (0, 0, 0), (0, 0, 0), (52, 0, 45), (0, 0, 0)]
set_option maxRecDepth 100000 in
theorem mx_t45 : mx_chk 3 (mx_mC 45) (mx_nl 45) (mx_mR 45) (mx_nth mx_c45) 0 mx_p45 mx_k45 = true := by decide +kernel
def mx_c46 : List Nat := [0, 0, 1, 4, 6, 9, 10, 13, 14, 17, 18, 19, 20, 21, 24, 25, 26, 29]
def mx_k46 : List (Nat × Nat × Nat) := [(0, 0, 0), (0, 0, 0), (45, 0, 43), (0, 1, 0), (0, 0, 0), (0, 0, 0), (9, 0, 48), (0, 0, 0), (45, 0, 43), (0, 0, 0), (0, 0, 0), (0, 0, 0), (0, 0, 0), (45, 0, 43), (0, 0, 0), (0, 0, 0), (45, 0, 43), (0, 0, 0)]
set_option maxRecDepth 100000 in
theorem mx_t46 : mx_chk 3 (mx_mC 46) (mx_nl 46) (mx_mR 46) (mx_nth mx_c46) 0 mx_p46 mx_k46 = true := by decide +kernel
def mx_c47 : List Nat := [0, 0, 1, 2, 5, 6, 7, 10, 11, 12, 15, 16, 17, 20, 21, 22, 25]
def mx_k47 : List (Nat × Nat × Nat) := [(0, 0, 0), (0, 0, 0), (0, 0, 0), (45, 0, 43), (0, 0, 0), (0, 0, 0), (49, 0, 44), (0, 0, 0), (0, 0, 0), (52, 0, 45), (0, 0, 0), (0, 0, 0), (55, 0, 46), (0, 0, 0), (0, 0, 0), (58, 0, 47), (0, 0, 0)]
set_option maxRecDepth 100000 in
theorem mx_t47 : mx_chk 3 (mx_mC 47) (mx_nl 47) (mx_mR 47) (mx_nth mx_c47) 0 mx_p47 mx_k47 = true := by decide +kernel
def mx_c48 : List Nat := [0, 0, 1, 2, 5, 6, 7, 10, 11, 14, 15]
def mx_k48 : List (Nat × Nat × Nat) := [(0, 0, 0), (0, 0, 0), (0, 0, 0), (0, 0, 0), (0, 0, 0), (0, 0, 0), (0, 0, 0), (0, 0, 0), (0, 0, 0), (0, 0, 0), (0, 0, 0)]
set_option maxRecDepth 100000 in
theorem mx_t48 : mx_chk 7 (mx_mC 48) (mx_nl 48) (mx_mR 48) (mx_nth mx_c48) 0 mx_p48 mx_k48 = true := by decide +kernel
def mx_c49 : List Nat := [0, 0, 1, 2, 5, 5, 6, 9, 10, 13, 16, 17, 20, 21, 24, 25, 27, 29, 32, 35, 36, 37, 40, 41, 42, 45, 48]
def mx_k49 : List (Nat × Nat × Nat) := [(0, 0, 0), (0, 0, 0), (0, 0, 0), (52, 0, 66), (0, 0, 0), (0, 0, 0), (28, 0, 67), (0, 0, 0), (15, 0, 68), (0, 0, 0), (0, 0, 0), (9, 0, 69), (0, 0, 0), (28, 0, 67), (0, 0, 0), (0, 1, 0), (0, 1, 0), (121, 3, 1), (0, 0, 0), (0, 0, 0), (0, 0, 0), (28, 0, 67), (0, 0, 0), (0, 0, 0), (28, 0, 67), (0, 0, 0), (0, 0, 0)]
set_option maxRecDepth 100000 in
theorem mx_t49 : mx_chk 4 (mx_mC 49) (mx_nl 49) (mx_mR 49) (mx_nth mx_c49) 0 mx_p49 mx_k49 = true := by decide +kernel
def mx_c50 : List Nat := [0, 0, 1, 2, 5, 5, 6, 9, 10, 13, 16, 17, 20, 21, 24, 25, 27, 29, 32, 35, 36, 37, 40, 41, 44, 45, 46, 49, 50, 53, 55, 56, 57, 60, 61, 64, 65, 66, 68, 69, 72, 73, 76, 79, 80, 81, 84, 85, 86, 89, 92, 93, 94, 97, 98, 101, 102, 103, 106, 107, 110, 111, 114]
def mx_k50 : List (Nat × Nat × Nat) := [(0, 0, 0), (0, 0, 0), (0, 0, 0), (88, 0, 70), (0, 0, 0), (0, 0, 0), (28, 0, 67), (0, 0, 0), (15, 0, 68), (0, 0, 0), (0, 0, 0), (9, 0, 69), (0, 0, 0), (28, 0, 67), (0, 0, 0), (0, 1, 0), (0, 1, 0), (121, 3, 1), (0, 0, 0), (0, 0, 0), (0, 0, 0), (28, 0, 67), (0, 0, 0), (131, 0, 71), (0, 0, 0), (0, 0, 0), (0, 0, 0), (0, 0, 0), (88, 0, 70), (0, 1, 0), (0, 0, 0), (0, 0, 0), (9, 0, 69), (0, 0, 0), (28, 0, 67), (0, 0, 0), (0, 0, 0), (0, 1, 0), (0, 0, 0), (0, 0, 0), (0, 0, 0), (88, 0, 70), (88, 0, 70), (0, 0, 0), (0, 0, 0), (28, 0, 67), (0, 0, 0), (0, 0, 0), (28, 0, 67), (0, 0, 0), (0, 0, 0), (0, 0, 0), (28, 0, 67), (0, 0, 0), (131, 0, 71), (0, 0, 0), (0, 0, 0), (0, 0, 0), (0, 0, 0), (0, 0, 0), (0, 0, 0), (52, 0, 66), (0, 0, 0)]
set_option maxRecDepth 100000 in
theorem mx_t50 : mx_chk 4 (mx_mC 50) (mx_nl 50) (mx_mR 50) (mx_nth mx_c50) 0 mx_p50 mx_k50 = true := by decide +kernel
def mx_c51 : List Nat := [0, 0, 1, 4, 5, 8, 11, 12, 15, 16, 19, 20, 22, 25, 26, 29, 30, 33, 34, 36, 39, 40, 41, 44, 45, 46, 49, 52, 53, 54, 57, 60, 61, 64, 65, 68, 71, 72, 73, 76, 79, 80, 83, 84, 87, 88, 90, 92, 95, 98, 99, 102, 105, 106, 109, 110, 113, 114, 116, 118, 121, 124, 125, 128, 131, 132, 133, 136, 137, 140, 141, 143, 146, 147, 150, 151, 154, 155, 156, 159, 160, 161, 164]
def mx_k51 : List (Nat × Nat × Nat) := [(0, 0, 0), (0, 0, 0), (28, 0, 67), (0, 0, 0), (15, 0, 68), (0, 0, 0), (0, 0, 0), (9, 0, 69), (0, 0, 0), (28, 0, 67), (0, 0, 0), (0, 1, 0), (0, 0, 0), (0, 0, 0), (9, 0, 69), (0, 0, 0), (28, 0, 67), (0, 0, 0), (0, 1, 0), (0, 0, 0), (0, 0, 0), (0, 0, 0), (28, 0, 67), (0, 0, 0), (0, 0, 0), (28, 0, 67), (0, 0, 0), (0, 0, 0), (0, 0, 0), (28, 0, 67), (131, 0, 71), (0, 0, 0), (28, 0, 67), (0, 0, 0), (15, 0, 68), (0, 0, 0), (0, 0, 0), (0, 0, 0), (52, 0, 66), (0, 0, 0), (0, 0, 0), (9, 0, 69), (0, 0, 0), (28, 0, 67), (0, 0, 0), (0, 1, 0), (0, 1, 0), (121, 3, 1), (0, 0, 0), (0, 0, 0), (142, 0, 42), (0, 0, 0), (0, 0, 0), (9, 0, 69), (0, 0, 0), (28, 0, 67), (0, 0, 0), (0, 1, 0), (0, 1, 0), (121, 3, 1), (0, 0, 0), (0, 0, 0), (145, 0, 43), (0, 0, 0), (0, 0, 0), (0, 0, 0), (9, 0, 69), (0, 0, 0), (28, 0, 67), (0, 0, 0), (0, 1, 0), (0, 0, 0), (0, 0, 0), (0, 0, 0), (0, 0, 0), (52, 0, 66), (0, 0, 0), (0, 0, 0), (28, 0, 67), (0, 0, 0), (0, 0, 0), (28, 0, 67), (0, 0, 0)]
set_option maxRecDepth 100000 in
theorem mx_t51 : mx_chk 4 (mx_mC 51) (mx_nl 51) (mx_mR 51) (mx_nth mx_c51) 0 mx_p51 mx_k51 = true := by decide +kernel
def mx_c52 : List Nat := [0, 0, 1, 4, 7, 8, 11, 12, 15, 16, 19, 20, 23, 24, 25, 28, 31, 32, 33, 34, 35, 35, 36, 37, 40, 43, 44, 47, 48, 51, 52, 53, 54, 55, 56, 59, 62, 63, 64, 67, 70, 71]
def mx_k52 : List (Nat × Nat × Nat) := [(0, 0, 0), (0, 0, 0), (31, 0, 72), (0, 0, 0), (0, 0, 0), (52, 0, 66), (0, 0, 0), (0, 0, 0), (0, 0, 0), (28, 0, 67), (0, 0, 0), (131, 0, 71), (0, 0, 0), (0, 0, 0), (134, 0, 44), (0, 0, 0), (0, 0, 0), (0, 0, 0), (0, 0, 0), (0, 0, 0), (0, 0, 0), (0, 0, 0), (0, 0, 0), (134, 0, 44), (0, 0, 0), (0, 0, 0), (9, 0, 69), (0, 0, 0), (131, 0, 71), (0, 0, 0), (0, 0, 0), (0, 0, 0), (0, 0, 0), (0, 0, 0), (138, 0, 45), (0, 0, 0), (0, 0, 0), (0, 0, 0), (0, 0, 0), (0, 0, 0), (0, 0, 0), (0, 0, 0)]
set_option maxRecDepth 100000 in
theorem mx_t52 : mx_chk 4 (mx_mC 52) (mx_nl 52) (mx_mR 52) (mx_nth mx_c52) 0 mx_p52 mx_k52 = true := by decide +kernel
def mx_c53 : List Nat := [0, 0, 1, 4, 7, 10, 11, 14, 15, 18, 19, 20, 21, 22, 25, 26, 27, 30]
def mx_k53 : List (Nat × Nat × Nat) := [(0, 0, 0), (0, 0, 0), (15, 0, 68), (0, 2, 0), (0, 0, 0), (0, 0, 0), (9, 0, 69), (0, 0, 0), (15, 0, 68), (0, 0, 0), (0, 0, 0), (0, 0, 0), (0, 0, 0), (15, 0, 68), (0, 0, 0), (0, 0, 0), (15, 0, 68), (0, 0, 0)]
set_option maxRecDepth 100000 in
theorem mx_t53 : mx_chk 4 (mx_mC 53) (mx_nl 53) (mx_mR 53) (mx_nth mx_c53) 0 mx_p53 mx_k53 = true := by decide +kernel
def mx_c54 : List Nat := [0, 0, 1, 4, 7, 8, 9, 10, 13, 16, 17, 18, 21, 24, 25, 26, 29, 30, 31, 34, 37, 38, 41]
def mx_k54 : List (Nat × Nat × Nat) := [(0, 0, 0), (0, 0, 0), (31, 0, 72), (0, 0, 0), (0, 0, 0), (0, 0, 0), (0, 0, 0), (75, 0, 46), (0, 0, 0), (0, 0, 0), (0, 0, 0), (31, 0, 72), (0, 0, 0), (0, 0, 0), (0, 0, 0), (0, 0, 0), (0, 0, 0), (0, 0, 0), (31, 0, 72), (0, 0, 0), (0, 0, 0), (34, 0, 47), (0, 0, 0)]
set_option maxRecDepth 100000 in
theorem mx_t54 : mx_chk 4 (mx_mC 54) (mx_nl 54) (mx_mR 54) (mx_nth mx_c54) 0 mx_p54 mx_k54 = true := by decide +kernel
def mx_c55 : List Nat := [0, 0, 1, 4, 5, 6, 9, 12, 13, 16, 17, 20, 21, 22, 25, 26, 29, 32, 33, 34, 35, 38, 41, 42, 43, 46, 47, 50, 53, 54, 57, 58]
def mx_k55 : List (Nat × Nat × Nat) := [(0, 0, 0), (0, 0, 0), (88, 0, 70), (0, 0, 0), (0, 0, 0), (31, 0, 72), (0, 0, 0), (0, 0, 0), (52, 0, 66), (0, 0, 0), (0, 0, 0), (0, 0, 0), (0, 0, 0), (31, 0, 72), (0, 0, 0), (31, 0, 72), (0, 0, 0), (0, 0, 0), (0, 0, 0), (0, 0, 0), (121, 3, 1), (0, 0, 0), (0, 0, 0), (0, 0, 0), (31, 0, 72), (0, 0, 0), (31, 0, 72), (0, 0, 0), (0, 0, 0), (34, 0, 47), (0, 0, 0), (0, 0, 0)]
set_option maxRecDepth 100000 in
theorem mx_t55 : mx_chk 4 (mx_mC 55) (mx_nl 55) (mx_mR 55) (mx_nth mx_c55) 0 mx_p55 mx_k55 = true := by decide +kernel
def mx_c56 : List Nat := [0, 0, 1, 4, 7, 8, 11, 12, 15, 16, 17, 20, 21, 24, 27, 28, 31]
def mx_k56 : List (Nat × Nat × Nat) := [(0, 0, 0), (0, 0, 0), (31, 0, 72), (0, 0, 0), (0, 0, 0), (52, 0, 66), (0, 0, 0), (0, 0, 0), (0, 0, 0), (0, 0, 0), (31, 0, 72), (0, 0, 0), (31, 0, 72), (0, 0, 0), (0, 0, 0), (34, 0, 47), (0, 0, 0)]
set_option maxRecDepth 100000 in
theorem mx_t56 : mx_chk 4 (mx_mC 56) (mx_nl 56) (mx_mR 56) (mx_nth mx_c56) 0 mx_p56 mx_k56 = true := by decide +kernel
def mx_c57 : List Nat := [0, 0, 1, 3, 4, 5, 8, 9, 12, 13, 14, 16, 19, 22, 23, 26, 27, 28, 30, 33, 36, 37, 40]
def mx_k57 : List (Nat × Nat × Nat) := [(0, 0, 0), (0, 0, 0), (55, 0, 0), (0, 0, 0), (0, 0, 0), (57, 0, 48), (0, 0, 0), (19, 0, 73), (0, 0, 0), (0, 0, 0), (0, 1, 0), (61, 0, 49), (65, 0, 74), (0, 0, 0), (19, 0, 73), (0, 0, 0), (0, 0, 0), (0, 1, 0), (61, 0, 49), (67, 0, 75), (0, 0, 0), (70, 0, 50), (0, 0, 0)]
set_option maxRecDepth 100000 in
theorem mx_t57 : mx_chk 4 (mx_mC 57) (mx_nl 57) (mx_mR 57) (mx_nth mx_c57) 0 mx_p57 mx_k57 = true := by decide +kernel
def mx_c58 : List Nat := [0, 0, 1, 2, 2, 3, 5, 8, 9, 12, 13, 15, 18, 21, 22, 24, 25, 27, 30, 31, 32, 34, 37, 38, 39, 42, 43, 46, 49, 50, 53, 54, 57, 60, 63]
def mx_k58 : List (Nat × Nat × Nat) := [(0, 0, 0), (0, 0, 0), (0, 0, 0), (0, 0, 0), (0, 0, 0), (0, 1, 0), (0, 0, 0), (0, 0, 0), (0, 0, 0), (0, 0, 0), (73, 0, 0), (75, 0, 46), (0, 0, 0), (0, 0, 0), (73, 0, 0), (0, 0, 0), (0, 1, 0), (57, 0, 48), (0, 0, 0), (0, 0, 0), (0, 1, 0), (61, 0, 49), (0, 0, 0), (0, 0, 0), (70, 0, 50), (0, 0, 0), (31, 0, 72), (0, 0, 0), (0, 0, 0), (19, 0, 73), (0, 0, 0), (79, 0, 51), (0, 0, 0), (0, 0, 0), (0, 0, 0)]
set_option maxRecDepth 100000 in
theorem mx_t58 : mx_chk 4 (mx_mC 58) (mx_nl 58) (mx_mR 58) (mx_nth mx_c58) 0 mx_p58 mx_k58 = true := by decide +kernel
def mx_c59 : List Nat := [0, 0, 1, 2, 2, 3, 5, 8, 9, 11, 14, 17, 18, 20, 21, 23, 26, 27, 28, 29, 32, 35, 36, 37, 40, 41, 42, 45, 48, 49, 52, 53, 56, 57, 60, 61, 64, 65, 66, 69, 70, 71, 72, 75, 78, 79, 80, 83, 84, 85, 87, 90, 92, 94, 97, 98, 101, 102, 105, 106, 109, 112, 113, 116, 117, 118, 120, 123, 126, 129]
def mx_k59 : List (Nat × Nat × Nat) := [(0, 0, 0), (0, 0, 0), (0, 0, 0), (0, 0, 0), (0, 0, 0), (0, 1, 0), (0, 0, 0), (0, 0, 0), (83, 0, 0), (75, 0, 46), (0, 0, 0), (0, 0, 0), (83, 0, 0), (0, 0, 0), (0, 1, 0), (57, 0, 48), (0, 0, 0), (0, 0, 0), (0, 0, 0), (19, 0, 73), (85, 0, 76), (0, 0, 0), (0, 0, 0), (61, 0, 49), (0, 0, 0), (0, 0, 0), (31, 0, 72), (0, 0, 0), (0, 0, 0), (52, 0, 66), (0, 0, 0), (0, 0, 0), (0, 0, 0), (88, 0, 70), (0, 0, 0), (0, 0, 0), (0, 0, 0), (0, 0, 0), (31, 0, 72), (0, 0, 0), (0, 0, 0), (0, 0, 0), (19, 0, 73), (85, 0, 76), (0, 0, 0), (0, 0, 0), (61, 0, 49), (0, 0, 0), (0, 0, 0), (91, 0, 0), (75, 0, 46), (0, 1, 0), (0, 1, 0), (0, 0, 0), (0, 0, 0), (34, 0, 47), (0, 0, 0), (70, 0, 50), (0, 0, 0), (31, 0, 72), (0, 0, 0), (0, 0, 0), (19, 0, 73), (0, 0, 0), (0, 0, 0), (0, 1, 0), (93, 0, 52), (0, 0, 0), (0, 0, 0), (0, 0, 0)]
set_option maxRecDepth 100000 in
theorem mx_t59 : mx_chk 4 (mx_mC 59) (mx_nl 59) (mx_mR 59) (mx_nth mx_c59) 0 mx_p59 mx_k59 = true := by decide +kernel
end
section
def mx_c60 : List Nat := [0, 0, 1, 2, 2, 3, 5, 8, 9, 12, 13, 15, 18, 21, 22, 24, 25, 27, 30, 31, 32, 33, 36, 39, 40, 41, 44, 45, 46, 47, 49, 52, 53, 54, 57, 58, 61, 64, 65, 68, 69, 70, 73, 76, 79]
def mx_k60 : List (Nat × Nat × Nat) := [(0, 0, 0), (0, 0, 0), (0, 0, 0), (0, 0, 0), (0, 0, 0), (0, 1, 0), (0, 0, 0), (0, 0, 0), (0, 0, 0), (0, 0, 0), (97, 0, 0), (75, 0, 46), (0, 0, 0), (0, 0, 0), (97, 0, 0), (0, 0, 0), (0, 1, 0), (57, 0, 48), (0, 0, 0), (0, 0, 0), (0, 0, 0), (19, 0, 73), (85, 0, 76), (0, 0, 0), (0, 0, 0), (61, 0, 49), (0, 0, 0), (0, 0, 0), (0, 0, 0), (0, 1, 0), (61, 0, 49), (0, 0, 0), (0, 0, 0), (70, 0, 50), (0, 0, 0), (31, 0, 72), (0, 0, 0), (0, 0, 0), (19, 0, 73), (0, 0, 0), (0, 0, 0), (99, 0, 53), (0, 0, 0), (0, 0, 0), (0, 0, 0)]
set_option maxRecDepth 100000 in
theorem mx_t60 : mx_chk 4 (mx_mC 60) (mx_nl 60) (mx_mR 60) (mx_nth mx_c60) 0 mx_p60 mx_k60 = true := by decide +kernel
def mx_c61 : List Nat := [0, 0, 1, 3, 6, 9, 10, 13, 14, 16, 19, 22, 23, 26, 27, 29, 32, 35, 36, 39, 40, 41, 42, 45, 48, 49, 50, 53, 54, 55, 58, 59, 62, 65, 66, 69, 70]
def mx_k61 : List (Nat × Nat × Nat) := [(0, 0, 0), (0, 0, 0), (125, 0, 0), (75, 0, 46), (0, 0, 0), (0, 0, 0), (0, 0, 0), (0, 0, 0), (127, 0, 0), (75, 0, 46), (0, 0, 0), (0, 0, 0), (0, 0, 0), (0, 0, 0), (129, 0, 0), (75, 0, 46), (0, 0, 0), (0, 0, 0), (0, 0, 0), (0, 0, 0), (0, 0, 0), (0, 0, 0), (31, 0, 72), (0, 0, 0), (0, 0, 0), (0, 0, 0), (0, 0, 0), (0, 0, 0), (0, 0, 0), (31, 0, 72), (0, 0, 0), (31, 0, 72), (0, 0, 0), (0, 0, 0), (34, 0, 47), (0, 0, 0), (0, 0, 0)]
set_option maxRecDepth 100000 in
theorem mx_t61 : mx_chk 4 (mx_mC 61) (mx_nl 61) (mx_mR 61) (mx_nth mx_c61) 0 mx_p61 mx_k61 = true := by decide +kernel
def mx_c62 : List Nat := [0, 0, 1, 2, 2, 3, 5, 8, 9, 12, 13, 15, 18, 21, 22, 24, 25, 27, 30, 31, 32, 34, 36, 37, 40, 43, 44, 47, 50, 51, 52, 53, 55, 58, 59, 60, 63, 65, 66, 67, 69, 72, 74, 75, 78, 79, 82, 85, 86, 89, 90, 91, 93, 95, 98, 101, 104]
def mx_k62 : List (Nat × Nat × Nat) := [(0, 0, 0), (0, 0, 0), (0, 0, 0), (0, 0, 0), (0, 0, 0), (0, 1, 0), (0, 0, 0), (0, 0, 0), (0, 0, 0), (0, 0, 0), (103, 0, 0), (75, 0, 46), (0, 0, 0), (0, 0, 0), (103, 0, 0), (0, 0, 0), (0, 1, 0), (57, 0, 48), (0, 0, 0), (0, 0, 0), (0, 1, 0), (0, 1, 0), (0, 0, 0), (19, 0, 73), (105, 0, 77), (0, 0, 0), (108, 0, 54), (61, 0, 49), (0, 0, 0), (0, 0, 0), (0, 0, 0), (0, 1, 0), (61, 0, 49), (0, 0, 0), (0, 0, 0), (113, 0, 55), (0, 1, 0), (0, 0, 0), (0, 0, 0), (0, 1, 0), (61, 0, 49), (0, 1, 0), (0, 0, 0), (70, 0, 50), (0, 0, 0), (31, 0, 72), (0, 0, 0), (0, 0, 0), (19, 0, 73), (0, 0, 0), (0, 0, 0), (0, 1, 0), (0, 1, 0), (117, 0, 56), (0, 0, 0), (0, 0, 0), (0, 0, 0)]
set_option maxRecDepth 100000 in
theorem mx_t62 : mx_chk 4 (mx_mC 62) (mx_nl 62) (mx_mR 62) (mx_nth mx_c62) 0 mx_p62 mx_k62 = true := by decide +kernel
def mx_c63 : List Nat := [0, 0, 1, 2, 5, 6, 9, 12, 13, 14, 17, 18, 19, 22, 23, 26, 27, 30, 31, 34, 35, 38, 39, 42, 43, 46, 47, 50, 53, 54, 57, 60, 61, 62, 65]
def mx_k63 : List (Nat × Nat × Nat) := [(0, 0, 0), (0, 0, 0), (0, 0, 0), (19, 0, 73), (0, 0, 0), (19, 0, 73), (23, 0, 57), (0, 0, 0), (0, 0, 0), (28, 0, 67), (0, 0, 0), (0, 0, 0), (31, 0, 72), (0, 0, 0), (34, 0, 47), (0, 0, 0), (37, 0, 58), (0, 0, 0), (40, 0, 59), (0, 0, 0), (43, 0, 60), (0, 0, 0), (46, 0, 61), (0, 0, 0), (49, 0, 62), (0, 0, 0), (31, 0, 72), (0, 0, 0), (0, 0, 0), (52, 0, 66), (0, 0, 0), (0, 0, 0), (0, 0, 0), (31, 0, 72), (0, 0, 0)]
set_option maxRecDepth 100000 in
theorem mx_t63 : mx_chk 4 (mx_mC 63) (mx_nl 63) (mx_mR 63) (mx_nth mx_c63) 0 mx_p63 mx_k63 = true := by decide +kernel
def mx_c64 : List Nat := [0, 0, 1, 4, 7, 10, 11, 12, 12, 13, 14, 17, 20, 21, 24, 25, 27, 28, 29, 30, 31, 32, 35, 38, 39, 40, 40, 41, 42, 45, 48, 49, 52, 53, 56, 57, 58, 60, 61, 62, 65, 66, 67, 68, 69, 70, 71, 74, 75, 76, 79, 80, 83, 84, 87, 88, 89, 91, 92, 93, 96, 97, 98, 99, 100, 101, 104, 107]
def mx_k64 : List (Nat × Nat × Nat) := [(0, 0, 0), (0, 0, 0), (9, 0, 59), (0, 2, 0), (44, 1, 63), (0, 0, 0), (0, 0, 0), (0, 0, 0), (0, 0, 0), (0, 0, 0), (22, 0, 78), (0, 0, 0), (0, 0, 0), (9, 0, 59), (0, 0, 0), (0, 1, 0), (0, 0, 0), (0, 0, 0), (0, 0, 0), (0, 0, 0), (0, 0, 0), (0, 0, 0), (0, 0, 0), (0, 0, 0), (0, 0, 0), (0, 0, 0), (0, 0, 0), (0, 0, 0), (50, 0, 79), (0, 0, 0), (0, 0, 0), (9, 0, 59), (0, 0, 0), (52, 0, 80), (0, 0, 0), (0, 0, 0), (0, 1, 0), (0, 0, 0), (0, 0, 0), (55, 0, 81), (0, 0, 0), (0, 0, 0), (0, 0, 0), (0, 0, 0), (0, 0, 0), (0, 0, 0), (58, 0, 82), (0, 0, 0), (0, 0, 0), (0, 0, 0), (0, 0, 0), (9, 0, 59), (0, 0, 0), (55, 0, 81), (0, 0, 0), (0, 0, 0), (0, 1, 0), (0, 0, 0), (0, 0, 0), (52, 0, 80), (0, 0, 0), (0, 0, 0), (0, 0, 0), (0, 0, 0), (0, 0, 0), (0, 0, 0), (0, 0, 0), (0, 0, 0)]
set_option maxRecDepth 100000 in
theorem mx_t64 : mx_chk 6 (mx_mC 64) (mx_nl 64) (mx_mR 64) (mx_nth mx_c64) 0 mx_p64 mx_k64 = true := by decide +kernel
def mx_c65 : List Nat := [0, 0, 1, 3, 6, 8, 9, 11, 11, 13, 14, 17, 20, 21, 24, 25, 27, 28, 30, 31, 32, 33, 36, 37, 40, 42, 44, 45, 46, 47, 48, 50, 53, 54, 57, 59, 61, 62, 63, 64, 65, 67, 69, 71, 74, 77, 79]
def mx_k65 : List (Nat × Nat × Nat) := [(0, 0, 0), (0, 0, 0), (0, 1, 0), (0, 2, 0), (0, 1, 0), (0, 0, 0), (0, 1, 0), (0, 0, 0), (0, 1, 0), (0, 0, 0), (22, 0, 78), (0, 0, 0), (0, 0, 0), (9, 0, 59), (0, 0, 0), (0, 1, 0), (0, 0, 0), (0, 1, 0), (0, 0, 0), (0, 0, 0), (0, 0, 0), (0, 0, 0), (0, 0, 0), (9, 0, 59), (0, 1, 0), (0, 1, 0), (0, 0, 0), (0, 0, 0), (0, 0, 0), (0, 0, 0), (0, 1, 0), (0, 0, 0), (0, 0, 0), (9, 0, 59), (0, 1, 0), (0, 1, 0), (0, 0, 0), (0, 0, 0), (0, 0, 0), (0, 0, 0), (0, 1, 0), (0, 1, 0), (0, 1, 0), (0, 0, 0), (0, 0, 0), (0, 1, 0), (0, 0, 0)]
set_option maxRecDepth 100000 in
theorem mx_t65 : mx_chk 6 (mx_mC 65) (mx_nl 65) (mx_mR 65) (mx_nth mx_c65) 0 mx_p65 mx_k65 = true := by decide +kernel
def mx_c66 : List Nat := [0, 0, 1, 2, 5, 6, 7, 7, 8, 9, 12, 15, 16, 17, 17, 18, 19, 22, 25, 26, 28, 28, 30, 31, 34, 37, 38, 41, 42, 44, 45, 46, 47, 48, 49, 52, 53, 55, 56, 58, 59, 60, 61, 63, 64, 67, 68, 70, 71, 73, 74, 75, 78, 79, 81, 82, 84, 85, 86, 88, 91, 92, 95, 98, 101, 104, 107, 110, 111, 112, 112, 113, 114, 117, 120, 121, 122, 122, 123, 124, 127, 130, 131, 134, 135, 137, 138, 139, 140, 141, 142, 143, 144, 147, 148, 151, 154, 157, 160]
def mx_k66 : List (Nat × Nat × Nat) := [(0, 0, 0), (0, 0, 0), (0, 0, 0), (18, 0, 64), (0, 0, 0), (0, 0, 0), (0, 0, 0), (0, 0, 0), (0, 0, 0), (22, 0, 78), (0, 0, 0), (0, 0, 0), (0, 0, 0), (0, 0, 0), (0, 0, 0), (0, 0, 0), (22, 0, 78), (0, 0, 0), (0, 0, 0), (0, 1, 0), (0, 0, 0), (0, 1, 0), (0, 0, 0), (22, 0, 78), (0, 0, 0), (0, 0, 0), (9, 0, 59), (0, 0, 0), (0, 1, 0), (0, 0, 0), (0, 0, 0), (0, 0, 0), (0, 0, 0), (0, 0, 0), (9, 0, 59), (0, 0, 0), (0, 1, 0), (0, 0, 0), (0, 1, 0), (0, 0, 0), (0, 0, 0), (0, 0, 0), (0, 1, 0), (0, 0, 0), (9, 0, 59), (0, 0, 0), (0, 1, 0), (0, 0, 0), (0, 1, 0), (0, 0, 0), (0, 0, 0), (9, 0, 59), (0, 0, 0), (0, 1, 0), (0, 0, 0), (0, 1, 0), (0, 0, 0), (0, 0, 0), (0, 1, 0), (28, 0, 65), (0, 0, 0), (0, 0, 0), (0, 0, 0), (0, 0, 0), (0, 0, 0), (0, 0, 0), (0, 0, 0), (0, 0, 0), (0, 0, 0), (0, 0, 0), (0, 0, 0), (0, 0, 0), (22, 0, 78), (0, 0, 0), (0, 0, 0), (0, 0, 0), (0, 0, 0), (0, 0, 0), (0, 0, 0), (22, 0, 78), (0, 0, 0), (0, 0, 0), (15, 0, 60), (0, 0, 0), (0, 1, 0), (0, 0, 0), (0, 0, 0), (0, 0, 0), (0, 0, 0), (0, 0, 0), (0, 0, 0), (0, 0, 0), (34, 0, 66), (0, 0, 0), (0, 0, 0), (0, 0, 0), (0, 0, 0), (0, 0, 0), (0, 0, 0)]
set_option maxRecDepth 100000 in
theorem mx_t66 : mx_chk 6 (mx_mC 66) (mx_nl 66) (mx_mR 66) (mx_nth mx_c66) 0 mx_p66 mx_k66 = true := by decide +kernel
def mx_c67 : List Nat := [0, 0, 1, 2, 5, 8, 11, 14, 17, 18, 21, 22]
def mx_k67 : List (Nat × Nat × Nat) := [(0, 0, 0), (0, 0, 0), (0, 0, 0), (25, 0, 83), (109, 0, 84), (146, 0, 85), (57, 1, 67), (0, 0, 0), (0, 0, 0), (0, 0, 0), (0, 0, 0), (0, 0, 0)]
set_option maxRecDepth 100000 in
theorem mx_t67 : mx_chk 7 (mx_mC 67) (mx_nl 67) (mx_mR 67) (mx_nth mx_c67) 0 mx_p67 mx_k67 = true := by decide +kernel
def mx_c68 : List Nat := [0, 0, 1, 2, 5, 6]
def mx_k68 : List (Nat × Nat × Nat) := [(0, 0, 0), (0, 0, 0), (0, 0, 0), (276, 0, 86), (0, 0, 0), (0, 0, 0)]
set_option maxRecDepth 100000 in
theorem mx_t68 : mx_chk 7 (mx_mC 68) (mx_nl 68) (mx_mR 68) (mx_nth mx_c68) 0 mx_p68 mx_k68 = true := by decide +kernel
def mx_c69 : List Nat := [0, 0, 1, 2, 5, 8, 9, 10]
def mx_k69 : List (Nat × Nat × Nat) := [(0, 0, 0), (0, 0, 0), (0, 0, 0), (276, 0, 86), (279, 4, 3), (0, 0, 0), (0, 0, 0), (0, 0, 0)]
set_option maxRecDepth 100000 in
theorem mx_t69 : mx_chk 7 (mx_mC 69) (mx_nl 69) (mx_mR 69) (mx_nth mx_c69) 0 mx_p69 mx_k69 = true := by decide +kernel
def mx_c70 : List Nat := [0, 0, 1, 2, 5, 8, 9, 10, 11, 14, 17, 19, 20, 21, 24, 27, 28, 31, 32, 33, 36, 37, 38, 41, 42, 43, 46, 47, 48, 51, 52, 55, 56, 58, 60, 63, 64, 65, 68, 71, 72, 73, 76]
def mx_k70 : List (Nat × Nat × Nat) := [(0, 0, 0), (0, 0, 0), (0, 0, 0), (175, 0, 68), (0, 0, 0), (0, 0, 0), (0, 0, 0), (0, 0, 0), (99, 1, 69), (0, 0, 0), (61, 3, 4), (0, 0, 0), (0, 0, 0), (25, 0, 83), (38, 0, 87), (0, 0, 0), (254, 0, 70), (0, 0, 0), (0, 0, 0), (0, 0, 0), (0, 0, 0), (0, 0, 0), (0, 0, 0), (0, 0, 0), (0, 0, 0), (0, 0, 0), (0, 0, 0), (0, 0, 0), (0, 0, 0), (0, 0, 0), (0, 0, 0), (0, 0, 0), (0, 1, 0), (0, 1, 0), (0, 0, 0), (0, 0, 0), (0, 0, 0), (70, 0, 71), (0, 0, 0), (0, 0, 0), (0, 0, 0), (62, 0, 72), (0, 0, 0)]
set_option maxRecDepth 100000 in
theorem mx_t70 : mx_chk 7 (mx_mC 70) (mx_nl 70) (mx_mR 70) (mx_nth mx_c70) 0 mx_p70 mx_k70 = true := by decide +kernel
def mx_c71 : List Nat := [0, 0, 1, 2, 5, 8, 9, 10, 13, 16, 18, 19, 20, 23, 24, 27, 28, 31, 32, 35, 36, 37, 40, 43, 44, 47, 48, 49, 52]
def mx_k71 : List (Nat × Nat × Nat) := [(0, 0, 0), (0, 0, 0), (0, 0, 0), (175, 0, 68), (0, 0, 0), (0, 0, 0), (0, 0, 0), (57, 1, 67), (0, 0, 0), (61, 3, 4), (0, 0, 0), (0, 0, 0), (45, 0, 88), (0, 0, 0), (257, 0, 89), (0, 0, 0), (0, 0, 0), (0, 0, 0), (45, 0, 88), (0, 0, 0), (0, 0, 0), (260, 2, 2), (0, 0, 0), (0, 0, 0), (45, 0, 88), (0, 0, 0), (0, 0, 0), (263, 2, 3), (0, 0, 0)]
set_option maxRecDepth 100000 in
theorem mx_t71 : mx_chk 7 (mx_mC 71) (mx_nl 71) (mx_mR 71) (mx_nth mx_c71) 0 mx_p71 mx_k71 = true := by decide +kernel
def mx_c72 : List Nat := [0, 0, 1, 2, 3, 5, 6, 8, 8, 10, 12, 15, 16, 19, 22, 24, 27, 28, 31, 32, 33, 34, 37, 39, 41, 43, 46, 48, 50, 52, 53, 56, 59, 60]
def mx_k72 : List (Nat × Nat × Nat) := [(0, 0, 0), (0, 0, 0), (0, 0, 0), (0, 0, 0), (0, 1, 0), (0, 0, 0), (0, 1, 0), (0, 0, 0), (0, 1, 0), (0, 1, 0), (0, 0, 0), (0, 0, 0), (29, 0, 90), (109, 0, 84), (0, 1, 0), (172, 0, 91), (0, 0, 0), (29, 0, 90), (0, 0, 0), (0, 0, 0), (0, 0, 0), (211, 0, 73), (0, 1, 0), (0, 1, 0), (0, 1, 0), (0, 0, 0), (0, 1, 0), (0, 1, 0), (0, 1, 0), (0, 0, 0), (0, 0, 0), (0, 0, 0), (0, 0, 0), (0, 0, 0)]
set_option maxRecDepth 100000 in
theorem mx_t72 : mx_chk 7 (mx_mC 72) (mx_nl 72) (mx_mR 72) (mx_nth mx_c72) 0 mx_p72 mx_k72 = true := by decide +kernel
def mx_c73 : List Nat := [0, 0, 1, 2, 3, 5, 6, 8, 8, 10, 12, 15, 16, 19, 22, 24, 27, 28, 31, 32, 33, 34, 37, 39, 41, 43, 46, 48, 50, 52, 53, 56, 59, 60]
def mx_k73 : List (Nat × Nat × Nat) := [(0, 0, 0), (0, 0, 0), (0, 0, 0), (0, 0, 0), (0, 1, 0), (0, 0, 0), (0, 1, 0), (0, 0, 0), (0, 1, 0), (0, 1, 0), (0, 0, 0), (0, 0, 0), (29, 0, 90), (109, 0, 84), (0, 1, 0), (169, 0, 92), (0, 0, 0), (29, 0, 90), (0, 0, 0), (0, 0, 0), (0, 0, 0), (211, 0, 73), (0, 1, 0), (0, 1, 0), (0, 1, 0), (0, 0, 0), (0, 1, 0), (0, 1, 0), (0, 1, 0), (0, 0, 0), (0, 0, 0), (0, 0, 0), (0, 0, 0), (0, 0, 0)]
set_option maxRecDepth 100000 in
theorem mx_t73 : mx_chk 7 (mx_mC 73) (mx_nl 73) (mx_mR 73) (mx_nth mx_c73) 0 mx_p73 mx_k73 = true := by decide +kernel
def mx_c74 : List Nat := [0, 0, 1, 4, 7, 10, 13, 14, 17, 18]
def mx_k74 : List (Nat × Nat × Nat) := [(0, 0, 0), (0, 0, 0), (25, 0, 83), (109, 0, 84), (151, 0, 93), (0, 0, 0), (0, 0, 0), (0, 0, 0), (0, 0, 0), (0, 0, 0)]
set_option maxRecDepth 100000 in
theorem mx_t74 : mx_chk 7 (mx_mC 74) (mx_nl 74) (mx_mR 74) (mx_nth mx_c74) 0 mx_p74 mx_k74 = true := by decide +kernel
def mx_c75 : List Nat := [0, 0, 1, 2, 4, 7, 10, 11, 14, 15]
def mx_k75 : List (Nat × Nat × Nat) := [(0, 0, 0), (0, 0, 0), (0, 0, 0), (0, 1, 0), (99, 1, 69), (0, 0, 0), (0, 0, 0), (0, 0, 0), (0, 0, 0), (0, 0, 0)]
set_option maxRecDepth 100000 in
theorem mx_t75 : mx_chk 7 (mx_mC 75) (mx_nl 75) (mx_mR 75) (mx_nth mx_c75) 0 mx_p75 mx_k75 = true := by decide +kernel
def mx_c76 : List Nat := [0, 0, 1, 4, 7, 9, 10, 11, 14, 17, 18, 19, 22, 25, 26, 27, 30, 33, 35, 36, 37, 40, 41, 44, 47, 48, 51, 52, 53, 54, 57, 60, 61, 62, 63, 66]
def mx_k76 : List (Nat × Nat × Nat) := [(0, 0, 0), (0, 0, 0), (158, 0, 74), (0, 0, 0), (162, 3, 5), (0, 0, 0), (0, 0, 0), (208, 1, 75), (0, 0, 0), (0, 0, 0), (0, 0, 0), (57, 1, 67), (0, 0, 0), (0, 0, 0), (0, 0, 0), (57, 1, 67), (0, 0, 0), (61, 3, 4), (0, 0, 0), (0, 0, 0), (29, 0, 90), (0, 0, 0), (25, 0, 83), (127, 0, 76), (0, 0, 0), (0, 0, 0), (0, 0, 0), (0, 0, 0), (0, 0, 0), (215, 0, 77), (0, 0, 0), (0, 0, 0), (0, 0, 0), (0, 0, 0), (219, 0, 78), (0, 0, 0)]
set_option maxRecDepth 100000 in
theorem mx_t76 : mx_chk 7 (mx_mC 76) (mx_nl 76) (mx_mR 76) (mx_nth mx_c76) 0 mx_p76 mx_k76 = true := by decide +kernel
def mx_c77 : List Nat := [0, 0, 1, 4, 5, 8, 9, 10, 13, 16, 17, 18, 21, 22, 23, 26, 27, 30, 31]
def mx_k77 : List (Nat × Nat × Nat) := [(0, 0, 0), (0, 0, 0), (0, 0, 0), (0, 0, 0), (0, 0, 0), (0, 0, 0), (0, 0, 0), (23, 0, 94), (0, 0, 0), (0, 0, 0), (0, 0, 0), (23, 0, 94), (0, 0, 0), (0, 0, 0), (0, 0, 0), (0, 0, 0), (0, 0, 0), (0, 0, 0), (0, 0, 0)]
set_option maxRecDepth 100000 in
theorem mx_t77 : mx_chk 5 (mx_mC 77) (mx_nl 77) (mx_mR 77) (mx_nth mx_c77) 0 mx_p77 mx_k77 = true := by decide +kernel
def mx_c78 : List Nat := [0, 0, 1, 3, 6, 9, 10, 12, 15, 18, 20, 21, 22, 25, 26, 27, 29, 30, 33, 34, 35, 37, 39, 42, 45, 47, 50, 53, 54, 55, 58, 59, 61, 64, 66, 69, 72, 73, 74, 77, 78, 80, 81, 83, 86, 89, 91, 93, 95, 98, 101, 102, 103, 106, 107, 109, 112, 113, 115, 118, 120, 122, 125, 126, 128, 131]
def mx_k78 : List (Nat × Nat × Nat) := [(0, 0, 0), (0, 0, 0), (0, 1, 0), (57, 1, 67), (0, 0, 0), (0, 0, 0), (0, 1, 0), (57, 1, 67), (0, 0, 0), (61, 3, 4), (0, 0, 0), (0, 0, 0), (11, 0, 95), (0, 0, 0), (0, 0, 0), (0, 1, 0), (0, 0, 0), (11, 0, 95), (0, 0, 0), (0, 0, 0), (0, 1, 0), (0, 1, 0), (73, 0, 96), (0, 0, 0), (0, 1, 0), (73, 0, 96), (0, 0, 0), (0, 0, 0), (0, 0, 0), (62, 0, 72), (0, 0, 0), (0, 1, 0), (86, 0, 97), (0, 1, 0), (86, 0, 97), (0, 0, 0), (0, 0, 0), (0, 0, 0), (62, 0, 72), (0, 0, 0), (0, 1, 0), (0, 0, 0), (0, 1, 0), (77, 0, 79), (0, 0, 0), (0, 1, 0), (0, 1, 0), (0, 1, 0), (77, 0, 79), (0, 0, 0), (0, 0, 0), (0, 0, 0), (62, 0, 72), (0, 0, 0), (0, 1, 0), (80, 0, 98), (0, 0, 0), (0, 1, 0), (80, 0, 98), (0, 1, 0), (0, 1, 0), (90, 0, 80), (0, 0, 0), (0, 1, 0), (70, 0, 71), (0, 0, 0)]
set_option maxRecDepth 100000 in
theorem mx_t78 : mx_chk 7 (mx_mC 78) (mx_nl 78) (mx_mR 78) (mx_nth mx_c78) 0 mx_p78 mx_k78 = true := by decide +kernel
def mx_c79 : List Nat := [0, 0, 1, 2, 3, 4, 4, 5, 7, 10, 11, 12, 15, 16, 17, 20, 23, 24, 27, 28, 29, 30, 33, 36, 37]
def mx_k79 : List (Nat × Nat × Nat) := [(0, 0, 0), (0, 0, 0), (0, 0, 0), (0, 0, 0), (0, 0, 0), (0, 0, 0), (0, 0, 0), (0, 1, 0), (0, 0, 0), (0, 0, 0), (0, 0, 0), (11, 0, 95), (0, 0, 0), (0, 0, 0), (73, 0, 96), (0, 0, 0), (0, 0, 0), (0, 0, 0), (0, 0, 0), (0, 0, 0), (0, 0, 0), (0, 0, 0), (0, 0, 0), (0, 0, 0), (0, 0, 0)]
set_option maxRecDepth 100000 in
theorem mx_t79 : mx_chk 7 (mx_mC 79) (mx_nl 79) (mx_mR 79) (mx_nth mx_c79) 0 mx_p79 mx_k79 = true := by decide +kernel
def mx_c80 : List Nat := [0, 0, 1, 52, 53, 56, 57, 58, 61, 64, 67, 68, 69, 72, 75, 78, 79, 80, 83, 86, 89, 90, 91, 94, 97, 100, 101, 102, 105, 108, 111, 112, 113, 116, 119, 122, 123, 124, 127, 130, 133, 134, 135, 138, 141, 142, 144]
def mx_k80 : List (Nat × Nat × Nat) := [(0, 0, 0), (0, 0, 0), (51, 0, 0), (0, 0, 0), (269, 0, 81), (0, 0, 0), (0, 0, 0), (25, 0, 83), (109, 0, 84), (151, 0, 93), (0, 0, 0), (0, 0, 0), (25, 0, 83), (109, 0, 84), (228, 0, 99), (0, 0, 0), (0, 0, 0), (25, 0, 83), (109, 0, 84), (233, 0, 100), (0, 0, 0), (0, 0, 0), (25, 0, 83), (109, 0, 84), (222, 0, 101), (0, 0, 0), (0, 0, 0), (25, 0, 83), (109, 0, 84), (146, 0, 85), (0, 0, 0), (0, 0, 0), (25, 0, 83), (38, 0, 87), (166, 0, 102), (0, 0, 0), (0, 0, 0), (25, 0, 83), (38, 0, 87), (273, 0, 103), (0, 0, 0), (0, 0, 0), (18, 0, 104), (103, 0, 105), (0, 0, 0), (61, 3, 4), (0, 0, 0)]
set_option maxRecDepth 100000 in
theorem mx_t80 : mx_chk 7 (mx_mC 80) (mx_nl 80) (mx_mR 80) (mx_nth mx_c80) 0 mx_p80 mx_k80 = true := by decide +kernel
def mx_c81 : List Nat := [0, 0, 1, 3, 4, 7, 10, 11, 14, 15, 17, 17, 19, 21, 24, 25, 28, 31, 34, 36, 37, 40, 43, 46, 47, 48, 49, 52, 53, 55, 56, 57, 58, 61, 62, 64, 67, 70, 72]
def mx_k81 : List (Nat × Nat × Nat) := [(0, 0, 0), (0, 0, 0), (0, 1, 0), (0, 0, 0), (29, 0, 90), (38, 0, 87), (0, 0, 0), (140, 0, 82), (0, 0, 0), (0, 1, 0), (0, 0, 0), (0, 1, 0), (0, 1, 0), (0, 0, 0), (0, 0, 0), (29, 0, 90), (38, 0, 87), (163, 0, 83), (0, 1, 0), (0, 0, 0), (29, 0, 90), (38, 0, 87), (205, 0, 106), (0, 0, 0), (0, 0, 0), (0, 0, 0), (80, 0, 98), (0, 0, 0), (0, 1, 0), (0, 0, 0), (0, 0, 0), (0, 0, 0), (298, 0, 84), (0, 0, 0), (0, 1, 0), (0, 0, 0), (0, 0, 0), (0, 1, 0), (0, 0, 0)]
set_option maxRecDepth 100000 in
theorem mx_t81 : mx_chk 7 (mx_mC 81) (mx_nl 81) (mx_mR 81) (mx_nth mx_c81) 0 mx_p81 mx_k81 = true := by decide +kernel
def mx_c82 : List Nat := [0, 0, 1, 4, 5, 8, 11, 12, 14, 15, 17, 18, 20, 20, 22, 23, 26, 27, 30, 33, 36, 38, 41, 42, 43, 44, 45, 47, 50, 52, 54, 57, 59, 61, 64, 66, 68, 70, 72, 75, 78, 80]
def mx_k82 : List (Nat × Nat × Nat) := [(0, 0, 0), (0, 0, 0), (29, 0, 90), (0, 0, 0), (25, 0, 83), (127, 0, 76), (0, 0, 0), (0, 1, 0), (0, 0, 0), (0, 1, 0), (0, 0, 0), (0, 1, 0), (0, 0, 0), (0, 1, 0), (0, 0, 0), (0, 0, 0), (0, 0, 0), (29, 0, 90), (109, 0, 84), (286, 0, 107), (0, 1, 0), (289, 1, 85), (0, 0, 0), (0, 0, 0), (0, 0, 0), (0, 0, 0), (0, 1, 0), (295, 0, 86), (0, 1, 0), (0, 1, 0), (0, 0, 0), (0, 1, 0), (0, 1, 0), (0, 0, 0), (0, 1, 0), (0, 1, 0), (0, 1, 0), (0, 1, 0), (0, 0, 0), (0, 0, 0), (0, 1, 0), (0, 0, 0)]
set_option maxRecDepth 100000 in
theorem mx_t82 : mx_chk 7 (mx_mC 82) (mx_nl 82) (mx_mR 82) (mx_nth mx_c82) 0 mx_p82 mx_k82 = true := by decide +kernel
def mx_c83 : List Nat := [0, 0, 1, 2, 5, 8, 11, 14, 17, 18, 20, 23, 26, 28, 29, 31, 34, 37, 39, 40, 41, 44, 45, 46, 49, 52, 53, 54, 57, 58, 59, 62, 63, 64, 65, 67, 70, 73, 74, 75, 78, 79, 80, 82, 82, 84, 86, 89, 90, 93, 94, 95, 98, 99, 101, 102, 103, 104, 106, 109, 112, 114, 115, 118, 121, 122, 123, 124, 125, 128, 129, 130, 131, 133, 136, 139]
def mx_k83 : List (Nat × Nat × Nat) := [(0, 0, 0), (0, 0, 0), (0, 0, 0), (25, 0, 83), (109, 0, 84), (151, 0, 93), (57, 1, 67), (0, 0, 0), (0, 0, 0), (0, 1, 0), (57, 1, 67), (0, 0, 0), (0, 1, 0), (0, 0, 0), (0, 1, 0), (99, 1, 69), (0, 0, 0), (61, 3, 4), (0, 0, 0), (0, 0, 0), (11, 0, 95), (0, 0, 0), (0, 0, 0), (73, 0, 96), (0, 0, 0), (0, 0, 0), (0, 0, 0), (62, 0, 72), (0, 0, 0), (0, 0, 0), (11, 0, 95), (0, 0, 0), (0, 0, 0), (0, 0, 0), (0, 1, 0), (77, 0, 79), (0, 0, 0), (0, 0, 0), (0, 0, 0), (62, 0, 72), (0, 0, 0), (0, 0, 0), (0, 1, 0), (0, 0, 0), (0, 1, 0), (0, 1, 0), (0, 0, 0), (0, 0, 0), (11, 0, 95), (0, 0, 0), (0, 0, 0), (80, 0, 98), (0, 0, 0), (0, 1, 0), (0, 0, 0), (0, 0, 0), (0, 0, 0), (0, 1, 0), (99, 1, 69), (0, 0, 0), (61, 3, 4), (0, 0, 0), (0, 0, 0), (0, 0, 0), (0, 0, 0), (0, 0, 0), (0, 0, 0), (0, 0, 0), (11, 0, 95), (0, 0, 0), (0, 0, 0), (0, 0, 0), (0, 1, 0), (247, 0, 87), (70, 0, 71), (0, 0, 0)]
set_option maxRecDepth 100000 in
theorem mx_t83 : mx_chk 7 (mx_mC 83) (mx_nl 83) (mx_mR 83) (mx_nth mx_c83) 0 mx_p83 mx_k83 = true := by decide +kernel
end
section
def mx_c84 : List Nat := [0, 0, 1, 3, 6, 9, 11, 12, 13, 16, 17, 18, 21, 24, 25, 26, 29, 30, 31, 34, 35, 36, 37, 40, 41, 42, 45, 46, 47, 50, 53]
def mx_k84 : List (Nat × Nat × Nat) := [(0, 0, 0), (0, 0, 0), (0, 1, 0), (57, 1, 67), (0, 0, 0), (61, 3, 4), (0, 0, 0), (0, 0, 0), (11, 0, 95), (0, 0, 0), (0, 0, 0), (73, 0, 96), (0, 0, 0), (0, 0, 0), (0, 0, 0), (62, 0, 72), (0, 0, 0), (0, 0, 0), (11, 0, 95), (0, 0, 0), (0, 0, 0), (0, 0, 0), (73, 0, 96), (0, 0, 0), (0, 0, 0), (11, 0, 95), (0, 0, 0), (0, 0, 0), (96, 0, 108), (70, 0, 71), (0, 0, 0)]
set_option maxRecDepth 100000 in
theorem mx_t84 : mx_chk 7 (mx_mC 84) (mx_nl 84) (mx_mR 84) (mx_nth mx_c84) 0 mx_p84 mx_k84 = true := by decide +kernel
def mx_c85 : List Nat := [0, 0, 1, 2, 5, 8, 11, 14, 17, 18, 19, 22, 25, 28, 31, 34, 36, 37, 38, 41, 44, 47, 48, 50, 51, 52, 53, 54, 55, 56, 59, 62, 64, 67, 68]
def mx_k85 : List (Nat × Nat × Nat) := [(0, 0, 0), (0, 0, 0), (0, 0, 0), (25, 0, 83), (109, 0, 84), (151, 0, 93), (57, 1, 67), (0, 0, 0), (0, 0, 0), (0, 0, 0), (25, 0, 83), (109, 0, 84), (151, 0, 93), (57, 1, 67), (0, 0, 0), (61, 3, 4), (0, 0, 0), (0, 0, 0), (25, 0, 83), (131, 0, 109), (154, 0, 110), (0, 0, 0), (0, 1, 0), (0, 0, 0), (0, 0, 0), (0, 0, 0), (0, 0, 0), (0, 0, 0), (0, 0, 0), (0, 2, 0), (0, 0, 0), (157, 3, 6), (0, 0, 0), (0, 0, 0), (0, 0, 0)]
set_option maxRecDepth 100000 in
theorem mx_t85 : mx_chk 7 (mx_mC 85) (mx_nl 85) (mx_mR 85) (mx_nth mx_c85) 0 mx_p85 mx_k85 = true := by decide +kernel
def mx_c86 : List Nat := [0, 0, 1, 4]
def mx_k86 : List (Nat × Nat × Nat) := [(0, 0, 0), (0, 0, 0), (120, 0, 111), (0, 0, 0)]
set_option maxRecDepth 100000 in
theorem mx_t86 : mx_chk 7 (mx_mC 86) (mx_nl 86) (mx_mR 86) (mx_nth mx_c86) 0 mx_p86 mx_k86 = true := by decide +kernel
def mx_c87 : List Nat := [0, 0, 1, 2, 4, 7, 10, 12, 13, 14, 17, 20, 21, 22, 25, 28, 30, 31, 32, 33, 34, 36, 36, 38, 41, 42, 45, 46, 48, 50, 51, 52, 53, 54, 57, 60, 63, 64, 67, 70]
def mx_k87 : List (Nat × Nat × Nat) := [(0, 0, 0), (0, 0, 0), (0, 0, 0), (0, 1, 0), (99, 1, 69), (0, 0, 0), (61, 3, 4), (0, 0, 0), (0, 0, 0), (18, 0, 104), (103, 0, 105), (0, 0, 0), (0, 0, 0), (0, 2, 0), (0, 0, 0), (104, 3, 7), (0, 0, 0), (0, 0, 0), (0, 0, 0), (0, 0, 0), (0, 1, 0), (0, 0, 0), (0, 1, 0), (0, 0, 0), (0, 0, 0), (18, 0, 104), (0, 0, 0), (0, 1, 0), (0, 1, 0), (0, 0, 0), (0, 0, 0), (0, 0, 0), (0, 0, 0), (105, 0, 88), (0, 0, 0), (0, 0, 0), (0, 0, 0), (18, 0, 104), (103, 0, 105), (0, 0, 0)]
set_option maxRecDepth 100000 in
theorem mx_t87 : mx_chk 7 (mx_mC 87) (mx_nl 87) (mx_mR 87) (mx_nth mx_c87) 0 mx_p87 mx_k87 = true := by decide +kernel
def mx_c88 : List Nat := [0, 0, 1, 4, 7, 9, 10, 11, 12, 13, 14, 14, 15, 16, 19, 22, 25, 28, 29, 32, 35, 38, 39, 40, 41, 42, 45, 48, 49, 52, 55, 58, 59, 61, 62, 63, 65, 67, 70, 73, 75, 76, 77, 79, 80, 81, 84, 85, 88, 91, 92]
def mx_k88 : List (Nat × Nat × Nat) := [(0, 0, 0), (0, 0, 0), (158, 0, 74), (0, 0, 0), (162, 3, 5), (0, 0, 0), (0, 0, 0), (0, 0, 0), (0, 0, 0), (0, 0, 0), (0, 0, 0), (0, 0, 0), (0, 0, 0), (25, 0, 83), (109, 0, 84), (146, 0, 85), (0, 0, 0), (0, 0, 0), (25, 0, 83), (38, 0, 87), (185, 0, 112), (0, 0, 0), (0, 0, 0), (0, 0, 0), (0, 0, 0), (0, 0, 0), (0, 0, 0), (0, 0, 0), (25, 0, 83), (131, 0, 109), (154, 0, 110), (0, 0, 0), (0, 1, 0), (0, 0, 0), (0, 0, 0), (0, 1, 0), (0, 1, 0), (0, 2, 0), (0, 0, 0), (157, 3, 6), (0, 0, 0), (0, 0, 0), (0, 1, 0), (0, 0, 0), (0, 0, 0), (242, 0, 89), (0, 0, 0), (0, 0, 0), (0, 0, 0), (0, 0, 0), (0, 0, 0)]
set_option maxRecDepth 100000 in
theorem mx_t88 : mx_chk 7 (mx_mC 88) (mx_nl 88) (mx_mR 88) (mx_nth mx_c88) 0 mx_p88 mx_k88 = true := by decide +kernel
def mx_c89 : List Nat := [0, 0, 1, 4, 7, 9, 10, 11, 12, 14, 17, 20, 22, 23, 24, 25, 25, 26, 27, 30, 31, 34, 37, 40, 43, 46, 47, 50, 53, 56]
def mx_k89 : List (Nat × Nat × Nat) := [(0, 0, 0), (0, 0, 0), (158, 0, 74), (0, 0, 0), (162, 3, 5), (0, 0, 0), (0, 0, 0), (0, 0, 0), (0, 1, 0), (99, 1, 69), (0, 0, 0), (61, 3, 4), (0, 0, 0), (0, 0, 0), (0, 0, 0), (0, 0, 0), (0, 0, 0), (0, 0, 0), (0, 0, 0), (0, 0, 0), (25, 0, 83), (38, 0, 87), (163, 0, 83), (0, 0, 0), (0, 0, 0), (0, 0, 0), (25, 0, 83), (38, 0, 87), (166, 0, 102), (0, 0, 0)]
set_option maxRecDepth 100000 in
theorem mx_t89 : mx_chk 7 (mx_mC 89) (mx_nl 89) (mx_mR 89) (mx_nth mx_c89) 0 mx_p89 mx_k89 = true := by decide +kernel
def mx_c90 : List Nat := [0, 0, 1, 2, 3, 5, 6, 7, 8, 10, 10, 12, 15, 16, 17, 18, 20, 21, 22, 23, 24, 26, 27, 29, 30, 31, 33, 34, 37, 39, 41, 42, 43, 46, 49, 52, 54, 55, 58, 61, 64, 66, 67, 68, 71, 74, 76, 77, 78, 79, 80, 81, 84, 85, 88, 89]
def mx_k90 : List (Nat × Nat × Nat) := [(0, 0, 0), (0, 0, 0), (0, 0, 0), (0, 0, 0), (0, 1, 0), (0, 0, 0), (0, 0, 0), (0, 0, 0), (0, 1, 0), (0, 0, 0), (0, 1, 0), (0, 0, 0), (0, 0, 0), (0, 0, 0), (0, 0, 0), (0, 1, 0), (0, 0, 0), (0, 0, 0), (0, 0, 0), (0, 0, 0), (0, 1, 0), (0, 0, 0), (0, 1, 0), (0, 0, 0), (0, 0, 0), (0, 1, 0), (0, 0, 0), (49, 0, 113), (0, 1, 0), (0, 1, 0), (0, 0, 0), (0, 0, 0), (29, 0, 90), (109, 0, 84), (283, 0, 114), (0, 1, 0), (0, 0, 0), (25, 0, 83), (109, 0, 84), (283, 0, 114), (0, 1, 0), (0, 0, 0), (0, 0, 0), (0, 0, 0), (0, 0, 0), (0, 1, 0), (0, 0, 0), (0, 0, 0), (0, 0, 0), (0, 0, 0), (0, 0, 0), (0, 0, 0), (0, 0, 0), (0, 0, 0), (0, 0, 0), (0, 0, 0)]
set_option maxRecDepth 100000 in
theorem mx_t90 : mx_chk 7 (mx_mC 90) (mx_nl 90) (mx_mR 90) (mx_nth mx_c90) 0 mx_p90 mx_k90 = true := by decide +kernel
def mx_c91 : List Nat := [0, 0, 1, 2, 3, 5, 5, 7, 8, 11, 12, 13, 14, 15, 18, 21, 22, 25, 26, 29, 32, 33, 35, 36, 38, 38, 40, 41, 44, 45, 47, 48, 51, 54, 57, 58, 61, 62, 63, 64, 67, 69, 71, 73, 76, 78, 80, 81, 84, 85, 86, 89, 90, 91, 94, 97, 100, 102]
def mx_k91 : List (Nat × Nat × Nat) := [(0, 0, 0), (0, 0, 0), (0, 0, 0), (0, 0, 0), (0, 1, 0), (0, 0, 0), (0, 1, 0), (0, 0, 0), (0, 0, 0), (0, 0, 0), (0, 0, 0), (0, 0, 0), (0, 0, 0), (0, 0, 0), (0, 0, 0), (0, 0, 0), (29, 0, 90), (0, 0, 0), (25, 0, 83), (127, 0, 76), (0, 0, 0), (0, 1, 0), (0, 0, 0), (0, 1, 0), (0, 0, 0), (0, 1, 0), (0, 0, 0), (0, 0, 0), (0, 0, 0), (0, 1, 0), (0, 0, 0), (280, 0, 90), (0, 0, 0), (0, 0, 0), (0, 0, 0), (29, 0, 90), (0, 0, 0), (0, 0, 0), (0, 0, 0), (211, 0, 73), (0, 1, 0), (0, 1, 0), (0, 1, 0), (0, 0, 0), (0, 1, 0), (0, 1, 0), (0, 0, 0), (49, 0, 113), (0, 0, 0), (0, 0, 0), (53, 0, 115), (0, 0, 0), (0, 0, 0), (90, 0, 80), (0, 0, 0), (0, 0, 0), (0, 1, 0), (0, 0, 0)]
set_option maxRecDepth 100000 in
theorem mx_t91 : mx_chk 7 (mx_mC 91) (mx_nl 91) (mx_mR 91) (mx_nth mx_c91) 0 mx_p91 mx_k91 = true := by decide +kernel
def mx_c92 : List Nat := [0, 0, 1, 4, 5, 8, 11, 14, 15, 18, 19, 22, 23, 26, 29, 32, 33, 34, 37, 40, 43, 45, 46, 49, 52, 53, 54, 55, 58, 59, 62, 65, 66, 69, 72, 73, 76, 79, 82, 83, 86, 89, 90, 93, 94, 97, 100, 103]
def mx_k92 : List (Nat × Nat × Nat) := [(0, 0, 0), (0, 0, 0), (18, 0, 104), (0, 0, 0), (29, 0, 90), (109, 0, 84), (113, 0, 91), (0, 0, 0), (18, 0, 104), (0, 0, 0), (103, 0, 105), (0, 0, 0), (18, 0, 104), (117, 0, 116), (0, 0, 0), (0, 0, 0), (0, 0, 0), (18, 0, 104), (117, 0, 116), (120, 0, 111), (123, 3, 8), (0, 0, 0), (18, 0, 104), (124, 0, 117), (0, 0, 0), (0, 0, 0), (0, 0, 0), (25, 0, 83), (0, 0, 0), (29, 0, 90), (127, 0, 76), (0, 0, 0), (25, 0, 83), (131, 0, 109), (0, 0, 0), (25, 0, 83), (109, 0, 84), (135, 0, 92), (0, 0, 0), (25, 0, 83), (38, 0, 87), (0, 0, 0), (140, 0, 82), (0, 0, 0), (25, 0, 83), (109, 0, 84), (146, 0, 85), (0, 0, 0)]
set_option maxRecDepth 100000 in
theorem mx_t92 : mx_chk 7 (mx_mC 92) (mx_nl 92) (mx_mR 92) (mx_nth mx_c92) 0 mx_p92 mx_k92 = true := by decide +kernel
def mx_c93 : List Nat := [0, 0, 1, 4, 7, 9, 10, 11, 14, 17, 18, 19, 22, 24, 25, 26, 29, 32, 35, 36, 37, 38, 39, 42, 45, 46, 47, 50, 52, 53, 54, 55, 56, 59, 61, 62, 63, 66, 68, 71, 72, 75, 76, 77]
def mx_k93 : List (Nat × Nat × Nat) := [(0, 0, 0), (0, 0, 0), (158, 0, 74), (0, 0, 0), (162, 3, 5), (0, 0, 0), (0, 0, 0), (208, 1, 75), (0, 0, 0), (0, 0, 0), (0, 0, 0), (0, 0, 0), (61, 3, 4), (0, 0, 0), (0, 0, 0), (25, 0, 83), (109, 0, 84), (233, 0, 100), (0, 0, 0), (0, 0, 0), (0, 0, 0), (0, 0, 0), (99, 1, 69), (0, 0, 0), (0, 0, 0), (0, 0, 0), (0, 0, 0), (157, 3, 6), (0, 0, 0), (0, 0, 0), (0, 0, 0), (0, 0, 0), (239, 0, 93), (0, 1, 0), (0, 0, 0), (0, 0, 0), (0, 0, 0), (0, 1, 0), (0, 0, 0), (0, 0, 0), (53, 0, 115), (0, 0, 0), (0, 0, 0), (0, 0, 0)]
set_option maxRecDepth 100000 in
theorem mx_t93 : mx_chk 7 (mx_mC 93) (mx_nl 93) (mx_mR 93) (mx_nth mx_c93) 0 mx_p93 mx_k93 = true := by decide +kernel
def mx_c94 : List Nat := [0, 0, 1, 2, 5, 8, 10, 11, 12, 15, 18, 20, 21, 22, 25, 26, 27, 28, 31, 34, 35]
def mx_k94 : List (Nat × Nat × Nat) := [(0, 0, 0), (0, 0, 0), (0, 0, 0), (57, 1, 67), (0, 0, 0), (61, 3, 4), (0, 0, 0), (0, 0, 0), (158, 0, 74), (0, 0, 0), (162, 3, 5), (0, 0, 0), (0, 0, 0), (32, 0, 118), (0, 0, 0), (0, 0, 0), (0, 0, 0), (25, 0, 83), (251, 0, 94), (0, 0, 0), (0, 0, 0)]
set_option maxRecDepth 100000 in
theorem mx_t94 : mx_chk 7 (mx_mC 94) (mx_nl 94) (mx_mR 94) (mx_nth mx_c94) 0 mx_p94 mx_k94 = true := by decide +kernel
def mx_c95 : List Nat := [0, 0, 1, 2, 5, 8, 10, 13, 14, 17, 20, 21, 24]
def mx_k95 : List (Nat × Nat × Nat) := [(0, 0, 0), (0, 0, 0), (0, 0, 0), (175, 0, 68), (0, 0, 0), (61, 3, 4), (0, 0, 0), (0, 0, 0), (25, 0, 83), (38, 0, 87), (0, 0, 0), (254, 0, 70), (0, 0, 0)]
set_option maxRecDepth 100000 in
theorem mx_t95 : mx_chk 7 (mx_mC 95) (mx_nl 95) (mx_mR 95) (mx_nth mx_c95) 0 mx_p95 mx_k95 = true := by decide +kernel
def mx_c96 : List Nat := [0, 0, 1, 2, 5, 8, 11, 14, 17, 18, 21, 24, 26, 27, 28, 31, 32, 35, 38, 39, 42, 43, 44, 45, 48, 49, 50, 53, 56, 59, 60, 61, 62, 63, 66, 69, 70, 73, 76, 79, 80, 83, 84, 85, 86, 89, 90, 91]
def mx_k96 : List (Nat × Nat × Nat) := [(0, 0, 0), (0, 0, 0), (0, 0, 0), (25, 0, 83), (109, 0, 84), (228, 0, 99), (57, 1, 67), (0, 0, 0), (0, 0, 0), (208, 1, 75), (0, 0, 0), (61, 3, 4), (0, 0, 0), (0, 0, 0), (29, 0, 90), (0, 0, 0), (25, 0, 83), (127, 0, 76), (0, 0, 0), (29, 0, 90), (0, 0, 0), (0, 0, 0), (0, 0, 0), (211, 0, 73), (0, 0, 0), (0, 0, 0), (29, 0, 90), (109, 0, 84), (230, 0, 119), (0, 0, 0), (0, 0, 0), (0, 0, 0), (0, 0, 0), (29, 0, 90), (131, 0, 109), (0, 0, 0), (29, 0, 90), (109, 0, 84), (135, 0, 92), (0, 0, 0), (29, 0, 90), (0, 0, 0), (0, 0, 0), (0, 0, 0), (211, 0, 73), (0, 0, 0), (0, 0, 0), (0, 0, 0)]
set_option maxRecDepth 100000 in
theorem mx_t96 : mx_chk 7 (mx_mC 96) (mx_nl 96) (mx_mR 96) (mx_nth mx_c96) 0 mx_p96 mx_k96 = true := by decide +kernel
def mx_c97 : List Nat := [0, 0, 1, 2, 5, 8, 11, 14, 17, 18, 21, 24, 25, 26, 29, 32, 34, 35, 36, 39, 40, 43, 46, 47, 50, 51, 52, 53, 56, 58, 59, 60, 63, 65, 66, 69, 70, 71, 72, 73, 74, 77, 78, 79, 80, 83, 86, 89, 90, 91, 92, 93, 94, 95, 96, 99, 100, 101, 102, 105, 107, 108]
def mx_k97 : List (Nat × Nat × Nat) := [(0, 0, 0), (0, 0, 0), (0, 0, 0), (25, 0, 83), (109, 0, 84), (233, 0, 100), (57, 1, 67), (0, 0, 0), (0, 0, 0), (208, 1, 75), (0, 0, 0), (0, 0, 0), (0, 0, 0), (57, 1, 67), (0, 0, 0), (61, 3, 4), (0, 0, 0), (0, 0, 0), (29, 0, 90), (0, 0, 0), (25, 0, 83), (127, 0, 76), (0, 0, 0), (29, 0, 90), (0, 0, 0), (0, 0, 0), (0, 0, 0), (211, 0, 73), (0, 1, 0), (0, 0, 0), (0, 0, 0), (0, 0, 0), (0, 1, 0), (0, 0, 0), (29, 0, 90), (0, 0, 0), (0, 0, 0), (0, 0, 0), (0, 0, 0), (0, 0, 0), (211, 0, 73), (0, 0, 0), (0, 0, 0), (0, 0, 0), (29, 0, 90), (109, 0, 84), (236, 0, 120), (0, 0, 0), (0, 0, 0), (0, 0, 0), (0, 0, 0), (0, 0, 0), (0, 0, 0), (0, 0, 0), (29, 0, 90), (0, 0, 0), (0, 0, 0), (0, 0, 0), (211, 0, 73), (0, 1, 0), (0, 0, 0), (0, 0, 0)]
set_option maxRecDepth 100000 in
theorem mx_t97 : mx_chk 7 (mx_mC 97) (mx_nl 97) (mx_mR 97) (mx_nth mx_c97) 0 mx_p97 mx_k97 = true := by decide +kernel
def mx_c98 : List Nat := [0, 0, 1, 2, 5, 8, 10, 11, 12, 15, 16, 17, 20, 23, 26, 28, 29, 30, 33, 34, 37, 38, 39, 42, 43]
def mx_k98 : List (Nat × Nat × Nat) := [(0, 0, 0), (0, 0, 0), (0, 0, 0), (57, 1, 67), (0, 0, 0), (61, 3, 4), (0, 0, 0), (0, 0, 0), (32, 0, 118), (0, 0, 0), (0, 0, 0), (109, 0, 84), (151, 0, 93), (0, 0, 0), (162, 3, 5), (0, 0, 0), (0, 0, 0), (25, 0, 83), (0, 0, 0), (32, 0, 118), (0, 0, 0), (0, 0, 0), (251, 0, 94), (0, 0, 0), (0, 0, 0)]
set_option maxRecDepth 100000 in
theorem mx_t98 : mx_chk 7 (mx_mC 98) (mx_nl 98) (mx_mR 98) (mx_nth mx_c98) 0 mx_p98 mx_k98 = true := by decide +kernel
def mx_c99 : List Nat := [0, 0, 1, 2, 5, 8, 11, 14, 17, 18, 19, 22, 25, 27, 28, 29, 32, 33, 36, 39, 42, 43, 44, 47, 48, 51, 54, 57, 58, 59]
def mx_k99 : List (Nat × Nat × Nat) := [(0, 0, 0), (0, 0, 0), (0, 0, 0), (25, 0, 83), (109, 0, 84), (151, 0, 93), (57, 1, 67), (0, 0, 0), (0, 0, 0), (0, 0, 0), (57, 1, 67), (0, 0, 0), (61, 3, 4), (0, 0, 0), (0, 0, 0), (0, 0, 0), (0, 0, 0), (25, 0, 83), (109, 0, 84), (203, 0, 121), (0, 0, 0), (0, 0, 0), (0, 0, 0), (0, 0, 0), (25, 0, 83), (38, 0, 87), (205, 0, 106), (0, 0, 0), (0, 0, 0), (0, 0, 0)]
set_option maxRecDepth 100000 in
theorem mx_t99 : mx_chk 7 (mx_mC 99) (mx_nl 99) (mx_mR 99) (mx_nth mx_c99) 0 mx_p99 mx_k99 = true := by decide +kernel
def mx_c100 : List Nat := [0, 0, 1, 2, 5, 6, 7, 10, 11, 12, 15, 16, 19, 20, 23]
def mx_k100 : List (Nat × Nat × Nat) := [(0, 0, 0), (0, 0, 0), (0, 0, 0), (15, 0, 122), (0, 0, 0), (0, 0, 0), (19, 0, 123), (0, 0, 0), (0, 0, 0), (23, 0, 94), (0, 0, 0), (9, 0, 124), (0, 0, 0), (26, 1, 95), (0, 0, 0)]
set_option maxRecDepth 100000 in
theorem mx_t100 : mx_chk 5 (mx_mC 100) (mx_nl 100) (mx_mR 100) (mx_nth mx_c100) 0 mx_p100 mx_k100 = true := by decide +kernel
def mx_c101 : List Nat := [0, 0, 1, 3, 6, 9, 10, 11, 14, 17, 18, 20, 23, 25, 26, 27, 30, 31, 32, 35, 36, 37, 40, 41, 42, 43, 44, 47, 48, 49, 52]
def mx_k101 : List (Nat × Nat × Nat) := [(0, 0, 0), (0, 0, 0), (0, 1, 0), (57, 1, 67), (0, 0, 0), (0, 0, 0), (0, 0, 0), (57, 1, 67), (0, 0, 0), (0, 0, 0), (0, 1, 0), (0, 0, 0), (61, 3, 4), (0, 0, 0), (0, 0, 0), (0, 0, 0), (0, 0, 0), (0, 0, 0), (62, 0, 72), (0, 0, 0), (0, 0, 0), (11, 0, 95), (0, 0, 0), (0, 0, 0), (0, 0, 0), (0, 0, 0), (66, 0, 96), (0, 0, 0), (0, 0, 0), (70, 0, 71), (0, 0, 0)]
set_option maxRecDepth 100000 in
theorem mx_t101 : mx_chk 7 (mx_mC 101) (mx_nl 101) (mx_mR 101) (mx_nth mx_c101) 0 mx_p101 mx_k101 = true := by decide +kernel
def mx_c102 : List Nat := [0, 0, 1, 4, 7, 9, 10, 11, 12, 14, 17, 20, 21, 22, 24, 27, 30, 32, 33, 34, 37, 40, 41, 44, 45, 48, 51, 52, 55, 56]
def mx_k102 : List (Nat × Nat × Nat) := [(0, 0, 0), (0, 0, 0), (158, 0, 74), (0, 0, 0), (162, 3, 5), (0, 0, 0), (0, 0, 0), (0, 0, 0), (0, 1, 0), (99, 1, 69), (0, 0, 0), (0, 0, 0), (0, 0, 0), (0, 1, 0), (99, 1, 69), (0, 0, 0), (61, 3, 4), (0, 0, 0), (0, 0, 0), (25, 0, 83), (109, 0, 84), (0, 0, 0), (169, 0, 92), (0, 0, 0), (25, 0, 83), (109, 0, 84), (0, 0, 0), (172, 0, 91), (0, 0, 0), (0, 0, 0)]
set_option maxRecDepth 100000 in
theorem mx_t102 : mx_chk 7 (mx_mC 102) (mx_nl 102) (mx_mR 102) (mx_nth mx_c102) 0 mx_p102 mx_k102 = true := by decide +kernel
def mx_c103 : List Nat := [0, 0, 1, 4, 7, 9, 10, 11, 14, 17, 18, 19, 22, 25, 27, 28, 29, 32, 33, 36, 39, 40, 43, 44, 45, 46, 49]
def mx_k103 : List (Nat × Nat × Nat) := [(0, 0, 0), (0, 0, 0), (158, 0, 74), (0, 0, 0), (162, 3, 5), (0, 0, 0), (0, 0, 0), (208, 1, 75), (0, 0, 0), (0, 0, 0), (0, 0, 0), (57, 1, 67), (0, 0, 0), (61, 3, 4), (0, 0, 0), (0, 0, 0), (29, 0, 90), (0, 0, 0), (25, 0, 83), (127, 0, 76), (0, 0, 0), (29, 0, 90), (0, 0, 0), (0, 0, 0), (0, 0, 0), (211, 0, 73), (0, 0, 0)]
set_option maxRecDepth 100000 in
theorem mx_t103 : mx_chk 7 (mx_mC 103) (mx_nl 103) (mx_mR 103) (mx_nth mx_c103) 0 mx_p103 mx_k103 = true := by decide +kernel
def mx_c104 : List Nat := [0, 0, 1, 4, 7, 8, 9, 12, 13, 16, 17, 20, 21, 22, 25, 26]
def mx_k104 : List (Nat × Nat × Nat) := [(0, 0, 0), (0, 0, 0), (19, 0, 123), (0, 0, 0), (0, 0, 0), (0, 0, 0), (0, 0, 0), (0, 0, 0), (19, 0, 123), (0, 0, 0), (0, 0, 0), (0, 0, 0), (0, 0, 0), (0, 0, 0), (0, 0, 0), (0, 0, 0)]
set_option maxRecDepth 100000 in
theorem mx_t104 : mx_chk 5 (mx_mC 104) (mx_nl 104) (mx_mR 104) (mx_nth mx_c104) 0 mx_p104 mx_k104 = true := by decide +kernel
def mx_c105 : List Nat := [0, 0, 1, 3, 6, 9, 11, 12, 13, 16, 17, 18, 20, 22, 25, 28, 29, 30, 33, 34, 36, 37, 38, 41, 44, 45, 46, 49, 50, 52, 55, 56, 58, 59, 62, 63, 64, 66, 69, 70, 71, 74]
def mx_k105 : List (Nat × Nat × Nat) := [(0, 0, 0), (0, 0, 0), (0, 1, 0), (57, 1, 67), (0, 0, 0), (61, 3, 4), (0, 0, 0), (0, 0, 0), (11, 0, 95), (0, 0, 0), (0, 0, 0), (0, 1, 0), (0, 1, 0), (73, 0, 96), (0, 0, 0), (0, 0, 0), (0, 0, 0), (62, 0, 72), (0, 0, 0), (0, 1, 0), (0, 0, 0), (0, 0, 0), (77, 0, 79), (0, 0, 0), (0, 0, 0), (0, 0, 0), (62, 0, 72), (0, 0, 0), (0, 1, 0), (80, 0, 98), (0, 0, 0), (0, 1, 0), (0, 0, 0), (83, 0, 97), (0, 0, 0), (0, 0, 0), (0, 1, 0), (80, 0, 98), (0, 0, 0), (0, 0, 0), (70, 0, 71), (0, 0, 0)]
set_option maxRecDepth 100000 in
theorem mx_t105 : mx_chk 7 (mx_mC 105) (mx_nl 105) (mx_mR 105) (mx_nth mx_c105) 0 mx_p105 mx_k105 = true := by decide +kernel
def mx_c106 : List Nat := [0, 0, 1, 4]
def mx_k106 : List (Nat × Nat × Nat) := [(0, 0, 0), (0, 0, 0), (276, 0, 86), (0, 0, 0)]
set_option maxRecDepth 100000 in
theorem mx_t106 : mx_chk 7 (mx_mC 106) (mx_nl 106) (mx_mR 106) (mx_nth mx_c106) 0 mx_p106 mx_k106 = true := by decide +kernel
def mx_c107 : List Nat := [0, 0, 1, 2, 5, 8, 11, 14, 17, 18, 21, 24, 26, 27, 28, 31, 32, 35, 38, 39, 40, 41, 43, 44, 46, 46, 48, 50, 53, 54, 57, 60, 63, 64, 66, 67, 68, 71, 72, 73, 74, 77, 79, 81, 83, 86, 88, 90, 92, 93, 96, 99, 100]
def mx_k107 : List (Nat × Nat × Nat) := [(0, 0, 0), (0, 0, 0), (0, 0, 0), (25, 0, 83), (109, 0, 84), (222, 0, 101), (57, 1, 67), (0, 0, 0), (0, 0, 0), (208, 1, 75), (0, 0, 0), (61, 3, 4), (0, 0, 0), (0, 0, 0), (29, 0, 90), (0, 0, 0), (25, 0, 83), (127, 0, 76), (0, 0, 0), (0, 0, 0), (0, 0, 0), (0, 1, 0), (0, 0, 0), (0, 1, 0), (0, 0, 0), (0, 1, 0), (0, 1, 0), (0, 0, 0), (0, 0, 0), (29, 0, 90), (109, 0, 84), (225, 0, 125), (0, 0, 0), (0, 1, 0), (0, 0, 0), (0, 0, 0), (29, 0, 90), (0, 0, 0), (0, 0, 0), (0, 0, 0), (211, 0, 73), (0, 1, 0), (0, 1, 0), (0, 1, 0), (0, 0, 0), (0, 1, 0), (0, 1, 0), (0, 1, 0), (0, 0, 0), (0, 0, 0), (0, 0, 0), (0, 0, 0), (0, 0, 0)]
set_option maxRecDepth 100000 in
theorem mx_t107 : mx_chk 7 (mx_mC 107) (mx_nl 107) (mx_mR 107) (mx_nth mx_c107) 0 mx_p107 mx_k107 = true := by decide +kernel
def mx_c108 : List Nat := [0, 0, 1, 2, 5, 8, 11, 14, 15, 18, 21, 22, 23, 26, 28]
def mx_k108 : List (Nat × Nat × Nat) := [(0, 0, 0), (0, 0, 0), (0, 0, 0), (45, 0, 88), (257, 0, 89), (57, 1, 67), (0, 0, 0), (0, 0, 0), (45, 0, 88), (266, 0, 126), (0, 0, 0), (0, 0, 0), (0, 0, 0), (157, 3, 6), (0, 0, 0)]
set_option maxRecDepth 100000 in
theorem mx_t108 : mx_chk 7 (mx_mC 108) (mx_nl 108) (mx_mR 108) (mx_nth mx_c108) 0 mx_p108 mx_k108 = true := by decide +kernel
def mx_c109 : List Nat := [0, 0, 1, 2, 5, 8, 10, 11, 12, 15, 18, 19, 20, 23, 24, 25, 27, 28, 80, 81, 84, 85, 86, 87, 88, 91, 92, 93, 96, 98, 101, 102, 105, 106, 107, 108, 109, 112, 113, 114, 116, 119, 120, 123, 124, 125, 126, 129, 130, 131, 132, 133, 136, 137, 138, 139, 140, 143, 144, 145, 146, 147, 150, 151, 152, 153, 155, 156, 159, 161, 164, 166, 167, 169, 170, 173, 174, 177, 178, 181, 182, 184, 185, 187, 188, 189, 190, 192]
def mx_k109 : List (Nat × Nat × Nat) := [(0, 0, 0), (0, 0, 0), (0, 0, 0), (175, 0, 68), (0, 0, 0), (61, 3, 4), (0, 0, 0), (0, 0, 0), (25, 0, 83), (38, 0, 87), (0, 0, 0), (0, 0, 0), (179, 0, 127), (0, 0, 0), (0, 0, 0), (0, 1, 0), (0, 0, 0), (52, 0, 0), (0, 0, 0), (182, 0, 128), (0, 0, 0), (0, 0, 0), (0, 0, 0), (0, 0, 0), (185, 0, 112), (0, 0, 0), (0, 0, 0), (0, 0, 0), (157, 3, 6), (0, 0, 0), (0, 0, 0), (185, 0, 112), (0, 0, 0), (0, 0, 0), (0, 0, 0), (0, 0, 0), (185, 0, 112), (0, 0, 0), (0, 0, 0), (0, 1, 0), (0, 0, 0), (0, 0, 0), (0, 0, 0), (0, 0, 0), (0, 0, 0), (0, 0, 0), (188, 0, 129), (0, 0, 0), (0, 0, 0), (0, 0, 0), (0, 0, 0), (191, 0, 130), (0, 0, 0), (0, 0, 0), (0, 0, 0), (0, 0, 0), (194, 0, 131), (0, 0, 0), (0, 0, 0), (0, 0, 0), (0, 0, 0), (197, 0, 132), (0, 0, 0), (0, 0, 0), (0, 0, 0), (0, 1, 0), (0, 0, 0), (0, 0, 0), (157, 3, 6), (0, 0, 0), (0, 1, 0), (0, 0, 0), (0, 1, 0), (0, 0, 0), (0, 0, 0), (0, 0, 0), (0, 0, 0), (0, 0, 0), (200, 0, 133), (0, 0, 0), (0, 1, 0), (0, 0, 0), (0, 1, 0), (0, 0, 0), (0, 0, 0), (0, 0, 0), (61, 3, 4), (0, 0, 0)]
set_option maxRecDepth 100000 in
theorem mx_t109 : mx_chk 7 (mx_mC 109) (mx_nl 109) (mx_mR 109) (mx_nth mx_c109) 0 mx_p109 mx_k109 = true := by decide +kernel
end
section
def mx_c110 : List Nat := [0, 0, 1, 2, 3, 4, 4, 5, 6, 9, 11, 12, 13, 14, 15, 16, 19, 20, 21, 24, 26, 27, 28, 29, 30, 31, 32, 33, 36, 39, 40]
def mx_k110 : List (Nat × Nat × Nat) := [(0, 0, 0), (0, 0, 0), (0, 0, 0), (0, 0, 0), (0, 0, 0), (0, 0, 0), (0, 0, 0), (0, 0, 0), (19, 0, 134), (0, 1, 0), (0, 0, 0), (0, 0, 0), (0, 0, 0), (0, 0, 0), (0, 0, 0), (0, 0, 0), (0, 0, 0), (0, 0, 0), (19, 0, 134), (0, 1, 0), (0, 0, 0), (0, 0, 0), (0, 0, 0), (0, 0, 0), (0, 0, 0), (0, 0, 0), (0, 0, 0), (0, 0, 0), (0, 0, 0), (0, 0, 0), (0, 0, 0)]
set_option maxRecDepth 100000 in
theorem mx_t110 : mx_chk 8 (mx_mC 110) (mx_nl 110) (mx_mR 110) (mx_nth mx_c110) 0 mx_p110 mx_k110 = true := by decide +kernel
def mx_c111 : List Nat := [0, 0, 1, 4, 6, 7, 8, 9, 12, 13, 14, 15, 16, 17]
def mx_k111 : List (Nat × Nat × Nat) := [(0, 0, 0), (0, 0, 0), (19, 0, 134), (0, 1, 0), (0, 0, 0), (0, 0, 0), (0, 0, 0), (228, 0, 98), (0, 0, 0), (0, 0, 0), (0, 0, 0), (0, 0, 0), (0, 0, 0), (0, 0, 0)]
set_option maxRecDepth 100000 in
theorem mx_t111 : mx_chk 8 (mx_mC 111) (mx_nl 111) (mx_mR 111) (mx_nth mx_c111) 0 mx_p111 mx_k111 = true := by decide +kernel
def mx_c112 : List Nat := [0, 0, 1, 4, 7, 8, 9, 10, 13, 16, 17, 20]
def mx_k112 : List (Nat × Nat × Nat) := [(0, 0, 0), (0, 0, 0), (37, 0, 135), (0, 0, 0), (0, 0, 0), (0, 0, 0), (0, 0, 0), (231, 0, 99), (0, 0, 0), (0, 0, 0), (37, 0, 135), (0, 0, 0)]
set_option maxRecDepth 100000 in
theorem mx_t112 : mx_chk 8 (mx_mC 112) (mx_nl 112) (mx_mR 112) (mx_nth mx_c112) 0 mx_p112 mx_k112 = true := by decide +kernel
def mx_c113 : List Nat := [0, 0, 1, 3, 4, 5, 6, 7, 8, 9, 10, 11, 12, 15, 16, 19, 21, 22, 24, 25, 26, 27, 28, 29, 30, 31, 34, 36, 37, 38, 39, 40, 41, 42, 43, 45, 48, 49, 52, 53]
def mx_k113 : List (Nat × Nat × Nat) := [(0, 0, 0), (0, 0, 0), (0, 1, 0), (0, 0, 0), (0, 0, 0), (0, 0, 0), (0, 0, 0), (0, 0, 0), (0, 0, 0), (0, 0, 0), (0, 0, 0), (0, 0, 0), (0, 0, 0), (0, 0, 0), (34, 0, 136), (0, 1, 0), (0, 0, 0), (0, 1, 0), (0, 0, 0), (0, 0, 0), (0, 0, 0), (0, 0, 0), (0, 0, 0), (0, 0, 0), (0, 0, 0), (19, 0, 134), (0, 1, 0), (0, 0, 0), (0, 0, 0), (0, 0, 0), (0, 0, 0), (0, 0, 0), (0, 0, 0), (0, 0, 0), (104, 3, 9), (0, 0, 0), (0, 0, 0), (0, 0, 0), (0, 0, 0), (0, 0, 0)]
set_option maxRecDepth 100000 in
theorem mx_t113 : mx_chk 8 (mx_mC 113) (mx_nl 113) (mx_mR 113) (mx_nth mx_c113) 0 mx_p113 mx_k113 = true := by decide +kernel
def mx_c114 : List Nat := [0, 0, 2, 3, 4, 6, 7, 8, 11, 14, 15, 18, 19, 21, 22, 24, 24, 26, 27, 30, 31, 32, 35, 36, 37, 38, 40, 43, 46, 48, 49, 51, 52, 53, 55, 56, 59, 61, 62, 63, 64, 65, 66, 69, 71, 72, 74, 75, 76, 77, 78, 79, 80, 81, 84, 86, 87, 88, 89, 90, 91, 93, 94, 95, 98, 99, 102, 104, 107, 109, 112, 114, 115, 116, 118, 121, 123, 125, 128, 129, 132, 133, 135, 137, 140, 142, 145, 146, 147, 149, 152, 154, 157, 159, 161, 164, 167, 168]
def mx_k114 : List (Nat × Nat × Nat) := [(0, 0, 0), (104, 3, 9), (0, 0, 0), (0, 0, 0), (0, 1, 0), (0, 0, 0), (0, 0, 0), (234, 0, 100), (0, 0, 0), (0, 0, 0), (0, 0, 0), (0, 0, 0), (0, 1, 0), (0, 0, 0), (0, 1, 0), (0, 0, 0), (0, 1, 0), (0, 0, 0), (19, 0, 134), (0, 0, 0), (0, 0, 0), (0, 0, 0), (0, 0, 0), (0, 0, 0), (0, 0, 0), (0, 1, 0), (237, 0, 101), (0, 0, 0), (0, 1, 0), (0, 0, 0), (0, 1, 0), (0, 0, 0), (0, 0, 0), (0, 1, 0), (0, 0, 0), (19, 0, 134), (0, 1, 0), (0, 0, 0), (0, 0, 0), (0, 0, 0), (0, 0, 0), (0, 0, 0), (34, 0, 136), (0, 1, 0), (0, 0, 0), (0, 1, 0), (0, 0, 0), (0, 0, 0), (0, 0, 0), (0, 0, 0), (0, 0, 0), (0, 0, 0), (0, 0, 0), (19, 0, 134), (0, 1, 0), (0, 0, 0), (0, 0, 0), (0, 0, 0), (0, 0, 0), (0, 0, 0), (0, 1, 0), (0, 0, 0), (0, 0, 0), (234, 0, 100), (0, 0, 0), (0, 0, 0), (0, 1, 0), (0, 0, 0), (0, 1, 0), (0, 0, 0), (0, 1, 0), (0, 0, 0), (0, 0, 0), (104, 3, 9), (0, 0, 0), (0, 1, 0), (0, 1, 0), (0, 0, 0), (0, 0, 0), (0, 0, 0), (0, 0, 0), (0, 1, 0), (0, 1, 0), (0, 0, 0), (0, 1, 0), (0, 0, 0), (0, 0, 0), (0, 0, 0), (0, 1, 0), (0, 0, 0), (0, 1, 0), (0, 0, 0), (0, 1, 0), (0, 1, 0), (0, 0, 0), (0, 0, 0), (0, 0, 0), (0, 0, 0)]
set_option maxRecDepth 100000 in
theorem mx_t114 : mx_chk 8 (mx_mC 114) (mx_nl 114) (mx_mR 114) (mx_nth mx_c114) 0 mx_p114 mx_k114 = true := by decide +kernel
def mx_c115 : List Nat := [0, 0, 1, 2, 3, 6, 7, 9, 10, 13, 14, 17, 18]
def mx_k115 : List (Nat × Nat × Nat) := [(0, 0, 0), (0, 0, 0), (0, 0, 0), (0, 0, 0), (0, 0, 0), (0, 0, 0), (0, 1, 0), (0, 0, 0), (0, 0, 0), (0, 0, 0), (0, 0, 0), (0, 0, 0), (0, 0, 0)]
set_option maxRecDepth 100000 in
theorem mx_t115 : mx_chk 8 (mx_mC 115) (mx_nl 115) (mx_mR 115) (mx_nth mx_c115) 0 mx_p115 mx_k115 = true := by decide +kernel
def mx_c116 : List Nat := [0, 0, 1, 2, 3, 4, 7, 9, 10, 11, 12, 13, 16]
def mx_k116 : List (Nat × Nat × Nat) := [(0, 0, 0), (0, 0, 0), (0, 0, 0), (0, 0, 0), (0, 0, 0), (19, 0, 134), (0, 1, 0), (0, 0, 0), (0, 0, 0), (0, 0, 0), (0, 0, 0), (78, 1, 102), (0, 0, 0)]
set_option maxRecDepth 100000 in
theorem mx_t116 : mx_chk 8 (mx_mC 116) (mx_nl 116) (mx_mR 116) (mx_nth mx_c116) 0 mx_p116 mx_k116 = true := by decide +kernel
def mx_c117 : List Nat := [0, 0, 1, 4, 6, 7, 8, 9, 10, 11, 12, 13, 16, 18, 19, 20, 21, 22, 23, 24, 25, 27, 30, 31, 32, 35, 36, 37, 40, 41, 42, 43, 44, 47, 48, 51, 52, 53, 56, 57, 60, 61, 62, 65, 66, 69, 70]
def mx_k117 : List (Nat × Nat × Nat) := [(0, 0, 0), (0, 0, 0), (25, 0, 137), (0, 1, 0), (0, 0, 0), (0, 0, 0), (0, 0, 0), (0, 0, 0), (0, 0, 0), (0, 0, 0), (0, 0, 0), (25, 0, 137), (0, 1, 0), (0, 0, 0), (0, 0, 0), (0, 0, 0), (0, 0, 0), (0, 0, 0), (0, 0, 0), (0, 0, 0), (0, 1, 0), (0, 0, 0), (0, 0, 0), (0, 0, 0), (0, 0, 0), (0, 0, 0), (0, 0, 0), (0, 0, 0), (0, 0, 0), (0, 0, 0), (0, 0, 0), (0, 0, 0), (0, 0, 0), (0, 0, 0), (0, 0, 0), (0, 0, 0), (0, 0, 0), (0, 0, 0), (0, 0, 0), (0, 0, 0), (0, 0, 0), (0, 0, 0), (0, 0, 0), (0, 0, 0), (0, 0, 0), (0, 0, 0), (0, 0, 0)]
set_option maxRecDepth 100000 in
theorem mx_t117 : mx_chk 8 (mx_mC 117) (mx_nl 117) (mx_mR 117) (mx_nth mx_c117) 0 mx_p117 mx_k117 = true := by decide +kernel
def mx_c118 : List Nat := [0, 0, 1, 4, 5, 6, 9, 10, 11, 14, 15, 16, 19, 20, 23, 24]
def mx_k118 : List (Nat × Nat × Nat) := [(0, 0, 0), (0, 0, 0), (0, 0, 0), (0, 0, 0), (0, 0, 0), (0, 0, 0), (0, 0, 0), (0, 0, 0), (0, 0, 0), (0, 0, 0), (0, 0, 0), (0, 0, 0), (0, 0, 0), (0, 0, 0), (0, 0, 0), (0, 0, 0)]
set_option maxRecDepth 100000 in
theorem mx_t118 : mx_chk 8 (mx_mC 118) (mx_nl 118) (mx_mR 118) (mx_nth mx_c118) 0 mx_p118 mx_k118 = true := by decide +kernel
def mx_c119 : List Nat := [0, 0, 1, 2, 5, 7, 8, 9]
def mx_k119 : List (Nat × Nat × Nat) := [(0, 0, 0), (0, 0, 0), (0, 0, 0), (72, 0, 138), (75, 3, 10), (0, 0, 0), (0, 0, 0), (0, 0, 0)]
set_option maxRecDepth 100000 in
theorem mx_t119 : mx_chk 8 (mx_mC 119) (mx_nl 119) (mx_mR 119) (mx_nth mx_c119) 0 mx_p119 mx_k119 = true := by decide +kernel
def mx_c120 : List Nat := [0, 0, 1, 2, 5, 6, 7, 10, 13, 14, 15, 16, 19, 22, 25, 27, 28, 29, 30, 33, 34, 35, 38, 39, 42, 45, 46, 49, 50, 51, 54]
def mx_k120 : List (Nat × Nat × Nat) := [(0, 0, 0), (0, 0, 0), (0, 0, 0), (69, 0, 139), (0, 0, 0), (0, 0, 0), (278, 0, 103), (0, 0, 0), (0, 0, 0), (0, 0, 0), (0, 0, 0), (316, 1, 0), (78, 1, 102), (0, 0, 0), (88, 3, 11), (0, 0, 0), (0, 0, 0), (0, 0, 0), (72, 0, 138), (0, 0, 0), (0, 0, 0), (313, 0, 104), (0, 0, 0), (318, 1, 105), (0, 0, 0), (0, 0, 0), (0, 0, 0), (0, 0, 0), (0, 0, 0), (89, 0, 106), (0, 0, 0)]
set_option maxRecDepth 100000 in
theorem mx_t120 : mx_chk 8 (mx_mC 120) (mx_nl 120) (mx_mR 120) (mx_nth mx_c120) 0 mx_p120 mx_k120 = true := by decide +kernel
def mx_c121 : List Nat := [0, 0, 1, 4, 6, 9, 10, 13, 14, 17, 18, 19, 20, 21, 24, 25, 26, 29]
def mx_k121 : List (Nat × Nat × Nat) := [(0, 0, 0), (0, 0, 0), (322, 0, 140), (0, 1, 0), (0, 0, 0), (0, 0, 0), (66, 0, 141), (0, 0, 0), (322, 0, 140), (0, 0, 0), (0, 0, 0), (0, 0, 0), (0, 0, 0), (322, 0, 140), (0, 0, 0), (0, 0, 0), (322, 0, 140), (0, 0, 0)]
set_option maxRecDepth 100000 in
theorem mx_t121 : mx_chk 8 (mx_mC 121) (mx_nl 121) (mx_mR 121) (mx_nth mx_c121) 0 mx_p121 mx_k121 = true := by decide +kernel
def mx_c122 : List Nat := [0, 0, 1, 3, 6, 7, 10, 12, 13, 14, 15, 16, 17]
def mx_k122 : List (Nat × Nat × Nat) := [(0, 0, 0), (0, 0, 0), (0, 1, 0), (325, 0, 107), (0, 0, 0), (25, 0, 137), (0, 1, 0), (0, 0, 0), (0, 0, 0), (0, 0, 0), (0, 0, 0), (0, 0, 0), (0, 0, 0)]
set_option maxRecDepth 100000 in
theorem mx_t122 : mx_chk 8 (mx_mC 122) (mx_nl 122) (mx_mR 122) (mx_nth mx_c122) 0 mx_p122 mx_k122 = true := by decide +kernel
def mx_c123 : List Nat := [0, 0, 1, 2, 5, 6, 7, 10, 12, 13, 14, 15, 16, 17, 18, 19, 20, 23, 24, 26, 29, 29, 30, 31, 34, 37, 38, 40, 43, 43, 44, 45, 48, 49, 50, 53, 54, 55, 56, 59, 61, 64, 66, 69, 69, 70, 72, 75, 76, 77, 80, 81, 82, 83, 86, 87, 88, 89, 91, 92, 95, 96, 99, 100, 101, 102, 104, 105, 106, 109, 110, 113, 114, 115, 118, 119, 122, 123, 126, 127, 128, 131, 133, 136, 138, 139, 142, 144, 145, 146, 147, 148, 149, 150]
def mx_k123 : List (Nat × Nat × Nat) := [(0, 0, 0), (0, 0, 0), (0, 0, 0), (313, 0, 104), (0, 0, 0), (0, 0, 0), (25, 0, 137), (0, 1, 0), (0, 0, 0), (0, 0, 0), (0, 0, 0), (0, 0, 0), (0, 0, 0), (0, 0, 0), (0, 0, 0), (0, 0, 0), (0, 0, 0), (0, 0, 0), (0, 1, 0), (325, 0, 107), (0, 0, 0), (0, 0, 0), (0, 0, 0), (318, 1, 105), (0, 0, 0), (0, 0, 0), (0, 1, 0), (325, 0, 107), (0, 0, 0), (0, 0, 0), (0, 0, 0), (0, 0, 0), (0, 0, 0), (0, 0, 0), (0, 0, 0), (0, 0, 0), (0, 0, 0), (0, 0, 0), (0, 0, 0), (0, 1, 0), (0, 0, 0), (0, 1, 0), (325, 0, 107), (0, 0, 0), (0, 0, 0), (0, 1, 0), (325, 0, 107), (0, 0, 0), (0, 0, 0), (0, 0, 0), (0, 0, 0), (0, 0, 0), (0, 0, 0), (328, 0, 108), (0, 0, 0), (0, 0, 0), (0, 0, 0), (0, 1, 0), (0, 0, 0), (0, 0, 0), (0, 0, 0), (0, 0, 0), (0, 0, 0), (0, 0, 0), (0, 0, 0), (0, 1, 0), (0, 0, 0), (0, 0, 0), (0, 0, 0), (0, 0, 0), (0, 0, 0), (0, 0, 0), (0, 0, 0), (0, 0, 0), (0, 0, 0), (0, 2, 0), (0, 0, 0), (0, 0, 0), (0, 0, 0), (0, 0, 0), (0, 0, 0), (0, 1, 0), (0, 0, 0), (0, 1, 0), (0, 0, 0), (25, 0, 137), (0, 1, 0), (0, 0, 0), (0, 0, 0), (0, 0, 0), (0, 0, 0), (0, 0, 0), (0, 0, 0), (0, 0, 0)]
set_option maxRecDepth 100000 in
theorem mx_t123 : mx_chk 8 (mx_mC 123) (mx_nl 123) (mx_mR 123) (mx_nth mx_c123) 0 mx_p123 mx_k123 = true := by decide +kernel
def mx_c124 : List Nat := [0, 0, 1, 2, 5, 6, 7, 8, 11, 12, 13, 16, 17, 18, 19, 22, 23, 25, 28, 29, 30, 31, 34, 36, 39, 40, 41, 44, 46, 49, 51, 54, 55, 56, 59, 60, 61, 62, 65, 68, 69, 70, 73, 74, 75, 77, 78, 81, 82, 83, 84, 85, 86, 89, 91, 92, 93, 96, 97, 99, 100, 103, 104, 106, 107]
def mx_k124 : List (Nat × Nat × Nat) := [(0, 0, 0), (0, 0, 0), (0, 0, 0), (313, 0, 104), (0, 0, 0), (0, 0, 0), (0, 0, 0), (0, 0, 0), (0, 0, 0), (0, 0, 0), (328, 0, 108), (0, 0, 0), (0, 0, 0), (0, 0, 0), (0, 0, 0), (0, 0, 0), (0, 1, 0), (325, 0, 107), (0, 0, 0), (0, 0, 0), (0, 0, 0), (0, 0, 0), (0, 1, 0), (0, 0, 0), (0, 0, 0), (0, 0, 0), (0, 0, 0), (0, 1, 0), (0, 0, 0), (0, 1, 0), (325, 0, 107), (0, 0, 0), (0, 0, 0), (328, 0, 108), (0, 0, 0), (0, 0, 0), (0, 0, 0), (318, 1, 105), (0, 0, 0), (0, 0, 0), (0, 0, 0), (0, 0, 0), (0, 0, 0), (0, 0, 0), (0, 1, 0), (0, 0, 0), (0, 0, 0), (0, 0, 0), (0, 0, 0), (0, 0, 0), (0, 0, 0), (0, 0, 0), (331, 0, 109), (0, 1, 0), (0, 0, 0), (0, 0, 0), (0, 0, 0), (0, 0, 0), (0, 1, 0), (0, 0, 0), (0, 0, 0), (0, 0, 0), (0, 1, 0), (0, 0, 0), (0, 0, 0)]
set_option maxRecDepth 100000 in
theorem mx_t124 : mx_chk 8 (mx_mC 124) (mx_nl 124) (mx_mR 124) (mx_nth mx_c124) 0 mx_p124 mx_k124 = true := by decide +kernel
def mx_c125 : List Nat := [0, 0, 1, 2, 5, 6, 7, 10, 13, 14, 15, 16, 17, 20, 23, 25, 26, 27, 28, 31, 32, 35, 36, 37, 40, 43, 44, 45, 48]
def mx_k125 : List (Nat × Nat × Nat) := [(0, 0, 0), (0, 0, 0), (0, 0, 0), (69, 0, 139), (0, 0, 0), (0, 0, 0), (278, 0, 103), (0, 0, 0), (0, 0, 0), (0, 0, 0), (0, 0, 0), (0, 0, 0), (78, 1, 102), (0, 0, 0), (88, 3, 11), (0, 0, 0), (0, 0, 0), (0, 0, 0), (322, 0, 140), (0, 0, 0), (0, 0, 0), (0, 0, 0), (0, 0, 0), (334, 0, 110), (0, 0, 0), (0, 0, 0), (0, 0, 0), (331, 0, 109), (0, 0, 0)]
set_option maxRecDepth 100000 in
theorem mx_t125 : mx_chk 8 (mx_mC 125) (mx_nl 125) (mx_mR 125) (mx_nth mx_c125) 0 mx_p125 mx_k125 = true := by decide +kernel
def mx_c126 : List Nat := [0, 0, 1, 4, 7, 8, 9, 12, 13, 14, 17, 20]
def mx_k126 : List (Nat × Nat × Nat) := [(0, 0, 0), (0, 0, 0), (126, 0, 142), (0, 0, 0), (0, 0, 0), (0, 0, 0), (126, 0, 142), (0, 0, 0), (0, 0, 0), (111, 0, 143), (132, 0, 144), (0, 0, 0)]
set_option maxRecDepth 100000 in
theorem mx_t126 : mx_chk 8 (mx_mC 126) (mx_nl 126) (mx_mR 126) (mx_nth mx_c126) 0 mx_p126 mx_k126 = true := by decide +kernel
def mx_c127 : List Nat := [0, 0, 1, 2, 5, 8, 9, 12, 13, 14, 17, 19]
def mx_k127 : List (Nat × Nat × Nat) := [(0, 0, 0), (0, 0, 0), (0, 0, 0), (101, 0, 145), (0, 0, 0), (0, 0, 0), (31, 0, 146), (0, 0, 0), (0, 0, 0), (0, 0, 0), (104, 3, 9), (0, 0, 0)]
set_option maxRecDepth 100000 in
theorem mx_t127 : mx_chk 8 (mx_mC 127) (mx_nl 127) (mx_mR 127) (mx_nth mx_c127) 0 mx_p127 mx_k127 = true := by decide +kernel
def mx_c128 : List Nat := [0, 0, 1, 3, 6, 7, 9, 12, 13, 16, 17]
def mx_k128 : List (Nat × Nat × Nat) := [(0, 0, 0), (0, 0, 0), (0, 1, 0), (0, 0, 0), (0, 0, 0), (0, 1, 0), (0, 0, 0), (0, 0, 0), (0, 0, 0), (0, 0, 0), (0, 0, 0)]
set_option maxRecDepth 100000 in
theorem mx_t128 : mx_chk 8 (mx_mC 128) (mx_nl 128) (mx_mR 128) (mx_nth mx_c128) 0 mx_p128 mx_k128 = true := by decide +kernel
def mx_c129 : List Nat := [0, 0, 1, 3, 6, 7, 9, 12, 13, 16, 17]
def mx_k129 : List (Nat × Nat × Nat) := [(0, 0, 0), (0, 0, 0), (0, 1, 0), (0, 0, 0), (0, 0, 0), (0, 1, 0), (0, 0, 0), (0, 0, 0), (0, 0, 0), (0, 0, 0), (0, 0, 0)]
set_option maxRecDepth 100000 in
theorem mx_t129 : mx_chk 8 (mx_mC 129) (mx_nl 129) (mx_mR 129) (mx_nth mx_c129) 0 mx_p129 mx_k129 = true := by decide +kernel
def mx_c130 : List Nat := [0, 0, 1, 2, 5, 8, 10, 13, 14, 15, 18, 21, 23, 26, 27, 28, 31, 32, 33, 36, 39, 40, 41, 44, 47, 48, 49, 52, 55, 56, 57, 59, 62, 63, 64, 67, 70, 71, 74, 77, 77, 78, 79, 82, 85, 88, 91, 92, 93, 96, 97, 98, 101, 104, 105, 106, 109, 112, 113, 116, 119, 119, 120, 121, 124, 127, 130, 133, 134, 135, 138, 139, 140, 143, 146, 147, 148, 151, 152, 155, 156, 157, 160, 161, 164, 165, 168, 171, 172, 173, 176, 177, 178, 181, 182, 183, 185, 188, 189, 192, 193, 196, 197, 198, 201, 204]
def mx_k130 : List (Nat × Nat × Nat) := [(0, 0, 0), (0, 0, 0), (0, 0, 0), (105, 0, 147), (108, 0, 111), (0, 1, 0), (0, 0, 0), (0, 0, 0), (0, 0, 0), (105, 0, 147), (108, 0, 111), (0, 1, 0), (0, 0, 0), (0, 0, 0), (0, 0, 0), (105, 0, 147), (0, 0, 0), (0, 0, 0), (105, 0, 147), (0, 0, 0), (0, 0, 0), (0, 0, 0), (105, 0, 147), (111, 0, 143), (0, 0, 0), (0, 0, 0), (105, 0, 147), (108, 0, 111), (0, 0, 0), (0, 0, 0), (104, 3, 9), (0, 0, 0), (0, 0, 0), (0, 0, 0), (114, 0, 148), (0, 0, 0), (0, 0, 0), (117, 1, 112), (0, 0, 0), (0, 0, 0), (0, 0, 0), (0, 0, 0), (105, 0, 147), (108, 0, 111), (117, 1, 112), (0, 0, 0), (0, 0, 0), (0, 0, 0), (105, 0, 147), (0, 0, 0), (0, 0, 0), (105, 0, 147), (0, 0, 0), (0, 0, 0), (0, 0, 0), (114, 0, 148), (0, 0, 0), (0, 0, 0), (120, 1, 113), (0, 0, 0), (0, 0, 0), (0, 0, 0), (0, 0, 0), (105, 0, 147), (108, 0, 111), (120, 1, 113), (0, 0, 0), (0, 0, 0), (0, 0, 0), (105, 0, 147), (0, 0, 0), (0, 0, 0), (105, 0, 147), (0, 0, 0), (0, 0, 0), (0, 0, 0), (105, 0, 147), (0, 0, 0), (111, 0, 143), (0, 0, 0), (0, 0, 0), (0, 0, 0), (0, 0, 0), (0, 0, 0), (0, 0, 0), (114, 0, 148), (0, 0, 0), (0, 0, 0), (0, 0, 0), (105, 0, 147), (0, 0, 0), (0, 0, 0), (105, 0, 147), (0, 0, 0), (0, 0, 0), (0, 1, 0), (0, 0, 0), (0, 0, 0), (0, 0, 0), (0, 0, 0), (114, 0, 148), (0, 0, 0), (0, 0, 0), (105, 0, 147), (123, 0, 149), (0, 0, 0)]
set_option maxRecDepth 100000 in
theorem mx_t130 : mx_chk 8 (mx_mC 130) (mx_nl 130) (mx_mR 130) (mx_nth mx_c130) 0 mx_p130 mx_k130 = true := by decide +kernel
def mx_c131 : List Nat := [0, 0, 1, 2, 5, 8, 9, 10, 13, 14, 15, 18, 19, 20, 23, 24, 27]
def mx_k131 : List (Nat × Nat × Nat) := [(0, 0, 0), (0, 0, 0), (0, 0, 0), (95, 0, 150), (101, 0, 145), (0, 0, 0), (0, 0, 0), (95, 0, 150), (0, 0, 0), (0, 0, 0), (105, 0, 147), (0, 0, 0), (0, 0, 0), (126, 0, 142), (0, 0, 0), (129, 0, 114), (0, 0, 0)]
set_option maxRecDepth 100000 in
theorem mx_t131 : mx_chk 8 (mx_mC 131) (mx_nl 131) (mx_mR 131) (mx_nth mx_c131) 0 mx_p131 mx_k131 = true := by decide +kernel
def mx_c132 : List Nat := [0, 0, 1, 4, 5, 6, 9, 10, 13, 16, 17, 20]
def mx_k132 : List (Nat × Nat × Nat) := [(0, 0, 0), (0, 0, 0), (0, 0, 0), (0, 0, 0), (0, 0, 0), (135, 0, 115), (0, 0, 0), (126, 0, 142), (0, 0, 0), (0, 0, 0), (129, 0, 114), (0, 0, 0)]
set_option maxRecDepth 100000 in
theorem mx_t132 : mx_chk 8 (mx_mC 132) (mx_nl 132) (mx_mR 132) (mx_nth mx_c132) 0 mx_p132 mx_k132 = true := by decide +kernel
def mx_c133 : List Nat := [0, 0, 1, 4, 5, 6, 7, 10, 11, 12, 15, 16, 17, 20]
def mx_k133 : List (Nat × Nat × Nat) := [(0, 0, 0), (0, 0, 0), (22, 0, 151), (0, 0, 0), (0, 0, 0), (0, 0, 0), (0, 0, 0), (0, 0, 0), (0, 0, 0), (135, 0, 115), (0, 0, 0), (0, 0, 0), (143, 0, 116), (0, 0, 0)]
set_option maxRecDepth 100000 in
theorem mx_t133 : mx_chk 8 (mx_mC 133) (mx_nl 133) (mx_mR 133) (mx_nth mx_c133) 0 mx_p133 mx_k133 = true := by decide +kernel
def mx_c134 : List Nat := [0, 0, 1, 2, 2, 3, 6, 9, 10, 11, 12, 13, 16, 19, 20, 21, 21, 22, 23, 26, 28, 29, 32, 33, 35, 36, 37, 38, 39, 40, 41, 42, 44, 45, 46, 47, 48, 49, 50, 51, 54, 55, 56, 58, 59, 60, 61, 62, 63, 66, 69, 70, 73, 74, 75, 78, 79, 80, 83, 86]
def mx_k134 : List (Nat × Nat × Nat) := [(0, 0, 0), (0, 0, 0), (0, 0, 0), (0, 0, 0), (0, 0, 0), (0, 2, 0), (0, 0, 0), (0, 0, 0), (0, 0, 0), (0, 0, 0), (0, 0, 0), (0, 0, 0), (0, 0, 0), (0, 0, 0), (0, 0, 0), (0, 0, 0), (0, 0, 0), (0, 0, 0), (19, 0, 134), (0, 1, 0), (0, 0, 0), (0, 0, 0), (0, 0, 0), (0, 1, 0), (0, 0, 0), (0, 0, 0), (0, 0, 0), (0, 0, 0), (0, 0, 0), (0, 0, 0), (0, 0, 0), (0, 1, 0), (0, 0, 0), (0, 0, 0), (0, 0, 0), (0, 0, 0), (0, 0, 0), (0, 0, 0), (0, 0, 0), (231, 0, 99), (0, 0, 0), (0, 0, 0), (0, 1, 0), (0, 0, 0), (0, 0, 0), (0, 0, 0), (0, 0, 0), (0, 0, 0), (44, 0, 152), (0, 0, 0), (0, 0, 0), (0, 0, 0), (0, 0, 0), (0, 0, 0), (44, 0, 152), (0, 0, 0), (0, 0, 0), (0, 0, 0), (0, 0, 0), (0, 0, 0)]
set_option maxRecDepth 100000 in
theorem mx_t134 : mx_chk 8 (mx_mC 134) (mx_nl 134) (mx_mR 134) (mx_nth mx_c134) 0 mx_p134 mx_k134 = true := by decide +kernel
def mx_c135 : List Nat := [0, 0, 1, 2, 3, 5, 5, 7, 8, 11, 13, 14, 17, 18, 19, 21, 23, 24, 25, 26, 27, 28, 31, 32, 35, 36, 37, 38, 41, 44, 45]
def mx_k135 : List (Nat × Nat × Nat) := [(0, 0, 0), (0, 0, 0), (0, 0, 0), (0, 0, 0), (0, 1, 0), (0, 0, 0), (0, 1, 0), (0, 0, 0), (19, 0, 134), (0, 1, 0), (0, 0, 0), (0, 0, 0), (0, 0, 0), (0, 0, 0), (0, 1, 0), (0, 1, 0), (0, 0, 0), (0, 0, 0), (0, 0, 0), (0, 0, 0), (0, 0, 0), (0, 0, 0), (0, 0, 0), (0, 0, 0), (0, 0, 0), (0, 0, 0), (0, 0, 0), (0, 0, 0), (0, 0, 0), (0, 0, 0), (0, 0, 0)]
set_option maxRecDepth 100000 in
theorem mx_t135 : mx_chk 8 (mx_mC 135) (mx_nl 135) (mx_mR 135) (mx_nth mx_c135) 0 mx_p135 mx_k135 = true := by decide +kernel
def mx_c136 : List Nat := [0, 0, 1, 2, 3, 6, 7, 10, 12, 13, 14, 15, 18, 19, 22, 23]
def mx_k136 : List (Nat × Nat × Nat) := [(0, 0, 0), (0, 0, 0), (0, 0, 0), (0, 0, 0), (241, 0, 117), (0, 0, 0), (19, 0, 134), (0, 1, 0), (0, 0, 0), (0, 0, 0), (0, 0, 0), (0, 0, 0), (0, 0, 0), (0, 0, 0), (0, 0, 0), (0, 0, 0)]
set_option maxRecDepth 100000 in
theorem mx_t136 : mx_chk 8 (mx_mC 136) (mx_nl 136) (mx_mR 136) (mx_nth mx_c136) 0 mx_p136 mx_k136 = true := by decide +kernel
def mx_c137 : List Nat := [0, 0, 2, 3, 4, 6, 7, 9, 10, 11, 12, 13, 14, 16, 17, 18, 19, 22, 23, 25, 26, 27, 28, 29, 30, 31, 32, 35, 36, 39, 40, 42, 43, 44, 46, 47, 50, 51, 53, 54, 55, 56, 57, 58, 59, 60, 61, 62, 63, 65, 66, 67, 68, 69, 70, 71, 72, 73, 74]
def mx_k137 : List (Nat × Nat × Nat) := [(0, 0, 0), (0, 1, 0), (0, 0, 0), (0, 0, 0), (0, 1, 0), (0, 0, 0), (0, 1, 0), (0, 0, 0), (0, 0, 0), (0, 0, 0), (0, 0, 0), (0, 0, 0), (0, 1, 0), (0, 0, 0), (0, 0, 0), (0, 0, 0), (0, 0, 0), (0, 0, 0), (0, 1, 0), (0, 0, 0), (0, 0, 0), (0, 0, 0), (0, 0, 0), (0, 0, 0), (0, 0, 0), (0, 0, 0), (0, 0, 0), (0, 0, 0), (0, 0, 0), (0, 0, 0), (0, 1, 0), (0, 0, 0), (0, 0, 0), (0, 1, 0), (0, 0, 0), (0, 0, 0), (0, 0, 0), (0, 1, 0), (0, 0, 0), (0, 0, 0), (0, 0, 0), (0, 0, 0), (0, 0, 0), (0, 0, 0), (0, 0, 0), (0, 0, 0), (0, 0, 0), (0, 0, 0), (0, 1, 0), (0, 0, 0), (0, 0, 0), (0, 0, 0), (0, 0, 0), (0, 0, 0), (0, 0, 0), (0, 0, 0), (0, 0, 0), (0, 0, 0), (0, 0, 0)]
set_option maxRecDepth 100000 in
theorem mx_t137 : mx_chk 8 (mx_mC 137) (mx_nl 137) (mx_mR 137) (mx_nth mx_c137) 0 mx_p137 mx_k137 = true := by decide +kernel
end
section
def mx_c138 : List Nat := [0, 0, 1, 2, 3, 6, 9, 10, 12, 13, 14, 15, 16, 17, 18, 21, 22, 23, 24, 26, 29]
def mx_k138 : List (Nat × Nat × Nat) := [(0, 0, 0), (0, 0, 0), (0, 0, 0), (0, 0, 0), (259, 0, 118), (0, 0, 0), (0, 0, 0), (0, 1, 0), (0, 0, 0), (0, 0, 0), (0, 0, 0), (0, 0, 0), (0, 0, 0), (0, 0, 0), (0, 0, 0), (0, 0, 0), (0, 0, 0), (0, 0, 0), (0, 1, 0), (263, 0, 119), (0, 0, 0)]
set_option maxRecDepth 100000 in
theorem mx_t138 : mx_chk 8 (mx_mC 138) (mx_nl 138) (mx_mR 138) (mx_nth mx_c138) 0 mx_p138 mx_k138 = true := by decide +kernel
def mx_c139 : List Nat := [0, 0, 2, 3, 4, 6, 7, 10, 12, 13, 14, 15, 16, 17, 18, 19, 21, 22, 25, 26, 27, 28, 31, 32, 33, 36, 37, 40, 41, 43, 43, 44, 47, 48, 49, 50, 51, 52, 53, 54, 56, 57, 58, 60, 63, 64, 67, 68, 69, 70, 72, 73, 74, 75, 76, 78, 81, 83, 86, 87, 89, 90, 91, 92, 93, 95, 97, 98, 99, 100, 101, 102, 103, 104, 105, 106, 108, 110, 111, 112, 113, 114, 116, 116, 118, 119, 121, 123, 124, 125, 126, 127, 130, 133, 134, 137, 138, 139, 142, 143, 146, 147, 149, 151, 154, 155, 158, 159, 160, 163, 165, 166, 169, 170, 171, 174, 175, 177, 178, 179, 180, 181, 182, 183, 184, 185, 186]
def mx_k139 : List (Nat × Nat × Nat) := [(0, 0, 0), (0, 1, 0), (0, 0, 0), (0, 0, 0), (0, 1, 0), (0, 0, 0), (19, 0, 134), (0, 1, 0), (0, 0, 0), (0, 0, 0), (0, 0, 0), (0, 0, 0), (0, 0, 0), (0, 0, 0), (0, 0, 0), (0, 1, 0), (0, 0, 0), (47, 0, 153), (0, 0, 0), (0, 0, 0), (0, 0, 0), (19, 0, 134), (0, 0, 0), (0, 0, 0), (0, 0, 0), (0, 0, 0), (0, 0, 0), (0, 0, 0), (0, 1, 0), (0, 0, 0), (0, 0, 0), (47, 0, 153), (0, 0, 0), (0, 0, 0), (0, 0, 0), (0, 0, 0), (0, 0, 0), (0, 0, 0), (0, 0, 0), (0, 1, 0), (0, 0, 0), (0, 0, 0), (0, 1, 0), (0, 0, 0), (0, 0, 0), (0, 0, 0), (0, 0, 0), (0, 0, 0), (0, 0, 0), (0, 1, 0), (0, 0, 0), (0, 0, 0), (0, 0, 0), (0, 0, 0), (0, 1, 0), (0, 0, 0), (0, 1, 0), (0, 0, 0), (0, 0, 0), (0, 1, 0), (0, 0, 0), (0, 0, 0), (0, 0, 0), (0, 0, 0), (0, 1, 0), (0, 1, 0), (0, 0, 0), (0, 0, 0), (0, 0, 0), (0, 0, 0), (0, 0, 0), (0, 0, 0), (0, 0, 0), (0, 0, 0), (0, 0, 0), (0, 1, 0), (0, 1, 0), (0, 0, 0), (0, 0, 0), (0, 0, 0), (0, 0, 0), (0, 1, 0), (0, 0, 0), (0, 1, 0), (0, 0, 0), (0, 1, 0), (0, 1, 0), (0, 0, 0), (0, 0, 0), (0, 0, 0), (0, 0, 0), (41, 0, 154), (0, 0, 0), (0, 0, 0), (0, 0, 0), (0, 0, 0), (0, 0, 0), (0, 0, 0), (0, 0, 0), (0, 0, 0), (0, 0, 0), (0, 1, 0), (0, 1, 0), (0, 0, 0), (0, 0, 0), (19, 0, 134), (0, 0, 0), (0, 0, 0), (0, 0, 0), (0, 1, 0), (0, 0, 0), (19, 0, 134), (0, 0, 0), (0, 0, 0), (0, 0, 0), (0, 0, 0), (0, 1, 0), (0, 0, 0), (0, 0, 0), (0, 0, 0), (0, 0, 0), (0, 0, 0), (0, 0, 0), (0, 0, 0), (0, 0, 0), (0, 0, 0), (0, 0, 0)]
set_option maxRecDepth 100000 in
theorem mx_t139 : mx_chk 8 (mx_mC 139) (mx_nl 139) (mx_mR 139) (mx_nth mx_c139) 0 mx_p139 mx_k139 = true := by decide +kernel
def mx_c140 : List Nat := [0, 0, 2, 3, 4, 5, 6, 8, 9, 12, 14, 15, 16, 19, 20, 23, 25, 26, 27, 28, 29, 32, 33, 36, 38, 39, 40, 41, 44, 45, 48, 50, 51, 52, 55, 56, 59, 61, 62, 63, 64, 65, 68, 69, 72, 73]
def mx_k140 : List (Nat × Nat × Nat) := [(0, 0, 0), (0, 1, 0), (0, 0, 0), (0, 0, 0), (0, 0, 0), (0, 0, 0), (0, 1, 0), (0, 0, 0), (19, 0, 134), (0, 1, 0), (0, 0, 0), (0, 0, 0), (0, 0, 0), (0, 0, 0), (19, 0, 134), (0, 1, 0), (0, 0, 0), (0, 0, 0), (0, 0, 0), (0, 0, 0), (0, 0, 0), (0, 0, 0), (19, 0, 134), (0, 1, 0), (0, 0, 0), (0, 0, 0), (0, 0, 0), (0, 0, 0), (0, 0, 0), (19, 0, 134), (0, 1, 0), (0, 0, 0), (0, 0, 0), (0, 0, 0), (0, 0, 0), (19, 0, 134), (0, 1, 0), (0, 0, 0), (0, 0, 0), (0, 0, 0), (0, 0, 0), (0, 0, 0), (0, 0, 0), (0, 0, 0), (0, 0, 0), (0, 0, 0)]
set_option maxRecDepth 100000 in
theorem mx_t140 : mx_chk 8 (mx_mC 140) (mx_nl 140) (mx_mR 140) (mx_nth mx_c140) 0 mx_p140 mx_k140 = true := by decide +kernel
def mx_c141 : List Nat := [0, 0, 2, 3, 4, 6, 6, 8, 9, 12, 13, 14, 17, 18, 20, 21, 23, 23, 25, 26, 29, 30, 31, 34, 36, 39, 40, 42, 43, 45, 48, 51, 52, 55, 56, 58, 61, 64, 66, 69, 70, 73, 75, 77, 78, 79, 80, 81, 83, 86, 87, 90, 91, 93, 95, 98, 99, 101, 104, 105, 108, 110, 112, 113, 114, 115, 116, 117, 120, 122, 123, 124, 125, 126, 127, 130, 132, 135, 136, 137, 140, 143, 144]
def mx_k141 : List (Nat × Nat × Nat) := [(0, 0, 0), (104, 3, 9), (0, 0, 0), (0, 0, 0), (0, 1, 0), (0, 0, 0), (0, 1, 0), (0, 0, 0), (19, 0, 134), (0, 0, 0), (0, 0, 0), (0, 0, 0), (0, 0, 0), (0, 1, 0), (0, 0, 0), (0, 1, 0), (0, 0, 0), (0, 1, 0), (0, 0, 0), (19, 0, 134), (0, 0, 0), (0, 0, 0), (0, 0, 0), (0, 1, 0), (0, 0, 0), (0, 0, 0), (0, 1, 0), (0, 0, 0), (0, 1, 0), (221, 0, 120), (0, 0, 0), (0, 0, 0), (0, 0, 0), (0, 0, 0), (0, 1, 0), (0, 0, 0), (0, 0, 0), (0, 1, 0), (0, 0, 0), (0, 0, 0), (34, 0, 136), (0, 1, 0), (0, 1, 0), (0, 0, 0), (0, 0, 0), (0, 0, 0), (0, 0, 0), (104, 3, 9), (0, 0, 0), (0, 0, 0), (0, 0, 0), (0, 0, 0), (0, 1, 0), (0, 1, 0), (0, 0, 0), (0, 0, 0), (104, 3, 9), (0, 0, 0), (0, 0, 0), (34, 0, 136), (0, 1, 0), (0, 1, 0), (0, 0, 0), (0, 0, 0), (0, 0, 0), (0, 0, 0), (0, 0, 0), (34, 0, 136), (0, 1, 0), (0, 0, 0), (0, 0, 0), (0, 0, 0), (0, 0, 0), (0, 0, 0), (0, 0, 0), (0, 1, 0), (0, 0, 0), (0, 0, 0), (0, 0, 0), (0, 0, 0), (0, 0, 0), (0, 0, 0), (0, 0, 0)]
set_option maxRecDepth 100000 in
theorem mx_t141 : mx_chk 8 (mx_mC 141) (mx_nl 141) (mx_mR 141) (mx_nth mx_c141) 0 mx_p141 mx_k141 = true := by decide +kernel
def mx_c142 : List Nat := [0, 0, 2, 3, 4, 5, 6, 7, 8, 9, 10, 11, 12, 13, 14, 15, 16, 17, 20, 21, 22, 23, 26, 27, 30, 31, 34, 35, 36, 37, 38, 39, 42, 43, 44, 45, 46, 47, 48, 50, 53, 55, 58, 59, 60, 61, 64, 66, 68, 70, 73, 74, 75, 76, 77, 79, 80, 81, 82, 85, 87, 88, 90, 91, 92, 93, 95, 97, 98, 99, 100, 101, 102, 105, 106, 107, 108, 110, 113, 116, 117, 118, 119, 120, 121, 122, 123, 124, 125, 127, 130, 132, 135]
def mx_k142 : List (Nat × Nat × Nat) := [(0, 0, 0), (0, 1, 0), (0, 0, 0), (0, 0, 0), (0, 0, 0), (0, 0, 0), (0, 0, 0), (0, 0, 0), (0, 0, 0), (0, 0, 0), (0, 0, 0), (0, 0, 0), (0, 0, 0), (0, 0, 0), (0, 0, 0), (0, 0, 0), (0, 0, 0), (0, 0, 0), (0, 0, 0), (0, 0, 0), (0, 0, 0), (231, 0, 99), (0, 0, 0), (0, 2, 0), (0, 0, 0), (0, 0, 0), (0, 0, 0), (0, 0, 0), (0, 0, 0), (0, 0, 0), (0, 0, 0), (245, 0, 121), (0, 0, 0), (0, 0, 0), (0, 0, 0), (0, 0, 0), (0, 0, 0), (0, 0, 0), (0, 1, 0), (0, 0, 0), (104, 3, 9), (0, 0, 0), (0, 0, 0), (0, 0, 0), (0, 0, 0), (249, 0, 122), (0, 1, 0), (0, 1, 0), (104, 3, 9), (0, 0, 0), (0, 0, 0), (0, 0, 0), (0, 0, 0), (0, 0, 0), (0, 1, 0), (0, 0, 0), (0, 0, 0), (0, 0, 0), (19, 0, 134), (0, 1, 0), (0, 0, 0), (0, 1, 0), (0, 0, 0), (0, 0, 0), (0, 0, 0), (0, 1, 0), (0, 1, 0), (0, 0, 0), (0, 0, 0), (0, 0, 0), (0, 0, 0), (0, 0, 0), (0, 0, 0), (0, 0, 0), (0, 0, 0), (0, 0, 0), (0, 1, 0), (252, 0, 123), (0, 0, 0), (0, 0, 0), (0, 0, 0), (0, 0, 0), (0, 0, 0), (0, 0, 0), (0, 0, 0), (0, 0, 0), (0, 0, 0), (0, 0, 0), (0, 1, 0), (256, 0, 124), (0, 1, 0), (245, 0, 121), (0, 0, 0)]
set_option maxRecDepth 100000 in
theorem mx_t142 : mx_chk 8 (mx_mC 142) (mx_nl 142) (mx_mR 142) (mx_nth mx_c142) 0 mx_p142 mx_k142 = true := by decide +kernel
def mx_c143 : List Nat := [0, 0, 1, 2, 2, 3, 5, 8, 9, 12, 13, 14, 15, 18, 21, 22, 23, 23, 24, 25, 28, 30, 31, 34, 35, 36, 37, 40, 43, 46, 47, 50, 51, 52, 53, 54, 55]
def mx_k143 : List (Nat × Nat × Nat) := [(0, 0, 0), (0, 0, 0), (0, 0, 0), (0, 0, 0), (0, 0, 0), (0, 1, 0), (0, 0, 0), (0, 0, 0), (47, 0, 153), (0, 0, 0), (0, 0, 0), (0, 0, 0), (0, 0, 0), (0, 0, 0), (0, 0, 0), (0, 0, 0), (0, 0, 0), (0, 0, 0), (0, 0, 0), (19, 0, 134), (0, 1, 0), (0, 0, 0), (0, 0, 0), (0, 0, 0), (0, 0, 0), (0, 0, 0), (266, 0, 125), (0, 0, 0), (0, 0, 0), (0, 0, 0), (0, 2, 0), (0, 0, 0), (0, 0, 0), (0, 0, 0), (0, 0, 0), (0, 0, 0), (0, 0, 0)]
set_option maxRecDepth 100000 in
theorem mx_t143 : mx_chk 8 (mx_mC 143) (mx_nl 143) (mx_mR 143) (mx_nth mx_c143) 0 mx_p143 mx_k143 = true := by decide +kernel
def mx_c144 : List Nat := [0, 0, 1, 2, 3, 4, 4, 5, 7, 10, 11, 12, 13, 14, 15, 16, 17, 18, 21, 24, 25]
def mx_k144 : List (Nat × Nat × Nat) := [(0, 0, 0), (0, 0, 0), (0, 0, 0), (0, 0, 0), (0, 0, 0), (0, 0, 0), (0, 0, 0), (0, 1, 0), (0, 0, 0), (0, 0, 0), (0, 0, 0), (0, 0, 0), (0, 0, 0), (0, 0, 0), (0, 0, 0), (0, 0, 0), (0, 0, 0), (0, 0, 0), (0, 0, 0), (0, 0, 0), (0, 0, 0)]
set_option maxRecDepth 100000 in
theorem mx_t144 : mx_chk 8 (mx_mC 144) (mx_nl 144) (mx_mR 144) (mx_nth mx_c144) 0 mx_p144 mx_k144 = true := by decide +kernel
def mx_c145 : List Nat := [0, 0, 1, 2, 5, 8, 9, 10, 10, 11, 12, 15, 16, 17, 20, 23, 26, 29, 30, 31, 32, 34, 35, 37, 38, 40, 40, 42, 43, 46, 48, 49, 52, 53, 56, 58, 60, 61, 62, 63, 64, 66, 67, 69, 70, 71, 73, 76, 78, 80, 83, 85, 88, 90, 92, 94, 95, 98, 100, 102, 103, 104, 105, 106, 109, 110, 112, 115, 118, 119, 122, 123, 126, 127, 128, 131, 133, 136, 138]
def mx_k145 : List (Nat × Nat × Nat) := [(0, 0, 0), (0, 0, 0), (0, 0, 0), (28, 0, 155), (217, 0, 126), (0, 0, 0), (0, 0, 0), (0, 0, 0), (0, 0, 0), (0, 0, 0), (0, 0, 0), (0, 0, 0), (0, 0, 0), (28, 0, 155), (273, 0, 127), (0, 0, 0), (0, 0, 0), (0, 0, 0), (0, 0, 0), (0, 0, 0), (0, 1, 0), (0, 0, 0), (0, 1, 0), (0, 0, 0), (0, 1, 0), (0, 0, 0), (0, 1, 0), (0, 0, 0), (19, 0, 134), (0, 1, 0), (0, 0, 0), (0, 0, 0), (0, 0, 0), (28, 0, 155), (0, 1, 0), (0, 1, 0), (0, 0, 0), (0, 0, 0), (0, 0, 0), (0, 0, 0), (0, 1, 0), (0, 0, 0), (0, 1, 0), (0, 0, 0), (0, 0, 0), (0, 1, 0), (0, 0, 0), (0, 1, 0), (0, 1, 0), (0, 0, 0), (0, 1, 0), (0, 0, 0), (0, 1, 0), (0, 1, 0), (0, 1, 0), (0, 0, 0), (28, 0, 155), (0, 1, 0), (0, 1, 0), (0, 0, 0), (0, 0, 0), (0, 0, 0), (0, 0, 0), (283, 1, 128), (0, 0, 0), (0, 1, 0), (0, 0, 0), (0, 0, 0), (0, 0, 0), (0, 0, 0), (0, 0, 0), (0, 0, 0), (0, 0, 0), (0, 0, 0), (0, 0, 0), (0, 1, 0), (0, 0, 0), (0, 1, 0), (0, 0, 0)]
set_option maxRecDepth 100000 in
theorem mx_t145 : mx_chk 8 (mx_mC 145) (mx_nl 145) (mx_mR 145) (mx_nth mx_c145) 0 mx_p145 mx_k145 = true := by decide +kernel
def mx_c146 : List Nat := [0, 0, 1, 4, 5, 6, 8, 9, 11, 12, 14, 15, 17, 17, 19, 20, 23, 24, 27, 28, 30, 31, 32, 34, 36, 39, 41, 43, 45, 48, 50, 53, 55, 57, 59, 61, 64, 66, 69, 71, 73, 76, 79, 80, 83, 84, 86, 87, 89]
def mx_k146 : List (Nat × Nat × Nat) := [(0, 0, 0), (0, 0, 0), (19, 0, 134), (0, 0, 0), (0, 0, 0), (0, 1, 0), (0, 0, 0), (0, 1, 0), (0, 0, 0), (0, 1, 0), (0, 0, 0), (0, 1, 0), (0, 0, 0), (0, 1, 0), (0, 0, 0), (0, 0, 0), (0, 0, 0), (19, 0, 134), (0, 0, 0), (0, 1, 0), (0, 0, 0), (0, 0, 0), (0, 1, 0), (0, 1, 0), (289, 0, 129), (0, 1, 0), (0, 1, 0), (0, 1, 0), (0, 0, 0), (0, 1, 0), (0, 0, 0), (0, 1, 0), (0, 1, 0), (0, 1, 0), (0, 1, 0), (0, 0, 0), (0, 1, 0), (0, 0, 0), (0, 1, 0), (0, 1, 0), (0, 0, 0), (0, 0, 0), (0, 0, 0), (19, 0, 134), (0, 0, 0), (0, 1, 0), (0, 0, 0), (0, 1, 0), (0, 0, 0)]
set_option maxRecDepth 100000 in
theorem mx_t146 : mx_chk 8 (mx_mC 146) (mx_nl 146) (mx_mR 146) (mx_nth mx_c146) 0 mx_p146 mx_k146 = true := by decide +kernel
def mx_c147 : List Nat := [0, 0, 1, 2, 3, 6, 9]
def mx_k147 : List (Nat × Nat × Nat) := [(0, 0, 0), (0, 0, 0), (0, 0, 0), (0, 0, 0), (281, 1, 1), (78, 1, 102), (0, 0, 0)]
set_option maxRecDepth 100000 in
theorem mx_t147 : mx_chk 8 (mx_mC 147) (mx_nl 147) (mx_mR 147) (mx_nth mx_c147) 0 mx_p147 mx_k147 = true := by decide +kernel
def mx_c148 : List Nat := [0, 0, 1, 2, 5, 6, 9, 12, 15, 16, 17, 20, 23, 24, 25, 26, 27, 30, 33, 34, 35, 36, 37, 40, 43, 45, 46, 47, 50, 51, 52, 53, 55, 56, 57, 60, 63, 64, 65, 66, 68, 69, 70, 73]
def mx_k148 : List (Nat × Nat × Nat) := [(0, 0, 0), (0, 0, 0), (0, 0, 0), (69, 0, 139), (0, 0, 0), (210, 0, 156), (0, 0, 0), (270, 4, 12), (0, 0, 0), (0, 0, 0), (286, 1, 130), (0, 0, 0), (0, 0, 0), (0, 0, 0), (0, 0, 0), (0, 0, 0), (78, 1, 102), (0, 0, 0), (0, 0, 0), (0, 0, 0), (0, 0, 0), (0, 0, 0), (78, 1, 102), (0, 0, 0), (88, 3, 11), (0, 0, 0), (0, 0, 0), (0, 0, 0), (0, 0, 0), (0, 0, 0), (0, 0, 0), (0, 1, 0), (0, 0, 0), (0, 0, 0), (292, 0, 131), (0, 0, 0), (0, 0, 0), (0, 0, 0), (0, 0, 0), (0, 1, 0), (0, 0, 0), (0, 0, 0), (292, 0, 131), (0, 0, 0)]
set_option maxRecDepth 100000 in
theorem mx_t148 : mx_chk 8 (mx_mC 148) (mx_nl 148) (mx_mR 148) (mx_nth mx_c148) 0 mx_p148 mx_k148 = true := by decide +kernel
def mx_c149 : List Nat := [0, 0, 1, 2, 3, 6, 9]
def mx_k149 : List (Nat × Nat × Nat) := [(0, 0, 0), (0, 0, 0), (0, 0, 0), (0, 0, 0), (76, 1, 2), (78, 1, 102), (0, 0, 0)]
set_option maxRecDepth 100000 in
theorem mx_t149 : mx_chk 8 (mx_mC 149) (mx_nl 149) (mx_mR 149) (mx_nth mx_c149) 0 mx_p149 mx_k149 = true := by decide +kernel
def mx_c150 : List Nat := [0, 0, 1, 2, 5, 6, 9, 12, 13, 16, 19, 21, 22, 23, 24, 27, 28, 31, 32, 33, 36, 37, 40, 41, 42, 45, 46, 47, 50, 51, 52, 55, 56, 57, 58, 61, 62, 63, 66, 67, 68, 71, 72, 73, 76, 78, 81, 83, 86, 87, 88, 90, 91, 92, 93, 96, 97, 98, 99, 100, 103, 105, 106, 108, 109, 110, 111, 114, 115, 116, 117, 118, 121, 122, 123, 126, 127, 128, 130, 133, 134, 137, 138, 140, 141, 143, 143, 145, 147, 150, 152, 155, 157, 160, 162, 163, 164, 166, 167, 169, 170, 173, 175, 176, 177, 179, 180, 182, 183, 184, 187, 189, 190, 191, 192, 193, 195, 196, 197, 198, 201, 204, 206]
def mx_k150 : List (Nat × Nat × Nat) := [(0, 0, 0), (0, 0, 0), (0, 0, 0), (69, 0, 139), (0, 0, 0), (82, 1, 132), (0, 0, 0), (0, 0, 0), (82, 1, 132), (0, 0, 0), (88, 3, 11), (0, 0, 0), (0, 0, 0), (0, 0, 0), (72, 0, 138), (0, 0, 0), (7, 0, 157), (0, 0, 0), (0, 0, 0), (0, 0, 0), (0, 0, 0), (7, 0, 157), (0, 0, 0), (0, 0, 0), (0, 0, 0), (0, 0, 0), (0, 0, 0), (89, 0, 106), (0, 0, 0), (0, 0, 0), (7, 0, 157), (0, 0, 0), (0, 0, 0), (0, 0, 0), (7, 0, 157), (0, 0, 0), (0, 0, 0), (0, 0, 0), (0, 0, 0), (0, 0, 0), (89, 0, 106), (0, 0, 0), (0, 0, 0), (0, 0, 0), (0, 1, 0), (0, 0, 0), (0, 1, 0), (0, 0, 0), (0, 0, 0), (0, 0, 0), (0, 1, 0), (0, 0, 0), (0, 0, 0), (0, 0, 0), (13, 0, 158), (0, 0, 0), (0, 0, 0), (0, 0, 0), (0, 0, 0), (0, 0, 0), (0, 1, 0), (0, 0, 0), (0, 1, 0), (0, 0, 0), (0, 0, 0), (0, 0, 0), (13, 0, 158), (0, 0, 0), (0, 0, 0), (0, 0, 0), (0, 0, 0), (0, 0, 0), (0, 0, 0), (0, 0, 0), (89, 0, 106), (0, 0, 0), (0, 0, 0), (0, 1, 0), (0, 0, 0), (0, 0, 0), (0, 0, 0), (0, 0, 0), (0, 1, 0), (0, 0, 0), (0, 1, 0), (0, 0, 0), (0, 1, 0), (0, 1, 0), (0, 0, 0), (0, 1, 0), (0, 0, 0), (0, 1, 0), (0, 0, 0), (0, 1, 0), (0, 0, 0), (0, 0, 0), (0, 1, 0), (0, 0, 0), (0, 1, 0), (0, 0, 0), (16, 0, 159), (0, 1, 0), (0, 0, 0), (0, 0, 0), (0, 1, 0), (0, 0, 0), (0, 1, 0), (0, 0, 0), (0, 0, 0), (16, 0, 159), (0, 1, 0), (0, 0, 0), (0, 0, 0), (0, 0, 0), (0, 0, 0), (0, 1, 0), (0, 0, 0), (0, 0, 0), (0, 0, 0), (0, 0, 0), (0, 0, 0), (0, 1, 0), (0, 0, 0)]
set_option maxRecDepth 100000 in
theorem mx_t150 : mx_chk 8 (mx_mC 150) (mx_nl 150) (mx_mR 150) (mx_nth mx_c150) 0 mx_p150 mx_k150 = true := by decide +kernel
def mx_c151 : List Nat := [0, 0, 1, 2, 5, 6, 7, 8, 60, 61, 62, 62, 63, 65, 68, 69, 70, 73, 74, 75, 78, 79, 82, 83, 84, 85, 88, 91, 92, 93, 94, 97, 98, 99, 100, 101, 102, 103, 104, 105, 108, 111, 112, 113, 114, 115, 115, 116, 117, 120, 122, 123, 126, 127, 128, 131, 133, 134, 135, 136, 137, 138, 140, 143, 144, 147, 148, 149, 150, 153, 156, 157, 158, 159, 162, 163, 165]
def mx_k151 : List (Nat × Nat × Nat) := [(0, 0, 0), (0, 0, 0), (0, 0, 0), (69, 0, 139), (0, 0, 0), (0, 0, 0), (0, 0, 0), (52, 0, 0), (0, 0, 0), (0, 0, 0), (0, 0, 0), (0, 0, 0), (0, 1, 0), (0, 0, 0), (0, 0, 0), (0, 0, 0), (7, 0, 157), (0, 0, 0), (0, 0, 0), (0, 0, 0), (0, 0, 0), (0, 0, 0), (0, 0, 0), (0, 0, 0), (0, 0, 0), (0, 0, 0), (0, 0, 0), (0, 0, 0), (0, 0, 0), (0, 0, 0), (19, 0, 134), (0, 0, 0), (0, 0, 0), (0, 0, 0), (0, 0, 0), (0, 0, 0), (0, 0, 0), (0, 0, 0), (0, 0, 0), (25, 0, 137), (0, 2, 0), (0, 0, 0), (0, 0, 0), (0, 0, 0), (0, 0, 0), (0, 0, 0), (0, 0, 0), (0, 0, 0), (19, 0, 134), (0, 1, 0), (0, 0, 0), (0, 0, 0), (0, 0, 0), (0, 0, 0), (25, 0, 137), (0, 1, 0), (0, 0, 0), (0, 0, 0), (0, 0, 0), (0, 0, 0), (0, 0, 0), (0, 1, 0), (0, 0, 0), (0, 0, 0), (0, 0, 0), (0, 0, 0), (0, 0, 0), (0, 0, 0), (0, 0, 0), (0, 0, 0), (0, 0, 0), (0, 0, 0), (0, 0, 0), (95, 0, 150), (0, 0, 0), (88, 3, 11), (0, 0, 0)]
set_option maxRecDepth 100000 in
theorem mx_t151 : mx_chk 8 (mx_mC 151) (mx_nl 151) (mx_mR 151) (mx_nth mx_c151) 0 mx_p151 mx_k151 = true := by decide +kernel
def mx_c152 : List Nat := [0, 0, 1, 2, 3, 4, 7, 8, 9, 10, 11, 12, 15]
def mx_k152 : List (Nat × Nat × Nat) := [(0, 0, 0), (0, 0, 0), (0, 0, 0), (0, 0, 0), (0, 0, 0), (19, 0, 134), (0, 0, 0), (0, 0, 0), (0, 0, 0), (0, 0, 0), (0, 0, 0), (78, 1, 102), (0, 0, 0)]
set_option maxRecDepth 100000 in
theorem mx_t152 : mx_chk 8 (mx_mC 152) (mx_nl 152) (mx_mR 152) (mx_nth mx_c152) 0 mx_p152 mx_k152 = true := by decide +kernel
def mx_c153 : List Nat := [0, 0, 1, 2, 5, 8, 9, 11, 12, 14, 14, 16, 17, 20, 21, 22, 25, 28, 29, 30, 33, 34, 37, 38, 41, 42, 44, 45, 46, 47, 49, 51, 53, 56, 58, 59, 62, 64, 65, 67, 70, 73, 75]
def mx_k153 : List (Nat × Nat × Nat) := [(0, 0, 0), (0, 0, 0), (0, 0, 0), (28, 0, 155), (217, 0, 126), (0, 0, 0), (0, 1, 0), (0, 0, 0), (0, 1, 0), (0, 0, 0), (0, 1, 0), (0, 0, 0), (0, 0, 0), (0, 0, 0), (0, 0, 0), (28, 0, 155), (273, 0, 127), (0, 0, 0), (0, 0, 0), (28, 0, 155), (0, 0, 0), (241, 0, 117), (0, 0, 0), (16, 0, 159), (0, 0, 0), (0, 1, 0), (0, 0, 0), (0, 0, 0), (0, 0, 0), (0, 1, 0), (0, 1, 0), (0, 1, 0), (0, 0, 0), (0, 1, 0), (0, 0, 0), (0, 0, 0), (0, 1, 0), (0, 0, 0), (0, 1, 0), (0, 0, 0), (0, 0, 0), (0, 1, 0), (0, 0, 0)]
set_option maxRecDepth 100000 in
theorem mx_t153 : mx_chk 8 (mx_mC 153) (mx_nl 153) (mx_mR 153) (mx_nth mx_c153) 0 mx_p153 mx_k153 = true := by decide +kernel
def mx_c154 : List Nat := [0, 0, 1, 2, 5, 6, 7, 10, 13, 14, 17, 20, 22, 23, 24, 27, 30, 33, 35, 36, 37, 40, 41, 42, 45, 46, 47, 50, 51, 52, 55, 56, 57, 59, 60, 61, 62, 65, 66, 67, 68, 69, 72, 73, 74, 77, 78, 79, 81, 81, 83, 85, 88, 89, 92, 94, 95, 96, 97, 98, 100, 101, 102, 103, 104, 107, 110, 113, 115, 116, 119, 122, 123, 124, 127, 128, 130, 131, 133, 134, 136, 136, 138, 139, 142, 143, 145, 148, 149, 150, 152, 153, 154, 155, 156, 158, 161, 163, 165, 168, 170, 172, 175, 177, 180, 182, 184, 186, 189, 191, 193, 196, 198, 201, 203, 205, 208, 211, 212, 213, 216, 218]
def mx_k154 : List (Nat × Nat × Nat) := [(0, 0, 0), (0, 0, 0), (0, 0, 0), (69, 0, 139), (0, 0, 0), (0, 0, 0), (225, 0, 133), (0, 0, 0), (0, 0, 0), (82, 1, 132), (0, 0, 0), (0, 1, 0), (0, 0, 0), (0, 0, 0), (305, 1, 3), (78, 1, 102), (0, 0, 0), (88, 3, 11), (0, 0, 0), (0, 0, 0), (7, 0, 157), (0, 0, 0), (0, 0, 0), (0, 0, 0), (0, 0, 0), (0, 0, 0), (89, 0, 106), (0, 0, 0), (0, 0, 0), (0, 0, 0), (0, 0, 0), (0, 0, 0), (0, 1, 0), (0, 0, 0), (0, 0, 0), (0, 0, 0), (13, 0, 158), (0, 0, 0), (0, 0, 0), (0, 0, 0), (0, 0, 0), (0, 0, 0), (0, 0, 0), (0, 0, 0), (89, 0, 106), (0, 0, 0), (0, 0, 0), (0, 1, 0), (0, 0, 0), (0, 1, 0), (0, 1, 0), (0, 0, 0), (0, 0, 0), (16, 0, 159), (0, 1, 0), (0, 0, 0), (0, 0, 0), (0, 0, 0), (0, 0, 0), (0, 1, 0), (0, 0, 0), (0, 0, 0), (0, 0, 0), (0, 0, 0), (307, 1, 4), (78, 1, 102), (0, 0, 0), (88, 3, 11), (0, 0, 0), (0, 0, 0), (0, 0, 0), (0, 0, 0), (0, 0, 0), (72, 0, 138), (0, 0, 0), (0, 1, 0), (0, 0, 0), (0, 1, 0), (0, 0, 0), (0, 1, 0), (0, 0, 0), (0, 1, 0), (0, 0, 0), (0, 0, 0), (0, 0, 0), (0, 1, 0), (37, 0, 135), (0, 0, 0), (0, 0, 0), (0, 1, 0), (0, 0, 0), (0, 0, 0), (0, 0, 0), (0, 0, 0), (0, 1, 0), (309, 0, 134), (0, 1, 0), (0, 1, 0), (0, 0, 0), (0, 1, 0), (0, 1, 0), (0, 0, 0), (0, 1, 0), (0, 0, 0), (0, 1, 0), (0, 1, 0), (0, 1, 0), (0, 0, 0), (0, 1, 0), (0, 1, 0), (0, 0, 0), (0, 1, 0), (0, 0, 0), (0, 1, 0), (0, 1, 0), (0, 0, 0), (0, 0, 0), (0, 0, 0), (0, 0, 0), (37, 0, 135), (0, 1, 0), (0, 0, 0)]
set_option maxRecDepth 100000 in
theorem mx_t154 : mx_chk 8 (mx_mC 154) (mx_nl 154) (mx_mR 154) (mx_nth mx_c154) 0 mx_p154 mx_k154 = true := by decide +kernel
end
section
def mx_c155 : List Nat := [0, 0, 1, 2, 5, 6, 9, 12, 14, 15, 16, 17, 20, 21, 24, 25, 26, 29, 30, 31, 34, 35, 36, 39, 40, 41, 42, 43, 46, 47, 48]
def mx_k155 : List (Nat × Nat × Nat) := [(0, 0, 0), (0, 0, 0), (0, 0, 0), (69, 0, 139), (0, 0, 0), (82, 1, 132), (0, 0, 0), (88, 3, 11), (0, 0, 0), (0, 0, 0), (0, 0, 0), (72, 0, 138), (0, 0, 0), (7, 0, 157), (0, 0, 0), (0, 0, 0), (0, 0, 0), (0, 0, 0), (0, 0, 0), (89, 0, 106), (0, 0, 0), (0, 0, 0), (7, 0, 157), (0, 0, 0), (0, 0, 0), (0, 0, 0), (0, 0, 0), (13, 0, 158), (0, 0, 0), (0, 0, 0), (0, 0, 0)]
set_option maxRecDepth 100000 in
theorem mx_t155 : mx_chk 8 (mx_mC 155) (mx_nl 155) (mx_mR 155) (mx_nth mx_c155) 0 mx_p155 mx_k155 = true := by decide +kernel
def mx_c156 : List Nat := [0, 0, 1, 2, 5, 6, 7, 10, 13, 14, 15, 18, 21, 22, 25, 27, 28, 29, 30, 31, 32, 35, 37]
def mx_k156 : List (Nat × Nat × Nat) := [(0, 0, 0), (0, 0, 0), (0, 0, 0), (69, 0, 139), (0, 0, 0), (0, 0, 0), (225, 0, 133), (0, 0, 0), (0, 0, 0), (0, 0, 0), (225, 0, 133), (0, 0, 0), (0, 0, 0), (34, 0, 136), (0, 1, 0), (0, 0, 0), (0, 0, 0), (0, 0, 0), (0, 0, 0), (0, 0, 0), (0, 0, 0), (88, 3, 11), (0, 0, 0)]
set_option maxRecDepth 100000 in
theorem mx_t156 : mx_chk 8 (mx_mC 156) (mx_nl 156) (mx_mR 156) (mx_nth mx_c156) 0 mx_p156 mx_k156 = true := by decide +kernel
def mx_c157 : List Nat := [0, 0, 1, 2, 5, 6, 9]
def mx_k157 : List (Nat × Nat × Nat) := [(0, 0, 0), (0, 0, 0), (0, 0, 0), (69, 0, 139), (0, 0, 0), (206, 0, 160), (0, 0, 0)]
set_option maxRecDepth 100000 in
theorem mx_t157 : mx_chk 8 (mx_mC 157) (mx_nl 157) (mx_mR 157) (mx_nth mx_c157) 0 mx_p157 mx_k157 = true := by decide +kernel
def mx_c158 : List Nat := [0, 0, 1, 2, 5, 6, 7, 8, 11, 14, 17, 19, 20, 21, 24, 25, 26, 29, 32, 34, 35, 36, 37, 38, 40, 40, 42, 45, 46, 49, 50, 53, 54, 56, 58, 59, 60, 63, 64, 65, 66, 67, 68, 71, 72, 73, 76, 79, 82, 83, 86]
def mx_k158 : List (Nat × Nat × Nat) := [(0, 0, 0), (0, 0, 0), (0, 0, 0), (69, 0, 139), (0, 0, 0), (0, 0, 0), (0, 0, 0), (93, 1, 5), (78, 1, 102), (0, 0, 0), (88, 3, 11), (0, 0, 0), (0, 0, 0), (95, 0, 150), (0, 0, 0), (0, 0, 0), (0, 2, 0), (0, 0, 0), (98, 3, 13), (0, 0, 0), (0, 0, 0), (0, 0, 0), (0, 0, 0), (0, 1, 0), (0, 0, 0), (0, 1, 0), (0, 0, 0), (0, 0, 0), (31, 0, 146), (0, 0, 0), (95, 0, 150), (0, 0, 0), (0, 1, 0), (0, 1, 0), (0, 0, 0), (0, 0, 0), (99, 1, 6), (0, 0, 0), (0, 0, 0), (0, 0, 0), (0, 0, 0), (0, 0, 0), (95, 0, 150), (0, 0, 0), (0, 0, 0), (95, 0, 150), (0, 0, 0), (0, 0, 0), (0, 0, 0), (95, 0, 150), (0, 0, 0)]
set_option maxRecDepth 100000 in
theorem mx_t158 : mx_chk 8 (mx_mC 158) (mx_nl 158) (mx_mR 158) (mx_nth mx_c158) 0 mx_p158 mx_k158 = true := by decide +kernel
def mx_c159 : List Nat := [0, 0, 1, 2, 3, 6, 7, 7, 8, 9, 12, 15, 16, 19, 20, 23, 25, 26, 27, 28, 31, 32, 33, 34, 36, 37, 38, 41, 44, 45]
def mx_k159 : List (Nat × Nat × Nat) := [(0, 0, 0), (0, 0, 0), (0, 0, 0), (0, 0, 0), (111, 0, 143), (0, 0, 0), (0, 0, 0), (0, 0, 0), (0, 0, 0), (123, 0, 149), (0, 0, 0), (0, 0, 0), (114, 0, 148), (0, 0, 0), (0, 0, 0), (0, 1, 0), (0, 0, 0), (0, 0, 0), (0, 0, 0), (31, 0, 146), (0, 0, 0), (0, 0, 0), (0, 0, 0), (0, 1, 0), (0, 0, 0), (0, 0, 0), (0, 0, 0), (0, 0, 0), (0, 0, 0), (0, 0, 0)]
set_option maxRecDepth 100000 in
theorem mx_t159 : mx_chk 8 (mx_mC 159) (mx_nl 159) (mx_mR 159) (mx_nth mx_c159) 0 mx_p159 mx_k159 = true := by decide +kernel
def mx_c160 : List Nat := [0, 0, 1, 2, 5, 6, 9, 12, 15, 16, 17, 18, 19, 20, 20, 21, 22, 25, 27, 28, 31, 32, 35, 37, 38, 39, 40, 41, 42, 43, 44, 47, 48, 51, 52, 55, 57, 58, 59, 60, 62, 64, 66, 69, 71, 72, 74, 75, 76, 77, 80, 82, 83, 84, 87, 88, 89, 92, 95, 96]
def mx_k160 : List (Nat × Nat × Nat) := [(0, 0, 0), (0, 0, 0), (0, 0, 0), (69, 0, 139), (0, 0, 0), (210, 0, 156), (0, 0, 0), (270, 4, 12), (0, 0, 0), (0, 0, 0), (0, 0, 0), (0, 0, 0), (0, 0, 0), (0, 0, 0), (0, 0, 0), (0, 0, 0), (19, 0, 134), (0, 1, 0), (0, 0, 0), (0, 0, 0), (0, 0, 0), (25, 0, 137), (0, 1, 0), (0, 0, 0), (0, 0, 0), (0, 0, 0), (0, 0, 0), (0, 0, 0), (0, 0, 0), (0, 0, 0), (0, 0, 0), (0, 0, 0), (0, 0, 0), (0, 0, 0), (34, 0, 136), (0, 1, 0), (0, 0, 0), (0, 0, 0), (0, 0, 0), (0, 1, 0), (0, 1, 0), (104, 3, 9), (0, 0, 0), (104, 3, 9), (0, 0, 0), (0, 1, 0), (0, 0, 0), (0, 0, 0), (0, 0, 0), (0, 0, 0), (0, 1, 0), (0, 0, 0), (0, 0, 0), (0, 0, 0), (0, 0, 0), (0, 0, 0), (0, 0, 0), (0, 0, 0), (0, 0, 0), (0, 0, 0)]
set_option maxRecDepth 100000 in
theorem mx_t160 : mx_chk 8 (mx_mC 160) (mx_nl 160) (mx_mR 160) (mx_nth mx_c160) 0 mx_p160 mx_k160 = true := by decide +kernel
def mx_c161 : List Nat := [0, 0, 1, 2, 5, 6, 9, 12, 15, 16, 17, 18, 19, 22, 25, 28, 30, 31, 32, 33, 33, 34, 35, 38, 39, 40, 43, 46, 49, 52, 53, 56, 59, 60]
def mx_k161 : List (Nat × Nat × Nat) := [(0, 0, 0), (0, 0, 0), (0, 0, 0), (69, 0, 139), (0, 0, 0), (210, 0, 156), (0, 0, 0), (270, 4, 12), (0, 0, 0), (0, 0, 0), (0, 0, 0), (0, 0, 0), (271, 1, 7), (78, 1, 102), (0, 0, 0), (88, 3, 11), (0, 0, 0), (0, 0, 0), (0, 0, 0), (0, 0, 0), (0, 0, 0), (0, 0, 0), (0, 0, 0), (0, 0, 0), (0, 0, 0), (25, 0, 137), (273, 0, 127), (0, 0, 0), (0, 0, 0), (0, 0, 0), (25, 0, 137), (0, 2, 0), (0, 0, 0), (0, 0, 0)]
set_option maxRecDepth 100000 in
theorem mx_t161 : mx_chk 8 (mx_mC 161) (mx_nl 161) (mx_mR 161) (mx_nth mx_c161) 0 mx_p161 mx_k161 = true := by decide +kernel
def mx_c162 : List Nat := [0, 0, 1, 2, 2, 3, 4, 7, 8, 11, 13, 14, 15, 16, 17, 18, 21, 23, 24, 25, 28, 29, 30, 31, 32, 33, 34, 37, 40, 41, 42, 43, 46, 47, 48, 50, 50, 52, 53, 56, 57, 58, 61, 64, 65, 68, 70, 71, 74, 76, 77, 78, 81, 84, 85, 86, 87, 90, 93, 94, 97, 98, 101, 104]
def mx_k162 : List (Nat × Nat × Nat) := [(0, 0, 0), (0, 0, 0), (0, 0, 0), (0, 0, 0), (0, 0, 0), (0, 0, 0), (0, 0, 0), (0, 0, 0), (19, 0, 134), (0, 1, 0), (0, 0, 0), (0, 0, 0), (0, 0, 0), (0, 0, 0), (0, 0, 0), (22, 0, 151), (0, 1, 0), (0, 0, 0), (0, 0, 0), (50, 0, 161), (0, 0, 0), (0, 0, 0), (0, 0, 0), (0, 0, 0), (0, 0, 0), (0, 0, 0), (0, 0, 0), (0, 0, 0), (0, 0, 0), (0, 0, 0), (0, 0, 0), (289, 0, 129), (0, 0, 0), (0, 0, 0), (0, 1, 0), (0, 0, 0), (0, 1, 0), (0, 0, 0), (0, 0, 0), (0, 0, 0), (0, 0, 0), (296, 0, 162), (0, 0, 0), (0, 0, 0), (53, 0, 163), (0, 1, 0), (0, 0, 0), (50, 0, 161), (0, 1, 0), (0, 0, 0), (0, 0, 0), (0, 0, 0), (0, 0, 0), (0, 0, 0), (0, 0, 0), (0, 0, 0), (296, 0, 162), (0, 0, 0), (0, 0, 0), (0, 0, 0), (0, 0, 0), (296, 0, 162), (296, 0, 162), (0, 0, 0)]
set_option maxRecDepth 100000 in
theorem mx_t162 : mx_chk 8 (mx_mC 162) (mx_nl 162) (mx_mR 162) (mx_nth mx_c162) 0 mx_p162 mx_k162 = true := by decide +kernel
def mx_c163 : List Nat := [0, 0, 1, 2, 3, 6, 7, 7, 8, 9, 12, 15, 16, 19, 20, 23, 24, 27, 28, 31, 32, 34, 37, 38, 40, 41, 42, 45, 46, 47, 48, 49, 50, 53, 56, 57, 60, 63, 64, 67, 68]
def mx_k163 : List (Nat × Nat × Nat) := [(0, 0, 0), (0, 0, 0), (0, 0, 0), (0, 0, 0), (111, 0, 143), (0, 0, 0), (0, 0, 0), (0, 0, 0), (0, 0, 0), (123, 0, 149), (0, 0, 0), (0, 0, 0), (114, 0, 148), (0, 0, 0), (0, 0, 0), (0, 0, 0), (123, 0, 149), (0, 0, 0), (111, 0, 143), (0, 0, 0), (0, 1, 0), (0, 0, 0), (0, 0, 0), (0, 1, 0), (0, 0, 0), (0, 0, 0), (31, 0, 146), (0, 0, 0), (0, 0, 0), (0, 0, 0), (0, 0, 0), (0, 0, 0), (0, 0, 0), (0, 0, 0), (0, 0, 0), (126, 0, 142), (0, 0, 0), (0, 0, 0), (0, 0, 0), (0, 0, 0), (0, 0, 0)]
set_option maxRecDepth 100000 in
theorem mx_t163 : mx_chk 8 (mx_mC 163) (mx_nl 163) (mx_mR 163) (mx_nth mx_c163) 0 mx_p163 mx_k163 = true := by decide +kernel
def mx_c164 : List Nat := [0, 0, 1, 4, 7, 8, 9, 10, 13, 14, 15, 18, 19, 22, 23, 24, 25, 26, 27, 28, 31, 34, 35, 36, 39, 40, 41, 44, 45, 48, 49, 52, 53, 56, 57]
def mx_k164 : List (Nat × Nat × Nat) := [(0, 0, 0), (0, 0, 0), (126, 0, 142), (0, 0, 0), (0, 0, 0), (0, 0, 0), (0, 0, 0), (139, 0, 135), (0, 0, 0), (0, 0, 0), (114, 0, 148), (0, 0, 0), (0, 0, 0), (0, 0, 0), (0, 0, 0), (0, 0, 0), (0, 0, 0), (0, 0, 0), (0, 0, 0), (78, 1, 102), (0, 0, 0), (0, 0, 0), (0, 0, 0), (135, 0, 115), (0, 0, 0), (0, 0, 0), (114, 0, 148), (0, 0, 0), (0, 0, 0), (0, 0, 0), (0, 0, 0), (0, 0, 0), (143, 0, 116), (0, 0, 0), (0, 0, 0)]
set_option maxRecDepth 100000 in
theorem mx_t164 : mx_chk 8 (mx_mC 164) (mx_nl 164) (mx_mR 164) (mx_nth mx_c164) 0 mx_p164 mx_k164 = true := by decide +kernel
def mx_c165 : List Nat := [0, 0, 1, 4, 7, 8, 9, 12, 13, 16, 17, 20, 21, 24]
def mx_k165 : List (Nat × Nat × Nat) := [(0, 0, 0), (0, 0, 0), (126, 0, 142), (0, 0, 0), (0, 0, 0), (0, 0, 0), (114, 0, 148), (0, 0, 0), (0, 0, 0), (0, 0, 0), (0, 0, 0), (0, 0, 0), (143, 0, 116), (0, 0, 0)]
set_option maxRecDepth 100000 in
theorem mx_t165 : mx_chk 8 (mx_mC 165) (mx_nl 165) (mx_mR 165) (mx_nth mx_c165) 0 mx_p165 mx_k165 = true := by decide +kernel
def mx_c166 : List Nat := [0, 0, 1, 2, 5, 8, 9, 12, 13, 16, 17, 20, 21, 24, 25, 26, 27, 29, 32, 33, 34, 37, 38, 39, 40, 42, 45, 46, 47, 50]
def mx_k166 : List (Nat × Nat × Nat) := [(0, 0, 0), (0, 0, 0), (0, 0, 0), (153, 0, 136), (157, 1, 8), (0, 0, 0), (0, 0, 0), (0, 0, 0), (0, 0, 0), (0, 0, 0), (143, 0, 116), (0, 0, 0), (22, 0, 151), (0, 0, 0), (0, 0, 0), (0, 0, 0), (0, 1, 0), (159, 0, 137), (0, 0, 0), (0, 0, 0), (22, 0, 151), (0, 0, 0), (0, 0, 0), (0, 0, 0), (0, 1, 0), (159, 0, 137), (0, 0, 0), (0, 0, 0), (163, 0, 138), (0, 0, 0)]
set_option maxRecDepth 100000 in
theorem mx_t166 : mx_chk 8 (mx_mC 166) (mx_nl 166) (mx_mR 166) (mx_nth mx_c166) 0 mx_p166 mx_k166 = true := by decide +kernel
def mx_c167 : List Nat := [0, 0, 1, 4, 5, 6, 9, 10, 11, 14]
def mx_k167 : List (Nat × Nat × Nat) := [(0, 0, 0), (0, 0, 0), (153, 0, 136), (0, 0, 0), (0, 0, 0), (0, 0, 0), (0, 0, 0), (0, 0, 0), (135, 0, 115), (0, 0, 0)]
set_option maxRecDepth 100000 in
theorem mx_t167 : mx_chk 8 (mx_mC 167) (mx_nl 167) (mx_mR 167) (mx_nth mx_c167) 0 mx_p167 mx_k167 = true := by decide +kernel
def mx_c168 : List Nat := [0, 0, 1, 2, 4, 7, 8, 9, 11, 14, 15, 16, 19, 20, 23, 26, 27, 30, 32, 33, 36, 37, 38, 39, 40, 41, 42, 45, 46, 47, 48, 49, 50, 51]
def mx_k168 : List (Nat × Nat × Nat) := [(0, 0, 0), (0, 0, 0), (0, 0, 0), (0, 1, 0), (166, 0, 139), (0, 0, 0), (0, 0, 0), (0, 1, 0), (159, 0, 137), (0, 0, 0), (0, 0, 0), (163, 0, 138), (0, 0, 0), (126, 0, 142), (0, 0, 0), (0, 0, 0), (22, 0, 151), (0, 1, 0), (0, 0, 0), (22, 0, 151), (0, 0, 0), (0, 0, 0), (0, 0, 0), (0, 0, 0), (0, 0, 0), (0, 0, 0), (22, 0, 151), (0, 0, 0), (0, 0, 0), (0, 0, 0), (0, 0, 0), (0, 0, 0), (0, 0, 0), (0, 0, 0)]
set_option maxRecDepth 100000 in
theorem mx_t168 : mx_chk 8 (mx_mC 168) (mx_nl 168) (mx_mR 168) (mx_nth mx_c168) 0 mx_p168 mx_k168 = true := by decide +kernel
def mx_c169 : List Nat := [0, 0, 1, 2, 4, 7, 8, 9, 10, 13, 14, 15, 16, 17, 20, 21, 22, 25, 28, 29, 32, 33, 36, 37, 40, 41, 44, 45, 46, 49, 50, 51, 52, 55, 56, 57, 58, 59, 62, 63, 64, 67, 70, 71, 74, 75, 78, 79, 80, 81, 84, 85, 86, 89, 90, 93, 94, 97, 100, 102, 103, 104, 107, 108, 109, 110, 111, 113, 114, 117, 119, 120, 121, 122, 125, 127, 128, 129, 130, 131, 132, 135, 137, 138, 139, 140, 143, 144, 147, 148, 149, 150, 153, 154, 155, 156, 157, 158, 159]
def mx_k169 : List (Nat × Nat × Nat) := [(0, 0, 0), (0, 0, 0), (0, 0, 0), (0, 1, 0), (166, 0, 139), (0, 0, 0), (0, 0, 0), (0, 0, 0), (22, 0, 151), (0, 0, 0), (0, 0, 0), (0, 0, 0), (0, 0, 0), (159, 0, 137), (0, 0, 0), (0, 0, 0), (126, 0, 142), (0, 0, 0), (0, 0, 0), (114, 0, 148), (0, 0, 0), (0, 0, 0), (0, 0, 0), (139, 0, 135), (0, 0, 0), (0, 0, 0), (0, 0, 0), (0, 0, 0), (135, 0, 115), (0, 0, 0), (0, 0, 0), (0, 0, 0), (22, 0, 151), (0, 0, 0), (0, 0, 0), (0, 0, 0), (0, 0, 0), (159, 0, 137), (0, 0, 0), (0, 0, 0), (153, 0, 136), (170, 1, 9), (0, 0, 0), (0, 0, 0), (0, 0, 0), (0, 0, 0), (0, 0, 0), (0, 0, 0), (0, 0, 0), (0, 0, 0), (0, 0, 0), (0, 0, 0), (143, 0, 116), (0, 0, 0), (163, 0, 138), (0, 0, 0), (126, 0, 142), (0, 0, 0), (0, 1, 0), (0, 0, 0), (0, 0, 0), (22, 0, 151), (0, 0, 0), (0, 0, 0), (0, 0, 0), (0, 0, 0), (0, 1, 0), (0, 0, 0), (22, 0, 151), (0, 1, 0), (0, 0, 0), (0, 0, 0), (0, 0, 0), (22, 0, 151), (0, 1, 0), (0, 0, 0), (0, 0, 0), (0, 0, 0), (0, 0, 0), (0, 0, 0), (22, 0, 151), (0, 1, 0), (0, 0, 0), (0, 0, 0), (0, 0, 0), (0, 0, 0), (0, 0, 0), (0, 0, 0), (0, 0, 0), (0, 0, 0), (0, 0, 0), (22, 0, 151), (0, 0, 0), (0, 0, 0), (0, 0, 0), (0, 0, 0), (0, 0, 0), (0, 0, 0), (0, 0, 0)]
set_option maxRecDepth 100000 in
theorem mx_t169 : mx_chk 8 (mx_mC 169) (mx_nl 169) (mx_mR 169) (mx_nth mx_c169) 0 mx_p169 mx_k169 = true := by decide +kernel
def mx_c170 : List Nat := [0, 0, 1, 2, 4, 7, 8, 9, 10, 13, 14, 15, 16, 17, 20, 21, 22, 23, 25, 28, 29, 30, 33, 34, 37, 40, 41, 44, 46, 47, 48, 51, 52, 53, 54, 55, 56, 57, 58, 61, 63, 64, 65, 68, 69, 70, 71, 72, 73, 74, 75, 76, 77, 80, 81, 82, 83, 84, 85, 86]
def mx_k170 : List (Nat × Nat × Nat) := [(0, 0, 0), (0, 0, 0), (0, 0, 0), (0, 1, 0), (166, 0, 139), (0, 0, 0), (0, 0, 0), (0, 0, 0), (22, 0, 151), (0, 0, 0), (0, 0, 0), (0, 0, 0), (0, 0, 0), (159, 0, 137), (0, 0, 0), (0, 0, 0), (0, 0, 0), (0, 1, 0), (159, 0, 137), (0, 0, 0), (0, 0, 0), (163, 0, 138), (0, 0, 0), (126, 0, 142), (0, 0, 0), (0, 0, 0), (22, 0, 151), (0, 1, 0), (0, 0, 0), (0, 0, 0), (22, 0, 151), (0, 0, 0), (0, 0, 0), (0, 0, 0), (0, 0, 0), (0, 0, 0), (0, 0, 0), (0, 0, 0), (22, 0, 151), (0, 1, 0), (0, 0, 0), (0, 0, 0), (22, 0, 151), (0, 0, 0), (0, 0, 0), (0, 0, 0), (0, 0, 0), (0, 0, 0), (0, 0, 0), (0, 0, 0), (0, 0, 0), (0, 0, 0), (22, 0, 151), (0, 0, 0), (0, 0, 0), (0, 0, 0), (0, 0, 0), (0, 0, 0), (0, 0, 0), (0, 0, 0)]
set_option maxRecDepth 100000 in
theorem mx_t170 : mx_chk 8 (mx_mC 170) (mx_nl 170) (mx_mR 170) (mx_nth mx_c170) 0 mx_p170 mx_k170 = true := by decide +kernel
def mx_c171 : List Nat := [0, 0, 1, 4, 5, 8, 9, 12, 13, 16, 17, 20, 21, 24, 25, 28, 29, 32, 33, 36, 38]
def mx_k171 : List (Nat × Nat × Nat) := [(0, 0, 0), (0, 0, 0), (147, 1, 10), (0, 0, 0), (0, 0, 0), (0, 0, 0), (0, 0, 0), (0, 0, 0), (149, 1, 11), (0, 0, 0), (0, 0, 0), (0, 0, 0), (0, 0, 0), (0, 0, 0), (151, 1, 12), (0, 0, 0), (0, 0, 0), (0, 0, 0), (0, 0, 0), (104, 3, 9), (0, 0, 0)]
set_option maxRecDepth 100000 in
theorem mx_t171 : mx_chk 8 (mx_mC 171) (mx_nl 171) (mx_mR 171) (mx_nth mx_c171) 0 mx_p171 mx_k171 = true := by decide +kernel
def mx_c172 : List Nat := [0, 0, 1, 2, 4, 7, 9, 10, 13, 15, 16, 17, 18, 19, 20, 21, 23, 26, 27, 30, 32, 35, 36, 37, 38, 40, 43, 44, 45, 48, 51, 53, 54, 57, 60, 61, 63, 65, 68, 69, 72, 73, 76, 77, 78, 80, 83, 85, 86, 89, 90, 93, 96, 98, 99, 100, 103, 104, 105, 106, 107, 109, 110, 113, 115, 116, 117, 118, 121, 123, 124, 125, 126, 127, 128, 131, 133, 134, 135, 137, 138, 139, 142, 144, 145, 146, 148, 149, 150, 153, 154, 155, 156, 157, 158, 159, 160, 163, 165, 166, 167, 168, 169, 170]
def mx_k172 : List (Nat × Nat × Nat) := [(0, 0, 0), (0, 0, 0), (0, 0, 0), (0, 1, 0), (166, 0, 139), (0, 1, 0), (0, 0, 0), (22, 0, 151), (0, 1, 0), (0, 0, 0), (0, 0, 0), (0, 0, 0), (0, 0, 0), (0, 0, 0), (0, 0, 0), (0, 1, 0), (0, 0, 0), (0, 0, 0), (0, 0, 0), (0, 1, 0), (159, 0, 137), (0, 0, 0), (0, 0, 0), (0, 0, 0), (0, 1, 0), (159, 0, 137), (0, 0, 0), (0, 0, 0), (153, 0, 136), (172, 1, 140), (0, 1, 0), (0, 0, 0), (126, 0, 142), (0, 0, 0), (0, 0, 0), (0, 1, 0), (104, 3, 9), (0, 0, 0), (0, 0, 0), (0, 0, 0), (0, 0, 0), (143, 0, 116), (0, 0, 0), (0, 0, 0), (0, 1, 0), (159, 0, 137), (0, 1, 0), (0, 0, 0), (163, 0, 138), (0, 0, 0), (126, 0, 142), (0, 0, 0), (0, 1, 0), (0, 0, 0), (0, 0, 0), (22, 0, 151), (0, 0, 0), (0, 0, 0), (0, 0, 0), (0, 0, 0), (0, 1, 0), (0, 0, 0), (22, 0, 151), (0, 1, 0), (0, 0, 0), (0, 0, 0), (0, 0, 0), (22, 0, 151), (0, 1, 0), (0, 0, 0), (0, 0, 0), (0, 0, 0), (0, 0, 0), (0, 0, 0), (22, 0, 151), (0, 1, 0), (0, 0, 0), (0, 0, 0), (0, 1, 0), (0, 0, 0), (0, 0, 0), (22, 0, 151), (0, 1, 0), (0, 0, 0), (0, 0, 0), (0, 1, 0), (0, 0, 0), (0, 0, 0), (22, 0, 151), (0, 0, 0), (0, 0, 0), (0, 0, 0), (0, 0, 0), (0, 0, 0), (0, 0, 0), (0, 0, 0), (22, 0, 151), (0, 1, 0), (0, 0, 0), (0, 0, 0), (0, 0, 0), (0, 0, 0), (0, 0, 0), (0, 0, 0)]
set_option maxRecDepth 100000 in
theorem mx_t172 : mx_chk 8 (mx_mC 172) (mx_nl 172) (mx_mR 172) (mx_nth mx_c172) 0 mx_p172 mx_k172 = true := by decide +kernel
def mx_c173 : List Nat := [0, 0, 1, 4, 5, 6, 7, 8, 9, 9, 10, 12, 15, 16, 19, 20, 21, 23, 24, 25, 27, 28, 31, 32, 35, 37, 38, 41, 44, 45, 46, 46, 47, 48, 51, 52, 53, 53, 54, 56, 59, 60, 62, 63, 65, 66, 68, 68, 70, 72, 73, 76, 77, 78, 79, 82, 84, 85, 88, 90, 92, 93, 95, 96, 99, 100, 101, 103, 106, 107, 110, 112, 114, 115, 117, 118, 119, 120, 121, 122, 125, 126, 128, 130, 131, 133, 134, 136, 137, 140, 143, 144, 147, 148, 150, 151, 154, 155, 157, 160, 161, 164, 165, 168, 169, 170, 171, 174, 177, 180, 183, 186, 189]
def mx_k173 : List (Nat × Nat × Nat) := [(0, 0, 0), (0, 0, 0), (19, 0, 134), (0, 0, 0), (0, 0, 0), (0, 0, 0), (0, 0, 0), (0, 0, 0), (0, 0, 0), (0, 0, 0), (0, 1, 0), (0, 0, 0), (0, 0, 0), (34, 0, 136), (0, 0, 0), (0, 0, 0), (0, 1, 0), (0, 0, 0), (0, 0, 0), (0, 1, 0), (0, 0, 0), (0, 0, 0), (0, 0, 0), (0, 0, 0), (104, 3, 9), (0, 0, 0), (0, 0, 0), (0, 0, 0), (0, 0, 0), (0, 0, 0), (0, 0, 0), (0, 0, 0), (0, 0, 0), (0, 0, 0), (0, 0, 0), (0, 0, 0), (0, 0, 0), (0, 0, 0), (0, 1, 0), (0, 0, 0), (0, 0, 0), (0, 1, 0), (0, 0, 0), (0, 1, 0), (0, 0, 0), (0, 1, 0), (0, 0, 0), (0, 1, 0), (0, 1, 0), (0, 0, 0), (19, 0, 134), (0, 0, 0), (0, 0, 0), (0, 0, 0), (0, 0, 0), (0, 1, 0), (0, 0, 0), (0, 0, 0), (0, 1, 0), (0, 1, 0), (0, 0, 0), (0, 1, 0), (0, 0, 0), (34, 0, 136), (0, 0, 0), (0, 0, 0), (104, 3, 9), (0, 0, 0), (0, 0, 0), (34, 0, 136), (0, 1, 0), (0, 1, 0), (0, 0, 0), (0, 1, 0), (0, 0, 0), (0, 0, 0), (0, 0, 0), (0, 0, 0), (0, 0, 0), (0, 0, 0), (0, 0, 0), (0, 1, 0), (0, 1, 0), (0, 0, 0), (0, 1, 0), (0, 0, 0), (0, 1, 0), (0, 0, 0), (221, 0, 120), (0, 0, 0), (0, 0, 0), (0, 0, 0), (0, 0, 0), (0, 1, 0), (0, 0, 0), (34, 0, 136), (0, 0, 0), (0, 1, 0), (0, 0, 0), (0, 0, 0), (0, 0, 0), (0, 0, 0), (34, 0, 136), (0, 0, 0), (0, 0, 0), (0, 0, 0), (0, 0, 0), (0, 0, 0), (0, 0, 0), (0, 0, 0), (0, 0, 0), (0, 0, 0), (0, 0, 0)]
set_option maxRecDepth 100000 in
theorem mx_t173 : mx_chk 8 (mx_mC 173) (mx_nl 173) (mx_mR 173) (mx_nth mx_c173) 0 mx_p173 mx_k173 = true := by decide +kernel
def mx_c174 : List Nat := [0, 0, 1, 2, 5, 6, 9, 10, 11, 11, 12, 14, 17, 18, 21, 22, 23, 24, 27, 30, 31, 34, 35, 38, 41, 41, 42, 45, 48, 49, 52, 53, 56, 59, 59, 60, 63, 66, 67, 70, 71, 74, 77, 78, 81, 84, 84, 85, 88, 91, 92, 95, 96, 99, 102, 103, 106, 109, 109, 110, 113, 116, 117, 120, 121, 124, 127, 128, 131, 134, 135, 138, 139, 142, 143, 144, 147, 148, 151, 154, 155, 156, 159, 162, 164, 165, 168, 169, 170, 171, 172, 175, 176, 177, 177, 178, 180, 183, 184, 187, 188, 189, 192, 193, 194, 195, 198, 201, 202, 205, 206, 207, 210, 213, 214, 217, 219, 220]
def mx_k174 : List (Nat × Nat × Nat) := [(0, 0, 0), (0, 0, 0), (0, 0, 0), (69, 0, 139), (0, 0, 0), (176, 0, 141), (0, 0, 0), (0, 0, 0), (0, 0, 0), (0, 0, 0), (0, 1, 0), (0, 0, 0), (0, 0, 0), (22, 0, 151), (0, 0, 0), (0, 0, 0), (0, 0, 0), (0, 0, 0), (0, 0, 0), (0, 0, 0), (179, 0, 142), (0, 0, 0), (182, 1, 13), (184, 0, 143), (0, 0, 0), (0, 0, 0), (153, 0, 136), (182, 1, 13), (0, 0, 0), (0, 0, 0), (0, 0, 0), (188, 0, 144), (0, 0, 0), (0, 0, 0), (0, 0, 0), (153, 0, 136), (191, 1, 14), (0, 0, 0), (0, 0, 0), (0, 0, 0), (193, 0, 145), (0, 0, 0), (0, 0, 0), (196, 1, 15), (184, 0, 143), (0, 0, 0), (0, 0, 0), (153, 0, 136), (196, 1, 15), (0, 0, 0), (0, 0, 0), (0, 0, 0), (198, 0, 146), (0, 0, 0), (0, 0, 0), (201, 1, 16), (184, 0, 143), (0, 0, 0), (0, 0, 0), (153, 0, 136), (201, 1, 16), (0, 0, 0), (0, 0, 0), (0, 0, 0), (203, 0, 147), (0, 0, 0), (0, 0, 0), (126, 0, 142), (0, 0, 0), (0, 0, 0), (114, 0, 148), (0, 0, 0), (0, 0, 0), (0, 0, 0), (0, 0, 0), (135, 0, 115), (0, 0, 0), (126, 0, 142), (0, 0, 0), (0, 0, 0), (0, 0, 0), (126, 0, 142), (206, 0, 160), (209, 3, 14), (0, 0, 0), (132, 0, 144), (0, 0, 0), (0, 0, 0), (0, 0, 0), (0, 0, 0), (210, 0, 156), (0, 0, 0), (0, 0, 0), (0, 0, 0), (0, 0, 0), (0, 1, 0), (0, 0, 0), (0, 0, 0), (19, 0, 134), (0, 0, 0), (0, 0, 0), (22, 0, 151), (0, 0, 0), (0, 0, 0), (0, 0, 0), (0, 0, 0), (0, 0, 0), (0, 0, 0), (214, 0, 148), (0, 0, 0), (0, 0, 0), (25, 0, 137), (217, 0, 126), (0, 0, 0), (19, 0, 134), (0, 1, 0), (0, 0, 0), (0, 0, 0)]
set_option maxRecDepth 100000 in
theorem mx_t174 : mx_chk 8 (mx_mC 174) (mx_nl 174) (mx_mR 174) (mx_nth mx_c174) 0 mx_p174 mx_k174 = true := by decide +kernel
end
section
def mx_c175 : List Nat := [0, 0, 1, 2, 3, 4, 4, 5, 6, 9, 10, 11, 12, 15, 16, 17, 18, 19, 20, 23, 26, 27, 28, 29, 30, 31, 32, 35, 36, 39, 40]
def mx_k175 : List (Nat × Nat × Nat) := [(0, 0, 0), (0, 0, 0), (0, 0, 0), (0, 0, 0), (0, 0, 0), (0, 0, 0), (0, 0, 0), (0, 0, 0), (0, 0, 0), (0, 0, 0), (0, 0, 0), (0, 0, 0), (50, 0, 161), (0, 0, 0), (0, 0, 0), (0, 0, 0), (0, 0, 0), (0, 0, 0), (0, 0, 0), (0, 0, 0), (0, 0, 0), (0, 0, 0), (0, 0, 0), (0, 0, 0), (0, 0, 0), (0, 0, 0), (0, 0, 0), (0, 0, 0), (0, 0, 0), (0, 0, 0), (0, 0, 0)]
set_option maxRecDepth 100000 in
theorem mx_t175 : mx_chk 8 (mx_mC 175) (mx_nl 175) (mx_mR 175) (mx_nth mx_c175) 0 mx_p175 mx_k175 = true := by decide +kernel
def mx_c176 : List Nat := [0, 0, 1, 2, 5, 6, 9, 12, 15, 16, 17, 20, 23, 24, 25, 28, 30, 31, 32, 35, 36, 37, 38, 39, 40, 43, 45, 46, 47, 49, 49, 51, 52, 55, 56, 59, 61, 62, 64, 65, 66, 67, 70, 72, 73, 75, 76, 77, 78, 79, 82, 85, 86, 87, 90, 91, 93, 94, 96, 96, 98, 99, 102, 104, 105, 106, 108, 111, 114, 115, 117, 117, 119, 121, 124, 126, 128, 129, 130, 131, 133, 133, 135, 138, 139, 142, 144, 146, 147, 148, 149, 151, 152, 153, 155, 158, 161, 162, 163, 166, 169, 170, 171, 172, 175, 178, 181, 182, 184, 184, 186, 187, 190, 191, 194, 196, 197, 199, 200, 201, 202, 205, 207, 208, 210, 211, 212, 213, 214, 217, 220, 221, 224, 225, 228, 231, 232, 233, 236, 237, 240, 241, 242, 245, 247]
def mx_k176 : List (Nat × Nat × Nat) := [(0, 0, 0), (0, 0, 0), (0, 0, 0), (69, 0, 139), (0, 0, 0), (210, 0, 156), (0, 0, 0), (270, 4, 12), (0, 0, 0), (0, 0, 0), (286, 1, 130), (0, 0, 0), (0, 0, 0), (0, 0, 0), (0, 0, 0), (88, 3, 11), (0, 0, 0), (0, 0, 0), (19, 0, 134), (0, 0, 0), (0, 0, 0), (0, 0, 0), (0, 0, 0), (0, 0, 0), (0, 0, 0), (104, 3, 9), (0, 0, 0), (0, 0, 0), (0, 1, 0), (0, 0, 0), (0, 1, 0), (0, 0, 0), (0, 0, 0), (0, 0, 0), (22, 0, 151), (0, 1, 0), (0, 0, 0), (0, 1, 0), (0, 0, 0), (0, 0, 0), (0, 0, 0), (19, 0, 134), (0, 1, 0), (0, 0, 0), (0, 1, 0), (0, 0, 0), (0, 0, 0), (0, 0, 0), (0, 0, 0), (0, 0, 0), (0, 0, 0), (0, 0, 0), (0, 0, 0), (296, 0, 162), (0, 0, 0), (0, 1, 0), (0, 0, 0), (0, 1, 0), (0, 0, 0), (0, 1, 0), (0, 0, 0), (0, 0, 0), (0, 1, 0), (0, 0, 0), (0, 0, 0), (0, 1, 0), (0, 0, 0), (0, 0, 0), (0, 0, 0), (0, 1, 0), (0, 0, 0), (0, 1, 0), (0, 1, 0), (0, 0, 0), (0, 1, 0), (0, 1, 0), (0, 0, 0), (0, 0, 0), (0, 0, 0), (0, 1, 0), (0, 0, 0), (0, 1, 0), (0, 0, 0), (0, 0, 0), (50, 0, 161), (0, 1, 0), (0, 1, 0), (0, 0, 0), (0, 0, 0), (0, 0, 0), (0, 1, 0), (0, 0, 0), (0, 0, 0), (0, 1, 0), (0, 0, 0), (0, 0, 0), (0, 0, 0), (0, 0, 0), (299, 0, 149), (0, 0, 0), (0, 0, 0), (0, 0, 0), (0, 0, 0), (302, 0, 150), (0, 0, 0), (0, 0, 0), (0, 0, 0), (0, 1, 0), (0, 0, 0), (0, 1, 0), (0, 0, 0), (0, 0, 0), (0, 0, 0), (19, 0, 134), (0, 1, 0), (0, 0, 0), (0, 1, 0), (0, 0, 0), (0, 0, 0), (0, 0, 0), (22, 0, 151), (0, 1, 0), (0, 0, 0), (0, 1, 0), (0, 0, 0), (0, 0, 0), (0, 0, 0), (0, 0, 0), (0, 0, 0), (0, 0, 0), (0, 0, 0), (0, 0, 0), (0, 0, 0), (296, 0, 162), (0, 0, 0), (0, 0, 0), (0, 0, 0), (0, 0, 0), (0, 0, 0), (53, 0, 163), (0, 0, 0), (0, 0, 0), (0, 0, 0), (104, 3, 9), (0, 0, 0)]
set_option maxRecDepth 100000 in
theorem mx_t176 : mx_chk 8 (mx_mC 176) (mx_nl 176) (mx_mR 176) (mx_nth mx_c176) 0 mx_p176 mx_k176 = true := by decide +kernel
def mx_c177 : List Nat := [0, 0, 1, 2, 5, 6, 7, 8, 9, 12, 15, 17, 18, 19, 22, 25, 28, 29, 30, 31, 31, 32, 34, 37, 38, 41, 43, 44, 45, 46, 47, 48, 51, 52, 53, 54, 57, 60, 61, 62, 62, 63, 66, 69, 70, 73, 76, 77, 78, 79, 80, 81, 84, 85, 86, 87, 90, 93, 94, 97, 98, 99, 100, 101]
def mx_k177 : List (Nat × Nat × Nat) := [(0, 0, 0), (0, 0, 0), (0, 0, 0), (69, 0, 139), (0, 0, 0), (0, 0, 0), (0, 0, 0), (0, 0, 0), (78, 1, 102), (0, 0, 0), (88, 3, 11), (0, 0, 0), (0, 0, 0), (210, 0, 156), (0, 0, 0), (270, 4, 12), (0, 0, 0), (0, 0, 0), (0, 0, 0), (0, 0, 0), (0, 0, 0), (0, 1, 0), (0, 0, 0), (0, 0, 0), (60, 0, 164), (0, 1, 0), (0, 0, 0), (0, 0, 0), (0, 0, 0), (0, 0, 0), (0, 0, 0), (19, 0, 134), (0, 0, 0), (0, 0, 0), (0, 0, 0), (0, 0, 0), (0, 0, 0), (0, 0, 0), (0, 0, 0), (0, 0, 0), (0, 0, 0), (0, 2, 0), (0, 0, 0), (0, 0, 0), (63, 0, 165), (0, 2, 0), (0, 0, 0), (0, 0, 0), (0, 0, 0), (0, 0, 0), (0, 0, 0), (25, 0, 137), (0, 0, 0), (0, 0, 0), (0, 0, 0), (0, 0, 0), (0, 0, 0), (0, 0, 0), (56, 0, 166), (0, 0, 0), (0, 0, 0), (0, 0, 0), (0, 0, 0), (0, 0, 0)]
set_option maxRecDepth 100000 in
theorem mx_t177 : mx_chk 8 (mx_mC 177) (mx_nl 177) (mx_mR 177) (mx_nth mx_c177) 0 mx_p177 mx_k177 = true := by decide +kernel
def mx_c178 : List Nat := [0, 0, 1, 2, 5, 6, 7, 10, 13, 14, 15, 18, 21, 23]
def mx_k178 : List (Nat × Nat × Nat) := [(0, 0, 0), (0, 0, 0), (0, 0, 0), (69, 0, 139), (0, 0, 0), (0, 0, 0), (278, 0, 103), (0, 0, 0), (0, 0, 0), (0, 0, 0), (313, 0, 104), (0, 0, 0), (88, 3, 11), (0, 0, 0)]
set_option maxRecDepth 100000 in
theorem mx_t178 : mx_chk 8 (mx_mC 178) (mx_nl 178) (mx_mR 178) (mx_nth mx_c178) 0 mx_p178 mx_k178 = true := by decide +kernel
def mx_c179 : List Nat := [0, 0, 1, 2, 5, 6, 7, 8, 9, 12, 13, 14, 15, 16, 17, 20, 23, 24, 27, 30, 32, 33, 34, 35, 36, 39, 40, 41, 44, 46, 47, 48, 49, 50, 51, 52, 53, 55, 56, 59, 61, 62, 63, 64, 65, 66, 67, 68, 69, 70, 73, 74, 75, 76, 79, 81, 82, 85, 87, 88, 89, 90, 91, 92, 93, 95, 96, 97, 100, 102, 103, 104]
def mx_k179 : List (Nat × Nat × Nat) := [(0, 0, 0), (0, 0, 0), (0, 0, 0), (69, 0, 139), (0, 0, 0), (0, 0, 0), (0, 0, 0), (0, 0, 0), (19, 0, 134), (0, 0, 0), (0, 0, 0), (0, 0, 0), (0, 0, 0), (0, 0, 0), (78, 1, 102), (0, 0, 0), (0, 0, 0), (286, 1, 130), (0, 0, 0), (88, 3, 11), (0, 0, 0), (0, 0, 0), (0, 0, 0), (0, 0, 0), (289, 0, 129), (0, 0, 0), (0, 0, 0), (19, 0, 134), (0, 1, 0), (0, 0, 0), (0, 0, 0), (0, 0, 0), (0, 0, 0), (0, 0, 0), (0, 0, 0), (0, 0, 0), (0, 1, 0), (0, 0, 0), (19, 0, 134), (0, 1, 0), (0, 0, 0), (0, 0, 0), (0, 0, 0), (0, 0, 0), (0, 0, 0), (0, 0, 0), (0, 0, 0), (0, 0, 0), (0, 0, 0), (214, 0, 148), (0, 0, 0), (0, 0, 0), (0, 0, 0), (289, 0, 129), (0, 1, 0), (0, 0, 0), (19, 0, 134), (0, 1, 0), (0, 0, 0), (0, 0, 0), (0, 0, 0), (0, 0, 0), (0, 0, 0), (0, 0, 0), (0, 1, 0), (0, 0, 0), (0, 0, 0), (214, 0, 148), (0, 1, 0), (0, 0, 0), (0, 0, 0), (0, 0, 0)]
set_option maxRecDepth 100000 in
theorem mx_t179 : mx_chk 8 (mx_mC 179) (mx_nl 179) (mx_mR 179) (mx_nth mx_c179) 0 mx_p179 mx_k179 = true := by decide +kernel
def mx_c180 : List Nat := [0, 0, 1, 2, 5, 6, 7, 8, 9, 12, 13, 14, 15, 16, 17, 20, 23, 24, 27, 30, 31, 32, 33, 34, 37, 40, 42, 43, 44, 45, 46, 49, 51, 52, 53, 56, 57, 60, 61, 64, 65, 66, 67, 70, 71, 74, 75, 78, 79, 80, 81, 84, 86, 87, 88, 91, 92, 93, 96, 97, 100, 102, 104, 105, 108, 110, 112, 113]
def mx_k180 : List (Nat × Nat × Nat) := [(0, 0, 0), (0, 0, 0), (0, 0, 0), (69, 0, 139), (0, 0, 0), (0, 0, 0), (0, 0, 0), (0, 0, 0), (19, 0, 134), (0, 0, 0), (0, 0, 0), (0, 0, 0), (0, 0, 0), (0, 0, 0), (78, 1, 102), (0, 0, 0), (0, 0, 0), (286, 1, 130), (0, 0, 0), (0, 0, 0), (0, 0, 0), (0, 0, 0), (0, 0, 0), (78, 1, 102), (0, 0, 0), (88, 3, 11), (0, 0, 0), (0, 0, 0), (0, 0, 0), (0, 0, 0), (289, 0, 129), (0, 1, 0), (0, 0, 0), (0, 0, 0), (0, 0, 0), (0, 0, 0), (0, 0, 0), (0, 0, 0), (41, 0, 154), (0, 0, 0), (0, 0, 0), (0, 0, 0), (0, 0, 0), (0, 0, 0), (0, 0, 0), (0, 0, 0), (44, 0, 152), (0, 0, 0), (0, 0, 0), (0, 0, 0), (289, 0, 129), (0, 1, 0), (0, 0, 0), (0, 0, 0), (41, 0, 154), (0, 0, 0), (0, 0, 0), (44, 0, 152), (0, 0, 0), (0, 0, 0), (0, 1, 0), (0, 1, 0), (0, 0, 0), (0, 0, 0), (0, 1, 0), (0, 1, 0), (0, 0, 0), (0, 0, 0)]
set_option maxRecDepth 100000 in
theorem mx_t180 : mx_chk 8 (mx_mC 180) (mx_nl 180) (mx_mR 180) (mx_nth mx_c180) 0 mx_p180 mx_k180 = true := by decide +kernel
def mx_c181 : List Nat := [0, 0, 1, 2, 5, 6, 7, 8, 9, 12, 15, 17, 18, 19, 22, 23, 24, 27, 30, 31, 32, 33, 33, 34, 36, 39, 40, 43, 44, 45, 48, 50, 51, 52, 53, 54, 55, 56, 59, 62, 63, 64, 64, 65, 68, 71, 72, 75, 76, 77, 80, 83, 84, 85, 86, 87, 88, 89, 92, 95, 96, 99, 100]
def mx_k181 : List (Nat × Nat × Nat) := [(0, 0, 0), (0, 0, 0), (0, 0, 0), (69, 0, 139), (0, 0, 0), (0, 0, 0), (0, 0, 0), (0, 0, 0), (78, 1, 102), (0, 0, 0), (88, 3, 11), (0, 0, 0), (0, 0, 0), (56, 0, 166), (0, 0, 0), (0, 0, 0), (0, 0, 0), (270, 4, 12), (0, 0, 0), (0, 0, 0), (0, 0, 0), (0, 0, 0), (0, 0, 0), (0, 1, 0), (0, 0, 0), (0, 0, 0), (19, 0, 134), (0, 0, 0), (0, 0, 0), (60, 0, 164), (0, 1, 0), (0, 0, 0), (0, 0, 0), (0, 0, 0), (0, 0, 0), (0, 0, 0), (0, 0, 0), (0, 0, 0), (0, 0, 0), (0, 0, 0), (0, 0, 0), (0, 0, 0), (0, 0, 0), (0, 2, 0), (0, 0, 0), (0, 0, 0), (25, 0, 137), (0, 0, 0), (0, 0, 0), (63, 0, 165), (0, 2, 0), (0, 0, 0), (0, 0, 0), (0, 0, 0), (0, 0, 0), (0, 0, 0), (0, 0, 0), (0, 0, 0), (0, 0, 0), (0, 0, 0), (214, 0, 148), (0, 0, 0), (0, 0, 0)]
set_option maxRecDepth 100000 in
theorem mx_t181 : mx_chk 8 (mx_mC 181) (mx_nl 181) (mx_mR 181) (mx_nth mx_c181) 0 mx_p181 mx_k181 = true := by decide +kernel
def mx_c182 : List Nat := [0, 0, 1, 2, 5, 6, 7, 10, 13, 14, 15, 16, 17, 20, 23, 25, 26, 27, 30, 31, 34, 36, 37, 38, 39, 42, 43, 44, 47, 48, 51]
def mx_k182 : List (Nat × Nat × Nat) := [(0, 0, 0), (0, 0, 0), (0, 0, 0), (69, 0, 139), (0, 0, 0), (0, 0, 0), (225, 0, 133), (0, 0, 0), (0, 0, 0), (0, 0, 0), (0, 0, 0), (0, 0, 0), (78, 1, 102), (0, 0, 0), (88, 3, 11), (0, 0, 0), (0, 0, 0), (0, 0, 0), (0, 0, 0), (19, 0, 134), (0, 1, 0), (0, 0, 0), (0, 0, 0), (0, 0, 0), (0, 0, 0), (0, 0, 0), (0, 0, 0), (25, 0, 137), (0, 0, 0), (241, 0, 117), (0, 0, 0)]
set_option maxRecDepth 100000 in
theorem mx_t182 : mx_chk 8 (mx_mC 182) (mx_nl 182) (mx_mR 182) (mx_nth mx_c182) 0 mx_p182 mx_k182 = true := by decide +kernel
def mx_c183 : List Nat := [0, 0, 1, 2, 5, 6, 9, 12, 13, 14, 15, 18, 21, 24, 25, 27, 30, 32, 33, 34, 35, 38, 39, 42, 43, 44, 47, 48, 49, 52, 53, 54, 55, 56, 59, 60, 61, 62, 63, 65, 65, 67, 69, 72, 73, 76, 78, 79, 80, 82, 83, 84, 85, 88, 91, 92]
def mx_k183 : List (Nat × Nat × Nat) := [(0, 0, 0), (0, 0, 0), (0, 0, 0), (69, 0, 139), (0, 0, 0), (82, 1, 132), (0, 0, 0), (0, 0, 0), (0, 0, 0), (0, 0, 0), (86, 1, 17), (78, 1, 102), (0, 0, 0), (0, 0, 0), (0, 1, 0), (0, 0, 0), (88, 3, 11), (0, 0, 0), (0, 0, 0), (0, 0, 0), (72, 0, 138), (0, 0, 0), (0, 0, 0), (0, 0, 0), (0, 0, 0), (89, 0, 106), (0, 0, 0), (0, 0, 0), (7, 0, 157), (0, 0, 0), (0, 0, 0), (0, 0, 0), (0, 0, 0), (13, 0, 158), (0, 0, 0), (0, 0, 0), (0, 0, 0), (0, 0, 0), (0, 1, 0), (0, 0, 0), (0, 1, 0), (0, 1, 0), (0, 0, 0), (0, 0, 0), (16, 0, 159), (0, 1, 0), (0, 0, 0), (0, 0, 0), (0, 1, 0), (0, 0, 0), (0, 0, 0), (0, 0, 0), (0, 0, 0), (0, 0, 0), (0, 0, 0), (0, 0, 0)]
set_option maxRecDepth 100000 in
theorem mx_t183 : mx_chk 8 (mx_mC 183) (mx_nl 183) (mx_mR 183) (mx_nth mx_c183) 0 mx_p183 mx_k183 = true := by decide +kernel
def mx_c184 : List Nat := [0, 0, 1, 2, 5, 6, 9, 12, 15, 16, 17, 18, 19, 22, 25, 28, 29, 30, 31, 34, 37, 40, 42, 43, 44, 47, 48, 49, 50, 51, 54, 55, 56, 57, 58]
def mx_k184 : List (Nat × Nat × Nat) := [(0, 0, 0), (0, 0, 0), (0, 0, 0), (69, 0, 139), (0, 0, 0), (210, 0, 156), (0, 0, 0), (270, 4, 12), (0, 0, 0), (0, 0, 0), (0, 0, 0), (0, 0, 0), (276, 1, 18), (78, 1, 102), (0, 0, 0), (0, 0, 0), (0, 0, 0), (0, 0, 0), (276, 1, 18), (78, 1, 102), (0, 0, 0), (88, 3, 11), (0, 0, 0), (0, 0, 0), (19, 0, 134), (0, 0, 0), (0, 0, 0), (0, 0, 0), (0, 0, 0), (19, 0, 134), (0, 0, 0), (0, 0, 0), (0, 0, 0), (0, 0, 0), (0, 0, 0)]
set_option maxRecDepth 100000 in
theorem mx_t184 : mx_chk 8 (mx_mC 184) (mx_nl 184) (mx_mR 184) (mx_nth mx_c184) 0 mx_p184 mx_k184 = true := by decide +kernel
def mx_c185 : List Nat := [0, 0, 1, 2, 5, 6, 9, 12, 15, 16, 17, 20, 23, 24, 25, 26, 29, 32, 35, 36, 37, 38, 41, 44, 46]
def mx_k185 : List (Nat × Nat × Nat) := [(0, 0, 0), (0, 0, 0), (0, 0, 0), (69, 0, 139), (0, 0, 0), (210, 0, 156), (0, 0, 0), (270, 4, 12), (0, 0, 0), (0, 0, 0), (286, 1, 130), (0, 0, 0), (0, 0, 0), (0, 0, 0), (0, 0, 0), (86, 1, 17), (78, 1, 102), (0, 0, 0), (0, 0, 0), (0, 0, 0), (0, 0, 0), (289, 0, 129), (0, 0, 0), (88, 3, 11), (0, 0, 0)]
set_option maxRecDepth 100000 in
theorem mx_t185 : mx_chk 8 (mx_mC 185) (mx_nl 185) (mx_mR 185) (mx_nth mx_c185) 0 mx_p185 mx_k185 = true := by decide +kernel
def mx_c186 : List Nat := [0, 0, 1, 2, 5, 6, 9, 12, 14, 15, 16, 17, 20, 21, 24, 25, 26, 29, 30, 31, 34, 35, 36, 37, 38, 39, 42, 43, 44, 45, 46, 47, 50, 53, 54, 55, 58, 59, 60, 63, 65, 66, 67, 68, 69, 70, 73, 74, 75, 78, 79, 80, 83, 84, 87, 88, 89, 90, 93, 94, 95, 98, 99, 100, 101, 104, 106, 107, 108, 109, 110, 111]
def mx_k186 : List (Nat × Nat × Nat) := [(0, 0, 0), (0, 0, 0), (0, 0, 0), (69, 0, 139), (0, 0, 0), (82, 1, 132), (0, 0, 0), (88, 3, 11), (0, 0, 0), (0, 0, 0), (0, 0, 0), (72, 0, 138), (0, 0, 0), (7, 0, 157), (0, 0, 0), (0, 0, 0), (0, 0, 0), (0, 0, 0), (0, 0, 0), (89, 0, 106), (0, 0, 0), (0, 0, 0), (0, 0, 0), (0, 0, 0), (0, 0, 0), (13, 0, 158), (0, 0, 0), (0, 0, 0), (0, 0, 0), (0, 0, 0), (0, 0, 0), (78, 1, 102), (0, 0, 0), (0, 0, 0), (0, 0, 0), (89, 0, 106), (0, 0, 0), (0, 0, 0), (16, 0, 159), (0, 1, 0), (0, 0, 0), (0, 0, 0), (0, 0, 0), (0, 0, 0), (0, 0, 0), (7, 0, 157), (0, 0, 0), (0, 0, 0), (0, 0, 0), (0, 0, 0), (0, 0, 0), (0, 0, 0), (0, 0, 0), (7, 0, 157), (0, 0, 0), (0, 0, 0), (0, 0, 0), (0, 0, 0), (0, 0, 0), (0, 0, 0), (0, 0, 0), (0, 0, 0), (0, 0, 0), (0, 0, 0), (16, 0, 159), (0, 1, 0), (0, 0, 0), (0, 0, 0), (0, 0, 0), (0, 0, 0), (0, 0, 0), (0, 0, 0)]
set_option maxRecDepth 100000 in
theorem mx_t186 : mx_chk 8 (mx_mC 186) (mx_nl 186) (mx_mR 186) (mx_nth mx_c186) 0 mx_p186 mx_k186 = true := by decide +kernel
def mx_c187 : List Nat := [0, 0, 1, 2, 5, 6, 9]
def mx_k187 : List (Nat × Nat × Nat) := [(0, 0, 0), (0, 0, 0), (0, 0, 0), (69, 0, 139), (0, 0, 0), (72, 0, 138), (0, 0, 0)]
set_option maxRecDepth 100000 in
theorem mx_t187 : mx_chk 8 (mx_mC 187) (mx_nl 187) (mx_mR 187) (mx_nth mx_c187) 0 mx_p187 mx_k187 = true := by decide +kernel
def mx_c188 : List Nat := [0, 0, 1, 2, 5, 6, 7, 8, 9, 12, 13, 14, 15, 16, 17, 20, 23, 24, 27, 30, 31, 33, 34, 35, 36, 37, 38, 39, 40, 42, 43, 44, 47, 50, 52]
def mx_k188 : List (Nat × Nat × Nat) := [(0, 0, 0), (0, 0, 0), (0, 0, 0), (69, 0, 139), (0, 0, 0), (0, 0, 0), (0, 0, 0), (0, 0, 0), (19, 0, 134), (0, 0, 0), (0, 0, 0), (0, 0, 0), (0, 0, 0), (0, 0, 0), (78, 1, 102), (0, 0, 0), (0, 0, 0), (286, 1, 130), (0, 0, 0), (0, 0, 0), (0, 1, 0), (0, 0, 0), (0, 0, 0), (0, 0, 0), (0, 0, 0), (0, 0, 0), (0, 0, 0), (0, 0, 0), (0, 1, 0), (0, 0, 0), (0, 0, 0), (292, 0, 131), (0, 0, 0), (88, 3, 11), (0, 0, 0)]
set_option maxRecDepth 100000 in
theorem mx_t188 : mx_chk 8 (mx_mC 188) (mx_nl 188) (mx_mR 188) (mx_nth mx_c188) 0 mx_p188 mx_k188 = true := by decide +kernel
def mx_c189 : List Nat := [0, 0, 1, 2, 5, 6, 7, 8, 9, 12, 13, 14, 15, 18, 21, 22, 25, 26, 27, 30, 32]
def mx_k189 : List (Nat × Nat × Nat) := [(0, 0, 0), (0, 0, 0), (0, 0, 0), (69, 0, 139), (0, 0, 0), (0, 0, 0), (0, 0, 0), (0, 0, 0), (322, 0, 140), (0, 0, 0), (0, 0, 0), (0, 0, 0), (78, 1, 102), (0, 0, 0), (0, 0, 0), (66, 0, 141), (0, 0, 0), (0, 0, 0), (0, 0, 0), (104, 3, 9), (0, 0, 0)]
set_option maxRecDepth 100000 in
theorem mx_t189 : mx_chk 8 (mx_mC 189) (mx_nl 189) (mx_mR 189) (mx_nth mx_c189) 0 mx_p189 mx_k189 = true := by decide +kernel
def mx_c190 : List Nat := [0, 0, 1, 2, 5, 6, 7, 10, 13, 15, 16, 17, 20, 22, 23, 24, 25, 26, 27, 28, 29, 32, 34, 37, 38, 39, 42, 43, 46, 48, 49, 100, 101, 102, 105, 106, 107, 110, 112, 115, 116, 117, 118, 120, 123, 124, 127, 128, 129, 130, 133, 135, 136, 137, 138, 139, 140, 141, 142, 143, 145, 146, 148, 150, 153, 154, 157, 158, 161, 163, 164, 165, 167, 168, 170, 171, 172, 173, 175]
def mx_k190 : List (Nat × Nat × Nat) := [(0, 0, 0), (0, 0, 0), (0, 0, 0), (69, 0, 139), (0, 0, 0), (0, 0, 0), (278, 0, 103), (0, 0, 0), (88, 3, 11), (0, 0, 0), (0, 0, 0), (25, 0, 137), (0, 1, 0), (0, 0, 0), (0, 0, 0), (0, 0, 0), (0, 0, 0), (0, 0, 0), (0, 0, 0), (0, 0, 0), (0, 0, 0), (104, 3, 9), (0, 0, 0), (0, 0, 0), (0, 0, 0), (25, 0, 137), (0, 0, 0), (249, 0, 122), (0, 1, 0), (0, 0, 0), (51, 0, 0), (0, 0, 0), (0, 0, 0), (228, 0, 98), (0, 0, 0), (0, 0, 0), (0, 0, 0), (104, 3, 9), (0, 0, 0), (0, 0, 0), (0, 0, 0), (0, 0, 0), (0, 1, 0), (0, 0, 0), (0, 0, 0), (0, 0, 0), (0, 0, 0), (0, 0, 0), (0, 0, 0), (25, 0, 137), (0, 1, 0), (0, 0, 0), (0, 0, 0), (0, 0, 0), (0, 0, 0), (0, 0, 0), (0, 0, 0), (0, 0, 0), (0, 0, 0), (0, 1, 0), (0, 0, 0), (0, 1, 0), (104, 3, 9), (0, 0, 0), (0, 0, 0), (0, 0, 0), (0, 0, 0), (25, 0, 137), (0, 1, 0), (0, 0, 0), (0, 0, 0), (0, 1, 0), (0, 0, 0), (0, 1, 0), (0, 0, 0), (0, 0, 0), (0, 0, 0), (88, 3, 11), (0, 0, 0)]
set_option maxRecDepth 100000 in
theorem mx_t190 : mx_chk 8 (mx_mC 190) (mx_nl 190) (mx_mR 190) (mx_nth mx_c190) 0 mx_p190 mx_k190 = true := by decide +kernel
end
section
def mx_c191 : List Nat := [0, 0, 3, 4, 7, 8, 11, 12, 15, 16, 17, 18, 18, 19, 20, 21, 23, 24, 27, 28, 29, 30, 32, 33, 160, 161, 162, 163, 164, 165, 166, 167, 168, 169, 170, 171, 172, 173, 174, 175, 176, 179, 180, 181, 182, 183, 184, 185, 186, 187, 188, 189, 190, 191, 192, 193, 194, 195, 198, 201, 202, 203, 204, 205, 206, 207, 208, 209, 210, 211, 212, 213, 214, 215, 216, 217, 218, 219, 222, 223, 224, 225, 226, 227, 228, 229, 230, 231, 232, 233, 234, 235, 236, 237, 238, 241, 244, 245, 246, 247, 248, 249, 250, 251, 252, 253, 254, 255, 256, 257, 258, 259, 260, 261, 262, 263, 264, 265, 266, 267, 268, 269, 270, 271, 272, 275, 276, 277, 278, 279, 280, 281, 282, 283, 284, 285, 286, 287, 288, 289, 290, 291, 292, 293, 294, 295, 296, 297, 298, 299, 300, 301, 304, 307, 308, 309, 310, 311, 312, 313, 314, 315, 318, 319, 320, 321, 322, 323, 324, 327, 330, 331, 332, 333, 334, 335, 336, 337, 338, 339, 341, 342, 343, 344, 345, 346, 347, 348, 351, 352, 353, 354, 355, 356, 357, 358, 361, 362, 363, 364, 365, 366, 367, 368, 370, 371, 372, 373, 374, 375, 376, 377, 380, 381, 382, 383, 384, 385, 386, 387, 390, 393, 394, 395, 396, 399, 400, 403, 406, 407, 408, 409, 412, 413, 416, 419, 420, 421, 422, 423, 424, 425, 426, 427, 428, 429, 430, 431, 432, 435, 436, 437, 438, 439, 440, 441, 442, 443, 444, 445, 446, 449, 452, 453, 454, 455, 456, 457, 458, 459, 460, 463, 464, 465, 466, 467, 468, 469, 472, 475, 476, 477, 478, 479, 480, 481, 482, 483, 484, 485, 486, 487, 488, 491, 492, 493, 494, 495, 496, 497, 498, 499, 500, 501, 502, 505, 508, 509, 510, 511, 512, 513, 514, 515, 516, 517, 518, 519, 520, 521, 524, 525, 526, 527, 528, 529, 530, 531, 532, 533, 534, 535, 538, 541, 542, 543, 544, 545, 546, 547, 548, 549, 550, 551, 552, 553, 554, 557, 558, 559, 560, 561, 562, 563, 564, 565, 566, 567, 568, 571, 574, 575, 576, 577, 578, 579, 580, 581, 582, 583, 584, 585, 586, 587, 590, 591, 592, 593, 594, 595, 596, 597, 598, 599, 600, 601, 604, 607, 608, 609, 610, 611, 612, 613, 614, 615, 616, 617, 618, 619, 620, 621, 622, 623, 624, 625, 628, 629, 630, 631, 632, 633, 634, 635, 636, 637, 638, 639, 640, 641, 642, 643, 644, 647, 650, 651, 652, 653, 654, 655, 656, 657, 658, 659, 660, 661, 662, 663, 666, 667, 668, 669, 670, 671, 672, 673, 674, 675, 676, 677, 680, 683, 684, 685, 686, 687, 688, 689, 690, 691, 692, 693, 694, 695, 696, 699, 700, 701, 702, 703, 704, 705, 706, 707, 708, 709, 710, 713, 716, 717, 718, 719, 720, 721, 722, 723, 724, 725, 726, 727, 728, 729, 730, 731, 732, 733, 734, 737, 738, 739, 740, 741, 742, 743, 744, 745, 746, 747, 748, 749, 750, 751, 752, 753, 756, 759, 760, 761, 762, 763, 764, 765, 766, 767, 768, 769, 770, 771, 772, 775, 776, 777, 778, 779, 780, 781, 782, 783, 784, 785, 786, 789, 792, 793, 794, 795, 798, 799, 802, 805, 806, 807, 808, 809, 810, 811, 812, 813, 814, 815, 816, 817, 818, 819, 820, 821, 822, 823, 824, 825, 826, 827, 828, 831, 832, 833, 834, 835, 836, 837, 838, 839, 840, 841, 842, 843, 844, 845, 846, 847, 848, 849, 850, 851, 852, 855, 858, 859, 860, 861, 862, 863, 864, 865, 866, 869, 870, 871, 872, 873, 874, 875, 878, 881, 882, 883, 884, 885, 886, 887, 888, 889, 892, 893, 894, 895, 896, 897, 898, 901, 904, 905, 906, 907, 908, 909, 910, 911, 912, 915, 916, 917, 918, 919, 920, 921, 924, 927, 928, 929, 930, 931, 932, 933, 934, 935, 936, 937, 938, 939, 940, 943, 944, 945, 946, 947, 948, 949, 950, 951, 952, 953, 954, 957, 960, 961, 962, 963, 964, 965, 966, 967, 968, 969, 970, 971, 972, 973, 976, 977, 978, 979, 980, 981, 982, 983, 984, 985, 986, 987, 990, 993, 994, 995, 996, 997, 998, 999, 1000, 1001, 1004, 1005, 1006, 1007, 1008, 1009, 1010, 1013, 1016, 1017, 1018, 1019, 1020, 1021, 1022, 1023, 1024, 1027, 1028, 1029, 1030, 1031, 1032, 1033, 1036, 1039, 1040, 1041, 1042, 1045, 1046, 1049, 1052, 1053, 1054, 1057, 1060, 1061]
def mx_p191_0 : List mx_Op := [(45, 0, 0, 0, 0, [1, 1, 1, 1]), (99, 0, 0, 0, 0, []), (17, 0, 0, 0, 0, []), (99, 0, 0, 0, 0, []), (5, 0, 0, 1, 0, []), (99, 0, 0, 0, 0, []), (17, 0, 0, 0, 0, []), (99, 0, 0, 0, 0, []), (5, 0, 0, 2, 0, []), (6, 0, 0, 0, 0, []), (3, 0, 0, 3, 0, []), (45, 0, 0, 11, 0, [1, 1, 1, 1]), (0, 0, 0, 3, 0, []), (2, 0, 0, 0, 0, []), (44, 0, 0, 0, 0, []), (6, 6, 0, 0, 0, []), (8, 0, 0, 0, 1, []), (20, 0, 0, 746, 4, []), (2, 0, 0, 0, 0, []), (0, 0, 0, 3, 0, []), (43, 0, 0, 0, 0, []), (6, 31, 0, 0, 0, []), (8, 0, 0, 0, 3, []), (22, 0, 0, 744, 0, [24, 61, 98, 155, 172, 223, 230, 237, 264, 281, 308, 335, 362, 389, 426, 453, 480, 517, 544, 551, 598, 615, 632, 649, 676, 703, 720, 737]), (2, 0, 0, 1, 0, []), (2, 0, 0, 0, 0, []), (0, 0, 0, 3, 0, []), (6, 1, 0, 0, 0, []), (8, 0, 0, 0, 0, []), (43, 0, 0, 0, 0, []), (2, 0, 0, 0, 0, []), (0, 0, 0, 3, 0, []), (6, 2, 0, 0, 0, []), (8, 0, 0, 0, 0, []), (43, 0, 0, 0, 0, []), (2, 0, 0, 0, 0, []), (0, 0, 0, 3, 0, []), (6, 3, 0, 0, 0, []), (8, 0, 0, 0, 0, []), (43, 0, 0, 0, 0, [])]
def mx_k191_0 : List (Nat × Nat × Nat) := [(0, 0, 0), (0, 0, 0), (0, 0, 0), (0, 0, 0), (0, 0, 0), (0, 0, 0), (0, 0, 0), (0, 0, 0), (0, 0, 0), (0, 0, 0), (0, 0, 0), (0, 0, 0), (0, 0, 0), (0, 0, 0), (0, 0, 0), (0, 1, 0), (0, 0, 0), (0, 0, 0), (0, 0, 0), (0, 0, 0), (0, 0, 0), (0, 1, 0), (0, 0, 0), (127, 0, 0), (0, 0, 0), (0, 0, 0), (0, 0, 0), (0, 0, 0), (0, 0, 0), (0, 0, 0), (0, 0, 0), (0, 0, 0), (0, 0, 0), (0, 0, 0), (0, 0, 0), (0, 0, 0), (0, 0, 0), (0, 0, 0), (0, 0, 0), (0, 0, 0)]
set_option maxRecDepth 100000 in
theorem mx_t191_0 : mx_chk 15 (mx_mC 191) (mx_nl 191) (mx_mR 191) (mx_nth mx_c191) 0 mx_p191_0 mx_k191_0 = true := by decide +kernel
def mx_p191_1 : List mx_Op := [(31, 0, 0, 101, 4, [1, 8, 4]), (2, 0, 0, 2, 0, []), (2, 0, 0, 0, 0, []), (0, 0, 0, 3, 0, []), (6, 1, 0, 0, 0, []), (8, 0, 0, 0, 0, []), (43, 0, 0, 0, 0, []), (2, 0, 0, 0, 0, []), (0, 0, 0, 3, 0, []), (6, 2, 0, 0, 0, []), (8, 0, 0, 0, 0, []), (43, 0, 0, 0, 0, []), (2, 0, 0, 0, 0, []), (0, 0, 0, 3, 0, []), (6, 3, 0, 0, 0, []), (8, 0, 0, 0, 0, []), (43, 0, 0, 0, 0, []), (31, 0, 0, 183, 4, [1, 9, 5]), (20, 0, 0, 744, 0, []), (6, 0, 0, 0, 0, []), (32, 0, 0, 0, 1, []), (2, 0, 0, 1, 0, []), (2, 0, 0, 0, 0, []), (0, 0, 0, 3, 0, []), (6, 1, 0, 0, 0, []), (8, 0, 0, 0, 0, []), (43, 0, 0, 0, 0, []), (2, 0, 0, 0, 0, []), (0, 0, 0, 3, 0, []), (6, 2, 0, 0, 0, []), (8, 0, 0, 0, 0, []), (43, 0, 0, 0, 0, []), (2, 0, 0, 0, 0, []), (0, 0, 0, 3, 0, []), (6, 3, 0, 0, 0, []), (8, 0, 0, 0, 0, []), (43, 0, 0, 0, 0, []), (31, 0, 0, 105, 4, [1, 8, 5]), (2, 0, 0, 2, 0, []), (2, 0, 0, 0, 0, [])]
def mx_k191_1 : List (Nat × Nat × Nat) := [(13, 0, 151), (0, 0, 0), (0, 0, 0), (0, 0, 0), (0, 0, 0), (0, 0, 0), (0, 0, 0), (0, 0, 0), (0, 0, 0), (0, 0, 0), (0, 0, 0), (0, 0, 0), (0, 0, 0), (0, 0, 0), (0, 0, 0), (0, 0, 0), (0, 0, 0), (17, 0, 152), (0, 0, 0), (0, 0, 0), (0, 0, 0), (0, 0, 0), (0, 0, 0), (0, 0, 0), (0, 0, 0), (0, 0, 0), (0, 0, 0), (0, 0, 0), (0, 0, 0), (0, 0, 0), (0, 0, 0), (0, 0, 0), (0, 0, 0), (0, 0, 0), (0, 0, 0), (0, 0, 0), (0, 0, 0), (18, 0, 153), (0, 0, 0), (0, 0, 0)]
set_option maxRecDepth 100000 in
theorem mx_t191_1 : mx_chk 15 (mx_mC 191) (mx_nl 191) (mx_mR 191) (mx_nth mx_c191) 40 mx_p191_1 mx_k191_1 = true := by decide +kernel
def mx_p191_2 : List mx_Op := [(0, 0, 0, 3, 0, []), (6, 1, 0, 0, 0, []), (8, 0, 0, 0, 0, []), (43, 0, 0, 0, 0, []), (2, 0, 0, 0, 0, []), (0, 0, 0, 3, 0, []), (6, 2, 0, 0, 0, []), (8, 0, 0, 0, 0, []), (43, 0, 0, 0, 0, []), (2, 0, 0, 0, 0, []), (0, 0, 0, 3, 0, []), (6, 3, 0, 0, 0, []), (8, 0, 0, 0, 0, []), (43, 0, 0, 0, 0, []), (31, 0, 0, 186, 4, [1, 9, 4]), (20, 0, 0, 744, 0, []), (6, 0, 0, 0, 0, []), (32, 0, 0, 0, 1, []), (2, 0, 0, 1, 0, []), (2, 0, 0, 0, 0, []), (0, 0, 0, 3, 0, []), (6, 1, 0, 0, 0, []), (8, 0, 0, 0, 0, []), (43, 0, 0, 0, 0, []), (2, 0, 0, 0, 0, []), (0, 0, 0, 3, 0, []), (6, 2, 0, 0, 0, []), (8, 0, 0, 0, 0, []), (43, 0, 0, 0, 0, []), (2, 0, 0, 0, 0, []), (0, 0, 0, 3, 0, []), (6, 3, 0, 0, 0, []), (8, 0, 0, 0, 0, []), (43, 0, 0, 0, 0, []), (2, 0, 0, 0, 0, []), (0, 0, 0, 3, 0, []), (6, 4, 0, 0, 0, []), (8, 0, 0, 0, 0, []), (43, 0, 0, 0, 0, []), (2, 0, 0, 0, 0, [])]
def mx_k191_2 : List (Nat × Nat × Nat) := [(0, 0, 0), (0, 0, 0), (0, 0, 0), (0, 0, 0), (0, 0, 0), (0, 0, 0), (0, 0, 0), (0, 0, 0), (0, 0, 0), (0, 0, 0), (0, 0, 0), (0, 0, 0), (0, 0, 0), (0, 0, 0), (21, 0, 154), (0, 0, 0), (0, 0, 0), (0, 0, 0), (0, 0, 0), (0, 0, 0), (0, 0, 0), (0, 0, 0), (0, 0, 0), (0, 0, 0), (0, 0, 0), (0, 0, 0), (0, 0, 0), (0, 0, 0), (0, 0, 0), (0, 0, 0), (0, 0, 0), (0, 0, 0), (0, 0, 0), (0, 0, 0), (0, 0, 0), (0, 0, 0), (0, 0, 0), (0, 0, 0), (0, 0, 0), (0, 0, 0)]
set_option maxRecDepth 100000 in
theorem mx_t191_2 : mx_chk 15 (mx_mC 191) (mx_nl 191) (mx_mR 191) (mx_nth mx_c191) 80 mx_p191_2 mx_k191_2 = true := by decide +kernel
def mx_p191_3 : List mx_Op := [(0, 0, 0, 3, 0, []), (6, 5, 0, 0, 0, []), (8, 0, 0, 0, 0, []), (43, 0, 0, 0, 0, []), (31, 0, 0, 78, 6, [1, 8, 8]), (2, 0, 0, 2, 0, []), (2, 0, 0, 0, 0, []), (0, 0, 0, 3, 0, []), (6, 1, 0, 0, 0, []), (8, 0, 0, 0, 0, []), (43, 0, 0, 0, 0, []), (2, 0, 0, 0, 0, []), (0, 0, 0, 3, 0, []), (6, 2, 0, 0, 0, []), (8, 0, 0, 0, 0, []), (43, 0, 0, 0, 0, []), (2, 0, 0, 0, 0, []), (0, 0, 0, 3, 0, []), (6, 3, 0, 0, 0, []), (8, 0, 0, 0, 0, []), (43, 0, 0, 0, 0, []), (2, 0, 0, 0, 0, []), (0, 0, 0, 3, 0, []), (6, 4, 0, 0, 0, []), (8, 0, 0, 0, 0, []), (43, 0, 0, 0, 0, []), (2, 0, 0, 0, 0, []), (0, 0, 0, 3, 0, []), (6, 5, 0, 0, 0, []), (8, 0, 0, 0, 0, []), (43, 0, 0, 0, 0, []), (31, 0, 0, 150, 6, [1, 9, 9]), (20, 0, 0, 744, 0, []), (6, 0, 0, 0, 0, []), (32, 0, 0, 0, 1, []), (2, 0, 0, 1, 0, []), (2, 0, 0, 0, 0, []), (0, 0, 0, 3, 0, []), (6, 1, 0, 0, 0, []), (8, 0, 0, 0, 0, [])]
def mx_k191_3 : List (Nat × Nat × Nat) := [(0, 0, 0), (0, 0, 0), (0, 0, 0), (0, 0, 0), (22, 0, 155), (0, 0, 0), (0, 0, 0), (0, 0, 0), (0, 0, 0), (0, 0, 0), (0, 0, 0), (0, 0, 0), (0, 0, 0), (0, 0, 0), (0, 0, 0), (0, 0, 0), (0, 0, 0), (0, 0, 0), (0, 0, 0), (0, 0, 0), (0, 0, 0), (0, 0, 0), (0, 0, 0), (0, 0, 0), (0, 0, 0), (0, 0, 0), (0, 0, 0), (0, 0, 0), (0, 0, 0), (0, 0, 0), (0, 0, 0), (26, 0, 156), (0, 0, 0), (0, 0, 0), (0, 0, 0), (0, 0, 0), (0, 0, 0), (0, 0, 0), (0, 0, 0), (0, 0, 0)]
set_option maxRecDepth 100000 in
theorem mx_t191_3 : mx_chk 15 (mx_mC 191) (mx_nl 191) (mx_mR 191) (mx_nth mx_c191) 120 mx_p191_3 mx_k191_3 = true := by decide +kernel
def mx_p191_4 : List mx_Op := [(43, 0, 0, 0, 0, []), (31, 0, 0, 84, 2, [1, 8, 2]), (2, 0, 0, 2, 0, []), (2, 0, 0, 0, 0, []), (0, 0, 0, 3, 0, []), (6, 1, 0, 0, 0, []), (8, 0, 0, 0, 0, []), (43, 0, 0, 0, 0, []), (31, 0, 0, 155, 2, [1, 9, 2]), (20, 0, 0, 744, 0, []), (6, 0, 0, 0, 0, []), (32, 0, 0, 0, 1, []), (2, 0, 0, 1, 0, []), (2, 0, 0, 0, 0, []), (0, 0, 0, 3, 0, []), (6, 1, 0, 0, 0, []), (8, 0, 0, 0, 0, []), (43, 0, 0, 0, 0, []), (14, 0, 0, 0, 0, []), (6, 32, 0, 0, 0, []), (12, 0, 0, 0, 0, []), (2, 0, 0, 0, 0, []), (0, 0, 0, 3, 0, []), (6, 2, 0, 0, 0, []), (8, 0, 0, 0, 0, []), (43, 0, 0, 0, 0, []), (14, 0, 0, 0, 0, []), (7, 0, 4294967295, 0, 0, []), (11, 0, 0, 0, 1, []), (11, 0, 0, 0, 2, []), (2, 0, 0, 0, 0, []), (0, 0, 0, 3, 0, []), (6, 3, 0, 0, 0, []), (8, 0, 0, 0, 0, []), (43, 0, 0, 0, 0, []), (31, 0, 0, 87, 3, [1, 8, 5]), (2, 0, 0, 2, 0, []), (2, 0, 0, 0, 0, []), (0, 0, 0, 3, 0, []), (6, 1, 0, 0, 0, [])]
def mx_k191_4 : List (Nat × Nat × Nat) := [(0, 0, 0), (27, 0, 157), (0, 0, 0), (0, 0, 0), (0, 0, 0), (0, 0, 0), (0, 0, 0), (0, 0, 0), (31, 0, 158), (0, 0, 0), (0, 0, 0), (0, 0, 0), (0, 0, 0), (0, 0, 0), (0, 0, 0), (0, 0, 0), (0, 0, 0), (0, 0, 0), (0, 0, 0), (0, 1, 0), (0, 0, 0), (0, 0, 0), (0, 0, 0), (0, 0, 0), (0, 0, 0), (0, 0, 0), (0, 0, 0), (32, 1, 19), (0, 0, 0), (0, 0, 0), (0, 0, 0), (0, 0, 0), (0, 0, 0), (0, 0, 0), (0, 0, 0), (34, 0, 159), (0, 0, 0), (0, 0, 0), (0, 0, 0), (0, 0, 0)]
set_option maxRecDepth 100000 in
theorem mx_t191_4 : mx_chk 15 (mx_mC 191) (mx_nl 191) (mx_mR 191) (mx_nth mx_c191) 160 mx_p191_4 mx_k191_4 = true := by decide +kernel
end
section
def mx_p191_5 : List mx_Op := [(8, 0, 0, 0, 0, []), (43, 0, 0, 0, 0, []), (14, 0, 0, 0, 0, []), (6, 32, 0, 0, 0, []), (12, 0, 0, 0, 0, []), (2, 0, 0, 0, 0, []), (0, 0, 0, 3, 0, []), (6, 2, 0, 0, 0, []), (8, 0, 0, 0, 0, []), (43, 0, 0, 0, 0, []), (14, 0, 0, 0, 0, []), (7, 0, 4294967295, 0, 0, []), (11, 0, 0, 0, 1, []), (11, 0, 0, 0, 2, []), (2, 0, 0, 0, 0, []), (0, 0, 0, 3, 0, []), (6, 3, 0, 0, 0, []), (8, 0, 0, 0, 0, []), (43, 0, 0, 0, 0, []), (31, 0, 0, 158, 3, [1, 9, 5]), (20, 0, 0, 744, 0, []), (6, 0, 0, 0, 0, []), (32, 0, 0, 0, 1, []), (2, 0, 0, 1, 0, []), (31, 0, 0, 92, 1, [1, 8, 1]), (2, 0, 0, 2, 0, []), (31, 0, 0, 174, 1, [1, 9, 2]), (20, 0, 0, 744, 0, []), (6, 0, 0, 0, 0, []), (32, 0, 0, 0, 1, []), (2, 0, 0, 1, 0, []), (31, 0, 0, 86, 1, [1, 8, 1]), (2, 0, 0, 2, 0, []), (31, 0, 0, 157, 1, [1, 9, 1]), (20, 0, 0, 744, 0, []), (6, 0, 0, 0, 0, []), (32, 0, 0, 0, 1, []), (2, 0, 0, 1, 0, []), (2, 0, 0, 0, 0, []), (0, 0, 0, 3, 0, [])]
def mx_k191_5 : List (Nat × Nat × Nat) := [(0, 0, 0), (0, 0, 0), (0, 0, 0), (0, 1, 0), (0, 0, 0), (0, 0, 0), (0, 0, 0), (0, 0, 0), (0, 0, 0), (0, 0, 0), (0, 0, 0), (32, 1, 19), (0, 0, 0), (0, 0, 0), (0, 0, 0), (0, 0, 0), (0, 0, 0), (0, 0, 0), (0, 0, 0), (38, 0, 160), (0, 0, 0), (0, 0, 0), (0, 0, 0), (0, 0, 0), (39, 0, 161), (0, 0, 0), (43, 0, 162), (0, 0, 0), (0, 0, 0), (0, 0, 0), (0, 0, 0), (44, 0, 163), (0, 0, 0), (47, 0, 164), (0, 0, 0), (0, 0, 0), (0, 0, 0), (0, 0, 0), (0, 0, 0), (0, 0, 0)]
set_option maxRecDepth 100000 in
theorem mx_t191_5 : mx_chk 15 (mx_mC 191) (mx_nl 191) (mx_mR 191) (mx_nth mx_c191) 200 mx_p191_5 mx_k191_5 = true := by decide +kernel
def mx_p191_6 : List mx_Op := [(6, 1, 0, 0, 0, []), (8, 0, 0, 0, 0, []), (43, 0, 0, 0, 0, []), (2, 0, 0, 0, 0, []), (0, 0, 0, 3, 0, []), (6, 2, 0, 0, 0, []), (8, 0, 0, 0, 0, []), (43, 0, 0, 0, 0, []), (31, 0, 0, 85, 3, [1, 8, 4]), (2, 0, 0, 2, 0, []), (2, 0, 0, 0, 0, []), (0, 0, 0, 3, 0, []), (6, 1, 0, 0, 0, []), (8, 0, 0, 0, 0, []), (43, 0, 0, 0, 0, []), (2, 0, 0, 0, 0, []), (0, 0, 0, 3, 0, []), (6, 2, 0, 0, 0, []), (8, 0, 0, 0, 0, []), (43, 0, 0, 0, 0, []), (31, 0, 0, 156, 3, [1, 9, 3]), (20, 0, 0, 744, 0, []), (6, 0, 0, 0, 0, []), (32, 0, 0, 0, 1, []), (2, 0, 0, 1, 0, []), (2, 0, 0, 0, 0, []), (0, 0, 0, 3, 0, []), (6, 1, 0, 0, 0, []), (8, 0, 0, 0, 0, []), (43, 0, 0, 0, 0, []), (31, 0, 0, 89, 2, [1, 8, 3]), (2, 0, 0, 2, 0, []), (2, 0, 0, 0, 0, []), (0, 0, 0, 3, 0, []), (6, 1, 0, 0, 0, []), (8, 0, 0, 0, 0, []), (43, 0, 0, 0, 0, []), (31, 0, 0, 161, 2, [1, 9, 3]), (20, 0, 0, 744, 0, []), (6, 0, 0, 0, 0, [])]
def mx_k191_6 : List (Nat × Nat × Nat) := [(0, 0, 0), (0, 0, 0), (0, 0, 0), (0, 0, 0), (0, 0, 0), (0, 0, 0), (0, 0, 0), (0, 0, 0), (48, 0, 165), (0, 0, 0), (0, 0, 0), (0, 0, 0), (0, 0, 0), (0, 0, 0), (0, 0, 0), (0, 0, 0), (0, 0, 0), (0, 0, 0), (0, 0, 0), (0, 0, 0), (52, 0, 166), (0, 0, 0), (0, 0, 0), (0, 0, 0), (0, 0, 0), (0, 0, 0), (0, 0, 0), (0, 0, 0), (0, 0, 0), (0, 0, 0), (53, 0, 167), (0, 0, 0), (0, 0, 0), (0, 0, 0), (0, 0, 0), (0, 0, 0), (0, 0, 0), (56, 0, 168), (0, 0, 0), (0, 0, 0)]
set_option maxRecDepth 100000 in
theorem mx_t191_6 : mx_chk 15 (mx_mC 191) (mx_nl 191) (mx_mR 191) (mx_nth mx_c191) 240 mx_p191_6 mx_k191_6 = true := by decide +kernel
def mx_p191_7 : List mx_Op := [(32, 0, 0, 0, 1, []), (2, 0, 0, 1, 0, []), (2, 0, 0, 0, 0, []), (0, 0, 0, 3, 0, []), (6, 1, 0, 0, 0, []), (8, 0, 0, 0, 0, []), (43, 0, 0, 0, 0, []), (2, 0, 0, 0, 0, []), (0, 0, 0, 3, 0, []), (6, 2, 0, 0, 0, []), (8, 0, 0, 0, 0, []), (43, 0, 0, 0, 0, []), (31, 0, 0, 102, 3, [1, 8, 3]), (2, 0, 0, 2, 0, []), (2, 0, 0, 0, 0, []), (0, 0, 0, 3, 0, []), (6, 1, 0, 0, 0, []), (8, 0, 0, 0, 0, []), (43, 0, 0, 0, 0, []), (2, 0, 0, 0, 0, []), (0, 0, 0, 3, 0, []), (6, 2, 0, 0, 0, []), (8, 0, 0, 0, 0, []), (43, 0, 0, 0, 0, []), (31, 0, 0, 184, 3, [1, 9, 3]), (20, 0, 0, 744, 0, []), (6, 0, 0, 0, 0, []), (32, 0, 0, 0, 1, []), (2, 0, 0, 1, 0, []), (2, 0, 0, 0, 0, []), (0, 0, 0, 3, 0, []), (6, 1, 0, 0, 0, []), (8, 0, 0, 0, 0, []), (43, 0, 0, 0, 0, []), (2, 0, 0, 0, 0, []), (0, 0, 0, 3, 0, []), (6, 2, 0, 0, 0, []), (8, 0, 0, 0, 0, []), (43, 0, 0, 0, 0, []), (31, 0, 0, 109, 3, [1, 8, 5])]
def mx_k191_7 : List (Nat × Nat × Nat) := [(0, 0, 0), (0, 0, 0), (0, 0, 0), (0, 0, 0), (0, 0, 0), (0, 0, 0), (0, 0, 0), (0, 0, 0), (0, 0, 0), (0, 0, 0), (0, 0, 0), (0, 0, 0), (57, 0, 169), (0, 0, 0), (0, 0, 0), (0, 0, 0), (0, 0, 0), (0, 0, 0), (0, 0, 0), (0, 0, 0), (0, 0, 0), (0, 0, 0), (0, 0, 0), (0, 0, 0), (60, 0, 170), (0, 0, 0), (0, 0, 0), (0, 0, 0), (0, 0, 0), (0, 0, 0), (0, 0, 0), (0, 0, 0), (0, 0, 0), (0, 0, 0), (0, 0, 0), (0, 0, 0), (0, 0, 0), (0, 0, 0), (0, 0, 0), (61, 0, 171)]
set_option maxRecDepth 100000 in
theorem mx_t191_7 : mx_chk 15 (mx_mC 191) (mx_nl 191) (mx_mR 191) (mx_nth mx_c191) 280 mx_p191_7 mx_k191_7 = true := by decide +kernel
def mx_p191_8 : List mx_Op := [(2, 0, 0, 2, 0, []), (2, 0, 0, 0, 0, []), (0, 0, 0, 3, 0, []), (6, 1, 0, 0, 0, []), (8, 0, 0, 0, 0, []), (43, 0, 0, 0, 0, []), (2, 0, 0, 0, 0, []), (0, 0, 0, 3, 0, []), (6, 2, 0, 0, 0, []), (8, 0, 0, 0, 0, []), (43, 0, 0, 0, 0, []), (31, 0, 0, 190, 3, [1, 9, 5]), (20, 0, 0, 744, 0, []), (6, 0, 0, 0, 0, []), (32, 0, 0, 0, 1, []), (2, 0, 0, 1, 0, []), (2, 0, 0, 0, 0, []), (0, 0, 0, 3, 0, []), (6, 1, 0, 0, 0, []), (8, 0, 0, 0, 0, []), (43, 0, 0, 0, 0, []), (2, 0, 0, 0, 0, []), (0, 0, 0, 3, 0, []), (6, 2, 0, 0, 0, []), (8, 0, 0, 0, 0, []), (43, 0, 0, 0, 0, []), (31, 0, 0, 99, 3, [1, 8, 3]), (2, 0, 0, 2, 0, []), (2, 0, 0, 0, 0, []), (0, 0, 0, 3, 0, []), (6, 1, 0, 0, 0, []), (8, 0, 0, 0, 0, []), (43, 0, 0, 0, 0, []), (2, 0, 0, 0, 0, []), (0, 0, 0, 3, 0, []), (6, 2, 0, 0, 0, []), (8, 0, 0, 0, 0, []), (43, 0, 0, 0, 0, []), (31, 0, 0, 182, 3, [1, 9, 3]), (20, 0, 0, 744, 0, [])]
def mx_k191_8 : List (Nat × Nat × Nat) := [(0, 0, 0), (0, 0, 0), (0, 0, 0), (0, 0, 0), (0, 0, 0), (0, 0, 0), (0, 0, 0), (0, 0, 0), (0, 0, 0), (0, 0, 0), (0, 0, 0), (64, 0, 172), (0, 0, 0), (0, 0, 0), (0, 0, 0), (0, 0, 0), (0, 0, 0), (0, 0, 0), (0, 0, 0), (0, 0, 0), (0, 0, 0), (0, 0, 0), (0, 0, 0), (0, 0, 0), (0, 0, 0), (0, 0, 0), (65, 0, 173), (0, 0, 0), (0, 0, 0), (0, 0, 0), (0, 0, 0), (0, 0, 0), (0, 0, 0), (0, 0, 0), (0, 0, 0), (0, 0, 0), (0, 0, 0), (0, 0, 0), (68, 0, 174), (0, 0, 0)]
set_option maxRecDepth 100000 in
theorem mx_t191_8 : mx_chk 15 (mx_mC 191) (mx_nl 191) (mx_mR 191) (mx_nth mx_c191) 320 mx_p191_8 mx_k191_8 = true := by decide +kernel
def mx_p191_9 : List mx_Op := [(6, 0, 0, 0, 0, []), (32, 0, 0, 0, 1, []), (2, 0, 0, 1, 0, []), (2, 0, 0, 0, 0, []), (0, 0, 0, 3, 0, []), (6, 1, 0, 0, 0, []), (8, 0, 0, 0, 0, []), (43, 0, 0, 0, 0, []), (2, 0, 0, 0, 0, []), (0, 0, 0, 3, 0, []), (6, 2, 0, 0, 0, []), (8, 0, 0, 0, 0, []), (43, 0, 0, 0, 0, []), (31, 0, 0, 103, 3, [1, 8, 3]), (2, 0, 0, 2, 0, []), (2, 0, 0, 0, 0, []), (0, 0, 0, 3, 0, []), (6, 1, 0, 0, 0, []), (8, 0, 0, 0, 0, []), (43, 0, 0, 0, 0, []), (2, 0, 0, 0, 0, []), (0, 0, 0, 3, 0, []), (6, 2, 0, 0, 0, []), (8, 0, 0, 0, 0, []), (43, 0, 0, 0, 0, []), (31, 0, 0, 185, 3, [1, 9, 3]), (20, 0, 0, 744, 0, []), (6, 0, 0, 0, 0, []), (32, 0, 0, 0, 1, []), (2, 0, 0, 1, 0, []), (2, 0, 0, 0, 0, []), (0, 0, 0, 3, 0, []), (6, 1, 0, 0, 0, []), (8, 0, 0, 0, 0, []), (43, 0, 0, 0, 0, []), (2, 0, 0, 0, 0, []), (0, 0, 0, 3, 0, []), (6, 2, 0, 0, 0, []), (8, 0, 0, 0, 0, []), (43, 0, 0, 0, 0, [])]
def mx_k191_9 : List (Nat × Nat × Nat) := [(0, 0, 0), (0, 0, 0), (0, 0, 0), (0, 0, 0), (0, 0, 0), (0, 0, 0), (0, 0, 0), (0, 0, 0), (0, 0, 0), (0, 0, 0), (0, 0, 0), (0, 0, 0), (0, 0, 0), (69, 0, 175), (0, 0, 0), (0, 0, 0), (0, 0, 0), (0, 0, 0), (0, 0, 0), (0, 0, 0), (0, 0, 0), (0, 0, 0), (0, 0, 0), (0, 0, 0), (0, 0, 0), (72, 0, 176), (0, 0, 0), (0, 0, 0), (0, 0, 0), (0, 0, 0), (0, 0, 0), (0, 0, 0), (0, 0, 0), (0, 0, 0), (0, 0, 0), (0, 0, 0), (0, 0, 0), (0, 0, 0), (0, 0, 0), (0, 0, 0)]
set_option maxRecDepth 100000 in
theorem mx_t191_9 : mx_chk 15 (mx_mC 191) (mx_nl 191) (mx_mR 191) (mx_nth mx_c191) 360 mx_p191_9 mx_k191_9 = true := by decide +kernel
end
section
def mx_p191_10 : List mx_Op := [(2, 0, 0, 0, 0, []), (0, 0, 0, 3, 0, []), (6, 3, 0, 0, 0, []), (8, 0, 0, 0, 0, []), (43, 0, 0, 0, 0, []), (31, 0, 0, 76, 4, [1, 8, 4]), (2, 0, 0, 2, 0, []), (2, 0, 0, 0, 0, []), (0, 0, 0, 3, 0, []), (6, 1, 0, 0, 0, []), (8, 0, 0, 0, 0, []), (43, 0, 0, 0, 0, []), (2, 0, 0, 0, 0, []), (0, 0, 0, 3, 0, []), (6, 2, 0, 0, 0, []), (8, 0, 0, 0, 0, []), (43, 0, 0, 0, 0, []), (2, 0, 0, 0, 0, []), (0, 0, 0, 3, 0, []), (6, 3, 0, 0, 0, []), (8, 0, 0, 0, 0, []), (43, 0, 0, 0, 0, []), (31, 0, 0, 148, 4, [1, 9, 4]), (20, 0, 0, 744, 0, []), (6, 0, 0, 0, 0, []), (32, 0, 0, 0, 1, []), (2, 0, 0, 1, 0, []), (2, 0, 0, 0, 0, []), (0, 0, 0, 3, 0, []), (6, 1, 0, 0, 0, []), (8, 0, 0, 0, 0, []), (43, 0, 0, 0, 0, []), (2, 0, 0, 0, 0, []), (0, 0, 0, 3, 0, []), (6, 2, 0, 0, 0, []), (8, 0, 0, 0, 0, []), (43, 0, 0, 0, 0, []), (31, 0, 0, 107, 3, [1, 8, 7]), (2, 0, 0, 2, 0, []), (2, 0, 0, 0, 0, [])]
def mx_k191_10 : List (Nat × Nat × Nat) := [(0, 0, 0), (0, 0, 0), (0, 0, 0), (0, 0, 0), (0, 0, 0), (73, 0, 177), (0, 0, 0), (0, 0, 0), (0, 0, 0), (0, 0, 0), (0, 0, 0), (0, 0, 0), (0, 0, 0), (0, 0, 0), (0, 0, 0), (0, 0, 0), (0, 0, 0), (0, 0, 0), (0, 0, 0), (0, 0, 0), (0, 0, 0), (0, 0, 0), (76, 0, 178), (0, 0, 0), (0, 0, 0), (0, 0, 0), (0, 0, 0), (0, 0, 0), (0, 0, 0), (0, 0, 0), (0, 0, 0), (0, 0, 0), (0, 0, 0), (0, 0, 0), (0, 0, 0), (0, 0, 0), (0, 0, 0), (77, 0, 179), (0, 0, 0), (0, 0, 0)]
set_option maxRecDepth 100000 in
theorem mx_t191_10 : mx_chk 15 (mx_mC 191) (mx_nl 191) (mx_mR 191) (mx_nth mx_c191) 400 mx_p191_10 mx_k191_10 = true := by decide +kernel
def mx_p191_11 : List mx_Op := [(0, 0, 0, 3, 0, []), (6, 1, 0, 0, 0, []), (8, 0, 0, 0, 0, []), (43, 0, 0, 0, 0, []), (2, 0, 0, 0, 0, []), (0, 0, 0, 3, 0, []), (6, 2, 0, 0, 0, []), (8, 0, 0, 0, 0, []), (43, 0, 0, 0, 0, []), (31, 0, 0, 188, 3, [1, 9, 3]), (20, 0, 0, 744, 0, []), (6, 0, 0, 0, 0, []), (32, 0, 0, 0, 1, []), (2, 0, 0, 1, 0, []), (2, 0, 0, 0, 0, []), (0, 0, 0, 3, 0, []), (6, 1, 0, 0, 0, []), (8, 0, 0, 0, 0, []), (43, 0, 0, 0, 0, []), (2, 0, 0, 0, 0, []), (0, 0, 0, 3, 0, []), (6, 2, 0, 0, 0, []), (8, 0, 0, 0, 0, []), (43, 0, 0, 0, 0, []), (31, 0, 0, 96, 3, [1, 8, 4]), (2, 0, 0, 2, 0, []), (2, 0, 0, 0, 0, []), (0, 0, 0, 3, 0, []), (6, 1, 0, 0, 0, []), (8, 0, 0, 0, 0, []), (43, 0, 0, 0, 0, []), (2, 0, 0, 0, 0, []), (0, 0, 0, 3, 0, []), (6, 2, 0, 0, 0, []), (8, 0, 0, 0, 0, []), (43, 0, 0, 0, 0, []), (31, 0, 0, 179, 3, [1, 9, 6]), (20, 0, 0, 744, 0, []), (6, 0, 0, 0, 0, []), (32, 0, 0, 0, 1, [])]
def mx_k191_11 : List (Nat × Nat × Nat) := [(0, 0, 0), (0, 0, 0), (0, 0, 0), (0, 0, 0), (0, 0, 0), (0, 0, 0), (0, 0, 0), (0, 0, 0), (0, 0, 0), (80, 0, 180), (0, 0, 0), (0, 0, 0), (0, 0, 0), (0, 0, 0), (0, 0, 0), (0, 0, 0), (0, 0, 0), (0, 0, 0), (0, 0, 0), (0, 0, 0), (0, 0, 0), (0, 0, 0), (0, 0, 0), (0, 0, 0), (81, 0, 181), (0, 0, 0), (0, 0, 0), (0, 0, 0), (0, 0, 0), (0, 0, 0), (0, 0, 0), (0, 0, 0), (0, 0, 0), (0, 0, 0), (0, 0, 0), (0, 0, 0), (84, 0, 182), (0, 0, 0), (0, 0, 0), (0, 0, 0)]
set_option maxRecDepth 100000 in
theorem mx_t191_11 : mx_chk 15 (mx_mC 191) (mx_nl 191) (mx_mR 191) (mx_nth mx_c191) 440 mx_p191_11 mx_k191_11 = true := by decide +kernel
def mx_p191_12 : List mx_Op := [(2, 0, 0, 1, 0, []), (2, 0, 0, 0, 0, []), (0, 0, 0, 3, 0, []), (6, 1, 0, 0, 0, []), (8, 0, 0, 0, 0, []), (43, 0, 0, 0, 0, []), (2, 0, 0, 0, 0, []), (0, 0, 0, 3, 0, []), (6, 2, 0, 0, 0, []), (8, 0, 0, 0, 0, []), (43, 0, 0, 0, 0, []), (2, 0, 0, 0, 0, []), (0, 0, 0, 3, 0, []), (6, 3, 0, 0, 0, []), (8, 0, 0, 0, 0, []), (43, 0, 0, 0, 0, []), (31, 0, 0, 97, 4, [1, 8, 5]), (2, 0, 0, 2, 0, []), (2, 0, 0, 0, 0, []), (0, 0, 0, 3, 0, []), (6, 1, 0, 0, 0, []), (8, 0, 0, 0, 0, []), (43, 0, 0, 0, 0, []), (2, 0, 0, 0, 0, []), (0, 0, 0, 3, 0, []), (6, 2, 0, 0, 0, []), (8, 0, 0, 0, 0, []), (43, 0, 0, 0, 0, []), (2, 0, 0, 0, 0, []), (0, 0, 0, 3, 0, []), (6, 3, 0, 0, 0, []), (8, 0, 0, 0, 0, []), (43, 0, 0, 0, 0, []), (31, 0, 0, 180, 4, [1, 9, 6]), (20, 0, 0, 744, 0, []), (6, 0, 0, 0, 0, []), (32, 0, 0, 0, 1, []), (2, 0, 0, 1, 0, []), (2, 0, 0, 0, 0, []), (0, 0, 0, 3, 0, [])]
def mx_k191_12 : List (Nat × Nat × Nat) := [(0, 0, 0), (0, 0, 0), (0, 0, 0), (0, 0, 0), (0, 0, 0), (0, 0, 0), (0, 0, 0), (0, 0, 0), (0, 0, 0), (0, 0, 0), (0, 0, 0), (0, 0, 0), (0, 0, 0), (0, 0, 0), (0, 0, 0), (0, 0, 0), (85, 0, 183), (0, 0, 0), (0, 0, 0), (0, 0, 0), (0, 0, 0), (0, 0, 0), (0, 0, 0), (0, 0, 0), (0, 0, 0), (0, 0, 0), (0, 0, 0), (0, 0, 0), (0, 0, 0), (0, 0, 0), (0, 0, 0), (0, 0, 0), (0, 0, 0), (88, 0, 184), (0, 0, 0), (0, 0, 0), (0, 0, 0), (0, 0, 0), (0, 0, 0), (0, 0, 0)]
set_option maxRecDepth 100000 in
theorem mx_t191_12 : mx_chk 15 (mx_mC 191) (mx_nl 191) (mx_mR 191) (mx_nth mx_c191) 480 mx_p191_12 mx_k191_12 = true := by decide +kernel
def mx_p191_13 : List mx_Op := [(6, 1, 0, 0, 0, []), (8, 0, 0, 0, 0, []), (43, 0, 0, 0, 0, []), (2, 0, 0, 0, 0, []), (0, 0, 0, 3, 0, []), (6, 2, 0, 0, 0, []), (8, 0, 0, 0, 0, []), (43, 0, 0, 0, 0, []), (31, 0, 0, 93, 3, [1, 8, 5]), (2, 0, 0, 2, 0, []), (2, 0, 0, 0, 0, []), (0, 0, 0, 3, 0, []), (6, 1, 0, 0, 0, []), (8, 0, 0, 0, 0, []), (43, 0, 0, 0, 0, []), (2, 0, 0, 0, 0, []), (0, 0, 0, 3, 0, []), (6, 2, 0, 0, 0, []), (8, 0, 0, 0, 0, []), (43, 0, 0, 0, 0, []), (31, 0, 0, 176, 3, [1, 9, 8]), (20, 0, 0, 744, 0, []), (6, 0, 0, 0, 0, []), (32, 0, 0, 0, 1, []), (2, 0, 0, 1, 0, []), (31, 0, 0, 88, 1, [1, 8, 5]), (2, 0, 0, 2, 0, []), (31, 0, 0, 160, 1, [1, 9, 5]), (20, 0, 0, 744, 0, []), (6, 0, 0, 0, 0, []), (32, 0, 0, 0, 1, []), (2, 0, 0, 1, 0, []), (2, 0, 0, 0, 0, []), (0, 0, 0, 3, 0, []), (6, 1, 0, 0, 0, []), (8, 0, 0, 0, 0, []), (43, 0, 0, 0, 0, []), (2, 0, 0, 0, 0, []), (0, 0, 0, 3, 0, []), (6, 2, 0, 0, 0, [])]
def mx_k191_13 : List (Nat × Nat × Nat) := [(0, 0, 0), (0, 0, 0), (0, 0, 0), (0, 0, 0), (0, 0, 0), (0, 0, 0), (0, 0, 0), (0, 0, 0), (89, 0, 185), (0, 0, 0), (0, 0, 0), (0, 0, 0), (0, 0, 0), (0, 0, 0), (0, 0, 0), (0, 0, 0), (0, 0, 0), (0, 0, 0), (0, 0, 0), (0, 0, 0), (92, 0, 186), (0, 0, 0), (0, 0, 0), (0, 0, 0), (0, 0, 0), (93, 0, 187), (0, 0, 0), (96, 0, 188), (0, 0, 0), (0, 0, 0), (0, 0, 0), (0, 0, 0), (0, 0, 0), (0, 0, 0), (0, 0, 0), (0, 0, 0), (0, 0, 0), (0, 0, 0), (0, 0, 0), (0, 0, 0)]
set_option maxRecDepth 100000 in
theorem mx_t191_13 : mx_chk 15 (mx_mC 191) (mx_nl 191) (mx_mR 191) (mx_nth mx_c191) 520 mx_p191_13 mx_k191_13 = true := by decide +kernel
def mx_p191_14 : List mx_Op := [(8, 0, 0, 0, 0, []), (43, 0, 0, 0, 0, []), (2, 0, 0, 0, 0, []), (0, 0, 0, 3, 0, []), (6, 3, 0, 0, 0, []), (8, 0, 0, 0, 0, []), (43, 0, 0, 0, 0, []), (2, 0, 0, 0, 0, []), (0, 0, 0, 3, 0, []), (6, 4, 0, 0, 0, []), (8, 0, 0, 0, 0, []), (43, 0, 0, 0, 0, []), (31, 0, 0, 83, 5, [1, 8, 6]), (2, 0, 0, 2, 0, []), (2, 0, 0, 0, 0, []), (0, 0, 0, 3, 0, []), (6, 1, 0, 0, 0, []), (8, 0, 0, 0, 0, []), (43, 0, 0, 0, 0, []), (2, 0, 0, 0, 0, []), (0, 0, 0, 3, 0, []), (6, 2, 0, 0, 0, []), (8, 0, 0, 0, 0, []), (43, 0, 0, 0, 0, []), (2, 0, 0, 0, 0, []), (0, 0, 0, 3, 0, []), (6, 3, 0, 0, 0, []), (8, 0, 0, 0, 0, []), (43, 0, 0, 0, 0, []), (2, 0, 0, 0, 0, []), (0, 0, 0, 3, 0, []), (6, 4, 0, 0, 0, []), (8, 0, 0, 0, 0, []), (43, 0, 0, 0, 0, []), (31, 0, 0, 154, 5, [1, 9, 9]), (20, 0, 0, 744, 0, []), (6, 0, 0, 0, 0, []), (32, 0, 0, 0, 1, []), (2, 0, 0, 1, 0, []), (2, 0, 0, 0, 0, [])]
def mx_k191_14 : List (Nat × Nat × Nat) := [(0, 0, 0), (0, 0, 0), (0, 0, 0), (0, 0, 0), (0, 0, 0), (0, 0, 0), (0, 0, 0), (0, 0, 0), (0, 0, 0), (0, 0, 0), (0, 0, 0), (0, 0, 0), (97, 0, 189), (0, 0, 0), (0, 0, 0), (0, 0, 0), (0, 0, 0), (0, 0, 0), (0, 0, 0), (0, 0, 0), (0, 0, 0), (0, 0, 0), (0, 0, 0), (0, 0, 0), (0, 0, 0), (0, 0, 0), (0, 0, 0), (0, 0, 0), (0, 0, 0), (0, 0, 0), (0, 0, 0), (0, 0, 0), (0, 0, 0), (0, 0, 0), (101, 0, 190), (0, 0, 0), (0, 0, 0), (0, 0, 0), (0, 0, 0), (0, 0, 0)]
set_option maxRecDepth 100000 in
theorem mx_t191_14 : mx_chk 15 (mx_mC 191) (mx_nl 191) (mx_mR 191) (mx_nth mx_c191) 560 mx_p191_14 mx_k191_14 = true := by decide +kernel
end
section
def mx_p191_15 : List mx_Op := [(0, 0, 0, 3, 0, []), (6, 1, 0, 0, 0, []), (8, 0, 0, 0, 0, []), (43, 0, 0, 0, 0, []), (31, 0, 0, 94, 2, [1, 8, 2]), (2, 0, 0, 2, 0, []), (2, 0, 0, 0, 0, []), (0, 0, 0, 3, 0, []), (6, 1, 0, 0, 0, []), (8, 0, 0, 0, 0, []), (43, 0, 0, 0, 0, []), (31, 0, 0, 177, 2, [1, 9, 3]), (20, 0, 0, 744, 0, []), (6, 0, 0, 0, 0, []), (32, 0, 0, 0, 1, []), (2, 0, 0, 1, 0, []), (2, 0, 0, 0, 0, []), (0, 0, 0, 3, 0, []), (6, 1, 0, 0, 0, []), (8, 0, 0, 0, 0, []), (43, 0, 0, 0, 0, []), (31, 0, 0, 98, 2, [1, 8, 2]), (2, 0, 0, 2, 0, []), (2, 0, 0, 0, 0, []), (0, 0, 0, 3, 0, []), (6, 1, 0, 0, 0, []), (8, 0, 0, 0, 0, []), (43, 0, 0, 0, 0, []), (31, 0, 0, 181, 2, [1, 9, 3]), (20, 0, 0, 744, 0, []), (6, 0, 0, 0, 0, []), (32, 0, 0, 0, 1, []), (2, 0, 0, 1, 0, []), (2, 0, 0, 0, 0, []), (0, 0, 0, 3, 0, []), (6, 1, 0, 0, 0, []), (8, 0, 0, 0, 0, []), (43, 0, 0, 0, 0, []), (31, 0, 0, 95, 2, [1, 8, 2]), (2, 0, 0, 2, 0, [])]
def mx_k191_15 : List (Nat × Nat × Nat) := [(0, 0, 0), (0, 0, 0), (0, 0, 0), (0, 0, 0), (102, 0, 191), (0, 0, 0), (0, 0, 0), (0, 0, 0), (0, 0, 0), (0, 0, 0), (0, 0, 0), (105, 0, 192), (0, 0, 0), (0, 0, 0), (0, 0, 0), (0, 0, 0), (0, 0, 0), (0, 0, 0), (0, 0, 0), (0, 0, 0), (0, 0, 0), (106, 0, 193), (0, 0, 0), (0, 0, 0), (0, 0, 0), (0, 0, 0), (0, 0, 0), (0, 0, 0), (109, 0, 194), (0, 0, 0), (0, 0, 0), (0, 0, 0), (0, 0, 0), (0, 0, 0), (0, 0, 0), (0, 0, 0), (0, 0, 0), (0, 0, 0), (110, 0, 195), (0, 0, 0)]
set_option maxRecDepth 100000 in
theorem mx_t191_15 : mx_chk 15 (mx_mC 191) (mx_nl 191) (mx_mR 191) (mx_nth mx_c191) 600 mx_p191_15 mx_k191_15 = true := by decide +kernel
def mx_p191_16 : List mx_Op := [(2, 0, 0, 0, 0, []), (0, 0, 0, 3, 0, []), (6, 1, 0, 0, 0, []), (8, 0, 0, 0, 0, []), (43, 0, 0, 0, 0, []), (31, 0, 0, 178, 2, [1, 9, 2]), (20, 0, 0, 744, 0, []), (6, 0, 0, 0, 0, []), (32, 0, 0, 0, 1, []), (2, 0, 0, 1, 0, []), (2, 0, 0, 0, 0, []), (0, 0, 0, 3, 0, []), (6, 1, 0, 0, 0, []), (8, 0, 0, 0, 0, []), (43, 0, 0, 0, 0, []), (2, 0, 0, 0, 0, []), (0, 0, 0, 3, 0, []), (6, 2, 0, 0, 0, []), (8, 0, 0, 0, 0, []), (43, 0, 0, 0, 0, []), (31, 0, 0, 70, 3, [1, 8, 5]), (2, 0, 0, 2, 0, []), (2, 0, 0, 0, 0, []), (0, 0, 0, 3, 0, []), (6, 1, 0, 0, 0, []), (8, 0, 0, 0, 0, []), (43, 0, 0, 0, 0, []), (2, 0, 0, 0, 0, []), (0, 0, 0, 3, 0, []), (6, 2, 0, 0, 0, []), (8, 0, 0, 0, 0, []), (43, 0, 0, 0, 0, []), (31, 0, 0, 120, 3, [1, 9, 3]), (20, 0, 0, 744, 0, []), (6, 0, 0, 0, 0, []), (32, 0, 0, 0, 1, []), (2, 0, 0, 1, 0, []), (2, 0, 0, 0, 0, []), (0, 0, 0, 3, 0, []), (6, 1, 0, 0, 0, [])]
def mx_k191_16 : List (Nat × Nat × Nat) := [(0, 0, 0), (0, 0, 0), (0, 0, 0), (0, 0, 0), (0, 0, 0), (113, 0, 196), (0, 0, 0), (0, 0, 0), (0, 0, 0), (0, 0, 0), (0, 0, 0), (0, 0, 0), (0, 0, 0), (0, 0, 0), (0, 0, 0), (0, 0, 0), (0, 0, 0), (0, 0, 0), (0, 0, 0), (0, 0, 0), (114, 0, 197), (0, 0, 0), (0, 0, 0), (0, 0, 0), (0, 0, 0), (0, 0, 0), (0, 0, 0), (0, 0, 0), (0, 0, 0), (0, 0, 0), (0, 0, 0), (0, 0, 0), (117, 0, 198), (0, 0, 0), (0, 0, 0), (0, 0, 0), (0, 0, 0), (0, 0, 0), (0, 0, 0), (0, 0, 0)]
set_option maxRecDepth 100000 in
theorem mx_t191_16 : mx_chk 15 (mx_mC 191) (mx_nl 191) (mx_mR 191) (mx_nth mx_c191) 640 mx_p191_16 mx_k191_16 = true := by decide +kernel
def mx_p191_17 : List mx_Op := [(8, 0, 0, 0, 0, []), (43, 0, 0, 0, 0, []), (2, 0, 0, 0, 0, []), (0, 0, 0, 3, 0, []), (6, 2, 0, 0, 0, []), (8, 0, 0, 0, 0, []), (43, 0, 0, 0, 0, []), (31, 0, 0, 71, 3, [1, 8, 3]), (2, 0, 0, 2, 0, []), (2, 0, 0, 0, 0, []), (0, 0, 0, 3, 0, []), (6, 1, 0, 0, 0, []), (8, 0, 0, 0, 0, []), (43, 0, 0, 0, 0, []), (2, 0, 0, 0, 0, []), (0, 0, 0, 3, 0, []), (6, 2, 0, 0, 0, []), (8, 0, 0, 0, 0, []), (43, 0, 0, 0, 0, []), (31, 0, 0, 125, 3, [1, 9, 3]), (20, 0, 0, 744, 0, []), (6, 0, 0, 0, 0, []), (32, 0, 0, 0, 1, []), (2, 0, 0, 1, 0, []), (2, 0, 0, 0, 0, []), (0, 0, 0, 3, 0, []), (6, 1, 0, 0, 0, []), (8, 0, 0, 0, 0, []), (43, 0, 0, 0, 0, []), (31, 0, 0, 108, 2, [1, 8, 2]), (2, 0, 0, 2, 0, []), (2, 0, 0, 0, 0, []), (0, 0, 0, 3, 0, []), (6, 1, 0, 0, 0, []), (8, 0, 0, 0, 0, []), (43, 0, 0, 0, 0, []), (31, 0, 0, 189, 2, [1, 9, 2]), (20, 0, 0, 744, 0, []), (6, 0, 0, 0, 0, []), (32, 0, 0, 0, 1, [])]
def mx_k191_17 : List (Nat × Nat × Nat) := [(0, 0, 0), (0, 0, 0), (0, 0, 0), (0, 0, 0), (0, 0, 0), (0, 0, 0), (0, 0, 0), (118, 0, 199), (0, 0, 0), (0, 0, 0), (0, 0, 0), (0, 0, 0), (0, 0, 0), (0, 0, 0), (0, 0, 0), (0, 0, 0), (0, 0, 0), (0, 0, 0), (0, 0, 0), (121, 0, 200), (0, 0, 0), (0, 0, 0), (0, 0, 0), (0, 0, 0), (0, 0, 0), (0, 0, 0), (0, 0, 0), (0, 0, 0), (0, 0, 0), (122, 0, 201), (0, 0, 0), (0, 0, 0), (0, 0, 0), (0, 0, 0), (0, 0, 0), (0, 0, 0), (125, 0, 202), (0, 0, 0), (0, 0, 0), (0, 0, 0)]
set_option maxRecDepth 100000 in
theorem mx_t191_17 : mx_chk 15 (mx_mC 191) (mx_nl 191) (mx_mR 191) (mx_nth mx_c191) 680 mx_p191_17 mx_k191_17 = true := by decide +kernel
def mx_p191_18 : List mx_Op := [(2, 0, 0, 1, 0, []), (2, 0, 0, 0, 0, []), (0, 0, 0, 3, 0, []), (6, 1, 0, 0, 0, []), (8, 0, 0, 0, 0, []), (43, 0, 0, 0, 0, []), (31, 0, 0, 80, 2, [1, 8, 2]), (2, 0, 0, 2, 0, []), (2, 0, 0, 0, 0, []), (0, 0, 0, 3, 0, []), (6, 1, 0, 0, 0, []), (8, 0, 0, 0, 0, []), (43, 0, 0, 0, 0, []), (31, 0, 0, 151, 2, [1, 9, 4]), (20, 0, 0, 744, 0, []), (6, 0, 0, 0, 0, []), (32, 0, 0, 0, 1, []), (2, 0, 0, 1, 0, []), (31, 0, 0, 106, 1, [1, 8, 1]), (2, 0, 0, 2, 0, []), (31, 0, 0, 187, 1, [1, 9, 1]), (20, 0, 0, 744, 0, []), (6, 0, 0, 0, 0, []), (32, 0, 0, 0, 1, []), (16, 6, 0, 3, 0, []), (21, 0, 0, 11, 0, []), (6, 1, 0, 0, 0, []), (32, 0, 0, 0, 1, [])]
def mx_k191_18 : List (Nat × Nat × Nat) := [(0, 0, 0), (0, 0, 0), (0, 0, 0), (0, 0, 0), (0, 0, 0), (0, 0, 0), (126, 0, 203), (0, 0, 0), (0, 0, 0), (0, 0, 0), (0, 0, 0), (0, 0, 0), (0, 0, 0), (129, 0, 204), (0, 0, 0), (0, 0, 0), (0, 0, 0), (0, 0, 0), (130, 0, 205), (0, 0, 0), (133, 0, 206), (0, 0, 0), (0, 0, 0), (0, 0, 0), (0, 0, 0), (0, 0, 0), (0, 0, 0), (0, 0, 0)]
set_option maxRecDepth 100000 in
theorem mx_t191_18 : mx_chk 15 (mx_mC 191) (mx_nl 191) (mx_mR 191) (mx_nth mx_c191) 720 mx_p191_18 mx_k191_18 = true := by decide +kernel
def mx_k191 : List (Nat × Nat × Nat) := mx_k191_0 ++ (mx_k191_1 ++ (mx_k191_2 ++ (mx_k191_3 ++ (mx_k191_4 ++ (mx_k191_5 ++ (mx_k191_6 ++ (mx_k191_7 ++ (mx_k191_8 ++ (mx_k191_9 ++ (mx_k191_10 ++ (mx_k191_11 ++ (mx_k191_12 ++ (mx_k191_13 ++ (mx_k191_14 ++ (mx_k191_15 ++ (mx_k191_16 ++ (mx_k191_17 ++ (mx_k191_18))))))))))))))))))
set_option maxRecDepth 100000 in
theorem mx_t191 : mx_chk 15 (mx_mC 191) (mx_nl 191) (mx_mR 191) (mx_nth mx_c191) 0 mx_p191 mx_k191 = true := by
  have e : mx_p191 = mx_p191_0 ++ (mx_p191_1 ++ (mx_p191_2 ++ (mx_p191_3 ++ (mx_p191_4 ++ (mx_p191_5 ++ (mx_p191_6 ++ (mx_p191_7 ++ (mx_p191_8 ++ (mx_p191_9 ++ (mx_p191_10 ++ (mx_p191_11 ++ (mx_p191_12 ++ (mx_p191_13 ++ (mx_p191_14 ++ (mx_p191_15 ++ (mx_p191_16 ++ (mx_p191_17 ++ (mx_p191_18)))))))))))))))))) := rfl
  rw [e]
  exact mx_chk_app rfl mx_t191_0 (mx_chk_app rfl mx_t191_1 (mx_chk_app rfl mx_t191_2 (mx_chk_app rfl mx_t191_3 (mx_chk_app rfl mx_t191_4 (mx_chk_app rfl mx_t191_5 (mx_chk_app rfl mx_t191_6 (mx_chk_app rfl mx_t191_7 (mx_chk_app rfl mx_t191_8 (mx_chk_app rfl mx_t191_9 (mx_chk_app rfl mx_t191_10 (mx_chk_app rfl mx_t191_11 (mx_chk_app rfl mx_t191_12 (mx_chk_app rfl mx_t191_13 (mx_chk_app rfl mx_t191_14 (mx_chk_app rfl mx_t191_15 (mx_chk_app rfl mx_t191_16 (mx_chk_app rfl mx_t191_17 (mx_t191_18))))))))))))))))))
end
section
/-! ===== a method's table run by the machine is the bytecode run ===== -/
def mx_eqX (σ τ : mx_S) : Prop := ∀ k j, τ k mx_oX j = σ k mx_oX j
theorem mx_eqX_up {σ : mx_S} {k o j : Nat} {x : Int32} (h : o < 55) : mx_eqX σ (mx_up σ k o j x) := fun k' j' => if_neg (fun q => absurd (show mx_oX < 55 by rw [q.2.1]; exact h) (by decide))
theorem mx_eqX_cp {σ : mx_S} {k o k1 o1 sp dp n : Nat} (h : o1 < 55) : mx_eqX σ (mx_cp σ k o k1 o1 sp dp n) := fun k' j' => if_neg (fun q => absurd (show mx_oX < 55 by rw [q.2]; exact h) (by decide))
theorem mx_eqX_rf {σ : mx_S} : mx_eqX σ σ := fun _ _ => rfl
set_option maxHeartbeats 4000000 in
/-- no instruction touches the script; no answer is a reference -/
theorem mx_stepX (i : mx_Op) (loc : mx_Loc) (stk : List mx_V) (σ : mx_S) : mx_step (fun _ _ τ => mx_eqX σ τ) (fun _ _ _ τ => mx_eqX σ τ) (fun v τ => mx_eqX σ τ ∧ ∀ w, v = some w → mx_okV w) (fun _ _ _ _ _ τ => mx_eqX σ τ) (fun _ _ τ => mx_eqX σ τ) True i loc stk σ := by
  obtain ⟨op, im, jm, a, b, ts⟩ := i
  rcases op with _ | _ | _ | _ | _ | _ | _ | _ | _ | _ | _ | _ | _ | _ | _ | _ | _ | _ | _ | _ | _ | _ | _ | _ | _ | _ | _ | _ | _ | _ | _ | _ | _ | _ | _ | _ | _ | _ | _ | _ | _ | _ | _ | _ | _ | _ | _ | _ | op
  · rw [mx_s0]
    (repeat' split) <;> first | exact mx_eqX_rf | trivial
  · rw [mx_s1]
    (repeat' split) <;> first | exact mx_eqX_rf | trivial
  · rw [mx_s2]
    (repeat' split) <;> first | exact mx_eqX_rf | trivial
  · rw [mx_s3]
    (repeat' split) <;> first | exact mx_eqX_rf | trivial
  · rw [mx_s4]
    (repeat' split) <;> first | exact mx_eqX_rf | trivial
  · rw [mx_s5]
    (repeat' split) <;> first | exact mx_eqX_rf | trivial
  · rw [mx_s6]
    (repeat' split) <;> first | exact mx_eqX_rf | trivial
  · rw [mx_s7]
    (repeat' split) <;> first | exact mx_eqX_rf | trivial
  · rw [mx_s8]
    unfold mx_bin
    (repeat' split) <;> first | exact mx_eqX_rf | trivial
  · rw [mx_s9]
    unfold mx_d mx_div
    (repeat' split) <;> first | exact mx_eqX_rf | trivial
  · rw [mx_s10]
    unfold mx_un
    (repeat' split) <;> first | exact mx_eqX_rf | trivial
  · rw [mx_s11]
    unfold mx_lb
    (repeat' split) <;> first | exact mx_eqX_rf | trivial
  · rw [mx_s12]
    unfold mx_lsh
    (repeat' split) <;> first | exact mx_eqX_rf | trivial
  · rw [mx_s13]
    (repeat' split) <;> first | exact mx_eqX_rf | trivial
  · rw [mx_s14]
    (repeat' split) <;> first | exact mx_eqX_rf | trivial
  · rw [mx_s15]
    (repeat' split) <;> first | exact mx_eqX_rf | trivial
  · rw [mx_s16]
    (repeat' split) <;> first | exact mx_eqX_rf | trivial
  · rw [mx_s17]
    (repeat' split) <;> first | exact mx_eqX_rf | trivial
  · rw [mx_s18]
    (repeat' split) <;> first | exact mx_eqX_rf | trivial
  · rw [mx_s19]
    unfold mx_if
    (repeat' split) <;> first | exact mx_eqX_rf | trivial
  · rw [mx_s20]
    unfold mx_if
    (repeat' split) <;> first | exact mx_eqX_rf | trivial
  · rw [mx_s21]
    (repeat' split) <;> first | exact mx_eqX_rf | trivial
  · rw [mx_s22]
    split
    · rename_i x r
      rw [mx_sw_map x (fun _ : Nat => mx_eqX σ σ) a b ts]
      exact mx_eqX_rf
    · trivial
  · rw [mx_s23]
    unfold mx_getf
    (repeat' split) <;> first | exact mx_eqX_rf | trivial
  · rw [mx_s24]
    unfold mx_putf mx_z mx_w
    split
    · split
      · rename_i hb
        have ho := mx_cO_lt (Nat.eq_of_beq_eq_true hb)
        (repeat' split) <;> first | exact mx_eqX_up ho | trivial
      · trivial
    · split
      · rename_i hb
        have ho := mx_cO_lt (Nat.eq_of_beq_eq_true hb)
        (repeat' split) <;> first | exact mx_eqX_up ho | trivial
      · trivial
    · trivial
  · rw [mx_s25]
    unfold mx_g
    (repeat' split) <;> first | exact mx_eqX_rf | trivial
  · rw [mx_s26]
    split
    · split
      · rename_i hb
        have ho := mx_aT_lt (Nat.eq_of_beq_eq_true hb)
        unfold mx_g mx_w
        split
        · trivial
        · exact mx_eqX_up ho
      · trivial
    · trivial
  · rw [mx_s27]
    unfold mx_g
    (repeat' split) <;> first | exact mx_eqX_rf | trivial
  · rw [mx_s28]
    split
    · split
      · rename_i hb
        have ho := mx_aT_lt (Nat.eq_of_beq_eq_true hb)
        unfold mx_g mx_w
        split
        · trivial
        · exact mx_eqX_up ho
      · trivial
    · trivial
  · rw [mx_s29]
    unfold mx_g
    (repeat' split) <;> first | exact mx_eqX_rf | trivial
  · rw [mx_s30]
    (repeat' split) <;> first | exact mx_eqX_rf | trivial
  · rw [mx_s31]
    (repeat' split) <;> first | exact mx_eqX_rf | trivial
  · rw [mx_s32]
    unfold mx_z
    (repeat' split) <;> first | trivial | exact ⟨mx_eqX_rf, fun w hw => by cases hw; trivial⟩
  · rw [mx_s33]
    (repeat' split) <;> first | trivial | exact ⟨mx_eqX_rf, fun w hw => by cases hw; trivial⟩
  · rw [mx_s34]
    (repeat' split) <;> first | trivial | exact ⟨mx_eqX_rf, fun w hw => by cases hw⟩
  · rw [mx_s35]
    (repeat' split) <;> first | exact mx_eqX_rf | trivial
  · rw [mx_s36]
    split
    · split
      · rename_i h1 h2
        have ho := mx_aT_lt (Nat.eq_of_beq_eq_true h2)
        split
        · unfold mx_c
          split
          · trivial
          · exact mx_eqX_cp ho
        · trivial
      · trivial
    · trivial
  · rw [mx_s37]
    (repeat' split) <;> first | exact mx_eqX_rf | trivial
  · rw [mx_s38]
    (repeat' split) <;> first | exact mx_eqX_rf | trivial
  · rw [mx_s39]
    (repeat' split) <;> first | exact mx_eqX_rf | trivial
  · rw [mx_s40]
    (repeat' split) <;> first | exact mx_eqX_rf | trivial
  · rw [mx_s41]
    unfold mx_g
    (repeat' split) <;> first | exact mx_eqX_rf | trivial
  · rw [mx_s42]
    (repeat' split) <;> first | exact mx_eqX_rf | trivial
  · rw [mx_s43]
    unfold mx_g
    (repeat' split) <;> first | exact mx_eqX_rf | trivial
  · rw [mx_s44]
    (repeat' split) <;> first | exact mx_eqX_rf | trivial
  · rw [mx_s45]
    (repeat' split) <;> first | exact mx_eqX_rf | trivial
  · rw [mx_s46]
    (repeat' split) <;> first | exact mx_eqX_rf | trivial
  · rw [mx_s47]
    (repeat' split) <;> first | exact mx_eqX_rf | trivial
  · trivial
theorem mx_elim_mp {kn kn' : mx_Loc → List mx_V → mx_S → Prop} {kj kj' : Nat → mx_Loc → List mx_V → mx_S → Prop} {kr kr' : Option mx_V → mx_S → Prop} {kc kc' : Nat → Nat → List mx_V → mx_Loc → List mx_V → mx_S → Prop} {kh kh' : Nat → mx_Loc → mx_S → Prop} {fl fl' : Prop} {q : mx_Act} (h : mx_elim kn kj kr kc kh fl q) (h1 : ∀ a b c, kn a b c → kn' a b c) (h2 : ∀ a b c d, kj a b c d → kj' a b c d) (h3 : ∀ a b, kr a b → kr' a b) (h4 : ∀ a b c d e f, kc a b c d e f → kc' a b c d e f) (h5 : ∀ a b c, kh a b c → kh' a b c) (h6 : fl → fl') : mx_elim kn' kj' kr' kc' kh' fl' q := by
  rcases q with _ | (⟨l', s', σ'⟩ | ⟨t, l', s', σ'⟩ | ⟨v, σ'⟩ | ⟨y, rk, as, l', s', σ'⟩ | ⟨h', l', σ'⟩)
  · exact h6 h
  · exact h1 _ _ _ h
  · exact h2 _ _ _ _ h
  · exact h3 _ _ h
  · exact h4 _ _ _ _ _ _ h
  · exact h5 _ _ _ h
def mx_gdX (σ : mx_S) (r : mx_Rt) : Prop := mx_eqX σ r.2 ∧ ∀ w, r.1 = some w → mx_okV w
theorem mx_gdX.tr {σ τ : mx_S} {r : mx_Rt} (h : mx_eqX σ τ) (q : mx_gdX τ r) : mx_gdX σ r := ⟨fun k j => (q.1 k j).trans (h k j), q.2⟩
theorem mx_runX {E : Nat → List mx_V → mx_S → Option mx_Rt} {P : List mx_Op} {K : Nat → mx_Loc → mx_S → Option mx_Rt} (hE : ∀ y as σ r, E y as σ = some r → mx_gdX σ r) (hK : ∀ h l σ r, K h l σ = some r → mx_gdX σ r) : ∀ n c l s σ r, mx_run E P K n c l s σ = some r → mx_gdX σ r := by
  intro n
  induction n with
  | zero => intro c l s σ r h; cases c <;> cases h
  | succ n ih =>
    intro c l s σ r h
    cases c with
    | nil => cases h
    | cons i c =>
      rw [mx_run_s] at h
      have hx := mx_stepX i l s σ
      rw [mx_fac] at hx
      generalize mx_act i l s σ = q at h hx
      rcases q with _ | (⟨l', s', σ'⟩ | ⟨t, l', s', σ'⟩ | ⟨v, σ'⟩ | ⟨y, rk, as, l', s', σ'⟩ | ⟨h', l', σ'⟩)
      · cases h
      · exact (ih _ _ _ _ _ h).tr hx
      · exact (ih _ _ _ _ _ h).tr hx
      · cases h; exact hx
      · refine mx_gdX.tr (τ := σ') hx ?_
        rcases rk with _ | _ | rk
        · obtain ⟨σ2, e, h⟩ := mx_bV_iff.mp h
          exact (ih _ _ _ _ _ h).tr (hE _ _ _ _ e).1
        · obtain ⟨x, σ2, e, h⟩ := mx_bI_iff.mp h
          exact (ih _ _ _ _ _ h).tr (hE _ _ _ _ e).1
        · obtain ⟨x, σ2, e, h⟩ := mx_bJ_iff.mp h
          exact (ih _ _ _ _ _ h).tr (hE _ _ _ _ e).1
      · exact (hK _ _ _ _ h).tr hx
theorem mx_LX {E : Nat → List mx_V → mx_S → Option mx_Rt} {P : List mx_Op} (hE : ∀ y as σ r, E y as σ = some r → mx_gdX σ r) : ∀ n h l σ r, mx_L E P n h l σ = some r → mx_gdX σ r := by
  intro n
  induction n with
  | zero => intro h l σ r q; cases q
  | succ n ih => intro h l σ r q; exact mx_runX hE ih _ _ _ _ _ _ q
theorem mx_sem_H (y : Nat) (as : List mx_V) (σ : mx_S) : mx_sem y as σ = mx_H y 0 (mx_ent (mx_nl y) as) σ := by
  unfold mx_H mx_sem
  rw [WellFounded.fix_eq]
  congr 1
theorem mx_semX : ∀ y as σ r, mx_sem y as σ = some r → mx_gdX σ r := by
  intro y
  induction y using Nat.strongRecOn with
  | _ y ih =>
    intro as σ r h
    rw [mx_sem_H] at h
    obtain ⟨n, h⟩ := (mx_LL_iff _ _ _ _ _ _).mp h
    refine mx_LX (fun y' as' σ' r' h' => ?_) n _ _ _ _ h
    unfold mx_E at h'
    split at h'
    · rename_i hy
      exact ih y' hy as' σ' r' h'
    · cases h'
section Rn
variable {p : Program} {l : Launch} {e : Env} {R : Room} {s : State} {m : MethodId} {args : Array Value} {below : List Frame} {meth : Method} {c : Code} {cells slots : Nat} {Q : State → Prop} {cc : ByteArray} {nL : Nat} {g : mx_G} {L : Nat} {xs : Nat → Int32} {Y : Nat}
theorem mx_run_sd {ow : Nat} (C : mx_Cx p R s m args c cells slots cc nL (mx_on ow) g L xs Y) {ret : Option FieldType} {tg : Nat → Nat} {P : List mx_Op} {ks : List (Nat × Nat × Nat)} (hchk : mx_chk ow cc nL ret tg 0 P ks = true) {r : mx_Rt} {E : Nat → List mx_V → mx_S → Option mx_Rt} {K : Nat → mx_Loc → mx_S → Option mx_Rt}
    (hKR : ∀ (pc : Nat) (v0 : Option mx_V) (σ' : mx_S) (H : Heap) (ls : Array Slot) (locs : List Loc), (v0, σ') = r → va_P g.2.1 vwCl (mx_ws g σ') H → va_S (mx_A g) s.heap H locs → mx_rt cc pc ret v0 → W p l e R s m args below meth c H locs cells slots Q (F0 m pc ls (v0.map (mx_rv g)).toList))
    (hE : ∀ y' as σ rr, E y' as σ = some rr → y' < Y ∧ mx_OK l y' as σ rr ∧ mx_gdX σ rr)
    (hK : ∀ h lo σ, K h lo σ = some r → mx_W p l e R s m args below meth c cells slots Q nL g L xs (tg (h + 1)) lo [] σ) : ∀ n j loc stk σ, mx_run E P K n (P.drop j) loc stk σ = some r → mx_W p l e R s m args below meth c cells slots Q nL g L xs (tg j) loc stk σ := by
  intro n
  induction n with
  | zero => intro j loc stk σ h; cases hd : P.drop j <;> rw [hd] at h <;> cases h
  | succ n ih =>
    intro j loc stk σ h
    cases hd : P.drop j with
    | nil => rw [hd] at h; cases h
    | cons i c' =>
      obtain ⟨q, v, w, hok, hc'⟩ := mx_chk_at hchk hd
      rw [Nat.zero_add] at hok
      rw [hd, mx_run_s] at h
      subst hc'
      refine sd_step C hok (KR := fun v σ' => (v, σ') = r) (hKR (tg j)) ?_
      rw [mx_fac]
      generalize mx_act i loc stk σ = q at h ⊢
      rcases q with _ | (⟨l', s', σ'⟩ | ⟨t, l', s', σ'⟩ | ⟨v, σ'⟩ | ⟨y, rk, as, l', s', σ'⟩ | ⟨h', l', σ'⟩)
      · cases h
      · exact ih _ _ _ _ h
      · exact ih _ _ _ _ h
      · exact Option.some.inj h
      · rcases rk with _ | _ | rk
        · obtain ⟨σ2, e1, h⟩ := mx_bV_iff.mp h
          obtain ⟨h1, h2, h3⟩ := hE _ _ _ _ e1
          exact ⟨(none, σ2), h1, h2, h3.1, h3.2, ih _ _ _ _ h⟩
        · obtain ⟨x, σ2, e1, h⟩ := mx_bI_iff.mp h
          obtain ⟨h1, h2, h3⟩ := hE _ _ _ _ e1
          exact ⟨(some (Sum.inl x), σ2), h1, h2, h3.1, h3.2, ih _ _ _ _ h⟩
        · obtain ⟨x, σ2, e1, h⟩ := mx_bJ_iff.mp h
          obtain ⟨h1, h2, h3⟩ := hE _ _ _ _ e1
          exact ⟨(some (Sum.inr (Sum.inl x)), σ2), h1, h2, h3.1, h3.2, ih _ _ _ _ h⟩
      · exact hK _ _ _ h
theorem mx_L_sd {ow : Nat} (C : mx_Cx p R s m args c cells slots cc nL (mx_on ow) g L xs Y) {ret : Option FieldType} {tg : Nat → Nat} {P : List mx_Op} {ks : List (Nat × Nat × Nat)} (hchk : mx_chk ow cc nL ret tg 0 P ks = true) {r : mx_Rt} {E : Nat → List mx_V → mx_S → Option mx_Rt}
    (hKR : ∀ (pc : Nat) (v0 : Option mx_V) (σ' : mx_S) (H : Heap) (ls : Array Slot) (locs : List Loc), (v0, σ') = r → va_P g.2.1 vwCl (mx_ws g σ') H → va_S (mx_A g) s.heap H locs → mx_rt cc pc ret v0 → W p l e R s m args below meth c H locs cells slots Q (F0 m pc ls (v0.map (mx_rv g)).toList))
    (hE : ∀ y' as σ rr, E y' as σ = some rr → y' < Y ∧ mx_OK l y' as σ rr ∧ mx_gdX σ rr) : ∀ n h loc σ, mx_L E P n h loc σ = some r → mx_W p l e R s m args below meth c cells slots Q nL g L xs (tg (h + 1)) loc [] σ := by
  intro n
  induction n with
  | zero => intro h loc σ q; cases q
  | succ n ih => intro h loc σ q; exact mx_run_sd C hchk hKR hE ih 2000 (h + 1) loc [] σ q
end Rn
/-! the entry -/
theorem mx_wd_sl {g : mx_G} (hq : g.2.2.2.category = 1) : ∀ as : List mx_V, (lg_sl (as.map (mx_rv g))).length = mx_wd as
  | [] => rfl
  | Sum.inl x :: as => by
    have := mx_wd_sl hq as
    show (lg_sl (Value.int x :: as.map (mx_rv g))).length = mx_wd as + 1
    simp only [lg_sl, List.flatMap_cons, List.length_append] at this ⊢
    rw [this]
    simp [Value.category]; omega
  | Sum.inr (Sum.inl x) :: as => by
    have := mx_wd_sl hq as
    show (lg_sl (Value.long x :: as.map (mx_rv g))).length = mx_wd as + 2
    simp only [lg_sl, List.flatMap_cons, List.length_append] at this ⊢
    rw [this]
    simp [Value.category]; omega
  | Sum.inr (Sum.inr x) :: as => by
    have := mx_wd_sl hq as
    have hc := mx_cat1 (g := g) (v := Sum.inr (Sum.inr x)) hq (fun z => z)
    show (lg_sl (mx_rv g (Sum.inr (Sum.inr x)) :: as.map (mx_rv g))).length = mx_wd as + 1
    simp only [lg_sl, List.flatMap_cons, List.length_append] at this ⊢
    rw [this, if_neg (by omega)]
    simp; omega
theorem mx_ent_nil : ∀ (n i : Nat) (v : mx_V), mx_lo (mx_ent n []) i ≠ some v
  | 0, _, _ => fun h => by cases h
  | n + 1, 0, _ => fun h => by cases h
  | n + 1, i + 1, v => mx_ent_nil n i v
theorem mx_ent_at {g : mx_G} (hq : g.2.2.2.category = 1) : ∀ (as : List mx_V) (n off i : Nat) (v : mx_V), mx_lo (mx_ent n as) i = some v → (off + i, mx_rv g v) ∈ lv_args off (as.map (mx_rv g))
  | [], n, off, i, v, h => absurd h (mx_ent_nil n i v)
  | a :: as, 0, off, i, v, h => by cases h
  | a :: as, 1, off, i, v, h => by
    have h2 : mx_lo [some a] i = some v := by
      rcases a with x | x | x <;> exact h
    cases i with
    | zero => cases h2; exact List.mem_cons_self
    | succ i => cases h2
  | Sum.inr (Sum.inl x) :: as, n + 2, off, 0, v, h => by
    cases h
    exact List.mem_cons_self
  | Sum.inr (Sum.inl x) :: as, n + 2, off, 1, v, h => by cases h
  | Sum.inr (Sum.inl x) :: as, n + 2, off, i + 2, v, h => by
    have h2 := mx_ent_at hq as n (off + 2) i v h
    have e : off + (i + 2) = off + 2 + i := by omega
    rw [e]
    exact List.mem_cons_of_mem _ h2
  | Sum.inl x :: as, n + 2, off, 0, v, h => by
    cases h
    exact List.mem_cons_self
  | Sum.inl x :: as, n + 2, off, i + 1, v, h => by
    have h2 := mx_ent_at hq as (n + 1) (off + 1) i v h
    have e : off + (i + 1) = off + 1 + i := by omega
    rw [e]
    exact List.mem_cons_of_mem _ h2
  | Sum.inr (Sum.inr x) :: as, n + 2, off, 0, v, h => by
    cases h
    exact List.mem_cons_self
  | Sum.inr (Sum.inr x) :: as, n + 2, off, i + 1, v, h => by
    have h2 := mx_ent_at hq as (n + 1) (off + 1) i v h
    have e : off + (i + 1) = off + 1 + i := by omega
    have hc := mx_cat1 (g := g) (v := Sum.inr (Sum.inr x)) hq (fun z => z)
    rw [e]
    refine List.mem_cons_of_mem _ ?_
    rw [if_neg (by omega)]
    exact h2
theorem mx_ent_ok : ∀ (as : List mx_V) (n i : Nat) (v : mx_V), mx_lo (mx_ent n as) i = some v → v ∈ as
  | [], n, i, v, h => absurd h (mx_ent_nil n i v)
  | a :: as, 0, i, v, h => by cases h
  | a :: as, 1, i, v, h => by
    have h2 : mx_lo [some a] i = some v := by
      rcases a with x | x | x <;> exact h
    cases i with
    | zero => cases h2; exact List.mem_cons_self
    | succ i => cases h2
  | Sum.inr (Sum.inl x) :: as, n + 2, 0, v, h => by cases h; exact List.mem_cons_self
  | Sum.inr (Sum.inl x) :: as, n + 2, 1, v, h => by cases h
  | Sum.inr (Sum.inl x) :: as, n + 2, i + 2, v, h => List.mem_cons_of_mem _ (mx_ent_ok as n i v h)
  | Sum.inl x :: as, n + 2, 0, v, h => by cases h; exact List.mem_cons_self
  | Sum.inl x :: as, n + 2, i + 1, v, h => List.mem_cons_of_mem _ (mx_ent_ok as (n + 1) i v h)
  | Sum.inr (Sum.inr x) :: as, n + 2, 0, v, h => by cases h; exact List.mem_cons_self
  | Sum.inr (Sum.inr x) :: as, n + 2, i + 1, v, h => List.mem_cons_of_mem _ (mx_ent_ok as (n + 1) i v h)
/-- a method's table is checked -/
def mx_tok (y : Nat) : Prop := ∃ (ow : Nat) (tg : Nat → Nat) (ks : List (Nat × Nat × Nat)), mx_chk ow (mx_mC y) (mx_nl y) (mx_mR y) tg 0 (mx_pr y) ks = true ∧ mx_on ow = (mx_mN y).cls ∧ tg 1 = 0 ∧ plainName (mx_mN y).cls = true ∧ mx_nl y ≤ 40
theorem mx_sound (l : Launch) (hT : ∀ y, y < 191 → mx_tok y) : ∀ y, y < 191 → ∀ as σ r, mx_sem y as σ = some r → mx_OK l y as σ r := by
  intro y
  induction y using Nat.strongRecOn with
  | _ y ih =>
    intro hy as σ r h
    obtain ⟨ow, tg, ks, hchk, hon, htg, hpl, hnl⟩ := hT y hy
    intro g L xs hinj hq hL hs hwd hc
    refine Met.ofW (cc := mx_mC y) (maxL := mx_nl y) (ret := mx_mR y) hpl rfl ?_
    intro p e s m args below meth c s₁ B hml hv
    obtain ⟨rfl, hP, hF⟩ := hv
    have hts : ∀ w ∈ lw_gd, w.before (as.map (mx_rv g)).toArray s = true := fun w hw => atoms_spec (ws := mx_wy y) B.pre w (List.mem_cons_of_mem _ hw)
    have hown : s.vm.findClass (mx_on ow) = some m.cls := by rw [hon]; exact findClass_of_methodNamed B.named
    have hlocks := B.notSynchronized
    have C : mx_Cx p (headSpec (mx_wy y) (mx_rm y)).room s m (as.map (mx_rv g)).toArray c 0 0 (mx_mC y) (mx_nl y) (mx_on ow) g L xs y := by
      refine ⟨B.exec, B.bytes, hml, hown, hts, hF, hinj, hq, ⟨Nat.le_refl 0, Nat.le_refl 0⟩, hL, ⟨show 1 ≤ y + 2 by omega, show 100 ≤ 100 * (y + 2) by omega⟩, fun y' h' => ⟨show y' + 3 ≤ y + 2 by omega, show 8 + (mx_nl y' + 11) + 100 * (y' + 2) ≤ 100 * (y + 2) from ?_⟩⟩
      obtain ⟨-, -, -, -, -, -, -, h40⟩ := hT y' (by omega)
      omega
    rw [mx_sem_H] at h
    obtain ⟨n, h⟩ := (mx_LL_iff _ _ _ _ _ _).mp h
    have k := mx_L_sd (l := l) (e := e) (below := below) (meth := meth) (Q := MQ below (mx_Q g r) (as.map (mx_rv g)).toArray s 0 0 (mx_A g)) C hchk (r := r) (E := mx_E y) (fun pc v0 σ' H ls locs hr hP hS hrt => ?_) (fun y' as' σ' rr h' => ?_) n 0 _ _ h
    · rw [show 0 + 1 = 1 from rfl, htg] at k
      have hl := lv_entry (as.map (mx_rv g)) (n := mx_nl y) (by rw [mx_wd_sl hq]; exact hwd)
      rw [lg_entry_eq]
      generalize (lg_sl (as.map (mx_rv g)) ++ List.replicate (mx_nl y - (lg_sl (as.map (mx_rv g))).length) Slot.unset).toArray = ls at hl ⊢
      refine k s.heap ls [] hP va_S.rf ⟨hl.1, hl.2.1, fun i v hi => ?_⟩ (fun v hv => absurd hv List.not_mem_nil) (fun i v hi => hs v (mx_ent_ok as _ i v hi)) hc
      have := hl.2.2 _ (mx_ent_at hq as (mx_nl y) 0 i v hi)
      rw [Nat.zero_add] at this
      exact this
    · subst hr
      rcases v0 with _ | (x | x | x)
      · exact W.vret B.exec B.bytes (B.returns.trans hrt.2) (fun t ht hW => ⟨rfl, by rw [ht]; exact hP, hS.F ht⟩) hS.2.2 hrt.1
      · obtain ⟨hd, ty, h1, h2⟩ := hrt
        exact W.zret B.exec B.bytes (B.returns.trans h1) h2 (fun t ht hW => ⟨rfl, by rw [ht]; exact hP, hS.F ht⟩) hS.2.2 hd
      · exact W.lret B.exec B.bytes (B.returns.trans hrt.2) (fun t ht hW => ⟨rfl, by rw [ht]; exact hP, hS.F ht⟩) hS.2.2 hrt.1
      · exact hrt.elim
    · unfold mx_E at h'
      split at h'
      · rename_i hy'
        exact ⟨hy', ih y' hy' (by omega) as' σ' rr h', mx_semX y' as' σ' rr h'⟩
      · cases h'
end
section
theorem mx_tk0 : mx_tok 0 := ⟨0, mx_nth mx_c0, mx_k0, mx_t0, by decide +kernel, by decide +kernel, by decide +kernel, by decide +kernel⟩
theorem mx_tk1 : mx_tok 1 := ⟨0, mx_nth mx_c1, mx_k1, mx_t1, by decide +kernel, by decide +kernel, by decide +kernel, by decide +kernel⟩
theorem mx_tk2 : mx_tok 2 := ⟨1, mx_nth mx_c2, mx_k2, mx_t2, by decide +kernel, by decide +kernel, by decide +kernel, by decide +kernel⟩
theorem mx_tk3 : mx_tok 3 := ⟨0, mx_nth mx_c3, mx_k3, mx_t3, by decide +kernel, by decide +kernel, by decide +kernel, by decide +kernel⟩
theorem mx_tk4 : mx_tok 4 := ⟨0, mx_nth mx_c4, mx_k4, mx_t4, by decide +kernel, by decide +kernel, by decide +kernel, by decide +kernel⟩
theorem mx_tk5 : mx_tok 5 := ⟨0, mx_nth mx_c5, mx_k5, mx_t5, by decide +kernel, by decide +kernel, by decide +kernel, by decide +kernel⟩
theorem mx_tk6 : mx_tok 6 := ⟨0, mx_nth mx_c6, mx_k6, mx_t6, by decide +kernel, by decide +kernel, by decide +kernel, by decide +kernel⟩
theorem mx_tk7 : mx_tok 7 := ⟨0, mx_nth mx_c7, mx_k7, mx_t7, by decide +kernel, by decide +kernel, by decide +kernel, by decide +kernel⟩
theorem mx_tk8 : mx_tok 8 := ⟨0, mx_nth mx_c8, mx_k8, mx_t8, by decide +kernel, by decide +kernel, by decide +kernel, by decide +kernel⟩
theorem mx_tk9 : mx_tok 9 := ⟨0, mx_nth mx_c9, mx_k9, mx_t9, by decide +kernel, by decide +kernel, by decide +kernel, by decide +kernel⟩
theorem mx_tk10 : mx_tok 10 := ⟨0, mx_nth mx_c10, mx_k10, mx_t10, by decide +kernel, by decide +kernel, by decide +kernel, by decide +kernel⟩
theorem mx_tk11 : mx_tok 11 := ⟨0, mx_nth mx_c11, mx_k11, mx_t11, by decide +kernel, by decide +kernel, by decide +kernel, by decide +kernel⟩
theorem mx_tk12 : mx_tok 12 := ⟨0, mx_nth mx_c12, mx_k12, mx_t12, by decide +kernel, by decide +kernel, by decide +kernel, by decide +kernel⟩
theorem mx_tk13 : mx_tok 13 := ⟨0, mx_nth mx_c13, mx_k13, mx_t13, by decide +kernel, by decide +kernel, by decide +kernel, by decide +kernel⟩
theorem mx_tk14 : mx_tok 14 := ⟨0, mx_nth mx_c14, mx_k14, mx_t14, by decide +kernel, by decide +kernel, by decide +kernel, by decide +kernel⟩
theorem mx_tk15 : mx_tok 15 := ⟨12, mx_nth mx_c15, mx_k15, mx_t15, by decide +kernel, by decide +kernel, by decide +kernel, by decide +kernel⟩
theorem mx_tk16 : mx_tok 16 := ⟨1, mx_nth mx_c16, mx_k16, mx_t16, by decide +kernel, by decide +kernel, by decide +kernel, by decide +kernel⟩
theorem mx_tk17 : mx_tok 17 := ⟨1, mx_nth mx_c17, mx_k17, mx_t17, by decide +kernel, by decide +kernel, by decide +kernel, by decide +kernel⟩
theorem mx_tk18 : mx_tok 18 := ⟨13, mx_nth mx_c18, mx_k18, mx_t18, by decide +kernel, by decide +kernel, by decide +kernel, by decide +kernel⟩
theorem mx_tk19 : mx_tok 19 := ⟨1, mx_nth mx_c19, mx_k19, mx_t19, by decide +kernel, by decide +kernel, by decide +kernel, by decide +kernel⟩
theorem mx_tk20 : mx_tok 20 := ⟨1, mx_nth mx_c20, mx_k20, mx_t20, by decide +kernel, by decide +kernel, by decide +kernel, by decide +kernel⟩
theorem mx_tk21 : mx_tok 21 := ⟨7, mx_nth mx_c21, mx_k21, mx_t21, by decide +kernel, by decide +kernel, by decide +kernel, by decide +kernel⟩
theorem mx_tk22 : mx_tok 22 := ⟨1, mx_nth mx_c22, mx_k22, mx_t22, by decide +kernel, by decide +kernel, by decide +kernel, by decide +kernel⟩
theorem mx_tk23 : mx_tok 23 := ⟨1, mx_nth mx_c23, mx_k23, mx_t23, by decide +kernel, by decide +kernel, by decide +kernel, by decide +kernel⟩
theorem mx_tk24 : mx_tok 24 := ⟨1, mx_nth mx_c24, mx_k24, mx_t24, by decide +kernel, by decide +kernel, by decide +kernel, by decide +kernel⟩
theorem mx_tk25 : mx_tok 25 := ⟨1, mx_nth mx_c25, mx_k25, mx_t25, by decide +kernel, by decide +kernel, by decide +kernel, by decide +kernel⟩
theorem mx_tk26 : mx_tok 26 := ⟨1, mx_nth mx_c26, mx_k26, mx_t26, by decide +kernel, by decide +kernel, by decide +kernel, by decide +kernel⟩
theorem mx_tk27 : mx_tok 27 := ⟨1, mx_nth mx_c27, mx_k27, mx_t27, by decide +kernel, by decide +kernel, by decide +kernel, by decide +kernel⟩
theorem mx_tk28 : mx_tok 28 := ⟨1, mx_nth mx_c28, mx_k28, mx_t28, by decide +kernel, by decide +kernel, by decide +kernel, by decide +kernel⟩
theorem mx_tk29 : mx_tok 29 := ⟨1, mx_nth mx_c29, mx_k29, mx_t29, by decide +kernel, by decide +kernel, by decide +kernel, by decide +kernel⟩
theorem mx_tk30 : mx_tok 30 := ⟨1, mx_nth mx_c30, mx_k30, mx_t30, by decide +kernel, by decide +kernel, by decide +kernel, by decide +kernel⟩
theorem mx_tk31 : mx_tok 31 := ⟨2, mx_nth mx_c31, mx_k31, mx_t31, by decide +kernel, by decide +kernel, by decide +kernel, by decide +kernel⟩
theorem mx_tk32 : mx_tok 32 := ⟨3, mx_nth mx_c32, mx_k32, mx_t32, by decide +kernel, by decide +kernel, by decide +kernel, by decide +kernel⟩
theorem mx_tk33 : mx_tok 33 := ⟨6, mx_nth mx_c33, mx_k33, mx_t33, by decide +kernel, by decide +kernel, by decide +kernel, by decide +kernel⟩
theorem mx_tk34 : mx_tok 34 := ⟨2, mx_nth mx_c34, mx_k34, mx_t34, by decide +kernel, by decide +kernel, by decide +kernel, by decide +kernel⟩
theorem mx_tk35 : mx_tok 35 := ⟨2, mx_nth mx_c35, mx_k35, mx_t35, by decide +kernel, by decide +kernel, by decide +kernel, by decide +kernel⟩
theorem mx_tk36 : mx_tok 36 := ⟨9, mx_nth mx_c36, mx_k36, mx_t36, by decide +kernel, by decide +kernel, by decide +kernel, by decide +kernel⟩
theorem mx_tk37 : mx_tok 37 := ⟨11, mx_nth mx_c37, mx_k37, mx_t37, by decide +kernel, by decide +kernel, by decide +kernel, by decide +kernel⟩
theorem mx_tk38 : mx_tok 38 := ⟨9, mx_nth mx_c38, mx_k38, mx_t38, by decide +kernel, by decide +kernel, by decide +kernel, by decide +kernel⟩
theorem mx_tk39 : mx_tok 39 := ⟨10, mx_nth mx_c39, mx_k39, mx_t39, by decide +kernel, by decide +kernel, by decide +kernel, by decide +kernel⟩
theorem mx_tk40 : mx_tok 40 := ⟨9, mx_nth mx_c40, mx_k40, mx_t40, by decide +kernel, by decide +kernel, by decide +kernel, by decide +kernel⟩
theorem mx_tk41 : mx_tok 41 := ⟨9, mx_nth mx_c41, mx_k41, mx_t41, by decide +kernel, by decide +kernel, by decide +kernel, by decide +kernel⟩
theorem mx_tk42 : mx_tok 42 := ⟨9, mx_nth mx_c42, mx_k42, mx_t42, by decide +kernel, by decide +kernel, by decide +kernel, by decide +kernel⟩
theorem mx_tk43 : mx_tok 43 := ⟨3, mx_nth mx_c43, mx_k43, mx_t43, by decide +kernel, by decide +kernel, by decide +kernel, by decide +kernel⟩
theorem mx_tk44 : mx_tok 44 := ⟨3, mx_nth mx_c44, mx_k44, mx_t44, by decide +kernel, by decide +kernel, by decide +kernel, by decide +kernel⟩
theorem mx_tk45 : mx_tok 45 := ⟨3, mx_nth mx_c45, mx_k45, mx_t45, by decide +kernel, by decide +kernel, by decide +kernel, by decide +kernel⟩
theorem mx_tk46 : mx_tok 46 := ⟨3, mx_nth mx_c46, mx_k46, mx_t46, by decide +kernel, by decide +kernel, by decide +kernel, by decide +kernel⟩
theorem mx_tk47 : mx_tok 47 := ⟨3, mx_nth mx_c47, mx_k47, mx_t47, by decide +kernel, by decide +kernel, by decide +kernel, by decide +kernel⟩
theorem mx_tk48 : mx_tok 48 := ⟨7, mx_nth mx_c48, mx_k48, mx_t48, by decide +kernel, by decide +kernel, by decide +kernel, by decide +kernel⟩
theorem mx_tk49 : mx_tok 49 := ⟨4, mx_nth mx_c49, mx_k49, mx_t49, by decide +kernel, by decide +kernel, by decide +kernel, by decide +kernel⟩
theorem mx_tk50 : mx_tok 50 := ⟨4, mx_nth mx_c50, mx_k50, mx_t50, by decide +kernel, by decide +kernel, by decide +kernel, by decide +kernel⟩
theorem mx_tk51 : mx_tok 51 := ⟨4, mx_nth mx_c51, mx_k51, mx_t51, by decide +kernel, by decide +kernel, by decide +kernel, by decide +kernel⟩
theorem mx_tk52 : mx_tok 52 := ⟨4, mx_nth mx_c52, mx_k52, mx_t52, by decide +kernel, by decide +kernel, by decide +kernel, by decide +kernel⟩
theorem mx_tk53 : mx_tok 53 := ⟨4, mx_nth mx_c53, mx_k53, mx_t53, by decide +kernel, by decide +kernel, by decide +kernel, by decide +kernel⟩
theorem mx_tk54 : mx_tok 54 := ⟨4, mx_nth mx_c54, mx_k54, mx_t54, by decide +kernel, by decide +kernel, by decide +kernel, by decide +kernel⟩
theorem mx_tk55 : mx_tok 55 := ⟨4, mx_nth mx_c55, mx_k55, mx_t55, by decide +kernel, by decide +kernel, by decide +kernel, by decide +kernel⟩
theorem mx_tk56 : mx_tok 56 := ⟨4, mx_nth mx_c56, mx_k56, mx_t56, by decide +kernel, by decide +kernel, by decide +kernel, by decide +kernel⟩
theorem mx_tk57 : mx_tok 57 := ⟨4, mx_nth mx_c57, mx_k57, mx_t57, by decide +kernel, by decide +kernel, by decide +kernel, by decide +kernel⟩
theorem mx_tk58 : mx_tok 58 := ⟨4, mx_nth mx_c58, mx_k58, mx_t58, by decide +kernel, by decide +kernel, by decide +kernel, by decide +kernel⟩
theorem mx_tk59 : mx_tok 59 := ⟨4, mx_nth mx_c59, mx_k59, mx_t59, by decide +kernel, by decide +kernel, by decide +kernel, by decide +kernel⟩
theorem mx_tk60 : mx_tok 60 := ⟨4, mx_nth mx_c60, mx_k60, mx_t60, by decide +kernel, by decide +kernel, by decide +kernel, by decide +kernel⟩
theorem mx_tk61 : mx_tok 61 := ⟨4, mx_nth mx_c61, mx_k61, mx_t61, by decide +kernel, by decide +kernel, by decide +kernel, by decide +kernel⟩
theorem mx_tk62 : mx_tok 62 := ⟨4, mx_nth mx_c62, mx_k62, mx_t62, by decide +kernel, by decide +kernel, by decide +kernel, by decide +kernel⟩
theorem mx_tk63 : mx_tok 63 := ⟨4, mx_nth mx_c63, mx_k63, mx_t63, by decide +kernel, by decide +kernel, by decide +kernel, by decide +kernel⟩
theorem mx_tk64 : mx_tok 64 := ⟨6, mx_nth mx_c64, mx_k64, mx_t64, by decide +kernel, by decide +kernel, by decide +kernel, by decide +kernel⟩
theorem mx_tk65 : mx_tok 65 := ⟨6, mx_nth mx_c65, mx_k65, mx_t65, by decide +kernel, by decide +kernel, by decide +kernel, by decide +kernel⟩
theorem mx_tk66 : mx_tok 66 := ⟨6, mx_nth mx_c66, mx_k66, mx_t66, by decide +kernel, by decide +kernel, by decide +kernel, by decide +kernel⟩
theorem mx_tk67 : mx_tok 67 := ⟨7, mx_nth mx_c67, mx_k67, mx_t67, by decide +kernel, by decide +kernel, by decide +kernel, by decide +kernel⟩
theorem mx_tk68 : mx_tok 68 := ⟨7, mx_nth mx_c68, mx_k68, mx_t68, by decide +kernel, by decide +kernel, by decide +kernel, by decide +kernel⟩
theorem mx_tk69 : mx_tok 69 := ⟨7, mx_nth mx_c69, mx_k69, mx_t69, by decide +kernel, by decide +kernel, by decide +kernel, by decide +kernel⟩
theorem mx_tk70 : mx_tok 70 := ⟨7, mx_nth mx_c70, mx_k70, mx_t70, by decide +kernel, by decide +kernel, by decide +kernel, by decide +kernel⟩
theorem mx_tk71 : mx_tok 71 := ⟨7, mx_nth mx_c71, mx_k71, mx_t71, by decide +kernel, by decide +kernel, by decide +kernel, by decide +kernel⟩
theorem mx_tk72 : mx_tok 72 := ⟨7, mx_nth mx_c72, mx_k72, mx_t72, by decide +kernel, by decide +kernel, by decide +kernel, by decide +kernel⟩
theorem mx_tk73 : mx_tok 73 := ⟨7, mx_nth mx_c73, mx_k73, mx_t73, by decide +kernel, by decide +kernel, by decide +kernel, by decide +kernel⟩
theorem mx_tk74 : mx_tok 74 := ⟨7, mx_nth mx_c74, mx_k74, mx_t74, by decide +kernel, by decide +kernel, by decide +kernel, by decide +kernel⟩
theorem mx_tk75 : mx_tok 75 := ⟨7, mx_nth mx_c75, mx_k75, mx_t75, by decide +kernel, by decide +kernel, by decide +kernel, by decide +kernel⟩
theorem mx_tk76 : mx_tok 76 := ⟨7, mx_nth mx_c76, mx_k76, mx_t76, by decide +kernel, by decide +kernel, by decide +kernel, by decide +kernel⟩
theorem mx_tk77 : mx_tok 77 := ⟨5, mx_nth mx_c77, mx_k77, mx_t77, by decide +kernel, by decide +kernel, by decide +kernel, by decide +kernel⟩
theorem mx_tk78 : mx_tok 78 := ⟨7, mx_nth mx_c78, mx_k78, mx_t78, by decide +kernel, by decide +kernel, by decide +kernel, by decide +kernel⟩
theorem mx_tk79 : mx_tok 79 := ⟨7, mx_nth mx_c79, mx_k79, mx_t79, by decide +kernel, by decide +kernel, by decide +kernel, by decide +kernel⟩
theorem mx_tk80 : mx_tok 80 := ⟨7, mx_nth mx_c80, mx_k80, mx_t80, by decide +kernel, by decide +kernel, by decide +kernel, by decide +kernel⟩
theorem mx_tk81 : mx_tok 81 := ⟨7, mx_nth mx_c81, mx_k81, mx_t81, by decide +kernel, by decide +kernel, by decide +kernel, by decide +kernel⟩
theorem mx_tk82 : mx_tok 82 := ⟨7, mx_nth mx_c82, mx_k82, mx_t82, by decide +kernel, by decide +kernel, by decide +kernel, by decide +kernel⟩
theorem mx_tk83 : mx_tok 83 := ⟨7, mx_nth mx_c83, mx_k83, mx_t83, by decide +kernel, by decide +kernel, by decide +kernel, by decide +kernel⟩
theorem mx_tk84 : mx_tok 84 := ⟨7, mx_nth mx_c84, mx_k84, mx_t84, by decide +kernel, by decide +kernel, by decide +kernel, by decide +kernel⟩
theorem mx_tk85 : mx_tok 85 := ⟨7, mx_nth mx_c85, mx_k85, mx_t85, by decide +kernel, by decide +kernel, by decide +kernel, by decide +kernel⟩
theorem mx_tk86 : mx_tok 86 := ⟨7, mx_nth mx_c86, mx_k86, mx_t86, by decide +kernel, by decide +kernel, by decide +kernel, by decide +kernel⟩
theorem mx_tk87 : mx_tok 87 := ⟨7, mx_nth mx_c87, mx_k87, mx_t87, by decide +kernel, by decide +kernel, by decide +kernel, by decide +kernel⟩
theorem mx_tk88 : mx_tok 88 := ⟨7, mx_nth mx_c88, mx_k88, mx_t88, by decide +kernel, by decide +kernel, by decide +kernel, by decide +kernel⟩
theorem mx_tk89 : mx_tok 89 := ⟨7, mx_nth mx_c89, mx_k89, mx_t89, by decide +kernel, by decide +kernel, by decide +kernel, by decide +kernel⟩
theorem mx_tk90 : mx_tok 90 := ⟨7, mx_nth mx_c90, mx_k90, mx_t90, by decide +kernel, by decide +kernel, by decide +kernel, by decide +kernel⟩
theorem mx_tk91 : mx_tok 91 := ⟨7, mx_nth mx_c91, mx_k91, mx_t91, by decide +kernel, by decide +kernel, by decide +kernel, by decide +kernel⟩
theorem mx_tk92 : mx_tok 92 := ⟨7, mx_nth mx_c92, mx_k92, mx_t92, by decide +kernel, by decide +kernel, by decide +kernel, by decide +kernel⟩
theorem mx_tk93 : mx_tok 93 := ⟨7, mx_nth mx_c93, mx_k93, mx_t93, by decide +kernel, by decide +kernel, by decide +kernel, by decide +kernel⟩
theorem mx_tk94 : mx_tok 94 := ⟨7, mx_nth mx_c94, mx_k94, mx_t94, by decide +kernel, by decide +kernel, by decide +kernel, by decide +kernel⟩
theorem mx_tk95 : mx_tok 95 := ⟨7, mx_nth mx_c95, mx_k95, mx_t95, by decide +kernel, by decide +kernel, by decide +kernel, by decide +kernel⟩
theorem mx_tk96 : mx_tok 96 := ⟨7, mx_nth mx_c96, mx_k96, mx_t96, by decide +kernel, by decide +kernel, by decide +kernel, by decide +kernel⟩
theorem mx_tk97 : mx_tok 97 := ⟨7, mx_nth mx_c97, mx_k97, mx_t97, by decide +kernel, by decide +kernel, by decide +kernel, by decide +kernel⟩
theorem mx_tk98 : mx_tok 98 := ⟨7, mx_nth mx_c98, mx_k98, mx_t98, by decide +kernel, by decide +kernel, by decide +kernel, by decide +kernel⟩
theorem mx_tk99 : mx_tok 99 := ⟨7, mx_nth mx_c99, mx_k99, mx_t99, by decide +kernel, by decide +kernel, by decide +kernel, by decide +kernel⟩
theorem mx_tk100 : mx_tok 100 := ⟨5, mx_nth mx_c100, mx_k100, mx_t100, by decide +kernel, by decide +kernel, by decide +kernel, by decide +kernel⟩
theorem mx_tk101 : mx_tok 101 := ⟨7, mx_nth mx_c101, mx_k101, mx_t101, by decide +kernel, by decide +kernel, by decide +kernel, by decide +kernel⟩
theorem mx_tk102 : mx_tok 102 := ⟨7, mx_nth mx_c102, mx_k102, mx_t102, by decide +kernel, by decide +kernel, by decide +kernel, by decide +kernel⟩
theorem mx_tk103 : mx_tok 103 := ⟨7, mx_nth mx_c103, mx_k103, mx_t103, by decide +kernel, by decide +kernel, by decide +kernel, by decide +kernel⟩
theorem mx_tk104 : mx_tok 104 := ⟨5, mx_nth mx_c104, mx_k104, mx_t104, by decide +kernel, by decide +kernel, by decide +kernel, by decide +kernel⟩
theorem mx_tk105 : mx_tok 105 := ⟨7, mx_nth mx_c105, mx_k105, mx_t105, by decide +kernel, by decide +kernel, by decide +kernel, by decide +kernel⟩
theorem mx_tk106 : mx_tok 106 := ⟨7, mx_nth mx_c106, mx_k106, mx_t106, by decide +kernel, by decide +kernel, by decide +kernel, by decide +kernel⟩
theorem mx_tk107 : mx_tok 107 := ⟨7, mx_nth mx_c107, mx_k107, mx_t107, by decide +kernel, by decide +kernel, by decide +kernel, by decide +kernel⟩
theorem mx_tk108 : mx_tok 108 := ⟨7, mx_nth mx_c108, mx_k108, mx_t108, by decide +kernel, by decide +kernel, by decide +kernel, by decide +kernel⟩
theorem mx_tk109 : mx_tok 109 := ⟨7, mx_nth mx_c109, mx_k109, mx_t109, by decide +kernel, by decide +kernel, by decide +kernel, by decide +kernel⟩
theorem mx_tk110 : mx_tok 110 := ⟨8, mx_nth mx_c110, mx_k110, mx_t110, by decide +kernel, by decide +kernel, by decide +kernel, by decide +kernel⟩
theorem mx_tk111 : mx_tok 111 := ⟨8, mx_nth mx_c111, mx_k111, mx_t111, by decide +kernel, by decide +kernel, by decide +kernel, by decide +kernel⟩
theorem mx_tk112 : mx_tok 112 := ⟨8, mx_nth mx_c112, mx_k112, mx_t112, by decide +kernel, by decide +kernel, by decide +kernel, by decide +kernel⟩
theorem mx_tk113 : mx_tok 113 := ⟨8, mx_nth mx_c113, mx_k113, mx_t113, by decide +kernel, by decide +kernel, by decide +kernel, by decide +kernel⟩
theorem mx_tk114 : mx_tok 114 := ⟨8, mx_nth mx_c114, mx_k114, mx_t114, by decide +kernel, by decide +kernel, by decide +kernel, by decide +kernel⟩
theorem mx_tk115 : mx_tok 115 := ⟨8, mx_nth mx_c115, mx_k115, mx_t115, by decide +kernel, by decide +kernel, by decide +kernel, by decide +kernel⟩
theorem mx_tk116 : mx_tok 116 := ⟨8, mx_nth mx_c116, mx_k116, mx_t116, by decide +kernel, by decide +kernel, by decide +kernel, by decide +kernel⟩
theorem mx_tk117 : mx_tok 117 := ⟨8, mx_nth mx_c117, mx_k117, mx_t117, by decide +kernel, by decide +kernel, by decide +kernel, by decide +kernel⟩
theorem mx_tk118 : mx_tok 118 := ⟨8, mx_nth mx_c118, mx_k118, mx_t118, by decide +kernel, by decide +kernel, by decide +kernel, by decide +kernel⟩
theorem mx_tk119 : mx_tok 119 := ⟨8, mx_nth mx_c119, mx_k119, mx_t119, by decide +kernel, by decide +kernel, by decide +kernel, by decide +kernel⟩
theorem mx_tk120 : mx_tok 120 := ⟨8, mx_nth mx_c120, mx_k120, mx_t120, by decide +kernel, by decide +kernel, by decide +kernel, by decide +kernel⟩
theorem mx_tk121 : mx_tok 121 := ⟨8, mx_nth mx_c121, mx_k121, mx_t121, by decide +kernel, by decide +kernel, by decide +kernel, by decide +kernel⟩
theorem mx_tk122 : mx_tok 122 := ⟨8, mx_nth mx_c122, mx_k122, mx_t122, by decide +kernel, by decide +kernel, by decide +kernel, by decide +kernel⟩
theorem mx_tk123 : mx_tok 123 := ⟨8, mx_nth mx_c123, mx_k123, mx_t123, by decide +kernel, by decide +kernel, by decide +kernel, by decide +kernel⟩
theorem mx_tk124 : mx_tok 124 := ⟨8, mx_nth mx_c124, mx_k124, mx_t124, by decide +kernel, by decide +kernel, by decide +kernel, by decide +kernel⟩
theorem mx_tk125 : mx_tok 125 := ⟨8, mx_nth mx_c125, mx_k125, mx_t125, by decide +kernel, by decide +kernel, by decide +kernel, by decide +kernel⟩
theorem mx_tk126 : mx_tok 126 := ⟨8, mx_nth mx_c126, mx_k126, mx_t126, by decide +kernel, by decide +kernel, by decide +kernel, by decide +kernel⟩
theorem mx_tk127 : mx_tok 127 := ⟨8, mx_nth mx_c127, mx_k127, mx_t127, by decide +kernel, by decide +kernel, by decide +kernel, by decide +kernel⟩
theorem mx_tk128 : mx_tok 128 := ⟨8, mx_nth mx_c128, mx_k128, mx_t128, by decide +kernel, by decide +kernel, by decide +kernel, by decide +kernel⟩
theorem mx_tk129 : mx_tok 129 := ⟨8, mx_nth mx_c129, mx_k129, mx_t129, by decide +kernel, by decide +kernel, by decide +kernel, by decide +kernel⟩
theorem mx_tk130 : mx_tok 130 := ⟨8, mx_nth mx_c130, mx_k130, mx_t130, by decide +kernel, by decide +kernel, by decide +kernel, by decide +kernel⟩
theorem mx_tk131 : mx_tok 131 := ⟨8, mx_nth mx_c131, mx_k131, mx_t131, by decide +kernel, by decide +kernel, by decide +kernel, by decide +kernel⟩
theorem mx_tk132 : mx_tok 132 := ⟨8, mx_nth mx_c132, mx_k132, mx_t132, by decide +kernel, by decide +kernel, by decide +kernel, by decide +kernel⟩
theorem mx_tk133 : mx_tok 133 := ⟨8, mx_nth mx_c133, mx_k133, mx_t133, by decide +kernel, by decide +kernel, by decide +kernel, by decide +kernel⟩
theorem mx_tk134 : mx_tok 134 := ⟨8, mx_nth mx_c134, mx_k134, mx_t134, by decide +kernel, by decide +kernel, by decide +kernel, by decide +kernel⟩
theorem mx_tk135 : mx_tok 135 := ⟨8, mx_nth mx_c135, mx_k135, mx_t135, by decide +kernel, by decide +kernel, by decide +kernel, by decide +kernel⟩
theorem mx_tk136 : mx_tok 136 := ⟨8, mx_nth mx_c136, mx_k136, mx_t136, by decide +kernel, by decide +kernel, by decide +kernel, by decide +kernel⟩
theorem mx_tk137 : mx_tok 137 := ⟨8, mx_nth mx_c137, mx_k137, mx_t137, by decide +kernel, by decide +kernel, by decide +kernel, by decide +kernel⟩
theorem mx_tk138 : mx_tok 138 := ⟨8, mx_nth mx_c138, mx_k138, mx_t138, by decide +kernel, by decide +kernel, by decide +kernel, by decide +kernel⟩
theorem mx_tk139 : mx_tok 139 := ⟨8, mx_nth mx_c139, mx_k139, mx_t139, by decide +kernel, by decide +kernel, by decide +kernel, by decide +kernel⟩
theorem mx_tk140 : mx_tok 140 := ⟨8, mx_nth mx_c140, mx_k140, mx_t140, by decide +kernel, by decide +kernel, by decide +kernel, by decide +kernel⟩
theorem mx_tk141 : mx_tok 141 := ⟨8, mx_nth mx_c141, mx_k141, mx_t141, by decide +kernel, by decide +kernel, by decide +kernel, by decide +kernel⟩
theorem mx_tk142 : mx_tok 142 := ⟨8, mx_nth mx_c142, mx_k142, mx_t142, by decide +kernel, by decide +kernel, by decide +kernel, by decide +kernel⟩
theorem mx_tk143 : mx_tok 143 := ⟨8, mx_nth mx_c143, mx_k143, mx_t143, by decide +kernel, by decide +kernel, by decide +kernel, by decide +kernel⟩
theorem mx_tk144 : mx_tok 144 := ⟨8, mx_nth mx_c144, mx_k144, mx_t144, by decide +kernel, by decide +kernel, by decide +kernel, by decide +kernel⟩
theorem mx_tk145 : mx_tok 145 := ⟨8, mx_nth mx_c145, mx_k145, mx_t145, by decide +kernel, by decide +kernel, by decide +kernel, by decide +kernel⟩
theorem mx_tk146 : mx_tok 146 := ⟨8, mx_nth mx_c146, mx_k146, mx_t146, by decide +kernel, by decide +kernel, by decide +kernel, by decide +kernel⟩
theorem mx_tk147 : mx_tok 147 := ⟨8, mx_nth mx_c147, mx_k147, mx_t147, by decide +kernel, by decide +kernel, by decide +kernel, by decide +kernel⟩
theorem mx_tk148 : mx_tok 148 := ⟨8, mx_nth mx_c148, mx_k148, mx_t148, by decide +kernel, by decide +kernel, by decide +kernel, by decide +kernel⟩
theorem mx_tk149 : mx_tok 149 := ⟨8, mx_nth mx_c149, mx_k149, mx_t149, by decide +kernel, by decide +kernel, by decide +kernel, by decide +kernel⟩
theorem mx_tk150 : mx_tok 150 := ⟨8, mx_nth mx_c150, mx_k150, mx_t150, by decide +kernel, by decide +kernel, by decide +kernel, by decide +kernel⟩
theorem mx_tk151 : mx_tok 151 := ⟨8, mx_nth mx_c151, mx_k151, mx_t151, by decide +kernel, by decide +kernel, by decide +kernel, by decide +kernel⟩
theorem mx_tk152 : mx_tok 152 := ⟨8, mx_nth mx_c152, mx_k152, mx_t152, by decide +kernel, by decide +kernel, by decide +kernel, by decide +kernel⟩
theorem mx_tk153 : mx_tok 153 := ⟨8, mx_nth mx_c153, mx_k153, mx_t153, by decide +kernel, by decide +kernel, by decide +kernel, by decide +kernel⟩
theorem mx_tk154 : mx_tok 154 := ⟨8, mx_nth mx_c154, mx_k154, mx_t154, by decide +kernel, by decide +kernel, by decide +kernel, by decide +kernel⟩
theorem mx_tk155 : mx_tok 155 := ⟨8, mx_nth mx_c155, mx_k155, mx_t155, by decide +kernel, by decide +kernel, by decide +kernel, by decide +kernel⟩
theorem mx_tk156 : mx_tok 156 := ⟨8, mx_nth mx_c156, mx_k156, mx_t156, by decide +kernel, by decide +kernel, by decide +kernel, by decide +kernel⟩
theorem mx_tk157 : mx_tok 157 := ⟨8, mx_nth mx_c157, mx_k157, mx_t157, by decide +kernel, by decide +kernel, by decide +kernel, by decide +kernel⟩
theorem mx_tk158 : mx_tok 158 := ⟨8, mx_nth mx_c158, mx_k158, mx_t158, by decide +kernel, by decide +kernel, by decide +kernel, by decide +kernel⟩
theorem mx_tk159 : mx_tok 159 := ⟨8, mx_nth mx_c159, mx_k159, mx_t159, by decide +kernel, by decide +kernel, by decide +kernel, by decide +kernel⟩
theorem mx_tk160 : mx_tok 160 := ⟨8, mx_nth mx_c160, mx_k160, mx_t160, by decide +kernel, by decide +kernel, by decide +kernel, by decide +kernel⟩
theorem mx_tk161 : mx_tok 161 := ⟨8, mx_nth mx_c161, mx_k161, mx_t161, by decide +kernel, by decide +kernel, by decide +kernel, by decide +kernel⟩
theorem mx_tk162 : mx_tok 162 := ⟨8, mx_nth mx_c162, mx_k162, mx_t162, by decide +kernel, by decide +kernel, by decide +kernel, by decide +kernel⟩
theorem mx_tk163 : mx_tok 163 := ⟨8, mx_nth mx_c163, mx_k163, mx_t163, by decide +kernel, by decide +kernel, by decide +kernel, by decide +kernel⟩
theorem mx_tk164 : mx_tok 164 := ⟨8, mx_nth mx_c164, mx_k164, mx_t164, by decide +kernel, by decide +kernel, by decide +kernel, by decide +kernel⟩
theorem mx_tk165 : mx_tok 165 := ⟨8, mx_nth mx_c165, mx_k165, mx_t165, by decide +kernel, by decide +kernel, by decide +kernel, by decide +kernel⟩
theorem mx_tk166 : mx_tok 166 := ⟨8, mx_nth mx_c166, mx_k166, mx_t166, by decide +kernel, by decide +kernel, by decide +kernel, by decide +kernel⟩
theorem mx_tk167 : mx_tok 167 := ⟨8, mx_nth mx_c167, mx_k167, mx_t167, by decide +kernel, by decide +kernel, by decide +kernel, by decide +kernel⟩
theorem mx_tk168 : mx_tok 168 := ⟨8, mx_nth mx_c168, mx_k168, mx_t168, by decide +kernel, by decide +kernel, by decide +kernel, by decide +kernel⟩
theorem mx_tk169 : mx_tok 169 := ⟨8, mx_nth mx_c169, mx_k169, mx_t169, by decide +kernel, by decide +kernel, by decide +kernel, by decide +kernel⟩
theorem mx_tk170 : mx_tok 170 := ⟨8, mx_nth mx_c170, mx_k170, mx_t170, by decide +kernel, by decide +kernel, by decide +kernel, by decide +kernel⟩
theorem mx_tk171 : mx_tok 171 := ⟨8, mx_nth mx_c171, mx_k171, mx_t171, by decide +kernel, by decide +kernel, by decide +kernel, by decide +kernel⟩
theorem mx_tk172 : mx_tok 172 := ⟨8, mx_nth mx_c172, mx_k172, mx_t172, by decide +kernel, by decide +kernel, by decide +kernel, by decide +kernel⟩
theorem mx_tk173 : mx_tok 173 := ⟨8, mx_nth mx_c173, mx_k173, mx_t173, by decide +kernel, by decide +kernel, by decide +kernel, by decide +kernel⟩
theorem mx_tk174 : mx_tok 174 := ⟨8, mx_nth mx_c174, mx_k174, mx_t174, by decide +kernel, by decide +kernel, by decide +kernel, by decide +kernel⟩
theorem mx_tk175 : mx_tok 175 := ⟨8, mx_nth mx_c175, mx_k175, mx_t175, by decide +kernel, by decide +kernel, by decide +kernel, by decide +kernel⟩
theorem mx_tk176 : mx_tok 176 := ⟨8, mx_nth mx_c176, mx_k176, mx_t176, by decide +kernel, by decide +kernel, by decide +kernel, by decide +kernel⟩
theorem mx_tk177 : mx_tok 177 := ⟨8, mx_nth mx_c177, mx_k177, mx_t177, by decide +kernel, by decide +kernel, by decide +kernel, by decide +kernel⟩
theorem mx_tk178 : mx_tok 178 := ⟨8, mx_nth mx_c178, mx_k178, mx_t178, by decide +kernel, by decide +kernel, by decide +kernel, by decide +kernel⟩
theorem mx_tk179 : mx_tok 179 := ⟨8, mx_nth mx_c179, mx_k179, mx_t179, by decide +kernel, by decide +kernel, by decide +kernel, by decide +kernel⟩
theorem mx_tk180 : mx_tok 180 := ⟨8, mx_nth mx_c180, mx_k180, mx_t180, by decide +kernel, by decide +kernel, by decide +kernel, by decide +kernel⟩
theorem mx_tk181 : mx_tok 181 := ⟨8, mx_nth mx_c181, mx_k181, mx_t181, by decide +kernel, by decide +kernel, by decide +kernel, by decide +kernel⟩
theorem mx_tk182 : mx_tok 182 := ⟨8, mx_nth mx_c182, mx_k182, mx_t182, by decide +kernel, by decide +kernel, by decide +kernel, by decide +kernel⟩
theorem mx_tk183 : mx_tok 183 := ⟨8, mx_nth mx_c183, mx_k183, mx_t183, by decide +kernel, by decide +kernel, by decide +kernel, by decide +kernel⟩
theorem mx_tk184 : mx_tok 184 := ⟨8, mx_nth mx_c184, mx_k184, mx_t184, by decide +kernel, by decide +kernel, by decide +kernel, by decide +kernel⟩
theorem mx_tk185 : mx_tok 185 := ⟨8, mx_nth mx_c185, mx_k185, mx_t185, by decide +kernel, by decide +kernel, by decide +kernel, by decide +kernel⟩
theorem mx_tk186 : mx_tok 186 := ⟨8, mx_nth mx_c186, mx_k186, mx_t186, by decide +kernel, by decide +kernel, by decide +kernel, by decide +kernel⟩
theorem mx_tk187 : mx_tok 187 := ⟨8, mx_nth mx_c187, mx_k187, mx_t187, by decide +kernel, by decide +kernel, by decide +kernel, by decide +kernel⟩
theorem mx_tk188 : mx_tok 188 := ⟨8, mx_nth mx_c188, mx_k188, mx_t188, by decide +kernel, by decide +kernel, by decide +kernel, by decide +kernel⟩
theorem mx_tk189 : mx_tok 189 := ⟨8, mx_nth mx_c189, mx_k189, mx_t189, by decide +kernel, by decide +kernel, by decide +kernel, by decide +kernel⟩
theorem mx_tk190 : mx_tok 190 := ⟨8, mx_nth mx_c190, mx_k190, mx_t190, by decide +kernel, by decide +kernel, by decide +kernel, by decide +kernel⟩
theorem mx_tk_all : mx_allP mx_tok 191 := ⟨⟨⟨⟨⟨⟨⟨⟨⟨⟨⟨⟨⟨⟨⟨⟨⟨⟨⟨⟨⟨⟨⟨⟨⟨⟨⟨⟨⟨⟨⟨⟨⟨⟨⟨⟨⟨⟨⟨⟨⟨⟨⟨⟨⟨⟨⟨⟨⟨⟨⟨⟨⟨⟨⟨⟨⟨⟨⟨⟨⟨⟨⟨⟨⟨⟨⟨⟨⟨⟨⟨⟨⟨⟨⟨⟨⟨⟨⟨⟨⟨⟨⟨⟨⟨⟨⟨⟨⟨⟨⟨⟨⟨⟨⟨⟨⟨⟨⟨⟨⟨⟨⟨⟨⟨⟨⟨⟨⟨⟨⟨⟨⟨⟨⟨⟨⟨⟨⟨⟨⟨⟨⟨⟨⟨⟨⟨⟨⟨⟨⟨⟨⟨⟨⟨⟨⟨⟨⟨⟨⟨⟨⟨⟨⟨⟨⟨⟨⟨⟨⟨⟨⟨⟨⟨⟨⟨⟨⟨⟨⟨⟨⟨⟨⟨⟨⟨⟨⟨⟨⟨⟨⟨⟨⟨⟨⟨⟨⟨⟨⟨⟨⟨⟨⟨⟨⟨⟨⟨⟨⟨trivial, mx_tk0⟩, mx_tk1⟩, mx_tk2⟩, mx_tk3⟩, mx_tk4⟩, mx_tk5⟩, mx_tk6⟩, mx_tk7⟩, mx_tk8⟩, mx_tk9⟩, mx_tk10⟩, mx_tk11⟩, mx_tk12⟩, mx_tk13⟩, mx_tk14⟩, mx_tk15⟩, mx_tk16⟩, mx_tk17⟩, mx_tk18⟩, mx_tk19⟩, mx_tk20⟩, mx_tk21⟩, mx_tk22⟩, mx_tk23⟩, mx_tk24⟩, mx_tk25⟩, mx_tk26⟩, mx_tk27⟩, mx_tk28⟩, mx_tk29⟩, mx_tk30⟩, mx_tk31⟩, mx_tk32⟩, mx_tk33⟩, mx_tk34⟩, mx_tk35⟩, mx_tk36⟩, mx_tk37⟩, mx_tk38⟩, mx_tk39⟩, mx_tk40⟩, mx_tk41⟩, mx_tk42⟩, mx_tk43⟩, mx_tk44⟩, mx_tk45⟩, mx_tk46⟩, mx_tk47⟩, mx_tk48⟩, mx_tk49⟩, mx_tk50⟩, mx_tk51⟩, mx_tk52⟩, mx_tk53⟩, mx_tk54⟩, mx_tk55⟩, mx_tk56⟩, mx_tk57⟩, mx_tk58⟩, mx_tk59⟩, mx_tk60⟩, mx_tk61⟩, mx_tk62⟩, mx_tk63⟩, mx_tk64⟩, mx_tk65⟩, mx_tk66⟩, mx_tk67⟩, mx_tk68⟩, mx_tk69⟩, mx_tk70⟩, mx_tk71⟩, mx_tk72⟩, mx_tk73⟩, mx_tk74⟩, mx_tk75⟩, mx_tk76⟩, mx_tk77⟩, mx_tk78⟩, mx_tk79⟩, mx_tk80⟩, mx_tk81⟩, mx_tk82⟩, mx_tk83⟩, mx_tk84⟩, mx_tk85⟩, mx_tk86⟩, mx_tk87⟩, mx_tk88⟩, mx_tk89⟩, mx_tk90⟩, mx_tk91⟩, mx_tk92⟩, mx_tk93⟩, mx_tk94⟩, mx_tk95⟩, mx_tk96⟩, mx_tk97⟩, mx_tk98⟩, mx_tk99⟩, mx_tk100⟩, mx_tk101⟩, mx_tk102⟩, mx_tk103⟩, mx_tk104⟩, mx_tk105⟩, mx_tk106⟩, mx_tk107⟩, mx_tk108⟩, mx_tk109⟩, mx_tk110⟩, mx_tk111⟩, mx_tk112⟩, mx_tk113⟩, mx_tk114⟩, mx_tk115⟩, mx_tk116⟩, mx_tk117⟩, mx_tk118⟩, mx_tk119⟩, mx_tk120⟩, mx_tk121⟩, mx_tk122⟩, mx_tk123⟩, mx_tk124⟩, mx_tk125⟩, mx_tk126⟩, mx_tk127⟩, mx_tk128⟩, mx_tk129⟩, mx_tk130⟩, mx_tk131⟩, mx_tk132⟩, mx_tk133⟩, mx_tk134⟩, mx_tk135⟩, mx_tk136⟩, mx_tk137⟩, mx_tk138⟩, mx_tk139⟩, mx_tk140⟩, mx_tk141⟩, mx_tk142⟩, mx_tk143⟩, mx_tk144⟩, mx_tk145⟩, mx_tk146⟩, mx_tk147⟩, mx_tk148⟩, mx_tk149⟩, mx_tk150⟩, mx_tk151⟩, mx_tk152⟩, mx_tk153⟩, mx_tk154⟩, mx_tk155⟩, mx_tk156⟩, mx_tk157⟩, mx_tk158⟩, mx_tk159⟩, mx_tk160⟩, mx_tk161⟩, mx_tk162⟩, mx_tk163⟩, mx_tk164⟩, mx_tk165⟩, mx_tk166⟩, mx_tk167⟩, mx_tk168⟩, mx_tk169⟩, mx_tk170⟩, mx_tk171⟩, mx_tk172⟩, mx_tk173⟩, mx_tk174⟩, mx_tk175⟩, mx_tk176⟩, mx_tk177⟩, mx_tk178⟩, mx_tk179⟩, mx_tk180⟩, mx_tk181⟩, mx_tk182⟩, mx_tk183⟩, mx_tk184⟩, mx_tk185⟩, mx_tk186⟩, mx_tk187⟩, mx_tk188⟩, mx_tk189⟩, mx_tk190⟩
/-- whatever the machine answers of a method, the bytecode does -/
theorem mx_sd (l : Launch) {y : Nat} (hy : y < 191) {as : List mx_V} {σ : mx_S} {r : mx_Rt} (h : mx_sem y as σ = some r) : mx_OK l y as σ r := mx_sound l (fun _ h => mx_allP_at mx_tk_all h) y hy as σ r h
end
section
/-! ===== a method keeps to the cells of its side ===== -/
def mx_okG (G : Nat → Prop) : mx_V → Prop
  | Sum.inr (Sum.inr q) => q.2 < 55 → G q.2
  | _ => True
def mx_gS (G : Nat → Prop) (s : List mx_V) : Prop := ∀ v ∈ s, mx_okG G v
def mx_gL (G : Nat → Prop) (l : mx_Loc) : Prop := ∀ i v, mx_lo l i = some v → mx_okG G v
def mx_ag (G : Nat → Prop) (σ τ : mx_S) : Prop := ∀ k o, ¬ G o → τ k o = σ k o
theorem mx_ag_rf {G : Nat → Prop} {σ : mx_S} : mx_ag G σ σ := fun _ _ _ => rfl
theorem mx_ag_up {G : Nat → Prop} {σ : mx_S} {k o j : Nat} {x : Int32} (h : G o) : mx_ag G σ (mx_up σ k o j x) := fun k' o' h' => mx_up_o (fun q => h' (by cases q; exact h))
theorem mx_ag_cp {G : Nat → Prop} {σ : mx_S} {k o k1 o1 sp dp n : Nat} (h : G o1) : mx_ag G σ (mx_cp σ k o k1 o1 sp dp n) := fun k' o' h' => by
  funext j
  exact if_neg (fun q => h' (by rw [q.2]; exact h))
theorem mx_gS_cons {G : Nat → Prop} {v : mx_V} {s : List mx_V} : mx_gS G (v :: s) ↔ mx_okG G v ∧ mx_gS G s := List.forall_mem_cons
theorem mx_gS_nil {G : Nat → Prop} : mx_gS G [] := fun _ h => absurd h List.not_mem_nil
theorem mx_gL_st1 {G : Nat → Prop} {l : mx_Loc} {a : Nat} {v : mx_V} (hl : mx_gL G l) (hv : mx_okG G v) : mx_gL G (mx_st1 l a v) := fun i w h => by
  rcases mx_lo_st1 h with ⟨-, rfl⟩ | ⟨-, h, -⟩
  · exact hv
  · exact hl i w h
theorem mx_gL_set {G : Nat → Prop} {l : mx_Loc} {a : Nat} (hl : mx_gL G l) : mx_gL G (l.set a none) := fun i w h => by
  rcases mx_lo_set _ _ _ _ _ h with ⟨-, h⟩ | ⟨-, h⟩
  · cases h
  · exact hl i w h
def mx_cl1 (G : Nat → Prop) : Prop := (∀ o, o < 55 → G o → ∀ k j, mx_fk o j = 2 ∨ mx_fk o j = 3 → (mx_pt k o j).2 < 55 → G (mx_pt k o j).2) ∧ (∀ o, o < 55 → G o → ∀ j, 4 ≤ mx_aT o → (mx_rA o j).2 < 55 → G (mx_rA o j).2)
set_option maxHeartbeats 4000000 in
theorem mx_stepG {G : Nat → Prop} (hG : mx_cl1 G) (i : mx_Op) (loc : mx_Loc) (stk : List mx_V) (σ : mx_S) (hl : mx_gL G loc) (hs : mx_gS G stk) : mx_step (fun l s τ => mx_ag G σ τ ∧ mx_gL G l ∧ mx_gS G s) (fun _ l s τ => mx_ag G σ τ ∧ mx_gL G l ∧ mx_gS G s) (fun _ τ => mx_ag G σ τ) (fun _ _ as l s τ => mx_ag G σ τ ∧ mx_gS G as ∧ mx_gL G l ∧ mx_gS G s) (fun _ l τ => mx_ag G σ τ ∧ mx_gL G l) True i loc stk σ := by
  obtain ⟨op, im, jm, a, b, ts⟩ := i
  rcases op with _ | _ | _ | _ | _ | _ | _ | _ | _ | _ | _ | _ | _ | _ | _ | _ | _ | _ | _ | _ | _ | _ | _ | _ | _ | _ | _ | _ | _ | _ | _ | _ | _ | _ | _ | _ | _ | _ | _ | _ | _ | _ | _ | _ | _ | _ | _ | _ | op
  · rw [mx_s0]
    (repeat' split) <;> first | exact ⟨mx_ag_rf, hl, mx_gS_cons.mpr ⟨trivial, hs⟩⟩ | trivial
  · rw [mx_s1]
    (repeat' split) <;> first | exact ⟨mx_ag_rf, hl, mx_gS_cons.mpr ⟨trivial, hs⟩⟩ | trivial
  · rw [mx_s2]
    split
    · rename_i k o h0
      split
      · exact ⟨mx_ag_rf, hl, mx_gS_cons.mpr ⟨hl a _ h0, hs⟩⟩
      · trivial
    · trivial
  · rw [mx_s3]
    split
    · exact ⟨mx_ag_rf, mx_gL_st1 hl trivial, (mx_gS_cons.mp hs).2⟩
    · trivial
  · rw [mx_s4]
    split
    · exact ⟨mx_ag_rf, mx_gL_set (mx_gL_st1 hl trivial), (mx_gS_cons.mp hs).2⟩
    · trivial
  · rw [mx_s5]
    split
    · split
      · exact ⟨mx_ag_rf, mx_gL_st1 hl (mx_gS_cons.mp hs).1, (mx_gS_cons.mp hs).2⟩
      · trivial
    · trivial
  · rw [mx_s6]
    exact ⟨mx_ag_rf, hl, mx_gS_cons.mpr ⟨trivial, hs⟩⟩
  · rw [mx_s7]
    exact ⟨mx_ag_rf, hl, mx_gS_cons.mpr ⟨trivial, hs⟩⟩
  · rw [mx_s8]
    unfold mx_bin
    (repeat' split) <;> first | exact ⟨mx_ag_rf, hl, mx_gS_cons.mpr ⟨trivial, (mx_gS_cons.mp (mx_gS_cons.mp hs).2).2⟩⟩ | trivial
  · rw [mx_s9]
    unfold mx_d mx_div
    (repeat' split) <;> first | exact ⟨mx_ag_rf, hl, mx_gS_cons.mpr ⟨trivial, (mx_gS_cons.mp (mx_gS_cons.mp hs).2).2⟩⟩ | trivial
  · rw [mx_s10]
    unfold mx_un
    (repeat' split) <;> first | exact ⟨mx_ag_rf, hl, mx_gS_cons.mpr ⟨trivial, (mx_gS_cons.mp hs).2⟩⟩ | trivial
  · rw [mx_s11]
    unfold mx_lb
    (repeat' split) <;> first | exact ⟨mx_ag_rf, hl, mx_gS_cons.mpr ⟨trivial, (mx_gS_cons.mp (mx_gS_cons.mp hs).2).2⟩⟩ | trivial
  · rw [mx_s12]
    unfold mx_lsh
    (repeat' split) <;> first | exact ⟨mx_ag_rf, hl, mx_gS_cons.mpr ⟨trivial, (mx_gS_cons.mp (mx_gS_cons.mp hs).2).2⟩⟩ | trivial
  · rw [mx_s13]
    (repeat' split) <;> first | exact ⟨mx_ag_rf, hl, mx_gS_cons.mpr ⟨trivial, (mx_gS_cons.mp (mx_gS_cons.mp hs).2).2⟩⟩ | trivial
  · rw [mx_s14]
    (repeat' split) <;> first | exact ⟨mx_ag_rf, hl, mx_gS_cons.mpr ⟨trivial, (mx_gS_cons.mp hs).2⟩⟩ | trivial
  · rw [mx_s15]
    (repeat' split) <;> first | exact ⟨mx_ag_rf, hl, mx_gS_cons.mpr ⟨trivial, (mx_gS_cons.mp hs).2⟩⟩ | trivial
  · rw [mx_s16]
    split
    · exact ⟨mx_ag_rf, mx_gL_st1 hl trivial, hs⟩
    · trivial
  · rw [mx_s17]
    (repeat' split) <;> first | exact ⟨mx_ag_rf, hl, mx_gS_cons.mpr ⟨(mx_gS_cons.mp hs).1, hs⟩⟩ | trivial
  · rw [mx_s18]
    (repeat' split) <;> first | exact ⟨mx_ag_rf, hl, mx_gS_cons.mpr ⟨(mx_gS_cons.mp hs).1, mx_gS_cons.mpr ⟨(mx_gS_cons.mp (mx_gS_cons.mp hs).2).1, hs⟩⟩⟩ | trivial
  · rw [mx_s19]
    unfold mx_if
    (repeat' split) <;> first | exact ⟨mx_ag_rf, hl, (mx_gS_cons.mp hs).2⟩ | trivial
  · rw [mx_s20]
    unfold mx_if
    (repeat' split) <;> first | exact ⟨mx_ag_rf, hl, (mx_gS_cons.mp (mx_gS_cons.mp hs).2).2⟩ | trivial
  · rw [mx_s21]
    exact ⟨mx_ag_rf, hl, hs⟩
  · rw [mx_s22]
    split
    · rename_i x r
      rw [mx_sw_map x (fun _ : Nat => mx_ag G σ σ ∧ mx_gL G loc ∧ mx_gS G r) a b ts]
      exact ⟨mx_ag_rf, hl, (mx_gS_cons.mp hs).2⟩
    · trivial
  · rw [mx_s23]
    unfold mx_getf
    split
    · rename_i k o r
      split
      · rename_i hb
        have ho := mx_cO_lt (Nat.eq_of_beq_eq_true hb)
        have hg := (mx_gS_cons.mp hs).1 ho
        split
        · rename_i hf
          exact ⟨mx_ag_rf, hl, mx_gS_cons.mpr ⟨fun z => hG.1 o ho hg k b (Or.inl hf) z, (mx_gS_cons.mp hs).2⟩⟩
        · rename_i hf
          show (if σ k o b = 0 then True else _)
          split
          · trivial
          · exact ⟨mx_ag_rf, hl, mx_gS_cons.mpr ⟨fun z => hG.1 o ho hg k b (Or.inr hf) z, (mx_gS_cons.mp hs).2⟩⟩
        · exact ⟨mx_ag_rf, hl, mx_gS_cons.mpr ⟨trivial, (mx_gS_cons.mp hs).2⟩⟩
      · trivial
    · trivial
  · rw [mx_s24]
    unfold mx_putf mx_z mx_w
    split
    · split
      · rename_i hb
        have ho := mx_cO_lt (Nat.eq_of_beq_eq_true hb)
        have hg := (mx_gS_cons.mp (mx_gS_cons.mp hs).2).1 ho
        (repeat' split) <;> first | exact ⟨mx_ag_up hg, hl, (mx_gS_cons.mp (mx_gS_cons.mp hs).2).2⟩ | trivial
      · trivial
    · split
      · rename_i hb
        have ho := mx_cO_lt (Nat.eq_of_beq_eq_true hb)
        have hg := (mx_gS_cons.mp (mx_gS_cons.mp hs).2).1 ho
        (repeat' split) <;> first | exact ⟨mx_ag_up hg, hl, (mx_gS_cons.mp (mx_gS_cons.mp hs).2).2⟩ | trivial
      · trivial
    · trivial
  · rw [mx_s25]
    unfold mx_g
    (repeat' split) <;> first | exact ⟨mx_ag_rf, hl, mx_gS_cons.mpr ⟨trivial, (mx_gS_cons.mp (mx_gS_cons.mp hs).2).2⟩⟩ | trivial
  · rw [mx_s26]
    split
    · split
      · rename_i hb
        have ho := mx_aT_lt (Nat.eq_of_beq_eq_true hb)
        have hg := (mx_gS_cons.mp (mx_gS_cons.mp (mx_gS_cons.mp hs).2).2).1 ho
        unfold mx_g mx_w
        split
        · trivial
        · exact ⟨mx_ag_up hg, hl, (mx_gS_cons.mp (mx_gS_cons.mp (mx_gS_cons.mp hs).2).2).2⟩
      · trivial
    · trivial
  · rw [mx_s27]
    unfold mx_g
    (repeat' split) <;> first | exact ⟨mx_ag_rf, hl, mx_gS_cons.mpr ⟨trivial, (mx_gS_cons.mp (mx_gS_cons.mp hs).2).2⟩⟩ | trivial
  · rw [mx_s28]
    split
    · split
      · rename_i hb
        have ho := mx_aT_lt (Nat.eq_of_beq_eq_true hb)
        have hg := (mx_gS_cons.mp (mx_gS_cons.mp (mx_gS_cons.mp hs).2).2).1 ho
        unfold mx_g mx_w
        split
        · trivial
        · exact ⟨mx_ag_up hg, hl, (mx_gS_cons.mp (mx_gS_cons.mp (mx_gS_cons.mp hs).2).2).2⟩
      · trivial
    · trivial
  · rw [mx_s29]
    split
    · split
      · rename_i hb
        have e4 := Nat.eq_of_beq_eq_true hb
        have ho := mx_aT_lt e4
        have hg := (mx_gS_cons.mp (mx_gS_cons.mp hs).2).1 ho
        unfold mx_g
        split
        · trivial
        · exact ⟨mx_ag_rf, hl, mx_gS_cons.mpr ⟨fun z => hG.2 _ ho hg _ (by omega) z, (mx_gS_cons.mp (mx_gS_cons.mp hs).2).2⟩⟩
      · trivial
    · trivial
  · rw [mx_s30]
    (repeat' split) <;> first | exact ⟨mx_ag_rf, hl, mx_gS_cons.mpr ⟨trivial, (mx_gS_cons.mp hs).2⟩⟩ | trivial
  · rw [mx_s31]
    split
    · exact ⟨mx_ag_rf, fun v hv => hs v (List.mem_of_mem_take (List.mem_reverse.mp hv)), hl, fun v hv => hs v (List.mem_of_mem_drop hv)⟩
    · trivial
  · rw [mx_s32]
    unfold mx_z
    (repeat' split) <;> first | exact mx_ag_rf | trivial
  · rw [mx_s33]
    (repeat' split) <;> first | exact mx_ag_rf | trivial
  · rw [mx_s34]
    (repeat' split) <;> first | exact mx_ag_rf | trivial
  · rw [mx_s35]
    exact ⟨mx_ag_rf, hl, mx_gS_cons.mpr ⟨(fun z => absurd (show mx_oS < 55 from z) (by decide)), hs⟩⟩
  · rw [mx_s36]
    split
    · split
      · rename_i h1 h2
        have ho := mx_aT_lt (Nat.eq_of_beq_eq_true h2)
        have hg := (mx_gS_cons.mp (mx_gS_cons.mp (mx_gS_cons.mp hs).2).2).1 ho
        split
        · unfold mx_c
          split
          · trivial
          · exact ⟨mx_ag_cp hg, hl, (mx_gS_cons.mp (mx_gS_cons.mp (mx_gS_cons.mp (mx_gS_cons.mp (mx_gS_cons.mp hs).2).2).2).2).2⟩
        · trivial
      · trivial
    · trivial
  · rw [mx_s37]
    exact ⟨mx_ag_rf, hl, mx_gS_cons.mpr ⟨trivial, hs⟩⟩
  · rw [mx_s38]
    exact ⟨mx_ag_rf, hl, mx_gS_cons.mpr ⟨(fun z => absurd (show mx_oQ < 55 from z) (by decide)), hs⟩⟩
  · rw [mx_s39]
    split
    · split
      · split
        · exact ⟨mx_ag_rf, hl, mx_gS_cons.mpr ⟨fun z => absurd (show mx_oB < 55 from z) (by decide), (mx_gS_cons.mp hs).2⟩⟩
        · exact ⟨mx_ag_rf, hl, mx_gS_cons.mpr ⟨trivial, (mx_gS_cons.mp hs).2⟩⟩
      · trivial
    · trivial
  · rw [mx_s40]
    (repeat' split) <;> first | exact ⟨mx_ag_rf, hl, mx_gS_cons.mpr ⟨trivial, (mx_gS_cons.mp hs).2⟩⟩ | trivial
  · rw [mx_s41]
    unfold mx_g
    (repeat' split) <;> first | exact ⟨mx_ag_rf, hl, mx_gS_cons.mpr ⟨trivial, (mx_gS_cons.mp (mx_gS_cons.mp hs).2).2⟩⟩ | trivial
  · rw [mx_s42]
    split
    · exact ⟨mx_ag_rf, hl, (mx_gS_cons.mp hs).2⟩
    · trivial
  · rw [mx_s43]
    unfold mx_g
    (repeat' split) <;> first | exact ⟨mx_ag_rf, hl, mx_gS_cons.mpr ⟨trivial, (mx_gS_cons.mp (mx_gS_cons.mp hs).2).2⟩⟩ | trivial
  · rw [mx_s44]
    (repeat' split) <;> first | exact ⟨mx_ag_rf, hl, mx_gS_cons.mpr ⟨trivial, (mx_gS_cons.mp hs).2⟩⟩ | trivial
  · rw [mx_s45]
    split
    · exact ⟨mx_ag_rf, fun i v hi => hl i v (mx_lo_kp hi)⟩
    · trivial
  · rw [mx_s46]
    (repeat' split) <;> first | exact ⟨mx_ag_rf, hl, mx_gS_cons.mpr ⟨trivial, (mx_gS_cons.mp (mx_gS_cons.mp hs).2).2⟩⟩ | trivial
  · rw [mx_s47]
    (repeat' split) <;> first | exact ⟨mx_ag_rf, hl, mx_gS_cons.mpr ⟨trivial, (mx_gS_cons.mp hs).2⟩⟩ | trivial
  · trivial
theorem mx_runG {G : Nat → Prop} (hG : mx_cl1 G) {E : Nat → List mx_V → mx_S → Option mx_Rt} {P : List mx_Op} {K : Nat → mx_Loc → mx_S → Option mx_Rt} (hE : ∀ y as σ r, mx_gS G as → E y as σ = some r → mx_ag G σ r.2) (hK : ∀ h l σ r, mx_gL G l → K h l σ = some r → mx_ag G σ r.2) : ∀ n c l s σ r, mx_gL G l → mx_gS G s → mx_run E P K n c l s σ = some r → mx_ag G σ r.2 := by
  have tr : ∀ {σ τ ρ : mx_S}, mx_ag G σ τ → mx_ag G τ ρ → mx_ag G σ ρ := fun h1 h2 k o h => (h2 k o h).trans (h1 k o h)
  intro n
  induction n with
  | zero => intro c l s σ r _ _ h; cases c <;> cases h
  | succ n ih =>
    intro c l s σ r hl hs h
    cases c with
    | nil => cases h
    | cons i c =>
      rw [mx_run_s] at h
      have hx := mx_stepG hG i l s σ hl hs
      rw [mx_fac] at hx
      generalize mx_act i l s σ = q at h hx
      rcases q with _ | (⟨l', s', σ'⟩ | ⟨t, l', s', σ'⟩ | ⟨v, σ'⟩ | ⟨y, rk, as, l', s', σ'⟩ | ⟨h', l', σ'⟩)
      · cases h
      · exact tr hx.1 (ih _ _ _ _ _ hx.2.1 hx.2.2 h)
      · exact tr hx.1 (ih _ _ _ _ _ hx.2.1 hx.2.2 h)
      · cases h; exact hx
      · obtain ⟨h1, h2, h3, h4⟩ := hx
        refine tr (τ := σ') h1 ?_
        rcases rk with _ | _ | rk
        · obtain ⟨σ2, e, h⟩ := mx_bV_iff.mp h
          exact tr (hE _ _ _ _ h2 e) (ih _ _ _ _ _ h3 h4 h)
        · obtain ⟨x, σ2, e, h⟩ := mx_bI_iff.mp h
          exact tr (hE _ _ _ _ h2 e) (ih _ _ _ _ _ h3 ((mx_gS_cons (v := Sum.inl x)).mpr ⟨trivial, h4⟩) h)
        · obtain ⟨x, σ2, e, h⟩ := mx_bJ_iff.mp h
          exact tr (hE _ _ _ _ h2 e) (ih _ _ _ _ _ h3 ((mx_gS_cons (v := Sum.inr (Sum.inl x))).mpr ⟨trivial, h4⟩) h)
      · exact tr hx.1 (hK _ _ _ _ hx.2 h)
theorem mx_semG {G : Nat → Prop} (hG : mx_cl1 G) : ∀ y as σ r, mx_gS G as → mx_sem y as σ = some r → mx_ag G σ r.2 := by
  intro y
  induction y using Nat.strongRecOn with
  | _ y ih =>
    intro as σ r hs h
    rw [mx_sem_H] at h
    obtain ⟨n, h⟩ := (mx_LL_iff _ _ _ _ _ _).mp h
    have key : ∀ n h l σ r, mx_gL G l → mx_L (mx_E y) (mx_pr y) n h l σ = some r → mx_ag G σ r.2 := by
      intro n
      induction n with
      | zero => intro h l σ r _ q; cases q
      | succ n ihn =>
        intro h l σ r hl q
        refine mx_runG hG (fun y' as' σ' r' h1 h' => ?_) (fun h l σ r hl q => ihn h l σ r hl q) _ _ _ _ _ _ hl mx_gS_nil q
        unfold mx_E at h'
        split at h'
        · rename_i hy
          exact ih y' hy as' σ' r' h1 h'
        · cases h'
    exact key n 0 _ _ _ (fun i v hi => hs v (mx_ent_ok as _ i v hi)) h
def mx_GX (o : Nat) : Prop := o < 39
def mx_GM (o : Nat) : Prop := 39 ≤ o ∧ o < 55
theorem mx_fk_out {o j : Nat} (h : mx_nf o ≤ j) : mx_fk o j = 0 := mx_nth_ge _ _ h
theorem mx_pt_2 (k o j : Nat) : (mx_pt k o j).2 = (mx_nthP (mx_nthL mx_ptT o) j).2.2 := by
  rw [mx_pt_if]
  split <;> rfl
theorem mx_GX_cl : mx_cl1 mx_GX := by
  have t1 : ∀ o, o < 39 → ∀ j, j < mx_nf o → mx_fk o j = 2 ∨ mx_fk o j = 3 → (mx_nthP (mx_nthL mx_ptT o) j).2.2 < 39 := by decide +kernel
  refine ⟨fun o _ ho k j hf _ => ?_, fun o _ ho j ht _ => ?_⟩
  · rw [mx_pt_2]
    rcases Nat.lt_or_ge j (mx_nf o) with hj | hj
    · exact t1 o ho j hj hf
    · rw [mx_fk_out hj] at hf; omega
  · unfold mx_rA
    split
    · show 32 < 39; omega
    · show 0 < 39; omega
theorem mx_GM_cl : mx_cl1 mx_GM := by
  have t1 : ∀ o, o < 55 → 39 ≤ o → ∀ j, j < mx_nf o → mx_fk o j = 2 ∨ mx_fk o j = 3 → 39 ≤ (mx_nthP (mx_nthL mx_ptT o) j).2.2 := by decide +kernel
  have t2 : ∀ o, o < 55 → 39 ≤ o → mx_aT o < 4 := by decide +kernel
  refine ⟨fun o h5 ho k j hf hp => ?_, fun o h5 ho j ht _ => ?_⟩
  · refine ⟨?_, hp⟩
    rw [mx_pt_2]
    rcases Nat.lt_or_ge j (mx_nf o) with hj | hj
    · exact t1 o h5 ho.1 j hj hf
    · rw [mx_fk_out hj] at hf; omega
  · have := t2 o h5 ho.1; omega
/-- a method of the class leaves the reference's cells, and the other way round -/
theorem mx_frX {y : Nat} {as : List mx_V} {σ : mx_S} {r : mx_Rt} (h : mx_sem y as σ = some r) (hs : mx_gS mx_GX as) : ∀ k o, 39 ≤ o → r.2 k o = σ k o := fun k o ho => mx_semG mx_GX_cl y as σ r hs h k o (by show ¬ o < 39; omega)
theorem mx_frM {y : Nat} {as : List mx_V} {σ : mx_S} {r : mx_Rt} (h : mx_sem y as σ = some r) (hs : mx_gS mx_GM as) : ∀ k o, o < 39 → r.2 k o = σ k o := fun k o ho => mx_semG mx_GM_cl y as σ r hs h k o (by show ¬ (39 ≤ o ∧ o < 55); omega)
end
section
set_option maxRecDepth 100000 in
set_option maxHeartbeats 4000000 in
theorem e_A_begin (x1 : Int32) (s : mx_S) : mx_sem 0 [mx_R 0 35, mx_I x1] s = if 16 ≤ (s 0 35 2) then (some (none, s)) else (mx_g none (s 0 35 2) 16 fun j1 => mx_w (mx_up s 0 36 j1 x1) fun s2 => mx_w (mx_up s2 0 35 2 ((s2 0 35 2) + 1)) fun s3 => some (none, s3)) := (mx_sem_eq 0 _ s).trans rfl
set_option maxRecDepth 100000 in
set_option maxHeartbeats 4000000 in
theorem e_A_body10 (x1 : Int32) (s : mx_S) : mx_sem 1 [mx_R 0 35, mx_I x1] s = mx_bV none (mx_sem 0 [mx_R 0 35, mx_I 10] s) fun s1 => mx_g none x1 30 fun j2 => some (some (mx_I (s1 0 20 j2)), s1) := (mx_sem_eq 1 _ s).trans rfl
set_option maxRecDepth 100000 in
set_option maxHeartbeats 4000000 in
theorem e_C_kindOf (k0 : Nat) (x1 : Int32) (s : mx_S) : mx_sem 2 [mx_R k0 16, mx_I x1] s = mx_g none x1 30 fun j1 => if (s k0 18 j1) = (-2) then (some (some (mx_I 5), s)) else (mx_g none x1 30 fun j2 => if (s k0 26 j2) = Int32.ofNat 1 then (some (some (mx_I 1), s)) else if (s k0 26 j2) = Int32.ofNat 2 then (some (some (mx_I 2), s)) else if (s k0 26 j2) = Int32.ofNat 3 then (some (some (mx_I 4), s)) else (mx_g none x1 30 fun j3 => if (s k0 18 j3) = (-1) then (some (some (mx_I 5), s)) else (some (some (mx_I 3), s)))) := (mx_sem_eq 2 _ s).trans rfl
set_option maxRecDepth 100000 in
set_option maxHeartbeats 4000000 in
theorem e_A_body20 (x1 : Int32) (s : mx_S) : mx_sem 3 [mx_R 0 35, mx_I x1] s = mx_bV none (mx_sem 0 [mx_R 0 35, mx_I 20] s) fun s1 => some (some (mx_I x1), s1) := (mx_sem_eq 3 _ s).trans rfl
set_option maxRecDepth 100000 in
set_option maxHeartbeats 4000000 in
theorem e_A_body24 (x1 : Int32) (s : mx_S) : mx_sem 4 [mx_R 0 35, mx_I x1] s = mx_bV none (mx_sem 0 [mx_R 0 35, mx_I 24] s) fun s1 => mx_bI none (mx_sem 3 [mx_R 0 35, mx_I x1] s1) fun r3 s2 => some (some (mx_I (r3 + 1000)), s2) := (mx_sem_eq 4 _ s).trans rfl
set_option maxRecDepth 100000 in
set_option maxHeartbeats 4000000 in
theorem e_A_body21 (x1 : Int32) (s : mx_S) : mx_sem 5 [mx_R 0 35, mx_I x1] s = mx_bV none (mx_sem 0 [mx_R 0 35, mx_I 21] s) fun s1 => mx_bI none (mx_sem 3 [mx_R 0 35, mx_I x1] s1) fun r3 s2 => mx_g none x1 30 fun j4 => some (some (mx_I (r3 + (((100 : Int32)) * (if ((0 : Int32)) < (s2 0 18 j4) then (s2 0 18 j4) else ((0 : Int32)))))), s2) := (mx_sem_eq 5 _ s).trans rfl
set_option maxRecDepth 100000 in
set_option maxHeartbeats 4000000 in
theorem e_A_body22 (x1 : Int32) (s : mx_S) : mx_sem 6 [mx_R 0 35, mx_I x1] s = mx_bV none (mx_sem 0 [mx_R 0 35, mx_I 22] s) fun s1 => mx_bI none (mx_sem 5 [mx_R 0 35, mx_I x1] s1) fun r3 s2 => mx_g none x1 30 fun j4 => some (some (mx_I (r3 + (s2 0 19 j4))), s2) := (mx_sem_eq 6 _ s).trans rfl
set_option maxRecDepth 100000 in
set_option maxHeartbeats 4000000 in
theorem e_A_body13 (x1 : Int32) (s : mx_S) : mx_sem 7 [mx_R 0 35, mx_I x1] s = mx_bV none (mx_sem 0 [mx_R 0 35, mx_I 13] s) fun s1 => mx_bI none (mx_sem 1 [mx_R 0 35, mx_I x1] s1) fun r3 s2 => some (some (mx_I (-r3)), s2) := (mx_sem_eq 7 _ s).trans rfl
set_option maxRecDepth 100000 in
set_option maxHeartbeats 4000000 in
theorem e_A_body14 (x1 : Int32) (s : mx_S) : mx_sem 8 [mx_R 0 35, mx_I x1] s = mx_bV none (mx_sem 0 [mx_R 0 35, mx_I 14] s) fun s1 => mx_bI none (mx_sem 7 [mx_R 0 35, mx_I x1] s1) fun r3 s2 => some (some (mx_I (r3 - 100)), s2) := (mx_sem_eq 8 _ s).trans rfl
set_option maxRecDepth 100000 in
set_option maxHeartbeats 4000000 in
theorem e_A_sizeC (x1 x2 : Int32) (s : mx_S) : mx_sem 9 [mx_R 0 35, mx_I x1, mx_I x2] s = if x2 ≤ 4 then (mx_bI none (mx_sem 2 [mx_R 0 16, mx_I x1] s) fun r2 s1 => if r2 = Int32.ofNat 1 then none else if r2 = Int32.ofNat 2 then none else if r2 = Int32.ofNat 3 then (mx_bI none (mx_sem 7 [mx_R 0 35, mx_I x1] s1) fun r4 s3 => some (some (mx_I r4), s3)) else if r2 = Int32.ofNat 4 then (mx_bI none (mx_sem 8 [mx_R 0 35, mx_I x1] s1) fun r6 s5 => some (some (mx_I r6), s5)) else (mx_bI none (mx_sem 1 [mx_R 0 35, mx_I x1] s1) fun r8 s7 => some (some (mx_I r8), s7))) else (some (some (mx_I 0), s)) := (mx_sem_eq 9 _ s).trans rfl
set_option maxRecDepth 100000 in
set_option maxHeartbeats 4000000 in
theorem e_A_body23 (x1 x2 : Int32) (s : mx_S) : mx_sem 10 [mx_R 0 35, mx_I x1, mx_I x2] s = mx_bV none (mx_sem 0 [mx_R 0 35, mx_I 23] s) fun s1 => mx_bI none (mx_sem 3 [mx_R 0 35, mx_I x1] s1) fun r3 s2 => mx_bI none (mx_sem 9 [mx_R 0 35, mx_I x1, mx_I (x2 + 1)] s2) fun r5 s4 => some (some (mx_I (r3 + r5)), s4) := (mx_sem_eq 10 _ s).trans rfl
set_option maxRecDepth 100000 in
set_option maxHeartbeats 4000000 in
theorem e_A_mark (x1 x2 : Int32) (s : mx_S) : mx_sem 11 [mx_R 0 35, mx_I x1, mx_I x2] s = if x2 ≤ 4 then (mx_bI none (mx_sem 2 [mx_R 0 16, mx_I x1] s) fun r2 s1 => if r2 = Int32.ofNat 2 then (mx_bI none (mx_sem 4 [mx_R 0 35, mx_I x1] s1) fun r4 s3 => some (some (mx_I r4), s3)) else if r2 = Int32.ofNat 3 then (mx_bI none (mx_sem 5 [mx_R 0 35, mx_I x1] s1) fun r6 s5 => some (some (mx_I r6), s5)) else if r2 = Int32.ofNat 4 then (mx_bI none (mx_sem 6 [mx_R 0 35, mx_I x1] s1) fun r8 s7 => some (some (mx_I r8), s7)) else if r2 = Int32.ofNat 5 then (mx_bI none (mx_sem 10 [mx_R 0 35, mx_I x1, mx_I x2] s1) fun r10 s9 => some (some (mx_I r10), s9)) else (mx_bI none (mx_sem 3 [mx_R 0 35, mx_I x1] s1) fun r12 s11 => some (some (mx_I r12), s11))) else (some (some (mx_I 0), s)) := (mx_sem_eq 11 _ s).trans rfl
set_option maxRecDepth 100000 in
set_option maxHeartbeats 4000000 in
theorem e_A_body11 (x1 x2 : Int32) (s : mx_S) : mx_sem 12 [mx_R 0 35, mx_I x1, mx_I x2] s = mx_bV none (mx_sem 0 [mx_R 0 35, mx_I 11] s) fun s1 => mx_bI none (mx_sem 1 [mx_R 0 35, mx_I x1] s1) fun r3 s2 => mx_bI none (mx_sem 11 [mx_R 0 35, mx_I x1, mx_I (x2 + 1)] s2) fun r5 s4 => some (some (mx_I (r3 + r5)), s4) := (mx_sem_eq 12 _ s).trans rfl
set_option maxRecDepth 100000 in
set_option maxHeartbeats 4000000 in
theorem e_A_body12 (x1 x2 : Int32) (s : mx_S) : mx_sem 13 [mx_R 0 35, mx_I x1, mx_I x2] s = mx_bV none (mx_sem 0 [mx_R 0 35, mx_I 12] s) fun s1 => mx_bI none (mx_sem 1 [mx_R 0 35, mx_I x1] s1) fun r3 s2 => mx_bI none (mx_sem 11 [mx_R 0 35, mx_I x1, mx_I (x2 + 1)] s2) fun r5 s4 => some (some (mx_I (r3 - r5)), s4) := (mx_sem_eq 13 _ s).trans rfl
set_option maxRecDepth 100000 in
set_option maxHeartbeats 4000000 in
theorem e_A_size (x1 x2 : Int32) (s : mx_S) : mx_sem 14 [mx_R 0 35, mx_I x1, mx_I x2] s = if x2 ≤ 4 then (mx_bI none (mx_sem 2 [mx_R 0 16, mx_I x1] s) fun r2 s1 => if r2 = Int32.ofNat 1 then (mx_bI none (mx_sem 12 [mx_R 0 35, mx_I x1, mx_I x2] s1) fun r4 s3 => some (some (mx_I r4), s3)) else if r2 = Int32.ofNat 2 then (mx_bI none (mx_sem 13 [mx_R 0 35, mx_I x1, mx_I x2] s1) fun r6 s5 => some (some (mx_I r6), s5)) else if r2 = Int32.ofNat 3 then (mx_bI none (mx_sem 7 [mx_R 0 35, mx_I x1] s1) fun r8 s7 => some (some (mx_I r8), s7)) else if r2 = Int32.ofNat 4 then (mx_bI none (mx_sem 8 [mx_R 0 35, mx_I x1] s1) fun r10 s9 => some (some (mx_I r10), s9)) else (mx_bI none (mx_sem 1 [mx_R 0 35, mx_I x1] s1) fun r12 s11 => some (some (mx_I r12), s11))) else (some (some (mx_I 0), s)) := (mx_sem_eq 14 _ s).trans rfl
set_option maxRecDepth 100000 in
set_option maxHeartbeats 4000000 in
theorem e_J_bitCount (x0 : Int32) (s : mx_S) : mx_sem 15 [mx_I x0] s = some (some (mx_I ((((((((x0 - (((x0.toUInt32 >>> ((1 : Int32).toUInt32 &&& Int32.toUInt32 31)).toInt32) &&& 1431655765)) &&& 858993459) + ((((x0 - (((x0.toUInt32 >>> ((1 : Int32).toUInt32 &&& Int32.toUInt32 31)).toInt32) &&& 1431655765)).toUInt32 >>> ((2 : Int32).toUInt32 &&& Int32.toUInt32 31)).toInt32) &&& 858993459)) + (((((x0 - (((x0.toUInt32 >>> ((1 : Int32).toUInt32 &&& Int32.toUInt32 31)).toInt32) &&& 1431655765)) &&& 858993459) + ((((x0 - (((x0.toUInt32 >>> ((1 : Int32).toUInt32 &&& Int32.toUInt32 31)).toInt32) &&& 1431655765)).toUInt32 >>> ((2 : Int32).toUInt32 &&& Int32.toUInt32 31)).toInt32) &&& 858993459)).toUInt32 >>> ((4 : Int32).toUInt32 &&& Int32.toUInt32 31)).toInt32)) &&& 252645135) + (((((((x0 - (((x0.toUInt32 >>> ((1 : Int32).toUInt32 &&& Int32.toUInt32 31)).toInt32) &&& 1431655765)) &&& 858993459) + ((((x0 - (((x0.toUInt32 >>> ((1 : Int32).toUInt32 &&& Int32.toUInt32 31)).toInt32) &&& 1431655765)).toUInt32 >>> ((2 : Int32).toUInt32 &&& Int32.toUInt32 31)).toInt32) &&& 858993459)) + (((((x0 - (((x0.toUInt32 >>> ((1 : Int32).toUInt32 &&& Int32.toUInt32 31)).toInt32) &&& 1431655765)) &&& 858993459) + ((((x0 - (((x0.toUInt32 >>> ((1 : Int32).toUInt32 &&& Int32.toUInt32 31)).toInt32) &&& 1431655765)).toUInt32 >>> ((2 : Int32).toUInt32 &&& Int32.toUInt32 31)).toInt32) &&& 858993459)).toUInt32 >>> ((4 : Int32).toUInt32 &&& Int32.toUInt32 31)).toInt32)) &&& 252645135).toUInt32 >>> ((8 : Int32).toUInt32 &&& Int32.toUInt32 31)).toInt32)) + ((((((((x0 - (((x0.toUInt32 >>> ((1 : Int32).toUInt32 &&& Int32.toUInt32 31)).toInt32) &&& 1431655765)) &&& 858993459) + ((((x0 - (((x0.toUInt32 >>> ((1 : Int32).toUInt32 &&& Int32.toUInt32 31)).toInt32) &&& 1431655765)).toUInt32 >>> ((2 : Int32).toUInt32 &&& Int32.toUInt32 31)).toInt32) &&& 858993459)) + (((((x0 - (((x0.toUInt32 >>> ((1 : Int32).toUInt32 &&& Int32.toUInt32 31)).toInt32) &&& 1431655765)) &&& 858993459) + ((((x0 - (((x0.toUInt32 >>> ((1 : Int32).toUInt32 &&& Int32.toUInt32 31)).toInt32) &&& 1431655765)).toUInt32 >>> ((2 : Int32).toUInt32 &&& Int32.toUInt32 31)).toInt32) &&& 858993459)).toUInt32 >>> ((4 : Int32).toUInt32 &&& Int32.toUInt32 31)).toInt32)) &&& 252645135) + (((((((x0 - (((x0.toUInt32 >>> ((1 : Int32).toUInt32 &&& Int32.toUInt32 31)).toInt32) &&& 1431655765)) &&& 858993459) + ((((x0 - (((x0.toUInt32 >>> ((1 : Int32).toUInt32 &&& Int32.toUInt32 31)).toInt32) &&& 1431655765)).toUInt32 >>> ((2 : Int32).toUInt32 &&& Int32.toUInt32 31)).toInt32) &&& 858993459)) + (((((x0 - (((x0.toUInt32 >>> ((1 : Int32).toUInt32 &&& Int32.toUInt32 31)).toInt32) &&& 1431655765)) &&& 858993459) + ((((x0 - (((x0.toUInt32 >>> ((1 : Int32).toUInt32 &&& Int32.toUInt32 31)).toInt32) &&& 1431655765)).toUInt32 >>> ((2 : Int32).toUInt32 &&& Int32.toUInt32 31)).toInt32) &&& 858993459)).toUInt32 >>> ((4 : Int32).toUInt32 &&& Int32.toUInt32 31)).toInt32)) &&& 252645135).toUInt32 >>> ((8 : Int32).toUInt32 &&& Int32.toUInt32 31)).toInt32)).toUInt32 >>> ((16 : Int32).toUInt32 &&& Int32.toUInt32 31)).toInt32)) &&& 63)), s) := (mx_sem_eq 15 _ s).trans rfl
set_option maxRecDepth 100000 in
set_option maxHeartbeats 4000000 in
theorem e_C_allMissed (k0 : Nat) (s : mx_S) : mx_sem 16 [mx_R k0 16] s = mx_H 16 5 [some (mx_R k0 16), some (mx_I 0), some (mx_I 0)] s := (mx_sem_eq 16 _ s).trans rfl
set_option maxRecDepth 100000 in
set_option maxHeartbeats 4000000 in
theorem e_C_allMissed_5 (k0 : Nat) (x1 x2 : Int32) (s : mx_S) : mx_H 16 5 [some (mx_R k0 16), some (mx_I x1), some (mx_I x2)] s = if (s k0 1 17) ≤ x2 then (some (some (mx_I x1), s)) else (mx_g none x2 30 fun j1 => mx_bI none (mx_sem 15 [mx_I (s k0 22 j1)] s) fun r3 s2 => mx_H 16 5 [some (mx_R k0 16), some (mx_I (x1 + r3)), some (mx_I (x2 + 1))] s2) := (mx_H_eq 16 5 _ s).trans rfl
set_option maxRecDepth 100000 in
set_option maxHeartbeats 4000000 in
theorem e_C_allSaw (k0 : Nat) (s : mx_S) : mx_sem 17 [mx_R k0 16] s = mx_H 17 5 [some (mx_R k0 16), some (mx_I 0), some (mx_I 0)] s := (mx_sem_eq 17 _ s).trans rfl
set_option maxRecDepth 100000 in
set_option maxHeartbeats 4000000 in
theorem e_C_allSaw_5 (k0 : Nat) (x1 x2 : Int32) (s : mx_S) : mx_H 17 5 [some (mx_R k0 16), some (mx_I x1), some (mx_I x2)] s = if (s k0 1 17) ≤ x2 then (some (some (mx_I x1), s)) else (mx_g none x2 30 fun j1 => mx_H 17 5 [some (mx_R k0 16), some (mx_I (x1 + (s k0 20 j1))), some (mx_I (x2 + 1))] s) := (mx_H_eq 17 5 _ s).trans rfl
set_option maxRecDepth 100000 in
set_option maxHeartbeats 4000000 in
theorem e_C_begin (k0 : Nat) (x1 : Int32) (s : mx_S) : mx_sem 19 [mx_R k0 16, mx_I x1] s = mx_w (mx_up s k0 16 2 0) fun s1 => mx_w (mx_up s1 k0 16 3 0) fun s2 => mx_H 19 11 [some (mx_R k0 16), some (mx_I x1), some (mx_I 0), some (mx_I 0), none] s2 := (mx_sem_eq 19 _ s).trans rfl
set_option maxRecDepth 100000 in
set_option maxHeartbeats 4000000 in
theorem e_C_begin_11 (k0 : Nat) (x1 x2 x3 : Int32) (s : mx_S) : mx_H 19 11 [some (mx_R k0 16), some (mx_I x1), some (mx_I x2), some (mx_I x3), none] s = if (s k0 1 12) ≤ x3 then (mx_bV none (mx_sem 18 [mx_R k0 18, mx_I (-1)] s) fun s1 => mx_bV none (mx_sem 18 [mx_R k0 20, mx_I 0] s1) fun s2 => mx_bV none (mx_sem 18 [mx_R k0 21, mx_I x1] s2) fun s3 => mx_bV none (mx_sem 18 [mx_R k0 22, mx_I 0] s3) fun s4 => mx_bV none (mx_sem 18 [mx_R k0 23, mx_I (-1)] s4) fun s5 => mx_bV none (mx_sem 18 [mx_R k0 24, mx_I 0] s5) fun s6 => mx_bV none (mx_sem 18 [mx_R k0 25, mx_I 0] s6) fun s7 => mx_bV none (mx_sem 18 [mx_R k0 26, mx_I 0] s7) fun s8 => some (none, s8)) else (mx_H 19 19 [some (mx_R k0 16), some (mx_I x1), some (mx_I x2), some (mx_I x3), some (mx_I 0)] s) := (mx_H_eq 19 11 _ s).trans rfl
set_option maxRecDepth 100000 in
set_option maxHeartbeats 4000000 in
theorem e_C_begin_19 (k0 : Nat) (x1 x2 x3 x4 : Int32) (s : mx_S) : mx_H 19 19 [some (mx_R k0 16), some (mx_I x1), some (mx_I x2), some (mx_I x3), some (mx_I x4)] s = mx_g none x3 6 fun j1 => if (s k0 9 j1) ≤ x4 then (mx_H 19 11 [some (mx_R k0 16), some (mx_I x1), some (mx_I x2), some (mx_I (x3 + 1)), none] s) else (if 30 ≤ x2 then (mx_H 19 11 [some (mx_R k0 16), some (mx_I x1), some (mx_I x2), some (mx_I (x3 + 1)), none] s) else (mx_g none x2 30 fun j2 => mx_w (mx_up s k0 17 j2 x3) fun s3 => mx_g none x3 6 fun j4 => mx_g none x2 30 fun j5 => mx_w (mx_up s3 k0 19 j5 (s3 k0 12 j4)) fun s6 => mx_H 19 19 [some (mx_R k0 16), some (mx_I x1), some (mx_I (x2 + 1)), some (mx_I x3), some (mx_I (x4 + 1))] s6)) := (mx_H_eq 19 19 _ s).trans rfl
set_option maxRecDepth 100000 in
set_option maxHeartbeats 4000000 in
theorem e_C_chooseAim (k0 : Nat) (x1 : Int32) (s : mx_S) : mx_sem 20 [mx_R k0 16, mx_I x1] s = mx_g none x1 30 fun j1 => mx_g none (s k0 17 j1) 6 fun j2 => mx_H 20 16 [some (mx_R k0 16), some (mx_I x1), some (mx_I (s k0 11 j2)), some (mx_I (-1)), some (mx_I 0), some (mx_I 0), none, none] s := (mx_sem_eq 20 _ s).trans rfl
set_option maxRecDepth 100000 in
set_option maxHeartbeats 4000000 in
theorem e_C_chooseAim_16 (k0 : Nat) (x1 x2 x3 x4 x5 : Int32) (s : mx_S) : mx_H 20 16 [some (mx_R k0 16), some (mx_I x1), some (mx_I x2), some (mx_I x3), some (mx_I x4), some (mx_I x5), none, none] s = if (s k0 1 8) ≤ x5 then (some (some (mx_I x3), s)) else (mx_g none x1 30 fun j1 => mx_g none x5 8 fun j2 => mx_g none (((s k0 18 j1) * 6) + (s k0 6 j2)) 36 fun j3 => if (s k0 14 j3) = 1000 then (mx_H 20 16 [some (mx_R k0 16), some (mx_I x1), some (mx_I x2), some (mx_I x3), some (mx_I x4), some (mx_I (x5 + 1)), none, none] s) else (mx_g none x1 30 fun j4 => if (((s k0 21 j4) >>> (x5 &&& 31)) &&& 1) = 1 then (mx_H 20 16 [some (mx_R k0 16), some (mx_I x1), some (mx_I x2), some (mx_I x3), some (mx_I x4), some (mx_I (x5 + 1)), none, none] s) else (if x2 = 2 then (some (some (mx_I x5), s)) else (if x2 = 0 then (if x5 = 0 then (some (some (mx_I x5), s)) else (mx_g none x5 8 fun j6 => if x3 = (-1) then (mx_H 20 16 [some (mx_R k0 16), some (mx_I x1), some (mx_I x2), some (mx_I x5), some (mx_I ((s k0 7 j6) - (((5 : Int32)) * (s k0 14 j3)))), some (mx_I (x5 + 1)), none, none] s) else (if ((s k0 7 j6) - (((5 : Int32)) * (s k0 14 j3))) ≤ x4 then (mx_H 20 16 [some (mx_R k0 16), some (mx_I x1), some (mx_I x2), some (mx_I x3), some (mx_I x4), some (mx_I (x5 + 1)), none, none] s) else (mx_H 20 16 [some (mx_R k0 16), some (mx_I x1), some (mx_I x2), some (mx_I x5), some (mx_I ((s k0 7 j6) - (((5 : Int32)) * (s k0 14 j3)))), some (mx_I (x5 + 1)), none, none] s)))) else (mx_g none x5 8 fun j5 => if x3 = (-1) then (mx_H 20 16 [some (mx_R k0 16), some (mx_I x1), some (mx_I x2), some (mx_I x5), some (mx_I ((s k0 7 j5) - (((5 : Int32)) * (s k0 14 j3)))), some (mx_I (x5 + 1)), none, none] s) else (if ((s k0 7 j5) - (((5 : Int32)) * (s k0 14 j3))) ≤ x4 then (mx_H 20 16 [some (mx_R k0 16), some (mx_I x1), some (mx_I x2), some (mx_I x3), some (mx_I x4), some (mx_I (x5 + 1)), none, none] s) else (mx_H 20 16 [some (mx_R k0 16), some (mx_I x1), some (mx_I x2), some (mx_I x5), some (mx_I ((s k0 7 j5) - (((5 : Int32)) * (s k0 14 j3)))), some (mx_I (x5 + 1)), none, none] s))))))) := (mx_H_eq 20 16 _ s).trans rfl
set_option maxRecDepth 100000 in
set_option maxHeartbeats 4000000 in
theorem e_X_isBelow (x0 x1 : Int32) (s : mx_S) : mx_sem 21 [mx_I x0, mx_I x1] s = if x0 < 0 then (some (some (mx_I 0), s)) else (if x1 ≤ x0 then (some (some (mx_I 0), s)) else (some (some (mx_I 1), s))) := (mx_sem_eq 21 _ s).trans rfl
set_option maxRecDepth 100000 in
set_option maxHeartbeats 4000000 in
theorem e_C_enter (k0 : Nat) (x1 x2 : Int32) (s : mx_S) : mx_sem 22 [mx_R k0 16, mx_I x1, mx_I x2] s = mx_bI none (mx_sem 21 [mx_I x2, mx_I (s k0 1 2)] s) fun r2 s1 => if r2 = 0 then (some (some (mx_I 0), s1)) else (mx_g none x2 6 fun j3 => mx_g none x2 6 fun j4 => if (s1 k0 25 j3) < (s1 k0 2 j4) then (mx_g none x2 6 fun j5 => mx_g none x2 6 fun j6 => mx_w (mx_up s1 k0 25 j6 ((s1 k0 25 j5) + 1)) fun s7 => mx_g none x1 30 fun j8 => mx_w (mx_up s7 k0 18 j8 x2) fun s9 => mx_bI none (mx_sem 20 [mx_R k0 16, mx_I x1] s9) fun r11 s10 => mx_g none x1 30 fun j12 => mx_w (mx_up s10 k0 23 j12 r11) fun s13 => some (some (mx_I 1), s13)) else (some (some (mx_I 0), s1))) := (mx_sem_eq 22 _ s).trans rfl
set_option maxRecDepth 100000 in
set_option maxHeartbeats 4000000 in
theorem e_C_leave (k0 : Nat) (x1 : Int32) (s : mx_S) : mx_sem 23 [mx_R k0 16, mx_I x1] s = mx_g none x1 30 fun j1 => mx_w (mx_up s k0 18 j1 (-2)) fun s2 => mx_w (mx_up s2 k0 16 3 ((s2 k0 16 3) + 1)) fun s3 => some (none, s3) := (mx_sem_eq 23 _ s).trans rfl
set_option maxRecDepth 100000 in
set_option maxHeartbeats 4000000 in
theorem e_C_waitOn (k0 : Nat) (x1 : Int32) (s : mx_S) : mx_sem 24 [mx_R k0 16, mx_I x1] s = mx_g none x1 30 fun j1 => mx_w (mx_up s k0 26 j1 3) fun s2 => mx_g none x1 30 fun j3 => if (s2 k0 19 j3) ≤ 0 then (mx_g none x1 30 fun j4 => if (s2 k0 18 j4) = (-1) then (mx_bV none (mx_sem 23 [mx_R k0 16, mx_I x1] s2) fun s14 => some (none, s14)) else (mx_g none x1 30 fun j5 => if (s2 k0 23 j5) = (-1) then (some (none, s2)) else (mx_g none x1 30 fun j6 => mx_g none x1 30 fun j7 => mx_g none x1 30 fun j8 => mx_w (mx_up s2 k0 22 j8 ((s2 k0 22 j6) ||| (((1 : Int32)) <<< ((s2 k0 23 j7) &&& 31)))) fun s9 => mx_g none x1 30 fun j10 => mx_g none x1 30 fun j11 => mx_g none x1 30 fun j12 => mx_w (mx_up s9 k0 21 j12 ((s9 k0 21 j10) ||| (((1 : Int32)) <<< ((s9 k0 23 j11) &&& 31)))) fun s13 => some (none, s13)))) else (mx_g none x1 30 fun j15 => mx_g none x1 30 fun j16 => mx_w (mx_up s2 k0 19 j16 ((s2 k0 19 j15) - 1)) fun s17 => some (none, s17)) := (mx_sem_eq 24 _ s).trans rfl
set_option maxRecDepth 100000 in
set_option maxHeartbeats 4000000 in
theorem e_C_comeIn (k0 : Nat) (x1 : Int32) (s : mx_S) : mx_sem 25 [mx_R k0 16, mx_I x1] s = mx_g none x1 30 fun j1 => mx_g none (s k0 17 j1) 6 fun j2 => if (s k0 16 2) < (s k0 10 j2) then (some (none, s)) else (mx_bI none (mx_sem 22 [mx_R k0 16, mx_I x1, mx_I 0] s) fun r4 s3 => if r4 = 0 then (mx_bV none (mx_sem 24 [mx_R k0 16, mx_I x1] s3) fun s5 => some (none, s5)) else (some (none, s3))) := (mx_sem_eq 25 _ s).trans rfl
set_option maxRecDepth 100000 in
set_option maxHeartbeats 4000000 in
theorem e_C_lookAt (k0 : Nat) (x1 x2 : Int32) (s : mx_S) : mx_sem 26 [mx_R k0 16, mx_I x1, mx_I x2] s = mx_g none x2 8 fun j1 => if (s k0 1 0) ≤ (s k0 27 j1) then (mx_g none x2 8 fun j2 => mx_g none x2 8 fun j3 => mx_w (mx_up s k0 27 j3 ((s k0 27 j2) + 1)) fun s4 => mx_g none x1 30 fun j5 => mx_w (mx_up s4 k0 26 j5 2) fun s6 => mx_g none x1 30 fun j7 => mx_g none x2 8 fun j8 => mx_g none x1 30 fun j9 => mx_w (mx_up s6 k0 20 j9 ((s6 k0 20 j7) + (((4 : Int32)) * (s6 k0 7 j8)))) fun s10 => mx_g none ((x1 * 8) + x2) 240 fun j11 => mx_g none ((x1 * 8) + x2) 240 fun j12 => mx_w (mx_up s10 k0 24 j12 ((s10 k0 24 j11) + 1)) fun s13 => mx_g none ((x1 * 8) + x2) 240 fun j14 => mx_g none x2 8 fun j15 => if (s13 k0 8 j15) ≤ (s13 k0 24 j14) then (mx_g none x1 30 fun j16 => mx_g none x1 30 fun j17 => mx_w (mx_up s13 k0 21 j17 ((s13 k0 21 j16) ||| (((1 : Int32)) <<< (x2 &&& 31)))) fun s18 => some (none, s18)) else (if (s13 k0 1 1) ≤ 0 then (some (none, s13)) else (mx_g none ((x1 * 8) + x2) 240 fun j19 => if (s13 k0 24 j19) < (s13 k0 1 1) then (some (none, s13)) else (mx_g none x1 30 fun j20 => mx_g none x1 30 fun j21 => mx_w (mx_up s13 k0 21 j21 ((s13 k0 21 j20) ||| (((1 : Int32)) <<< (x2 &&& 31)))) fun s22 => some (none, s22))))) else (mx_g none x2 8 fun j23 => mx_g none x2 8 fun j24 => mx_w (mx_up s k0 27 j24 ((s k0 27 j23) + 1)) fun s25 => mx_g none x1 30 fun j26 => mx_w (mx_up s25 k0 26 j26 1) fun s27 => mx_g none x1 30 fun j28 => mx_g none x2 8 fun j29 => mx_g none x1 30 fun j30 => mx_w (mx_up s27 k0 20 j30 ((s27 k0 20 j28) + (((10 : Int32)) * (s27 k0 7 j29)))) fun s31 => mx_g none ((x1 * 8) + x2) 240 fun j32 => mx_g none ((x1 * 8) + x2) 240 fun j33 => mx_w (mx_up s31 k0 24 j33 ((s31 k0 24 j32) + 1)) fun s34 => mx_g none ((x1 * 8) + x2) 240 fun j35 => mx_g none x2 8 fun j36 => if (s34 k0 8 j36) ≤ (s34 k0 24 j35) then (mx_g none x1 30 fun j37 => mx_g none x1 30 fun j38 => mx_w (mx_up s34 k0 21 j38 ((s34 k0 21 j37) ||| (((1 : Int32)) <<< (x2 &&& 31)))) fun s39 => some (none, s39)) else (if (s34 k0 1 1) ≤ 0 then (some (none, s34)) else (mx_g none ((x1 * 8) + x2) 240 fun j40 => if (s34 k0 24 j40) < (s34 k0 1 1) then (some (none, s34)) else (mx_g none x1 30 fun j41 => mx_g none x1 30 fun j42 => mx_w (mx_up s34 k0 21 j42 ((s34 k0 21 j41) ||| (((1 : Int32)) <<< (x2 &&& 31)))) fun s43 => some (none, s43))))) := (mx_sem_eq 26 _ s).trans rfl
set_option maxRecDepth 100000 in
set_option maxHeartbeats 4000000 in
theorem e_C_goAbout (k0 : Nat) (x1 : Int32) (s : mx_S) : mx_sem 27 [mx_R k0 16, mx_I x1] s = mx_g none x1 30 fun j1 => mx_g none x1 30 fun j2 => if (s k0 23 j2) = (-1) then (mx_g none (s k0 18 j1) 6 fun j30 => mx_g none (s k0 18 j1) 6 fun j31 => mx_w (mx_up s k0 25 j31 ((s k0 25 j30) - 1)) fun s32 => mx_bV none (mx_sem 23 [mx_R k0 16, mx_I x1] s32) fun s33 => some (none, s33)) else (mx_g none x1 30 fun j3 => mx_g none x1 30 fun j4 => mx_g none (s k0 23 j4) 8 fun j5 => if (s k0 6 j5) = (s k0 18 j1) then (mx_g none x1 30 fun j23 => mx_bV none (mx_sem 26 [mx_R k0 16, mx_I x1, mx_I (s k0 23 j23)] s) fun s24 => mx_g none x1 30 fun j25 => if (s24 k0 21 j25) = (s k0 21 j3) then (some (none, s24)) else (mx_bI none (mx_sem 20 [mx_R k0 16, mx_I x1] s24) fun r27 s26 => mx_g none x1 30 fun j28 => mx_w (mx_up s26 k0 23 j28 r27) fun s29 => some (none, s29))) else (mx_g none (((s k0 18 j1) * 6) + (s k0 6 j5)) 36 fun j6 => mx_bI none (mx_sem 22 [mx_R k0 16, mx_I x1, mx_I (s k0 15 j6)] s) fun r8 s7 => if r8 = 0 then (mx_bV none (mx_sem 24 [mx_R k0 16, mx_I x1] s7) fun s9 => mx_g none x1 30 fun j10 => if (s9 k0 21 j10) = (s k0 21 j3) then (some (none, s9)) else (mx_bI none (mx_sem 20 [mx_R k0 16, mx_I x1] s9) fun r12 s11 => mx_g none x1 30 fun j13 => mx_w (mx_up s11 k0 23 j13 r12) fun s14 => some (none, s14))) else (mx_g none (s k0 18 j1) 6 fun j15 => mx_g none (s k0 18 j1) 6 fun j16 => mx_w (mx_up s7 k0 25 j16 ((s7 k0 25 j15) - 1)) fun s17 => mx_g none x1 30 fun j18 => if (s17 k0 21 j18) = (s k0 21 j3) then (some (none, s17)) else (mx_bI none (mx_sem 20 [mx_R k0 16, mx_I x1] s17) fun r20 s19 => mx_g none x1 30 fun j21 => mx_w (mx_up s19 k0 23 j21 r20) fun s22 => some (none, s22))))) := (mx_sem_eq 27 _ s).trans rfl
set_option maxRecDepth 100000 in
set_option maxHeartbeats 4000000 in
theorem e_C_leastSaw (k0 : Nat) (s : mx_S) : mx_sem 28 [mx_R k0 16] s = mx_g none 0 30 fun j1 => mx_H 28 8 [some (mx_R k0 16), some (mx_I (s k0 20 j1)), some (mx_I 1)] s := (mx_sem_eq 28 _ s).trans rfl
set_option maxRecDepth 100000 in
set_option maxHeartbeats 4000000 in
theorem e_C_leastSaw_8 (k0 : Nat) (x1 x2 : Int32) (s : mx_S) : mx_H 28 8 [some (mx_R k0 16), some (mx_I x1), some (mx_I x2)] s = if (s k0 1 17) ≤ x2 then (some (some (mx_I x1), s)) else (mx_g none x2 30 fun j1 => mx_H 28 8 [some (mx_R k0 16), some (mx_I (if (s k0 20 j1) < x1 then (s k0 20 j1) else x1)), some (mx_I (x2 + 1))] s) := (mx_H_eq 28 8 _ s).trans rfl
set_option maxRecDepth 100000 in
set_option maxHeartbeats 4000000 in
theorem e_C_passMinute (k0 : Nat) (s : mx_S) : mx_sem 29 [mx_R k0 16] s = mx_bV none (mx_sem 18 [mx_R k0 27, mx_I 0] s) fun s1 => mx_H 29 7 [some (mx_R k0 16), some (mx_I 0)] s1 := (mx_sem_eq 29 _ s).trans rfl
set_option maxRecDepth 100000 in
set_option maxHeartbeats 4000000 in
theorem e_C_passMinute_7 (k0 : Nat) (x1 : Int32) (s : mx_S) : mx_H 29 7 [some (mx_R k0 16), some (mx_I x1)] s = if (s k0 1 17) ≤ x1 then (mx_w (mx_up s k0 16 2 ((s k0 16 2) + 1)) fun s1 => some (none, s1)) else (mx_g none x1 30 fun j2 => mx_w (mx_up s k0 26 j2 0) fun s3 => mx_g none x1 30 fun j4 => if (s3 k0 18 j4) = (-1) then (mx_bV none (mx_sem 25 [mx_R k0 16, mx_I x1] s3) fun s7 => mx_H 29 7 [some (mx_R k0 16), some (mx_I (x1 + 1))] s7) else (mx_g none x1 30 fun j5 => if (s3 k0 18 j5) = (-2) then (mx_H 29 7 [some (mx_R k0 16), some (mx_I (x1 + 1))] s3) else (mx_bV none (mx_sem 27 [mx_R k0 16, mx_I x1] s3) fun s6 => mx_H 29 7 [some (mx_R k0 16), some (mx_I (x1 + 1))] s6))) := (mx_H_eq 29 7 _ s).trans rfl
set_option maxRecDepth 100000 in
set_option maxHeartbeats 4000000 in
theorem e_C_takeOver (k0 k1 : Nat) (s : mx_S) : mx_sem 30 [mx_R k0 16, mx_R k1 16] s = mx_w (mx_up s k0 16 2 (s k1 16 2)) fun s1 => mx_w (mx_up s1 k0 16 3 (s1 k1 16 3)) fun s2 => mx_c s2 ((0 : Int32)) ((0 : Int32)) k1 17 ((30 : Int32)) k0 17 none fun s3 => mx_c s3 ((0 : Int32)) ((0 : Int32)) k1 18 ((30 : Int32)) k0 18 none fun s4 => mx_c s4 ((0 : Int32)) ((0 : Int32)) k1 19 ((30 : Int32)) k0 19 none fun s5 => mx_c s5 ((0 : Int32)) ((0 : Int32)) k1 20 ((30 : Int32)) k0 20 none fun s6 => mx_c s6 ((0 : Int32)) ((0 : Int32)) k1 21 ((30 : Int32)) k0 21 none fun s7 => mx_c s7 ((0 : Int32)) ((0 : Int32)) k1 22 ((30 : Int32)) k0 22 none fun s8 => mx_c s8 ((0 : Int32)) ((0 : Int32)) k1 23 ((30 : Int32)) k0 23 none fun s9 => mx_c s9 ((0 : Int32)) ((0 : Int32)) k1 24 (Int32.ofNat 240) k0 24 none fun s10 => mx_c s10 ((0 : Int32)) ((0 : Int32)) k1 25 ((6 : Int32)) k0 25 none fun s11 => mx_c s11 ((0 : Int32)) ((0 : Int32)) k1 26 ((30 : Int32)) k0 26 none fun s12 => some (none, s12) := (mx_sem_eq 30 _ s).trans rfl
set_option maxRecDepth 100000 in
set_option maxHeartbeats 4000000 in
theorem e_H_seenInDay (k0 : Nat) (x1 x2 x3 : Int32) (s : mx_S) : mx_sem 31 [mx_R k0 0, mx_I x1, mx_I x2, mx_I x3] s = mx_bV none (mx_sem 19 [mx_R k0 16, mx_I x3] s) fun s1 => mx_H 31 7 [some (mx_R k0 0), some (mx_I x1), some (mx_I x2), none, some (mx_I 0)] s1 := (mx_sem_eq 31 _ s).trans rfl
set_option maxRecDepth 100000 in
set_option maxHeartbeats 4000000 in
theorem e_H_seenInDay_7 (k0 : Nat) (x1 x2 x4 : Int32) (s : mx_S) : mx_H 31 7 [some (mx_R k0 0), some (mx_I x1), some (mx_I x2), none, some (mx_I x4)] s = if x1 ≤ x4 then (if x2 = Int32.ofNat 0 then (mx_bI none (mx_sem 17 [mx_R k0 16] s) fun r2 s1 => some (some (mx_I r2), s1)) else if x2 = Int32.ofNat 1 then (mx_bI none (mx_sem 28 [mx_R k0 16] s) fun r4 s3 => some (some (mx_I r4), s3)) else (mx_bI none (mx_sem 16 [mx_R k0 16] s) fun r6 s5 => some (some (mx_I r6), s5))) else (if (s k0 1 17) ≤ (s k0 16 3) then (if x2 = Int32.ofNat 0 then (mx_bI none (mx_sem 17 [mx_R k0 16] s) fun r8 s7 => some (some (mx_I r8), s7)) else if x2 = Int32.ofNat 1 then (mx_bI none (mx_sem 28 [mx_R k0 16] s) fun r10 s9 => some (some (mx_I r10), s9)) else (mx_bI none (mx_sem 16 [mx_R k0 16] s) fun r12 s11 => some (some (mx_I r12), s11))) else (mx_bV none (mx_sem 29 [mx_R k0 16] s) fun s13 => mx_H 31 7 [some (mx_R k0 0), some (mx_I x1), some (mx_I x2), none, some (mx_I (x4 + 1))] s13)) := (mx_H_eq 31 7 _ s).trans rfl
set_option maxRecDepth 100000 in
set_option maxHeartbeats 4000000 in
theorem e_P_takeOver (k0 k1 : Nat) (s : mx_S) : mx_sem 32 [mx_R k0 1, mx_R k1 1] s = mx_w (mx_up s k0 1 0 (s k1 1 0)) fun s1 => mx_w (mx_up s1 k0 1 1 (s1 k1 1 1)) fun s2 => mx_w (mx_up s2 k0 1 2 (s2 k1 1 2)) fun s3 => mx_w (mx_up s3 k0 1 4 (s3 k1 1 4)) fun s4 => mx_w (mx_up s4 k0 1 8 (s4 k1 1 8)) fun s5 => mx_w (mx_up s5 k0 1 12 (s5 k1 1 12)) fun s6 => mx_w (mx_up s6 k0 1 17 (s6 k1 1 17)) fun s7 => mx_c s7 ((0 : Int32)) ((0 : Int32)) k1 2 ((6 : Int32)) k0 2 none fun s8 => mx_c s8 ((0 : Int32)) ((0 : Int32)) k1 3 ((9 : Int32)) k0 3 none fun s9 => mx_c s9 ((0 : Int32)) ((0 : Int32)) k1 4 ((9 : Int32)) k0 4 none fun s10 => mx_c s10 ((0 : Int32)) ((0 : Int32)) k1 5 ((9 : Int32)) k0 5 none fun s11 => mx_c s11 ((0 : Int32)) ((0 : Int32)) k1 6 ((8 : Int32)) k0 6 none fun s12 => mx_c s12 ((0 : Int32)) ((0 : Int32)) k1 7 ((8 : Int32)) k0 7 none fun s13 => mx_c s13 ((0 : Int32)) ((0 : Int32)) k1 8 ((8 : Int32)) k0 8 none fun s14 => mx_c s14 ((0 : Int32)) ((0 : Int32)) k1 9 ((6 : Int32)) k0 9 none fun s15 => mx_c s15 ((0 : Int32)) ((0 : Int32)) k1 10 ((6 : Int32)) k0 10 none fun s16 => mx_c s16 ((0 : Int32)) ((0 : Int32)) k1 11 ((6 : Int32)) k0 11 none fun s17 => mx_c s17 ((0 : Int32)) ((0 : Int32)) k1 12 ((6 : Int32)) k0 12 none fun s18 => some (none, s18) := (mx_sem_eq 32 _ s).trans rfl
set_option maxRecDepth 100000 in
set_option maxHeartbeats 4000000 in
theorem e_W_takeOver (k0 k1 : Nat) (s : mx_S) : mx_sem 33 [mx_R k0 13, mx_R k1 13] s = mx_c s ((0 : Int32)) ((0 : Int32)) k1 14 (Int32.ofNat 36) k0 14 none fun s1 => mx_c s1 ((0 : Int32)) ((0 : Int32)) k1 15 (Int32.ofNat 36) k0 15 none fun s2 => some (none, s2) := (mx_sem_eq 33 _ s).trans rfl
set_option maxRecDepth 100000 in
set_option maxHeartbeats 4000000 in
theorem e_H_takePlan (k0 k1 : Nat) (s : mx_S) : mx_sem 34 [mx_R k0 0, mx_R k1 0] s = mx_bV none (mx_sem 32 [mx_R k0 1, mx_R k1 1] s) fun s1 => mx_bV none (mx_sem 33 [mx_R k0 13, mx_R k1 13] s1) fun s2 => some (none, s2) := (mx_sem_eq 34 _ s).trans rfl
set_option maxRecDepth 100000 in
set_option maxHeartbeats 4000000 in
theorem e_H_takeAll (k0 k1 : Nat) (s : mx_S) : mx_sem 35 [mx_R k0 0, mx_R k1 0] s = mx_bV none (mx_sem 34 [mx_R k0 0, mx_R k1 0] s) fun s1 => mx_bV none (mx_sem 30 [mx_R k0 16, mx_R k1 16] s1) fun s2 => some (none, s2) := (mx_sem_eq 35 _ s).trans rfl
set_option maxRecDepth 100000 in
set_option maxHeartbeats 4000000 in
theorem e_P_addDoor (k0 : Nat) (x1 x2 x3 : Int32) (s : mx_S) : mx_sem 43 [mx_R k0 1, mx_I x1, mx_I x2, mx_I x3] s = if 9 ≤ (s k0 1 4) then (some (none, s)) else (mx_g none (s k0 1 4) 9 fun j1 => mx_w (mx_up s k0 3 j1 x1) fun s2 => mx_g none (s2 k0 1 4) 9 fun j3 => mx_w (mx_up s2 k0 4 j3 x2) fun s4 => if x3 = 0 then (mx_g none (s4 k0 1 4) 9 fun j5 => mx_w (mx_up s4 k0 5 j5 0) fun s6 => mx_w (mx_up s6 k0 1 4 ((s6 k0 1 4) + 1)) fun s7 => some (none, s7)) else (mx_g none (s4 k0 1 4) 9 fun j8 => mx_w (mx_up s4 k0 5 j8 1) fun s9 => mx_w (mx_up s9 k0 1 4 ((s9 k0 1 4) + 1)) fun s10 => some (none, s10))) := (mx_sem_eq 43 _ s).trans rfl
set_option maxRecDepth 100000 in
set_option maxHeartbeats 4000000 in
theorem e_P_addGroup (k0 : Nat) (x1 x2 x3 x4 : Int32) (s : mx_S) : mx_sem 44 [mx_R k0 1, mx_I x1, mx_I x2, mx_I x3, mx_I x4] s = if 6 ≤ (s k0 1 12) then (some (none, s)) else (if 30 < ((s k0 1 17) + x1) then (some (none, s)) else (mx_g none (s k0 1 12) 6 fun j1 => mx_w (mx_up s k0 9 j1 x1) fun s2 => mx_g none (s2 k0 1 12) 6 fun j3 => mx_w (mx_up s2 k0 10 j3 x2) fun s4 => mx_g none (s4 k0 1 12) 6 fun j5 => mx_w (mx_up s4 k0 11 j5 x3) fun s6 => mx_g none (s6 k0 1 12) 6 fun j7 => mx_w (mx_up s6 k0 12 j7 x4) fun s8 => mx_w (mx_up s8 k0 1 12 ((s8 k0 1 12) + 1)) fun s9 => mx_w (mx_up s9 k0 1 17 ((s9 k0 1 17) + x1)) fun s10 => some (none, s10))) := (mx_sem_eq 44 _ s).trans rfl
set_option maxRecDepth 100000 in
set_option maxHeartbeats 4000000 in
theorem e_P_addPicture (k0 : Nat) (x1 x2 : Int32) (s : mx_S) : mx_sem 45 [mx_R k0 1, mx_I x1, mx_I x2] s = if 8 ≤ (s k0 1 8) then (some (none, s)) else (mx_g none (s k0 1 8) 8 fun j1 => mx_w (mx_up s k0 6 j1 x1) fun s2 => mx_g none (s2 k0 1 8) 8 fun j3 => mx_w (mx_up s2 k0 7 j3 x2) fun s4 => mx_d none ((10 : Int32)) (mx_g none (s4 k0 1 8) 8 fun j5 => mx_w (mx_up s4 k0 8 j5 (((2 : Int32)) + (x2 / 10))) fun s6 => mx_w (mx_up s6 k0 1 8 ((s6 k0 1 8) + 1)) fun s7 => some (none, s7))) := (mx_sem_eq 45 _ s).trans rfl
set_option maxRecDepth 100000 in
set_option maxHeartbeats 4000000 in
theorem e_P_addRoom (k0 : Nat) (x1 : Int32) (s : mx_S) : mx_sem 46 [mx_R k0 1, mx_I x1] s = if 6 ≤ (s k0 1 2) then (some (none, s)) else (mx_g none (s k0 1 2) 6 fun j1 => mx_w (mx_up s k0 2 j1 x1) fun s2 => mx_w (mx_up s2 k0 1 2 ((s2 k0 1 2) + 1)) fun s3 => some (none, s3)) := (mx_sem_eq 46 _ s).trans rfl
set_option maxRecDepth 100000 in
set_option maxHeartbeats 4000000 in
theorem e_P_clear (k0 : Nat) (s : mx_S) : mx_sem 47 [mx_R k0 1] s = mx_w (mx_up s k0 1 2 0) fun s1 => mx_w (mx_up s1 k0 1 4 0) fun s2 => mx_w (mx_up s2 k0 1 8 0) fun s3 => mx_w (mx_up s3 k0 1 12 0) fun s4 => mx_w (mx_up s4 k0 1 17 0) fun s5 => some (none, s5) := (mx_sem_eq 47 _ s).trans rfl
set_option maxRecDepth 100000 in
set_option maxHeartbeats 4000000 in
theorem e_X_isWithin (x0 x1 x2 : Int32) (s : mx_S) : mx_sem 48 [mx_I x0, mx_I x1, mx_I x2] s = if x0 < x1 then (some (some (mx_I 0), s)) else (if x2 < x0 then (some (some (mx_I 0), s)) else (some (some (mx_I 1), s))) := (mx_sem_eq 48 _ s).trans rfl
set_option maxRecDepth 100000 in
set_option maxHeartbeats 4000000 in
theorem e_R_passName (s : mx_S) : mx_sem 49 [mx_R 0 29] s = mx_w (mx_up s 0 29 5 1) fun s1 => mx_H 49 4 [some (mx_R 0 29)] s1 := (mx_sem_eq 49 _ s).trans rfl
set_option maxRecDepth 100000 in
set_option maxHeartbeats 4000000 in
theorem e_R_passName_4 (s : mx_S) : mx_H 49 4 [some (mx_R 0 29)] s = if (s 0 29 1) ≤ (s 0 29 4) then (some (none, s)) else (mx_g none (s 0 29 4) 400 fun j1 => mx_bI none (mx_sem 48 [mx_I (s 0 30 j1), mx_I 97, mx_I 122] s) fun r3 s2 => if r3 = 0 then (some (none, s2)) else (mx_w (mx_up s2 0 29 4 ((s2 0 29 4) + 1)) fun s4 => mx_H 49 4 [some (mx_R 0 29)] s4)) := (mx_H_eq 49 4 _ s).trans rfl
set_option maxRecDepth 100000 in
set_option maxHeartbeats 4000000 in
theorem e_R_passNumber (s : mx_S) : mx_sem 50 [mx_R 0 29] s = mx_w (mx_up s 0 29 6 0) fun s1 => mx_H 50 4 [some (mx_R 0 29)] s1 := (mx_sem_eq 50 _ s).trans rfl
set_option maxRecDepth 100000 in
set_option maxHeartbeats 4000000 in
theorem e_R_passNumber_4 (s : mx_S) : mx_H 50 4 [some (mx_R 0 29)] s = if (s 0 29 1) ≤ (s 0 29 4) then (if 3 < ((s 0 29 4) - (s 0 29 2)) then (mx_w (mx_up s 0 29 5 4) fun s1 => some (none, s1)) else (mx_w (mx_up s 0 29 5 2) fun s2 => some (none, s2))) else (mx_g none (s 0 29 4) 400 fun j3 => mx_bI none (mx_sem 48 [mx_I (s 0 30 j3), mx_I 48, mx_I 57] s) fun r5 s4 => if r5 = 0 then (if 3 < ((s4 0 29 4) - (s4 0 29 2)) then (mx_w (mx_up s4 0 29 5 4) fun s6 => some (none, s6)) else (mx_w (mx_up s4 0 29 5 2) fun s7 => some (none, s7))) else (if 3 ≤ ((s4 0 29 4) - (s4 0 29 2)) then (mx_w (mx_up s4 0 29 6 (s4 0 29 6)) fun s8 => mx_w (mx_up s8 0 29 4 ((s8 0 29 4) + 1)) fun s9 => mx_H 50 4 [some (mx_R 0 29)] s9) else (mx_g none (s4 0 29 4) 400 fun j10 => mx_w (mx_up s4 0 29 6 ((((s4 0 29 6) * 10) + (s4 0 30 j10)) - 48)) fun s11 => mx_w (mx_up s11 0 29 4 ((s11 0 29 4) + 1)) fun s12 => mx_H 50 4 [some (mx_R 0 29)] s12))) := (mx_H_eq 50 4 _ s).trans rfl
set_option maxRecDepth 100000 in
set_option maxHeartbeats 4000000 in
theorem e_R_advance (s : mx_S) : mx_sem 51 [mx_R 0 29] s = if (s 0 29 1) ≤ (s 0 29 4) then (mx_w (mx_up s 0 29 2 (s 0 29 4)) fun s1 => if (s1 0 29 4) < (s1 0 29 1) then (mx_g none (s1 0 29 4) 400 fun j2 => mx_bI none (mx_sem 48 [mx_I (s1 0 30 j2), mx_I 97, mx_I 122] s1) fun r4 s3 => if r4 = 0 then (mx_g none (s3 0 29 4) 400 fun j5 => mx_bI none (mx_sem 48 [mx_I (s3 0 30 j5), mx_I 48, mx_I 57] s3) fun r7 s6 => if r7 = 0 then (mx_g none (s6 0 29 4) 400 fun j8 => if (s6 0 30 j8) = 59 then (mx_w (mx_up s6 0 29 5 3) fun s11 => mx_w (mx_up s11 0 29 4 ((s11 0 29 4) + 1)) fun s12 => some (none, s12)) else (mx_w (mx_up s6 0 29 5 4) fun s9 => mx_w (mx_up s9 0 29 4 ((s9 0 29 4) + 1)) fun s10 => some (none, s10))) else (mx_bV none (mx_sem 50 [mx_R 0 29] s6) fun s13 => some (none, s13))) else (mx_bV none (mx_sem 49 [mx_R 0 29] s3) fun s14 => some (none, s14))) else (mx_w (mx_up s1 0 29 5 0) fun s15 => some (none, s15))) else (mx_g none (s 0 29 4) 400 fun j16 => if (s 0 30 j16) = 32 then (mx_w (mx_up s 0 29 4 ((s 0 29 4) + 1)) fun s17 => mx_H 51 0 [some (mx_R 0 29)] s17) else (mx_g none (s 0 29 4) 400 fun j18 => if (s 0 30 j18) = 10 then (mx_w (mx_up s 0 29 4 ((s 0 29 4) + 1)) fun s34 => mx_H 51 0 [some (mx_R 0 29)] s34) else (mx_w (mx_up s 0 29 2 (s 0 29 4)) fun s19 => if (s19 0 29 4) < (s19 0 29 1) then (mx_g none (s19 0 29 4) 400 fun j20 => mx_bI none (mx_sem 48 [mx_I (s19 0 30 j20), mx_I 97, mx_I 122] s19) fun r22 s21 => if r22 = 0 then (mx_g none (s21 0 29 4) 400 fun j23 => mx_bI none (mx_sem 48 [mx_I (s21 0 30 j23), mx_I 48, mx_I 57] s21) fun r25 s24 => if r25 = 0 then (mx_g none (s24 0 29 4) 400 fun j26 => if (s24 0 30 j26) = 59 then (mx_w (mx_up s24 0 29 5 3) fun s29 => mx_w (mx_up s29 0 29 4 ((s29 0 29 4) + 1)) fun s30 => some (none, s30)) else (mx_w (mx_up s24 0 29 5 4) fun s27 => mx_w (mx_up s27 0 29 4 ((s27 0 29 4) + 1)) fun s28 => some (none, s28))) else (mx_bV none (mx_sem 50 [mx_R 0 29] s24) fun s31 => some (none, s31))) else (mx_bV none (mx_sem 49 [mx_R 0 29] s21) fun s32 => some (none, s32))) else (mx_w (mx_up s19 0 29 5 0) fun s33 => some (none, s33))))) := (mx_sem_eq 51 _ s).trans rfl
set_option maxRecDepth 100000 in
set_option maxHeartbeats 4000000 in
theorem e_R_advance_0 (s : mx_S) : mx_H 51 0 [some (mx_R 0 29)] s = if (s 0 29 1) ≤ (s 0 29 4) then (mx_w (mx_up s 0 29 2 (s 0 29 4)) fun s1 => if (s1 0 29 4) < (s1 0 29 1) then (mx_g none (s1 0 29 4) 400 fun j2 => mx_bI none (mx_sem 48 [mx_I (s1 0 30 j2), mx_I 97, mx_I 122] s1) fun r4 s3 => if r4 = 0 then (mx_g none (s3 0 29 4) 400 fun j5 => mx_bI none (mx_sem 48 [mx_I (s3 0 30 j5), mx_I 48, mx_I 57] s3) fun r7 s6 => if r7 = 0 then (mx_g none (s6 0 29 4) 400 fun j8 => if (s6 0 30 j8) = 59 then (mx_w (mx_up s6 0 29 5 3) fun s11 => mx_w (mx_up s11 0 29 4 ((s11 0 29 4) + 1)) fun s12 => some (none, s12)) else (mx_w (mx_up s6 0 29 5 4) fun s9 => mx_w (mx_up s9 0 29 4 ((s9 0 29 4) + 1)) fun s10 => some (none, s10))) else (mx_bV none (mx_sem 50 [mx_R 0 29] s6) fun s13 => some (none, s13))) else (mx_bV none (mx_sem 49 [mx_R 0 29] s3) fun s14 => some (none, s14))) else (mx_w (mx_up s1 0 29 5 0) fun s15 => some (none, s15))) else (mx_g none (s 0 29 4) 400 fun j16 => if (s 0 30 j16) = 32 then (mx_w (mx_up s 0 29 4 ((s 0 29 4) + 1)) fun s17 => mx_H 51 0 [some (mx_R 0 29)] s17) else (mx_g none (s 0 29 4) 400 fun j18 => if (s 0 30 j18) = 10 then (mx_w (mx_up s 0 29 4 ((s 0 29 4) + 1)) fun s34 => mx_H 51 0 [some (mx_R 0 29)] s34) else (mx_w (mx_up s 0 29 2 (s 0 29 4)) fun s19 => if (s19 0 29 4) < (s19 0 29 1) then (mx_g none (s19 0 29 4) 400 fun j20 => mx_bI none (mx_sem 48 [mx_I (s19 0 30 j20), mx_I 97, mx_I 122] s19) fun r22 s21 => if r22 = 0 then (mx_g none (s21 0 29 4) 400 fun j23 => mx_bI none (mx_sem 48 [mx_I (s21 0 30 j23), mx_I 48, mx_I 57] s21) fun r25 s24 => if r25 = 0 then (mx_g none (s24 0 29 4) 400 fun j26 => if (s24 0 30 j26) = 59 then (mx_w (mx_up s24 0 29 5 3) fun s29 => mx_w (mx_up s29 0 29 4 ((s29 0 29 4) + 1)) fun s30 => some (none, s30)) else (mx_w (mx_up s24 0 29 5 4) fun s27 => mx_w (mx_up s27 0 29 4 ((s27 0 29 4) + 1)) fun s28 => some (none, s28))) else (mx_bV none (mx_sem 50 [mx_R 0 29] s24) fun s31 => some (none, s31))) else (mx_bV none (mx_sem 49 [mx_R 0 29] s21) fun s32 => some (none, s32))) else (mx_w (mx_up s19 0 29 5 0) fun s33 => some (none, s33))))) := (mx_H_eq 51 0 _ s).trans rfl
set_option maxRecDepth 100000 in
set_option maxHeartbeats 4000000 in
theorem e_R_isWord (k1 : Nat) (s : mx_S) : mx_sem 52 [mx_R 0 29, mx_R k1 55] s = if (s 0 29 3) = 0 then (if (s 0 29 5) = 1 then (mx_bI none (mx_sem 42 [mx_R k1 55] s) fun r2 s1 => if ((s 0 29 4) - (s 0 29 2)) = r2 then (mx_H 52 20 [some (mx_R 0 29), some (mx_R k1 55), some (mx_I 0)] s1) else (some (some (mx_I 0), s1))) else (some (some (mx_I 0), s))) else (some (some (mx_I 0), s)) := (mx_sem_eq 52 _ s).trans rfl
set_option maxRecDepth 100000 in
set_option maxHeartbeats 4000000 in
theorem e_R_isWord_20 (k1 : Nat) (x2 : Int32) (s : mx_S) : mx_H 52 20 [some (mx_R 0 29), some (mx_R k1 55), some (mx_I x2)] s = mx_bI none (mx_sem 42 [mx_R k1 55] s) fun r2 s1 => if r2 ≤ x2 then (some (some (mx_I 1), s1)) else (mx_g none ((s1 0 29 2) + x2) 400 fun j3 => mx_bI none (mx_sem 40 [mx_R k1 55, mx_I x2] s1) fun r5 s4 => if (s1 0 30 j3) = r5 then (mx_H 52 20 [some (mx_R 0 29), some (mx_R k1 55), some (mx_I (x2 + 1))] s4) else (some (some (mx_I 0), s4))) := (mx_H_eq 52 20 _ s).trans rfl
set_option maxRecDepth 100000 in
set_option maxHeartbeats 4000000 in
theorem e_R_put (x1 : Int32) (s : mx_S) : mx_sem 53 [mx_R 0 29, mx_I x1] s = if 400 ≤ (s 0 29 1) then (some (none, s)) else (mx_g none (s 0 29 1) 400 fun j1 => mx_w (mx_up s 0 30 j1 (vp_nar .byte x1)) fun s2 => mx_w (mx_up s2 0 29 1 ((s2 0 29 1) + 1)) fun s3 => some (none, s3)) := (mx_sem_eq 53 _ s).trans rfl
set_option maxRecDepth 100000 in
set_option maxHeartbeats 4000000 in
theorem e_R_takeWord (k1 : Nat) (x2 x3 : Int32) (s : mx_S) : mx_sem 54 [mx_R 0 29, mx_R k1 55, mx_I x2, mx_I x3] s = if (s 0 29 3) = 0 then (mx_bI none (mx_sem 52 [mx_R 0 29, mx_R k1 55] s) fun r2 s1 => if r2 = 0 then (mx_w (mx_up s1 0 29 3 1) fun s5 => some (none, s5)) else (if x2 < x3 then (mx_bV none (mx_sem 51 [mx_R 0 29] s1) fun s3 => some (none, s3)) else (mx_w (mx_up s1 0 29 3 3) fun s4 => some (none, s4)))) else (some (none, s)) := (mx_sem_eq 54 _ s).trans rfl
set_option maxRecDepth 100000 in
set_option maxHeartbeats 4000000 in
theorem e_R_takeNumber (x1 x2 : Int32) (s : mx_S) : mx_sem 55 [mx_R 0 29, mx_I x1, mx_I x2] s = if (s 0 29 3) = 0 then (if (s 0 29 5) = 2 then (if (s 0 29 3) = 0 then (mx_bI none (mx_sem 48 [mx_I (s 0 29 6), mx_I x1, mx_I x2] s) fun r9 s8 => if r9 = 0 then (mx_w (mx_up s8 0 29 3 2) fun s11 => if (s11 0 29 3) = 0 then (mx_bV none (mx_sem 51 [mx_R 0 29] s11) fun s12 => some (some (mx_I (s 0 29 6)), s12)) else (some (some (mx_I (s 0 29 6)), s11))) else (if (s8 0 29 3) = 0 then (mx_bV none (mx_sem 51 [mx_R 0 29] s8) fun s10 => some (some (mx_I (s 0 29 6)), s10)) else (some (some (mx_I (s 0 29 6)), s8)))) else (if (s 0 29 3) = 0 then (mx_bV none (mx_sem 51 [mx_R 0 29] s) fun s7 => some (some (mx_I (s 0 29 6)), s7)) else (some (some (mx_I (s 0 29 6)), s)))) else (mx_w (mx_up s 0 29 3 1) fun s13 => if (s13 0 29 3) = 0 then (mx_bI none (mx_sem 48 [mx_I (s 0 29 6), mx_I x1, mx_I x2] s13) fun r16 s15 => if r16 = 0 then (mx_w (mx_up s15 0 29 3 2) fun s18 => if (s18 0 29 3) = 0 then (mx_bV none (mx_sem 51 [mx_R 0 29] s18) fun s19 => some (some (mx_I (s 0 29 6)), s19)) else (some (some (mx_I (s 0 29 6)), s18))) else (if (s15 0 29 3) = 0 then (mx_bV none (mx_sem 51 [mx_R 0 29] s15) fun s17 => some (some (mx_I (s 0 29 6)), s17)) else (some (some (mx_I (s 0 29 6)), s15)))) else (if (s13 0 29 3) = 0 then (mx_bV none (mx_sem 51 [mx_R 0 29] s13) fun s14 => some (some (mx_I (s 0 29 6)), s14)) else (some (some (mx_I (s 0 29 6)), s13))))) else (if (s 0 29 3) = 0 then (mx_bI none (mx_sem 48 [mx_I (s 0 29 6), mx_I x1, mx_I x2] s) fun r3 s2 => if r3 = 0 then (mx_w (mx_up s2 0 29 3 2) fun s5 => if (s5 0 29 3) = 0 then (mx_bV none (mx_sem 51 [mx_R 0 29] s5) fun s6 => some (some (mx_I (s 0 29 6)), s6)) else (some (some (mx_I (s 0 29 6)), s5))) else (if (s2 0 29 3) = 0 then (mx_bV none (mx_sem 51 [mx_R 0 29] s2) fun s4 => some (some (mx_I (s 0 29 6)), s4)) else (some (some (mx_I (s 0 29 6)), s2)))) else (if (s 0 29 3) = 0 then (mx_bV none (mx_sem 51 [mx_R 0 29] s) fun s1 => some (some (mx_I (s 0 29 6)), s1)) else (some (some (mx_I (s 0 29 6)), s)))) := (mx_sem_eq 55 _ s).trans rfl
set_option maxRecDepth 100000 in
set_option maxHeartbeats 4000000 in
theorem e_R_takeSign (s : mx_S) : mx_sem 56 [mx_R 0 29] s = if (s 0 29 3) = 0 then (if (s 0 29 5) = 3 then (if (s 0 29 3) = 0 then (mx_bV none (mx_sem 51 [mx_R 0 29] s) fun s2 => some (none, s2)) else (some (none, s))) else (mx_w (mx_up s 0 29 3 1) fun s3 => if (s3 0 29 3) = 0 then (mx_bV none (mx_sem 51 [mx_R 0 29] s3) fun s4 => some (none, s4)) else (some (none, s3)))) else (if (s 0 29 3) = 0 then (mx_bV none (mx_sem 51 [mx_R 0 29] s) fun s1 => some (none, s1)) else (some (none, s))) := (mx_sem_eq 56 _ s).trans rfl
set_option maxRecDepth 100000 in
set_option maxHeartbeats 4000000 in
theorem e_R_readRail (s : mx_S) : mx_sem 57 [mx_R 0 29] s = mx_bV none (mx_sem 54 [mx_R 0 29, mx_R 0 55, mx_I 0, mx_I 1] s) fun s1 => if s1 0 29 7 = 0 then none else (mx_bI none (mx_sem 55 [mx_R 0 29, mx_I 1, mx_I 20] s1) fun r3 s2 => mx_w (mx_up s2 1 1 0 r3) fun s4 => if s4 0 29 7 = 0 then none else (mx_bI none (mx_sem 55 [mx_R 0 29, mx_I 0, mx_I 20] s4) fun r6 s5 => mx_w (mx_up s5 1 1 1 r6) fun s7 => mx_bV none (mx_sem 56 [mx_R 0 29] s7) fun s8 => some (none, s8))) := (mx_sem_eq 57 _ s).trans rfl
end
section
set_option maxRecDepth 100000 in
set_option maxHeartbeats 4000000 in
theorem e_R_readRooms (s : mx_S) : mx_sem 58 [mx_R 0 29] s = mx_H 58 3 [some (mx_R 0 29), some (mx_I 0), none] s := (mx_sem_eq 58 _ s).trans rfl
set_option maxRecDepth 100000 in
set_option maxHeartbeats 4000000 in
theorem e_R_readRooms_3 (x1 : Int32) (s : mx_S) : mx_H 58 3 [some (mx_R 0 29), some (mx_I x1), none] s = if 6 < x1 then (some (none, s)) else (if x1 = 0 then (mx_bV none (mx_sem 54 [mx_R 0 29, mx_R 1 55, mx_I x1, mx_I 6] s) fun s1 => mx_bI none (mx_sem 55 [mx_R 0 29, mx_I 1, mx_I 40] s1) fun r3 s2 => mx_bV none (mx_sem 56 [mx_R 0 29] s2) fun s4 => if (s4 0 29 3) = 0 then (if s4 0 29 7 = 0 then none else (mx_bV none (mx_sem 46 [mx_R 1 1, mx_I r3] s4) fun s5 => mx_H 58 3 [some (mx_R 0 29), some (mx_I (x1 + 1)), none] s5)) else (mx_H 58 3 [some (mx_R 0 29), some (mx_I (x1 + 1)), none] s4)) else (mx_bI none (mx_sem 52 [mx_R 0 29, mx_R 1 55] s) fun r7 s6 => if r7 = 0 then (some (none, s6)) else (mx_bV none (mx_sem 54 [mx_R 0 29, mx_R 1 55, mx_I x1, mx_I 6] s6) fun s8 => mx_bI none (mx_sem 55 [mx_R 0 29, mx_I 1, mx_I 40] s8) fun r10 s9 => mx_bV none (mx_sem 56 [mx_R 0 29] s9) fun s11 => if (s11 0 29 3) = 0 then (if s11 0 29 7 = 0 then none else (mx_bV none (mx_sem 46 [mx_R 1 1, mx_I r10] s11) fun s12 => mx_H 58 3 [some (mx_R 0 29), some (mx_I (x1 + 1)), none] s12)) else (mx_H 58 3 [some (mx_R 0 29), some (mx_I (x1 + 1)), none] s11)))) := (mx_H_eq 58 3 _ s).trans rfl
set_option maxRecDepth 100000 in
set_option maxHeartbeats 4000000 in
theorem e_R_readDoors (s : mx_S) : mx_sem 59 [mx_R 0 29] s = mx_H 59 3 [some (mx_R 0 29), some (mx_I 0), none, none, none] s := (mx_sem_eq 59 _ s).trans rfl
set_option maxRecDepth 100000 in
set_option maxHeartbeats 4000000 in
theorem e_R_readDoors_3 (x1 : Int32) (s : mx_S) : mx_H 59 3 [some (mx_R 0 29), some (mx_I x1), none, none, none] s = if 9 < x1 then (some (none, s)) else (mx_bI none (mx_sem 52 [mx_R 0 29, mx_R 2 55] s) fun r2 s1 => if r2 = 0 then (some (none, s1)) else (mx_bV none (mx_sem 54 [mx_R 0 29, mx_R 2 55, mx_I x1, mx_I 9] s1) fun s3 => if s3 0 29 7 = 0 then none else (mx_bI none (mx_sem 55 [mx_R 0 29, mx_I 0, mx_I ((s3 1 1 2) - 1)] s3) fun r5 s4 => if (s4 0 29 3) = 0 then (if (s4 0 29 5) = 2 then (if (s4 0 29 6) = r5 then (mx_w (mx_up s4 0 29 3 2) fun s33 => if s33 0 29 7 = 0 then none else (mx_bI none (mx_sem 55 [mx_R 0 29, mx_I 0, mx_I ((s33 1 1 2) - 1)] s33) fun r35 s34 => mx_bI none (mx_sem 52 [mx_R 0 29, mx_R 3 55] s34) fun r37 s36 => if r37 = 0 then (mx_bV none (mx_sem 56 [mx_R 0 29] s36) fun s38 => if (s38 0 29 3) = 0 then (if s38 0 29 7 = 0 then none else (mx_bV none (mx_sem 43 [mx_R 1 1, mx_I r5, mx_I r35, mx_I r37] s38) fun s39 => mx_H 59 3 [some (mx_R 0 29), some (mx_I (x1 + 1)), none, none, none] s39)) else (mx_H 59 3 [some (mx_R 0 29), some (mx_I (x1 + 1)), none, none, none] s38)) else (mx_bV none (mx_sem 51 [mx_R 0 29] s36) fun s40 => mx_bV none (mx_sem 56 [mx_R 0 29] s40) fun s41 => if (s41 0 29 3) = 0 then (if s41 0 29 7 = 0 then none else (mx_bV none (mx_sem 43 [mx_R 1 1, mx_I r5, mx_I r35, mx_I r37] s41) fun s42 => mx_H 59 3 [some (mx_R 0 29), some (mx_I (x1 + 1)), none, none, none] s42)) else (mx_H 59 3 [some (mx_R 0 29), some (mx_I (x1 + 1)), none, none, none] s41)))) else (if s4 0 29 7 = 0 then none else (mx_bI none (mx_sem 55 [mx_R 0 29, mx_I 0, mx_I ((s4 1 1 2) - 1)] s4) fun r25 s24 => mx_bI none (mx_sem 52 [mx_R 0 29, mx_R 3 55] s24) fun r27 s26 => if r27 = 0 then (mx_bV none (mx_sem 56 [mx_R 0 29] s26) fun s28 => if (s28 0 29 3) = 0 then (if s28 0 29 7 = 0 then none else (mx_bV none (mx_sem 43 [mx_R 1 1, mx_I r5, mx_I r25, mx_I r27] s28) fun s29 => mx_H 59 3 [some (mx_R 0 29), some (mx_I (x1 + 1)), none, none, none] s29)) else (mx_H 59 3 [some (mx_R 0 29), some (mx_I (x1 + 1)), none, none, none] s28)) else (mx_bV none (mx_sem 51 [mx_R 0 29] s26) fun s30 => mx_bV none (mx_sem 56 [mx_R 0 29] s30) fun s31 => if (s31 0 29 3) = 0 then (if s31 0 29 7 = 0 then none else (mx_bV none (mx_sem 43 [mx_R 1 1, mx_I r5, mx_I r25, mx_I r27] s31) fun s32 => mx_H 59 3 [some (mx_R 0 29), some (mx_I (x1 + 1)), none, none, none] s32)) else (mx_H 59 3 [some (mx_R 0 29), some (mx_I (x1 + 1)), none, none, none] s31))))) else (if s4 0 29 7 = 0 then none else (mx_bI none (mx_sem 55 [mx_R 0 29, mx_I 0, mx_I ((s4 1 1 2) - 1)] s4) fun r16 s15 => mx_bI none (mx_sem 52 [mx_R 0 29, mx_R 3 55] s15) fun r18 s17 => if r18 = 0 then (mx_bV none (mx_sem 56 [mx_R 0 29] s17) fun s19 => if (s19 0 29 3) = 0 then (if s19 0 29 7 = 0 then none else (mx_bV none (mx_sem 43 [mx_R 1 1, mx_I r5, mx_I r16, mx_I r18] s19) fun s20 => mx_H 59 3 [some (mx_R 0 29), some (mx_I (x1 + 1)), none, none, none] s20)) else (mx_H 59 3 [some (mx_R 0 29), some (mx_I (x1 + 1)), none, none, none] s19)) else (mx_bV none (mx_sem 51 [mx_R 0 29] s17) fun s21 => mx_bV none (mx_sem 56 [mx_R 0 29] s21) fun s22 => if (s22 0 29 3) = 0 then (if s22 0 29 7 = 0 then none else (mx_bV none (mx_sem 43 [mx_R 1 1, mx_I r5, mx_I r16, mx_I r18] s22) fun s23 => mx_H 59 3 [some (mx_R 0 29), some (mx_I (x1 + 1)), none, none, none] s23)) else (mx_H 59 3 [some (mx_R 0 29), some (mx_I (x1 + 1)), none, none, none] s22))))) else (if s4 0 29 7 = 0 then none else (mx_bI none (mx_sem 55 [mx_R 0 29, mx_I 0, mx_I ((s4 1 1 2) - 1)] s4) fun r7 s6 => mx_bI none (mx_sem 52 [mx_R 0 29, mx_R 3 55] s6) fun r9 s8 => if r9 = 0 then (mx_bV none (mx_sem 56 [mx_R 0 29] s8) fun s10 => if (s10 0 29 3) = 0 then (if s10 0 29 7 = 0 then none else (mx_bV none (mx_sem 43 [mx_R 1 1, mx_I r5, mx_I r7, mx_I r9] s10) fun s11 => mx_H 59 3 [some (mx_R 0 29), some (mx_I (x1 + 1)), none, none, none] s11)) else (mx_H 59 3 [some (mx_R 0 29), some (mx_I (x1 + 1)), none, none, none] s10)) else (mx_bV none (mx_sem 51 [mx_R 0 29] s8) fun s12 => mx_bV none (mx_sem 56 [mx_R 0 29] s12) fun s13 => if (s13 0 29 3) = 0 then (if s13 0 29 7 = 0 then none else (mx_bV none (mx_sem 43 [mx_R 1 1, mx_I r5, mx_I r7, mx_I r9] s13) fun s14 => mx_H 59 3 [some (mx_R 0 29), some (mx_I (x1 + 1)), none, none, none] s14)) else (mx_H 59 3 [some (mx_R 0 29), some (mx_I (x1 + 1)), none, none, none] s13))))))) := (mx_H_eq 59 3 _ s).trans rfl
set_option maxRecDepth 100000 in
set_option maxHeartbeats 4000000 in
theorem e_R_readPictures (s : mx_S) : mx_sem 60 [mx_R 0 29] s = mx_H 60 3 [some (mx_R 0 29), some (mx_I 0), none, none] s := (mx_sem_eq 60 _ s).trans rfl
set_option maxRecDepth 100000 in
set_option maxHeartbeats 4000000 in
theorem e_R_readPictures_3 (x1 : Int32) (s : mx_S) : mx_H 60 3 [some (mx_R 0 29), some (mx_I x1), none, none] s = if 8 < x1 then (some (none, s)) else (if x1 = 0 then (mx_bV none (mx_sem 54 [mx_R 0 29, mx_R 4 55, mx_I x1, mx_I 8] s) fun s1 => if s1 0 29 7 = 0 then none else (mx_bI none (mx_sem 55 [mx_R 0 29, mx_I 0, mx_I ((s1 1 1 2) - 1)] s1) fun r3 s2 => mx_bI none (mx_sem 55 [mx_R 0 29, mx_I 1, mx_I 60] s2) fun r5 s4 => mx_bV none (mx_sem 56 [mx_R 0 29] s4) fun s6 => if (s6 0 29 3) = 0 then (if s6 0 29 7 = 0 then none else (mx_bV none (mx_sem 45 [mx_R 1 1, mx_I r3, mx_I r5] s6) fun s7 => mx_H 60 3 [some (mx_R 0 29), some (mx_I (x1 + 1)), none, none] s7)) else (mx_H 60 3 [some (mx_R 0 29), some (mx_I (x1 + 1)), none, none] s6))) else (mx_bI none (mx_sem 52 [mx_R 0 29, mx_R 4 55] s) fun r9 s8 => if r9 = 0 then (some (none, s8)) else (mx_bV none (mx_sem 54 [mx_R 0 29, mx_R 4 55, mx_I x1, mx_I 8] s8) fun s10 => if s10 0 29 7 = 0 then none else (mx_bI none (mx_sem 55 [mx_R 0 29, mx_I 0, mx_I ((s10 1 1 2) - 1)] s10) fun r12 s11 => mx_bI none (mx_sem 55 [mx_R 0 29, mx_I 1, mx_I 60] s11) fun r14 s13 => mx_bV none (mx_sem 56 [mx_R 0 29] s13) fun s15 => if (s15 0 29 3) = 0 then (if s15 0 29 7 = 0 then none else (mx_bV none (mx_sem 45 [mx_R 1 1, mx_I r12, mx_I r14] s15) fun s16 => mx_H 60 3 [some (mx_R 0 29), some (mx_I (x1 + 1)), none, none] s16)) else (mx_H 60 3 [some (mx_R 0 29), some (mx_I (x1 + 1)), none, none] s15))))) := (mx_H_eq 60 3 _ s).trans rfl
set_option maxRecDepth 100000 in
set_option maxHeartbeats 4000000 in
theorem e_R_takeLaw (s : mx_S) : mx_sem 61 [mx_R 0 29] s = mx_bI none (mx_sem 52 [mx_R 0 29, mx_R 6 55] s) fun r2 s1 => if r2 = 0 then (mx_bI none (mx_sem 52 [mx_R 0 29, mx_R 7 55] s1) fun r4 s3 => if r4 = 0 then (mx_bI none (mx_sem 52 [mx_R 0 29, mx_R 8 55] s3) fun r6 s5 => if r6 = 0 then (if (s5 0 29 3) = 0 then (mx_w (mx_up s5 0 29 3 1) fun s8 => if (s8 0 29 3) = 0 then (mx_bV none (mx_sem 51 [mx_R 0 29] s8) fun s9 => some (some (mx_I 3), s9)) else (some (some (mx_I 3), s8))) else (if (s5 0 29 3) = 0 then (mx_bV none (mx_sem 51 [mx_R 0 29] s5) fun s7 => some (some (mx_I 3), s7)) else (some (some (mx_I 3), s5)))) else (if (s5 0 29 3) = 0 then (if (s5 0 29 3) = 0 then (mx_bV none (mx_sem 51 [mx_R 0 29] s5) fun s11 => some (some (mx_I 2), s11)) else (some (some (mx_I 2), s5))) else (if (s5 0 29 3) = 0 then (mx_bV none (mx_sem 51 [mx_R 0 29] s5) fun s10 => some (some (mx_I 2), s10)) else (some (some (mx_I 2), s5))))) else (if (s3 0 29 3) = 0 then (if (s3 0 29 3) = 0 then (mx_bV none (mx_sem 51 [mx_R 0 29] s3) fun s13 => some (some (mx_I 1), s13)) else (some (some (mx_I 1), s3))) else (if (s3 0 29 3) = 0 then (mx_bV none (mx_sem 51 [mx_R 0 29] s3) fun s12 => some (some (mx_I 1), s12)) else (some (some (mx_I 1), s3))))) else (if (s1 0 29 3) = 0 then (if (s1 0 29 3) = 0 then (mx_bV none (mx_sem 51 [mx_R 0 29] s1) fun s15 => some (some (mx_I 0), s15)) else (some (some (mx_I 0), s1))) else (if (s1 0 29 3) = 0 then (mx_bV none (mx_sem 51 [mx_R 0 29] s1) fun s14 => some (some (mx_I 0), s14)) else (some (some (mx_I 0), s1)))) := (mx_sem_eq 61 _ s).trans rfl
set_option maxRecDepth 100000 in
set_option maxHeartbeats 4000000 in
theorem e_R_readGroups (s : mx_S) : mx_sem 62 [mx_R 0 29] s = mx_H 62 3 [some (mx_R 0 29), some (mx_I 0), none, none, none, none] s := (mx_sem_eq 62 _ s).trans rfl
set_option maxRecDepth 100000 in
set_option maxHeartbeats 4000000 in
theorem e_R_readGroups_3 (x1 : Int32) (s : mx_S) : mx_H 62 3 [some (mx_R 0 29), some (mx_I x1), none, none, none, none] s = if 6 < x1 then (some (none, s)) else (if x1 = 0 then (mx_bV none (mx_sem 54 [mx_R 0 29, mx_R 5 55, mx_I x1, mx_I 6] s) fun s1 => if s1 0 29 7 = 0 then none else (mx_bI none (mx_sem 55 [mx_R 0 29, mx_I 1, mx_I (if (((30 : Int32)) - (s1 1 1 17)) < ((20 : Int32)) then (((30 : Int32)) - (s1 1 1 17)) else ((20 : Int32)))] s1) fun r3 s2 => mx_bI none (mx_sem 55 [mx_R 0 29, mx_I 0, mx_I 60] s2) fun r5 s4 => mx_bI none (mx_sem 61 [mx_R 0 29] s4) fun r7 s6 => mx_bI none (mx_sem 55 [mx_R 0 29, mx_I 0, mx_I 20] s6) fun r9 s8 => mx_bV none (mx_sem 56 [mx_R 0 29] s8) fun s10 => if (s10 0 29 3) = 0 then (if s10 0 29 7 = 0 then none else (mx_bV none (mx_sem 44 [mx_R 1 1, mx_I r3, mx_I r5, mx_I r7, mx_I r9] s10) fun s11 => mx_H 62 3 [some (mx_R 0 29), some (mx_I (x1 + 1)), none, none, none, none] s11)) else (mx_H 62 3 [some (mx_R 0 29), some (mx_I (x1 + 1)), none, none, none, none] s10))) else (mx_bI none (mx_sem 52 [mx_R 0 29, mx_R 5 55] s) fun r13 s12 => if r13 = 0 then (some (none, s12)) else (mx_bV none (mx_sem 54 [mx_R 0 29, mx_R 5 55, mx_I x1, mx_I 6] s12) fun s14 => if s14 0 29 7 = 0 then none else (mx_bI none (mx_sem 55 [mx_R 0 29, mx_I 1, mx_I (if (((30 : Int32)) - (s14 1 1 17)) < ((20 : Int32)) then (((30 : Int32)) - (s14 1 1 17)) else ((20 : Int32)))] s14) fun r16 s15 => mx_bI none (mx_sem 55 [mx_R 0 29, mx_I 0, mx_I 60] s15) fun r18 s17 => mx_bI none (mx_sem 61 [mx_R 0 29] s17) fun r20 s19 => mx_bI none (mx_sem 55 [mx_R 0 29, mx_I 0, mx_I 20] s19) fun r22 s21 => mx_bV none (mx_sem 56 [mx_R 0 29] s21) fun s23 => if (s23 0 29 3) = 0 then (if s23 0 29 7 = 0 then none else (mx_bV none (mx_sem 44 [mx_R 1 1, mx_I r16, mx_I r18, mx_I r20, mx_I r22] s23) fun s24 => mx_H 62 3 [some (mx_R 0 29), some (mx_I (x1 + 1)), none, none, none, none] s24)) else (mx_H 62 3 [some (mx_R 0 29), some (mx_I (x1 + 1)), none, none, none, none] s23))))) := (mx_H_eq 62 3 _ s).trans rfl
set_option maxRecDepth 100000 in
set_option maxHeartbeats 4000000 in
theorem e_R_read (s : mx_S) : mx_sem 63 [mx_R 0 29, mx_R 1 1] s = mx_w (mx_up s 0 29 7 1) fun s1 => if s1 0 29 7 = 0 then none else (mx_bV none (mx_sem 47 [mx_R 1 1] s1) fun s2 => mx_w (mx_up s2 0 29 4 0) fun s3 => mx_w (mx_up s3 0 29 3 0) fun s4 => mx_bV none (mx_sem 51 [mx_R 0 29] s4) fun s5 => mx_bV none (mx_sem 57 [mx_R 0 29] s5) fun s6 => mx_bV none (mx_sem 58 [mx_R 0 29] s6) fun s7 => mx_bV none (mx_sem 59 [mx_R 0 29] s7) fun s8 => mx_bV none (mx_sem 60 [mx_R 0 29] s8) fun s9 => mx_bV none (mx_sem 62 [mx_R 0 29] s9) fun s10 => if (s10 0 29 3) = 0 then (if (s10 0 29 5) = 0 then (some (none, s10)) else (mx_w (mx_up s10 0 29 3 1) fun s11 => some (none, s11))) else (some (none, s10))) := (mx_sem_eq 63 _ s).trans rfl
set_option maxRecDepth 100000 in
set_option maxHeartbeats 4000000 in
theorem e_W_openDoors (k0 k1 : Nat) (s : mx_S) : mx_sem 64 [mx_R k0 13, mx_R k1 1] s = mx_bV none (mx_sem 18 [mx_R k0 14, mx_I 1000] s) fun s1 => mx_H 64 7 [some (mx_R k0 13), some (mx_R k1 1), some (mx_I 0)] s1 := (mx_sem_eq 64 _ s).trans rfl
set_option maxRecDepth 100000 in
set_option maxHeartbeats 4000000 in
theorem e_W_openDoors_7 (k0 k1 : Nat) (x2 : Int32) (s : mx_S) : mx_H 64 7 [some (mx_R k0 13), some (mx_R k1 1), some (mx_I x2)] s = if (s k1 1 2) ≤ x2 then (mx_H 64 25 [some (mx_R k0 13), some (mx_R k1 1), some (mx_I 0)] s) else (mx_g none ((x2 * 6) + x2) 36 fun j1 => mx_w (mx_up s k0 14 j1 0) fun s2 => mx_H 64 7 [some (mx_R k0 13), some (mx_R k1 1), some (mx_I (x2 + 1))] s2) := (mx_H_eq 64 7 _ s).trans rfl
set_option maxRecDepth 100000 in
set_option maxHeartbeats 4000000 in
theorem e_W_openDoors_25 (k0 k1 : Nat) (x2 : Int32) (s : mx_S) : mx_H 64 25 [some (mx_R k0 13), some (mx_R k1 1), some (mx_I x2)] s = if (s k1 1 4) ≤ x2 then (some (none, s)) else (mx_g none x2 9 fun j1 => mx_g none x2 9 fun j2 => mx_g none (((s k1 3 j1) * 6) + (s k1 4 j2)) 36 fun j3 => mx_w (mx_up s k0 14 j3 1) fun s4 => mx_g none x2 9 fun j5 => if (s4 k1 5 j5) = 0 then (mx_g none x2 9 fun j6 => mx_g none x2 9 fun j7 => mx_g none (((s4 k1 4 j6) * 6) + (s4 k1 3 j7)) 36 fun j8 => mx_w (mx_up s4 k0 14 j8 1) fun s9 => mx_H 64 25 [some (mx_R k0 13), some (mx_R k1 1), some (mx_I (x2 + 1))] s9) else (mx_H 64 25 [some (mx_R k0 13), some (mx_R k1 1), some (mx_I (x2 + 1))] s4)) := (mx_H_eq 64 25 _ s).trans rfl
set_option maxRecDepth 100000 in
set_option maxHeartbeats 4000000 in
theorem e_W_nextRoom (k0 k1 : Nat) (x2 x3 : Int32) (s : mx_S) : mx_sem 65 [mx_R k0 13, mx_R k1 1, mx_I x2, mx_I x3] s = mx_H 65 7 [some (mx_R k0 13), some (mx_R k1 1), some (mx_I x2), some (mx_I x3), some (mx_I (-1)), some (mx_I 1000), some (mx_I 0)] s := (mx_sem_eq 65 _ s).trans rfl
set_option maxRecDepth 100000 in
set_option maxHeartbeats 4000000 in
theorem e_W_nextRoom_7 (k0 k1 : Nat) (x2 x3 x4 x5 x6 : Int32) (s : mx_S) : mx_H 65 7 [some (mx_R k0 13), some (mx_R k1 1), some (mx_I x2), some (mx_I x3), some (mx_I x4), some (mx_I x5), some (mx_I x6)] s = if (s k1 1 2) ≤ x6 then (some (some (mx_I x4), s)) else (mx_g none ((x2 * 6) + x6) 36 fun j1 => if (s k0 14 j1) = 1 then (mx_g none ((x6 * 6) + x3) 36 fun j2 => if x5 ≤ (s k0 14 j2) then (mx_H 65 7 [some (mx_R k0 13), some (mx_R k1 1), some (mx_I x2), some (mx_I x3), some (mx_I x4), some (mx_I x5), some (mx_I (x6 + 1))] s) else (mx_g none ((x6 * 6) + x3) 36 fun j3 => mx_H 65 7 [some (mx_R k0 13), some (mx_R k1 1), some (mx_I x2), some (mx_I x3), some (mx_I x6), some (mx_I (s k0 14 j3)), some (mx_I (x6 + 1))] s)) else (mx_H 65 7 [some (mx_R k0 13), some (mx_R k1 1), some (mx_I x2), some (mx_I x3), some (mx_I x4), some (mx_I x5), some (mx_I (x6 + 1))] s)) := (mx_H_eq 65 7 _ s).trans rfl
set_option maxRecDepth 100000 in
set_option maxHeartbeats 4000000 in
theorem e_W_measure (k0 k1 : Nat) (s : mx_S) : mx_sem 66 [mx_R k0 13, mx_R k1 1] s = mx_bV none (mx_sem 64 [mx_R k0 13, mx_R k1 1] s) fun s1 => mx_H 66 6 [some (mx_R k0 13), some (mx_R k1 1), some (mx_I 0), none, none, none] s1 := (mx_sem_eq 66 _ s).trans rfl
set_option maxRecDepth 100000 in
set_option maxHeartbeats 4000000 in
theorem e_W_measure_6 (k0 k1 : Nat) (x2 : Int32) (s : mx_S) : mx_H 66 6 [some (mx_R k0 13), some (mx_R k1 1), some (mx_I x2), none, none, none] s = if (s k1 1 2) ≤ x2 then (mx_H 66 69 [some (mx_R k0 13), some (mx_R k1 1), some (mx_I 0), none, none, none] s) else (mx_H 66 13 [some (mx_R k0 13), some (mx_R k1 1), some (mx_I x2), some (mx_I 0), none, none] s) := (mx_H_eq 66 6 _ s).trans rfl
set_option maxRecDepth 100000 in
set_option maxHeartbeats 4000000 in
theorem e_W_measure_69 (k0 k1 : Nat) (x2 : Int32) (s : mx_S) : mx_H 66 69 [some (mx_R k0 13), some (mx_R k1 1), some (mx_I x2), none, none, none] s = if (s k1 1 2) ≤ x2 then (some (none, s)) else (mx_H 66 76 [some (mx_R k0 13), some (mx_R k1 1), some (mx_I x2), some (mx_I 0), none, none] s) := (mx_H_eq 66 69 _ s).trans rfl
set_option maxRecDepth 100000 in
set_option maxHeartbeats 4000000 in
theorem e_W_measure_13 (k0 k1 : Nat) (x2 x3 : Int32) (s : mx_S) : mx_H 66 13 [some (mx_R k0 13), some (mx_R k1 1), some (mx_I x2), some (mx_I x3), none, none] s = if (s k1 1 2) ≤ x3 then (mx_H 66 6 [some (mx_R k0 13), some (mx_R k1 1), some (mx_I (x2 + 1)), none, none, none] s) else (mx_H 66 20 [some (mx_R k0 13), some (mx_R k1 1), some (mx_I x2), some (mx_I x3), some (mx_I 0), none] s) := (mx_H_eq 66 13 _ s).trans rfl
set_option maxRecDepth 100000 in
set_option maxHeartbeats 4000000 in
theorem e_W_measure_76 (k0 k1 : Nat) (x2 x3 : Int32) (s : mx_S) : mx_H 66 76 [some (mx_R k0 13), some (mx_R k1 1), some (mx_I x2), some (mx_I x3), none, none] s = if (s k1 1 2) ≤ x3 then (mx_H 66 69 [some (mx_R k0 13), some (mx_R k1 1), some (mx_I (x2 + 1)), none, none, none] s) else (mx_bI none (mx_sem 65 [mx_R k0 13, mx_R k1 1, mx_I x2, mx_I x3] s) fun r2 s1 => mx_g none ((x2 * 6) + x3) 36 fun j3 => mx_w (mx_up s1 k0 15 j3 r2) fun s4 => mx_H 66 76 [some (mx_R k0 13), some (mx_R k1 1), some (mx_I x2), some (mx_I (x3 + 1)), none, none] s4) := (mx_H_eq 66 76 _ s).trans rfl
set_option maxRecDepth 100000 in
set_option maxHeartbeats 4000000 in
theorem e_W_measure_20 (k0 k1 : Nat) (x2 x3 x4 : Int32) (s : mx_S) : mx_H 66 20 [some (mx_R k0 13), some (mx_R k1 1), some (mx_I x2), some (mx_I x3), some (mx_I x4), none] s = if (s k1 1 2) ≤ x4 then (mx_H 66 13 [some (mx_R k0 13), some (mx_R k1 1), some (mx_I x2), some (mx_I (x3 + 1)), none, none] s) else (mx_g none ((x3 * 6) + x2) 36 fun j1 => mx_g none ((x2 * 6) + x4) 36 fun j2 => mx_g none ((x3 * 6) + x4) 36 fun j3 => mx_g none ((x3 * 6) + x4) 36 fun j4 => mx_w (mx_up s k0 14 j4 (if ((s k0 14 j1) + (s k0 14 j2)) < (s k0 14 j3) then ((s k0 14 j1) + (s k0 14 j2)) else (s k0 14 j3))) fun s5 => mx_H 66 20 [some (mx_R k0 13), some (mx_R k1 1), some (mx_I x2), some (mx_I x3), some (mx_I (x4 + 1)), none] s5) := (mx_H_eq 66 20 _ s).trans rfl
set_option maxRecDepth 100000 in
set_option maxHeartbeats 4000000 in
theorem e_X_noVisitor (x1 : Int32) (s : mx_S) : mx_sem 67 [mx_R 0 28, mx_I x1] s = mx_bI none (mx_sem 21 [mx_I x1, mx_I (s 0 1 17)] s) fun r2 s1 => if r2 = 0 then (some (some (mx_I 1), s1)) else (some (some (mx_I 0), s1)) := (mx_sem_eq 67 _ s).trans rfl
set_option maxRecDepth 100000 in
set_option maxHeartbeats 4000000 in
theorem e_X_unfound (x1 : Int32) (s : mx_S) : mx_sem 68 [mx_R 0 28, mx_I x1] s = mx_w (mx_up s 0 28 9 0) fun s1 => some (some (mx_I x1), s1) := (mx_sem_eq 68 _ s).trans rfl
set_option maxRecDepth 100000 in
set_option maxHeartbeats 4000000 in
theorem e_X_finding (x1 : Int32) (s : mx_S) : mx_sem 69 [mx_R 0 28, mx_I x1] s = mx_w (mx_up s 0 28 9 x1) fun s1 => some (some (mx_I (((-1000010 : Int32)) - x1)), s1) := (mx_sem_eq 69 _ s).trans rfl
set_option maxRecDepth 100000 in
set_option maxHeartbeats 4000000 in
theorem e_X_as (x1 x2 : Int32) (s : mx_S) : mx_sem 70 [mx_R 0 28, mx_I x1, mx_I x2] s = mx_bI none (mx_sem 67 [mx_R 0 28, mx_I x1] s) fun r2 s1 => if r2 = 0 then (mx_bI none (mx_sem 48 [mx_I x2, mx_I 0, mx_I 5] s1) fun r4 s3 => if r4 = 0 then (some (some (mx_I (-1000001)), s3)) else (mx_bI none (mx_sem 2 [mx_R 0 16, mx_I x1] s3) fun r6 s5 => if x2 = 0 then (mx_bI none (mx_sem 68 [mx_R 0 28, mx_I x1] s5) fun r8 s7 => some (some (mx_I r8), s7)) else (if x2 = r6 then (mx_bI none (mx_sem 68 [mx_R 0 28, mx_I x1] s5) fun r10 s9 => some (some (mx_I r10), s9)) else (if x2 = 3 then (if r6 = 4 then (mx_bI none (mx_sem 68 [mx_R 0 28, mx_I x1] s5) fun r16 s15 => some (some (mx_I r16), s15)) else (mx_bI none (mx_sem 69 [mx_R 0 28, mx_I 3] s5) fun r14 s13 => some (some (mx_I r14), s13))) else (mx_bI none (mx_sem 69 [mx_R 0 28, mx_I 3] s5) fun r12 s11 => some (some (mx_I r12), s11)))))) else (some (some (mx_I (-1000001)), s1)) := (mx_sem_eq 70 _ s).trans rfl
set_option maxRecDepth 100000 in
set_option maxHeartbeats 4000000 in
theorem e_X_ask (x1 x2 : Int32) (s : mx_S) : mx_sem 71 [mx_R 0 28, mx_I x1, mx_I x2] s = mx_bI none (mx_sem 67 [mx_R 0 28, mx_I x1] s) fun r2 s1 => if r2 = 0 then (mx_bI none (mx_sem 21 [mx_I x2, mx_I 2] s1) fun r4 s3 => if r4 = 0 then (some (some (mx_I (-1000001)), s3)) else (mx_w (mx_up s3 0 35 2 0) fun s5 => if x2 = 0 then (mx_bI none (mx_sem 14 [mx_R 0 35, mx_I x1, mx_I 0] s5) fun r9 s8 => some (some (mx_I r9), s8)) else (mx_bI none (mx_sem 11 [mx_R 0 35, mx_I x1, mx_I 0] s5) fun r7 s6 => some (some (mx_I r7), s6)))) else (some (some (mx_I (-1000001)), s1)) := (mx_sem_eq 71 _ s).trans rfl
set_option maxRecDepth 100000 in
set_option maxHeartbeats 4000000 in
theorem e_X_bestGuard (x1 x2 : Int32) (s : mx_S) : mx_sem 72 [mx_R 0 28, mx_I x1, mx_I x2] s = mx_H 72 7 [some (mx_R 0 28), some (mx_I x1), some (mx_I x2), some (mx_I 0), some (mx_I (-1)), some (mx_I 0), none] s := (mx_sem_eq 72 _ s).trans rfl
set_option maxRecDepth 100000 in
set_option maxHeartbeats 4000000 in
theorem e_X_bestGuard_7 (x1 x2 x3 x4 x5 : Int32) (s : mx_S) : mx_H 72 7 [some (mx_R 0 28), some (mx_I x1), some (mx_I x2), some (mx_I x3), some (mx_I x4), some (mx_I x5), none] s = if 20 < x5 then (some (some (mx_I x3), s)) else (mx_w (mx_up s 1 1 1 x5) fun s1 => mx_bI none (mx_sem 31 [mx_R 1 0, mx_I x1, mx_I x2, mx_I 0] s1) fun r3 s2 => if r3 ≤ x4 then (mx_H 72 7 [some (mx_R 0 28), some (mx_I x1), some (mx_I x2), some (mx_I x3), some (mx_I x4), some (mx_I (x5 + 1)), none] s2) else (mx_H 72 7 [some (mx_R 0 28), some (mx_I x1), some (mx_I x2), some (mx_I x5), some (mx_I r3), some (mx_I (x5 + 1)), none] s2)) := (mx_H_eq 72 7 _ s).trans rfl
set_option maxRecDepth 100000 in
set_option maxHeartbeats 4000000 in
theorem e_X_bestRail (x1 x2 : Int32) (s : mx_S) : mx_sem 73 [mx_R 0 28, mx_I x1, mx_I x2] s = mx_H 73 7 [some (mx_R 0 28), some (mx_I x1), some (mx_I x2), some (mx_I 1), some (mx_I (-1)), some (mx_I 1), none] s := (mx_sem_eq 73 _ s).trans rfl
set_option maxRecDepth 100000 in
set_option maxHeartbeats 4000000 in
theorem e_X_bestRail_7 (x1 x2 x3 x4 x5 : Int32) (s : mx_S) : mx_H 73 7 [some (mx_R 0 28), some (mx_I x1), some (mx_I x2), some (mx_I x3), some (mx_I x4), some (mx_I x5), none] s = if 20 < x5 then (some (some (mx_I x3), s)) else (mx_w (mx_up s 1 1 0 x5) fun s1 => mx_bI none (mx_sem 31 [mx_R 1 0, mx_I x1, mx_I x2, mx_I 0] s1) fun r3 s2 => if r3 ≤ x4 then (mx_H 73 7 [some (mx_R 0 28), some (mx_I x1), some (mx_I x2), some (mx_I x3), some (mx_I x4), some (mx_I (x5 + 1)), none] s2) else (mx_H 73 7 [some (mx_R 0 28), some (mx_I x1), some (mx_I x2), some (mx_I x5), some (mx_I r3), some (mx_I (x5 + 1)), none] s2)) := (mx_H_eq 73 7 _ s).trans rfl
set_option maxRecDepth 100000 in
set_option maxHeartbeats 4000000 in
theorem e_X_noHouse (s : mx_S) : mx_sem 74 [mx_R 0 28] s = if (s 0 1 2) = 0 then (some (some (mx_I 1), s)) else (some (some (mx_I 0), s)) := (mx_sem_eq 74 _ s).trans rfl
set_option maxRecDepth 100000 in
set_option maxHeartbeats 4000000 in
theorem e_X_noDay (x0 : Int32) (s : mx_S) : mx_sem 75 [mx_I x0] s = mx_bI none (mx_sem 48 [mx_I x0, mx_I 1, mx_I 120] s) fun r2 s1 => if r2 = 0 then (some (some (mx_I 1), s1)) else (some (some (mx_I 0), s1)) := (mx_sem_eq 75 _ s).trans rfl
set_option maxRecDepth 100000 in
set_option maxHeartbeats 4000000 in
theorem e_X_bestRule (x1 x2 x3 : Int32) (s : mx_S) : mx_sem 76 [mx_R 0 28, mx_I x1, mx_I x2, mx_I x3] s = mx_bI none (mx_sem 74 [mx_R 0 28] s) fun r2 s1 => if r2 = 0 then (mx_bI none (mx_sem 75 [mx_I x1] s1) fun r4 s3 => if r4 = 0 then (mx_bI none (mx_sem 21 [mx_I x2, mx_I 2] s3) fun r6 s5 => if r6 = 0 then (some (some (mx_I (-1000001)), s5)) else (mx_bI none (mx_sem 21 [mx_I x3, mx_I 2] s5) fun r8 s7 => if r8 = 0 then (some (some (mx_I (-1000001)), s7)) else (mx_bV none (mx_sem 34 [mx_R 1 0, mx_R 0 0] s7) fun s9 => if x2 = 0 then (mx_bI none (mx_sem 73 [mx_R 0 28, mx_I x1, mx_I x3] s9) fun r13 s12 => some (some (mx_I r13), s12)) else (mx_bI none (mx_sem 72 [mx_R 0 28, mx_I x1, mx_I x3] s9) fun r11 s10 => some (some (mx_I r11), s10))))) else (some (some (mx_I (-1000001)), s3))) else (some (some (mx_I (-1000002)), s1)) := (mx_sem_eq 76 _ s).trans rfl
set_option maxRecDepth 100000 in
set_option maxHeartbeats 4000000 in
theorem e_Y_holds (k0 : Nat) (x1 x2 : Int32) (s : mx_S) : mx_sem 77 [mx_R k0 32, mx_I x1, mx_I x2] s = if x1 < 0 then (some (some (mx_I 0), s)) else (if x2 < 0 then (some (some (mx_I 0), s)) else (if (s k0 32 3) < x2 then (some (some (mx_I 0), s)) else (if ((s k0 32 3) - x2) < x1 then (some (some (mx_I 0), s)) else (some (some (mx_I 1), s))))) := (mx_sem_eq 77 _ s).trans rfl
set_option maxRecDepth 100000 in
set_option maxHeartbeats 4000000 in
theorem e_X_copy (x1 x2 x3 x4 x5 : Int32) (s : mx_S) : mx_sem 78 [mx_R 0 28, mx_I x1, mx_I x2, mx_I x3, mx_I x4, mx_I x5] s = mx_bI none (mx_sem 21 [mx_I x1, mx_I 8] s) fun r2 s1 => if r2 = 0 then (some (some (mx_I (-1000001)), s1)) else (mx_bI none (mx_sem 21 [mx_I x3, mx_I 8] s1) fun r4 s3 => if r4 = 0 then (some (some (mx_I (-1000001)), s3)) else (mx_g none x1 8 fun j5 => mx_g none x3 8 fun j6 => if (s3 j5 32 1) = 0 then (if (s3 j6 32 1) = 0 then (if (s3 j5 32 2) = (s3 j6 32 2) then (mx_bI none (mx_sem 77 [mx_R j5 32, mx_I x2, mx_I x5] s3) fun r10 s9 => if r10 = 0 then (mx_bI none (mx_sem 69 [mx_R 0 28, mx_I 2] s9) fun r12 s11 => some (some (mx_I r12), s11)) else (mx_bI none (mx_sem 77 [mx_R j6 32, mx_I x4, mx_I x5] s9) fun r14 s13 => if r14 = 0 then (mx_bI none (mx_sem 69 [mx_R 0 28, mx_I 2] s13) fun r19 s18 => some (some (mx_I r19), s18)) else (mx_c s13 x2 x4 j5 33 x5 j6 33 none fun s15 => mx_bI none (mx_sem 68 [mx_R 0 28, mx_I x5] s15) fun r17 s16 => some (some (mx_I r17), s16)))) else (mx_bI none (mx_sem 69 [mx_R 0 28, mx_I 5] s3) fun r21 s20 => some (some (mx_I r21), s20))) else (mx_bI none (mx_sem 69 [mx_R 0 28, mx_I 1] s3) fun r23 s22 => some (some (mx_I r23), s22))) else (mx_bI none (mx_sem 69 [mx_R 0 28, mx_I 1] s3) fun r8 s7 => some (some (mx_I r8), s7)))) := (mx_sem_eq 78 _ s).trans rfl
set_option maxRecDepth 100000 in
set_option maxHeartbeats 4000000 in
theorem e_X_standingRows (s : mx_S) : mx_sem 79 [mx_R 0 28] s = mx_H 79 5 [some (mx_R 0 28), some (mx_I 0), some (mx_I 0)] s := (mx_sem_eq 79 _ s).trans rfl
set_option maxRecDepth 100000 in
set_option maxHeartbeats 4000000 in
theorem e_X_standingRows_5 (x1 x2 : Int32) (s : mx_S) : mx_H 79 5 [some (mx_R 0 28), some (mx_I x1), some (mx_I x2)] s = if 8 ≤ x2 then (some (some (mx_I x1), s)) else (mx_g none x2 8 fun j1 => if (s j1 32 1) = 0 then (mx_H 79 5 [some (mx_R 0 28), some (mx_I (x1 + 1)), some (mx_I (x2 + 1))] s) else (mx_H 79 5 [some (mx_R 0 28), some (mx_I (x1 + 0)), some (mx_I (x2 + 1))] s)) := (mx_H_eq 79 5 _ s).trans rfl
set_option maxRecDepth 100000 in
set_option maxHeartbeats 4000000 in
theorem e_X_count (x1 : Int32) (s : mx_S) : mx_sem 80 [mx_R 0 28, mx_I x1] s = if x1 = Int32.ofNat 0 then (mx_bI none (mx_sem 79 [mx_R 0 28] s) fun r2 s1 => some (some (mx_I r2), s1)) else if x1 = Int32.ofNat 1 then (some (some (mx_I (s 0 1 2)), s)) else if x1 = Int32.ofNat 2 then (some (some (mx_I (s 0 1 4)), s)) else if x1 = Int32.ofNat 3 then (some (some (mx_I (s 0 1 8)), s)) else if x1 = Int32.ofNat 4 then (some (some (mx_I (s 0 1 12)), s)) else if x1 = Int32.ofNat 5 then (some (some (mx_I (s 0 1 17)), s)) else if x1 = Int32.ofNat 6 then (some (some (mx_I (s 0 16 2)), s)) else if x1 = Int32.ofNat 7 then (some (some (mx_I (s 0 16 3)), s)) else if x1 = Int32.ofNat 8 then (some (some (mx_I (s 0 29 1)), s)) else (some (some (mx_I (-1000001)), s)) := (mx_sem_eq 80 _ s).trans rfl
set_option maxRecDepth 100000 in
set_option maxHeartbeats 4000000 in
theorem e_X_offBy (k2 : Nat) (x1 x3 x4 : Int32) (s : mx_S) : mx_sem 81 [mx_R 0 28, mx_I x1, mx_R k2 32, mx_I x3, mx_I x4] s = mx_bV none (mx_sem 19 [mx_R 1 16, mx_I 0] s) fun s1 => mx_H 81 10 [some (mx_R 0 28), some (mx_I x1), some (mx_R k2 32), some (mx_I x3), some (mx_I x4), some (mx_I 0), some (mx_I 0)] s1 := (mx_sem_eq 81 _ s).trans rfl
set_option maxRecDepth 100000 in
set_option maxHeartbeats 4000000 in
theorem e_X_offBy_10 (k2 : Nat) (x1 x3 x4 x5 x6 : Int32) (s : mx_S) : mx_H 81 10 [some (mx_R 0 28), some (mx_I x1), some (mx_R k2 32), some (mx_I x3), some (mx_I x4), some (mx_I x5), some (mx_I x6)] s = if x4 ≤ x6 then (some (some (mx_I x5), s)) else (mx_bV none (mx_sem 29 [mx_R 1 16] s) fun s1 => mx_g none x1 6 fun j2 => mx_g none (x3 + x6) 40 fun j3 => mx_H 81 10 [some (mx_R 0 28), some (mx_I x1), some (mx_R k2 32), some (mx_I x3), some (mx_I x4), some (mx_I (x5 + (if 0 ≤ ((s1 1 25 j2) - (s1 k2 33 j3)) then ((s1 1 25 j2) - (s1 k2 33 j3)) else 0 - ((s1 1 25 j2) - (s1 k2 33 j3))))), some (mx_I (x6 + 1))] s1) := (mx_H_eq 81 10 _ s).trans rfl
set_option maxRecDepth 100000 in
set_option maxHeartbeats 4000000 in
theorem e_X_nearestLaw (k2 : Nat) (x1 x3 x4 : Int32) (s : mx_S) : mx_sem 82 [mx_R 0 28, mx_I x1, mx_R k2 32, mx_I x3, mx_I x4] s = mx_bV none (mx_sem 34 [mx_R 1 0, mx_R 0 0] s) fun s1 => mx_H 82 12 [some (mx_R 0 28), some (mx_I x1), some (mx_R k2 32), some (mx_I x3), some (mx_I x4), some (mx_I 0), some (mx_I (-1)), some (mx_I 0), none] s1 := (mx_sem_eq 82 _ s).trans rfl
set_option maxRecDepth 100000 in
set_option maxHeartbeats 4000000 in
theorem e_X_nearestLaw_12 (k2 : Nat) (x1 x3 x4 x5 x6 x7 : Int32) (s : mx_S) : mx_H 82 12 [some (mx_R 0 28), some (mx_I x1), some (mx_R k2 32), some (mx_I x3), some (mx_I x4), some (mx_I x5), some (mx_I x6), some (mx_I x7), none] s = if 3 ≤ x7 then (some (some (mx_I x5), s)) else (mx_bV none (mx_sem 18 [mx_R 1 11, mx_I x7] s) fun s1 => mx_bI none (mx_sem 81 [mx_R 0 28, mx_I x1, mx_R k2 32, mx_I x3, mx_I x4] s1) fun r3 s2 => if x6 < 0 then (mx_H 82 12 [some (mx_R 0 28), some (mx_I x1), some (mx_R k2 32), some (mx_I x3), some (mx_I x4), some (mx_I x7), some (mx_I r3), some (mx_I (x7 + 1)), none] s2) else (if x6 ≤ r3 then (mx_H 82 12 [some (mx_R 0 28), some (mx_I x1), some (mx_R k2 32), some (mx_I x3), some (mx_I x4), some (mx_I x5), some (mx_I x6), some (mx_I (x7 + 1)), none] s2) else (mx_H 82 12 [some (mx_R 0 28), some (mx_I x1), some (mx_R k2 32), some (mx_I x3), some (mx_I x4), some (mx_I x7), some (mx_I r3), some (mx_I (x7 + 1)), none] s2))) := (mx_H_eq 82 12 _ s).trans rfl
set_option maxRecDepth 100000 in
set_option maxHeartbeats 4000000 in
theorem e_X_counts (x1 x2 x3 x4 : Int32) (s : mx_S) : mx_sem 83 [mx_R 0 28, mx_I x1, mx_I x2, mx_I x3, mx_I x4] s = mx_bI none (mx_sem 21 [mx_I x1, mx_I (s 0 1 2)] s) fun r2 s1 => if r2 = 0 then (some (some (mx_I (-1000001)), s1)) else (mx_bI none (mx_sem 21 [mx_I x2, mx_I 8] s1) fun r4 s3 => if r4 = 0 then (some (some (mx_I (-1000001)), s3)) else (mx_bI none (mx_sem 48 [mx_I x4, mx_I 1, mx_I 40] s3) fun r6 s5 => if r6 = 0 then (some (some (mx_I (-1000001)), s5)) else (mx_g none x2 8 fun j7 => if (s5 j7 32 1) = 0 then (mx_g none x2 8 fun j8 => mx_bI none (mx_sem 77 [mx_R j8 32, mx_I x3, mx_I x4] s5) fun r10 s9 => if r10 = 0 then (mx_bI none (mx_sem 69 [mx_R 0 28, mx_I 2] s9) fun r12 s11 => some (some (mx_I r12), s11)) else (mx_H 83 43 [some (mx_R 0 28), some (mx_I x1), some (mx_I x2), some (mx_I x3), some (mx_I x4), some (mx_I 0)] s9)) else (mx_bI none (mx_sem 69 [mx_R 0 28, mx_I 1] s5) fun r14 s13 => some (some (mx_I r14), s13))))) := (mx_sem_eq 83 _ s).trans rfl
set_option maxRecDepth 100000 in
set_option maxHeartbeats 4000000 in
theorem e_X_counts_43 (x1 x2 x3 x4 x5 : Int32) (s : mx_S) : mx_H 83 43 [some (mx_R 0 28), some (mx_I x1), some (mx_I x2), some (mx_I x3), some (mx_I x4), some (mx_I x5)] s = if x4 ≤ x5 then (mx_g none x2 8 fun j1 => mx_bI none (mx_sem 82 [mx_R 0 28, mx_I x1, mx_R j1 32, mx_I x3, mx_I x4] s) fun r3 s2 => mx_bI none (mx_sem 68 [mx_R 0 28, mx_I r3] s2) fun r5 s4 => some (some (mx_I r5), s4)) else (mx_g none x2 8 fun j6 => mx_g none (x3 + x5) 40 fun j7 => mx_bI none (mx_sem 48 [mx_I (s j6 33 j7), mx_I 0, mx_I 30] s) fun r9 s8 => if r9 = 0 then (some (some (mx_I (-1000001)), s8)) else (mx_H 83 43 [some (mx_R 0 28), some (mx_I x1), some (mx_I x2), some (mx_I x3), some (mx_I x4), some (mx_I (x5 + 1))] s8)) := (mx_H_eq 83 43 _ s).trans rfl
set_option maxRecDepth 100000 in
set_option maxHeartbeats 4000000 in
theorem e_X_drop (x1 : Int32) (s : mx_S) : mx_sem 84 [mx_R 0 28, mx_I x1] s = mx_bI none (mx_sem 21 [mx_I x1, mx_I 8] s) fun r2 s1 => if r2 = 0 then (some (some (mx_I (-1000001)), s1)) else (mx_g none x1 8 fun j3 => if (s1 j3 32 1) = 0 then (mx_g none x1 8 fun j4 => mx_w (mx_up s1 j4 32 1 1) fun s5 => mx_g none x1 8 fun j6 => mx_bI none (mx_sem 68 [mx_R 0 28, mx_I (s5 j6 32 3)] s5) fun r8 s7 => some (some (mx_I r8), s7)) else (mx_bI none (mx_sem 69 [mx_R 0 28, mx_I 1] s1) fun r10 s9 => some (some (mx_I r10), s9))) := (mx_sem_eq 84 _ s).trans rfl
set_option maxRecDepth 100000 in
set_option maxHeartbeats 4000000 in
theorem e_X_far (x1 x2 : Int32) (s : mx_S) : mx_sem 85 [mx_R 0 28, mx_I x1, mx_I x2] s = mx_bI none (mx_sem 21 [mx_I x1, mx_I (s 0 1 2)] s) fun r2 s1 => if r2 = 0 then (some (some (mx_I (-1000001)), s1)) else (mx_bI none (mx_sem 21 [mx_I x2, mx_I (s1 0 1 2)] s1) fun r4 s3 => if r4 = 0 then (some (some (mx_I (-1000001)), s3)) else (mx_g none ((x1 * 6) + x2) 36 fun j5 => if (s3 0 14 j5) = 1000 then (some (some (mx_I (-1000000)), s3)) else (some (some (mx_I (s3 0 14 j5)), s3)))) := (mx_sem_eq 85 _ s).trans rfl
set_option maxRecDepth 100000 in
set_option maxHeartbeats 4000000 in
theorem e_X_fault (s : mx_S) : mx_sem 86 [mx_R 0 28] s = some (some (mx_I (s 0 28 8)), s) := (mx_sem_eq 86 _ s).trans rfl
set_option maxRecDepth 100000 in
set_option maxHeartbeats 4000000 in
theorem e_X_feed (x3 : Int32) (w1 : Int64) (s : mx_S) : mx_sem 87 [mx_R 0 28, mx_J w1, mx_I x3] s = mx_bI none (mx_sem 48 [mx_I x3, mx_I 1, mx_I 8] s) fun r2 s1 => if r2 = 0 then (some (some (mx_I (-1000001)), s1)) else (if ((s1 0 29 1) + x3) ≤ 400 then (mx_H 87 21 [some (mx_R 0 28), some (mx_J w1), none, none, some (mx_I (x3 - 1))] s1) else (some (some (mx_I (-1000003)), s1))) := (mx_sem_eq 87 _ s).trans rfl
set_option maxRecDepth 100000 in
set_option maxHeartbeats 4000000 in
theorem e_X_feed_21 (x4 : Int32) (w1 : Int64) (s : mx_S) : mx_H 87 21 [some (mx_R 0 28), some (mx_J w1), none, none, some (mx_I x4)] s = if x4 < 0 then (some (some (mx_I (s 0 29 1)), s)) else (mx_bV none (mx_sem 53 [mx_R 0 29, mx_I (((w1 >>> ((((8 : Int32)) * x4).toInt64 &&& 63)).toInt32).toInt8.toInt32)] s) fun s1 => mx_H 87 21 [some (mx_R 0 28), some (mx_J w1), none, none, some (mx_I (x4 + (-1)))] s1) := (mx_H_eq 87 21 _ s).trans rfl
set_option maxRecDepth 100000 in
set_option maxHeartbeats 4000000 in
theorem e_X_fire (s : mx_S) : mx_sem 88 [mx_R 0 28] s = mx_bI none (mx_sem 74 [mx_R 0 28] s) fun r2 s1 => if r2 = 0 then (mx_H 88 10 [some (mx_R 0 28), some (mx_I 0), some (mx_I 0), none, none] s1) else (some (some (mx_I (-1000002)), s1)) := (mx_sem_eq 88 _ s).trans rfl
set_option maxRecDepth 100000 in
set_option maxHeartbeats 4000000 in
theorem e_X_fire_10 (x1 x2 : Int32) (s : mx_S) : mx_H 88 10 [some (mx_R 0 28), some (mx_I x1), some (mx_I x2), none, none] s = if (s 0 1 17) ≤ x2 then (some (some (mx_I x1), s)) else (mx_g none x2 30 fun j1 => if 0 ≤ (s 0 18 j1) then (mx_g none ((s 0 18 j1) * 6) 36 fun j2 => if (s 0 14 j2) = 1000 then (some (some (mx_I (-1000000)), s)) else (mx_H 88 10 [some (mx_R 0 28), some (mx_I (if x1 < ((s 0 14 j2) + 1) then ((s 0 14 j2) + 1) else x1)), some (mx_I (x2 + 1)), none, none] s)) else (mx_H 88 10 [some (mx_R 0 28), some (mx_I x1), some (mx_I (x2 + 1)), none, none] s)) := (mx_H_eq 88 10 _ s).trans rfl
set_option maxRecDepth 100000 in
set_option maxHeartbeats 4000000 in
theorem e_X_go (x1 : Int32) (s : mx_S) : mx_sem 89 [mx_R 0 28, mx_I x1] s = mx_bI none (mx_sem 74 [mx_R 0 28] s) fun r2 s1 => if r2 = 0 then (mx_bI none (mx_sem 48 [mx_I x1, mx_I 1, mx_I 60] s1) fun r4 s3 => if r4 = 0 then (some (some (mx_I (-1000001)), s3)) else (mx_H 89 15 [some (mx_R 0 28), some (mx_I x1), some (mx_I 0)] s3)) else (some (some (mx_I (-1000002)), s1)) := (mx_sem_eq 89 _ s).trans rfl
set_option maxRecDepth 100000 in
set_option maxHeartbeats 4000000 in
theorem e_X_go_15 (x1 x2 : Int32) (s : mx_S) : mx_H 89 15 [some (mx_R 0 28), some (mx_I x1), some (mx_I x2)] s = if x1 ≤ x2 then (some (some (mx_I (s 0 16 2)), s)) else (mx_bV none (mx_sem 29 [mx_R 0 16] s) fun s1 => mx_H 89 15 [some (mx_R 0 28), some (mx_I x1), some (mx_I (x2 + 1))] s1) := (mx_H_eq 89 15 _ s).trans rfl
set_option maxRecDepth 100000 in
set_option maxHeartbeats 4000000 in
theorem e_X_hangBy (x1 x2 : Int32) (s : mx_S) : mx_sem 90 [mx_R 0 28, mx_I x1, mx_I x2] s = mx_H 90 9 [some (mx_R 0 28), none, some (mx_I x2), some (mx_I x1), some (mx_I 0), some (mx_I (x2 - 1)), none] s := (mx_sem_eq 90 _ s).trans rfl
set_option maxRecDepth 100000 in
set_option maxHeartbeats 4000000 in
theorem e_X_hangBy_9 (x2 x3 x4 x5 : Int32) (s : mx_S) : mx_H 90 9 [some (mx_R 0 28), none, some (mx_I x2), some (mx_I x3), some (mx_I x4), some (mx_I x5), none] s = if x5 < 0 then (if x4 = ((((1 : Int32)) <<< (x2 &&& 31)) - 1) then (some (some (mx_I 1), s)) else (some (some (mx_I 0), s))) else (mx_d none x2 (mx_d none x2 (mx_g none x5 4 fun j1 => mx_w (mx_up s 0 37 j1 (x3 - x3 / x2 * x2)) fun s2 => mx_g none (x3 - x3 / x2 * x2) 8 fun j3 => mx_g none x5 8 fun j4 => mx_w (mx_up s2 1 6 j4 (s2 0 6 j3)) fun s5 => mx_H 90 9 [some (mx_R 0 28), none, some (mx_I x2), some (mx_I (x3 / x2)), some (mx_I (x4 ||| (((1 : Int32)) <<< ((x3 - x3 / x2 * x2) &&& 31)))), some (mx_I (x5 + (-1))), none] s5))) := (mx_H_eq 90 9 _ s).trans rfl
set_option maxRecDepth 100000 in
set_option maxHeartbeats 4000000 in
theorem e_X_hangBest (x1 x2 : Int32) (s : mx_S) : mx_sem 91 [mx_R 0 28, mx_I x1, mx_I x2] s = mx_H 91 5 [some (mx_R 0 28), some (mx_I x1), some (mx_I x2), some (mx_I 1), some (mx_I 0), none, none] s := (mx_sem_eq 91 _ s).trans rfl
set_option maxRecDepth 100000 in
set_option maxHeartbeats 4000000 in
theorem e_X_hangBest_5 (x1 x2 x3 x4 : Int32) (s : mx_S) : mx_H 91 5 [some (mx_R 0 28), some (mx_I x1), some (mx_I x2), some (mx_I x3), some (mx_I x4), none, none] s = if x2 ≤ x4 then (mx_bV none (mx_sem 34 [mx_R 1 0, mx_R 0 0] s) fun s1 => mx_H 91 24 [some (mx_R 0 28), some (mx_I x1), some (mx_I x2), some (mx_I x3), some (mx_I (-1)), some (mx_I 0), none] s1) else (mx_H 91 5 [some (mx_R 0 28), some (mx_I x1), some (mx_I x2), some (mx_I (x3 * x2)), some (mx_I (x4 + 1)), none, none] s) := (mx_H_eq 91 5 _ s).trans rfl
set_option maxRecDepth 100000 in
set_option maxHeartbeats 4000000 in
theorem e_X_hangBest_24 (x1 x2 x3 x4 x5 : Int32) (s : mx_S) : mx_H 91 24 [some (mx_R 0 28), some (mx_I x1), some (mx_I x2), some (mx_I x3), some (mx_I x4), some (mx_I x5), none] s = if x3 ≤ x5 then (some (some (mx_I x4), s)) else (mx_bI none (mx_sem 90 [mx_R 0 28, mx_I x5, mx_I x2] s) fun r2 s1 => if r2 = 0 then (mx_H 91 24 [some (mx_R 0 28), some (mx_I x1), some (mx_I x2), some (mx_I x3), some (mx_I x4), some (mx_I (x5 + 1)), none] s1) else (mx_bI none (mx_sem 31 [mx_R 1 0, mx_I x1, mx_I 0, mx_I 0] s1) fun r4 s3 => if r4 ≤ x4 then (mx_H 91 24 [some (mx_R 0 28), some (mx_I x1), some (mx_I x2), some (mx_I x3), some (mx_I x4), some (mx_I (x5 + 1)), none] s3) else (mx_c s3 ((0 : Int32)) ((0 : Int32)) 0 37 x2 0 38 none fun s5 => mx_H 91 24 [some (mx_R 0 28), some (mx_I x1), some (mx_I x2), some (mx_I x3), some (mx_I r4), some (mx_I (x5 + 1)), none] s5))) := (mx_H_eq 91 24 _ s).trans rfl
set_option maxRecDepth 100000 in
set_option maxHeartbeats 4000000 in
theorem e_X_house (s : mx_S) : mx_sem 92 [mx_R 0 28] s = mx_bV none (mx_sem 63 [mx_R 0 29, mx_R 1 1] s) fun s1 => mx_w (mx_up s1 0 29 1 0) fun s2 => if (s2 0 29 3) = 0 then (mx_bV none (mx_sem 34 [mx_R 0 0, mx_R 1 0] s2) fun s3 => mx_bV none (mx_sem 66 [mx_R 0 13, mx_R 0 1] s3) fun s4 => mx_bV none (mx_sem 19 [mx_R 0 16, mx_I 0] s4) fun s5 => some (some (mx_I (s5 0 1 17)), s5)) else (mx_w (mx_up s2 0 28 8 (s2 0 29 3)) fun s6 => some (some (mx_I (((-1000100 : Int32)) - (s6 0 29 2))), s6)) := (mx_sem_eq 92 _ s).trans rfl
set_option maxRecDepth 100000 in
set_option maxHeartbeats 4000000 in
theorem e_X_hung (x1 x2 : Int32) (s : mx_S) : mx_sem 93 [mx_R 0 28, mx_I x1, mx_I x2] s = mx_bI none (mx_sem 74 [mx_R 0 28] s) fun r2 s1 => if r2 = 0 then (mx_bI none (mx_sem 75 [mx_I x1] s1) fun r4 s3 => if r4 = 0 then (if (-1) ≤ x2 then (mx_bI none (mx_sem 48 [mx_I (s3 0 1 8), mx_I 1, mx_I 4] s3) fun r6 s5 => if r6 = 0 then (some (some (mx_I (-1000000)), s5)) else (if x2 < (s3 0 1 8) then (mx_bI none (mx_sem 91 [mx_R 0 28, mx_I x1, mx_I (s3 0 1 8)] s5) fun r8 s7 => if x2 = (-1) then (some (some (mx_I r8), s7)) else (mx_g none x2 4 fun j9 => some (some (mx_I (s7 0 38 j9)), s7))) else (some (some (mx_I (-1000000)), s5)))) else (some (some (mx_I (-1000001)), s3))) else (some (some (mx_I (-1000001)), s3))) else (some (some (mx_I (-1000002)), s1)) := (mx_sem_eq 93 _ s).trans rfl
set_option maxRecDepth 100000 in
set_option maxHeartbeats 4000000 in
theorem e_X_image (x1 : Int32) (s : mx_S) : mx_sem 94 [mx_R 0 28, mx_I x1] s = mx_bI none (mx_sem 21 [mx_I x1, mx_I 2] s) fun r2 s1 => if r2 = 0 then (some (some (mx_I (-1000001)), s1)) else (mx_bI none (mx_sem 74 [mx_R 0 28] s1) fun r4 s3 => if r4 = 0 then (mx_g none x1 2 fun j5 => mx_bV none (mx_sem 35 [mx_R (j5 + 2) 0, mx_R 0 0] s3) fun s6 => some (some (mx_I 1), s6)) else (some (some (mx_I (-1000002)), s3))) := (mx_sem_eq 94 _ s).trans rfl
set_option maxRecDepth 100000 in
set_option maxHeartbeats 4000000 in
theorem e_X_kind (x1 : Int32) (s : mx_S) : mx_sem 95 [mx_R 0 28, mx_I x1] s = mx_bI none (mx_sem 67 [mx_R 0 28, mx_I x1] s) fun r2 s1 => if r2 = 0 then (mx_bI none (mx_sem 2 [mx_R 0 16, mx_I x1] s1) fun r4 s3 => some (some (mx_I r4), s3)) else (some (some (mx_I (-1000001)), s1)) := (mx_sem_eq 95 _ s).trans rfl
set_option maxRecDepth 100000 in
set_option maxHeartbeats 4000000 in
theorem e_X_oneWay (x1 x2 : Int32) (s : mx_S) : mx_sem 96 [mx_R 0 28, mx_I x1, mx_I x2] s = mx_bI none (mx_sem 21 [mx_I x1, mx_I (s 0 1 4)] s) fun r2 s1 => if r2 = 0 then (some (some (mx_I (-1000001)), s1)) else (mx_bI none (mx_sem 75 [mx_I x2] s1) fun r4 s3 => if r4 = 0 then (mx_bV none (mx_sem 34 [mx_R 1 0, mx_R 0 0] s3) fun s5 => mx_bI none (mx_sem 31 [mx_R 1 0, mx_I x2, mx_I 0, mx_I 0] s5) fun r7 s6 => mx_g none x1 9 fun j8 => mx_w (mx_up s6 1 5 j8 1) fun s9 => mx_bV none (mx_sem 66 [mx_R 1 13, mx_R 1 1] s9) fun s10 => mx_bI none (mx_sem 31 [mx_R 1 0, mx_I x2, mx_I 0, mx_I 0] s10) fun r12 s11 => some (some (mx_I (r12 - r7)), s11)) else (some (some (mx_I (-1000001)), s3))) := (mx_sem_eq 96 _ s).trans rfl
set_option maxRecDepth 100000 in
set_option maxHeartbeats 4000000 in
theorem e_X_picture (x1 x2 x3 : Int32) (s : mx_S) : mx_sem 97 [mx_R 0 28, mx_I x1, mx_I x2, mx_I x3] s = mx_bI none (mx_sem 21 [mx_I x1, mx_I (s 0 1 8)] s) fun r2 s1 => if r2 = 0 then (some (some (mx_I (-1000001)), s1)) else (mx_bI none (mx_sem 75 [mx_I x2] s1) fun r4 s3 => if r4 = 0 then (mx_bI none (mx_sem 21 [mx_I x3, mx_I 2] s3) fun r6 s5 => if r6 = 0 then (some (some (mx_I (-1000001)), s5)) else (mx_bV none (mx_sem 34 [mx_R 1 0, mx_R 0 0] s5) fun s7 => mx_bI none (mx_sem 31 [mx_R 1 0, mx_I x2, mx_I 0, mx_I 0] s7) fun r9 s8 => if x3 = 1 then (mx_bI none (mx_sem 31 [mx_R 1 0, mx_I x2, mx_I 0, mx_I (((1 : Int32)) <<< (x1 &&& 31))] s8) fun r16 s15 => some (some (mx_I (r9 - r16)), s15)) else (mx_g none x1 8 fun j10 => mx_g none x1 8 fun j11 => mx_w (mx_up s8 1 8 j11 ((s8 1 8 j10) - 1)) fun s12 => mx_bI none (mx_sem 31 [mx_R 1 0, mx_I x2, mx_I 0, mx_I 0] s12) fun r14 s13 => some (some (mx_I (r14 - r9)), s13)))) else (some (some (mx_I (-1000001)), s3))) := (mx_sem_eq 97 _ s).trans rfl
set_option maxRecDepth 100000 in
set_option maxHeartbeats 4000000 in
theorem e_X_restore (x1 : Int32) (s : mx_S) : mx_sem 98 [mx_R 0 28, mx_I x1] s = mx_bI none (mx_sem 21 [mx_I x1, mx_I 2] s) fun r2 s1 => if r2 = 0 then (some (some (mx_I (-1000001)), s1)) else (mx_g none x1 2 fun j3 => if (s1 (j3 + 2) 1 2) = 0 then (some (some (mx_I (-1000002)), s1)) else (mx_g none x1 2 fun j4 => mx_bV none (mx_sem 35 [mx_R 0 0, mx_R (j4 + 2) 0] s1) fun s5 => some (some (mx_I 1), s5))) := (mx_sem_eq 98 _ s).trans rfl
end
section
set_option maxRecDepth 100000 in
set_option maxHeartbeats 4000000 in
theorem e_X_room (x1 x2 : Int32) (s : mx_S) : mx_sem 99 [mx_R 0 28, mx_I x1, mx_I x2] s = mx_bI none (mx_sem 21 [mx_I x1, mx_I (s 0 1 2)] s) fun r2 s1 => if r2 = 0 then (some (some (mx_I (-1000001)), s1)) else (mx_bI none (mx_sem 21 [mx_I x2, mx_I 2] s1) fun r4 s3 => if r4 = 0 then (some (some (mx_I (-1000001)), s3)) else (if x2 = 0 then (mx_g none x1 6 fun j6 => some (some (mx_I (s3 0 2 j6)), s3)) else (mx_g none x1 6 fun j5 => some (some (mx_I (s3 0 25 j5)), s3)))) := (mx_sem_eq 99 _ s).trans rfl
set_option maxRecDepth 100000 in
set_option maxHeartbeats 4000000 in
theorem e_Y_make (k0 : Nat) (x1 x2 : Int32) (s : mx_S) : mx_sem 100 [mx_R k0 32, mx_I x1, mx_I x2] s = mx_w (mx_up s k0 32 1 0) fun s1 => mx_w (mx_up s1 k0 32 2 x1) fun s2 => mx_w (mx_up s2 k0 32 3 x2) fun s3 => mx_bV none (mx_sem 18 [mx_R k0 33, mx_I 0] s3) fun s4 => some (none, s4) := (mx_sem_eq 100 _ s).trans rfl
set_option maxRecDepth 100000 in
set_option maxHeartbeats 4000000 in
theorem e_X_row (x1 x2 x3 : Int32) (s : mx_S) : mx_sem 101 [mx_R 0 28, mx_I x1, mx_I x2, mx_I x3] s = mx_bI none (mx_sem 21 [mx_I x1, mx_I 8] s) fun r2 s1 => if r2 = 0 then (some (some (mx_I (-1000001)), s1)) else (mx_bI none (mx_sem 21 [mx_I x2, mx_I 3] s1) fun r4 s3 => if r4 = 0 then (some (some (mx_I (-1000001)), s3)) else (if x3 ≤ 40 then (if 0 ≤ x3 then (mx_g none x1 8 fun j5 => mx_bV none (mx_sem 100 [mx_R j5 32, mx_I x2, mx_I x3] s3) fun s6 => mx_bI none (mx_sem 68 [mx_R 0 28, mx_I x3] s6) fun r8 s7 => some (some (mx_I r8), s7)) else (mx_bI none (mx_sem 69 [mx_R 0 28, mx_I 4] s3) fun r10 s9 => some (some (mx_I r10), s9))) else (some (some (mx_I (-1000001)), s3)))) := (mx_sem_eq 101 _ s).trans rfl
set_option maxRecDepth 100000 in
set_option maxHeartbeats 4000000 in
theorem e_X_rule (x1 x2 : Int32) (s : mx_S) : mx_sem 102 [mx_R 0 28, mx_I x1, mx_I x2] s = mx_bI none (mx_sem 74 [mx_R 0 28] s) fun r2 s1 => if r2 = 0 then (mx_bI none (mx_sem 48 [mx_I x1, mx_I 1, mx_I 20] s1) fun r4 s3 => if r4 = 0 then (some (some (mx_I (-1000001)), s3)) else (mx_bI none (mx_sem 48 [mx_I x2, mx_I 0, mx_I 20] s3) fun r6 s5 => if r6 = 0 then (some (some (mx_I (-1000001)), s5)) else (mx_w (mx_up s5 0 1 0 x1) fun s7 => mx_w (mx_up s7 0 1 1 x2) fun s8 => some (some (mx_I 1), s8)))) else (some (some (mx_I (-1000002)), s1)) := (mx_sem_eq 102 _ s).trans rfl
set_option maxRecDepth 100000 in
set_option maxHeartbeats 4000000 in
theorem e_X_seen (x1 x2 : Int32) (s : mx_S) : mx_sem 103 [mx_R 0 28, mx_I x1, mx_I x2] s = mx_bI none (mx_sem 74 [mx_R 0 28] s) fun r2 s1 => if r2 = 0 then (mx_bI none (mx_sem 75 [mx_I x1] s1) fun r4 s3 => if r4 = 0 then (mx_bI none (mx_sem 21 [mx_I x2, mx_I 3] s3) fun r6 s5 => if r6 = 0 then (some (some (mx_I (-1000001)), s5)) else (mx_bV none (mx_sem 34 [mx_R 1 0, mx_R 0 0] s5) fun s7 => mx_bI none (mx_sem 31 [mx_R 1 0, mx_I x1, mx_I x2, mx_I 0] s7) fun r9 s8 => some (some (mx_I r9), s8))) else (some (some (mx_I (-1000001)), s3))) else (some (some (mx_I (-1000002)), s1)) := (mx_sem_eq 103 _ s).trans rfl
set_option maxRecDepth 100000 in
set_option maxHeartbeats 4000000 in
theorem e_Y_cut (k0 : Nat) (x1 : Int32) (s : mx_S) : mx_sem 104 [mx_R k0 32, mx_I x1] s = if (s k0 32 2) = 0 then (some (some (mx_I (x1.toInt8.toInt32)), s)) else (if (s k0 32 2) = 1 then (some (some (mx_I (x1.toInt16.toInt32)), s)) else (some (some (mx_I x1), s))) := (mx_sem_eq 104 _ s).trans rfl
set_option maxRecDepth 100000 in
set_option maxHeartbeats 4000000 in
theorem e_X_set (x1 x2 x3 : Int32) (s : mx_S) : mx_sem 105 [mx_R 0 28, mx_I x1, mx_I x2, mx_I x3] s = mx_bI none (mx_sem 21 [mx_I x1, mx_I 8] s) fun r2 s1 => if r2 = 0 then (some (some (mx_I (-1000001)), s1)) else (mx_g none x1 8 fun j3 => if (s1 j3 32 1) = 0 then (mx_bI none (mx_sem 77 [mx_R j3 32, mx_I x2, mx_I 1] s1) fun r5 s4 => if r5 = 0 then (mx_bI none (mx_sem 69 [mx_R 0 28, mx_I 2] s4) fun r14 s13 => some (some (mx_I r14), s13)) else (mx_bI none (mx_sem 104 [mx_R j3 32, mx_I x3] s4) fun r7 s6 => mx_g none x2 40 fun j8 => mx_w (mx_up s6 j3 33 j8 r7) fun s9 => mx_g none x2 40 fun j10 => mx_bI none (mx_sem 68 [mx_R 0 28, mx_I (s9 j3 33 j10)] s9) fun r12 s11 => some (some (mx_I r12), s11))) else (mx_bI none (mx_sem 69 [mx_R 0 28, mx_I 1] s1) fun r16 s15 => some (some (mx_I r16), s15))) := (mx_sem_eq 105 _ s).trans rfl
set_option maxRecDepth 100000 in
set_option maxHeartbeats 4000000 in
theorem e_X_status (s : mx_S) : mx_sem 106 [mx_R 0 28] s = some (some (mx_I (s 0 28 9)), s) := (mx_sem_eq 106 _ s).trans rfl
set_option maxRecDepth 100000 in
set_option maxHeartbeats 4000000 in
theorem e_X_tickets (x1 x2 : Int32) (s : mx_S) : mx_sem 107 [mx_R 0 28, mx_I x1, mx_I x2] s = mx_bI none (mx_sem 21 [mx_I x1, mx_I (s 0 1 12)] s) fun r2 s1 => if r2 = 0 then (some (some (mx_I (-1000001)), s1)) else (mx_bI none (mx_sem 75 [mx_I x2] s1) fun r4 s3 => if r4 = 0 then (mx_bV none (mx_sem 34 [mx_R 1 0, mx_R 0 0] s3) fun s5 => mx_H 107 24 [some (mx_R 0 28), some (mx_I x1), some (mx_I x2), some (mx_I 0), some (mx_I (-1)), some (mx_I 0), none] s5) else (some (some (mx_I (-1000001)), s3))) := (mx_sem_eq 107 _ s).trans rfl
set_option maxRecDepth 100000 in
set_option maxHeartbeats 4000000 in
theorem e_X_tickets_24 (x1 x2 x3 x4 x5 : Int32) (s : mx_S) : mx_H 107 24 [some (mx_R 0 28), some (mx_I x1), some (mx_I x2), some (mx_I x3), some (mx_I x4), some (mx_I x5), none] s = if 60 < x5 then (some (some (mx_I x3), s)) else (mx_g none x1 6 fun j1 => mx_w (mx_up s 1 10 j1 x5) fun s2 => mx_bI none (mx_sem 31 [mx_R 1 0, mx_I x2, mx_I 0, mx_I 0] s2) fun r4 s3 => if r4 ≤ x4 then (mx_H 107 24 [some (mx_R 0 28), some (mx_I x1), some (mx_I x2), some (mx_I x3), some (mx_I x4), some (mx_I (x5 + 1)), none] s3) else (mx_H 107 24 [some (mx_R 0 28), some (mx_I x1), some (mx_I x2), some (mx_I x5), some (mx_I r4), some (mx_I (x5 + 1)), none] s3)) := (mx_H_eq 107 24 _ s).trans rfl
set_option maxRecDepth 100000 in
set_option maxHeartbeats 4000000 in
theorem e_X_trace (x1 : Int32) (s : mx_S) : mx_sem 108 [mx_R 0 28, mx_I x1] s = mx_bI none (mx_sem 21 [mx_I x1, mx_I (s 0 35 2)] s) fun r2 s1 => if r2 = 0 then (some (some (mx_I (-1000000)), s1)) else (mx_g none x1 16 fun j3 => some (some (mx_I (s1 0 36 j3)), s1)) := (mx_sem_eq 108 _ s).trans rfl
set_option maxRecDepth 100000 in
set_option maxHeartbeats 4000000 in
theorem e_X_visitor (x1 x2 : Int32) (s : mx_S) : mx_sem 109 [mx_R 0 28, mx_I x1, mx_I x2] s = mx_bI none (mx_sem 67 [mx_R 0 28, mx_I x1] s) fun r2 s1 => if r2 = 0 then (mx_g none x1 30 fun j3 => if x2 = Int32.ofNat 0 then (mx_g none x1 30 fun j4 => some (some (mx_I (s1 0 17 j4)), s1)) else if x2 = Int32.ofNat 1 then (mx_g none x1 30 fun j5 => if 0 ≤ (s1 0 18 j5) then (mx_g none x1 30 fun j6 => some (some (mx_I (s1 0 18 j6)), s1)) else (some (some (mx_I (-1000000)), s1))) else if x2 = Int32.ofNat 2 then (mx_g none x1 30 fun j7 => if (s1 0 18 j7) = (-2) then (some (some (mx_I 1), s1)) else (some (some (mx_I 0), s1))) else if x2 = Int32.ofNat 3 then (mx_g none x1 30 fun j8 => some (some (mx_I (s1 0 19 j8)), s1)) else if x2 = Int32.ofNat 4 then (mx_g none x1 30 fun j9 => some (some (mx_I (s1 0 20 j9)), s1)) else if x2 = Int32.ofNat 5 then (mx_g none x1 30 fun j10 => some (some (mx_I (s1 0 21 j10)), s1)) else if x2 = Int32.ofNat 6 then (mx_g none x1 30 fun j11 => some (some (mx_I (s1 0 22 j11)), s1)) else if x2 = Int32.ofNat 7 then (if (s1 0 23 j3) = (-1) then (some (some (mx_I (-1000000)), s1)) else (some (some (mx_I (s1 0 23 j3)), s1))) else if x2 = Int32.ofNat 8 then (if (s1 0 23 j3) = (-1) then (some (some (mx_I 0), s1)) else (mx_g none ((x1 * 8) + (s1 0 23 j3)) 240 fun j12 => some (some (mx_I (s1 0 24 j12)), s1))) else (some (some (mx_I (-1000001)), s1))) else (some (some (mx_I (-1000001)), s1)) := (mx_sem_eq 109 _ s).trans rfl
set_option maxRecDepth 100000 in
set_option maxHeartbeats 4000000 in
theorem e_M_groupOf (x1 : Int32) (s : mx_S) : mx_sem 110 [mx_R 0 39, mx_I x1] s = mx_H 110 5 [some (mx_R 0 39), none, some (mx_I x1), some (mx_I 0)] s := (mx_sem_eq 110 _ s).trans rfl
set_option maxRecDepth 100000 in
set_option maxHeartbeats 4000000 in
theorem e_M_groupOf_5 (x2 x3 : Int32) (s : mx_S) : mx_H 110 5 [some (mx_R 0 39), none, some (mx_I x2), some (mx_I x3)] s = mx_g none (((56 : Int32)) + (((4 : Int32)) * x3)) 80 fun j1 => if x2 < (s 0 43 j1) then (some (some (mx_I x3), s)) else (mx_g none (((56 : Int32)) + (((4 : Int32)) * x3)) 80 fun j2 => mx_H 110 5 [some (mx_R 0 39), none, some (mx_I (x2 - (s 0 43 j2))), some (mx_I (x3 + 1))] s) := (mx_H_eq 110 5 _ s).trans rfl
set_option maxRecDepth 100000 in
set_option maxHeartbeats 4000000 in
theorem e_M_told (x1 x2 : Int32) (s : mx_S) : mx_sem 111 [mx_R 0 39, mx_I x1, mx_I x2] s = mx_bI none (mx_sem 110 [mx_R 0 39, mx_I x1] s) fun r2 s1 => mx_g none ((((56 : Int32)) + (((4 : Int32)) * r2)) + x2) 80 fun j3 => some (some (mx_I (s1 0 43 j3)), s1) := (mx_sem_eq 111 _ s).trans rfl
set_option maxRecDepth 100000 in
set_option maxHeartbeats 4000000 in
theorem e_M_lawNow (x1 : Int32) (s : mx_S) : mx_sem 112 [mx_R 0 39, mx_I x1] s = if 0 ≤ (s 0 39 21) then (some (some (mx_I (s 0 39 21)), s)) else (mx_bI none (mx_sem 111 [mx_R 0 39, mx_I x1, mx_I 2] s) fun r2 s1 => some (some (mx_I r2), s1)) := (mx_sem_eq 112 _ s).trans rfl
set_option maxRecDepth 100000 in
set_option maxHeartbeats 4000000 in
theorem e_M_isOpen (k1 : Nat) (x2 x3 : Int32) (s : mx_S) : mx_sem 113 [mx_R 0 39, mx_R k1 45, mx_I x2, mx_I x3] s = mx_g none ((((14 : Int32)) * x2) + 3) 421 fun j1 => if (((s k1 45 j1) >>> (x3 &&& 31)) &&& 1) = 0 then (mx_g none ((((14 : Int32)) * x2) + 0) 421 fun j2 => mx_g none (((40 : Int32)) + (((2 : Int32)) * x3)) 80 fun j3 => mx_g none ((((6 : Int32)) * (s k1 45 j2)) + (s 0 43 j3)) 36 fun j4 => if (s 0 47 j4) = (-1000000) then (some (some (mx_I 0), s)) else (some (some (mx_I 1), s))) else (some (some (mx_I 0), s)) := (mx_sem_eq 113 _ s).trans rfl
set_option maxRecDepth 100000 in
set_option maxHeartbeats 4000000 in
theorem e_M_aim (k1 : Nat) (x2 : Int32) (s : mx_S) : mx_sem 114 [mx_R 0 39, mx_R k1 45, mx_I x2] s = mx_bI none (mx_sem 112 [mx_R 0 39, mx_I x2] s) fun r2 s1 => if r2 = 0 then (mx_H 114 15 [some (mx_R 0 39), some (mx_R k1 45), some (mx_I x2), some (mx_I (-1000000)), some (mx_I 0), some (mx_I 1), some (mx_I 0), none, none, none] s1) else (mx_H 114 15 [some (mx_R 0 39), some (mx_R k1 45), some (mx_I x2), some (mx_I (-1000000)), some (mx_I 0), some (mx_I 0), some (mx_I 0), none, none, none] s1) := (mx_sem_eq 114 _ s).trans rfl
set_option maxRecDepth 100000 in
set_option maxHeartbeats 4000000 in
theorem e_M_aim_15 (k1 : Nat) (x2 x3 x4 x5 x6 : Int32) (s : mx_S) : mx_H 114 15 [some (mx_R 0 39), some (mx_R k1 45), some (mx_I x2), some (mx_I x3), some (mx_I x4), some (mx_I x5), some (mx_I x6), none, none, none] s = mx_g none 4 80 fun j1 => if (s 0 43 j1) ≤ x6 then (some (some (mx_I x3), s)) else (mx_bI none (mx_sem 113 [mx_R 0 39, mx_R k1 45, mx_I x2, mx_I x6] s) fun r3 s2 => if r3 = 0 then (mx_H 114 15 [some (mx_R 0 39), some (mx_R k1 45), some (mx_I x2), some (mx_I x3), some (mx_I x4), some (mx_I x5), some (mx_I (x6 + 1)), none, none, none] s2) else (mx_g none ((((40 : Int32)) + (((2 : Int32)) * x6)) + 1) 80 fun j4 => mx_g none ((((14 : Int32)) * x2) + 0) 421 fun j5 => mx_g none (((40 : Int32)) + (((2 : Int32)) * x6)) 80 fun j6 => mx_g none ((((6 : Int32)) * (s2 k1 45 j5)) + (s2 0 43 j6)) 36 fun j7 => mx_bI none (mx_sem 112 [mx_R 0 39, mx_I x2] s2) fun r9 s8 => if r9 = 2 then (some (some (mx_I x6), s8)) else (if x5 = 0 then (if x3 = (-1000000) then (mx_H 114 15 [some (mx_R 0 39), some (mx_R k1 45), some (mx_I x2), some (mx_I x6), some (mx_I ((s2 0 43 j4) - (((5 : Int32)) * (s2 0 47 j7)))), some (mx_I x5), some (mx_I (x6 + 1)), none, none, none] s8) else (if ((s2 0 43 j4) - (((5 : Int32)) * (s2 0 47 j7))) ≤ x4 then (mx_H 114 15 [some (mx_R 0 39), some (mx_R k1 45), some (mx_I x2), some (mx_I x3), some (mx_I x4), some (mx_I x5), some (mx_I (x6 + 1)), none, none, none] s8) else (mx_H 114 15 [some (mx_R 0 39), some (mx_R k1 45), some (mx_I x2), some (mx_I x6), some (mx_I ((s2 0 43 j4) - (((5 : Int32)) * (s2 0 47 j7)))), some (mx_I x5), some (mx_I (x6 + 1)), none, none, none] s8))) else (if x6 = 0 then (some (some (mx_I x6), s8)) else (if x3 = (-1000000) then (mx_H 114 15 [some (mx_R 0 39), some (mx_R k1 45), some (mx_I x2), some (mx_I x6), some (mx_I ((s2 0 43 j4) - (((5 : Int32)) * (s2 0 47 j7)))), some (mx_I x5), some (mx_I (x6 + 1)), none, none, none] s8) else (if ((s2 0 43 j4) - (((5 : Int32)) * (s2 0 47 j7))) ≤ x4 then (mx_H 114 15 [some (mx_R 0 39), some (mx_R k1 45), some (mx_I x2), some (mx_I x3), some (mx_I x4), some (mx_I x5), some (mx_I (x6 + 1)), none, none, none] s8) else (mx_H 114 15 [some (mx_R 0 39), some (mx_R k1 45), some (mx_I x2), some (mx_I x6), some (mx_I ((s2 0 43 j4) - (((5 : Int32)) * (s2 0 47 j7)))), some (mx_I x5), some (mx_I (x6 + 1)), none, none, none] s8))))))) := (mx_H_eq 114 15 _ s).trans rfl
set_option maxRecDepth 100000 in
set_option maxHeartbeats 4000000 in
theorem e_M_in (w0 w2 w4 : Int64) (s : mx_S) : mx_sem 115 [mx_J w0, mx_J w2, mx_J w4] s = if (lg_cmp w0 w2) < 0 then (some (some (mx_I 0), s)) else (if 0 < (lg_cmp w0 w4) then (some (some (mx_I 0), s)) else (some (some (mx_I 1), s))) := (mx_sem_eq 115 _ s).trans rfl
set_option maxRecDepth 100000 in
set_option maxHeartbeats 4000000 in
theorem e_M_isVisitor (x1 : Int32) (s : mx_S) : mx_sem 116 [mx_R 0 39, mx_I x1] s = mx_g none 6 80 fun j1 => mx_bI none (mx_sem 115 [mx_J (x1.toInt64), mx_J 0, mx_J (((s 0 43 j1) - 1).toInt64)] s) fun r3 s2 => mx_z none 1 r3 (some (some (mx_I r3), s2)) := (mx_sem_eq 116 _ s).trans rfl
set_option maxRecDepth 100000 in
set_option maxHeartbeats 4000000 in
theorem e_M_kindOf (x1 : Int32) (s : mx_S) : mx_sem 117 [mx_R 0 39, mx_I x1] s = mx_g none ((((14 : Int32)) * x1) + 5) 421 fun j1 => mx_g none ((((14 : Int32)) * x1) + 0) 421 fun j2 => if (s 0 45 j2) = (-2) then (some (some (mx_I 5), s)) else (if (s 0 45 j2) = (-1) then (if (s 0 45 j1) = 3 then (if (s 0 45 j1) = 1 then (some (some (mx_I 1), s)) else (if (s 0 45 j1) = 2 then (some (some (mx_I 2), s)) else (if (s 0 45 j1) = 3 then (some (some (mx_I 4), s)) else (some (some (mx_I 3), s))))) else (some (some (mx_I 5), s))) else (if (s 0 45 j1) = 1 then (some (some (mx_I 1), s)) else (if (s 0 45 j1) = 2 then (some (some (mx_I 2), s)) else (if (s 0 45 j1) = 3 then (some (some (mx_I 4), s)) else (some (some (mx_I 3), s)))))) := (mx_sem_eq 117 _ s).trans rfl
set_option maxRecDepth 100000 in
set_option maxHeartbeats 4000000 in
theorem e_M_isOf (x0 x1 : Int32) (s : mx_S) : mx_sem 118 [mx_I x0, mx_I x1] s = if x1 = 0 then (some (some (mx_I 1), s)) else (if x0 = x1 then (some (some (mx_I 1), s)) else (if x1 = 3 then (if x0 = 4 then (some (some (mx_I 1), s)) else (some (some (mx_I 0), s))) else (some (some (mx_I 0), s)))) := (mx_sem_eq 118 _ s).trans rfl
set_option maxRecDepth 100000 in
set_option maxHeartbeats 4000000 in
theorem e_M_finding (x1 : Int32) (s : mx_S) : mx_sem 119 [mx_R 0 39, mx_I x1] s = mx_w (mx_up s 0 39 1 x1) fun s1 => some (some (mx_I (((-1000010 : Int32)) - x1)), s1) := (mx_sem_eq 119 _ s).trans rfl
set_option maxRecDepth 100000 in
set_option maxHeartbeats 4000000 in
theorem e_M_as (x1 x2 : Int32) (s : mx_S) : mx_sem 120 [mx_R 0 39, mx_I x1, mx_I x2] s = mx_w (mx_up s 0 39 0 0) fun s1 => mx_bI none (mx_sem 116 [mx_R 0 39, mx_I x1] s1) fun r3 s2 => if r3 = 0 then (some (some (mx_I (-1000001)), s2)) else (mx_bI none (mx_sem 115 [mx_J (x2.toInt64), mx_J 0, mx_J 5] s2) fun r5 s4 => if r5 = 0 then (some (some (mx_I (-1000001)), s4)) else (mx_w (mx_up s4 0 39 1 0) fun s6 => mx_bI none (mx_sem 117 [mx_R 0 39, mx_I x1] s6) fun r8 s7 => mx_bI none (mx_sem 118 [mx_I r8, mx_I x2] s7) fun r10 s9 => if r10 = 0 then (mx_bI none (mx_sem 119 [mx_R 0 39, mx_I 3] s9) fun r12 s11 => some (some (mx_I r12), s11)) else (some (some (mx_I x1), s9)))) := (mx_sem_eq 120 _ s).trans rfl
set_option maxRecDepth 100000 in
set_option maxHeartbeats 4000000 in
theorem e_M_began (x1 : Int32) (s : mx_S) : mx_sem 121 [mx_R 0 39, mx_I x1] s = if 16 ≤ (s 0 39 32) then (some (none, s)) else (mx_g none (s 0 39 32) 16 fun j1 => mx_w (mx_up s 0 54 j1 x1) fun s2 => mx_w (mx_up s2 0 39 32 ((s2 0 39 32) + 1)) fun s3 => some (none, s3)) := (mx_sem_eq 121 _ s).trans rfl
set_option maxRecDepth 100000 in
set_option maxHeartbeats 4000000 in
theorem e_M_plainSize (x1 : Int32) (s : mx_S) : mx_sem 122 [mx_R 0 39, mx_I x1] s = mx_bV none (mx_sem 121 [mx_R 0 39, mx_I 10] s) fun s1 => mx_g none ((((14 : Int32)) * x1) + 2) 421 fun j2 => some (some (mx_I (s1 0 45 j2)), s1) := (mx_sem_eq 122 _ s).trans rfl
set_option maxRecDepth 100000 in
set_option maxHeartbeats 4000000 in
theorem e_M_markOf (x1 : Int32) (s : mx_S) : mx_sem 123 [mx_R 0 39, mx_I x1] s = mx_bI none (mx_sem 117 [mx_R 0 39, mx_I x1] s) fun r2 s1 => mx_g none ((((14 : Int32)) * x1) + 0) 421 fun j3 => if r2 = 4 then (mx_bV none (mx_sem 121 [mx_R 0 39, mx_I 22] s1) fun s4 => mx_H 123 20 [some (mx_R 0 39), some (mx_I x1), some (mx_I r2), some (mx_I (s1 0 45 j3)), none] s4) else (mx_H 123 20 [some (mx_R 0 39), some (mx_I x1), some (mx_I r2), some (mx_I (s1 0 45 j3)), none] s1) := (mx_sem_eq 123 _ s).trans rfl
set_option maxRecDepth 100000 in
set_option maxHeartbeats 4000000 in
theorem e_M_markOf_20 (x1 x2 x3 : Int32) (s : mx_S) : mx_H 123 20 [some (mx_R 0 39), some (mx_I x1), some (mx_I x2), some (mx_I x3), none] s = mx_bI none (mx_sem 118 [mx_I x2, mx_I 3] s) fun r2 s1 => if r2 = 0 then (mx_H 123 28 [some (mx_R 0 39), some (mx_I x1), some (mx_I x2), some (mx_I x3), none] s1) else (mx_bV none (mx_sem 121 [mx_R 0 39, mx_I 21] s1) fun s3 => mx_H 123 28 [some (mx_R 0 39), some (mx_I x1), some (mx_I x2), some (mx_I x3), none] s3) := (mx_H_eq 123 20 _ s).trans rfl
set_option maxRecDepth 100000 in
set_option maxHeartbeats 4000000 in
theorem e_M_markOf_28 (x1 x2 x3 : Int32) (s : mx_S) : mx_H 123 28 [some (mx_R 0 39), some (mx_I x1), some (mx_I x2), some (mx_I x3), none] s = if x2 = 5 then (if x2 = 5 then (mx_bV none (mx_sem 121 [mx_R 0 39, mx_I 23] s) fun s2 => mx_H 123 43 [some (mx_R 0 39), some (mx_I x1), some (mx_I x2), some (mx_I x3), none] s2) else (mx_bV none (mx_sem 121 [mx_R 0 39, mx_I 24] s) fun s1 => mx_H 123 43 [some (mx_R 0 39), some (mx_I x1), some (mx_I x2), some (mx_I x3), none] s1)) else (if x2 = 2 then (if x2 = 5 then (mx_bV none (mx_sem 121 [mx_R 0 39, mx_I 23] s) fun s4 => mx_H 123 43 [some (mx_R 0 39), some (mx_I x1), some (mx_I x2), some (mx_I x3), none] s4) else (mx_bV none (mx_sem 121 [mx_R 0 39, mx_I 24] s) fun s3 => mx_H 123 43 [some (mx_R 0 39), some (mx_I x1), some (mx_I x2), some (mx_I x3), none] s3)) else (mx_H 123 43 [some (mx_R 0 39), some (mx_I x1), some (mx_I x2), some (mx_I x3), none] s)) := (mx_H_eq 123 28 _ s).trans rfl
set_option maxRecDepth 100000 in
set_option maxHeartbeats 4000000 in
theorem e_M_markOf_43 (x1 x2 x3 : Int32) (s : mx_S) : mx_H 123 43 [some (mx_R 0 39), some (mx_I x1), some (mx_I x2), some (mx_I x3), none] s = mx_bV none (mx_sem 121 [mx_R 0 39, mx_I 20] s) fun s1 => if x2 = 5 then (mx_bI none (mx_sem 122 [mx_R 0 39, mx_I x1] s1) fun r5 s4 => some (some (mx_I (x1 + r5)), s4)) else (if 0 ≤ x3 then (if x2 = 1 then (some (some (mx_I x1), s1)) else (if x2 = 2 then (some (some (mx_I (x1 + 1000)), s1)) else (if x2 = 3 then (some (some (mx_I (x1 + (((100 : Int32)) * x3))), s1)) else (mx_g none ((((14 : Int32)) * x1) + 1) 421 fun j2 => some (some (mx_I ((x1 + (((100 : Int32)) * x3)) + (s1 0 45 j2))), s1))))) else (if x2 = 1 then (some (some (mx_I x1), s1)) else (if x2 = 2 then (some (some (mx_I (x1 + 1000)), s1)) else (if x2 = 3 then (some (some (mx_I (x1 + (((100 : Int32)) * 0))), s1)) else (mx_g none ((((14 : Int32)) * x1) + 1) 421 fun j3 => some (some (mx_I ((x1 + (((100 : Int32)) * 0)) + (s1 0 45 j3))), s1)))))) := (mx_H_eq 123 43 _ s).trans rfl
set_option maxRecDepth 100000 in
set_option maxHeartbeats 4000000 in
theorem e_M_sizeOf (x1 : Int32) (s : mx_S) : mx_sem 124 [mx_R 0 39, mx_I x1] s = mx_bI none (mx_sem 117 [mx_R 0 39, mx_I x1] s) fun r2 s1 => if r2 = 5 then (mx_bI none (mx_sem 122 [mx_R 0 39, mx_I x1] s1) fun r47 s46 => some (some (mx_I r47), s46)) else (if r2 = 4 then (mx_bV none (mx_sem 121 [mx_R 0 39, mx_I 14] s1) fun s24 => if r2 = 1 then (mx_bV none (mx_sem 121 [mx_R 0 39, mx_I 11] s24) fun s39 => mx_bI none (mx_sem 122 [mx_R 0 39, mx_I x1] s39) fun r41 s40 => mx_bI none (mx_sem 118 [mx_I r2, mx_I 3] s40) fun r43 s42 => if r43 = 0 then (mx_bI none (mx_sem 123 [mx_R 0 39, mx_I x1] s42) fun r45 s44 => if r2 = 1 then (some (some (mx_I (r41 + r45)), s44)) else (some (some (mx_I (r41 - r45)), s44))) else (if r2 = 4 then (some (some (mx_I ((-r41) - 100)), s42)) else (some (some (mx_I (-r41)), s42)))) else (if r2 = 2 then (mx_bV none (mx_sem 121 [mx_R 0 39, mx_I 12] s24) fun s32 => mx_bI none (mx_sem 122 [mx_R 0 39, mx_I x1] s32) fun r34 s33 => mx_bI none (mx_sem 118 [mx_I r2, mx_I 3] s33) fun r36 s35 => if r36 = 0 then (mx_bI none (mx_sem 123 [mx_R 0 39, mx_I x1] s35) fun r38 s37 => if r2 = 1 then (some (some (mx_I (r34 + r38)), s37)) else (some (some (mx_I (r34 - r38)), s37))) else (if r2 = 4 then (some (some (mx_I ((-r34) - 100)), s35)) else (some (some (mx_I (-r34)), s35)))) else (mx_bV none (mx_sem 121 [mx_R 0 39, mx_I 13] s24) fun s25 => mx_bI none (mx_sem 122 [mx_R 0 39, mx_I x1] s25) fun r27 s26 => mx_bI none (mx_sem 118 [mx_I r2, mx_I 3] s26) fun r29 s28 => if r29 = 0 then (mx_bI none (mx_sem 123 [mx_R 0 39, mx_I x1] s28) fun r31 s30 => if r2 = 1 then (some (some (mx_I (r27 + r31)), s30)) else (some (some (mx_I (r27 - r31)), s30))) else (if r2 = 4 then (some (some (mx_I ((-r27) - 100)), s28)) else (some (some (mx_I (-r27)), s28)))))) else (if r2 = 1 then (mx_bV none (mx_sem 121 [mx_R 0 39, mx_I 11] s1) fun s17 => mx_bI none (mx_sem 122 [mx_R 0 39, mx_I x1] s17) fun r19 s18 => mx_bI none (mx_sem 118 [mx_I r2, mx_I 3] s18) fun r21 s20 => if r21 = 0 then (mx_bI none (mx_sem 123 [mx_R 0 39, mx_I x1] s20) fun r23 s22 => if r2 = 1 then (some (some (mx_I (r19 + r23)), s22)) else (some (some (mx_I (r19 - r23)), s22))) else (if r2 = 4 then (some (some (mx_I ((-r19) - 100)), s20)) else (some (some (mx_I (-r19)), s20)))) else (if r2 = 2 then (mx_bV none (mx_sem 121 [mx_R 0 39, mx_I 12] s1) fun s10 => mx_bI none (mx_sem 122 [mx_R 0 39, mx_I x1] s10) fun r12 s11 => mx_bI none (mx_sem 118 [mx_I r2, mx_I 3] s11) fun r14 s13 => if r14 = 0 then (mx_bI none (mx_sem 123 [mx_R 0 39, mx_I x1] s13) fun r16 s15 => if r2 = 1 then (some (some (mx_I (r12 + r16)), s15)) else (some (some (mx_I (r12 - r16)), s15))) else (if r2 = 4 then (some (some (mx_I ((-r12) - 100)), s13)) else (some (some (mx_I (-r12)), s13)))) else (mx_bV none (mx_sem 121 [mx_R 0 39, mx_I 13] s1) fun s3 => mx_bI none (mx_sem 122 [mx_R 0 39, mx_I x1] s3) fun r5 s4 => mx_bI none (mx_sem 118 [mx_I r2, mx_I 3] s4) fun r7 s6 => if r7 = 0 then (mx_bI none (mx_sem 123 [mx_R 0 39, mx_I x1] s6) fun r9 s8 => if r2 = 1 then (some (some (mx_I (r5 + r9)), s8)) else (some (some (mx_I (r5 - r9)), s8))) else (if r2 = 4 then (some (some (mx_I ((-r5) - 100)), s6)) else (some (some (mx_I (-r5)), s6))))))) := (mx_sem_eq 124 _ s).trans rfl
set_option maxRecDepth 100000 in
set_option maxHeartbeats 4000000 in
theorem e_M_ask (x1 x2 : Int32) (s : mx_S) : mx_sem 125 [mx_R 0 39, mx_I x1, mx_I x2] s = mx_w (mx_up s 0 39 0 0) fun s1 => mx_bI none (mx_sem 116 [mx_R 0 39, mx_I x1] s1) fun r3 s2 => if r3 = 0 then (some (some (mx_I (-1000001)), s2)) else (mx_bI none (mx_sem 115 [mx_J (x2.toInt64), mx_J 0, mx_J 1] s2) fun r5 s4 => if r5 = 0 then (some (some (mx_I (-1000001)), s4)) else (mx_w (mx_up s4 0 39 32 0) fun s6 => if x2 = 0 then (mx_bI none (mx_sem 124 [mx_R 0 39, mx_I x1] s6) fun r10 s9 => some (some (mx_I r10), s9)) else (mx_bI none (mx_sem 123 [mx_R 0 39, mx_I x1] s6) fun r8 s7 => some (some (mx_I r8), s7)))) := (mx_sem_eq 125 _ s).trans rfl
set_option maxRecDepth 100000 in
set_option maxHeartbeats 4000000 in
theorem e_M_bad (x1 : Int32) (s : mx_S) : mx_sem 126 [mx_R 0 39, mx_I x1] s = if (s 0 39 18) = 0 then (mx_w (mx_up s 0 39 18 x1) fun s1 => mx_w (mx_up s1 0 39 19 (s1 0 39 16)) fun s2 => some (none, s2)) else (some (none, s)) := (mx_sem_eq 126 _ s).trans rfl
set_option maxRecDepth 100000 in
set_option maxHeartbeats 4000000 in
theorem e_M_byteAt (x1 : Int32) (s : mx_S) : mx_sem 127 [mx_R 0 39, mx_I x1] s = if (s 0 39 13) ≤ x1 then (some (some (mx_I (-1000000)), s)) else (mx_g none x1 400 fun j1 => some (some (mx_I (s 0 46 j1)), s)) := (mx_sem_eq 127 _ s).trans rfl
set_option maxRecDepth 100000 in
set_option maxHeartbeats 4000000 in
theorem e_M_isLetter (x0 : Int32) (s : mx_S) : mx_sem 128 [mx_I x0] s = if x0 < 97 then (some (some (mx_I 0), s)) else (if 122 < x0 then (some (some (mx_I 0), s)) else (some (some (mx_I 1), s))) := (mx_sem_eq 128 _ s).trans rfl
set_option maxRecDepth 100000 in
set_option maxHeartbeats 4000000 in
theorem e_M_isFigure (x0 : Int32) (s : mx_S) : mx_sem 129 [mx_I x0] s = if x0 < 48 then (some (some (mx_I 0), s)) else (if 57 < x0 then (some (some (mx_I 0), s)) else (some (some (mx_I 1), s))) := (mx_sem_eq 129 _ s).trans rfl
set_option maxRecDepth 100000 in
set_option maxHeartbeats 4000000 in
theorem e_M_next (s : mx_S) : mx_sem 130 [mx_R 0 39] s = mx_bI none (mx_sem 127 [mx_R 0 39, mx_I (s 0 39 14)] s) fun r2 s1 => if r2 = 32 then (mx_w (mx_up s1 0 39 14 ((s1 0 39 14) + 1)) fun s3 => mx_H 130 0 [some (mx_R 0 39), none] s3) else (mx_bI none (mx_sem 127 [mx_R 0 39, mx_I (s1 0 39 14)] s1) fun r5 s4 => if r5 = 10 then (mx_w (mx_up s4 0 39 14 ((s4 0 39 14) + 1)) fun s20 => mx_H 130 0 [some (mx_R 0 39), none] s20) else (mx_w (mx_up s4 0 39 16 (s4 0 39 14)) fun s6 => mx_bI none (mx_sem 127 [mx_R 0 39, mx_I (s6 0 39 14)] s6) fun r8 s7 => if r8 = (-1000000) then (mx_w (mx_up s7 0 39 15 1) fun s18 => mx_w (mx_up s18 0 39 17 (s18 0 39 14)) fun s19 => some (none, s19)) else (mx_bI none (mx_sem 128 [mx_I r8] s7) fun r10 s9 => if r10 = 0 then (mx_bI none (mx_sem 129 [mx_I r8] s9) fun r12 s11 => if r12 = 0 then (mx_w (mx_up s11 0 39 14 ((s11 0 39 14) + 1)) fun s13 => if r8 = 59 then (mx_w (mx_up s13 0 39 15 4) fun s16 => mx_w (mx_up s16 0 39 17 (s16 0 39 14)) fun s17 => some (none, s17)) else (mx_w (mx_up s13 0 39 15 0) fun s14 => mx_w (mx_up s14 0 39 17 (s14 0 39 14)) fun s15 => some (none, s15))) else (mx_H 130 60 [some (mx_R 0 39), none] s11)) else (mx_H 130 39 [some (mx_R 0 39), none] s9)))) := (mx_sem_eq 130 _ s).trans rfl
set_option maxRecDepth 100000 in
set_option maxHeartbeats 4000000 in
theorem e_M_next_0 (s : mx_S) : mx_H 130 0 [some (mx_R 0 39), none] s = mx_bI none (mx_sem 127 [mx_R 0 39, mx_I (s 0 39 14)] s) fun r2 s1 => if r2 = 32 then (mx_w (mx_up s1 0 39 14 ((s1 0 39 14) + 1)) fun s3 => mx_H 130 0 [some (mx_R 0 39), none] s3) else (mx_bI none (mx_sem 127 [mx_R 0 39, mx_I (s1 0 39 14)] s1) fun r5 s4 => if r5 = 10 then (mx_w (mx_up s4 0 39 14 ((s4 0 39 14) + 1)) fun s20 => mx_H 130 0 [some (mx_R 0 39), none] s20) else (mx_w (mx_up s4 0 39 16 (s4 0 39 14)) fun s6 => mx_bI none (mx_sem 127 [mx_R 0 39, mx_I (s6 0 39 14)] s6) fun r8 s7 => if r8 = (-1000000) then (mx_w (mx_up s7 0 39 15 1) fun s18 => mx_w (mx_up s18 0 39 17 (s18 0 39 14)) fun s19 => some (none, s19)) else (mx_bI none (mx_sem 128 [mx_I r8] s7) fun r10 s9 => if r10 = 0 then (mx_bI none (mx_sem 129 [mx_I r8] s9) fun r12 s11 => if r12 = 0 then (mx_w (mx_up s11 0 39 14 ((s11 0 39 14) + 1)) fun s13 => if r8 = 59 then (mx_w (mx_up s13 0 39 15 4) fun s16 => mx_w (mx_up s16 0 39 17 (s16 0 39 14)) fun s17 => some (none, s17)) else (mx_w (mx_up s13 0 39 15 0) fun s14 => mx_w (mx_up s14 0 39 17 (s14 0 39 14)) fun s15 => some (none, s15))) else (mx_H 130 60 [some (mx_R 0 39), none] s11)) else (mx_H 130 39 [some (mx_R 0 39), none] s9)))) := (mx_H_eq 130 0 _ s).trans rfl
set_option maxRecDepth 100000 in
set_option maxHeartbeats 4000000 in
theorem e_M_next_60 (s : mx_S) : mx_H 130 60 [some (mx_R 0 39), none] s = mx_bI none (mx_sem 127 [mx_R 0 39, mx_I (s 0 39 14)] s) fun r2 s1 => mx_bI none (mx_sem 129 [mx_I r2] s1) fun r4 s3 => if r4 = 0 then (if ((s3 0 39 14) - (s3 0 39 16)) ≤ 3 then (mx_w (mx_up s3 0 39 15 3) fun s5 => mx_w (mx_up s5 0 39 17 (s5 0 39 14)) fun s6 => some (none, s6)) else (mx_w (mx_up s3 0 39 15 0) fun s7 => mx_w (mx_up s7 0 39 17 (s7 0 39 14)) fun s8 => some (none, s8))) else (mx_w (mx_up s3 0 39 14 ((s3 0 39 14) + 1)) fun s9 => mx_H 130 60 [some (mx_R 0 39), none] s9) := (mx_H_eq 130 60 _ s).trans rfl
set_option maxRecDepth 100000 in
set_option maxHeartbeats 4000000 in
theorem e_M_next_39 (s : mx_S) : mx_H 130 39 [some (mx_R 0 39), none] s = mx_bI none (mx_sem 127 [mx_R 0 39, mx_I (s 0 39 14)] s) fun r2 s1 => mx_bI none (mx_sem 128 [mx_I r2] s1) fun r4 s3 => if r4 = 0 then (mx_w (mx_up s3 0 39 15 2) fun s5 => mx_w (mx_up s5 0 39 17 (s5 0 39 14)) fun s6 => some (none, s6)) else (mx_w (mx_up s3 0 39 14 ((s3 0 39 14) + 1)) fun s7 => mx_H 130 39 [some (mx_R 0 39), none] s7) := (mx_H_eq 130 39 _ s).trans rfl
set_option maxRecDepth 100000 in
set_option maxHeartbeats 4000000 in
theorem e_M_begin (s : mx_S) : mx_sem 131 [mx_R 0 39] s = mx_w (mx_up s 0 39 13 (s 0 39 11)) fun s1 => mx_w (mx_up s1 0 39 11 0) fun s2 => mx_w (mx_up s2 0 39 14 0) fun s3 => mx_w (mx_up s3 0 39 18 0) fun s4 => mx_bV none (mx_sem 130 [mx_R 0 39] s4) fun s5 => some (none, s5) := (mx_sem_eq 131 _ s).trans rfl
set_option maxRecDepth 100000 in
set_option maxHeartbeats 4000000 in
theorem e_M_must (x1 : Int32) (s : mx_S) : mx_sem 132 [mx_R 0 39, mx_I x1] s = if x1 = 0 then (mx_bV none (mx_sem 126 [mx_R 0 39, mx_I 1] s) fun s2 => if (s2 0 39 18) = 0 then (mx_bV none (mx_sem 130 [mx_R 0 39] s2) fun s3 => some (none, s3)) else (some (none, s2))) else (if (s 0 39 18) = 0 then (mx_bV none (mx_sem 130 [mx_R 0 39] s) fun s1 => some (none, s1)) else (some (none, s))) := (mx_sem_eq 132 _ s).trans rfl
set_option maxRecDepth 100000 in
set_option maxHeartbeats 4000000 in
theorem e_M_begins (x1 x2 : Int32) (s : mx_S) : mx_sem 133 [mx_R 0 39, mx_I x1, mx_I x2] s = mx_g none x1 80 fun j1 => if (s 0 44 j1) = x2 then (mx_bV none (mx_sem 126 [mx_R 0 39, mx_I 3] s) fun s3 => mx_bV none (mx_sem 132 [mx_R 0 39, mx_I 1] s3) fun s4 => some (none, s4)) else (mx_bV none (mx_sem 132 [mx_R 0 39, mx_I 1] s) fun s2 => some (none, s2)) := (mx_sem_eq 133 _ s).trans rfl
set_option maxRecDepth 100000 in
set_option maxHeartbeats 4000000 in
theorem e_M_opens (k1 : Nat) (s : mx_S) : mx_sem 134 [mx_R 0 39, mx_R k1 45] s = mx_H 134 3 [some (mx_R 0 39), some (mx_R k1 45), some (mx_I 0)] s := (mx_sem_eq 134 _ s).trans rfl
set_option maxRecDepth 100000 in
set_option maxHeartbeats 4000000 in
theorem e_M_opens_3 (k1 : Nat) (x2 : Int32) (s : mx_S) : mx_H 134 3 [some (mx_R 0 39), some (mx_R k1 45), some (mx_I x2)] s = if 421 ≤ x2 then (mx_H 134 15 [some (mx_R 0 39), some (mx_R k1 45), some (mx_I 0)] s) else (mx_g none x2 421 fun j1 => mx_w (mx_up s k1 45 j1 0) fun s2 => mx_H 134 3 [some (mx_R 0 39), some (mx_R k1 45), some (mx_I (x2 + 1))] s2) := (mx_H_eq 134 3 _ s).trans rfl
set_option maxRecDepth 100000 in
set_option maxHeartbeats 4000000 in
theorem e_M_opens_15 (k1 : Nat) (x2 : Int32) (s : mx_S) : mx_H 134 15 [some (mx_R 0 39), some (mx_R k1 45), some (mx_I x2)] s = mx_g none 6 80 fun j1 => if (s 0 43 j1) ≤ x2 then (some (none, s)) else (mx_g none ((((14 : Int32)) * x2) + 0) 421 fun j2 => mx_w (mx_up s k1 45 j2 (-1)) fun s3 => mx_bI none (mx_sem 111 [mx_R 0 39, mx_I x2, mx_I 3] s3) fun r5 s4 => mx_g none ((((14 : Int32)) * x2) + 1) 421 fun j6 => mx_w (mx_up s4 k1 45 j6 r5) fun s7 => if 0 ≤ (s7 0 39 23) then (mx_g none ((((14 : Int32)) * x2) + 3) 421 fun j8 => mx_w (mx_up s7 k1 45 j8 (((1 : Int32)) <<< ((s7 0 39 23) &&& 31))) fun s9 => mx_H 134 15 [some (mx_R 0 39), some (mx_R k1 45), some (mx_I (x2 + 1))] s9) else (mx_g none ((((14 : Int32)) * x2) + 3) 421 fun j10 => mx_w (mx_up s7 k1 45 j10 0) fun s11 => mx_H 134 15 [some (mx_R 0 39), some (mx_R k1 45), some (mx_I (x2 + 1))] s11)) := (mx_H_eq 134 15 _ s).trans rfl
set_option maxRecDepth 100000 in
set_option maxHeartbeats 4000000 in
theorem e_M_inRoom (k1 : Nat) (x2 : Int32) (s : mx_S) : mx_sem 135 [mx_R 0 39, mx_R k1 45, mx_I x2] s = mx_H 135 5 [some (mx_R 0 39), some (mx_R k1 45), some (mx_I x2), some (mx_I 0), some (mx_I 0)] s := (mx_sem_eq 135 _ s).trans rfl
set_option maxRecDepth 100000 in
set_option maxHeartbeats 4000000 in
theorem e_M_inRoom_5 (k1 : Nat) (x2 x3 x4 : Int32) (s : mx_S) : mx_H 135 5 [some (mx_R 0 39), some (mx_R k1 45), some (mx_I x2), some (mx_I x3), some (mx_I x4)] s = mx_g none 6 80 fun j1 => if (s 0 43 j1) ≤ x4 then (some (some (mx_I x3), s)) else (mx_g none ((((14 : Int32)) * x4) + 0) 421 fun j2 => if (s k1 45 j2) = x2 then (mx_H 135 5 [some (mx_R 0 39), some (mx_R k1 45), some (mx_I x2), some (mx_I (x3 + 1)), some (mx_I (x4 + 1))] s) else (mx_H 135 5 [some (mx_R 0 39), some (mx_R k1 45), some (mx_I x2), some (mx_I (x3 + 0)), some (mx_I (x4 + 1))] s)) := (mx_H_eq 135 5 _ s).trans rfl
set_option maxRecDepth 100000 in
set_option maxHeartbeats 4000000 in
theorem e_M_holdsOne (k1 : Nat) (x2 : Int32) (s : mx_S) : mx_sem 136 [mx_R 0 39, mx_R k1 45, mx_I x2] s = mx_bI none (mx_sem 135 [mx_R 0 39, mx_R k1 45, mx_I x2] s) fun r2 s1 => mx_g none (((7 : Int32)) + x2) 80 fun j3 => if (s1 0 43 j3) ≤ r2 then (some (some (mx_I 0), s1)) else (some (some (mx_I 1), s1)) := (mx_sem_eq 136 _ s).trans rfl
set_option maxRecDepth 100000 in
set_option maxHeartbeats 4000000 in
theorem e_M_waits (k1 : Nat) (x2 x3 : Int32) (s : mx_S) : mx_sem 137 [mx_R 0 39, mx_R k1 45, mx_I x2, mx_I x3] s = mx_g none ((((14 : Int32)) * x2) + 5) 421 fun j1 => mx_w (mx_up s k1 45 j1 3) fun s2 => mx_g none ((((14 : Int32)) * x2) + 1) 421 fun j3 => if (s2 k1 45 j3) ≤ 0 then (if 0 ≤ x3 then (mx_g none ((((14 : Int32)) * x2) + 3) 421 fun j4 => mx_g none ((((14 : Int32)) * x2) + 3) 421 fun j5 => mx_w (mx_up s2 k1 45 j5 ((s2 k1 45 j4) ||| (((1 : Int32)) <<< (x3 &&& 31)))) fun s6 => mx_g none ((((14 : Int32)) * x2) + 4) 421 fun j7 => mx_g none ((((14 : Int32)) * x2) + 4) 421 fun j8 => mx_w (mx_up s6 k1 45 j8 ((s6 k1 45 j7) ||| (((1 : Int32)) <<< (x3 &&& 31)))) fun s9 => some (none, s9)) else (mx_g none ((((14 : Int32)) * x2) + 0) 421 fun j10 => mx_w (mx_up s2 k1 45 j10 (-2)) fun s11 => some (none, s11))) else (mx_g none ((((14 : Int32)) * x2) + 1) 421 fun j12 => mx_g none ((((14 : Int32)) * x2) + 1) 421 fun j13 => mx_w (mx_up s2 k1 45 j13 ((s2 k1 45 j12) - 1)) fun s14 => some (none, s14)) := (mx_sem_eq 137 _ s).trans rfl
set_option maxRecDepth 100000 in
set_option maxHeartbeats 4000000 in
theorem e_M_enters (k1 : Nat) (x2 x3 x4 : Int32) (s : mx_S) : mx_sem 138 [mx_R 0 39, mx_R k1 45, mx_I x2, mx_I x3, mx_I x4] s = mx_bI none (mx_sem 136 [mx_R 0 39, mx_R k1 45, mx_I x3] s) fun r2 s1 => if r2 = 0 then (mx_bV none (mx_sem 137 [mx_R 0 39, mx_R k1 45, mx_I x2, mx_I x4] s1) fun s3 => some (none, s3)) else (mx_g none ((((14 : Int32)) * x2) + 0) 421 fun j4 => mx_w (mx_up s1 k1 45 j4 x3) fun s5 => some (none, s5)) := (mx_sem_eq 138 _ s).trans rfl
set_option maxRecDepth 100000 in
set_option maxHeartbeats 4000000 in
theorem e_M_looks (k1 : Nat) (x2 x3 : Int32) (s : mx_S) : mx_sem 139 [mx_R 0 39, mx_R k1 45, mx_I x2, mx_I x3] s = mx_g none ((((40 : Int32)) + (((2 : Int32)) * x3)) + 1) 80 fun j1 => mx_g none x3 8 fun j2 => mx_g none 0 80 fun j3 => if (s 0 43 j3) ≤ (s 0 48 j2) then (mx_H 139 29 [some (mx_R 0 39), some (mx_R k1 45), none, some (mx_I x3), some (mx_I (((14 : Int32)) * x2)), some (mx_I (s 0 43 j1)), some (mx_I 0), none, none] s) else (mx_H 139 29 [some (mx_R 0 39), some (mx_R k1 45), none, some (mx_I x3), some (mx_I (((14 : Int32)) * x2)), some (mx_I (s 0 43 j1)), some (mx_I 1), none, none] s) := (mx_sem_eq 139 _ s).trans rfl
set_option maxRecDepth 100000 in
set_option maxHeartbeats 4000000 in
theorem e_M_looks_29 (k1 : Nat) (x3 x4 x5 x6 : Int32) (s : mx_S) : mx_H 139 29 [some (mx_R 0 39), some (mx_R k1 45), none, some (mx_I x3), some (mx_I x4), some (mx_I x5), some (mx_I x6), none, none] s = mx_g none x3 8 fun j1 => mx_g none x3 8 fun j2 => mx_w (mx_up s 0 48 j2 ((s 0 48 j1) + 1)) fun s3 => if x6 = 0 then (mx_g none (x4 + 5) 421 fun j4 => mx_w (mx_up s3 k1 45 j4 2) fun s5 => mx_g none (x4 + 2) 421 fun j6 => if x6 = 0 then (mx_g none (x4 + 2) 421 fun j7 => mx_w (mx_up s5 k1 45 j7 ((s5 k1 45 j6) + (((4 : Int32)) * x5))) fun s8 => mx_g none ((x4 + 6) + x3) 421 fun j9 => mx_g none ((x4 + 6) + x3) 421 fun j10 => mx_w (mx_up s8 k1 45 j10 ((s8 k1 45 j9) + 1)) fun s11 => mx_g none ((x4 + 6) + x3) 421 fun j12 => mx_H 139 82 [some (mx_R 0 39), some (mx_R k1 45), none, some (mx_I x3), some (mx_I x4), some (mx_I x5), none, some (mx_I (s11 k1 45 j12)), none] s11) else (mx_g none (x4 + 2) 421 fun j13 => mx_w (mx_up s5 k1 45 j13 ((s5 k1 45 j6) + (((10 : Int32)) * x5))) fun s14 => mx_g none ((x4 + 6) + x3) 421 fun j15 => mx_g none ((x4 + 6) + x3) 421 fun j16 => mx_w (mx_up s14 k1 45 j16 ((s14 k1 45 j15) + 1)) fun s17 => mx_g none ((x4 + 6) + x3) 421 fun j18 => mx_H 139 82 [some (mx_R 0 39), some (mx_R k1 45), none, some (mx_I x3), some (mx_I x4), some (mx_I x5), none, some (mx_I (s17 k1 45 j18)), none] s17)) else (mx_g none (x4 + 5) 421 fun j19 => mx_w (mx_up s3 k1 45 j19 1) fun s20 => mx_g none (x4 + 2) 421 fun j21 => if x6 = 0 then (mx_g none (x4 + 2) 421 fun j22 => mx_w (mx_up s20 k1 45 j22 ((s20 k1 45 j21) + (((4 : Int32)) * x5))) fun s23 => mx_g none ((x4 + 6) + x3) 421 fun j24 => mx_g none ((x4 + 6) + x3) 421 fun j25 => mx_w (mx_up s23 k1 45 j25 ((s23 k1 45 j24) + 1)) fun s26 => mx_g none ((x4 + 6) + x3) 421 fun j27 => mx_H 139 82 [some (mx_R 0 39), some (mx_R k1 45), none, some (mx_I x3), some (mx_I x4), some (mx_I x5), none, some (mx_I (s26 k1 45 j27)), none] s26) else (mx_g none (x4 + 2) 421 fun j28 => mx_w (mx_up s20 k1 45 j28 ((s20 k1 45 j21) + (((10 : Int32)) * x5))) fun s29 => mx_g none ((x4 + 6) + x3) 421 fun j30 => mx_g none ((x4 + 6) + x3) 421 fun j31 => mx_w (mx_up s29 k1 45 j31 ((s29 k1 45 j30) + 1)) fun s32 => mx_g none ((x4 + 6) + x3) 421 fun j33 => mx_H 139 82 [some (mx_R 0 39), some (mx_R k1 45), none, some (mx_I x3), some (mx_I x4), some (mx_I x5), none, some (mx_I (s32 k1 45 j33)), none] s32)) := (mx_H_eq 139 29 _ s).trans rfl
set_option maxRecDepth 100000 in
set_option maxHeartbeats 4000000 in
theorem e_M_looks_82 (k1 : Nat) (x3 x4 x5 x7 : Int32) (s : mx_S) : mx_H 139 82 [some (mx_R 0 39), some (mx_R k1 45), none, some (mx_I x3), some (mx_I x4), some (mx_I x5), none, some (mx_I x7), none] s = mx_d none ((10 : Int32)) (if x3 = (s 0 39 22) then (if x7 < ((((2 : Int32)) + (x5 / 10)) - 1) then (mx_g none 1 80 fun j9 => if (s 0 43 j9) ≤ 0 then (some (none, s)) else (mx_g none 1 80 fun j10 => if x7 < (s 0 43 j10) then (some (none, s)) else (mx_g none (x4 + 3) 421 fun j11 => mx_g none (x4 + 3) 421 fun j12 => mx_w (mx_up s k1 45 j12 ((s k1 45 j11) ||| (((1 : Int32)) <<< (x3 &&& 31)))) fun s13 => some (none, s13)))) else (mx_g none (x4 + 3) 421 fun j14 => mx_g none (x4 + 3) 421 fun j15 => mx_w (mx_up s k1 45 j15 ((s k1 45 j14) ||| (((1 : Int32)) <<< (x3 &&& 31)))) fun s16 => some (none, s16))) else (if x7 < ((((2 : Int32)) + (x5 / 10)) - 0) then (mx_g none 1 80 fun j1 => if (s 0 43 j1) ≤ 0 then (some (none, s)) else (mx_g none 1 80 fun j2 => if x7 < (s 0 43 j2) then (some (none, s)) else (mx_g none (x4 + 3) 421 fun j3 => mx_g none (x4 + 3) 421 fun j4 => mx_w (mx_up s k1 45 j4 ((s k1 45 j3) ||| (((1 : Int32)) <<< (x3 &&& 31)))) fun s5 => some (none, s5)))) else (mx_g none (x4 + 3) 421 fun j6 => mx_g none (x4 + 3) 421 fun j7 => mx_w (mx_up s k1 45 j7 ((s k1 45 j6) ||| (((1 : Int32)) <<< (x3 &&& 31)))) fun s8 => some (none, s8)))) := (mx_H_eq 139 82 _ s).trans rfl
set_option maxRecDepth 100000 in
set_option maxHeartbeats 4000000 in
theorem e_M_leads (x1 x2 x3 : Int32) (s : mx_S) : mx_sem 140 [mx_R 0 39, mx_I x1, mx_I x2, mx_I x3] s = mx_g none (((13 : Int32)) + (((3 : Int32)) * x1)) 80 fun j1 => if (s 0 43 j1) = x2 then (mx_g none ((((13 : Int32)) + (((3 : Int32)) * x1)) + 1) 80 fun j5 => if (s 0 43 j5) = x3 then (some (some (mx_I 1), s)) else (mx_g none ((((13 : Int32)) + (((3 : Int32)) * x1)) + 2) 80 fun j6 => if (s 0 43 j6) = 0 then (mx_g none (((13 : Int32)) + (((3 : Int32)) * x1)) 80 fun j7 => if (s 0 43 j7) = x3 then (mx_g none ((((13 : Int32)) + (((3 : Int32)) * x1)) + 1) 80 fun j8 => if (s 0 43 j8) = x2 then (some (some (mx_I 1), s)) else (some (some (mx_I 0), s))) else (some (some (mx_I 0), s))) else (some (some (mx_I 0), s)))) else (mx_g none ((((13 : Int32)) + (((3 : Int32)) * x1)) + 2) 80 fun j2 => if (s 0 43 j2) = 0 then (mx_g none (((13 : Int32)) + (((3 : Int32)) * x1)) 80 fun j3 => if (s 0 43 j3) = x3 then (mx_g none ((((13 : Int32)) + (((3 : Int32)) * x1)) + 1) 80 fun j4 => if (s 0 43 j4) = x2 then (some (some (mx_I 1), s)) else (some (some (mx_I 0), s))) else (some (some (mx_I 0), s))) else (some (some (mx_I 0), s))) := (mx_sem_eq 140 _ s).trans rfl
set_option maxRecDepth 100000 in
set_option maxHeartbeats 4000000 in
theorem e_M_nextRoom (x1 x2 : Int32) (s : mx_S) : mx_sem 141 [mx_R 0 39, mx_I x1, mx_I x2] s = mx_H 141 5 [some (mx_R 0 39), some (mx_I x1), some (mx_I x2), some (mx_I (-1000000)), some (mx_I 0), none, none] s := (mx_sem_eq 141 _ s).trans rfl
set_option maxRecDepth 100000 in
set_option maxHeartbeats 4000000 in
theorem e_M_nextRoom_5 (x1 x2 x3 x4 : Int32) (s : mx_S) : mx_H 141 5 [some (mx_R 0 39), some (mx_I x1), some (mx_I x2), some (mx_I x3), some (mx_I x4), none, none] s = mx_g none 2 80 fun j1 => if (s 0 43 j1) ≤ x4 then (some (some (mx_I x3), s)) else (mx_H 141 16 [some (mx_R 0 39), some (mx_I x1), some (mx_I x2), some (mx_I x3), some (mx_I x4), some (mx_I 0), some (mx_I 0)] s) := (mx_H_eq 141 5 _ s).trans rfl
set_option maxRecDepth 100000 in
set_option maxHeartbeats 4000000 in
theorem e_M_nextRoom_16 (x1 x2 x3 x4 x5 x6 : Int32) (s : mx_S) : mx_H 141 16 [some (mx_R 0 39), some (mx_I x1), some (mx_I x2), some (mx_I x3), some (mx_I x4), some (mx_I x5), some (mx_I x6)] s = mx_g none 3 80 fun j1 => if (s 0 43 j1) ≤ x6 then (if x5 = 0 then (mx_H 141 5 [some (mx_R 0 39), some (mx_I x1), some (mx_I x2), some (mx_I x3), some (mx_I (x4 + 1)), none, none] s) else (mx_g none ((((6 : Int32)) * x4) + x2) 36 fun j2 => if (s 0 47 j2) = (-1000000) then (mx_H 141 5 [some (mx_R 0 39), some (mx_I x1), some (mx_I x2), some (mx_I x3), some (mx_I (x4 + 1)), none, none] s) else (if x3 = (-1000000) then (mx_H 141 5 [some (mx_R 0 39), some (mx_I x1), some (mx_I x2), some (mx_I x4), some (mx_I (x4 + 1)), none, none] s) else (mx_g none ((((6 : Int32)) * x4) + x2) 36 fun j3 => mx_g none ((((6 : Int32)) * x3) + x2) 36 fun j4 => if (s 0 47 j4) ≤ (s 0 47 j3) then (mx_H 141 5 [some (mx_R 0 39), some (mx_I x1), some (mx_I x2), some (mx_I x3), some (mx_I (x4 + 1)), none, none] s) else (mx_H 141 5 [some (mx_R 0 39), some (mx_I x1), some (mx_I x2), some (mx_I x4), some (mx_I (x4 + 1)), none, none] s))))) else (if x5 = 0 then (mx_bI none (mx_sem 140 [mx_R 0 39, mx_I x6, mx_I x1, mx_I x4] s) fun r6 s5 => if r6 = 0 then (mx_H 141 16 [some (mx_R 0 39), some (mx_I x1), some (mx_I x2), some (mx_I x3), some (mx_I x4), some (mx_I 0), some (mx_I (x6 + 1))] s5) else (mx_H 141 16 [some (mx_R 0 39), some (mx_I x1), some (mx_I x2), some (mx_I x3), some (mx_I x4), some (mx_I 1), some (mx_I (x6 + 1))] s5)) else (mx_H 141 16 [some (mx_R 0 39), some (mx_I x1), some (mx_I x2), some (mx_I x3), some (mx_I x4), some (mx_I 1), some (mx_I (x6 + 1))] s)) := (mx_H_eq 141 16 _ s).trans rfl
set_option maxRecDepth 100000 in
set_option maxHeartbeats 4000000 in
theorem e_M_goes (k1 : Nat) (x2 : Int32) (s : mx_S) : mx_sem 142 [mx_R 0 39, mx_R k1 45, mx_I x2] s = mx_g none ((((14 : Int32)) * x2) + 5) 421 fun j1 => mx_w (mx_up s k1 45 j1 0) fun s2 => mx_g none ((((14 : Int32)) * x2) + 0) 421 fun j3 => if (s2 k1 45 j3) = (-1) then (mx_bI none (mx_sem 111 [mx_R 0 39, mx_I x2, mx_I 1] s2) fun r19 s18 => mx_g none 420 421 fun j20 => if (s18 k1 45 j20) < r19 then (some (none, s18)) else (mx_bV none (mx_sem 138 [mx_R 0 39, mx_R k1 45, mx_I x2, mx_I 0, mx_I (-1)] s18) fun s21 => some (none, s21))) else (mx_g none ((((14 : Int32)) * x2) + 0) 421 fun j4 => if (s2 k1 45 j4) = (-2) then (mx_g none ((((14 : Int32)) * x2) + 0) 421 fun j16 => mx_w (mx_up s2 k1 45 j16 (-2)) fun s17 => some (none, s17)) else (mx_bI none (mx_sem 114 [mx_R 0 39, mx_R k1 45, mx_I x2] s2) fun r6 s5 => if r6 = (-1000000) then (mx_g none ((((14 : Int32)) * x2) + 0) 421 fun j14 => mx_w (mx_up s5 k1 45 j14 (-2)) fun s15 => some (none, s15)) else (mx_g none (((40 : Int32)) + (((2 : Int32)) * r6)) 80 fun j7 => mx_g none ((((14 : Int32)) * x2) + 0) 421 fun j8 => if (s5 0 43 j7) = (s5 k1 45 j8) then (mx_bV none (mx_sem 139 [mx_R 0 39, mx_R k1 45, mx_I x2, mx_I r6] s5) fun s13 => some (none, s13)) else (mx_g none ((((14 : Int32)) * x2) + 0) 421 fun j9 => mx_bI none (mx_sem 141 [mx_R 0 39, mx_I (s5 k1 45 j9), mx_I (s5 0 43 j7)] s5) fun r11 s10 => mx_bV none (mx_sem 138 [mx_R 0 39, mx_R k1 45, mx_I x2, mx_I r11, mx_I r6] s10) fun s12 => some (none, s12))))) := (mx_sem_eq 142 _ s).trans rfl
end
section
set_option maxRecDepth 100000 in
set_option maxHeartbeats 4000000 in
theorem e_M_minute (k1 : Nat) (s : mx_S) : mx_sem 143 [mx_R 0 39, mx_R k1 45] s = mx_H 143 3 [some (mx_R 0 39), some (mx_R k1 45), some (mx_I 0)] s := (mx_sem_eq 143 _ s).trans rfl
set_option maxRecDepth 100000 in
set_option maxHeartbeats 4000000 in
theorem e_M_minute_3 (k1 : Nat) (x2 : Int32) (s : mx_S) : mx_H 143 3 [some (mx_R 0 39), some (mx_R k1 45), some (mx_I x2)] s = if 8 ≤ x2 then (mx_H 143 16 [some (mx_R 0 39), some (mx_R k1 45), some (mx_I 0)] s) else (mx_g none x2 8 fun j1 => mx_w (mx_up s 0 48 j1 0) fun s2 => mx_H 143 3 [some (mx_R 0 39), some (mx_R k1 45), some (mx_I (x2 + 1))] s2) := (mx_H_eq 143 3 _ s).trans rfl
set_option maxRecDepth 100000 in
set_option maxHeartbeats 4000000 in
theorem e_M_minute_16 (k1 : Nat) (x2 : Int32) (s : mx_S) : mx_H 143 16 [some (mx_R 0 39), some (mx_R k1 45), some (mx_I x2)] s = mx_g none 6 80 fun j1 => if (s 0 43 j1) ≤ x2 then (mx_g none 420 421 fun j2 => mx_g none 420 421 fun j3 => mx_w (mx_up s k1 45 j3 ((s k1 45 j2) + 1)) fun s4 => some (none, s4)) else (mx_bV none (mx_sem 142 [mx_R 0 39, mx_R k1 45, mx_I x2] s) fun s5 => mx_H 143 16 [some (mx_R 0 39), some (mx_R k1 45), some (mx_I (x2 + 1))] s5) := (mx_H_eq 143 16 _ s).trans rfl
set_option maxRecDepth 100000 in
set_option maxHeartbeats 4000000 in
theorem e_M_ones (x0 : Int32) (s : mx_S) : mx_sem 144 [mx_I x0] s = mx_H 144 5 [some (mx_I x0), some (mx_I 0), some (mx_I 0)] s := (mx_sem_eq 144 _ s).trans rfl
set_option maxRecDepth 100000 in
set_option maxHeartbeats 4000000 in
theorem e_M_ones_5 (x0 x1 x2 : Int32) (s : mx_S) : mx_H 144 5 [some (mx_I x0), some (mx_I x1), some (mx_I x2)] s = if 8 ≤ x2 then (some (some (mx_I x1), s)) else (mx_H 144 5 [some (mx_I x0), some (mx_I (x1 + ((x0 >>> (x2 &&& 31)) &&& 1))), some (mx_I (x2 + 1))] s) := (mx_H_eq 144 5 _ s).trans rfl
set_option maxRecDepth 100000 in
set_option maxHeartbeats 4000000 in
theorem e_M_dayOf (x1 x2 : Int32) (s : mx_S) : mx_sem 145 [mx_R 0 39, mx_I x1, mx_I x2] s = mx_bV none (mx_sem 134 [mx_R 0 39, mx_R 1 45] s) fun s1 => mx_H 145 7 [some (mx_R 0 39), some (mx_I x1), some (mx_I x2), some (mx_I 0), none, none, none, none] s1 := (mx_sem_eq 145 _ s).trans rfl
set_option maxRecDepth 100000 in
set_option maxHeartbeats 4000000 in
theorem e_M_dayOf_7 (x1 x2 x3 : Int32) (s : mx_S) : mx_H 145 7 [some (mx_R 0 39), some (mx_I x1), some (mx_I x2), some (mx_I x3), none, none, none, none] s = if x1 ≤ x3 then (mx_H 145 25 [some (mx_R 0 39), none, some (mx_I x2), some (mx_I 0), some (mx_I 0), some (mx_I 0), some (mx_I 0), none] s) else (mx_bV none (mx_sem 143 [mx_R 0 39, mx_R 1 45] s) fun s1 => mx_H 145 7 [some (mx_R 0 39), some (mx_I x1), some (mx_I x2), some (mx_I (x3 + 1)), none, none, none, none] s1) := (mx_H_eq 145 7 _ s).trans rfl
set_option maxRecDepth 100000 in
set_option maxHeartbeats 4000000 in
theorem e_M_dayOf_25 (x2 x3 x4 x5 x6 : Int32) (s : mx_S) : mx_H 145 25 [some (mx_R 0 39), none, some (mx_I x2), some (mx_I x3), some (mx_I x4), some (mx_I x5), some (mx_I x6), none] s = mx_g none 6 80 fun j1 => if (s 0 43 j1) ≤ x6 then (if x2 = 0 then (some (some (mx_I x3), s)) else (if x2 = 1 then (some (some (mx_I x4), s)) else (some (some (mx_I x5), s)))) else (mx_g none ((((14 : Int32)) * x6) + 2) 421 fun j2 => if x6 = 0 then (mx_g none ((((14 : Int32)) * x6) + 4) 421 fun j3 => mx_bI none (mx_sem 144 [mx_I (s 1 45 j3)] s) fun r5 s4 => mx_H 145 25 [some (mx_R 0 39), none, some (mx_I x2), some (mx_I (x3 + (s 1 45 j2))), some (mx_I (s 1 45 j2)), some (mx_I (x5 + r5)), some (mx_I (x6 + 1)), none] s4) else (if x4 ≤ (s 1 45 j2) then (mx_g none ((((14 : Int32)) * x6) + 4) 421 fun j6 => mx_bI none (mx_sem 144 [mx_I (s 1 45 j6)] s) fun r8 s7 => mx_H 145 25 [some (mx_R 0 39), none, some (mx_I x2), some (mx_I (x3 + (s 1 45 j2))), some (mx_I x4), some (mx_I (x5 + r8)), some (mx_I (x6 + 1)), none] s7) else (mx_g none ((((14 : Int32)) * x6) + 4) 421 fun j9 => mx_bI none (mx_sem 144 [mx_I (s 1 45 j9)] s) fun r11 s10 => mx_H 145 25 [some (mx_R 0 39), none, some (mx_I x2), some (mx_I (x3 + (s 1 45 j2))), some (mx_I (s 1 45 j2)), some (mx_I (x5 + r11)), some (mx_I (x6 + 1)), none] s10))) := (mx_H_eq 145 25 _ s).trans rfl
set_option maxRecDepth 100000 in
set_option maxHeartbeats 4000000 in
theorem e_M_bestAt (x1 x2 x3 x4 x5 : Int32) (s : mx_S) : mx_sem 146 [mx_R 0 39, mx_I x1, mx_I x2, mx_I x3, mx_I x4, mx_I x5] s = mx_g none x1 80 fun j1 => mx_H 146 12 [some (mx_R 0 39), some (mx_I x1), none, some (mx_I x3), some (mx_I x4), some (mx_I x5), some (mx_I (s 0 43 j1)), some (mx_I x2), some (mx_I (-1)), some (mx_I x2), none] s := (mx_sem_eq 146 _ s).trans rfl
set_option maxRecDepth 100000 in
set_option maxHeartbeats 4000000 in
theorem e_M_bestAt_12 (x1 x3 x4 x5 x6 x7 x8 x9 : Int32) (s : mx_S) : mx_H 146 12 [some (mx_R 0 39), some (mx_I x1), none, some (mx_I x3), some (mx_I x4), some (mx_I x5), some (mx_I x6), some (mx_I x7), some (mx_I x8), some (mx_I x9), none] s = if x3 < x9 then (mx_g none x1 80 fun j1 => mx_w (mx_up s 0 43 j1 x6) fun s2 => some (some (mx_I x7), s2)) else (mx_g none x1 80 fun j3 => mx_w (mx_up s 0 43 j3 x9) fun s4 => mx_bI none (mx_sem 145 [mx_R 0 39, mx_I x4, mx_I x5] s4) fun r6 s5 => if r6 ≤ x8 then (if r6 ≤ x8 then (mx_H 146 12 [some (mx_R 0 39), some (mx_I x1), none, some (mx_I x3), some (mx_I x4), some (mx_I x5), some (mx_I x6), some (mx_I x7), some (mx_I x8), some (mx_I (x9 + 1)), none] s5) else (mx_H 146 12 [some (mx_R 0 39), some (mx_I x1), none, some (mx_I x3), some (mx_I x4), some (mx_I x5), some (mx_I x6), some (mx_I x7), some (mx_I r6), some (mx_I (x9 + 1)), none] s5)) else (if r6 ≤ x8 then (mx_H 146 12 [some (mx_R 0 39), some (mx_I x1), none, some (mx_I x3), some (mx_I x4), some (mx_I x5), some (mx_I x6), some (mx_I x9), some (mx_I x8), some (mx_I (x9 + 1)), none] s5) else (mx_H 146 12 [some (mx_R 0 39), some (mx_I x1), none, some (mx_I x3), some (mx_I x4), some (mx_I x5), some (mx_I x6), some (mx_I x9), some (mx_I r6), some (mx_I (x9 + 1)), none] s5))) := (mx_H_eq 146 12 _ s).trans rfl
set_option maxRecDepth 100000 in
set_option maxHeartbeats 4000000 in
theorem e_M_isLong (x0 : Int32) (s : mx_S) : mx_sem 147 [mx_I x0] s = mx_bI none (mx_sem 115 [mx_J (x0.toInt64), mx_J 1, mx_J 120] s) fun r2 s1 => mx_z none 1 r2 (some (some (mx_I r2), s1)) := (mx_sem_eq 147 _ s).trans rfl
set_option maxRecDepth 100000 in
set_option maxHeartbeats 4000000 in
theorem e_M_bestRule (x1 x2 x3 : Int32) (s : mx_S) : mx_sem 148 [mx_R 0 39, mx_I x1, mx_I x2, mx_I x3] s = mx_w (mx_up s 0 39 0 0) fun s1 => if (s1 0 39 7) = 0 then (some (some (mx_I (-1000002)), s1)) else (mx_bI none (mx_sem 147 [mx_I x1] s1) fun r3 s2 => if r3 = 0 then (some (some (mx_I (-1000001)), s2)) else (mx_bI none (mx_sem 115 [mx_J (x2.toInt64), mx_J 0, mx_J 1] s2) fun r5 s4 => if r5 = 0 then (some (some (mx_I (-1000001)), s4)) else (mx_bI none (mx_sem 115 [mx_J (x3.toInt64), mx_J 0, mx_J 1] s4) fun r7 s6 => if r7 = 0 then (some (some (mx_I (-1000001)), s6)) else (if x2 = 0 then (mx_bI none (mx_sem 146 [mx_R 0 39, mx_I 0, mx_I 1, mx_I 20, mx_I x1, mx_I x3] s6) fun r11 s10 => some (some (mx_I r11), s10)) else (mx_bI none (mx_sem 146 [mx_R 0 39, mx_I 1, mx_I 0, mx_I 20, mx_I x1, mx_I x3] s6) fun r9 s8 => some (some (mx_I r9), s8)))))) := (mx_sem_eq 148 _ s).trans rfl
set_option maxRecDepth 100000 in
set_option maxHeartbeats 4000000 in
theorem e_M_isRow (x0 : Int32) (s : mx_S) : mx_sem 149 [mx_I x0] s = mx_bI none (mx_sem 115 [mx_J (x0.toInt64), mx_J 0, mx_J 7] s) fun r2 s1 => mx_z none 1 r2 (some (some (mx_I r2), s1)) := (mx_sem_eq 149 _ s).trans rfl
set_option maxRecDepth 100000 in
set_option maxHeartbeats 4000000 in
theorem e_M_copy (x1 x2 x3 x4 x5 : Int32) (s : mx_S) : mx_sem 150 [mx_R 0 39, mx_I x1, mx_I x2, mx_I x3, mx_I x4, mx_I x5] s = mx_w (mx_up s 0 39 0 0) fun s1 => mx_bI none (mx_sem 149 [mx_I x1] s1) fun r3 s2 => if r3 = 0 then (some (some (mx_I (-1000001)), s2)) else (mx_bI none (mx_sem 149 [mx_I x3] s2) fun r5 s4 => if r5 = 0 then (some (some (mx_I (-1000001)), s4)) else (mx_w (mx_up s4 0 39 1 0) fun s6 => mx_g none x1 8 fun j7 => if (s6 0 40 j7) < 0 then (mx_bI none (mx_sem 119 [mx_R 0 39, mx_I 1] s6) fun r9 s8 => some (some (mx_I r9), s8)) else (mx_g none x3 8 fun j10 => if 0 ≤ (s6 0 40 j10) then (mx_g none x1 8 fun j11 => mx_g none x3 8 fun j12 => if (s6 0 40 j11) = (s6 0 40 j12) then (if x2 < 0 then (mx_bI none (mx_sem 119 [mx_R 0 39, mx_I 2] s6) fun r14 s13 => some (some (mx_I r14), s13)) else (if x4 < 0 then (mx_bI none (mx_sem 119 [mx_R 0 39, mx_I 2] s6) fun r16 s15 => some (some (mx_I r16), s15)) else (if x5 < 0 then (mx_bI none (mx_sem 119 [mx_R 0 39, mx_I 2] s6) fun r18 s17 => some (some (mx_I r18), s17)) else (mx_g none x1 8 fun j19 => if 0 < (lg_cmp ((x2.toInt64) + (x5.toInt64)) ((s6 0 41 j19).toInt64)) then (mx_bI none (mx_sem 119 [mx_R 0 39, mx_I 2] s6) fun r21 s20 => some (some (mx_I r21), s20)) else (mx_g none x3 8 fun j22 => if (lg_cmp ((x4.toInt64) + (x5.toInt64)) ((s6 0 41 j22).toInt64)) ≤ 0 then (if x2 < x4 then (mx_H 150 85 [some (mx_R 0 39), some (mx_I x1), some (mx_I x2), some (mx_I x3), some (mx_I x4), some (mx_I x5), some (mx_I 0), some (mx_I 0), none] s6) else (mx_H 150 85 [some (mx_R 0 39), some (mx_I x1), some (mx_I x2), some (mx_I x3), some (mx_I x4), some (mx_I x5), some (mx_I 1), some (mx_I 0), none] s6)) else (mx_bI none (mx_sem 119 [mx_R 0 39, mx_I 2] s6) fun r24 s23 => some (some (mx_I r24), s23))))))) else (mx_bI none (mx_sem 119 [mx_R 0 39, mx_I 5] s6) fun r26 s25 => some (some (mx_I r26), s25))) else (mx_bI none (mx_sem 119 [mx_R 0 39, mx_I 1] s6) fun r28 s27 => some (some (mx_I r28), s27))))) := (mx_sem_eq 150 _ s).trans rfl
set_option maxRecDepth 100000 in
set_option maxHeartbeats 4000000 in
theorem e_M_copy_85 (x1 x2 x3 x4 x5 x6 x7 : Int32) (s : mx_S) : mx_H 150 85 [some (mx_R 0 39), some (mx_I x1), some (mx_I x2), some (mx_I x3), some (mx_I x4), some (mx_I x5), some (mx_I x6), some (mx_I x7), none] s = if x5 ≤ x7 then (some (some (mx_I x5), s)) else (if x6 = 0 then (mx_g none (((((40 : Int32)) * x1) + x2) + ((x5 - 1) - x7)) 320 fun j1 => mx_g none (((((40 : Int32)) * x3) + x4) + ((x5 - 1) - x7)) 320 fun j2 => mx_w (mx_up s 0 42 j2 (s 0 42 j1)) fun s3 => mx_H 150 85 [some (mx_R 0 39), some (mx_I x1), some (mx_I x2), some (mx_I x3), some (mx_I x4), some (mx_I x5), some (mx_I x6), some (mx_I (x7 + 1)), none] s3) else (mx_g none (((((40 : Int32)) * x1) + x2) + x7) 320 fun j4 => mx_g none (((((40 : Int32)) * x3) + x4) + x7) 320 fun j5 => mx_w (mx_up s 0 42 j5 (s 0 42 j4)) fun s6 => mx_H 150 85 [some (mx_R 0 39), some (mx_I x1), some (mx_I x2), some (mx_I x3), some (mx_I x4), some (mx_I x5), some (mx_I x6), some (mx_I (x7 + 1)), none] s6)) := (mx_H_eq 150 85 _ s).trans rfl
set_option maxRecDepth 100000 in
set_option maxHeartbeats 4000000 in
theorem e_M_count (x1 : Int32) (s : mx_S) : mx_sem 151 [mx_R 0 39, mx_I x1] s = mx_w (mx_up s 0 39 0 0) fun s1 => if x1 = Int32.ofNat 0 then (mx_H 151 10 [some (mx_R 0 39), none, some (mx_I 0), some (mx_I 0)] s1) else if x1 = Int32.ofNat 1 then (mx_g none ((((2 : Int32)) + x1) - 1) 80 fun j2 => some (some (mx_I (s1 0 43 j2)), s1)) else if x1 = Int32.ofNat 2 then (mx_g none ((((2 : Int32)) + x1) - 1) 80 fun j3 => some (some (mx_I (s1 0 43 j3)), s1)) else if x1 = Int32.ofNat 3 then (mx_g none ((((2 : Int32)) + x1) - 1) 80 fun j4 => some (some (mx_I (s1 0 43 j4)), s1)) else if x1 = Int32.ofNat 4 then (mx_g none ((((2 : Int32)) + x1) - 1) 80 fun j5 => some (some (mx_I (s1 0 43 j5)), s1)) else if x1 = Int32.ofNat 5 then (mx_g none ((((2 : Int32)) + x1) - 1) 80 fun j6 => some (some (mx_I (s1 0 43 j6)), s1)) else if x1 = Int32.ofNat 6 then (mx_g none 420 421 fun j7 => some (some (mx_I (s1 0 45 j7)), s1)) else if x1 = Int32.ofNat 7 then (mx_H 151 45 [some (mx_R 0 39), none, some (mx_I 0), some (mx_I 0)] s1) else if x1 = Int32.ofNat 8 then (some (some (mx_I (s1 0 39 11)), s1)) else (some (some (mx_I (-1000001)), s1)) := (mx_sem_eq 151 _ s).trans rfl
set_option maxRecDepth 100000 in
set_option maxHeartbeats 4000000 in
theorem e_M_count_10 (x2 x3 : Int32) (s : mx_S) : mx_H 151 10 [some (mx_R 0 39), none, some (mx_I x2), some (mx_I x3)] s = if 8 ≤ x3 then (some (some (mx_I x2), s)) else (mx_g none x3 8 fun j1 => if (s 0 40 j1) < 0 then (mx_H 151 10 [some (mx_R 0 39), none, some (mx_I (x2 + 0)), some (mx_I (x3 + 1))] s) else (mx_H 151 10 [some (mx_R 0 39), none, some (mx_I (x2 + 1)), some (mx_I (x3 + 1))] s)) := (mx_H_eq 151 10 _ s).trans rfl
set_option maxRecDepth 100000 in
set_option maxHeartbeats 4000000 in
theorem e_M_count_45 (x2 x3 : Int32) (s : mx_S) : mx_H 151 45 [some (mx_R 0 39), none, some (mx_I x2), some (mx_I x3)] s = mx_g none 6 80 fun j1 => if (s 0 43 j1) ≤ x3 then (some (some (mx_I x2), s)) else (mx_g none ((((14 : Int32)) * x3) + 0) 421 fun j2 => if (s 0 45 j2) = (-2) then (mx_H 151 45 [some (mx_R 0 39), none, some (mx_I (x2 + 1)), some (mx_I (x3 + 1))] s) else (mx_H 151 45 [some (mx_R 0 39), none, some (mx_I (x2 + 0)), some (mx_I (x3 + 1))] s)) := (mx_H_eq 151 45 _ s).trans rfl
set_option maxRecDepth 100000 in
set_option maxHeartbeats 4000000 in
theorem e_M_isRoom (x1 : Int32) (s : mx_S) : mx_sem 152 [mx_R 0 39, mx_I x1] s = mx_g none 2 80 fun j1 => mx_bI none (mx_sem 115 [mx_J (x1.toInt64), mx_J 0, mx_J (((s 0 43 j1) - 1).toInt64)] s) fun r3 s2 => mx_z none 1 r3 (some (some (mx_I r3), s2)) := (mx_sem_eq 152 _ s).trans rfl
set_option maxRecDepth 100000 in
set_option maxHeartbeats 4000000 in
theorem e_M_offBy (x1 x2 x3 : Int32) (s : mx_S) : mx_sem 153 [mx_R 0 39, mx_I x1, mx_I x2, mx_I x3] s = mx_bV none (mx_sem 134 [mx_R 0 39, mx_R 1 45] s) fun s1 => mx_H 153 9 [some (mx_R 0 39), some (mx_I x1), some (mx_I x2), some (mx_I x3), some (mx_I 0), some (mx_I 0), none] s1 := (mx_sem_eq 153 _ s).trans rfl
set_option maxRecDepth 100000 in
set_option maxHeartbeats 4000000 in
theorem e_M_offBy_9 (x1 x2 x3 x4 x5 : Int32) (s : mx_S) : mx_H 153 9 [some (mx_R 0 39), some (mx_I x1), some (mx_I x2), some (mx_I x3), some (mx_I x4), some (mx_I x5), none] s = if x3 ≤ x5 then (some (some (mx_I x4), s)) else (mx_bV none (mx_sem 143 [mx_R 0 39, mx_R 1 45] s) fun s1 => mx_bI none (mx_sem 135 [mx_R 0 39, mx_R 1 45, mx_I x1] s1) fun r3 s2 => mx_g none (x2 + x5) 320 fun j4 => if 0 ≤ (r3 - (s2 0 42 j4)) then (mx_H 153 9 [some (mx_R 0 39), some (mx_I x1), some (mx_I x2), some (mx_I x3), some (mx_I (x4 + (r3 - (s2 0 42 j4)))), some (mx_I (x5 + 1)), none] s2) else (mx_H 153 9 [some (mx_R 0 39), some (mx_I x1), some (mx_I x2), some (mx_I x3), some (mx_I (x4 + (-(r3 - (s2 0 42 j4))))), some (mx_I (x5 + 1)), none] s2)) := (mx_H_eq 153 9 _ s).trans rfl
set_option maxRecDepth 100000 in
set_option maxHeartbeats 4000000 in
theorem e_M_counts (x1 x2 x3 x4 : Int32) (s : mx_S) : mx_sem 154 [mx_R 0 39, mx_I x1, mx_I x2, mx_I x3, mx_I x4] s = mx_w (mx_up s 0 39 0 0) fun s1 => mx_bI none (mx_sem 152 [mx_R 0 39, mx_I x1] s1) fun r3 s2 => if r3 = 0 then (some (some (mx_I (-1000001)), s2)) else (mx_bI none (mx_sem 149 [mx_I x2] s2) fun r5 s4 => if r5 = 0 then (some (some (mx_I (-1000001)), s4)) else (mx_bI none (mx_sem 115 [mx_J (x4.toInt64), mx_J 1, mx_J 40] s4) fun r7 s6 => if r7 = 0 then (some (some (mx_I (-1000001)), s6)) else (mx_g none x2 8 fun j8 => if 0 ≤ (s6 0 40 j8) then (if x3 < 0 then (mx_bI none (mx_sem 119 [mx_R 0 39, mx_I 2] s6) fun r10 s9 => some (some (mx_I r10), s9)) else (mx_g none x2 8 fun j11 => if (lg_cmp ((x3.toInt64) + (x4.toInt64)) ((s6 0 41 j11).toInt64)) ≤ 0 then (mx_H 154 48 [some (mx_R 0 39), some (mx_I x1), some (mx_I x2), some (mx_I x3), some (mx_I x4), some (mx_I 0), none, none, none] s6) else (mx_bI none (mx_sem 119 [mx_R 0 39, mx_I 2] s6) fun r13 s12 => some (some (mx_I r13), s12)))) else (mx_bI none (mx_sem 119 [mx_R 0 39, mx_I 1] s6) fun r15 s14 => some (some (mx_I r15), s14))))) := (mx_sem_eq 154 _ s).trans rfl
set_option maxRecDepth 100000 in
set_option maxHeartbeats 4000000 in
theorem e_M_counts_48 (x1 x2 x3 x4 x5 : Int32) (s : mx_S) : mx_H 154 48 [some (mx_R 0 39), some (mx_I x1), some (mx_I x2), some (mx_I x3), some (mx_I x4), some (mx_I x5), none, none, none] s = if x4 ≤ x5 then (mx_w (mx_up s 0 39 1 0) fun s1 => mx_H 154 80 [some (mx_R 0 39), some (mx_I x1), some (mx_I x2), some (mx_I x3), some (mx_I x4), some (mx_I 0), some (mx_I 0), some (mx_I 0), none] s1) else (mx_g none (((((40 : Int32)) * x2) + x3) + x5) 320 fun j2 => mx_bI none (mx_sem 115 [mx_J ((s 0 42 j2).toInt64), mx_J 0, mx_J 30] s) fun r4 s3 => if r4 = 0 then (some (some (mx_I (-1000001)), s3)) else (mx_H 154 48 [some (mx_R 0 39), some (mx_I x1), some (mx_I x2), some (mx_I x3), some (mx_I x4), some (mx_I (x5 + 1)), none, none, none] s3)) := (mx_H_eq 154 48 _ s).trans rfl
set_option maxRecDepth 100000 in
set_option maxHeartbeats 4000000 in
theorem e_M_counts_80 (x1 x2 x3 x4 x5 x6 x7 : Int32) (s : mx_S) : mx_H 154 80 [some (mx_R 0 39), some (mx_I x1), some (mx_I x2), some (mx_I x3), some (mx_I x4), some (mx_I x5), some (mx_I x6), some (mx_I x7), none] s = if 3 ≤ x7 then (mx_w (mx_up s 0 39 21 (-1)) fun s1 => some (some (mx_I x5), s1)) else (mx_w (mx_up s 0 39 21 x7) fun s2 => mx_bI none (mx_sem 153 [mx_R 0 39, mx_I x1, mx_I ((((40 : Int32)) * x2) + x3), mx_I x4] s2) fun r4 s3 => if x7 = 0 then (if x7 = 0 then (mx_H 154 80 [some (mx_R 0 39), some (mx_I x1), some (mx_I x2), some (mx_I x3), some (mx_I x4), some (mx_I x7), some (mx_I r4), some (mx_I (x7 + 1)), none] s3) else (if x6 ≤ r4 then (mx_H 154 80 [some (mx_R 0 39), some (mx_I x1), some (mx_I x2), some (mx_I x3), some (mx_I x4), some (mx_I x7), some (mx_I x6), some (mx_I (x7 + 1)), none] s3) else (mx_H 154 80 [some (mx_R 0 39), some (mx_I x1), some (mx_I x2), some (mx_I x3), some (mx_I x4), some (mx_I x7), some (mx_I r4), some (mx_I (x7 + 1)), none] s3))) else (if x6 ≤ r4 then (if x7 = 0 then (mx_H 154 80 [some (mx_R 0 39), some (mx_I x1), some (mx_I x2), some (mx_I x3), some (mx_I x4), some (mx_I x5), some (mx_I r4), some (mx_I (x7 + 1)), none] s3) else (if x6 ≤ r4 then (mx_H 154 80 [some (mx_R 0 39), some (mx_I x1), some (mx_I x2), some (mx_I x3), some (mx_I x4), some (mx_I x5), some (mx_I x6), some (mx_I (x7 + 1)), none] s3) else (mx_H 154 80 [some (mx_R 0 39), some (mx_I x1), some (mx_I x2), some (mx_I x3), some (mx_I x4), some (mx_I x5), some (mx_I r4), some (mx_I (x7 + 1)), none] s3))) else (if x7 = 0 then (mx_H 154 80 [some (mx_R 0 39), some (mx_I x1), some (mx_I x2), some (mx_I x3), some (mx_I x4), some (mx_I x7), some (mx_I r4), some (mx_I (x7 + 1)), none] s3) else (if x6 ≤ r4 then (mx_H 154 80 [some (mx_R 0 39), some (mx_I x1), some (mx_I x2), some (mx_I x3), some (mx_I x4), some (mx_I x7), some (mx_I x6), some (mx_I (x7 + 1)), none] s3) else (mx_H 154 80 [some (mx_R 0 39), some (mx_I x1), some (mx_I x2), some (mx_I x3), some (mx_I x4), some (mx_I x7), some (mx_I r4), some (mx_I (x7 + 1)), none] s3))))) := (mx_H_eq 154 80 _ s).trans rfl
set_option maxRecDepth 100000 in
set_option maxHeartbeats 4000000 in
theorem e_M_drop (x1 : Int32) (s : mx_S) : mx_sem 155 [mx_R 0 39, mx_I x1] s = mx_w (mx_up s 0 39 0 0) fun s1 => mx_bI none (mx_sem 149 [mx_I x1] s1) fun r3 s2 => if r3 = 0 then (some (some (mx_I (-1000001)), s2)) else (mx_w (mx_up s2 0 39 1 0) fun s4 => mx_g none x1 8 fun j5 => if 0 ≤ (s4 0 40 j5) then (mx_g none x1 8 fun j6 => mx_w (mx_up s4 0 40 j6 (-1)) fun s7 => mx_g none x1 8 fun j8 => some (some (mx_I (s7 0 41 j8)), s7)) else (mx_bI none (mx_sem 119 [mx_R 0 39, mx_I 1] s4) fun r10 s9 => some (some (mx_I r10), s9))) := (mx_sem_eq 155 _ s).trans rfl
set_option maxRecDepth 100000 in
set_option maxHeartbeats 4000000 in
theorem e_M_far (x1 x2 : Int32) (s : mx_S) : mx_sem 156 [mx_R 0 39, mx_I x1, mx_I x2] s = mx_w (mx_up s 0 39 0 0) fun s1 => mx_bI none (mx_sem 152 [mx_R 0 39, mx_I x1] s1) fun r3 s2 => if r3 = 0 then (some (some (mx_I (-1000001)), s2)) else (mx_bI none (mx_sem 152 [mx_R 0 39, mx_I x2] s2) fun r5 s4 => if r5 = 0 then (some (some (mx_I (-1000001)), s4)) else (mx_g none ((((6 : Int32)) * x1) + x2) 36 fun j6 => some (some (mx_I (s4 0 47 j6)), s4))) := (mx_sem_eq 156 _ s).trans rfl
set_option maxRecDepth 100000 in
set_option maxHeartbeats 4000000 in
theorem e_M_fault (s : mx_S) : mx_sem 157 [mx_R 0 39] s = mx_w (mx_up s 0 39 0 0) fun s1 => some (some (mx_I (s1 0 39 12)), s1) := (mx_sem_eq 157 _ s).trans rfl
set_option maxRecDepth 100000 in
set_option maxHeartbeats 4000000 in
theorem e_M_feed (x3 : Int32) (w1 : Int64) (s : mx_S) : mx_sem 158 [mx_R 0 39, mx_J w1, mx_I x3] s = mx_w (mx_up s 0 39 0 0) fun s1 => mx_bI none (mx_sem 115 [mx_J (x3.toInt64), mx_J 1, mx_J 8] s1) fun r3 s2 => if r3 = 0 then (some (some (mx_I (-1000001)), s2)) else (if ((s2 0 39 11) + x3) ≤ 400 then (mx_H 158 24 [some (mx_R 0 39), some (mx_J w1), none, none, some (mx_I (x3 - 1))] s2) else (some (some (mx_I (-1000003)), s2))) := (mx_sem_eq 158 _ s).trans rfl
set_option maxRecDepth 100000 in
set_option maxHeartbeats 4000000 in
theorem e_M_feed_24 (x4 : Int32) (w1 : Int64) (s : mx_S) : mx_H 158 24 [some (mx_R 0 39), some (mx_J w1), none, none, some (mx_I x4)] s = if x4 < 0 then (some (some (mx_I (s 0 39 11)), s)) else (mx_g none (s 0 39 11) 400 fun j1 => mx_w (mx_up s 0 46 j1 (((w1 >>> ((((8 : Int32)) * x4).toInt64 &&& 63)) &&& (255 : Int64)).toInt32)) fun s2 => mx_w (mx_up s2 0 39 11 ((s2 0 39 11) + 1)) fun s3 => mx_H 158 24 [some (mx_R 0 39), some (mx_J w1), none, none, some (mx_I (x4 + (-1)))] s3) := (mx_H_eq 158 24 _ s).trans rfl
set_option maxRecDepth 100000 in
set_option maxHeartbeats 4000000 in
theorem e_M_figures (s : mx_S) : mx_sem 159 [mx_R 0 39] s = mx_H 159 6 [some (mx_R 0 39), some (mx_I 0), some (mx_I (s 0 39 16))] s := (mx_sem_eq 159 _ s).trans rfl
set_option maxRecDepth 100000 in
set_option maxHeartbeats 4000000 in
theorem e_M_figures_6 (x1 x2 : Int32) (s : mx_S) : mx_H 159 6 [some (mx_R 0 39), some (mx_I x1), some (mx_I x2)] s = if (s 0 39 17) ≤ x2 then (some (some (mx_I x1), s)) else (if (s 0 39 15) = 3 then (mx_g none x2 400 fun j1 => mx_H 159 6 [some (mx_R 0 39), some (mx_I (((((10 : Int32)) * x1) + (s 0 46 j1)) - 48)), some (mx_I (x2 + 1))] s) else (some (some (mx_I x1), s))) := (mx_H_eq 159 6 _ s).trans rfl
set_option maxRecDepth 100000 in
set_option maxHeartbeats 4000000 in
theorem e_M_fire (s : mx_S) : mx_sem 160 [mx_R 0 39] s = mx_w (mx_up s 0 39 0 0) fun s1 => if (s1 0 39 7) = 0 then (some (some (mx_I (-1000002)), s1)) else (mx_H 160 13 [some (mx_R 0 39), some (mx_I 0), some (mx_I 0), none, none] s1) := (mx_sem_eq 160 _ s).trans rfl
set_option maxRecDepth 100000 in
set_option maxHeartbeats 4000000 in
theorem e_M_fire_13 (x1 x2 : Int32) (s : mx_S) : mx_H 160 13 [some (mx_R 0 39), some (mx_I x1), some (mx_I x2), none, none] s = mx_g none 6 80 fun j1 => if (s 0 43 j1) ≤ x2 then (some (some (mx_I x1), s)) else (mx_g none ((((14 : Int32)) * x2) + 0) 421 fun j2 => if 0 ≤ (s 0 45 j2) then (mx_g none (((6 : Int32)) * (s 0 45 j2)) 36 fun j3 => if (s 0 47 j3) = (-1000000) then (some (some (mx_I (-1000000)), s)) else (if ((s 0 47 j3) + 1) ≤ x1 then (mx_H 160 13 [some (mx_R 0 39), some (mx_I x1), some (mx_I (x2 + 1)), none, none] s) else (mx_H 160 13 [some (mx_R 0 39), some (mx_I ((s 0 47 j3) + 1)), some (mx_I (x2 + 1)), none, none] s))) else (if (((-1 : Int32)) + 1) ≤ x1 then (mx_H 160 13 [some (mx_R 0 39), some (mx_I x1), some (mx_I (x2 + 1)), none, none] s) else (mx_H 160 13 [some (mx_R 0 39), some (mx_I (((-1 : Int32)) + 1)), some (mx_I (x2 + 1)), none, none] s))) := (mx_H_eq 160 13 _ s).trans rfl
set_option maxRecDepth 100000 in
set_option maxHeartbeats 4000000 in
theorem e_M_go (x1 : Int32) (s : mx_S) : mx_sem 161 [mx_R 0 39, mx_I x1] s = mx_w (mx_up s 0 39 0 0) fun s1 => if (s1 0 39 7) = 0 then (some (some (mx_I (-1000002)), s1)) else (mx_bI none (mx_sem 115 [mx_J (x1.toInt64), mx_J 1, mx_J 60] s1) fun r3 s2 => if r3 = 0 then (some (some (mx_I (-1000001)), s2)) else (mx_H 161 19 [some (mx_R 0 39), some (mx_I x1), some (mx_I 0)] s2)) := (mx_sem_eq 161 _ s).trans rfl
set_option maxRecDepth 100000 in
set_option maxHeartbeats 4000000 in
theorem e_M_go_19 (x1 x2 : Int32) (s : mx_S) : mx_H 161 19 [some (mx_R 0 39), some (mx_I x1), some (mx_I x2)] s = if x1 ≤ x2 then (mx_g none 420 421 fun j1 => some (some (mx_I (s 0 45 j1)), s)) else (mx_bV none (mx_sem 143 [mx_R 0 39, mx_R 0 45] s) fun s2 => mx_H 161 19 [some (mx_R 0 39), some (mx_I x1), some (mx_I (x2 + 1))] s2) := (mx_H_eq 161 19 _ s).trans rfl
set_option maxRecDepth 100000 in
set_option maxHeartbeats 4000000 in
theorem e_M_hang (x1 x2 : Int32) (s : mx_S) : mx_sem 162 [mx_R 0 39, mx_I x1, mx_I x2] s = mx_H 162 3 [some (mx_R 0 39), some (mx_I x1), some (mx_I x2), some (mx_I 0), none] s := (mx_sem_eq 162 _ s).trans rfl
set_option maxRecDepth 100000 in
set_option maxHeartbeats 4000000 in
theorem e_M_hang_3 (x1 x2 x3 : Int32) (s : mx_S) : mx_H 162 3 [some (mx_R 0 39), some (mx_I x1), some (mx_I x2), some (mx_I x3), none] s = if x1 ≤ x3 then (mx_bI none (mx_sem 145 [mx_R 0 39, mx_I x2, mx_I 0] s) fun r2 s1 => mx_H 162 35 [some (mx_R 0 39), some (mx_I x1), none, some (mx_I r2), some (mx_I 0)] s1) else (mx_g none x3 8 fun j3 => mx_g none (((40 : Int32)) + (((2 : Int32)) * (s 0 49 j3))) 80 fun j4 => mx_g none (((40 : Int32)) + (((2 : Int32)) * x3)) 80 fun j5 => mx_w (mx_up s 0 43 j5 (s 0 44 j4)) fun s6 => mx_H 162 3 [some (mx_R 0 39), some (mx_I x1), some (mx_I x2), some (mx_I (x3 + 1)), none] s6) := (mx_H_eq 162 3 _ s).trans rfl
set_option maxRecDepth 100000 in
set_option maxHeartbeats 4000000 in
theorem e_M_hang_35 (x1 x3 x4 : Int32) (s : mx_S) : mx_H 162 35 [some (mx_R 0 39), some (mx_I x1), none, some (mx_I x3), some (mx_I x4)] s = if x1 ≤ x4 then (if x3 ≤ (s 0 39 27) then (mx_w (mx_up s 0 39 27 (s 0 39 27)) fun s1 => some (none, s1)) else (mx_w (mx_up s 0 39 27 x3) fun s2 => some (none, s2))) else (if x3 ≤ (s 0 39 27) then (if x3 ≤ (s 0 39 27) then (mx_w (mx_up s 0 39 27 (s 0 39 27)) fun s3 => some (none, s3)) else (mx_w (mx_up s 0 39 27 x3) fun s4 => some (none, s4))) else (mx_g none x4 8 fun j5 => mx_g none x4 8 fun j6 => mx_w (mx_up s 0 50 j6 (s 0 49 j5)) fun s7 => mx_H 162 35 [some (mx_R 0 39), some (mx_I x1), none, some (mx_I x3), some (mx_I (x4 + 1))] s7)) := (mx_H_eq 162 35 _ s).trans rfl
set_option maxRecDepth 100000 in
set_option maxHeartbeats 4000000 in
theorem e_M_name (s : mx_S) : mx_sem 163 [mx_R 0 39] s = mx_H 163 6 [some (mx_R 0 39), some (mx_J 0), none, some (mx_I (s 0 39 16))] s := (mx_sem_eq 163 _ s).trans rfl
set_option maxRecDepth 100000 in
set_option maxHeartbeats 4000000 in
theorem e_M_name_6 (x3 : Int32) (w1 : Int64) (s : mx_S) : mx_H 163 6 [some (mx_R 0 39), some (mx_J w1), none, some (mx_I x3)] s = if (s 0 39 17) ≤ x3 then (if (s 0 39 18) = 0 then (some (some (mx_J w1), s)) else (some (some (mx_J 0), s))) else (if (s 0 39 15) = 2 then (if 8 ≤ ((s 0 39 17) - (s 0 39 16)) then (if (s 0 39 18) = 0 then (some (some (mx_J w1), s)) else (some (some (mx_J 0), s))) else (mx_g none x3 400 fun j1 => mx_H 163 6 [some (mx_R 0 39), some (mx_J ((w1 <<< (((8 : Int32)).toInt64 &&& 63)) ||| ((s 0 46 j1).toInt64))), none, some (mx_I (x3 + 1))] s)) else (if (s 0 39 18) = 0 then (some (some (mx_J w1), s)) else (some (some (mx_J 0), s)))) := (mx_H_eq 163 6 _ s).trans rfl
set_option maxRecDepth 100000 in
set_option maxHeartbeats 4000000 in
theorem e_M_number (x1 x2 : Int32) (s : mx_S) : mx_sem 164 [mx_R 0 39, mx_I x1, mx_I x2] s = if (s 0 39 18) ≤ 0 then (mx_bI none (mx_sem 159 [mx_R 0 39] s) fun r2 s1 => if (s1 0 39 15) = 3 then (mx_bI none (mx_sem 115 [mx_J (r2.toInt64), mx_J (x1.toInt64), mx_J (x2.toInt64)] s1) fun r6 s5 => if r6 = 0 then (mx_bV none (mx_sem 126 [mx_R 0 39, mx_I 2] s5) fun s9 => if (s9 0 39 15) = 3 then (mx_bV none (mx_sem 132 [mx_R 0 39, mx_I 1] s9) fun s11 => some (some (mx_I r2), s11)) else (mx_bV none (mx_sem 132 [mx_R 0 39, mx_I 0] s9) fun s10 => some (some (mx_I r2), s10))) else (if (s5 0 39 15) = 3 then (mx_bV none (mx_sem 132 [mx_R 0 39, mx_I 1] s5) fun s8 => some (some (mx_I r2), s8)) else (mx_bV none (mx_sem 132 [mx_R 0 39, mx_I 0] s5) fun s7 => some (some (mx_I r2), s7)))) else (if (s1 0 39 15) = 3 then (mx_bV none (mx_sem 132 [mx_R 0 39, mx_I 1] s1) fun s4 => some (some (mx_I r2), s4)) else (mx_bV none (mx_sem 132 [mx_R 0 39, mx_I 0] s1) fun s3 => some (some (mx_I r2), s3)))) else (some (some (mx_I 0), s)) := (mx_sem_eq 164 _ s).trans rfl
set_option maxRecDepth 100000 in
set_option maxHeartbeats 4000000 in
theorem e_M_mustEnd (s : mx_S) : mx_sem 165 [mx_R 0 39] s = if (s 0 39 18) = 0 then (if (s 0 39 15) = 4 then (mx_bV none (mx_sem 132 [mx_R 0 39, mx_I 1] s) fun s2 => some (none, s2)) else (mx_bV none (mx_sem 132 [mx_R 0 39, mx_I 0] s) fun s1 => some (none, s1))) else (some (none, s)) := (mx_sem_eq 165 _ s).trans rfl
set_option maxRecDepth 100000 in
set_option maxHeartbeats 4000000 in
theorem e_M_readRail (s : mx_S) : mx_sem 166 [mx_R 0 39] s = mx_bJ none (mx_sem 163 [mx_R 0 39] s) fun r2 s1 => if (lg_cmp r2 1918986604) = 0 then (mx_bV none (mx_sem 132 [mx_R 0 39, mx_I 1] s1) fun s13 => mx_bI none (mx_sem 164 [mx_R 0 39, mx_I 1, mx_I 20] s13) fun r15 s14 => mx_g none 0 80 fun j16 => mx_w (mx_up s14 0 44 j16 r15) fun s17 => mx_bI none (mx_sem 164 [mx_R 0 39, mx_I 0, mx_I 20] s17) fun r19 s18 => mx_g none 1 80 fun j20 => mx_w (mx_up s18 0 44 j20 r19) fun s21 => mx_bV none (mx_sem 165 [mx_R 0 39] s21) fun s22 => some (none, s22)) else (mx_bV none (mx_sem 132 [mx_R 0 39, mx_I 0] s1) fun s3 => mx_bI none (mx_sem 164 [mx_R 0 39, mx_I 1, mx_I 20] s3) fun r5 s4 => mx_g none 0 80 fun j6 => mx_w (mx_up s4 0 44 j6 r5) fun s7 => mx_bI none (mx_sem 164 [mx_R 0 39, mx_I 0, mx_I 20] s7) fun r9 s8 => mx_g none 1 80 fun j10 => mx_w (mx_up s8 0 44 j10 r9) fun s11 => mx_bV none (mx_sem 165 [mx_R 0 39] s11) fun s12 => some (none, s12)) := (mx_sem_eq 166 _ s).trans rfl
set_option maxRecDepth 100000 in
set_option maxHeartbeats 4000000 in
theorem e_M_mustBegin (w1 : Int64) (s : mx_S) : mx_sem 167 [mx_R 0 39, mx_J w1] s = mx_bJ none (mx_sem 163 [mx_R 0 39] s) fun r2 s1 => if (lg_cmp r2 w1) = 0 then (some (none, s1)) else (mx_bV none (mx_sem 126 [mx_R 0 39, mx_I 1] s1) fun s3 => some (none, s3)) := (mx_sem_eq 167 _ s).trans rfl
set_option maxRecDepth 100000 in
set_option maxHeartbeats 4000000 in
theorem e_M_readRoom (s : mx_S) : mx_sem 168 [mx_R 0 39] s = mx_bV none (mx_sem 133 [mx_R 0 39, mx_I 2, mx_I 6] s) fun s1 => mx_bI none (mx_sem 164 [mx_R 0 39, mx_I 1, mx_I 40] s1) fun r3 s2 => mx_bV none (mx_sem 165 [mx_R 0 39] s2) fun s4 => if (s4 0 39 18) = 0 then (mx_g none 2 80 fun j5 => mx_g none (((7 : Int32)) + (s4 0 44 j5)) 80 fun j6 => mx_w (mx_up s4 0 44 j6 r3) fun s7 => mx_g none 2 80 fun j8 => mx_g none 2 80 fun j9 => mx_w (mx_up s7 0 44 j9 ((s7 0 44 j8) + 1)) fun s10 => some (none, s10)) else (some (none, s4)) := (mx_sem_eq 168 _ s).trans rfl
set_option maxRecDepth 100000 in
set_option maxHeartbeats 4000000 in
theorem e_M_readDoor (s : mx_S) : mx_sem 169 [mx_R 0 39] s = mx_bV none (mx_sem 133 [mx_R 0 39, mx_I 3, mx_I 9] s) fun s1 => mx_g none 2 80 fun j2 => mx_bI none (mx_sem 164 [mx_R 0 39, mx_I 0, mx_I ((s1 0 44 j2) - 1)] s1) fun r4 s3 => if (s3 0 39 18) = 0 then (if (s3 0 39 15) = 3 then (mx_bI none (mx_sem 159 [mx_R 0 39] s3) fun r62 s61 => if r62 = r4 then (mx_bV none (mx_sem 126 [mx_R 0 39, mx_I 2] s61) fun s91 => mx_g none 2 80 fun j92 => mx_bI none (mx_sem 164 [mx_R 0 39, mx_I 0, mx_I ((s91 0 44 j92) - 1)] s91) fun r94 s93 => mx_bJ none (mx_sem 163 [mx_R 0 39] s93) fun r96 s95 => if (lg_cmp r96 7302757) = 0 then (mx_bV none (mx_sem 132 [mx_R 0 39, mx_I 1] s95) fun s108 => mx_bV none (mx_sem 165 [mx_R 0 39] s108) fun s109 => if (s109 0 39 18) = 0 then (mx_g none 3 80 fun j110 => mx_g none (((13 : Int32)) + (((3 : Int32)) * (s109 0 44 j110))) 80 fun j111 => mx_w (mx_up s109 0 44 j111 r4) fun s112 => mx_g none ((((13 : Int32)) + (((3 : Int32)) * (s109 0 44 j110))) + 1) 80 fun j113 => mx_w (mx_up s112 0 44 j113 r94) fun s114 => mx_g none ((((13 : Int32)) + (((3 : Int32)) * (s109 0 44 j110))) + 2) 80 fun j115 => mx_w (mx_up s114 0 44 j115 1) fun s116 => mx_g none 3 80 fun j117 => mx_g none 3 80 fun j118 => mx_w (mx_up s116 0 44 j118 ((s116 0 44 j117) + 1)) fun s119 => some (none, s119)) else (some (none, s109))) else (mx_bV none (mx_sem 165 [mx_R 0 39] s95) fun s97 => if (s97 0 39 18) = 0 then (mx_g none 3 80 fun j98 => mx_g none (((13 : Int32)) + (((3 : Int32)) * (s97 0 44 j98))) 80 fun j99 => mx_w (mx_up s97 0 44 j99 r4) fun s100 => mx_g none ((((13 : Int32)) + (((3 : Int32)) * (s97 0 44 j98))) + 1) 80 fun j101 => mx_w (mx_up s100 0 44 j101 r94) fun s102 => mx_g none ((((13 : Int32)) + (((3 : Int32)) * (s97 0 44 j98))) + 2) 80 fun j103 => mx_w (mx_up s102 0 44 j103 0) fun s104 => mx_g none 3 80 fun j105 => mx_g none 3 80 fun j106 => mx_w (mx_up s104 0 44 j106 ((s104 0 44 j105) + 1)) fun s107 => some (none, s107)) else (some (none, s97)))) else (mx_g none 2 80 fun j63 => mx_bI none (mx_sem 164 [mx_R 0 39, mx_I 0, mx_I ((s61 0 44 j63) - 1)] s61) fun r65 s64 => mx_bJ none (mx_sem 163 [mx_R 0 39] s64) fun r67 s66 => if (lg_cmp r67 7302757) = 0 then (mx_bV none (mx_sem 132 [mx_R 0 39, mx_I 1] s66) fun s79 => mx_bV none (mx_sem 165 [mx_R 0 39] s79) fun s80 => if (s80 0 39 18) = 0 then (mx_g none 3 80 fun j81 => mx_g none (((13 : Int32)) + (((3 : Int32)) * (s80 0 44 j81))) 80 fun j82 => mx_w (mx_up s80 0 44 j82 r4) fun s83 => mx_g none ((((13 : Int32)) + (((3 : Int32)) * (s80 0 44 j81))) + 1) 80 fun j84 => mx_w (mx_up s83 0 44 j84 r65) fun s85 => mx_g none ((((13 : Int32)) + (((3 : Int32)) * (s80 0 44 j81))) + 2) 80 fun j86 => mx_w (mx_up s85 0 44 j86 1) fun s87 => mx_g none 3 80 fun j88 => mx_g none 3 80 fun j89 => mx_w (mx_up s87 0 44 j89 ((s87 0 44 j88) + 1)) fun s90 => some (none, s90)) else (some (none, s80))) else (mx_bV none (mx_sem 165 [mx_R 0 39] s66) fun s68 => if (s68 0 39 18) = 0 then (mx_g none 3 80 fun j69 => mx_g none (((13 : Int32)) + (((3 : Int32)) * (s68 0 44 j69))) 80 fun j70 => mx_w (mx_up s68 0 44 j70 r4) fun s71 => mx_g none ((((13 : Int32)) + (((3 : Int32)) * (s68 0 44 j69))) + 1) 80 fun j72 => mx_w (mx_up s71 0 44 j72 r65) fun s73 => mx_g none ((((13 : Int32)) + (((3 : Int32)) * (s68 0 44 j69))) + 2) 80 fun j74 => mx_w (mx_up s73 0 44 j74 0) fun s75 => mx_g none 3 80 fun j76 => mx_g none 3 80 fun j77 => mx_w (mx_up s75 0 44 j77 ((s75 0 44 j76) + 1)) fun s78 => some (none, s78)) else (some (none, s68))))) else (mx_g none 2 80 fun j33 => mx_bI none (mx_sem 164 [mx_R 0 39, mx_I 0, mx_I ((s3 0 44 j33) - 1)] s3) fun r35 s34 => mx_bJ none (mx_sem 163 [mx_R 0 39] s34) fun r37 s36 => if (lg_cmp r37 7302757) = 0 then (mx_bV none (mx_sem 132 [mx_R 0 39, mx_I 1] s36) fun s49 => mx_bV none (mx_sem 165 [mx_R 0 39] s49) fun s50 => if (s50 0 39 18) = 0 then (mx_g none 3 80 fun j51 => mx_g none (((13 : Int32)) + (((3 : Int32)) * (s50 0 44 j51))) 80 fun j52 => mx_w (mx_up s50 0 44 j52 r4) fun s53 => mx_g none ((((13 : Int32)) + (((3 : Int32)) * (s50 0 44 j51))) + 1) 80 fun j54 => mx_w (mx_up s53 0 44 j54 r35) fun s55 => mx_g none ((((13 : Int32)) + (((3 : Int32)) * (s50 0 44 j51))) + 2) 80 fun j56 => mx_w (mx_up s55 0 44 j56 1) fun s57 => mx_g none 3 80 fun j58 => mx_g none 3 80 fun j59 => mx_w (mx_up s57 0 44 j59 ((s57 0 44 j58) + 1)) fun s60 => some (none, s60)) else (some (none, s50))) else (mx_bV none (mx_sem 165 [mx_R 0 39] s36) fun s38 => if (s38 0 39 18) = 0 then (mx_g none 3 80 fun j39 => mx_g none (((13 : Int32)) + (((3 : Int32)) * (s38 0 44 j39))) 80 fun j40 => mx_w (mx_up s38 0 44 j40 r4) fun s41 => mx_g none ((((13 : Int32)) + (((3 : Int32)) * (s38 0 44 j39))) + 1) 80 fun j42 => mx_w (mx_up s41 0 44 j42 r35) fun s43 => mx_g none ((((13 : Int32)) + (((3 : Int32)) * (s38 0 44 j39))) + 2) 80 fun j44 => mx_w (mx_up s43 0 44 j44 0) fun s45 => mx_g none 3 80 fun j46 => mx_g none 3 80 fun j47 => mx_w (mx_up s45 0 44 j47 ((s45 0 44 j46) + 1)) fun s48 => some (none, s48)) else (some (none, s38))))) else (mx_g none 2 80 fun j5 => mx_bI none (mx_sem 164 [mx_R 0 39, mx_I 0, mx_I ((s3 0 44 j5) - 1)] s3) fun r7 s6 => mx_bJ none (mx_sem 163 [mx_R 0 39] s6) fun r9 s8 => if (lg_cmp r9 7302757) = 0 then (mx_bV none (mx_sem 132 [mx_R 0 39, mx_I 1] s8) fun s21 => mx_bV none (mx_sem 165 [mx_R 0 39] s21) fun s22 => if (s22 0 39 18) = 0 then (mx_g none 3 80 fun j23 => mx_g none (((13 : Int32)) + (((3 : Int32)) * (s22 0 44 j23))) 80 fun j24 => mx_w (mx_up s22 0 44 j24 r4) fun s25 => mx_g none ((((13 : Int32)) + (((3 : Int32)) * (s22 0 44 j23))) + 1) 80 fun j26 => mx_w (mx_up s25 0 44 j26 r7) fun s27 => mx_g none ((((13 : Int32)) + (((3 : Int32)) * (s22 0 44 j23))) + 2) 80 fun j28 => mx_w (mx_up s27 0 44 j28 1) fun s29 => mx_g none 3 80 fun j30 => mx_g none 3 80 fun j31 => mx_w (mx_up s29 0 44 j31 ((s29 0 44 j30) + 1)) fun s32 => some (none, s32)) else (some (none, s22))) else (mx_bV none (mx_sem 165 [mx_R 0 39] s8) fun s10 => if (s10 0 39 18) = 0 then (mx_g none 3 80 fun j11 => mx_g none (((13 : Int32)) + (((3 : Int32)) * (s10 0 44 j11))) 80 fun j12 => mx_w (mx_up s10 0 44 j12 r4) fun s13 => mx_g none ((((13 : Int32)) + (((3 : Int32)) * (s10 0 44 j11))) + 1) 80 fun j14 => mx_w (mx_up s13 0 44 j14 r7) fun s15 => mx_g none ((((13 : Int32)) + (((3 : Int32)) * (s10 0 44 j11))) + 2) 80 fun j16 => mx_w (mx_up s15 0 44 j16 0) fun s17 => mx_g none 3 80 fun j18 => mx_g none 3 80 fun j19 => mx_w (mx_up s17 0 44 j19 ((s17 0 44 j18) + 1)) fun s20 => some (none, s20)) else (some (none, s10)))) := (mx_sem_eq 169 _ s).trans rfl
set_option maxRecDepth 100000 in
set_option maxHeartbeats 4000000 in
theorem e_M_readPicture (s : mx_S) : mx_sem 170 [mx_R 0 39] s = mx_bV none (mx_sem 133 [mx_R 0 39, mx_I 4, mx_I 8] s) fun s1 => mx_g none 2 80 fun j2 => mx_bI none (mx_sem 164 [mx_R 0 39, mx_I 0, mx_I ((s1 0 44 j2) - 1)] s1) fun r4 s3 => mx_bI none (mx_sem 164 [mx_R 0 39, mx_I 1, mx_I 60] s3) fun r6 s5 => mx_bV none (mx_sem 165 [mx_R 0 39] s5) fun s7 => if (s7 0 39 18) = 0 then (mx_g none 4 80 fun j8 => mx_g none (((40 : Int32)) + (((2 : Int32)) * (s7 0 44 j8))) 80 fun j9 => mx_w (mx_up s7 0 44 j9 r4) fun s10 => mx_g none 4 80 fun j11 => mx_g none ((((40 : Int32)) + (((2 : Int32)) * (s10 0 44 j11))) + 1) 80 fun j12 => mx_w (mx_up s10 0 44 j12 r6) fun s13 => mx_g none 4 80 fun j14 => mx_g none 4 80 fun j15 => mx_w (mx_up s13 0 44 j15 ((s13 0 44 j14) + 1)) fun s16 => some (none, s16)) else (some (none, s7)) := (mx_sem_eq 170 _ s).trans rfl
set_option maxRecDepth 100000 in
set_option maxHeartbeats 4000000 in
theorem e_M_lawOf (w0 : Int64) (s : mx_S) : mx_sem 171 [mx_J w0] s = if (lg_cmp w0 439855772532) = 0 then (some (some (mx_I 0), s)) else (if (lg_cmp w0 1685217655) = 0 then (some (some (mx_I 1), s)) else (if (lg_cmp w0 491496238692) = 0 then (some (some (mx_I 2), s)) else (some (some (mx_I (-1000000)), s)))) := (mx_sem_eq 171 _ s).trans rfl
set_option maxRecDepth 100000 in
set_option maxHeartbeats 4000000 in
theorem e_M_readGroup (s : mx_S) : mx_sem 172 [mx_R 0 39] s = mx_bV none (mx_sem 133 [mx_R 0 39, mx_I 5, mx_I 6] s) fun s1 => mx_g none 6 80 fun j2 => if 20 ≤ (((30 : Int32)) - (s1 0 44 j2)) then (mx_bI none (mx_sem 164 [mx_R 0 39, mx_I 1, mx_I 20] s1) fun r4 s3 => mx_bI none (mx_sem 164 [mx_R 0 39, mx_I 0, mx_I 60] s3) fun r6 s5 => mx_bJ none (mx_sem 163 [mx_R 0 39] s5) fun r8 s7 => mx_bI none (mx_sem 171 [mx_J r8] s7) fun r10 s9 => if (s9 0 39 18) = 0 then (if r10 = (-1000000) then (mx_bV none (mx_sem 132 [mx_R 0 39, mx_I 0] s9) fun s29 => mx_bI none (mx_sem 164 [mx_R 0 39, mx_I 0, mx_I 20] s29) fun r31 s30 => mx_bV none (mx_sem 165 [mx_R 0 39] s30) fun s32 => if (s32 0 39 18) = 0 then (mx_g none 5 80 fun j33 => mx_g none (((56 : Int32)) + (((4 : Int32)) * (s32 0 44 j33))) 80 fun j34 => mx_w (mx_up s32 0 44 j34 r4) fun s35 => mx_g none ((((56 : Int32)) + (((4 : Int32)) * (s32 0 44 j33))) + 1) 80 fun j36 => mx_w (mx_up s35 0 44 j36 r6) fun s37 => mx_g none ((((56 : Int32)) + (((4 : Int32)) * (s32 0 44 j33))) + 2) 80 fun j38 => mx_w (mx_up s37 0 44 j38 r10) fun s39 => mx_g none ((((56 : Int32)) + (((4 : Int32)) * (s32 0 44 j33))) + 3) 80 fun j40 => mx_w (mx_up s39 0 44 j40 r31) fun s41 => mx_g none 5 80 fun j42 => mx_g none 5 80 fun j43 => mx_w (mx_up s41 0 44 j43 ((s41 0 44 j42) + 1)) fun s44 => mx_g none 6 80 fun j45 => mx_g none 6 80 fun j46 => mx_w (mx_up s44 0 44 j46 ((s44 0 44 j45) + r4)) fun s47 => some (none, s47)) else (some (none, s32))) else (mx_bV none (mx_sem 132 [mx_R 0 39, mx_I 1] s9) fun s48 => mx_bI none (mx_sem 164 [mx_R 0 39, mx_I 0, mx_I 20] s48) fun r50 s49 => mx_bV none (mx_sem 165 [mx_R 0 39] s49) fun s51 => if (s51 0 39 18) = 0 then (mx_g none 5 80 fun j52 => mx_g none (((56 : Int32)) + (((4 : Int32)) * (s51 0 44 j52))) 80 fun j53 => mx_w (mx_up s51 0 44 j53 r4) fun s54 => mx_g none ((((56 : Int32)) + (((4 : Int32)) * (s51 0 44 j52))) + 1) 80 fun j55 => mx_w (mx_up s54 0 44 j55 r6) fun s56 => mx_g none ((((56 : Int32)) + (((4 : Int32)) * (s51 0 44 j52))) + 2) 80 fun j57 => mx_w (mx_up s56 0 44 j57 r10) fun s58 => mx_g none ((((56 : Int32)) + (((4 : Int32)) * (s51 0 44 j52))) + 3) 80 fun j59 => mx_w (mx_up s58 0 44 j59 r50) fun s60 => mx_g none 5 80 fun j61 => mx_g none 5 80 fun j62 => mx_w (mx_up s60 0 44 j62 ((s60 0 44 j61) + 1)) fun s63 => mx_g none 6 80 fun j64 => mx_g none 6 80 fun j65 => mx_w (mx_up s63 0 44 j65 ((s63 0 44 j64) + r4)) fun s66 => some (none, s66)) else (some (none, s51)))) else (mx_bI none (mx_sem 164 [mx_R 0 39, mx_I 0, mx_I 20] s9) fun r12 s11 => mx_bV none (mx_sem 165 [mx_R 0 39] s11) fun s13 => if (s13 0 39 18) = 0 then (mx_g none 5 80 fun j14 => mx_g none (((56 : Int32)) + (((4 : Int32)) * (s13 0 44 j14))) 80 fun j15 => mx_w (mx_up s13 0 44 j15 r4) fun s16 => mx_g none ((((56 : Int32)) + (((4 : Int32)) * (s13 0 44 j14))) + 1) 80 fun j17 => mx_w (mx_up s16 0 44 j17 r6) fun s18 => mx_g none ((((56 : Int32)) + (((4 : Int32)) * (s13 0 44 j14))) + 2) 80 fun j19 => mx_w (mx_up s18 0 44 j19 r10) fun s20 => mx_g none ((((56 : Int32)) + (((4 : Int32)) * (s13 0 44 j14))) + 3) 80 fun j21 => mx_w (mx_up s20 0 44 j21 r12) fun s22 => mx_g none 5 80 fun j23 => mx_g none 5 80 fun j24 => mx_w (mx_up s22 0 44 j24 ((s22 0 44 j23) + 1)) fun s25 => mx_g none 6 80 fun j26 => mx_g none 6 80 fun j27 => mx_w (mx_up s25 0 44 j27 ((s25 0 44 j26) + r4)) fun s28 => some (none, s28)) else (some (none, s13)))) else (mx_bI none (mx_sem 164 [mx_R 0 39, mx_I 1, mx_I (((30 : Int32)) - (s1 0 44 j2))] s1) fun r68 s67 => mx_bI none (mx_sem 164 [mx_R 0 39, mx_I 0, mx_I 60] s67) fun r70 s69 => mx_bJ none (mx_sem 163 [mx_R 0 39] s69) fun r72 s71 => mx_bI none (mx_sem 171 [mx_J r72] s71) fun r74 s73 => if (s73 0 39 18) = 0 then (if r74 = (-1000000) then (mx_bV none (mx_sem 132 [mx_R 0 39, mx_I 0] s73) fun s93 => mx_bI none (mx_sem 164 [mx_R 0 39, mx_I 0, mx_I 20] s93) fun r95 s94 => mx_bV none (mx_sem 165 [mx_R 0 39] s94) fun s96 => if (s96 0 39 18) = 0 then (mx_g none 5 80 fun j97 => mx_g none (((56 : Int32)) + (((4 : Int32)) * (s96 0 44 j97))) 80 fun j98 => mx_w (mx_up s96 0 44 j98 r68) fun s99 => mx_g none ((((56 : Int32)) + (((4 : Int32)) * (s96 0 44 j97))) + 1) 80 fun j100 => mx_w (mx_up s99 0 44 j100 r70) fun s101 => mx_g none ((((56 : Int32)) + (((4 : Int32)) * (s96 0 44 j97))) + 2) 80 fun j102 => mx_w (mx_up s101 0 44 j102 r74) fun s103 => mx_g none ((((56 : Int32)) + (((4 : Int32)) * (s96 0 44 j97))) + 3) 80 fun j104 => mx_w (mx_up s103 0 44 j104 r95) fun s105 => mx_g none 5 80 fun j106 => mx_g none 5 80 fun j107 => mx_w (mx_up s105 0 44 j107 ((s105 0 44 j106) + 1)) fun s108 => mx_g none 6 80 fun j109 => mx_g none 6 80 fun j110 => mx_w (mx_up s108 0 44 j110 ((s108 0 44 j109) + r68)) fun s111 => some (none, s111)) else (some (none, s96))) else (mx_bV none (mx_sem 132 [mx_R 0 39, mx_I 1] s73) fun s112 => mx_bI none (mx_sem 164 [mx_R 0 39, mx_I 0, mx_I 20] s112) fun r114 s113 => mx_bV none (mx_sem 165 [mx_R 0 39] s113) fun s115 => if (s115 0 39 18) = 0 then (mx_g none 5 80 fun j116 => mx_g none (((56 : Int32)) + (((4 : Int32)) * (s115 0 44 j116))) 80 fun j117 => mx_w (mx_up s115 0 44 j117 r68) fun s118 => mx_g none ((((56 : Int32)) + (((4 : Int32)) * (s115 0 44 j116))) + 1) 80 fun j119 => mx_w (mx_up s118 0 44 j119 r70) fun s120 => mx_g none ((((56 : Int32)) + (((4 : Int32)) * (s115 0 44 j116))) + 2) 80 fun j121 => mx_w (mx_up s120 0 44 j121 r74) fun s122 => mx_g none ((((56 : Int32)) + (((4 : Int32)) * (s115 0 44 j116))) + 3) 80 fun j123 => mx_w (mx_up s122 0 44 j123 r114) fun s124 => mx_g none 5 80 fun j125 => mx_g none 5 80 fun j126 => mx_w (mx_up s124 0 44 j126 ((s124 0 44 j125) + 1)) fun s127 => mx_g none 6 80 fun j128 => mx_g none 6 80 fun j129 => mx_w (mx_up s127 0 44 j129 ((s127 0 44 j128) + r68)) fun s130 => some (none, s130)) else (some (none, s115)))) else (mx_bI none (mx_sem 164 [mx_R 0 39, mx_I 0, mx_I 20] s73) fun r76 s75 => mx_bV none (mx_sem 165 [mx_R 0 39] s75) fun s77 => if (s77 0 39 18) = 0 then (mx_g none 5 80 fun j78 => mx_g none (((56 : Int32)) + (((4 : Int32)) * (s77 0 44 j78))) 80 fun j79 => mx_w (mx_up s77 0 44 j79 r68) fun s80 => mx_g none ((((56 : Int32)) + (((4 : Int32)) * (s77 0 44 j78))) + 1) 80 fun j81 => mx_w (mx_up s80 0 44 j81 r70) fun s82 => mx_g none ((((56 : Int32)) + (((4 : Int32)) * (s77 0 44 j78))) + 2) 80 fun j83 => mx_w (mx_up s82 0 44 j83 r74) fun s84 => mx_g none ((((56 : Int32)) + (((4 : Int32)) * (s77 0 44 j78))) + 3) 80 fun j85 => mx_w (mx_up s84 0 44 j85 r76) fun s86 => mx_g none 5 80 fun j87 => mx_g none 5 80 fun j88 => mx_w (mx_up s86 0 44 j88 ((s86 0 44 j87) + 1)) fun s89 => mx_g none 6 80 fun j90 => mx_g none 6 80 fun j91 => mx_w (mx_up s89 0 44 j91 ((s89 0 44 j90) + r68)) fun s92 => some (none, s92)) else (some (none, s77)))) := (mx_sem_eq 172 _ s).trans rfl
end
section
set_option maxRecDepth 100000 in
set_option maxHeartbeats 4000000 in
theorem e_M_layFar (s : mx_S) : mx_sem 173 [mx_R 0 39] s = mx_g none 2 80 fun j1 => mx_H 173 8 [some (mx_R 0 39), some (mx_I (s 0 43 j1)), some (mx_I 0), none, none, none, none, none] s := (mx_sem_eq 173 _ s).trans rfl
set_option maxRecDepth 100000 in
set_option maxHeartbeats 4000000 in
theorem e_M_layFar_8 (x1 x2 : Int32) (s : mx_S) : mx_H 173 8 [some (mx_R 0 39), some (mx_I x1), some (mx_I x2), none, none, none, none, none] s = if 36 ≤ x2 then (mx_H 173 30 [some (mx_R 0 39), some (mx_I x1), some (mx_I 1), none, none, none, none, none] s) else (mx_d none ((6 : Int32)) (mx_d none ((6 : Int32)) (if (x2 / 6) = (x2 - x2 / 6 * 6) then (mx_g none x2 36 fun j3 => mx_w (mx_up s 0 47 j3 0) fun s4 => mx_H 173 8 [some (mx_R 0 39), some (mx_I x1), some (mx_I (x2 + 1)), none, none, none, none, none] s4) else (mx_g none x2 36 fun j1 => mx_w (mx_up s 0 47 j1 (-1000000)) fun s2 => mx_H 173 8 [some (mx_R 0 39), some (mx_I x1), some (mx_I (x2 + 1)), none, none, none, none, none] s2)))) := (mx_H_eq 173 8 _ s).trans rfl
set_option maxRecDepth 100000 in
set_option maxHeartbeats 4000000 in
theorem e_M_layFar_30 (x1 x2 : Int32) (s : mx_S) : mx_H 173 30 [some (mx_R 0 39), some (mx_I x1), some (mx_I x2), none, none, none, none, none] s = if x1 ≤ x2 then (some (none, s)) else (mx_H 173 36 [some (mx_R 0 39), some (mx_I x1), some (mx_I x2), some (mx_I 0), none, none, none, none] s) := (mx_H_eq 173 30 _ s).trans rfl
set_option maxRecDepth 100000 in
set_option maxHeartbeats 4000000 in
theorem e_M_layFar_36 (x1 x2 x3 : Int32) (s : mx_S) : mx_H 173 36 [some (mx_R 0 39), some (mx_I x1), some (mx_I x2), some (mx_I x3), none, none, none, none] s = if 36 ≤ x3 then (mx_H 173 30 [some (mx_R 0 39), some (mx_I x1), some (mx_I (x2 + 1)), none, none, none, none, none] s) else (mx_d none ((6 : Int32)) (mx_H 173 46 [some (mx_R 0 39), some (mx_I x1), some (mx_I x2), some (mx_I x3), some (mx_I (x3 / 6)), some (mx_I 0), none, none] s)) := (mx_H_eq 173 36 _ s).trans rfl
set_option maxRecDepth 100000 in
set_option maxHeartbeats 4000000 in
theorem e_M_layFar_46 (x1 x2 x3 x4 x5 : Int32) (s : mx_S) : mx_H 173 46 [some (mx_R 0 39), some (mx_I x1), some (mx_I x2), some (mx_I x3), some (mx_I x4), some (mx_I x5), none, none] s = mx_g none 3 80 fun j1 => if (((6 : Int32)) * (s 0 43 j1)) ≤ x5 then (mx_H 173 36 [some (mx_R 0 39), some (mx_I x1), some (mx_I x2), some (mx_I (x3 + 1)), none, none, none, none] s) else (if x1 ≤ x4 then (mx_H 173 36 [some (mx_R 0 39), some (mx_I x1), some (mx_I x2), some (mx_I (x3 + 1)), none, none, none, none] s) else (mx_d none ((6 : Int32)) (mx_g none x3 36 fun j2 => if (s 0 47 j2) = (-1000000) then (mx_g none ((((6 : Int32)) * x4) + (x5 - x5 / 6 * 6)) 36 fun j6 => if (s 0 47 j6) = (x2 - 1) then (mx_d none ((6 : Int32)) (mx_d none ((6 : Int32)) (mx_bI none (mx_sem 140 [mx_R 0 39, mx_I (x5 / 6), mx_I (x5 - x5 / 6 * 6), mx_I (x3 - x3 / 6 * 6)] s) fun r11 s10 => if r11 = 0 then (mx_g none x3 36 fun j12 => mx_g none x3 36 fun j13 => mx_w (mx_up s10 0 47 j13 (s10 0 47 j12)) fun s14 => mx_H 173 46 [some (mx_R 0 39), some (mx_I x1), some (mx_I x2), some (mx_I x3), some (mx_I x4), some (mx_I (x5 + 1)), none, none] s14) else (mx_g none x3 36 fun j15 => mx_w (mx_up s10 0 47 j15 x2) fun s16 => mx_H 173 46 [some (mx_R 0 39), some (mx_I x1), some (mx_I x2), some (mx_I x3), some (mx_I x4), some (mx_I (x5 + 1)), none, none] s16)))) else (mx_g none x3 36 fun j7 => mx_g none x3 36 fun j8 => mx_w (mx_up s 0 47 j8 (s 0 47 j7)) fun s9 => mx_H 173 46 [some (mx_R 0 39), some (mx_I x1), some (mx_I x2), some (mx_I x3), some (mx_I x4), some (mx_I (x5 + 1)), none, none] s9)) else (mx_g none x3 36 fun j3 => mx_g none x3 36 fun j4 => mx_w (mx_up s 0 47 j4 (s 0 47 j3)) fun s5 => mx_H 173 46 [some (mx_R 0 39), some (mx_I x1), some (mx_I x2), some (mx_I x3), some (mx_I x4), some (mx_I (x5 + 1)), none, none] s5)))) := (mx_H_eq 173 46 _ s).trans rfl
set_option maxRecDepth 100000 in
set_option maxHeartbeats 4000000 in
theorem e_M_house (s : mx_S) : mx_sem 174 [mx_R 0 39] s = mx_w (mx_up s 0 39 0 0) fun s1 => mx_bV none (mx_sem 131 [mx_R 0 39] s1) fun s2 => mx_H 174 8 [some (mx_R 0 39), some (mx_I 0)] s2 := (mx_sem_eq 174 _ s).trans rfl
set_option maxRecDepth 100000 in
set_option maxHeartbeats 4000000 in
theorem e_M_house_8 (x1 : Int32) (s : mx_S) : mx_H 174 8 [some (mx_R 0 39), some (mx_I x1)] s = if 80 ≤ x1 then (mx_bV none (mx_sem 166 [mx_R 0 39] s) fun s1 => mx_bV none (mx_sem 167 [mx_R 0 39, mx_J 1919905645] s1) fun s2 => mx_H 174 24 [some (mx_R 0 39), none] s2) else (mx_g none x1 80 fun j3 => mx_w (mx_up s 0 44 j3 0) fun s4 => mx_H 174 8 [some (mx_R 0 39), some (mx_I (x1 + 1))] s4) := (mx_H_eq 174 8 _ s).trans rfl
set_option maxRecDepth 100000 in
set_option maxHeartbeats 4000000 in
theorem e_M_house_24 (s : mx_S) : mx_H 174 24 [some (mx_R 0 39), none] s = mx_bJ none (mx_sem 163 [mx_R 0 39] s) fun r2 s1 => if (lg_cmp r2 1919905645) = 0 then (mx_bV none (mx_sem 168 [mx_R 0 39] s1) fun s3 => mx_H 174 24 [some (mx_R 0 39), none] s3) else (mx_H 174 33 [some (mx_R 0 39), none] s1) := (mx_H_eq 174 24 _ s).trans rfl
set_option maxRecDepth 100000 in
set_option maxHeartbeats 4000000 in
theorem e_M_house_33 (s : mx_S) : mx_H 174 33 [some (mx_R 0 39), none] s = mx_bJ none (mx_sem 163 [mx_R 0 39] s) fun r2 s1 => if (lg_cmp r2 1685024626) = 0 then (mx_bV none (mx_sem 169 [mx_R 0 39] s1) fun s4 => mx_H 174 33 [some (mx_R 0 39), none] s4) else (mx_bV none (mx_sem 167 [mx_R 0 39, mx_J 31641073268126309] s1) fun s3 => mx_H 174 45 [some (mx_R 0 39), none] s3) := (mx_H_eq 174 33 _ s).trans rfl
set_option maxRecDepth 100000 in
set_option maxHeartbeats 4000000 in
theorem e_M_house_45 (s : mx_S) : mx_H 174 45 [some (mx_R 0 39), none] s = mx_bJ none (mx_sem 163 [mx_R 0 39] s) fun r2 s1 => if (lg_cmp r2 31641073268126309) = 0 then (mx_bV none (mx_sem 170 [mx_R 0 39] s1) fun s4 => mx_H 174 45 [some (mx_R 0 39), none] s4) else (mx_bV none (mx_sem 167 [mx_R 0 39, mx_J 444301538672] s1) fun s3 => mx_H 174 57 [some (mx_R 0 39), none] s3) := (mx_H_eq 174 45 _ s).trans rfl
set_option maxRecDepth 100000 in
set_option maxHeartbeats 4000000 in
theorem e_M_house_57 (s : mx_S) : mx_H 174 57 [some (mx_R 0 39), none] s = mx_bJ none (mx_sem 163 [mx_R 0 39] s) fun r2 s1 => if (lg_cmp r2 444301538672) = 0 then (mx_bV none (mx_sem 172 [mx_R 0 39] s1) fun s10 => mx_H 174 57 [some (mx_R 0 39), none] s10) else (if (s1 0 39 18) = 0 then (if (s1 0 39 15) = 1 then (if (s1 0 39 18) ≤ 0 then (mx_w (mx_up s1 0 39 7 1) fun s5 => mx_H 174 93 [some (mx_R 0 39), some (mx_I 0)] s5) else (mx_w (mx_up s1 0 39 12 (s1 0 39 18)) fun s6 => some (some (mx_I (((-1000100 : Int32)) - (s6 0 39 19))), s6))) else (mx_bV none (mx_sem 126 [mx_R 0 39, mx_I 1] s1) fun s7 => if (s7 0 39 18) ≤ 0 then (mx_w (mx_up s7 0 39 7 1) fun s8 => mx_H 174 93 [some (mx_R 0 39), some (mx_I 0)] s8) else (mx_w (mx_up s7 0 39 12 (s7 0 39 18)) fun s9 => some (some (mx_I (((-1000100 : Int32)) - (s9 0 39 19))), s9)))) else (if (s1 0 39 18) ≤ 0 then (mx_w (mx_up s1 0 39 7 1) fun s3 => mx_H 174 93 [some (mx_R 0 39), some (mx_I 0)] s3) else (mx_w (mx_up s1 0 39 12 (s1 0 39 18)) fun s4 => some (some (mx_I (((-1000100 : Int32)) - (s4 0 39 19))), s4)))) := (mx_H_eq 174 57 _ s).trans rfl
set_option maxRecDepth 100000 in
set_option maxHeartbeats 4000000 in
theorem e_M_house_93 (x1 : Int32) (s : mx_S) : mx_H 174 93 [some (mx_R 0 39), some (mx_I x1)] s = if 80 ≤ x1 then (mx_bV none (mx_sem 173 [mx_R 0 39] s) fun s1 => mx_bV none (mx_sem 134 [mx_R 0 39, mx_R 0 45] s1) fun s2 => mx_g none 6 80 fun j3 => some (some (mx_I (s2 0 43 j3)), s2)) else (mx_g none x1 80 fun j4 => mx_g none x1 80 fun j5 => mx_w (mx_up s 0 43 j5 (s 0 44 j4)) fun s6 => mx_H 174 93 [some (mx_R 0 39), some (mx_I (x1 + 1))] s6) := (mx_H_eq 174 93 _ s).trans rfl
set_option maxRecDepth 100000 in
set_option maxHeartbeats 4000000 in
theorem e_M_isEachOnce (x1 : Int32) (s : mx_S) : mx_sem 175 [mx_R 0 39, mx_I x1] s = mx_H 175 5 [some (mx_R 0 39), some (mx_I x1), some (mx_I 0), some (mx_I 0)] s := (mx_sem_eq 175 _ s).trans rfl
set_option maxRecDepth 100000 in
set_option maxHeartbeats 4000000 in
theorem e_M_isEachOnce_5 (x1 x2 x3 : Int32) (s : mx_S) : mx_H 175 5 [some (mx_R 0 39), some (mx_I x1), some (mx_I x2), some (mx_I x3)] s = if x1 ≤ x3 then (if x2 = ((((1 : Int32)) <<< (x1 &&& 31)) - 1) then (some (some (mx_I 1), s)) else (some (some (mx_I 0), s))) else (mx_g none x3 8 fun j1 => mx_H 175 5 [some (mx_R 0 39), some (mx_I x1), some (mx_I (x2 ||| (((1 : Int32)) <<< ((s 0 49 j1) &&& 31)))), some (mx_I (x3 + 1))] s) := (mx_H_eq 175 5 _ s).trans rfl
set_option maxRecDepth 100000 in
set_option maxHeartbeats 4000000 in
theorem e_M_hung (x1 x2 : Int32) (s : mx_S) : mx_sem 176 [mx_R 0 39, mx_I x1, mx_I x2] s = mx_w (mx_up s 0 39 0 0) fun s1 => if (s1 0 39 7) = 0 then (some (some (mx_I (-1000002)), s1)) else (mx_bI none (mx_sem 147 [mx_I x1] s1) fun r3 s2 => if r3 = 0 then (some (some (mx_I (-1000001)), s2)) else (if (-1) ≤ x2 then (mx_g none 4 80 fun j4 => if (s2 0 43 j4) ≤ 4 then (mx_H 176 29 [some (mx_R 0 39), some (mx_I x1), some (mx_I x2), some (mx_I (s2 0 43 j4)), some (mx_I 0), none, none, none] s2) else (some (some (mx_I (-1000000)), s2))) else (some (some (mx_I (-1000001)), s2)))) := (mx_sem_eq 176 _ s).trans rfl
set_option maxRecDepth 100000 in
set_option maxHeartbeats 4000000 in
theorem e_M_hung_29 (x1 x2 x3 x4 : Int32) (s : mx_S) : mx_H 176 29 [some (mx_R 0 39), some (mx_I x1), some (mx_I x2), some (mx_I x3), some (mx_I x4), none, none, none] s = if x3 ≤ x4 then (mx_w (mx_up s 0 39 27 (-1)) fun s1 => mx_H 176 58 [some (mx_R 0 39), some (mx_I x1), some (mx_I x2), some (mx_I x3), some (mx_I 1), some (mx_I 0), none, none] s1) else (mx_g none (((40 : Int32)) + (((2 : Int32)) * x4)) 80 fun j2 => mx_g none (((40 : Int32)) + (((2 : Int32)) * x4)) 80 fun j3 => mx_w (mx_up s 0 44 j3 (s 0 43 j2)) fun s4 => mx_H 176 29 [some (mx_R 0 39), some (mx_I x1), some (mx_I x2), some (mx_I x3), some (mx_I (x4 + 1)), none, none, none] s4) := (mx_H_eq 176 29 _ s).trans rfl
set_option maxRecDepth 100000 in
set_option maxHeartbeats 4000000 in
theorem e_M_hung_58 (x1 x2 x3 x4 x5 : Int32) (s : mx_S) : mx_H 176 58 [some (mx_R 0 39), some (mx_I x1), some (mx_I x2), some (mx_I x3), some (mx_I x4), some (mx_I x5), none, none] s = if x3 ≤ x5 then (mx_H 176 70 [some (mx_R 0 39), some (mx_I x1), some (mx_I x2), some (mx_I x3), some (mx_I x4), some (mx_I 0), none, none] s) else (mx_H 176 58 [some (mx_R 0 39), some (mx_I x1), some (mx_I x2), some (mx_I x3), some (mx_I (x4 * x3)), some (mx_I (x5 + 1)), none, none] s) := (mx_H_eq 176 58 _ s).trans rfl
set_option maxRecDepth 100000 in
set_option maxHeartbeats 4000000 in
theorem e_M_hung_70 (x1 x2 x3 x4 x5 : Int32) (s : mx_S) : mx_H 176 70 [some (mx_R 0 39), some (mx_I x1), some (mx_I x2), some (mx_I x3), some (mx_I x4), some (mx_I x5), none, none] s = if x4 ≤ x5 then (mx_H 176 108 [some (mx_R 0 39), none, some (mx_I x2), some (mx_I x3), none, some (mx_I 0), none, none] s) else (mx_H 176 80 [some (mx_R 0 39), some (mx_I x1), some (mx_I x2), some (mx_I x3), some (mx_I x4), some (mx_I x5), some (mx_I x5), some (mx_I (x3 - 1))] s) := (mx_H_eq 176 70 _ s).trans rfl
set_option maxRecDepth 100000 in
set_option maxHeartbeats 4000000 in
theorem e_M_hung_108 (x2 x3 x5 : Int32) (s : mx_S) : mx_H 176 108 [some (mx_R 0 39), none, some (mx_I x2), some (mx_I x3), none, some (mx_I x5), none, none] s = if x3 ≤ x5 then (if 0 ≤ x2 then (if x3 ≤ x2 then (some (some (mx_I (-1000000)), s)) else (mx_g none x2 8 fun j1 => some (some (mx_I (s 0 50 j1)), s))) else (some (some (mx_I (s 0 39 27)), s))) else (mx_g none (((40 : Int32)) + (((2 : Int32)) * x5)) 80 fun j2 => mx_g none (((40 : Int32)) + (((2 : Int32)) * x5)) 80 fun j3 => mx_w (mx_up s 0 43 j3 (s 0 44 j2)) fun s4 => mx_H 176 108 [some (mx_R 0 39), none, some (mx_I x2), some (mx_I x3), none, some (mx_I (x5 + 1)), none, none] s4) := (mx_H_eq 176 108 _ s).trans rfl
set_option maxRecDepth 100000 in
set_option maxHeartbeats 4000000 in
theorem e_M_hung_80 (x1 x2 x3 x4 x5 x6 x7 : Int32) (s : mx_S) : mx_H 176 80 [some (mx_R 0 39), some (mx_I x1), some (mx_I x2), some (mx_I x3), some (mx_I x4), some (mx_I x5), some (mx_I x6), some (mx_I x7)] s = if x7 < 0 then (mx_bI none (mx_sem 175 [mx_R 0 39, mx_I x3] s) fun r2 s1 => if r2 = 0 then (mx_H 176 70 [some (mx_R 0 39), some (mx_I x1), some (mx_I x2), some (mx_I x3), some (mx_I x4), some (mx_I (x5 + 1)), none, none] s1) else (mx_bV none (mx_sem 162 [mx_R 0 39, mx_I x3, mx_I x1] s1) fun s3 => mx_H 176 70 [some (mx_R 0 39), some (mx_I x1), some (mx_I x2), some (mx_I x3), some (mx_I x4), some (mx_I (x5 + 1)), none, none] s3)) else (mx_d none x3 (mx_g none x7 8 fun j4 => mx_w (mx_up s 0 49 j4 (x6 - x6 / x3 * x3)) fun s5 => mx_d none x3 (mx_H 176 80 [some (mx_R 0 39), some (mx_I x1), some (mx_I x2), some (mx_I x3), some (mx_I x4), some (mx_I x5), some (mx_I (x6 / x3)), some (mx_I (x7 + (-1)))] s5))) := (mx_H_eq 176 80 _ s).trans rfl
set_option maxRecDepth 100000 in
set_option maxHeartbeats 4000000 in
theorem e_M_image (x1 : Int32) (s : mx_S) : mx_sem 177 [mx_R 0 39, mx_I x1] s = mx_w (mx_up s 0 39 0 0) fun s1 => mx_bI none (mx_sem 115 [mx_J (x1.toInt64), mx_J 0, mx_J 1] s1) fun r3 s2 => if r3 = 0 then (some (some (mx_I (-1000001)), s2)) else (if (s2 0 39 7) = 0 then (some (some (mx_I (-1000002)), s2)) else (mx_H 177 19 [some (mx_R 0 39), some (mx_I x1), some (mx_I 0)] s2)) := (mx_sem_eq 177 _ s).trans rfl
set_option maxRecDepth 100000 in
set_option maxHeartbeats 4000000 in
theorem e_M_image_19 (x1 x2 : Int32) (s : mx_S) : mx_H 177 19 [some (mx_R 0 39), some (mx_I x1), some (mx_I x2)] s = if 80 ≤ x2 then (mx_H 177 39 [some (mx_R 0 39), some (mx_I x1), some (mx_I 0)] s) else (mx_g none x2 80 fun j1 => mx_g none ((((80 : Int32)) * x1) + x2) 160 fun j2 => mx_w (mx_up s 0 52 j2 (s 0 43 j1)) fun s3 => mx_H 177 19 [some (mx_R 0 39), some (mx_I x1), some (mx_I (x2 + 1))] s3) := (mx_H_eq 177 19 _ s).trans rfl
set_option maxRecDepth 100000 in
set_option maxHeartbeats 4000000 in
theorem e_M_image_39 (x1 x2 : Int32) (s : mx_S) : mx_H 177 39 [some (mx_R 0 39), some (mx_I x1), some (mx_I x2)] s = if 421 ≤ x2 then (mx_g none x1 2 fun j1 => mx_w (mx_up s 0 51 j1 (vp_nar .boolean 1)) fun s2 => some (some (mx_I 1), s2)) else (mx_g none x2 421 fun j3 => mx_g none ((((421 : Int32)) * x1) + x2) 842 fun j4 => mx_w (mx_up s 0 53 j4 (s 0 45 j3)) fun s5 => mx_H 177 39 [some (mx_R 0 39), some (mx_I x1), some (mx_I (x2 + 1))] s5) := (mx_H_eq 177 39 _ s).trans rfl
set_option maxRecDepth 100000 in
set_option maxHeartbeats 4000000 in
theorem e_M_kind (x1 : Int32) (s : mx_S) : mx_sem 178 [mx_R 0 39, mx_I x1] s = mx_w (mx_up s 0 39 0 0) fun s1 => mx_bI none (mx_sem 116 [mx_R 0 39, mx_I x1] s1) fun r3 s2 => if r3 = 0 then (some (some (mx_I (-1000001)), s2)) else (mx_bI none (mx_sem 117 [mx_R 0 39, mx_I x1] s2) fun r5 s4 => some (some (mx_I r5), s4)) := (mx_sem_eq 178 _ s).trans rfl
set_option maxRecDepth 100000 in
set_option maxHeartbeats 4000000 in
theorem e_M_oneWay (x1 x2 : Int32) (s : mx_S) : mx_sem 179 [mx_R 0 39, mx_I x1, mx_I x2] s = mx_w (mx_up s 0 39 0 0) fun s1 => mx_g none 3 80 fun j2 => mx_bI none (mx_sem 115 [mx_J (x1.toInt64), mx_J 0, mx_J (((s1 0 43 j2) - 1).toInt64)] s1) fun r4 s3 => if r4 = 0 then (some (some (mx_I (-1000001)), s3)) else (mx_bI none (mx_sem 147 [mx_I x2] s3) fun r6 s5 => if r6 = 0 then (some (some (mx_I (-1000001)), s5)) else (mx_bI none (mx_sem 145 [mx_R 0 39, mx_I x2, mx_I 0] s5) fun r8 s7 => mx_g none ((((13 : Int32)) + (((3 : Int32)) * x1)) + 2) 80 fun j9 => mx_g none ((((13 : Int32)) + (((3 : Int32)) * x1)) + 2) 80 fun j10 => mx_w (mx_up s7 0 43 j10 1) fun s11 => mx_bV none (mx_sem 173 [mx_R 0 39] s11) fun s12 => mx_bI none (mx_sem 145 [mx_R 0 39, mx_I x2, mx_I 0] s12) fun r14 s13 => mx_g none ((((13 : Int32)) + (((3 : Int32)) * x1)) + 2) 80 fun j15 => mx_w (mx_up s13 0 43 j15 (s7 0 43 j9)) fun s16 => mx_bV none (mx_sem 173 [mx_R 0 39] s16) fun s17 => some (some (mx_I (r14 - r8)), s17))) := (mx_sem_eq 179 _ s).trans rfl
set_option maxRecDepth 100000 in
set_option maxHeartbeats 4000000 in
theorem e_M_picture (x1 x2 x3 : Int32) (s : mx_S) : mx_sem 180 [mx_R 0 39, mx_I x1, mx_I x2, mx_I x3] s = mx_w (mx_up s 0 39 0 0) fun s1 => mx_g none 4 80 fun j2 => mx_bI none (mx_sem 115 [mx_J (x1.toInt64), mx_J 0, mx_J (((s1 0 43 j2) - 1).toInt64)] s1) fun r4 s3 => if r4 = 0 then (some (some (mx_I (-1000001)), s3)) else (mx_bI none (mx_sem 147 [mx_I x2] s3) fun r6 s5 => if r6 = 0 then (some (some (mx_I (-1000001)), s5)) else (mx_bI none (mx_sem 115 [mx_J (x3.toInt64), mx_J 0, mx_J 1] s5) fun r8 s7 => if r8 = 0 then (some (some (mx_I (-1000001)), s7)) else (mx_bI none (mx_sem 145 [mx_R 0 39, mx_I x2, mx_I 0] s7) fun r10 s9 => if x3 = 0 then (mx_w (mx_up s9 0 39 22 x1) fun s22 => if x3 = 1 then (mx_w (mx_up s22 0 39 23 x1) fun s28 => mx_bI none (mx_sem 145 [mx_R 0 39, mx_I x2, mx_I 0] s28) fun r30 s29 => mx_w (mx_up s29 0 39 22 (-1)) fun s31 => mx_w (mx_up s31 0 39 23 (-1)) fun s32 => if x3 = 0 then (some (some (mx_I (r30 - r10)), s32)) else (some (some (mx_I (r10 - r30)), s32))) else (mx_w (mx_up s22 0 39 23 (-1)) fun s23 => mx_bI none (mx_sem 145 [mx_R 0 39, mx_I x2, mx_I 0] s23) fun r25 s24 => mx_w (mx_up s24 0 39 22 (-1)) fun s26 => mx_w (mx_up s26 0 39 23 (-1)) fun s27 => if x3 = 0 then (some (some (mx_I (r25 - r10)), s27)) else (some (some (mx_I (r10 - r25)), s27)))) else (mx_w (mx_up s9 0 39 22 (-1)) fun s11 => if x3 = 1 then (mx_w (mx_up s11 0 39 23 x1) fun s17 => mx_bI none (mx_sem 145 [mx_R 0 39, mx_I x2, mx_I 0] s17) fun r19 s18 => mx_w (mx_up s18 0 39 22 (-1)) fun s20 => mx_w (mx_up s20 0 39 23 (-1)) fun s21 => if x3 = 0 then (some (some (mx_I (r19 - r10)), s21)) else (some (some (mx_I (r10 - r19)), s21))) else (mx_w (mx_up s11 0 39 23 (-1)) fun s12 => mx_bI none (mx_sem 145 [mx_R 0 39, mx_I x2, mx_I 0] s12) fun r14 s13 => mx_w (mx_up s13 0 39 22 (-1)) fun s15 => mx_w (mx_up s15 0 39 23 (-1)) fun s16 => if x3 = 0 then (some (some (mx_I (r14 - r10)), s16)) else (some (some (mx_I (r10 - r14)), s16))))))) := (mx_sem_eq 180 _ s).trans rfl
set_option maxRecDepth 100000 in
set_option maxHeartbeats 4000000 in
theorem e_M_restore (x1 : Int32) (s : mx_S) : mx_sem 181 [mx_R 0 39, mx_I x1] s = mx_w (mx_up s 0 39 0 0) fun s1 => mx_bI none (mx_sem 115 [mx_J (x1.toInt64), mx_J 0, mx_J 1] s1) fun r3 s2 => if r3 = 0 then (some (some (mx_I (-1000001)), s2)) else (mx_g none x1 2 fun j4 => if (s2 0 51 j4) = 0 then (some (some (mx_I (-1000002)), s2)) else (mx_H 181 21 [some (mx_R 0 39), some (mx_I x1), some (mx_I 0)] s2)) := (mx_sem_eq 181 _ s).trans rfl
set_option maxRecDepth 100000 in
set_option maxHeartbeats 4000000 in
theorem e_M_restore_21 (x1 x2 : Int32) (s : mx_S) : mx_H 181 21 [some (mx_R 0 39), some (mx_I x1), some (mx_I x2)] s = if 80 ≤ x2 then (mx_H 181 41 [some (mx_R 0 39), some (mx_I x1), some (mx_I 0)] s) else (mx_g none ((((80 : Int32)) * x1) + x2) 160 fun j1 => mx_g none x2 80 fun j2 => mx_w (mx_up s 0 43 j2 (s 0 52 j1)) fun s3 => mx_H 181 21 [some (mx_R 0 39), some (mx_I x1), some (mx_I (x2 + 1))] s3) := (mx_H_eq 181 21 _ s).trans rfl
set_option maxRecDepth 100000 in
set_option maxHeartbeats 4000000 in
theorem e_M_restore_41 (x1 x2 : Int32) (s : mx_S) : mx_H 181 41 [some (mx_R 0 39), some (mx_I x1), some (mx_I x2)] s = if 421 ≤ x2 then (mx_bV none (mx_sem 173 [mx_R 0 39] s) fun s1 => some (some (mx_I 1), s1)) else (mx_g none ((((421 : Int32)) * x1) + x2) 842 fun j2 => mx_g none x2 421 fun j3 => mx_w (mx_up s 0 45 j3 (s 0 53 j2)) fun s4 => mx_H 181 41 [some (mx_R 0 39), some (mx_I x1), some (mx_I (x2 + 1))] s4) := (mx_H_eq 181 41 _ s).trans rfl
set_option maxRecDepth 100000 in
set_option maxHeartbeats 4000000 in
theorem e_M_room (x1 x2 : Int32) (s : mx_S) : mx_sem 182 [mx_R 0 39, mx_I x1, mx_I x2] s = mx_w (mx_up s 0 39 0 0) fun s1 => mx_bI none (mx_sem 152 [mx_R 0 39, mx_I x1] s1) fun r3 s2 => if r3 = 0 then (some (some (mx_I (-1000001)), s2)) else (mx_bI none (mx_sem 115 [mx_J (x2.toInt64), mx_J 0, mx_J 1] s2) fun r5 s4 => if r5 = 0 then (some (some (mx_I (-1000001)), s4)) else (if x2 = 0 then (mx_g none (((7 : Int32)) + x1) 80 fun j8 => some (some (mx_I (s4 0 43 j8)), s4)) else (mx_bI none (mx_sem 135 [mx_R 0 39, mx_R 0 45, mx_I x1] s4) fun r7 s6 => some (some (mx_I r7), s6)))) := (mx_sem_eq 182 _ s).trans rfl
set_option maxRecDepth 100000 in
set_option maxHeartbeats 4000000 in
theorem e_M_row (x1 x2 x3 : Int32) (s : mx_S) : mx_sem 183 [mx_R 0 39, mx_I x1, mx_I x2, mx_I x3] s = mx_w (mx_up s 0 39 0 0) fun s1 => mx_bI none (mx_sem 149 [mx_I x1] s1) fun r3 s2 => if r3 = 0 then (some (some (mx_I (-1000001)), s2)) else (mx_bI none (mx_sem 115 [mx_J (x2.toInt64), mx_J 0, mx_J 2] s2) fun r5 s4 => if r5 = 0 then (some (some (mx_I (-1000001)), s4)) else (if x3 ≤ 40 then (mx_w (mx_up s4 0 39 1 0) fun s6 => if 0 ≤ x3 then (mx_g none x1 8 fun j7 => mx_w (mx_up s6 0 40 j7 x2) fun s8 => mx_g none x1 8 fun j9 => mx_w (mx_up s8 0 41 j9 x3) fun s10 => mx_H 183 39 [some (mx_R 0 39), some (mx_I x1), none, some (mx_I x3), some (mx_I 0)] s10) else (mx_bI none (mx_sem 119 [mx_R 0 39, mx_I 4] s6) fun r12 s11 => some (some (mx_I r12), s11))) else (some (some (mx_I (-1000001)), s4)))) := (mx_sem_eq 183 _ s).trans rfl
set_option maxRecDepth 100000 in
set_option maxHeartbeats 4000000 in
theorem e_M_row_39 (x1 x3 x4 : Int32) (s : mx_S) : mx_H 183 39 [some (mx_R 0 39), some (mx_I x1), none, some (mx_I x3), some (mx_I x4)] s = if 40 ≤ x4 then (some (some (mx_I x3), s)) else (mx_g none ((((40 : Int32)) * x1) + x4) 320 fun j1 => mx_w (mx_up s 0 42 j1 0) fun s2 => mx_H 183 39 [some (mx_R 0 39), some (mx_I x1), none, some (mx_I x3), some (mx_I (x4 + 1))] s2) := (mx_H_eq 183 39 _ s).trans rfl
set_option maxRecDepth 100000 in
set_option maxHeartbeats 4000000 in
theorem e_M_rule (x1 x2 : Int32) (s : mx_S) : mx_sem 184 [mx_R 0 39, mx_I x1, mx_I x2] s = mx_w (mx_up s 0 39 0 0) fun s1 => if (s1 0 39 7) = 0 then (some (some (mx_I (-1000002)), s1)) else (mx_bI none (mx_sem 115 [mx_J (x1.toInt64), mx_J 1, mx_J 20] s1) fun r3 s2 => if r3 = 0 then (some (some (mx_I (-1000001)), s2)) else (mx_bI none (mx_sem 115 [mx_J (x2.toInt64), mx_J 0, mx_J 20] s2) fun r5 s4 => if r5 = 0 then (some (some (mx_I (-1000001)), s4)) else (mx_g none 0 80 fun j6 => mx_w (mx_up s4 0 43 j6 x1) fun s7 => mx_g none 1 80 fun j8 => mx_w (mx_up s7 0 43 j8 x2) fun s9 => some (some (mx_I 1), s9)))) := (mx_sem_eq 184 _ s).trans rfl
set_option maxRecDepth 100000 in
set_option maxHeartbeats 4000000 in
theorem e_M_seen (x1 x2 : Int32) (s : mx_S) : mx_sem 185 [mx_R 0 39, mx_I x1, mx_I x2] s = mx_w (mx_up s 0 39 0 0) fun s1 => if (s1 0 39 7) = 0 then (some (some (mx_I (-1000002)), s1)) else (mx_bI none (mx_sem 147 [mx_I x1] s1) fun r3 s2 => if r3 = 0 then (some (some (mx_I (-1000001)), s2)) else (mx_bI none (mx_sem 115 [mx_J (x2.toInt64), mx_J 0, mx_J 2] s2) fun r5 s4 => if r5 = 0 then (some (some (mx_I (-1000001)), s4)) else (mx_bI none (mx_sem 145 [mx_R 0 39, mx_I x1, mx_I x2] s4) fun r7 s6 => some (some (mx_I r7), s6)))) := (mx_sem_eq 185 _ s).trans rfl
set_option maxRecDepth 100000 in
set_option maxHeartbeats 4000000 in
theorem e_M_set (x1 x2 x3 : Int32) (s : mx_S) : mx_sem 186 [mx_R 0 39, mx_I x1, mx_I x2, mx_I x3] s = mx_w (mx_up s 0 39 0 0) fun s1 => mx_bI none (mx_sem 149 [mx_I x1] s1) fun r3 s2 => if r3 = 0 then (some (some (mx_I (-1000001)), s2)) else (mx_w (mx_up s2 0 39 1 0) fun s4 => mx_g none x1 8 fun j5 => if 0 ≤ (s4 0 40 j5) then (mx_g none x1 8 fun j6 => mx_bI none (mx_sem 115 [mx_J (x2.toInt64), mx_J 0, mx_J (((s4 0 41 j6) - 1).toInt64)] s4) fun r8 s7 => if r8 = 0 then (mx_bI none (mx_sem 119 [mx_R 0 39, mx_I 2] s7) fun r21 s20 => some (some (mx_I r21), s20)) else (mx_g none x1 8 fun j9 => if (s7 0 40 j9) = 0 then (mx_g none ((((40 : Int32)) * x1) + x2) 320 fun j17 => mx_w (mx_up s7 0 42 j17 (x3.toInt8.toInt32)) fun s18 => mx_g none ((((40 : Int32)) * x1) + x2) 320 fun j19 => some (some (mx_I (s18 0 42 j19)), s18)) else (mx_g none x1 8 fun j10 => if (s7 0 40 j10) = 1 then (mx_g none ((((40 : Int32)) * x1) + x2) 320 fun j14 => mx_w (mx_up s7 0 42 j14 (x3.toInt16.toInt32)) fun s15 => mx_g none ((((40 : Int32)) * x1) + x2) 320 fun j16 => some (some (mx_I (s15 0 42 j16)), s15)) else (mx_g none ((((40 : Int32)) * x1) + x2) 320 fun j11 => mx_w (mx_up s7 0 42 j11 x3) fun s12 => mx_g none ((((40 : Int32)) * x1) + x2) 320 fun j13 => some (some (mx_I (s12 0 42 j13)), s12))))) else (mx_bI none (mx_sem 119 [mx_R 0 39, mx_I 1] s4) fun r23 s22 => some (some (mx_I r23), s22))) := (mx_sem_eq 186 _ s).trans rfl
set_option maxRecDepth 100000 in
set_option maxHeartbeats 4000000 in
theorem e_M_status (s : mx_S) : mx_sem 187 [mx_R 0 39] s = mx_w (mx_up s 0 39 0 0) fun s1 => some (some (mx_I (s1 0 39 1)), s1) := (mx_sem_eq 187 _ s).trans rfl
set_option maxRecDepth 100000 in
set_option maxHeartbeats 4000000 in
theorem e_M_tickets (x1 x2 : Int32) (s : mx_S) : mx_sem 188 [mx_R 0 39, mx_I x1, mx_I x2] s = mx_w (mx_up s 0 39 0 0) fun s1 => mx_g none 5 80 fun j2 => mx_bI none (mx_sem 115 [mx_J (x1.toInt64), mx_J 0, mx_J (((s1 0 43 j2) - 1).toInt64)] s1) fun r4 s3 => if r4 = 0 then (some (some (mx_I (-1000001)), s3)) else (mx_bI none (mx_sem 147 [mx_I x2] s3) fun r6 s5 => if r6 = 0 then (some (some (mx_I (-1000001)), s5)) else (mx_bI none (mx_sem 146 [mx_R 0 39, mx_I ((((56 : Int32)) + (((4 : Int32)) * x1)) + 1), mx_I 0, mx_I 60, mx_I x2, mx_I 0] s5) fun r8 s7 => some (some (mx_I r8), s7))) := (mx_sem_eq 188 _ s).trans rfl
set_option maxRecDepth 100000 in
set_option maxHeartbeats 4000000 in
theorem e_M_trace (x1 : Int32) (s : mx_S) : mx_sem 189 [mx_R 0 39, mx_I x1] s = mx_w (mx_up s 0 39 0 0) fun s1 => mx_bI none (mx_sem 115 [mx_J (x1.toInt64), mx_J 0, mx_J (((s1 0 39 32) - 1).toInt64)] s1) fun r3 s2 => if r3 = 0 then (some (some (mx_I (-1000000)), s2)) else (mx_g none x1 16 fun j4 => some (some (mx_I (s2 0 54 j4)), s2)) := (mx_sem_eq 189 _ s).trans rfl
set_option maxRecDepth 100000 in
set_option maxHeartbeats 4000000 in
theorem e_M_visitor (x1 x2 : Int32) (s : mx_S) : mx_sem 190 [mx_R 0 39, mx_I x1, mx_I x2] s = mx_w (mx_up s 0 39 0 0) fun s1 => mx_bI none (mx_sem 116 [mx_R 0 39, mx_I x1] s1) fun r3 s2 => if r3 = 0 then (some (some (mx_I (-1000001)), s2)) else (mx_g none ((((14 : Int32)) * x1) + 0) 421 fun j4 => if 0 ≤ (s2 0 45 j4) then (mx_bI none (mx_sem 114 [mx_R 0 39, mx_R 0 45, mx_I x1] s2) fun r6 s5 => if x2 = Int32.ofNat 0 then (mx_bI none (mx_sem 110 [mx_R 0 39, mx_I x1] s5) fun r8 s7 => some (some (mx_I r8), s7)) else if x2 = Int32.ofNat 1 then (if 0 ≤ (s2 0 45 j4) then (some (some (mx_I (s2 0 45 j4)), s5)) else (some (some (mx_I (-1000000)), s5))) else if x2 = Int32.ofNat 2 then (if (s2 0 45 j4) = (-2) then (some (some (mx_I 1), s5)) else (some (some (mx_I 0), s5))) else if x2 = Int32.ofNat 3 then (mx_g none (((((14 : Int32)) * x1) + x2) - 2) 421 fun j9 => some (some (mx_I (s5 0 45 j9)), s5)) else if x2 = Int32.ofNat 4 then (mx_g none (((((14 : Int32)) * x1) + x2) - 2) 421 fun j10 => some (some (mx_I (s5 0 45 j10)), s5)) else if x2 = Int32.ofNat 5 then (mx_g none (((((14 : Int32)) * x1) + x2) - 2) 421 fun j11 => some (some (mx_I (s5 0 45 j11)), s5)) else if x2 = Int32.ofNat 6 then (mx_g none (((((14 : Int32)) * x1) + x2) - 2) 421 fun j12 => some (some (mx_I (s5 0 45 j12)), s5)) else if x2 = Int32.ofNat 7 then (some (some (mx_I r6), s5)) else if x2 = Int32.ofNat 8 then (if r6 = (-1000000) then (some (some (mx_I 0), s5)) else (mx_g none (((((14 : Int32)) * x1) + 6) + r6) 421 fun j13 => some (some (mx_I (s5 0 45 j13)), s5))) else (some (some (mx_I (-1000001)), s5))) else (if x2 = Int32.ofNat 0 then (mx_bI none (mx_sem 110 [mx_R 0 39, mx_I x1] s2) fun r15 s14 => some (some (mx_I r15), s14)) else if x2 = Int32.ofNat 1 then (if 0 ≤ (s2 0 45 j4) then (some (some (mx_I (s2 0 45 j4)), s2)) else (some (some (mx_I (-1000000)), s2))) else if x2 = Int32.ofNat 2 then (if (s2 0 45 j4) = (-2) then (some (some (mx_I 1), s2)) else (some (some (mx_I 0), s2))) else if x2 = Int32.ofNat 3 then (mx_g none (((((14 : Int32)) * x1) + x2) - 2) 421 fun j16 => some (some (mx_I (s2 0 45 j16)), s2)) else if x2 = Int32.ofNat 4 then (mx_g none (((((14 : Int32)) * x1) + x2) - 2) 421 fun j17 => some (some (mx_I (s2 0 45 j17)), s2)) else if x2 = Int32.ofNat 5 then (mx_g none (((((14 : Int32)) * x1) + x2) - 2) 421 fun j18 => some (some (mx_I (s2 0 45 j18)), s2)) else if x2 = Int32.ofNat 6 then (mx_g none (((((14 : Int32)) * x1) + x2) - 2) 421 fun j19 => some (some (mx_I (s2 0 45 j19)), s2)) else if x2 = Int32.ofNat 7 then (some (some (mx_I (-1000000)), s2)) else if x2 = Int32.ofNat 8 then (some (some (mx_I 0), s2)) else (some (some (mx_I (-1000001)), s2)))) := (mx_sem_eq 190 _ s).trans rfl
end
section
/-! ===== numbers ===== -/
theorem q_lit (n : Nat) : (OfNat.ofNat n : Int32) = nI (OfNat.ofNat n) := rfl
theorem q_litL (n : Nat) : (OfNat.ofNat n : Int64) = lN (OfNat.ofNat n) := rfl
theorem q_lt (a b : Int32) : a < b ↔ a.toInt < b.toInt := Int32.lt_iff_toInt_lt
theorem q_le (a b : Int32) : a ≤ b ↔ a.toInt ≤ b.toInt := Int32.le_iff_toInt_le
theorem q_eq (a b : Int32) : a = b ↔ a.toInt = b.toInt := Int32.toInt_inj.symm
theorem q_ltL (a b : Int64) : a < b ↔ a.toInt < b.toInt := Int64.lt_iff_toInt_lt
theorem q_leL (a b : Int64) : a ≤ b ↔ a.toInt ≤ b.toInt := Int64.le_iff_toInt_le
theorem q_wide (a : Int32) : a.toInt64.toInt = a.toInt := Int32.toInt_toInt64 a
theorem q_toI {n : Nat} (h : n < 2147483648) : (nI n).toInt = (n : Int) := nI_toInt h
theorem q_toL {n : Nat} (h : n < 2147483648) : (lN n).toInt = (n : Int) := lN_toInt h
theorem q_rng (a : Int32) : -2147483648 ≤ a.toInt ∧ a.toInt < 2147483648 := ⟨Int32.le_toInt a, Int32.toInt_lt a⟩
theorem q_of {x : Int32} {n : Nat} (h : x.toInt = (n : Int)) : x = nI n := by
  have := q_rng x
  rw [q_eq, h, q_toI (by omega)]
theorem q_cl {n : Nat} (h : n < 2147483648) : (nI n).toNatClampNeg = n := nI_clamp h
/-! the machine's words -/
theorem q_g {α : Type} {fl : α} {n N : Nat} {f : Nat → α} (h : n < N) (hN : N ≤ 2147483648) : mx_g fl (nI n) N f = f n := by
  have hn : n < 2147483648 := by omega
  unfold mx_g
  rw [if_neg, q_cl hn]
  rw [q_cl hn, q_lt, q_toI hn, show (0 : Int32).toInt = 0 from rfl]
  omega
theorem q_gx {α : Type} {fl : α} {x : Int32} {N : Nat} {f : Nat → α} {n : Nat} (hx : x = nI n) (h : n < N) (hN : N ≤ 2147483648) : mx_g fl x N f = f n := by
  rw [hx]; exact q_g h hN
theorem q_w {α : Type} (s : mx_S) (f : mx_S → α) : mx_w s f = f s := rfl
theorem q_bI {α : Type} (fl : α) (x : Int32) (σ : mx_S) (f : Int32 → mx_S → α) : mx_bI fl (some (some (Sum.inl x), σ)) f = f x σ := rfl
theorem q_bJ {α : Type} (fl : α) (x : Int64) (σ : mx_S) (f : Int64 → mx_S → α) : mx_bJ fl (some (some (Sum.inr (Sum.inl x)), σ)) f = f x σ := rfl
theorem q_bV {α : Type} (fl : α) (σ : mx_S) (f : mx_S → α) : mx_bV fl (some (none, σ)) f = f σ := rfl
theorem q_d {α : Type} {fl : α} {n : Nat} {f : α} (h : 0 < n) (hN : n < 2147483648) : mx_d fl (nI n) f = f := by
  unfold mx_d
  rw [if_neg]
  rw [q_eq, q_toI hN, show (0 : Int32).toInt = 0 from rfl]
  omega
theorem q_z0 {α : Type} (fl f : α) : mx_z fl 1 0 f = f := rfl
theorem q_z1 {α : Type} (fl f : α) : mx_z fl 1 1 f = f := rfl
theorem q_up {σ : mx_S} {k o j : Nat} {x : Int32} {k' o' j' : Nat} : mx_up σ k o j x k' o' j' = if k' = k ∧ o' = o ∧ j' = j then x else σ k' o' j' := rfl
theorem q_uo {σ : mx_S} {k o j : Nat} {x : Int32} {k' o' : Nat} (h : o' ≠ o) : mx_up σ k o j x k' o' = σ k' o' := mx_up_o (fun q => h (by cases q; rfl))
theorem q_uk {σ : mx_S} {k o j : Nat} {x : Int32} {k' o' : Nat} (h : k' ≠ k) : mx_up σ k o j x k' o' = σ k' o' := mx_up_o (fun q => h (by cases q; rfl))
theorem q_us {σ : mx_S} {k o j : Nat} {x : Int32} : mx_up σ k o j x k o j = x := mx_up_v
theorem q_uj {σ : mx_S} {k o j : Nat} {x : Int32} {j' : Nat} (h : j' ≠ j) : mx_up σ k o j x k o j' = σ k o j' := if_neg (fun q => h q.2.2)
theorem q_add (a b : Nat) : nI a + nI b = nI (a + b) := nI_add a b
theorem q_mul (a b : Nat) : nI a * nI b = nI (a * b) := pk_mul a b
theorem q_sub {a b : Nat} (h : b ≤ a) : nI a - nI b = nI (a - b) := pk_sub h
theorem q_leN {a b : Nat} (ha : a < 2147483648) (hb : b < 2147483648) : nI a ≤ nI b ↔ a ≤ b := nI_leI ha hb
theorem q_ltN {a b : Nat} (ha : a < 2147483648) (hb : b < 2147483648) : nI a < nI b ↔ a < b := nI_ltI ha hb
theorem q_eqN {a b : Nat} (ha : a < 2147483648) (hb : b < 2147483648) : nI a = nI b ↔ a = b := nI_eq ha hb
theorem q_lt0 {a : Nat} (ha : a < 2147483648) : ¬ nI a < 0 := nI_pos ha
theorem q_le0 {a : Nat} (ha : a < 2147483648) : 0 ≤ nI a := nI_pos' ha
/-- any int is below, or not below n, or a place -/
theorem q_ix (x : Int32) {n : Nat} (hn : n < 2147483648) : (x.toInt < 0 ∨ (n : Int) ≤ x.toInt) ∨ ∃ j : Nat, j < n ∧ x = nI j := by
  rcases Int.lt_or_le x.toInt 0 with h | h
  · exact Or.inl (Or.inl h)
  · rcases Int.lt_or_le x.toInt n with h2 | h2
    · refine Or.inr ⟨x.toInt.toNat, by omega, q_of ?_⟩
      omega
    · exact Or.inl (Or.inr h2)
/-! small methods -/
theorem s_below1 (x c : Int32) (n : Nat) (hc : c.toInt = n) (h : x.toInt < 0 ∨ (n : Int) ≤ x.toInt) (s : mx_S) : mx_sem 21 [mx_I x, mx_I c] s = some (some (mx_I 0), s) := by
  rw [e_X_isBelow]
  split
  · rfl
  · rename_i h0
    rw [if_pos]
    rw [q_lt, show (0 : Int32).toInt = 0 from rfl] at h0
    rw [q_le, hc]
    omega
theorem s_below2 (x c : Int32) (n : Nat) (hc : c.toInt = n) (h : 0 ≤ x.toInt) (h2 : x.toInt < n) (s : mx_S) : mx_sem 21 [mx_I x, mx_I c] s = some (some (mx_I 1), s) := by
  rw [e_X_isBelow, if_neg, if_neg]
  · rw [q_le, hc]; omega
  · rw [q_lt, show (0 : Int32).toInt = 0 from rfl]; omega
theorem s_within1 (x a b : Int32) (h : x.toInt < a.toInt ∨ b.toInt < x.toInt) (s : mx_S) : mx_sem 48 [mx_I x, mx_I a, mx_I b] s = some (some (mx_I 0), s) := by
  rw [e_X_isWithin]
  split
  · rfl
  · rename_i h0
    rw [q_lt] at h0
    rw [if_pos]
    rw [q_lt]
    omega
theorem s_within2 (x a b : Int32) (h : a.toInt ≤ x.toInt) (h2 : x.toInt ≤ b.toInt) (s : mx_S) : mx_sem 48 [mx_I x, mx_I a, mx_I b] s = some (some (mx_I 1), s) := by
  rw [e_X_isWithin, if_neg, if_neg]
  · rw [q_lt]; omega
  · rw [q_lt]; omega
theorem q_cmp (x y : Int64) : (lg_cmp x y < 0 ↔ x < y) ∧ (0 < lg_cmp x y ↔ y < x) ∧ (lg_cmp x y = 0 ↔ x = y) ∧ (lg_cmp x y ≤ 0 ↔ x ≤ y) ∧ (0 ≤ lg_cmp x y ↔ y ≤ x) := by
  have e : x = y ↔ x.toInt = y.toInt := Int64.toInt_inj.symm
  unfold lg_cmp
  by_cases h1 : x > y
  · rw [if_pos h1]
    have h1' : y.toInt < x.toInt := (q_ltL _ _).mp h1
    refine ⟨⟨fun h => absurd h (by decide), fun h => ?_⟩, ⟨fun _ => h1, fun _ => by decide⟩, ⟨fun h => absurd h (by decide), fun h => ?_⟩, ⟨fun h => absurd h (by decide), fun h => ?_⟩, ⟨fun _ => ?_, fun _ => by decide⟩⟩
    · rw [q_ltL] at h; omega
    · rw [e] at h; omega
    · rw [q_leL] at h; omega
    · rw [q_leL]; omega
  · rw [if_neg h1]
    have h1' : ¬ y.toInt < x.toInt := fun z => h1 ((q_ltL _ _).mpr z)
    by_cases h2 : x = y
    · rw [if_pos h2]
      subst h2
      refine ⟨⟨fun h => absurd h (by decide), fun h => absurd h h1⟩, ⟨fun h => absurd h (by decide), fun h => absurd h h1⟩, ⟨fun _ => rfl, fun _ => rfl⟩, ⟨fun _ => ?_, fun _ => by decide⟩, ⟨fun _ => ?_, fun _ => by decide⟩⟩
      · rw [q_leL]; omega
      · rw [q_leL]; omega
    · rw [if_neg h2]
      rw [e] at h2
      refine ⟨⟨fun _ => ?_, fun _ => by decide⟩, ⟨fun h => absurd h (by decide), fun h => absurd h h1⟩, ⟨fun h => absurd h (by decide), fun h => absurd (e.mp h) h2⟩, ⟨fun _ => ?_, fun _ => by decide⟩, ⟨fun h => absurd h (by decide), fun h => ?_⟩⟩
      · rw [q_ltL]; omega
      · rw [q_leL]; omega
      · rw [q_leL] at h; omega
theorem s_in1 (w0 w2 w4 : Int64) (h : w0.toInt < w2.toInt ∨ w4.toInt < w0.toInt) (s : mx_S) : mx_sem 115 [mx_J w0, mx_J w2, mx_J w4] s = some (some (mx_I 0), s) := by
  rw [e_M_in]
  split
  · rfl
  · rename_i h0
    rw [(q_cmp _ _).1, q_ltL] at h0
    rw [if_pos]
    rw [(q_cmp _ _).2.1, q_ltL]
    omega
theorem s_in2 (w0 w2 w4 : Int64) (h : w2.toInt ≤ w0.toInt) (h2 : w0.toInt ≤ w4.toInt) (s : mx_S) : mx_sem 115 [mx_J w0, mx_J w2, mx_J w4] s = some (some (mx_I 1), s) := by
  rw [e_M_in, if_neg, if_neg]
  · rw [(q_cmp _ _).2.1, q_ltL]; omega
  · rw [(q_cmp _ _).1, q_ltL]; omega
theorem s_isRow1 (x : Int32) (h : x.toInt < 0 ∨ (8 : Int) ≤ x.toInt) (s : mx_S) : mx_sem 149 [mx_I x] s = some (some (mx_I 0), s) := by
  rw [e_M_isRow, s_in1 _ _ _ (by rw [q_wide, show (0 : Int64).toInt = 0 from rfl, show (7 : Int64).toInt = 7 from rfl]; omega), q_bI]
  rfl
theorem s_isRow2 {j : Nat} (h : j < 8) (s : mx_S) : mx_sem 149 [mx_I (nI j)] s = some (some (mx_I 1), s) := by
  rw [e_M_isRow, s_in2 _ _ _ (by rw [q_wide, q_toI (by omega), show (0 : Int64).toInt = 0 from rfl]; omega) (by rw [q_wide, q_toI (by omega), show (7 : Int64).toInt = 7 from rfl]; omega), q_bI]
  rfl
end
section
/-! ===== rows ===== -/
def mx_fl (s : mx_S) (k o i n : Nat) (x : Int32) : mx_S := fun k' o' j' => if k' = k ∧ o' = o ∧ i ≤ j' ∧ j' < n then x else s k' o' j'
theorem e_J_fill (k o : Nat) (x : Int32) (s : mx_S) (hT : mx_aT o = 1) (hQ : Nat.beq o mx_oQ = false) : mx_sem 18 [mx_R k o, mx_I x] s = mx_H 18 6 [some (mx_R k o), some (mx_I x), some (mx_I 0), some (mx_I (Int32.ofNat (mx_aN o)))] s := by
  refine (mx_sem_eq 18 _ s).trans ?_
  show (match Nat.beq o mx_oQ with | false => (match Nat.beq (mx_aT o) 1 with | true => mx_H 18 6 [some (mx_R k o), some (mx_I x), some (mx_I 0), some (mx_I (Int32.ofNat (mx_aN o)))] s | false => none) | true => none) = _
  rw [hQ, hT]
theorem e_J_fill_6 (k o : Nat) (x i n : Int32) (s : mx_S) (hT : mx_aT o = 1) (hQ : Nat.beq o mx_oQ = false) : mx_H 18 6 [some (mx_R k o), some (mx_I x), some (mx_I i), some (mx_I n)] s = if n ≤ i then some (none, s) else mx_g none i (mx_aN o) fun j => mx_w (mx_up s k o j x) fun s1 => mx_H 18 6 [some (mx_R k o), some (mx_I x), some (mx_I (i + 1)), some (mx_I n)] s1 := by
  refine (mx_H_eq 18 6 _ s).trans ?_
  show (if n ≤ i then some (none, s) else (match Nat.beq o mx_oQ with | false => (match Nat.beq (mx_aT o) 1 with | true => (mx_g none i (mx_aN o) fun j => mx_w (mx_up s k o j x) fun s1 => mx_H 18 6 [some (mx_R k o), some (mx_I x), some (mx_I (i + 1)), some (mx_I n)] s1) | false => none) | true => none)) = _
  rw [hQ, hT]
theorem s_fill_l (k o : Nat) (x : Int32) (hT : mx_aT o = 1) (hQ : Nat.beq o mx_oQ = false) (hN : mx_aN o < 2147483648) : ∀ (d i : Nat) (s : mx_S), i + d = mx_aN o → mx_H 18 6 [some (mx_R k o), some (mx_I x), some (mx_I (nI i)), some (mx_I (nI (mx_aN o)))] s = some (none, mx_fl s k o i (mx_aN o) x) := by
  intro d
  induction d with
  | zero =>
    intro i s h
    rw [e_J_fill_6 _ _ _ _ _ _ hT hQ, if_pos ((q_leN hN (by omega)).mpr (by omega))]
    congr 2
    funext k' o' j'
    unfold mx_fl
    rw [if_neg (by omega)]
  | succ d ih =>
    intro i s h
    rw [e_J_fill_6 _ _ _ _ _ _ hT hQ, if_neg (by rw [q_leN hN (by omega)]; omega), q_g (by omega) (by omega), q_w, nI_1, ih (i + 1) _ (by omega)]
    congr 2
    funext k' o' j'
    unfold mx_fl
    rw [q_up]
    split <;> split <;> (try split) <;> first | rfl | (exfalso; omega)
theorem s_fill (k o : Nat) (x : Int32) (s : mx_S) (hT : mx_aT o = 1) (hQ : Nat.beq o mx_oQ = false) (hN : mx_aN o < 2147483648) : mx_sem 18 [mx_R k o, mx_I x] s = some (none, mx_fl s k o 0 (mx_aN o) x) := by
  rw [e_J_fill _ _ _ _ hT hQ]
  exact s_fill_l k o x hT hQ hN (mx_aN o) 0 s (by omega)
/-! X's cells stand in the store a, M's in the store b -/
def IR (a b : mx_S) : Prop := ∀ r, r < 8 → (∃ n, n ≤ 40 ∧ a r 32 3 = nI n ∧ b 0 41 r = nI n) ∧ (∀ i, i < 40 → b 0 42 (40 * r + i) = a r 33 i) ∧ ((a r 32 1 = 1 ∧ b 0 40 r = -1) ∨ (a r 32 1 = 0 ∧ ∃ l, l < 3 ∧ a r 32 2 = nI l ∧ b 0 40 r = nI l))
def IS (a b : mx_S) : Prop := a 0 28 9 = b 0 39 1
/-- but for rows and finding -/
def kpX (a a' : mx_S) : Prop := ∀ k o j, o < 39 → o ≠ 32 → o ≠ 33 → (o = 28 → j ≠ 9) → a' k o j = a k o j
def kpM (b b' : mx_S) : Prop := ∀ k o j, 39 ≤ o → o ≠ 40 → o ≠ 41 → o ≠ 42 → (o = 39 → 2 ≤ j) → b' k o j = b k o j
theorem q_fl {s : mx_S} {k o i n : Nat} {x : Int32} {k' o' j' : Nat} : mx_fl s k o i n x k' o' j' = if k' = k ∧ o' = o ∧ i ≤ j' ∧ j' < n then x else s k' o' j' := rfl
theorem q_flo {s : mx_S} {k o i n : Nat} {x : Int32} {k' o' : Nat} (h : o' ≠ o) : mx_fl s k o i n x k' o' = s k' o' := by
  funext j'
  rw [q_fl, if_neg (fun q => h q.2.1)]
theorem kpX_rf {a : mx_S} : kpX a a := fun _ _ _ _ _ _ _ => rfl
theorem kpM_rf {b : mx_S} : kpM b b := fun _ _ _ _ _ _ _ _ => rfl
theorem kpX_up {a a' : mx_S} {k o j : Nat} {x : Int32} (h : kpX a a') (hb : 39 ≤ o ∨ o = 32 ∨ o = 33 ∨ (o = 28 ∧ j = 9)) : kpX a (mx_up a' k o j x) := by
  intro k' o' j' h1 h2 h3 h4
  rw [q_up, if_neg]
  · exact h k' o' j' h1 h2 h3 h4
  · rintro ⟨-, rfl, rfl⟩
    rcases hb with e | e | e | ⟨e, e2⟩
    · omega
    · exact h2 e
    · exact h3 e
    · exact h4 e e2
theorem kpX_fl {a a' : mx_S} {k o i n : Nat} {x : Int32} (h : kpX a a') (hb : o = 32 ∨ o = 33) : kpX a (mx_fl a' k o i n x) := by
  intro k' o' j' h1 h2 h3 h4
  rw [q_fl, if_neg]
  · exact h k' o' j' h1 h2 h3 h4
  · rintro ⟨-, rfl, -⟩
    omega
theorem kpM_up {b b' : mx_S} {k o j : Nat} {x : Int32} (h : kpM b b') (hb : o < 39 ∨ o = 40 ∨ o = 41 ∨ o = 42 ∨ (o = 39 ∧ j < 2)) : kpM b (mx_up b' k o j x) := by
  intro k' o' j' h1 h2 h3 h4 h5
  rw [q_up, if_neg]
  · exact h k' o' j' h1 h2 h3 h4 h5
  · rintro ⟨-, rfl, rfl⟩
    rcases hb with e | e | e | e | ⟨e, e2⟩
    · omega
    · exact h2 e
    · exact h3 e
    · exact h4 e
    · exact absurd (h5 e) (by omega)
theorem kpM_fl {b b' : mx_S} {k o i n : Nat} {x : Int32} (h : kpM b b') (hb : o = 42) : kpM b (mx_fl b' k o i n x) := by
  intro k' o' j' h1 h2 h3 h4 h5
  rw [q_fl, if_neg]
  · exact h k' o' j' h1 h2 h3 h4 h5
  · rintro ⟨-, rfl, -⟩
    omega
/-- the two answer alike, and behind it P -/
def Alk (P : mx_S → mx_S → Prop) (yX yM : Nat) (as : List mx_V) (a b : mx_S) : Prop := ∃ v a' b', mx_sem yX (mx_R 0 28 :: as) a = some (some (mx_I v), a') ∧ mx_sem yM (mx_R 0 39 :: as) b = some (some (mx_I v), b') ∧ P a' b'
def RowsP (a b : mx_S) : mx_S → mx_S → Prop := fun a' b' => IR a' b' ∧ IS a' b' ∧ kpX a a' ∧ kpM b b'
theorem s_finding (x : Int32) (σ : mx_S) : mx_sem 69 [mx_R 0 28, mx_I x] σ = some (some (mx_I (-1000010 - x)), mx_up σ 0 28 9 x) := e_X_finding x σ
theorem s_unfound (x : Int32) (σ : mx_S) : mx_sem 68 [mx_R 0 28, mx_I x] σ = some (some (mx_I x), mx_up σ 0 28 9 0) := e_X_unfound x σ
theorem s_mfinding (x : Int32) (σ : mx_S) : mx_sem 119 [mx_R 0 39, mx_I x] σ = some (some (mx_I (-1000010 - x)), mx_up σ 0 39 1 x) := e_M_finding x σ
theorem t_drop {a b : mx_S} (hI : IR a b) (hs : IS a b) (x1 : Int32) : Alk (RowsP a b) 84 155 [mx_I x1] a b := by
  rcases q_ix x1 (n := 8) (by decide) with hb | ⟨j, hj, rfl⟩
  · refine ⟨-1000001, a, mx_up b 0 39 0 0, ?_, ?_, ?_, ?_, ?_, ?_⟩
    · rw [e_X_drop, s_below1 x1 8 8 rfl hb, q_bI, if_pos rfl]
    · rw [e_M_drop, q_w, s_isRow1 x1 hb, q_bI, if_pos rfl]
    · intro r hr; simpa [q_up] using hI r hr
    · simpa [IS, q_up] using hs
    · exact kpX_rf
    · exact kpM_up kpM_rf (by omega)
  · have hjI : (nI j).toInt = (j : Int) := q_toI (by omega)
    rcases (hI j hj).2.2 with ⟨hm, hl⟩ | ⟨hm, l, hl3, hl, hl2⟩
    · refine ⟨-1000010 - 1, mx_up a 0 28 9 1, mx_up (mx_up (mx_up b 0 39 0 0) 0 39 1 0) 0 39 1 1, ?_, ?_, ?_, ?_, ?_, ?_⟩
      · rw [e_X_drop, s_below2 (nI j) 8 8 rfl (by omega) (by omega), q_bI, if_neg (by decide), q_g hj (by decide), hm, if_neg (by decide), s_finding, q_bI]
      · rw [e_M_drop, q_w, s_isRow2 hj, q_bI, if_neg (by decide), q_w, q_g hj (by decide), q_uo (by decide), q_uo (by decide), hl, if_neg (by decide), s_mfinding, q_bI]
      · intro r hr; simpa [q_up] using hI r hr
      · simp [IS, q_up]
      · exact kpX_up kpX_rf (by omega)
      · exact kpM_up (kpM_up (kpM_up kpM_rf (by omega)) (by omega)) (by omega)
    · obtain ⟨n, hn, h1, h2⟩ := (hI j hj).1
      refine ⟨nI n, mx_up (mx_up a j 32 1 1) 0 28 9 0, mx_up (mx_up (mx_up b 0 39 0 0) 0 39 1 0) 0 40 j (-1), ?_, ?_, ?_, ?_, ?_, ?_⟩
      · rw [e_X_drop, s_below2 (nI j) 8 8 rfl (by omega) (by omega), q_bI, if_neg (by decide), q_g hj (by decide), hm, if_pos rfl, q_g hj (by decide), q_w, q_g hj (by decide), s_unfound, q_bI, q_uj (by decide), h1]
      · rw [e_M_drop, q_w, s_isRow2 hj, q_bI, if_neg (by decide), q_w, q_g hj (by decide)]
        simp only [q_g hj (show 8 ≤ 2147483648 by decide), q_w]
        simp [q_up, hl2, h2, q_le0 (show l < 2147483648 by omega)]
      · intro r hr
        have h5 := hI r hr
        by_cases e : r = j
        · subst e
          refine ⟨by simpa [q_up] using h5.1, by simpa [q_up] using h5.2.1, Or.inl ?_⟩
          simp [q_up]
        · simpa [q_up, e] using h5
      · simp [IS, q_up]
      · exact kpX_up (kpX_up kpX_rf (by omega)) (by omega)
      · exact kpM_up (kpM_up (kpM_up kpM_rf (by omega)) (by omega)) (by omega)
theorem t_status {a b : mx_S} (hI : IR a b) (hs : IS a b) : Alk (RowsP a b) 106 187 [] a b := by
  refine ⟨a 0 28 9, a, mx_up b 0 39 0 0, e_X_status a, ?_, ?_, ?_, kpX_rf, kpM_up kpM_rf (by omega)⟩
  · rw [e_M_status, q_w, q_uj (by decide), show a 0 28 9 = b 0 39 1 from hs]
  · intro r hr; simpa [q_up] using hI r hr
  · simpa [IS, q_up] using hs
theorem s_mrow_l (r : Nat) (hr : r < 8) (x : Int32) : ∀ (d i : Nat) (s : mx_S), i + d = 40 → mx_H 183 39 [some (mx_R 0 39), some (mx_I (nI r)), none, some (mx_I x), some (mx_I (nI i))] s = some (some (mx_I x), mx_fl s 0 42 (40 * r + i) (40 * r + 40) 0) := by
  intro d
  induction d with
  | zero =>
    intro i s h
    have : i = 40 := by omega
    subst this
    rw [e_M_row_39, if_pos (by decide)]
    congr 2
    funext k' o' j'
    rw [q_fl, if_neg (by omega)]
  | succ d ih =>
    intro i s h
    rw [e_M_row_39, if_neg (by rw [q_lit, q_leN (by decide) (by omega)]; omega)]
    rw [q_gx (n := 40 * r + i) (by rw [q_lit, q_mul, q_add]) (by omega) (by decide), q_w, nI_1, ih (i + 1) _ (by omega)]
    congr 2
    funext k' o' j'
    rw [q_fl, q_fl, q_up]
    split <;> split <;> (try split) <;> first | rfl | (exfalso; omega)
theorem t_row {a b : mx_S} (hI : IR a b) (hs : IS a b) (x1 x2 x3 : Int32) : Alk (RowsP a b) 101 183 [mx_I x1, mx_I x2, mx_I x3] a b := by
  have hbad : IR a (mx_up b 0 39 0 0) ∧ IS a (mx_up b 0 39 0 0) := ⟨fun r hr => by simpa [q_up] using hI r hr, by simpa [IS, q_up] using hs⟩
  rcases q_ix x1 (n := 8) (by decide) with hb | ⟨j, hj, rfl⟩
  · refine ⟨-1000001, a, mx_up b 0 39 0 0, ?_, ?_, hbad.1, hbad.2, kpX_rf, kpM_up kpM_rf (by omega)⟩
    · rw [e_X_row, s_below1 x1 8 8 rfl hb, q_bI, if_pos rfl]
    · rw [e_M_row, q_w, s_isRow1 x1 hb, q_bI, if_pos rfl]
  have hjI : (nI j).toInt = (j : Int) := q_toI (by omega)
  rcases q_ix x2 (n := 3) (by decide) with hb | ⟨l, hl, rfl⟩
  · refine ⟨-1000001, a, mx_up b 0 39 0 0, ?_, ?_, hbad.1, hbad.2, kpX_rf, kpM_up kpM_rf (by omega)⟩
    · rw [e_X_row, s_below2 (nI j) 8 8 rfl (by omega) (by omega), q_bI, if_neg (by decide), s_below1 x2 3 3 rfl hb, q_bI, if_pos rfl]
    · rw [e_M_row, q_w, s_isRow2 hj, q_bI, if_neg (by decide), s_in1 _ _ _ (by rw [q_wide, show (0 : Int64).toInt = 0 from rfl, show (2 : Int64).toInt = 2 from rfl]; omega), q_bI, if_pos rfl]
  have hlI : (nI l).toInt = (l : Int) := q_toI (by omega)
  have hX0 := e_X_row (nI j) (nI l) x3 a
  rw [s_below2 (nI j) 8 8 rfl (by omega) (by omega), q_bI, if_neg (by decide), s_below2 (nI l) 3 3 rfl (by omega) (by omega), q_bI, if_neg (by decide)] at hX0
  have hM0 := e_M_row (nI j) (nI l) x3 b
  rw [q_w, s_isRow2 hj, q_bI, if_neg (by decide), s_in2 _ _ _ (by rw [q_wide, show (0 : Int64).toInt = 0 from rfl]; omega) (by rw [q_wide, show (2 : Int64).toInt = 2 from rfl]; omega), q_bI, if_neg (by decide)] at hM0
  by_cases h40 : x3 ≤ 40
  · rw [if_pos h40] at hX0 hM0
    rw [q_w] at hM0
    by_cases h0 : 0 ≤ x3
    · rw [if_pos h0] at hX0 hM0
      obtain ⟨n, hn, rfl⟩ : ∃ n, n ≤ 40 ∧ x3 = nI n := by
        rw [q_le] at h40 h0
        have e1 : (40 : Int32).toInt = 40 := rfl
        have e2 : (0 : Int32).toInt = 0 := rfl
        exact ⟨x3.toInt.toNat, by omega, q_of (by omega)⟩
      rw [q_g hj (by decide), e_Y_make, q_w, q_w, q_w, s_fill j 33 0 _ (by decide) (by decide) (by decide), q_bV, q_bV, s_unfound, q_bI] at hX0
      rw [q_g hj (by decide), q_w, q_g hj (by decide), q_w] at hM0
      have hM1 := hM0.trans (s_mrow_l j hj (nI n) 40 0 _ (by omega))
      refine ⟨nI n, _, _, hX0, hM1, ?_, ?_, ?_, ?_⟩
      · intro r hr
        have h5 := hI r hr
        by_cases e : r = j
        · subst e
          refine ⟨⟨n, hn, by simp [q_up, q_fl], by simp [q_up, q_fl]⟩, fun i hi => ?_, Or.inr ⟨by simp [q_up, q_fl], l, hl, by simp [q_up, q_fl], by simp [q_up, q_fl]⟩⟩
          rw [q_fl, if_pos (by omega), q_up, if_neg (by omega), q_fl, if_pos ⟨rfl, rfl, by omega, by show i < 40; exact hi⟩]
        · refine ⟨by simpa [q_up, q_fl, e] using h5.1, fun i hi => ?_, by simpa [q_up, q_fl, e] using h5.2.2⟩
          rw [q_fl, if_neg (by omega)]
          simpa [q_up, q_fl, e] using h5.2.1 i hi
      · simp [IS, q_up, q_fl]
      · exact kpX_up (kpX_fl (kpX_up (kpX_up (kpX_up kpX_rf (by omega)) (by omega)) (by omega)) (by omega)) (by omega)
      · exact kpM_fl (kpM_up (kpM_up (kpM_up (kpM_up kpM_rf (by omega)) (by omega)) (by omega)) (by omega)) rfl
    · rw [if_neg h0, s_finding, q_bI] at hX0
      rw [if_neg h0, s_mfinding, q_bI] at hM0
      refine ⟨_, _, _, hX0, hM0, fun r hr => by simpa [q_up] using hI r hr, by simp [IS, q_up], kpX_up kpX_rf (by omega), kpM_up (kpM_up (kpM_up kpM_rf (by omega)) (by omega)) (by omega)⟩
  · rw [if_neg h40] at hX0 hM0
    exact ⟨_, _, _, hX0, hM0, hbad.1, hbad.2, kpX_rf, kpM_up kpM_rf (by omega)⟩
end
