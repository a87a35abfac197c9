section
def lw_okq (q : MethodName × Nat) : Prop := (q.1.cls ≠ "java/lang/invoke/MethodHandle" ∧ q.1.cls ≠ "java/lang/invoke/VarHandle") ∧ Cond.instantiable q.1.cls q.2 ∈ tables_1 ∧ Cond.privateMethod q.1 ∈ tables_1 ∧ Cond.instanceMethod q.1 ∈ tables_1
theorem lw_p0 : lw_okq (⟨"RailOfHeads", "finding", "(I)I"⟩, 10) := ⟨⟨by decide +kernel, by decide +kernel⟩, List.mem_of_getElem? (i := 19) (by decide +kernel), List.mem_of_getElem? (i := 345) (by decide +kernel), List.mem_of_getElem? (i := 346) (by decide +kernel)⟩
theorem lw_p1 : lw_okq (⟨"RailOfHeads", "unfound", "(I)I"⟩, 10) := ⟨⟨by decide +kernel, by decide +kernel⟩, List.mem_of_getElem? (i := 19) (by decide +kernel), List.mem_of_getElem? (i := 357) (by decide +kernel), List.mem_of_getElem? (i := 358) (by decide +kernel)⟩
theorem lw_p2 : lw_okq (⟨"RailOfHeads$Reader", "advance", "()V"⟩, 8) := ⟨⟨by decide +kernel, by decide +kernel⟩, List.mem_of_getElem? (i := 29) (by decide +kernel), List.mem_of_getElem? (i := 408) (by decide +kernel), List.mem_of_getElem? (i := 409) (by decide +kernel)⟩
theorem lw_p3 : lw_okq (⟨"RailOfHeads$Reader", "passName", "()V"⟩, 8) := ⟨⟨by decide +kernel, by decide +kernel⟩, List.mem_of_getElem? (i := 29) (by decide +kernel), List.mem_of_getElem? (i := 413) (by decide +kernel), List.mem_of_getElem? (i := 414) (by decide +kernel)⟩
theorem lw_p4 : lw_okq (⟨"RailOfHeads$Reader", "passNumber", "()V"⟩, 8) := ⟨⟨by decide +kernel, by decide +kernel⟩, List.mem_of_getElem? (i := 29) (by decide +kernel), List.mem_of_getElem? (i := 417) (by decide +kernel), List.mem_of_getElem? (i := 418) (by decide +kernel)⟩
theorem lw_p5 : lw_okq (⟨"RailOfHeads$Reader", "readRail", "()V"⟩, 8) := ⟨⟨by decide +kernel, by decide +kernel⟩, List.mem_of_getElem? (i := 29) (by decide +kernel), List.mem_of_getElem? (i := 421) (by decide +kernel), List.mem_of_getElem? (i := 422) (by decide +kernel)⟩
theorem lw_p6 : lw_okq (⟨"RailOfHeads$Reader", "takeWord", "(Ljava/lang/String;II)V"⟩, 8) := ⟨⟨by decide +kernel, by decide +kernel⟩, List.mem_of_getElem? (i := 29) (by decide +kernel), List.mem_of_getElem? (i := 426) (by decide +kernel), List.mem_of_getElem? (i := 427) (by decide +kernel)⟩
theorem lw_p7 : lw_okq (⟨"RailOfHeads$Reader", "isWord", "(Ljava/lang/String;)Z"⟩, 8) := ⟨⟨by decide +kernel, by decide +kernel⟩, List.mem_of_getElem? (i := 29) (by decide +kernel), List.mem_of_getElem? (i := 430) (by decide +kernel), List.mem_of_getElem? (i := 431) (by decide +kernel)⟩
theorem lw_p8 : lw_okq (⟨"RailOfHeads$Reader", "takeNumber", "(II)I"⟩, 8) := ⟨⟨by decide +kernel, by decide +kernel⟩, List.mem_of_getElem? (i := 29) (by decide +kernel), List.mem_of_getElem? (i := 482) (by decide +kernel), List.mem_of_getElem? (i := 483) (by decide +kernel)⟩
theorem lw_p9 : lw_okq (⟨"RailOfHeads$Reader", "takeSign", "()V"⟩, 8) := ⟨⟨by decide +kernel, by decide +kernel⟩, List.mem_of_getElem? (i := 29) (by decide +kernel), List.mem_of_getElem? (i := 486) (by decide +kernel), List.mem_of_getElem? (i := 487) (by decide +kernel)⟩
theorem lw_p10 : lw_okq (⟨"RailOfHeads$Reader", "readRooms", "()V"⟩, 8) := ⟨⟨by decide +kernel, by decide +kernel⟩, List.mem_of_getElem? (i := 29) (by decide +kernel), List.mem_of_getElem? (i := 490) (by decide +kernel), List.mem_of_getElem? (i := 491) (by decide +kernel)⟩
theorem lw_p11 : lw_okq (⟨"RailOfHeads$Reader", "readDoors", "()V"⟩, 8) := ⟨⟨by decide +kernel, by decide +kernel⟩, List.mem_of_getElem? (i := 29) (by decide +kernel), List.mem_of_getElem? (i := 499) (by decide +kernel), List.mem_of_getElem? (i := 500) (by decide +kernel)⟩
theorem lw_p12 : lw_okq (⟨"RailOfHeads$Reader", "readPictures", "()V"⟩, 8) := ⟨⟨by decide +kernel, by decide +kernel⟩, List.mem_of_getElem? (i := 29) (by decide +kernel), List.mem_of_getElem? (i := 509) (by decide +kernel), List.mem_of_getElem? (i := 510) (by decide +kernel)⟩
theorem lw_p13 : lw_okq (⟨"RailOfHeads$Reader", "readGroups", "()V"⟩, 8) := ⟨⟨by decide +kernel, by decide +kernel⟩, List.mem_of_getElem? (i := 29) (by decide +kernel), List.mem_of_getElem? (i := 518) (by decide +kernel), List.mem_of_getElem? (i := 519) (by decide +kernel)⟩
theorem lw_p14 : lw_okq (⟨"RailOfHeads$Reader", "takeLaw", "()I"⟩, 8) := ⟨⟨by decide +kernel, by decide +kernel⟩, List.mem_of_getElem? (i := 29) (by decide +kernel), List.mem_of_getElem? (i := 526) (by decide +kernel), List.mem_of_getElem? (i := 527) (by decide +kernel)⟩
theorem lw_p15 : lw_okq (⟨"RailOfHeads$Ways", "openDoors", "(LRailOfHeads$Plan;)V"⟩, 2) := ⟨⟨by decide +kernel, by decide +kernel⟩, List.mem_of_getElem? (i := 169) (by decide +kernel), List.mem_of_getElem? (i := 556) (by decide +kernel), List.mem_of_getElem? (i := 557) (by decide +kernel)⟩
def lw_privs_1 : List (MethodName × Nat) := [(⟨"RailOfHeads", "finding", "(I)I"⟩, 10), (⟨"RailOfHeads", "unfound", "(I)I"⟩, 10), (⟨"RailOfHeads$Reader", "advance", "()V"⟩, 8), (⟨"RailOfHeads$Reader", "passName", "()V"⟩, 8), (⟨"RailOfHeads$Reader", "passNumber", "()V"⟩, 8), (⟨"RailOfHeads$Reader", "readRail", "()V"⟩, 8), (⟨"RailOfHeads$Reader", "takeWord", "(Ljava/lang/String;II)V"⟩, 8), (⟨"RailOfHeads$Reader", "isWord", "(Ljava/lang/String;)Z"⟩, 8), (⟨"RailOfHeads$Reader", "takeNumber", "(II)I"⟩, 8), (⟨"RailOfHeads$Reader", "takeSign", "()V"⟩, 8), (⟨"RailOfHeads$Reader", "readRooms", "()V"⟩, 8), (⟨"RailOfHeads$Reader", "readDoors", "()V"⟩, 8), (⟨"RailOfHeads$Reader", "readPictures", "()V"⟩, 8), (⟨"RailOfHeads$Reader", "readGroups", "()V"⟩, 8), (⟨"RailOfHeads$Reader", "takeLaw", "()I"⟩, 8), (⟨"RailOfHeads$Ways", "openDoors", "(LRailOfHeads$Plan;)V"⟩, 2)]
theorem lw_r1 : ∀ q ∈ lw_privs_1, lw_okq q := List.forall_mem_cons.mpr ⟨lw_p0, List.forall_mem_cons.mpr ⟨lw_p1, List.forall_mem_cons.mpr ⟨lw_p2, List.forall_mem_cons.mpr ⟨lw_p3, List.forall_mem_cons.mpr ⟨lw_p4, List.forall_mem_cons.mpr ⟨lw_p5, List.forall_mem_cons.mpr ⟨lw_p6, List.forall_mem_cons.mpr ⟨lw_p7, List.forall_mem_cons.mpr ⟨lw_p8, List.forall_mem_cons.mpr ⟨lw_p9, List.forall_mem_cons.mpr ⟨lw_p10, List.forall_mem_cons.mpr ⟨lw_p11, List.forall_mem_cons.mpr ⟨lw_p12, List.forall_mem_cons.mpr ⟨lw_p13, List.forall_mem_cons.mpr ⟨lw_p14, List.forall_mem_cons.mpr ⟨lw_p15, fun _ h => absurd h List.not_mem_nil⟩⟩⟩⟩⟩⟩⟩⟩⟩⟩⟩⟩⟩⟩⟩⟩
theorem lw_p16 : lw_okq (⟨"RailOfHeads$Ways", "nextRoom", "(LRailOfHeads$Plan;II)I"⟩, 2) := ⟨⟨by decide +kernel, by decide +kernel⟩, List.mem_of_getElem? (i := 169) (by decide +kernel), List.mem_of_getElem? (i := 562) (by decide +kernel), List.mem_of_getElem? (i := 563) (by decide +kernel)⟩
theorem lw_p17 : lw_okq (⟨"RailOfHeads", "noHouse", "()Z"⟩, 10) := ⟨⟨by decide +kernel, by decide +kernel⟩, List.mem_of_getElem? (i := 19) (by decide +kernel), List.mem_of_getElem? (i := 584) (by decide +kernel), List.mem_of_getElem? (i := 585) (by decide +kernel)⟩
theorem lw_p18 : lw_okq (⟨"RailOfHeads$Crowd", "comeIn", "(I)V"⟩, 15) := ⟨⟨by decide +kernel, by decide +kernel⟩, List.mem_of_getElem? (i := 185) (by decide +kernel), List.mem_of_getElem? (i := 593) (by decide +kernel), List.mem_of_getElem? (i := 594) (by decide +kernel)⟩
theorem lw_p19 : lw_okq (⟨"RailOfHeads$Crowd", "enter", "(II)Z"⟩, 15) := ⟨⟨by decide +kernel, by decide +kernel⟩, List.mem_of_getElem? (i := 185) (by decide +kernel), List.mem_of_getElem? (i := 597) (by decide +kernel), List.mem_of_getElem? (i := 598) (by decide +kernel)⟩
theorem lw_p20 : lw_okq (⟨"RailOfHeads$Crowd", "chooseAim", "(I)I"⟩, 15) := ⟨⟨by decide +kernel, by decide +kernel⟩, List.mem_of_getElem? (i := 185) (by decide +kernel), List.mem_of_getElem? (i := 602) (by decide +kernel), List.mem_of_getElem? (i := 603) (by decide +kernel)⟩
theorem lw_p21 : lw_okq (⟨"RailOfHeads$Crowd", "waitOn", "(I)V"⟩, 15) := ⟨⟨by decide +kernel, by decide +kernel⟩, List.mem_of_getElem? (i := 185) (by decide +kernel), List.mem_of_getElem? (i := 606) (by decide +kernel), List.mem_of_getElem? (i := 607) (by decide +kernel)⟩
theorem lw_p22 : lw_okq (⟨"RailOfHeads$Crowd", "leave", "(I)V"⟩, 15) := ⟨⟨by decide +kernel, by decide +kernel⟩, List.mem_of_getElem? (i := 185) (by decide +kernel), List.mem_of_getElem? (i := 610) (by decide +kernel), List.mem_of_getElem? (i := 611) (by decide +kernel)⟩
theorem lw_p23 : lw_okq (⟨"RailOfHeads$Crowd", "goAbout", "(I)V"⟩, 15) := ⟨⟨by decide +kernel, by decide +kernel⟩, List.mem_of_getElem? (i := 185) (by decide +kernel), List.mem_of_getElem? (i := 614) (by decide +kernel), List.mem_of_getElem? (i := 615) (by decide +kernel)⟩
theorem lw_p24 : lw_okq (⟨"RailOfHeads$Crowd", "lookAt", "(II)V"⟩, 15) := ⟨⟨by decide +kernel, by decide +kernel⟩, List.mem_of_getElem? (i := 185) (by decide +kernel), List.mem_of_getElem? (i := 618) (by decide +kernel), List.mem_of_getElem? (i := 619) (by decide +kernel)⟩
theorem lw_p25 : lw_okq (⟨"RailOfHeads", "noVisitor", "(I)Z"⟩, 10) := ⟨⟨by decide +kernel, by decide +kernel⟩, List.mem_of_getElem? (i := 19) (by decide +kernel), List.mem_of_getElem? (i := 630) (by decide +kernel), List.mem_of_getElem? (i := 631) (by decide +kernel)⟩
theorem lw_p26 : lw_okq (⟨"RailOfHeads", "bestRail", "(II)I"⟩, 10) := ⟨⟨by decide +kernel, by decide +kernel⟩, List.mem_of_getElem? (i := 19) (by decide +kernel), List.mem_of_getElem? (i := 674) (by decide +kernel), List.mem_of_getElem? (i := 675) (by decide +kernel)⟩
theorem lw_p27 : lw_okq (⟨"RailOfHeads", "bestGuard", "(II)I"⟩, 10) := ⟨⟨by decide +kernel, by decide +kernel⟩, List.mem_of_getElem? (i := 19) (by decide +kernel), List.mem_of_getElem? (i := 678) (by decide +kernel), List.mem_of_getElem? (i := 679) (by decide +kernel)⟩
theorem lw_p28 : lw_okq (⟨"RailOfHeads", "hangBest", "(II)I"⟩, 10) := ⟨⟨by decide +kernel, by decide +kernel⟩, List.mem_of_getElem? (i := 19) (by decide +kernel), List.mem_of_getElem? (i := 698) (by decide +kernel), List.mem_of_getElem? (i := 699) (by decide +kernel)⟩
theorem lw_p29 : lw_okq (⟨"RailOfHeads", "hangBy", "(II)Z"⟩, 10) := ⟨⟨by decide +kernel, by decide +kernel⟩, List.mem_of_getElem? (i := 19) (by decide +kernel), List.mem_of_getElem? (i := 702) (by decide +kernel), List.mem_of_getElem? (i := 703) (by decide +kernel)⟩
theorem lw_p30 : lw_okq (⟨"RailOfHeads", "nearestLaw", "(ILRailOfHeads$Row;II)I"⟩, 10) := ⟨⟨by decide +kernel, by decide +kernel⟩, List.mem_of_getElem? (i := 19) (by decide +kernel), List.mem_of_getElem? (i := 717) (by decide +kernel), List.mem_of_getElem? (i := 718) (by decide +kernel)⟩
theorem lw_p31 : lw_okq (⟨"RailOfHeads", "offBy", "(ILRailOfHeads$Row;II)I"⟩, 10) := ⟨⟨by decide +kernel, by decide +kernel⟩, List.mem_of_getElem? (i := 19) (by decide +kernel), List.mem_of_getElem? (i := 722) (by decide +kernel), List.mem_of_getElem? (i := 723) (by decide +kernel)⟩
def lw_privs_2 : List (MethodName × Nat) := [(⟨"RailOfHeads$Ways", "nextRoom", "(LRailOfHeads$Plan;II)I"⟩, 2), (⟨"RailOfHeads", "noHouse", "()Z"⟩, 10), (⟨"RailOfHeads$Crowd", "comeIn", "(I)V"⟩, 15), (⟨"RailOfHeads$Crowd", "enter", "(II)Z"⟩, 15), (⟨"RailOfHeads$Crowd", "chooseAim", "(I)I"⟩, 15), (⟨"RailOfHeads$Crowd", "waitOn", "(I)V"⟩, 15), (⟨"RailOfHeads$Crowd", "leave", "(I)V"⟩, 15), (⟨"RailOfHeads$Crowd", "goAbout", "(I)V"⟩, 15), (⟨"RailOfHeads$Crowd", "lookAt", "(II)V"⟩, 15), (⟨"RailOfHeads", "noVisitor", "(I)Z"⟩, 10), (⟨"RailOfHeads", "bestRail", "(II)I"⟩, 10), (⟨"RailOfHeads", "bestGuard", "(II)I"⟩, 10), (⟨"RailOfHeads", "hangBest", "(II)I"⟩, 10), (⟨"RailOfHeads", "hangBy", "(II)Z"⟩, 10), (⟨"RailOfHeads", "nearestLaw", "(ILRailOfHeads$Row;II)I"⟩, 10), (⟨"RailOfHeads", "offBy", "(ILRailOfHeads$Row;II)I"⟩, 10)]
theorem lw_r2 : ∀ q ∈ lw_privs_2, lw_okq q := List.forall_mem_cons.mpr ⟨lw_p16, List.forall_mem_cons.mpr ⟨lw_p17, List.forall_mem_cons.mpr ⟨lw_p18, List.forall_mem_cons.mpr ⟨lw_p19, List.forall_mem_cons.mpr ⟨lw_p20, List.forall_mem_cons.mpr ⟨lw_p21, List.forall_mem_cons.mpr ⟨lw_p22, List.forall_mem_cons.mpr ⟨lw_p23, List.forall_mem_cons.mpr ⟨lw_p24, List.forall_mem_cons.mpr ⟨lw_p25, List.forall_mem_cons.mpr ⟨lw_p26, List.forall_mem_cons.mpr ⟨lw_p27, List.forall_mem_cons.mpr ⟨lw_p28, List.forall_mem_cons.mpr ⟨lw_p29, List.forall_mem_cons.mpr ⟨lw_p30, List.forall_mem_cons.mpr ⟨lw_p31, fun _ h => absurd h List.not_mem_nil⟩⟩⟩⟩⟩⟩⟩⟩⟩⟩⟩⟩⟩⟩⟩⟩
theorem lw_p32 : lw_okq (⟨"RailOfHeads$Asks", "size", "(II)I"⟩, 3) := ⟨⟨by decide +kernel, by decide +kernel⟩, List.mem_of_getElem? (i := 266) (by decide +kernel), List.mem_of_getElem? (i := 763) (by decide +kernel), List.mem_of_getElem? (i := 764) (by decide +kernel)⟩
theorem lw_p33 : lw_okq (⟨"RailOfHeads$Asks", "body11", "(II)I"⟩, 3) := ⟨⟨by decide +kernel, by decide +kernel⟩, List.mem_of_getElem? (i := 266) (by decide +kernel), List.mem_of_getElem? (i := 768) (by decide +kernel), List.mem_of_getElem? (i := 769) (by decide +kernel)⟩
theorem lw_p34 : lw_okq (⟨"RailOfHeads$Asks", "begin", "(I)V"⟩, 3) := ⟨⟨by decide +kernel, by decide +kernel⟩, List.mem_of_getElem? (i := 266) (by decide +kernel), List.mem_of_getElem? (i := 772) (by decide +kernel), List.mem_of_getElem? (i := 773) (by decide +kernel)⟩
theorem lw_p35 : lw_okq (⟨"RailOfHeads$Asks", "body10", "(I)I"⟩, 3) := ⟨⟨by decide +kernel, by decide +kernel⟩, List.mem_of_getElem? (i := 266) (by decide +kernel), List.mem_of_getElem? (i := 776) (by decide +kernel), List.mem_of_getElem? (i := 777) (by decide +kernel)⟩
theorem lw_p36 : lw_okq (⟨"RailOfHeads$Asks", "mark", "(II)I"⟩, 3) := ⟨⟨by decide +kernel, by decide +kernel⟩, List.mem_of_getElem? (i := 266) (by decide +kernel), List.mem_of_getElem? (i := 780) (by decide +kernel), List.mem_of_getElem? (i := 781) (by decide +kernel)⟩
theorem lw_p37 : lw_okq (⟨"RailOfHeads$Asks", "body24", "(I)I"⟩, 3) := ⟨⟨by decide +kernel, by decide +kernel⟩, List.mem_of_getElem? (i := 266) (by decide +kernel), List.mem_of_getElem? (i := 784) (by decide +kernel), List.mem_of_getElem? (i := 785) (by decide +kernel)⟩
theorem lw_p38 : lw_okq (⟨"RailOfHeads$Asks", "body20", "(I)I"⟩, 3) := ⟨⟨by decide +kernel, by decide +kernel⟩, List.mem_of_getElem? (i := 266) (by decide +kernel), List.mem_of_getElem? (i := 788) (by decide +kernel), List.mem_of_getElem? (i := 789) (by decide +kernel)⟩
theorem lw_p39 : lw_okq (⟨"RailOfHeads$Asks", "body21", "(I)I"⟩, 3) := ⟨⟨by decide +kernel, by decide +kernel⟩, List.mem_of_getElem? (i := 266) (by decide +kernel), List.mem_of_getElem? (i := 792) (by decide +kernel), List.mem_of_getElem? (i := 793) (by decide +kernel)⟩
theorem lw_p40 : lw_okq (⟨"RailOfHeads$Asks", "body22", "(I)I"⟩, 3) := ⟨⟨by decide +kernel, by decide +kernel⟩, List.mem_of_getElem? (i := 266) (by decide +kernel), List.mem_of_getElem? (i := 797) (by decide +kernel), List.mem_of_getElem? (i := 798) (by decide +kernel)⟩
theorem lw_p41 : lw_okq (⟨"RailOfHeads$Asks", "body23", "(II)I"⟩, 3) := ⟨⟨by decide +kernel, by decide +kernel⟩, List.mem_of_getElem? (i := 266) (by decide +kernel), List.mem_of_getElem? (i := 801) (by decide +kernel), List.mem_of_getElem? (i := 802) (by decide +kernel)⟩
theorem lw_p42 : lw_okq (⟨"RailOfHeads$Asks", "body12", "(II)I"⟩, 3) := ⟨⟨by decide +kernel, by decide +kernel⟩, List.mem_of_getElem? (i := 266) (by decide +kernel), List.mem_of_getElem? (i := 806) (by decide +kernel), List.mem_of_getElem? (i := 807) (by decide +kernel)⟩
theorem lw_p43 : lw_okq (⟨"RailOfHeads$Asks", "body13", "(I)I"⟩, 3) := ⟨⟨by decide +kernel, by decide +kernel⟩, List.mem_of_getElem? (i := 266) (by decide +kernel), List.mem_of_getElem? (i := 810) (by decide +kernel), List.mem_of_getElem? (i := 811) (by decide +kernel)⟩
theorem lw_p44 : lw_okq (⟨"RailOfHeads$Asks", "body14", "(I)I"⟩, 3) := ⟨⟨by decide +kernel, by decide +kernel⟩, List.mem_of_getElem? (i := 266) (by decide +kernel), List.mem_of_getElem? (i := 814) (by decide +kernel), List.mem_of_getElem? (i := 815) (by decide +kernel)⟩
theorem lw_p45 : lw_okq (⟨"RailOfHeads", "standingRows", "()I"⟩, 10) := ⟨⟨by decide +kernel, by decide +kernel⟩, List.mem_of_getElem? (i := 19) (by decide +kernel), List.mem_of_getElem? (i := 827) (by decide +kernel), List.mem_of_getElem? (i := 828) (by decide +kernel)⟩
theorem lw_p46 : lw_okq (⟨"RailOfHeadsModel", "finding", "(I)I"⟩, 33) := ⟨⟨by decide +kernel, by decide +kernel⟩, List.mem_of_getElem? (i := 835) (by decide +kernel), List.mem_of_getElem? (i := 955) (by decide +kernel), List.mem_of_getElem? (i := 956) (by decide +kernel)⟩
theorem lw_p47 : lw_okq (⟨"RailOfHeadsModel", "begin", "()V"⟩, 33) := ⟨⟨by decide +kernel, by decide +kernel⟩, List.mem_of_getElem? (i := 835) (by decide +kernel), List.mem_of_getElem? (i := 983) (by decide +kernel), List.mem_of_getElem? (i := 984) (by decide +kernel)⟩
def lw_privs_3 : List (MethodName × Nat) := [(⟨"RailOfHeads$Asks", "size", "(II)I"⟩, 3), (⟨"RailOfHeads$Asks", "body11", "(II)I"⟩, 3), (⟨"RailOfHeads$Asks", "begin", "(I)V"⟩, 3), (⟨"RailOfHeads$Asks", "body10", "(I)I"⟩, 3), (⟨"RailOfHeads$Asks", "mark", "(II)I"⟩, 3), (⟨"RailOfHeads$Asks", "body24", "(I)I"⟩, 3), (⟨"RailOfHeads$Asks", "body20", "(I)I"⟩, 3), (⟨"RailOfHeads$Asks", "body21", "(I)I"⟩, 3), (⟨"RailOfHeads$Asks", "body22", "(I)I"⟩, 3), (⟨"RailOfHeads$Asks", "body23", "(II)I"⟩, 3), (⟨"RailOfHeads$Asks", "body12", "(II)I"⟩, 3), (⟨"RailOfHeads$Asks", "body13", "(I)I"⟩, 3), (⟨"RailOfHeads$Asks", "body14", "(I)I"⟩, 3), (⟨"RailOfHeads", "standingRows", "()I"⟩, 10), (⟨"RailOfHeadsModel", "finding", "(I)I"⟩, 33), (⟨"RailOfHeadsModel", "begin", "()V"⟩, 33)]
theorem lw_r3 : ∀ q ∈ lw_privs_3, lw_okq q := List.forall_mem_cons.mpr ⟨lw_p32, List.forall_mem_cons.mpr ⟨lw_p33, List.forall_mem_cons.mpr ⟨lw_p34, List.forall_mem_cons.mpr ⟨lw_p35, List.forall_mem_cons.mpr ⟨lw_p36, List.forall_mem_cons.mpr ⟨lw_p37, List.forall_mem_cons.mpr ⟨lw_p38, List.forall_mem_cons.mpr ⟨lw_p39, List.forall_mem_cons.mpr ⟨lw_p40, List.forall_mem_cons.mpr ⟨lw_p41, List.forall_mem_cons.mpr ⟨lw_p42, List.forall_mem_cons.mpr ⟨lw_p43, List.forall_mem_cons.mpr ⟨lw_p44, List.forall_mem_cons.mpr ⟨lw_p45, List.forall_mem_cons.mpr ⟨lw_p46, List.forall_mem_cons.mpr ⟨lw_p47, fun _ h => absurd h List.not_mem_nil⟩⟩⟩⟩⟩⟩⟩⟩⟩⟩⟩⟩⟩⟩⟩⟩
theorem lw_p48 : lw_okq (⟨"RailOfHeadsModel", "next", "()V"⟩, 33) := ⟨⟨by decide +kernel, by decide +kernel⟩, List.mem_of_getElem? (i := 835) (by decide +kernel), List.mem_of_getElem? (i := 987) (by decide +kernel), List.mem_of_getElem? (i := 988) (by decide +kernel)⟩
theorem lw_p49 : lw_okq (⟨"RailOfHeadsModel", "byteAt", "(I)I"⟩, 33) := ⟨⟨by decide +kernel, by decide +kernel⟩, List.mem_of_getElem? (i := 835) (by decide +kernel), List.mem_of_getElem? (i := 991) (by decide +kernel), List.mem_of_getElem? (i := 992) (by decide +kernel)⟩
theorem lw_p50 : lw_okq (⟨"RailOfHeadsModel", "readRail", "()V"⟩, 33) := ⟨⟨by decide +kernel, by decide +kernel⟩, List.mem_of_getElem? (i := 835) (by decide +kernel), List.mem_of_getElem? (i := 1002) (by decide +kernel), List.mem_of_getElem? (i := 1003) (by decide +kernel)⟩
theorem lw_p51 : lw_okq (⟨"RailOfHeadsModel", "name", "()J"⟩, 33) := ⟨⟨by decide +kernel, by decide +kernel⟩, List.mem_of_getElem? (i := 835) (by decide +kernel), List.mem_of_getElem? (i := 1006) (by decide +kernel), List.mem_of_getElem? (i := 1007) (by decide +kernel)⟩
theorem lw_p52 : lw_okq (⟨"RailOfHeadsModel", "must", "(Z)V"⟩, 33) := ⟨⟨by decide +kernel, by decide +kernel⟩, List.mem_of_getElem? (i := 835) (by decide +kernel), List.mem_of_getElem? (i := 1011) (by decide +kernel), List.mem_of_getElem? (i := 1012) (by decide +kernel)⟩
theorem lw_p53 : lw_okq (⟨"RailOfHeadsModel", "bad", "(I)V"⟩, 33) := ⟨⟨by decide +kernel, by decide +kernel⟩, List.mem_of_getElem? (i := 835) (by decide +kernel), List.mem_of_getElem? (i := 1015) (by decide +kernel), List.mem_of_getElem? (i := 1016) (by decide +kernel)⟩
theorem lw_p54 : lw_okq (⟨"RailOfHeadsModel", "number", "(II)I"⟩, 33) := ⟨⟨by decide +kernel, by decide +kernel⟩, List.mem_of_getElem? (i := 835) (by decide +kernel), List.mem_of_getElem? (i := 1019) (by decide +kernel), List.mem_of_getElem? (i := 1020) (by decide +kernel)⟩
theorem lw_p55 : lw_okq (⟨"RailOfHeadsModel", "figures", "()I"⟩, 33) := ⟨⟨by decide +kernel, by decide +kernel⟩, List.mem_of_getElem? (i := 835) (by decide +kernel), List.mem_of_getElem? (i := 1023) (by decide +kernel), List.mem_of_getElem? (i := 1024) (by decide +kernel)⟩
theorem lw_p56 : lw_okq (⟨"RailOfHeadsModel", "mustEnd", "()V"⟩, 33) := ⟨⟨by decide +kernel, by decide +kernel⟩, List.mem_of_getElem? (i := 835) (by decide +kernel), List.mem_of_getElem? (i := 1027) (by decide +kernel), List.mem_of_getElem? (i := 1028) (by decide +kernel)⟩
theorem lw_p57 : lw_okq (⟨"RailOfHeadsModel", "mustBegin", "(J)V"⟩, 33) := ⟨⟨by decide +kernel, by decide +kernel⟩, List.mem_of_getElem? (i := 835) (by decide +kernel), List.mem_of_getElem? (i := 1032) (by decide +kernel), List.mem_of_getElem? (i := 1033) (by decide +kernel)⟩
theorem lw_p58 : lw_okq (⟨"RailOfHeadsModel", "readRoom", "()V"⟩, 33) := ⟨⟨by decide +kernel, by decide +kernel⟩, List.mem_of_getElem? (i := 835) (by decide +kernel), List.mem_of_getElem? (i := 1036) (by decide +kernel), List.mem_of_getElem? (i := 1037) (by decide +kernel)⟩
theorem lw_p59 : lw_okq (⟨"RailOfHeadsModel", "begins", "(II)V"⟩, 33) := ⟨⟨by decide +kernel, by decide +kernel⟩, List.mem_of_getElem? (i := 835) (by decide +kernel), List.mem_of_getElem? (i := 1040) (by decide +kernel), List.mem_of_getElem? (i := 1041) (by decide +kernel)⟩
theorem lw_p60 : lw_okq (⟨"RailOfHeadsModel", "readDoor", "()V"⟩, 33) := ⟨⟨by decide +kernel, by decide +kernel⟩, List.mem_of_getElem? (i := 835) (by decide +kernel), List.mem_of_getElem? (i := 1045) (by decide +kernel), List.mem_of_getElem? (i := 1046) (by decide +kernel)⟩
theorem lw_p61 : lw_okq (⟨"RailOfHeadsModel", "readPicture", "()V"⟩, 33) := ⟨⟨by decide +kernel, by decide +kernel⟩, List.mem_of_getElem? (i := 835) (by decide +kernel), List.mem_of_getElem? (i := 1051) (by decide +kernel), List.mem_of_getElem? (i := 1052) (by decide +kernel)⟩
theorem lw_p62 : lw_okq (⟨"RailOfHeadsModel", "readGroup", "()V"⟩, 33) := ⟨⟨by decide +kernel, by decide +kernel⟩, List.mem_of_getElem? (i := 835) (by decide +kernel), List.mem_of_getElem? (i := 1056) (by decide +kernel), List.mem_of_getElem? (i := 1057) (by decide +kernel)⟩
theorem lw_p63 : lw_okq (⟨"RailOfHeadsModel", "layFar", "()V"⟩, 33) := ⟨⟨by decide +kernel, by decide +kernel⟩, List.mem_of_getElem? (i := 835) (by decide +kernel), List.mem_of_getElem? (i := 1067) (by decide +kernel), List.mem_of_getElem? (i := 1068) (by decide +kernel)⟩
def lw_privs_4 : List (MethodName × Nat) := [(⟨"RailOfHeadsModel", "next", "()V"⟩, 33), (⟨"RailOfHeadsModel", "byteAt", "(I)I"⟩, 33), (⟨"RailOfHeadsModel", "readRail", "()V"⟩, 33), (⟨"RailOfHeadsModel", "name", "()J"⟩, 33), (⟨"RailOfHeadsModel", "must", "(Z)V"⟩, 33), (⟨"RailOfHeadsModel", "bad", "(I)V"⟩, 33), (⟨"RailOfHeadsModel", "number", "(II)I"⟩, 33), (⟨"RailOfHeadsModel", "figures", "()I"⟩, 33), (⟨"RailOfHeadsModel", "mustEnd", "()V"⟩, 33), (⟨"RailOfHeadsModel", "mustBegin", "(J)V"⟩, 33), (⟨"RailOfHeadsModel", "readRoom", "()V"⟩, 33), (⟨"RailOfHeadsModel", "begins", "(II)V"⟩, 33), (⟨"RailOfHeadsModel", "readDoor", "()V"⟩, 33), (⟨"RailOfHeadsModel", "readPicture", "()V"⟩, 33), (⟨"RailOfHeadsModel", "readGroup", "()V"⟩, 33), (⟨"RailOfHeadsModel", "layFar", "()V"⟩, 33)]
theorem lw_r4 : ∀ q ∈ lw_privs_4, lw_okq q := List.forall_mem_cons.mpr ⟨lw_p48, List.forall_mem_cons.mpr ⟨lw_p49, List.forall_mem_cons.mpr ⟨lw_p50, List.forall_mem_cons.mpr ⟨lw_p51, List.forall_mem_cons.mpr ⟨lw_p52, List.forall_mem_cons.mpr ⟨lw_p53, List.forall_mem_cons.mpr ⟨lw_p54, List.forall_mem_cons.mpr ⟨lw_p55, List.forall_mem_cons.mpr ⟨lw_p56, List.forall_mem_cons.mpr ⟨lw_p57, List.forall_mem_cons.mpr ⟨lw_p58, List.forall_mem_cons.mpr ⟨lw_p59, List.forall_mem_cons.mpr ⟨lw_p60, List.forall_mem_cons.mpr ⟨lw_p61, List.forall_mem_cons.mpr ⟨lw_p62, List.forall_mem_cons.mpr ⟨lw_p63, fun _ h => absurd h List.not_mem_nil⟩⟩⟩⟩⟩⟩⟩⟩⟩⟩⟩⟩⟩⟩⟩⟩
theorem lw_p64 : lw_okq (⟨"RailOfHeadsModel", "leads", "(III)Z"⟩, 33) := ⟨⟨by decide +kernel, by decide +kernel⟩, List.mem_of_getElem? (i := 835) (by decide +kernel), List.mem_of_getElem? (i := 1071) (by decide +kernel), List.mem_of_getElem? (i := 1072) (by decide +kernel)⟩
theorem lw_p65 : lw_okq (⟨"RailOfHeadsModel", "opens", "([I)V"⟩, 33) := ⟨⟨by decide +kernel, by decide +kernel⟩, List.mem_of_getElem? (i := 835) (by decide +kernel), List.mem_of_getElem? (i := 1075) (by decide +kernel), List.mem_of_getElem? (i := 1076) (by decide +kernel)⟩
theorem lw_p66 : lw_okq (⟨"RailOfHeadsModel", "told", "(II)I"⟩, 33) := ⟨⟨by decide +kernel, by decide +kernel⟩, List.mem_of_getElem? (i := 835) (by decide +kernel), List.mem_of_getElem? (i := 1079) (by decide +kernel), List.mem_of_getElem? (i := 1080) (by decide +kernel)⟩
theorem lw_p67 : lw_okq (⟨"RailOfHeadsModel", "groupOf", "(I)I"⟩, 33) := ⟨⟨by decide +kernel, by decide +kernel⟩, List.mem_of_getElem? (i := 835) (by decide +kernel), List.mem_of_getElem? (i := 1083) (by decide +kernel), List.mem_of_getElem? (i := 1084) (by decide +kernel)⟩
theorem lw_p68 : lw_okq (⟨"RailOfHeadsModel", "isRoom", "(I)Z"⟩, 33) := ⟨⟨by decide +kernel, by decide +kernel⟩, List.mem_of_getElem? (i := 835) (by decide +kernel), List.mem_of_getElem? (i := 1095) (by decide +kernel), List.mem_of_getElem? (i := 1096) (by decide +kernel)⟩
theorem lw_p69 : lw_okq (⟨"RailOfHeadsModel", "minute", "([I)V"⟩, 33) := ⟨⟨by decide +kernel, by decide +kernel⟩, List.mem_of_getElem? (i := 835) (by decide +kernel), List.mem_of_getElem? (i := 1105) (by decide +kernel), List.mem_of_getElem? (i := 1106) (by decide +kernel)⟩
theorem lw_p70 : lw_okq (⟨"RailOfHeadsModel", "goes", "([II)V"⟩, 33) := ⟨⟨by decide +kernel, by decide +kernel⟩, List.mem_of_getElem? (i := 835) (by decide +kernel), List.mem_of_getElem? (i := 1109) (by decide +kernel), List.mem_of_getElem? (i := 1110) (by decide +kernel)⟩
theorem lw_p71 : lw_okq (⟨"RailOfHeadsModel", "enters", "([IIII)V"⟩, 33) := ⟨⟨by decide +kernel, by decide +kernel⟩, List.mem_of_getElem? (i := 835) (by decide +kernel), List.mem_of_getElem? (i := 1113) (by decide +kernel), List.mem_of_getElem? (i := 1114) (by decide +kernel)⟩
theorem lw_p72 : lw_okq (⟨"RailOfHeadsModel", "holdsOne", "([II)Z"⟩, 33) := ⟨⟨by decide +kernel, by decide +kernel⟩, List.mem_of_getElem? (i := 835) (by decide +kernel), List.mem_of_getElem? (i := 1117) (by decide +kernel), List.mem_of_getElem? (i := 1118) (by decide +kernel)⟩
theorem lw_p73 : lw_okq (⟨"RailOfHeadsModel", "inRoom", "([II)I"⟩, 33) := ⟨⟨by decide +kernel, by decide +kernel⟩, List.mem_of_getElem? (i := 835) (by decide +kernel), List.mem_of_getElem? (i := 1121) (by decide +kernel), List.mem_of_getElem? (i := 1122) (by decide +kernel)⟩
theorem lw_p74 : lw_okq (⟨"RailOfHeadsModel", "waits", "([III)V"⟩, 33) := ⟨⟨by decide +kernel, by decide +kernel⟩, List.mem_of_getElem? (i := 835) (by decide +kernel), List.mem_of_getElem? (i := 1125) (by decide +kernel), List.mem_of_getElem? (i := 1126) (by decide +kernel)⟩
theorem lw_p75 : lw_okq (⟨"RailOfHeadsModel", "aim", "([II)I"⟩, 33) := ⟨⟨by decide +kernel, by decide +kernel⟩, List.mem_of_getElem? (i := 835) (by decide +kernel), List.mem_of_getElem? (i := 1129) (by decide +kernel), List.mem_of_getElem? (i := 1130) (by decide +kernel)⟩
theorem lw_p76 : lw_okq (⟨"RailOfHeadsModel", "lawNow", "(I)I"⟩, 33) := ⟨⟨by decide +kernel, by decide +kernel⟩, List.mem_of_getElem? (i := 835) (by decide +kernel), List.mem_of_getElem? (i := 1133) (by decide +kernel), List.mem_of_getElem? (i := 1134) (by decide +kernel)⟩
theorem lw_p77 : lw_okq (⟨"RailOfHeadsModel", "isOpen", "([III)Z"⟩, 33) := ⟨⟨by decide +kernel, by decide +kernel⟩, List.mem_of_getElem? (i := 835) (by decide +kernel), List.mem_of_getElem? (i := 1137) (by decide +kernel), List.mem_of_getElem? (i := 1138) (by decide +kernel)⟩
theorem lw_p78 : lw_okq (⟨"RailOfHeadsModel", "looks", "([III)V"⟩, 33) := ⟨⟨by decide +kernel, by decide +kernel⟩, List.mem_of_getElem? (i := 835) (by decide +kernel), List.mem_of_getElem? (i := 1141) (by decide +kernel), List.mem_of_getElem? (i := 1142) (by decide +kernel)⟩
theorem lw_p79 : lw_okq (⟨"RailOfHeadsModel", "nextRoom", "(II)I"⟩, 33) := ⟨⟨by decide +kernel, by decide +kernel⟩, List.mem_of_getElem? (i := 835) (by decide +kernel), List.mem_of_getElem? (i := 1145) (by decide +kernel), List.mem_of_getElem? (i := 1146) (by decide +kernel)⟩
def lw_privs_5 : List (MethodName × Nat) := [(⟨"RailOfHeadsModel", "leads", "(III)Z"⟩, 33), (⟨"RailOfHeadsModel", "opens", "([I)V"⟩, 33), (⟨"RailOfHeadsModel", "told", "(II)I"⟩, 33), (⟨"RailOfHeadsModel", "groupOf", "(I)I"⟩, 33), (⟨"RailOfHeadsModel", "isRoom", "(I)Z"⟩, 33), (⟨"RailOfHeadsModel", "minute", "([I)V"⟩, 33), (⟨"RailOfHeadsModel", "goes", "([II)V"⟩, 33), (⟨"RailOfHeadsModel", "enters", "([IIII)V"⟩, 33), (⟨"RailOfHeadsModel", "holdsOne", "([II)Z"⟩, 33), (⟨"RailOfHeadsModel", "inRoom", "([II)I"⟩, 33), (⟨"RailOfHeadsModel", "waits", "([III)V"⟩, 33), (⟨"RailOfHeadsModel", "aim", "([II)I"⟩, 33), (⟨"RailOfHeadsModel", "lawNow", "(I)I"⟩, 33), (⟨"RailOfHeadsModel", "isOpen", "([III)Z"⟩, 33), (⟨"RailOfHeadsModel", "looks", "([III)V"⟩, 33), (⟨"RailOfHeadsModel", "nextRoom", "(II)I"⟩, 33)]
theorem lw_r5 : ∀ q ∈ lw_privs_5, lw_okq q := List.forall_mem_cons.mpr ⟨lw_p64, List.forall_mem_cons.mpr ⟨lw_p65, List.forall_mem_cons.mpr ⟨lw_p66, List.forall_mem_cons.mpr ⟨lw_p67, List.forall_mem_cons.mpr ⟨lw_p68, List.forall_mem_cons.mpr ⟨lw_p69, List.forall_mem_cons.mpr ⟨lw_p70, List.forall_mem_cons.mpr ⟨lw_p71, List.forall_mem_cons.mpr ⟨lw_p72, List.forall_mem_cons.mpr ⟨lw_p73, List.forall_mem_cons.mpr ⟨lw_p74, List.forall_mem_cons.mpr ⟨lw_p75, List.forall_mem_cons.mpr ⟨lw_p76, List.forall_mem_cons.mpr ⟨lw_p77, List.forall_mem_cons.mpr ⟨lw_p78, List.forall_mem_cons.mpr ⟨lw_p79, fun _ h => absurd h List.not_mem_nil⟩⟩⟩⟩⟩⟩⟩⟩⟩⟩⟩⟩⟩⟩⟩⟩
theorem lw_p80 : lw_okq (⟨"RailOfHeadsModel", "isVisitor", "(I)Z"⟩, 33) := ⟨⟨by decide +kernel, by decide +kernel⟩, List.mem_of_getElem? (i := 835) (by decide +kernel), List.mem_of_getElem? (i := 1158) (by decide +kernel), List.mem_of_getElem? (i := 1159) (by decide +kernel)⟩
theorem lw_p81 : lw_okq (⟨"RailOfHeadsModel", "dayOf", "(II)I"⟩, 33) := ⟨⟨by decide +kernel, by decide +kernel⟩, List.mem_of_getElem? (i := 835) (by decide +kernel), List.mem_of_getElem? (i := 1174) (by decide +kernel), List.mem_of_getElem? (i := 1175) (by decide +kernel)⟩
theorem lw_p82 : lw_okq (⟨"RailOfHeadsModel", "bestAt", "(IIIII)I"⟩, 33) := ⟨⟨by decide +kernel, by decide +kernel⟩, List.mem_of_getElem? (i := 835) (by decide +kernel), List.mem_of_getElem? (i := 1185) (by decide +kernel), List.mem_of_getElem? (i := 1186) (by decide +kernel)⟩
theorem lw_p83 : lw_okq (⟨"RailOfHeadsModel", "isEachOnce", "(I)Z"⟩, 33) := ⟨⟨by decide +kernel, by decide +kernel⟩, List.mem_of_getElem? (i := 835) (by decide +kernel), List.mem_of_getElem? (i := 1205) (by decide +kernel), List.mem_of_getElem? (i := 1206) (by decide +kernel)⟩
theorem lw_p84 : lw_okq (⟨"RailOfHeadsModel", "hang", "(II)V"⟩, 33) := ⟨⟨by decide +kernel, by decide +kernel⟩, List.mem_of_getElem? (i := 835) (by decide +kernel), List.mem_of_getElem? (i := 1209) (by decide +kernel), List.mem_of_getElem? (i := 1210) (by decide +kernel)⟩
theorem lw_p85 : lw_okq (⟨"RailOfHeadsModel", "offBy", "(III)I"⟩, 33) := ⟨⟨by decide +kernel, by decide +kernel⟩, List.mem_of_getElem? (i := 835) (by decide +kernel), List.mem_of_getElem? (i := 1223) (by decide +kernel), List.mem_of_getElem? (i := 1224) (by decide +kernel)⟩
theorem lw_p86 : lw_okq (⟨"RailOfHeadsModel", "kindOf", "(I)I"⟩, 33) := ⟨⟨by decide +kernel, by decide +kernel⟩, List.mem_of_getElem? (i := 835) (by decide +kernel), List.mem_of_getElem? (i := 1239) (by decide +kernel), List.mem_of_getElem? (i := 1240) (by decide +kernel)⟩
theorem lw_p87 : lw_okq (⟨"RailOfHeadsModel", "sizeOf", "(I)I"⟩, 33) := ⟨⟨by decide +kernel, by decide +kernel⟩, List.mem_of_getElem? (i := 835) (by decide +kernel), List.mem_of_getElem? (i := 1255) (by decide +kernel), List.mem_of_getElem? (i := 1256) (by decide +kernel)⟩
theorem lw_p88 : lw_okq (⟨"RailOfHeadsModel", "plainSize", "(I)I"⟩, 33) := ⟨⟨by decide +kernel, by decide +kernel⟩, List.mem_of_getElem? (i := 835) (by decide +kernel), List.mem_of_getElem? (i := 1259) (by decide +kernel), List.mem_of_getElem? (i := 1260) (by decide +kernel)⟩
theorem lw_p89 : lw_okq (⟨"RailOfHeadsModel", "began", "(I)V"⟩, 33) := ⟨⟨by decide +kernel, by decide +kernel⟩, List.mem_of_getElem? (i := 835) (by decide +kernel), List.mem_of_getElem? (i := 1263) (by decide +kernel), List.mem_of_getElem? (i := 1264) (by decide +kernel)⟩
theorem lw_p90 : lw_okq (⟨"RailOfHeadsModel", "markOf", "(I)I"⟩, 33) := ⟨⟨by decide +kernel, by decide +kernel⟩, List.mem_of_getElem? (i := 835) (by decide +kernel), List.mem_of_getElem? (i := 1267) (by decide +kernel), List.mem_of_getElem? (i := 1268) (by decide +kernel)⟩
def lw_privs_6 : List (MethodName × Nat) := [(⟨"RailOfHeadsModel", "isVisitor", "(I)Z"⟩, 33), (⟨"RailOfHeadsModel", "dayOf", "(II)I"⟩, 33), (⟨"RailOfHeadsModel", "bestAt", "(IIIII)I"⟩, 33), (⟨"RailOfHeadsModel", "isEachOnce", "(I)Z"⟩, 33), (⟨"RailOfHeadsModel", "hang", "(II)V"⟩, 33), (⟨"RailOfHeadsModel", "offBy", "(III)I"⟩, 33), (⟨"RailOfHeadsModel", "kindOf", "(I)I"⟩, 33), (⟨"RailOfHeadsModel", "sizeOf", "(I)I"⟩, 33), (⟨"RailOfHeadsModel", "plainSize", "(I)I"⟩, 33), (⟨"RailOfHeadsModel", "began", "(I)V"⟩, 33), (⟨"RailOfHeadsModel", "markOf", "(I)I"⟩, 33)]
theorem lw_r6 : ∀ q ∈ lw_privs_6, lw_okq q := List.forall_mem_cons.mpr ⟨lw_p80, List.forall_mem_cons.mpr ⟨lw_p81, List.forall_mem_cons.mpr ⟨lw_p82, List.forall_mem_cons.mpr ⟨lw_p83, List.forall_mem_cons.mpr ⟨lw_p84, List.forall_mem_cons.mpr ⟨lw_p85, List.forall_mem_cons.mpr ⟨lw_p86, List.forall_mem_cons.mpr ⟨lw_p87, List.forall_mem_cons.mpr ⟨lw_p88, List.forall_mem_cons.mpr ⟨lw_p89, List.forall_mem_cons.mpr ⟨lw_p90, fun _ h => absurd h List.not_mem_nil⟩⟩⟩⟩⟩⟩⟩⟩⟩⟩⟩
def lw_privs : List (MethodName × Nat) := lw_privs_1 ++ (lw_privs_2 ++ (lw_privs_3 ++ (lw_privs_4 ++ (lw_privs_5 ++ (lw_privs_6)))))
def lw_tbl : List Cond := k2_sels lw_privs ++ tables_1
theorem lw_privs_ok : ∀ q ∈ lw_privs, lw_okq q := by
  show ∀ q ∈ lw_privs_1 ++ (lw_privs_2 ++ (lw_privs_3 ++ (lw_privs_4 ++ (lw_privs_5 ++ (lw_privs_6))))), lw_okq q
  exact List.forall_mem_append.mpr ⟨lw_r1, List.forall_mem_append.mpr ⟨lw_r2, List.forall_mem_append.mpr ⟨lw_r3, List.forall_mem_append.mpr ⟨lw_r4, List.forall_mem_append.mpr ⟨lw_r5, lw_r6⟩⟩⟩⟩⟩
end
section
def RX0 : String := "RailOfHeads$Asks"
def TX0 : u_T := fun k => match k with
  | 0 => ("RailOfHeads$Asks", "crowd", "LRailOfHeads$Crowd;", true)
  | 1 => ("RailOfHeads$Asks", "bodies", "[I", true)
  | _ => ("RailOfHeads$Asks", "traced", "I", false)
def tyX0 : Nat → FieldType := fun k => match k with
  | 0 => .object "RailOfHeads$Crowd"
  | 1 => .array .int
  | _ => .int
abbrev wsX00 : List Cond := u_ws RX0 TX0 3
theorem nmX0 : ∀ a, a < 3 → ∀ b, b < 3 → a ≠ b → (TX0 a).2.1 ≠ (TX0 b).2.1 := by decide +kernel
theorem tyX0_ok : ∀ k, k < 3 → parseFieldDescriptor (TX0 k).2.2.1 = some (tyX0 k) := by decide +kernel
abbrev cX0_init : ByteArray := prog_2_method_1_code
def yX0_init : MethodName := ⟨RX0, "<init>", "(LRailOfHeads$Crowd;)V"⟩
abbrev cX0_size : ByteArray := prog_2_method_2_code
def yX0_size : MethodName := ⟨RX0, "size", "(II)I"⟩
abbrev cX0_mark : ByteArray := prog_2_method_3_code
def yX0_mark : MethodName := ⟨RX0, "mark", "(II)I"⟩
abbrev cX0_begin : ByteArray := prog_2_method_4_code
def yX0_begin : MethodName := ⟨RX0, "begin", "(I)V"⟩
abbrev cX0_body10 : ByteArray := prog_2_method_5_code
def yX0_body10 : MethodName := ⟨RX0, "body10", "(I)I"⟩
abbrev cX0_body11 : ByteArray := prog_2_method_6_code
def yX0_body11 : MethodName := ⟨RX0, "body11", "(II)I"⟩
abbrev cX0_body12 : ByteArray := prog_2_method_7_code
def yX0_body12 : MethodName := ⟨RX0, "body12", "(II)I"⟩
abbrev cX0_body13 : ByteArray := prog_2_method_8_code
def yX0_body13 : MethodName := ⟨RX0, "body13", "(I)I"⟩
abbrev cX0_body14 : ByteArray := prog_2_method_9_code
def yX0_body14 : MethodName := ⟨RX0, "body14", "(I)I"⟩
abbrev cX0_body20 : ByteArray := prog_2_method_10_code
def yX0_body20 : MethodName := ⟨RX0, "body20", "(I)I"⟩
abbrev cX0_body21 : ByteArray := prog_2_method_11_code
def yX0_body21 : MethodName := ⟨RX0, "body21", "(I)I"⟩
abbrev cX0_body22 : ByteArray := prog_2_method_12_code
def yX0_body22 : MethodName := ⟨RX0, "body22", "(I)I"⟩
abbrev cX0_body23 : ByteArray := prog_2_method_13_code
def yX0_body23 : MethodName := ⟨RX0, "body23", "(II)I"⟩
abbrev cX0_body24 : ByteArray := prog_2_method_14_code
def yX0_body24 : MethodName := ⟨RX0, "body24", "(I)I"⟩
def RX1 : String := "RailOfHeads$Crowd"
def TX1 : u_T := fun k => match k with
  | 0 => ("RailOfHeads$Crowd", "plan", "LRailOfHeads$Plan;", true)
  | 1 => ("RailOfHeads$Crowd", "ways", "LRailOfHeads$Ways;", true)
  | 2 => ("RailOfHeads$Crowd", "minute", "I", false)
  | 3 => ("RailOfHeads$Crowd", "out", "I", false)
  | 4 => ("RailOfHeads$Crowd", "group", "[I", true)
  | 5 => ("RailOfHeads$Crowd", "place", "[I", true)
  | 6 => ("RailOfHeads$Crowd", "patience", "[I", true)
  | 7 => ("RailOfHeads$Crowd", "saw", "[I", true)
  | 8 => ("RailOfHeads$Crowd", "done", "[I", true)
  | 9 => ("RailOfHeads$Crowd", "missed", "[I", true)
  | 10 => ("RailOfHeads$Crowd", "aim", "[I", true)
  | 11 => ("RailOfHeads$Crowd", "looked", "[I", true)
  | 12 => ("RailOfHeads$Crowd", "inside", "[I", true)
  | 13 => ("RailOfHeads$Crowd", "latest", "[I", true)
  | _ => ("RailOfHeads$Crowd", "lookers", "[I", true)
def tyX1 : Nat → FieldType := fun k => match k with
  | 0 => .object "RailOfHeads$Plan"
  | 1 => .object "RailOfHeads$Ways"
  | 2 => .int
  | 3 => .int
  | 4 => .array .int
  | 5 => .array .int
  | 6 => .array .int
  | 7 => .array .int
  | 8 => .array .int
  | 9 => .array .int
  | 10 => .array .int
  | 11 => .array .int
  | 12 => .array .int
  | 13 => .array .int
  | _ => .array .int
abbrev wsX10 : List Cond := u_ws RX1 TX1 15
theorem nmX1 : ∀ a, a < 15 → ∀ b, b < 15 → a ≠ b → (TX1 a).2.1 ≠ (TX1 b).2.1 := by decide +kernel
theorem tyX1_ok : ∀ k, k < 15 → parseFieldDescriptor (TX1 k).2.2.1 = some (tyX1 k) := by decide +kernel
abbrev cX1_init : ByteArray := prog_3_method_1_code
def yX1_init : MethodName := ⟨RX1, "<init>", "(LRailOfHeads$Plan;LRailOfHeads$Ways;)V"⟩
abbrev cX1_begin : ByteArray := prog_3_method_2_code
def yX1_begin : MethodName := ⟨RX1, "begin", "(I)V"⟩
abbrev cX1_takeOver : ByteArray := prog_3_method_3_code
def yX1_takeOver : MethodName := ⟨RX1, "takeOver", "(LRailOfHeads$Crowd;)V"⟩
abbrev cX1_passMinute : ByteArray := prog_3_method_4_code
def yX1_passMinute : MethodName := ⟨RX1, "passMinute", "()V"⟩
abbrev cX1_kindOf : ByteArray := prog_3_method_5_code
def yX1_kindOf : MethodName := ⟨RX1, "kindOf", "(I)I"⟩
abbrev cX1_allSaw : ByteArray := prog_3_method_6_code
def yX1_allSaw : MethodName := ⟨RX1, "allSaw", "()I"⟩
abbrev cX1_leastSaw : ByteArray := prog_3_method_7_code
def yX1_leastSaw : MethodName := ⟨RX1, "leastSaw", "()I"⟩
abbrev cX1_allMissed : ByteArray := prog_3_method_8_code
def yX1_allMissed : MethodName := ⟨RX1, "allMissed", "()I"⟩
abbrev cX1_comeIn : ByteArray := prog_3_method_9_code
def yX1_comeIn : MethodName := ⟨RX1, "comeIn", "(I)V"⟩
abbrev cX1_goAbout : ByteArray := prog_3_method_10_code
def yX1_goAbout : MethodName := ⟨RX1, "goAbout", "(I)V"⟩
abbrev cX1_leave : ByteArray := prog_3_method_11_code
def yX1_leave : MethodName := ⟨RX1, "leave", "(I)V"⟩
abbrev cX1_enter : ByteArray := prog_3_method_12_code
def yX1_enter : MethodName := ⟨RX1, "enter", "(II)Z"⟩
abbrev cX1_lookAt : ByteArray := prog_3_method_13_code
def yX1_lookAt : MethodName := ⟨RX1, "lookAt", "(II)V"⟩
abbrev cX1_waitOn : ByteArray := prog_3_method_14_code
def yX1_waitOn : MethodName := ⟨RX1, "waitOn", "(I)V"⟩
abbrev cX1_chooseAim : ByteArray := prog_3_method_15_code
def yX1_chooseAim : MethodName := ⟨RX1, "chooseAim", "(I)I"⟩
def RX2 : String := "RailOfHeads$House"
def TX2 : u_T := fun k => match k with
  | 0 => ("RailOfHeads$House", "plan", "LRailOfHeads$Plan;", true)
  | 1 => ("RailOfHeads$House", "ways", "LRailOfHeads$Ways;", true)
  | _ => ("RailOfHeads$House", "crowd", "LRailOfHeads$Crowd;", true)
def tyX2 : Nat → FieldType := fun k => match k with
  | 0 => .object "RailOfHeads$Plan"
  | 1 => .object "RailOfHeads$Ways"
  | _ => .object "RailOfHeads$Crowd"
abbrev wsX20 : List Cond := u_ws RX2 TX2 3
theorem nmX2 : ∀ a, a < 3 → ∀ b, b < 3 → a ≠ b → (TX2 a).2.1 ≠ (TX2 b).2.1 := by decide +kernel
theorem tyX2_ok : ∀ k, k < 3 → parseFieldDescriptor (TX2 k).2.2.1 = some (tyX2 k) := by decide +kernel
abbrev cX2_init : ByteArray := prog_4_method_1_code
def yX2_init : MethodName := ⟨RX2, "<init>", "()V"⟩
abbrev cX2_takePlan : ByteArray := prog_4_method_2_code
def yX2_takePlan : MethodName := ⟨RX2, "takePlan", "(LRailOfHeads$House;)V"⟩
abbrev cX2_takeAll : ByteArray := prog_4_method_3_code
def yX2_takeAll : MethodName := ⟨RX2, "takeAll", "(LRailOfHeads$House;)V"⟩
abbrev cX2_seenInDay : ByteArray := prog_4_method_4_code
def yX2_seenInDay : MethodName := ⟨RX2, "seenInDay", "(III)I"⟩
def RX3 : String := "RailOfHeads$Plan"
def TX3 : u_T := fun k => match k with
  | 0 => ("RailOfHeads$Plan", "rail", "I", false)
  | 1 => ("RailOfHeads$Plan", "guard", "I", false)
  | 2 => ("RailOfHeads$Plan", "rooms", "I", false)
  | 3 => ("RailOfHeads$Plan", "holds", "[I", true)
  | 4 => ("RailOfHeads$Plan", "doors", "I", false)
  | 5 => ("RailOfHeads$Plan", "doorFrom", "[I", true)
  | 6 => ("RailOfHeads$Plan", "doorTo", "[I", true)
  | 7 => ("RailOfHeads$Plan", "doorOneWay", "[I", true)
  | 8 => ("RailOfHeads$Plan", "pictures", "I", false)
  | 9 => ("RailOfHeads$Plan", "pictureRoom", "[I", true)
  | 10 => ("RailOfHeads$Plan", "pictureDraw", "[I", true)
  | 11 => ("RailOfHeads$Plan", "pictureMinutes", "[I", true)
  | 12 => ("RailOfHeads$Plan", "groups", "I", false)
  | 13 => ("RailOfHeads$Plan", "groupMany", "[I", true)
  | 14 => ("RailOfHeads$Plan", "groupMinute", "[I", true)
  | 15 => ("RailOfHeads$Plan", "groupLaw", "[I", true)
  | 16 => ("RailOfHeads$Plan", "groupPatience", "[I", true)
  | _ => ("RailOfHeads$Plan", "visitors", "I", false)
def tyX3 : Nat → FieldType := fun k => match k with
  | 0 => .int
  | 1 => .int
  | 2 => .int
  | 3 => .array .int
  | 4 => .int
  | 5 => .array .int
  | 6 => .array .int
  | 7 => .array .int
  | 8 => .int
  | 9 => .array .int
  | 10 => .array .int
  | 11 => .array .int
  | 12 => .int
  | 13 => .array .int
  | 14 => .array .int
  | 15 => .array .int
  | 16 => .array .int
  | _ => .int
abbrev wsX30 : List Cond := u_ws RX3 TX3 18
theorem nmX3 : ∀ a, a < 18 → ∀ b, b < 18 → a ≠ b → (TX3 a).2.1 ≠ (TX3 b).2.1 := by decide +kernel
theorem tyX3_ok : ∀ k, k < 18 → parseFieldDescriptor (TX3 k).2.2.1 = some (tyX3 k) := by decide +kernel
abbrev cX3_init : ByteArray := prog_5_method_1_code
def yX3_init : MethodName := ⟨RX3, "<init>", "()V"⟩
abbrev cX3_clear : ByteArray := prog_5_method_2_code
def yX3_clear : MethodName := ⟨RX3, "clear", "()V"⟩
abbrev cX3_addRoom : ByteArray := prog_5_method_3_code
def yX3_addRoom : MethodName := ⟨RX3, "addRoom", "(I)V"⟩
abbrev cX3_addDoor : ByteArray := prog_5_method_4_code
def yX3_addDoor : MethodName := ⟨RX3, "addDoor", "(IIZ)V"⟩
abbrev cX3_addPicture : ByteArray := prog_5_method_5_code
def yX3_addPicture : MethodName := ⟨RX3, "addPicture", "(II)V"⟩
abbrev cX3_addGroup : ByteArray := prog_5_method_6_code
def yX3_addGroup : MethodName := ⟨RX3, "addGroup", "(IIII)V"⟩
abbrev cX3_takeOver : ByteArray := prog_5_method_7_code
def yX3_takeOver : MethodName := ⟨RX3, "takeOver", "(LRailOfHeads$Plan;)V"⟩
def RX4 : String := "RailOfHeads$Reader"
def TX4 : u_T := fun k => match k with
  | 0 => ("RailOfHeads$Reader", "tape", "[B", true)
  | 1 => ("RailOfHeads$Reader", "length", "I", false)
  | 2 => ("RailOfHeads$Reader", "start", "I", false)
  | 3 => ("RailOfHeads$Reader", "fault", "I", false)
  | 4 => ("RailOfHeads$Reader", "at", "I", false)
  | 5 => ("RailOfHeads$Reader", "sort", "I", false)
  | 6 => ("RailOfHeads$Reader", "number", "I", false)
  | _ => ("RailOfHeads$Reader", "plan", "LRailOfHeads$Plan;", false)
def tyX4 : Nat → FieldType := fun k => match k with
  | 0 => .array .byte
  | 1 => .int
  | 2 => .int
  | 3 => .int
  | 4 => .int
  | 5 => .int
  | 6 => .int
  | _ => .object "RailOfHeads$Plan"
abbrev wsX40 : List Cond := u_ws RX4 TX4 8
theorem nmX4 : ∀ a, a < 8 → ∀ b, b < 8 → a ≠ b → (TX4 a).2.1 ≠ (TX4 b).2.1 := by decide +kernel
theorem tyX4_ok : ∀ k, k < 8 → parseFieldDescriptor (TX4 k).2.2.1 = some (tyX4 k) := by decide +kernel
abbrev cX4_init : ByteArray := prog_6_method_1_code
def yX4_init : MethodName := ⟨RX4, "<init>", "()V"⟩
abbrev cX4_put : ByteArray := prog_6_method_2_code
def yX4_put : MethodName := ⟨RX4, "put", "(B)V"⟩
abbrev cX4_read : ByteArray := prog_6_method_3_code
def yX4_read : MethodName := ⟨RX4, "read", "(LRailOfHeads$Plan;)V"⟩
abbrev cX4_readRail : ByteArray := prog_6_method_4_code
def yX4_readRail : MethodName := ⟨RX4, "readRail", "()V"⟩
abbrev cX4_readRooms : ByteArray := prog_6_method_5_code
def yX4_readRooms : MethodName := ⟨RX4, "readRooms", "()V"⟩
abbrev cX4_readDoors : ByteArray := prog_6_method_6_code
def yX4_readDoors : MethodName := ⟨RX4, "readDoors", "()V"⟩
abbrev cX4_readPictures : ByteArray := prog_6_method_7_code
def yX4_readPictures : MethodName := ⟨RX4, "readPictures", "()V"⟩
abbrev cX4_readGroups : ByteArray := prog_6_method_8_code
def yX4_readGroups : MethodName := ⟨RX4, "readGroups", "()V"⟩
abbrev cX4_takeWord : ByteArray := prog_6_method_9_code
def yX4_takeWord : MethodName := ⟨RX4, "takeWord", "(Ljava/lang/String;II)V"⟩
abbrev cX4_takeNumber : ByteArray := prog_6_method_10_code
def yX4_takeNumber : MethodName := ⟨RX4, "takeNumber", "(II)I"⟩
abbrev cX4_takeLaw : ByteArray := prog_6_method_11_code
def yX4_takeLaw : MethodName := ⟨RX4, "takeLaw", "()I"⟩
abbrev cX4_takeSign : ByteArray := prog_6_method_12_code
def yX4_takeSign : MethodName := ⟨RX4, "takeSign", "()V"⟩
abbrev cX4_isWord : ByteArray := prog_6_method_13_code
def yX4_isWord : MethodName := ⟨RX4, "isWord", "(Ljava/lang/String;)Z"⟩
abbrev cX4_advance : ByteArray := prog_6_method_14_code
def yX4_advance : MethodName := ⟨RX4, "advance", "()V"⟩
abbrev cX4_passName : ByteArray := prog_6_method_15_code
def yX4_passName : MethodName := ⟨RX4, "passName", "()V"⟩
abbrev cX4_passNumber : ByteArray := prog_6_method_16_code
def yX4_passNumber : MethodName := ⟨RX4, "passNumber", "()V"⟩
def RX5 : String := "RailOfHeads$Row"
def TX5 : u_T := fun k => match k with
  | 0 => ("RailOfHeads$Row", "items", "[I", true)
  | 1 => ("RailOfHeads$Row", "missing", "Z", false)
  | 2 => ("RailOfHeads$Row", "lane", "I", false)
  | _ => ("RailOfHeads$Row", "length", "I", false)
def tyX5 : Nat → FieldType := fun k => match k with
  | 0 => .array .int
  | 1 => .boolean
  | 2 => .int
  | _ => .int
abbrev wsX50 : List Cond := u_ws RX5 TX5 4
theorem nmX5 : ∀ a, a < 4 → ∀ b, b < 4 → a ≠ b → (TX5 a).2.1 ≠ (TX5 b).2.1 := by decide +kernel
theorem tyX5_ok : ∀ k, k < 4 → parseFieldDescriptor (TX5 k).2.2.1 = some (tyX5 k) := by decide +kernel
abbrev cX5_init : ByteArray := prog_7_method_1_code
def yX5_init : MethodName := ⟨RX5, "<init>", "()V"⟩
abbrev cX5_make : ByteArray := prog_7_method_2_code
def yX5_make : MethodName := ⟨RX5, "make", "(II)V"⟩
abbrev cX5_holds : ByteArray := prog_7_method_3_code
def yX5_holds : MethodName := ⟨RX5, "holds", "(II)Z"⟩
abbrev cX5_cut : ByteArray := prog_7_method_4_code
def yX5_cut : MethodName := ⟨RX5, "cut", "(I)I"⟩
def RX6 : String := "RailOfHeads$Ways"
def TX6 : u_T := fun k => match k with
  | 0 => ("RailOfHeads$Ways", "doors", "[I", true)
  | _ => ("RailOfHeads$Ways", "next", "[I", true)
def tyX6 : Nat → FieldType := fun k => match k with
  | 0 => .array .int
  | _ => .array .int
abbrev wsX60 : List Cond := u_ws RX6 TX6 2
theorem nmX6 : ∀ a, a < 2 → ∀ b, b < 2 → a ≠ b → (TX6 a).2.1 ≠ (TX6 b).2.1 := by decide +kernel
theorem tyX6_ok : ∀ k, k < 2 → parseFieldDescriptor (TX6 k).2.2.1 = some (tyX6 k) := by decide +kernel
abbrev cX6_init : ByteArray := prog_8_method_1_code
def yX6_init : MethodName := ⟨RX6, "<init>", "()V"⟩
abbrev cX6_measure : ByteArray := prog_8_method_2_code
def yX6_measure : MethodName := ⟨RX6, "measure", "(LRailOfHeads$Plan;)V"⟩
abbrev cX6_takeOver : ByteArray := prog_8_method_3_code
def yX6_takeOver : MethodName := ⟨RX6, "takeOver", "(LRailOfHeads$Ways;)V"⟩
abbrev cX6_openDoors : ByteArray := prog_8_method_4_code
def yX6_openDoors : MethodName := ⟨RX6, "openDoors", "(LRailOfHeads$Plan;)V"⟩
abbrev cX6_nextRoom : ByteArray := prog_8_method_5_code
def yX6_nextRoom : MethodName := ⟨RX6, "nextRoom", "(LRailOfHeads$Plan;II)I"⟩
def RX7 : String := "RailOfHeads"
def TX7 : u_T := fun k => match k with
  | 0 => ("RailOfHeads", "rows", "[LRailOfHeads$Row;", true)
  | 1 => ("RailOfHeads", "reader", "LRailOfHeads$Reader;", true)
  | 2 => ("RailOfHeads", "live", "LRailOfHeads$House;", true)
  | 3 => ("RailOfHeads", "trial", "LRailOfHeads$House;", true)
  | 4 => ("RailOfHeads", "images", "[LRailOfHeads$House;", true)
  | 5 => ("RailOfHeads", "asks", "LRailOfHeads$Asks;", true)
  | 6 => ("RailOfHeads", "hanging", "[I", true)
  | 7 => ("RailOfHeads", "bestHanging", "[I", true)
  | 8 => ("RailOfHeads", "latestFault", "I", false)
  | _ => ("RailOfHeads", "latestFinding", "I", false)
def tyX7 : Nat → FieldType := fun k => match k with
  | 0 => .array (.object "RailOfHeads$Row")
  | 1 => .object "RailOfHeads$Reader"
  | 2 => .object "RailOfHeads$House"
  | 3 => .object "RailOfHeads$House"
  | 4 => .array (.object "RailOfHeads$House")
  | 5 => .object "RailOfHeads$Asks"
  | 6 => .array .int
  | 7 => .array .int
  | 8 => .int
  | _ => .int
abbrev wsX70 : List Cond := u_ws RX7 TX7 10
theorem nmX7 : ∀ a, a < 10 → ∀ b, b < 10 → a ≠ b → (TX7 a).2.1 ≠ (TX7 b).2.1 := by decide +kernel
theorem tyX7_ok : ∀ k, k < 10 → parseFieldDescriptor (TX7 k).2.2.1 = some (tyX7 k) := by decide +kernel
abbrev cX7_init : ByteArray := prog_1_method_1_code
def yX7_init : MethodName := ⟨RX7, "<init>", "()V"⟩
abbrev cX7_row : ByteArray := prog_1_method_2_code
def yX7_row : MethodName := ⟨RX7, "row", "(III)I"⟩
abbrev cX7_set : ByteArray := prog_1_method_3_code
def yX7_set : MethodName := ⟨RX7, "set", "(III)I"⟩
abbrev cX7_copy : ByteArray := prog_1_method_4_code
def yX7_copy : MethodName := ⟨RX7, "copy", "(IIIII)I"⟩
abbrev cX7_drop : ByteArray := prog_1_method_5_code
def yX7_drop : MethodName := ⟨RX7, "drop", "(I)I"⟩
abbrev cX7_feed : ByteArray := prog_1_method_6_code
def yX7_feed : MethodName := ⟨RX7, "feed", "(JI)I"⟩
abbrev cX7_house : ByteArray := prog_1_method_7_code
def yX7_house : MethodName := ⟨RX7, "house", "()I"⟩
abbrev cX7_fault : ByteArray := prog_1_method_8_code
def yX7_fault : MethodName := ⟨RX7, "fault", "()I"⟩
abbrev cX7_far : ByteArray := prog_1_method_9_code
def yX7_far : MethodName := ⟨RX7, "far", "(II)I"⟩
abbrev cX7_go : ByteArray := prog_1_method_10_code
def yX7_go : MethodName := ⟨RX7, "go", "(I)I"⟩
abbrev cX7_rule : ByteArray := prog_1_method_11_code
def yX7_rule : MethodName := ⟨RX7, "rule", "(II)I"⟩
abbrev cX7_visitor : ByteArray := prog_1_method_12_code
def yX7_visitor : MethodName := ⟨RX7, "visitor", "(II)I"⟩
abbrev cX7_room : ByteArray := prog_1_method_13_code
def yX7_room : MethodName := ⟨RX7, "room", "(II)I"⟩
abbrev cX7_seen : ByteArray := prog_1_method_14_code
def yX7_seen : MethodName := ⟨RX7, "seen", "(II)I"⟩
abbrev cX7_bestRule : ByteArray := prog_1_method_15_code
def yX7_bestRule : MethodName := ⟨RX7, "bestRule", "(III)I"⟩
abbrev cX7_tickets : ByteArray := prog_1_method_16_code
def yX7_tickets : MethodName := ⟨RX7, "tickets", "(II)I"⟩
abbrev cX7_oneWay : ByteArray := prog_1_method_17_code
def yX7_oneWay : MethodName := ⟨RX7, "oneWay", "(II)I"⟩
abbrev cX7_picture : ByteArray := prog_1_method_18_code
def yX7_picture : MethodName := ⟨RX7, "picture", "(III)I"⟩
abbrev cX7_hung : ByteArray := prog_1_method_19_code
def yX7_hung : MethodName := ⟨RX7, "hung", "(II)I"⟩
abbrev cX7_fire : ByteArray := prog_1_method_20_code
def yX7_fire : MethodName := ⟨RX7, "fire", "()I"⟩
abbrev cX7_counts : ByteArray := prog_1_method_21_code
def yX7_counts : MethodName := ⟨RX7, "counts", "(IIII)I"⟩
abbrev cX7_image : ByteArray := prog_1_method_22_code
def yX7_image : MethodName := ⟨RX7, "image", "(I)I"⟩
abbrev cX7_restore : ByteArray := prog_1_method_23_code
def yX7_restore : MethodName := ⟨RX7, "restore", "(I)I"⟩
abbrev cX7_kind : ByteArray := prog_1_method_24_code
def yX7_kind : MethodName := ⟨RX7, "kind", "(I)I"⟩
abbrev cX7_as : ByteArray := prog_1_method_25_code
def yX7_as : MethodName := ⟨RX7, "as", "(II)I"⟩
abbrev cX7_ask : ByteArray := prog_1_method_26_code
def yX7_ask : MethodName := ⟨RX7, "ask", "(II)I"⟩
abbrev cX7_trace : ByteArray := prog_1_method_27_code
def yX7_trace : MethodName := ⟨RX7, "trace", "(I)I"⟩
abbrev cX7_count : ByteArray := prog_1_method_28_code
def yX7_count : MethodName := ⟨RX7, "count", "(I)I"⟩
abbrev cX7_status : ByteArray := prog_1_method_29_code
def yX7_status : MethodName := ⟨RX7, "status", "()I"⟩
abbrev cX7_isWithin : ByteArray := prog_1_method_30_code
def yX7_isWithin : MethodName := ⟨RX7, "isWithin", "(III)Z"⟩
abbrev cX7_isBelow : ByteArray := prog_1_method_31_code
def yX7_isBelow : MethodName := ⟨RX7, "isBelow", "(II)Z"⟩
abbrev cX7_noHouse : ByteArray := prog_1_method_32_code
def yX7_noHouse : MethodName := ⟨RX7, "noHouse", "()Z"⟩
abbrev cX7_noVisitor : ByteArray := prog_1_method_33_code
def yX7_noVisitor : MethodName := ⟨RX7, "noVisitor", "(I)Z"⟩
abbrev cX7_noDay : ByteArray := prog_1_method_34_code
def yX7_noDay : MethodName := ⟨RX7, "noDay", "(I)Z"⟩
abbrev cX7_finding : ByteArray := prog_1_method_35_code
def yX7_finding : MethodName := ⟨RX7, "finding", "(I)I"⟩
abbrev cX7_unfound : ByteArray := prog_1_method_36_code
def yX7_unfound : MethodName := ⟨RX7, "unfound", "(I)I"⟩
abbrev cX7_standingRows : ByteArray := prog_1_method_37_code
def yX7_standingRows : MethodName := ⟨RX7, "standingRows", "()I"⟩
abbrev cX7_bestRail : ByteArray := prog_1_method_38_code
def yX7_bestRail : MethodName := ⟨RX7, "bestRail", "(II)I"⟩
abbrev cX7_bestGuard : ByteArray := prog_1_method_39_code
def yX7_bestGuard : MethodName := ⟨RX7, "bestGuard", "(II)I"⟩
abbrev cX7_hangBest : ByteArray := prog_1_method_40_code
def yX7_hangBest : MethodName := ⟨RX7, "hangBest", "(II)I"⟩
abbrev cX7_hangBy : ByteArray := prog_1_method_41_code
def yX7_hangBy : MethodName := ⟨RX7, "hangBy", "(II)Z"⟩
abbrev cX7_nearestLaw : ByteArray := prog_1_method_42_code
def yX7_nearestLaw : MethodName := ⟨RX7, "nearestLaw", "(ILRailOfHeads$Row;II)I"⟩
abbrev cX7_offBy : ByteArray := prog_1_method_43_code
def yX7_offBy : MethodName := ⟨RX7, "offBy", "(ILRailOfHeads$Row;II)I"⟩
def RX8 : String := "RailOfHeadsModel"
def TX8 : u_T := fun k => match k with
  | 0 => ("RailOfHeadsModel", "thrown", "I", false)
  | 1 => ("RailOfHeadsModel", "status", "I", false)
  | 2 => ("RailOfHeadsModel", "lane", "[I", true)
  | 3 => ("RailOfHeadsModel", "many", "[I", true)
  | 4 => ("RailOfHeadsModel", "item", "[I", true)
  | 5 => ("RailOfHeadsModel", "house", "[I", true)
  | 6 => ("RailOfHeadsModel", "fresh", "[I", true)
  | 7 => ("RailOfHeadsModel", "isThere", "Z", false)
  | 8 => ("RailOfHeadsModel", "now", "[I", true)
  | 9 => ("RailOfHeadsModel", "day", "[I", true)
  | 10 => ("RailOfHeadsModel", "tape", "[I", true)
  | 11 => ("RailOfHeadsModel", "taped", "I", false)
  | 12 => ("RailOfHeadsModel", "latest", "I", false)
  | 13 => ("RailOfHeadsModel", "length", "I", false)
  | 14 => ("RailOfHeadsModel", "cursor", "I", false)
  | 15 => ("RailOfHeadsModel", "token", "I", false)
  | 16 => ("RailOfHeadsModel", "start", "I", false)
  | 17 => ("RailOfHeadsModel", "till", "I", false)
  | 18 => ("RailOfHeadsModel", "fault", "I", false)
  | 19 => ("RailOfHeadsModel", "faultAt", "I", false)
  | 20 => ("RailOfHeadsModel", "far", "[I", true)
  | 21 => ("RailOfHeadsModel", "lawForAll", "I", false)
  | 22 => ("RailOfHeadsModel", "copied", "I", false)
  | 23 => ("RailOfHeadsModel", "gonePicture", "I", false)
  | 24 => ("RailOfHeadsModel", "heads", "[I", true)
  | 25 => ("RailOfHeadsModel", "hangs", "[I", true)
  | 26 => ("RailOfHeadsModel", "bestHung", "[I", true)
  | 27 => ("RailOfHeadsModel", "mostHung", "I", false)
  | 28 => ("RailOfHeadsModel", "isKept", "[Z", true)
  | 29 => ("RailOfHeadsModel", "keptHouse", "[I", true)
  | 30 => ("RailOfHeadsModel", "keptNow", "[I", true)
  | 31 => ("RailOfHeadsModel", "trace", "[I", true)
  | _ => ("RailOfHeadsModel", "traced", "I", false)
def tyX8 : Nat → FieldType := fun k => match k with
  | 0 => .int
  | 1 => .int
  | 2 => .array .int
  | 3 => .array .int
  | 4 => .array .int
  | 5 => .array .int
  | 6 => .array .int
  | 7 => .boolean
  | 8 => .array .int
  | 9 => .array .int
  | 10 => .array .int
  | 11 => .int
  | 12 => .int
  | 13 => .int
  | 14 => .int
  | 15 => .int
  | 16 => .int
  | 17 => .int
  | 18 => .int
  | 19 => .int
  | 20 => .array .int
  | 21 => .int
  | 22 => .int
  | 23 => .int
  | 24 => .array .int
  | 25 => .array .int
  | 26 => .array .int
  | 27 => .int
  | 28 => .array .boolean
  | 29 => .array .int
  | 30 => .array .int
  | 31 => .array .int
  | _ => .int
abbrev wsX80 : List Cond := u_ws RX8 TX8 33
theorem nmX8 : ∀ a, a < 33 → ∀ b, b < 33 → a ≠ b → (TX8 a).2.1 ≠ (TX8 b).2.1 := by decide +kernel
theorem tyX8_ok : ∀ k, k < 33 → parseFieldDescriptor (TX8 k).2.2.1 = some (tyX8 k) := by decide +kernel
abbrev cX8_init : ByteArray := prog_10_method_1_code
def yX8_init : MethodName := ⟨RX8, "<init>", "()V"⟩
abbrev cX8_in : ByteArray := prog_10_method_3_code
def yX8_in : MethodName := ⟨RX8, "in", "(JJJ)Z"⟩
abbrev cX8_finding : ByteArray := prog_10_method_4_code
def yX8_finding : MethodName := ⟨RX8, "finding", "(I)I"⟩
abbrev cX8_isRow : ByteArray := prog_10_method_5_code
def yX8_isRow : MethodName := ⟨RX8, "isRow", "(I)Z"⟩
abbrev cX8_row : ByteArray := prog_10_method_6_code
def yX8_row : MethodName := ⟨RX8, "row", "(III)I"⟩
abbrev cX8_set : ByteArray := prog_10_method_7_code
def yX8_set : MethodName := ⟨RX8, "set", "(III)I"⟩
abbrev cX8_copy : ByteArray := prog_10_method_8_code
def yX8_copy : MethodName := ⟨RX8, "copy", "(IIIII)I"⟩
abbrev cX8_drop : ByteArray := prog_10_method_9_code
def yX8_drop : MethodName := ⟨RX8, "drop", "(I)I"⟩
abbrev cX8_feed : ByteArray := prog_10_method_10_code
def yX8_feed : MethodName := ⟨RX8, "feed", "(JI)I"⟩
abbrev cX8_byteAt : ByteArray := prog_10_method_11_code
def yX8_byteAt : MethodName := ⟨RX8, "byteAt", "(I)I"⟩
abbrev cX8_isLetter : ByteArray := prog_10_method_12_code
def yX8_isLetter : MethodName := ⟨RX8, "isLetter", "(I)Z"⟩
abbrev cX8_isFigure : ByteArray := prog_10_method_13_code
def yX8_isFigure : MethodName := ⟨RX8, "isFigure", "(I)Z"⟩
abbrev cX8_next : ByteArray := prog_10_method_14_code
def yX8_next : MethodName := ⟨RX8, "next", "()V"⟩
abbrev cX8_begin : ByteArray := prog_10_method_15_code
def yX8_begin : MethodName := ⟨RX8, "begin", "()V"⟩
abbrev cX8_bad : ByteArray := prog_10_method_16_code
def yX8_bad : MethodName := ⟨RX8, "bad", "(I)V"⟩
abbrev cX8_must : ByteArray := prog_10_method_17_code
def yX8_must : MethodName := ⟨RX8, "must", "(Z)V"⟩
abbrev cX8_name : ByteArray := prog_10_method_18_code
def yX8_name : MethodName := ⟨RX8, "name", "()J"⟩
abbrev cX8_figures : ByteArray := prog_10_method_19_code
def yX8_figures : MethodName := ⟨RX8, "figures", "()I"⟩
abbrev cX8_number : ByteArray := prog_10_method_20_code
def yX8_number : MethodName := ⟨RX8, "number", "(II)I"⟩
abbrev cX8_lawOf : ByteArray := prog_10_method_21_code
def yX8_lawOf : MethodName := ⟨RX8, "lawOf", "(J)I"⟩
abbrev cX8_mustEnd : ByteArray := prog_10_method_22_code
def yX8_mustEnd : MethodName := ⟨RX8, "mustEnd", "()V"⟩
abbrev cX8_begins : ByteArray := prog_10_method_23_code
def yX8_begins : MethodName := ⟨RX8, "begins", "(II)V"⟩
abbrev cX8_mustBegin : ByteArray := prog_10_method_24_code
def yX8_mustBegin : MethodName := ⟨RX8, "mustBegin", "(J)V"⟩
abbrev cX8_readRail : ByteArray := prog_10_method_25_code
def yX8_readRail : MethodName := ⟨RX8, "readRail", "()V"⟩
abbrev cX8_readRoom : ByteArray := prog_10_method_26_code
def yX8_readRoom : MethodName := ⟨RX8, "readRoom", "()V"⟩
abbrev cX8_readDoor : ByteArray := prog_10_method_27_code
def yX8_readDoor : MethodName := ⟨RX8, "readDoor", "()V"⟩
abbrev cX8_readPicture : ByteArray := prog_10_method_28_code
def yX8_readPicture : MethodName := ⟨RX8, "readPicture", "()V"⟩
abbrev cX8_readGroup : ByteArray := prog_10_method_29_code
def yX8_readGroup : MethodName := ⟨RX8, "readGroup", "()V"⟩
abbrev cX8_house : ByteArray := prog_10_method_30_code
def yX8_house : MethodName := ⟨RX8, "house", "()I"⟩
abbrev cX8_fault : ByteArray := prog_10_method_31_code
def yX8_fault : MethodName := ⟨RX8, "fault", "()I"⟩
abbrev cX8_leads : ByteArray := prog_10_method_32_code
def yX8_leads : MethodName := ⟨RX8, "leads", "(III)Z"⟩
abbrev cX8_layFar : ByteArray := prog_10_method_33_code
def yX8_layFar : MethodName := ⟨RX8, "layFar", "()V"⟩
abbrev cX8_isRoom : ByteArray := prog_10_method_34_code
def yX8_isRoom : MethodName := ⟨RX8, "isRoom", "(I)Z"⟩
abbrev cX8_far : ByteArray := prog_10_method_35_code
def yX8_far : MethodName := ⟨RX8, "far", "(II)I"⟩
abbrev cX8_groupOf : ByteArray := prog_10_method_36_code
def yX8_groupOf : MethodName := ⟨RX8, "groupOf", "(I)I"⟩
abbrev cX8_told : ByteArray := prog_10_method_37_code
def yX8_told : MethodName := ⟨RX8, "told", "(II)I"⟩
abbrev cX8_opens : ByteArray := prog_10_method_38_code
def yX8_opens : MethodName := ⟨RX8, "opens", "([I)V"⟩
abbrev cX8_isOpen : ByteArray := prog_10_method_39_code
def yX8_isOpen : MethodName := ⟨RX8, "isOpen", "([III)Z"⟩
abbrev cX8_lawNow : ByteArray := prog_10_method_40_code
def yX8_lawNow : MethodName := ⟨RX8, "lawNow", "(I)I"⟩
abbrev cX8_aim : ByteArray := prog_10_method_41_code
def yX8_aim : MethodName := ⟨RX8, "aim", "([II)I"⟩
abbrev cX8_inRoom : ByteArray := prog_10_method_42_code
def yX8_inRoom : MethodName := ⟨RX8, "inRoom", "([II)I"⟩
abbrev cX8_holdsOne : ByteArray := prog_10_method_43_code
def yX8_holdsOne : MethodName := ⟨RX8, "holdsOne", "([II)Z"⟩
abbrev cX8_waits : ByteArray := prog_10_method_44_code
def yX8_waits : MethodName := ⟨RX8, "waits", "([III)V"⟩
abbrev cX8_looks : ByteArray := prog_10_method_45_code
def yX8_looks : MethodName := ⟨RX8, "looks", "([III)V"⟩
abbrev cX8_nextRoom : ByteArray := prog_10_method_46_code
def yX8_nextRoom : MethodName := ⟨RX8, "nextRoom", "(II)I"⟩
abbrev cX8_goes : ByteArray := prog_10_method_47_code
def yX8_goes : MethodName := ⟨RX8, "goes", "([II)V"⟩
abbrev cX8_enters : ByteArray := prog_10_method_48_code
def yX8_enters : MethodName := ⟨RX8, "enters", "([IIII)V"⟩
abbrev cX8_minute : ByteArray := prog_10_method_49_code
def yX8_minute : MethodName := ⟨RX8, "minute", "([I)V"⟩
abbrev cX8_go : ByteArray := prog_10_method_50_code
def yX8_go : MethodName := ⟨RX8, "go", "(I)I"⟩
abbrev cX8_rule : ByteArray := prog_10_method_51_code
def yX8_rule : MethodName := ⟨RX8, "rule", "(II)I"⟩
abbrev cX8_isVisitor : ByteArray := prog_10_method_52_code
def yX8_isVisitor : MethodName := ⟨RX8, "isVisitor", "(I)Z"⟩
abbrev cX8_visitor : ByteArray := prog_10_method_53_code
def yX8_visitor : MethodName := ⟨RX8, "visitor", "(II)I"⟩
abbrev cX8_room : ByteArray := prog_10_method_54_code
def yX8_room : MethodName := ⟨RX8, "room", "(II)I"⟩
abbrev cX8_isLong : ByteArray := prog_10_method_55_code
def yX8_isLong : MethodName := ⟨RX8, "isLong", "(I)Z"⟩
abbrev cX8_ones : ByteArray := prog_10_method_56_code
def yX8_ones : MethodName := ⟨RX8, "ones", "(I)I"⟩
abbrev cX8_dayOf : ByteArray := prog_10_method_57_code
def yX8_dayOf : MethodName := ⟨RX8, "dayOf", "(II)I"⟩
abbrev cX8_seen : ByteArray := prog_10_method_58_code
def yX8_seen : MethodName := ⟨RX8, "seen", "(II)I"⟩
abbrev cX8_bestAt : ByteArray := prog_10_method_59_code
def yX8_bestAt : MethodName := ⟨RX8, "bestAt", "(IIIII)I"⟩
abbrev cX8_bestRule : ByteArray := prog_10_method_60_code
def yX8_bestRule : MethodName := ⟨RX8, "bestRule", "(III)I"⟩
abbrev cX8_tickets : ByteArray := prog_10_method_61_code
def yX8_tickets : MethodName := ⟨RX8, "tickets", "(II)I"⟩
abbrev cX8_oneWay : ByteArray := prog_10_method_62_code
def yX8_oneWay : MethodName := ⟨RX8, "oneWay", "(II)I"⟩
abbrev cX8_picture : ByteArray := prog_10_method_63_code
def yX8_picture : MethodName := ⟨RX8, "picture", "(III)I"⟩
abbrev cX8_isEachOnce : ByteArray := prog_10_method_64_code
def yX8_isEachOnce : MethodName := ⟨RX8, "isEachOnce", "(I)Z"⟩
abbrev cX8_hang : ByteArray := prog_10_method_65_code
def yX8_hang : MethodName := ⟨RX8, "hang", "(II)V"⟩
abbrev cX8_hung : ByteArray := prog_10_method_66_code
def yX8_hung : MethodName := ⟨RX8, "hung", "(II)I"⟩
abbrev cX8_fire : ByteArray := prog_10_method_67_code
def yX8_fire : MethodName := ⟨RX8, "fire", "()I"⟩
abbrev cX8_offBy : ByteArray := prog_10_method_68_code
def yX8_offBy : MethodName := ⟨RX8, "offBy", "(III)I"⟩
abbrev cX8_counts : ByteArray := prog_10_method_69_code
def yX8_counts : MethodName := ⟨RX8, "counts", "(IIII)I"⟩
abbrev cX8_image : ByteArray := prog_10_method_70_code
def yX8_image : MethodName := ⟨RX8, "image", "(I)I"⟩
abbrev cX8_restore : ByteArray := prog_10_method_71_code
def yX8_restore : MethodName := ⟨RX8, "restore", "(I)I"⟩
abbrev cX8_kindOf : ByteArray := prog_10_method_72_code
def yX8_kindOf : MethodName := ⟨RX8, "kindOf", "(I)I"⟩
abbrev cX8_isOf : ByteArray := prog_10_method_73_code
def yX8_isOf : MethodName := ⟨RX8, "isOf", "(II)Z"⟩
abbrev cX8_kind : ByteArray := prog_10_method_74_code
def yX8_kind : MethodName := ⟨RX8, "kind", "(I)I"⟩
abbrev cX8_as : ByteArray := prog_10_method_75_code
def yX8_as : MethodName := ⟨RX8, "as", "(II)I"⟩
abbrev cX8_began : ByteArray := prog_10_method_76_code
def yX8_began : MethodName := ⟨RX8, "began", "(I)V"⟩
abbrev cX8_plainSize : ByteArray := prog_10_method_77_code
def yX8_plainSize : MethodName := ⟨RX8, "plainSize", "(I)I"⟩
abbrev cX8_markOf : ByteArray := prog_10_method_78_code
def yX8_markOf : MethodName := ⟨RX8, "markOf", "(I)I"⟩
abbrev cX8_sizeOf : ByteArray := prog_10_method_79_code
def yX8_sizeOf : MethodName := ⟨RX8, "sizeOf", "(I)I"⟩
abbrev cX8_ask : ByteArray := prog_10_method_80_code
def yX8_ask : MethodName := ⟨RX8, "ask", "(II)I"⟩
abbrev cX8_trace : ByteArray := prog_10_method_81_code
def yX8_trace : MethodName := ⟨RX8, "trace", "(I)I"⟩
abbrev cX8_count : ByteArray := prog_10_method_82_code
def yX8_count : MethodName := ⟨RX8, "count", "(I)I"⟩
abbrev cX8_status : ByteArray := prog_10_method_83_code
def yX8_status : MethodName := ⟨RX8, "status", "()I"⟩
def RJx145de : String := "java/io/Serializable"
def TJx145de : u_T := fun k => match k with
  | _ => ("", "", "", false)
def tyJx145de : Nat → FieldType := fun k => match k with
  | _ => .int
abbrev wsJx145de0 : List Cond := u_ws RJx145de TJx145de 0
theorem nmJx145de : ∀ a, a < 0 → ∀ b, b < 0 → a ≠ b → (TJx145de a).2.1 ≠ (TJx145de b).2.1 := by decide +kernel
theorem tyJx145de_ok : ∀ k, k < 0 → parseFieldDescriptor (TJx145de k).2.2.1 = some (tyJx145de k) := by decide +kernel
def RJx9f9b0 : String := "java/lang/CharSequence"
def TJx9f9b0 : u_T := fun k => match k with
  | _ => ("", "", "", false)
def tyJx9f9b0 : Nat → FieldType := fun k => match k with
  | _ => .int
abbrev wsJx9f9b00 : List Cond := u_ws RJx9f9b0 TJx9f9b0 0
theorem nmJx9f9b0 : ∀ a, a < 0 → ∀ b, b < 0 → a ≠ b → (TJx9f9b0 a).2.1 ≠ (TJx9f9b0 b).2.1 := by decide +kernel
theorem tyJx9f9b0_ok : ∀ k, k < 0 → parseFieldDescriptor (TJx9f9b0 k).2.2.1 = some (tyJx9f9b0 k) := by decide +kernel
def RJxb160c : String := "java/lang/Comparable"
def TJxb160c : u_T := fun k => match k with
  | _ => ("", "", "", false)
def tyJxb160c : Nat → FieldType := fun k => match k with
  | _ => .int
abbrev wsJxb160c0 : List Cond := u_ws RJxb160c TJxb160c 0
theorem nmJxb160c : ∀ a, a < 0 → ∀ b, b < 0 → a ≠ b → (TJxb160c a).2.1 ≠ (TJxb160c b).2.1 := by decide +kernel
theorem tyJxb160c_ok : ∀ k, k < 0 → parseFieldDescriptor (TJxb160c k).2.2.1 = some (tyJxb160c k) := by decide +kernel
def RJ6 : String := "java/lang/Integer"
def TJ6 : u_T := fun k => match k with
  | _ => ("", "", "", false)
def tyJ6 : Nat → FieldType := fun k => match k with
  | _ => .int
abbrev wsJ60 : List Cond := u_ws RJ6 TJ6 0
theorem nmJ6 : ∀ a, a < 0 → ∀ b, b < 0 → a ≠ b → (TJ6 a).2.1 ≠ (TJ6 b).2.1 := by decide +kernel
theorem tyJ6_ok : ∀ k, k < 0 → parseFieldDescriptor (TJ6 k).2.2.1 = some (tyJ6 k) := by decide +kernel
abbrev cJ6_bitCount_0f7a4 : ByteArray := prog_11_method_49_code
def yJ6_bitCount_0f7a4 : MethodName := ⟨RJ6, "bitCount", "(I)I"⟩
def RJ9 : String := "java/lang/Math"
def TJ9 : u_T := fun k => match k with
  | _ => ("", "", "", false)
def tyJ9 : Nat → FieldType := fun k => match k with
  | _ => .int
abbrev wsJ90 : List Cond := u_ws RJ9 TJ9 0
theorem nmJ9 : ∀ a, a < 0 → ∀ b, b < 0 → a ≠ b → (TJ9 a).2.1 ≠ (TJ9 b).2.1 := by decide +kernel
theorem tyJ9_ok : ∀ k, k < 0 → parseFieldDescriptor (TJ9 k).2.2.1 = some (tyJ9 k) := by decide +kernel
abbrev cJ9_abs_0f7a4 : ByteArray := prog_12_method_59_code
def yJ9_abs_0f7a4 : MethodName := ⟨RJ9, "abs", "(I)I"⟩
abbrev cJ9_max_7cf53 : ByteArray := prog_12_method_65_code
def yJ9_max_7cf53 : MethodName := ⟨RJ9, "max", "(II)I"⟩
abbrev cJ9_min_7cf53 : ByteArray := prog_12_method_69_code
def yJ9_min_7cf53 : MethodName := ⟨RJ9, "min", "(II)I"⟩
def RJ0 : String := "java/lang/String"
def TJ0 : u_T := fun k => match k with
  | _ => ("", "", "", false)
def tyJ0 : Nat → FieldType := fun k => match k with
  | _ => .int
abbrev wsJ00 : List Cond := u_ws RJ0 TJ0 0
theorem nmJ0 : ∀ a, a < 0 → ∀ b, b < 0 → a ≠ b → (TJ0 a).2.1 ≠ (TJ0 b).2.1 := by decide +kernel
theorem tyJ0_ok : ∀ k, k < 0 → parseFieldDescriptor (TJ0 k).2.2.1 = some (tyJ0 k) := by decide +kernel
abbrev cJ0_length_8abf5 : ByteArray := prog_13_method_54_code
def yJ0_length_8abf5 : MethodName := ⟨RJ0, "length", "()I"⟩
abbrev cJ0_charAt_5068e : ByteArray := prog_13_method_56_code
def yJ0_charAt_5068e : MethodName := ⟨RJ0, "charAt", "(I)C"⟩
abbrev cJ0_coder_7d493 : ByteArray := prog_13_method_152_code
def yJ0_coder_7d493 : MethodName := ⟨RJ0, "coder", "()B"⟩
abbrev cJ0_isLatin1_aae02 : ByteArray := prog_13_method_154_code
def yJ0_isLatin1_aae02 : MethodName := ⟨RJ0, "isLatin1", "()Z"⟩
abbrev cJ0_checkIndex_df160 : ByteArray := prog_13_method_155_code
def yJ0_checkIndex_df160 : MethodName := ⟨RJ0, "checkIndex", "(II)V"⟩
def RJ1 : String := "java/lang/StringLatin1"
def TJ1 : u_T := fun k => match k with
  | _ => ("", "", "", false)
def tyJ1 : Nat → FieldType := fun k => match k with
  | _ => .int
abbrev wsJ10 : List Cond := u_ws RJ1 TJ1 0
theorem nmJ1 : ∀ a, a < 0 → ∀ b, b < 0 → a ≠ b → (TJ1 a).2.1 ≠ (TJ1 b).2.1 := by decide +kernel
theorem tyJ1_ok : ∀ k, k < 0 → parseFieldDescriptor (TJ1 k).2.2.1 = some (tyJ1 k) := by decide +kernel
abbrev cJ1_charAt_3b067 : ByteArray := prog_14_method_2_code
def yJ1_charAt_3b067 : MethodName := ⟨RJ1, "charAt", "([BI)C"⟩
def RJ2 : String := "java/lang/StringUTF16"
def TJ2 : u_T := fun k => match k with
  | _ => ("", "", "", false)
def tyJ2 : Nat → FieldType := fun k => match k with
  | _ => .int
abbrev wsJ20 : List Cond := u_ws RJ2 TJ2 0
theorem nmJ2 : ∀ a, a < 0 → ∀ b, b < 0 → a ≠ b → (TJ2 a).2.1 ≠ (TJ2 b).2.1 := by decide +kernel
theorem tyJ2_ok : ∀ k, k < 0 → parseFieldDescriptor (TJ2 k).2.2.1 = some (tyJ2 k) := by decide +kernel
abbrev cJ2_getChar_3b067 : ByteArray := prog_15_method_5_code
def yJ2_getChar_3b067 : MethodName := ⟨RJ2, "getChar", "([BI)C"⟩
abbrev cJ2_length_9d52b : ByteArray := prog_15_method_6_code
def yJ2_length_9d52b : MethodName := ⟨RJ2, "length", "([B)I"⟩
abbrev cJ2_charAt_3b067 : ByteArray := prog_15_method_83_code
def yJ2_charAt_3b067 : MethodName := ⟨RJ2, "charAt", "([BI)C"⟩
abbrev cJ2_checkIndex_2214a : ByteArray := prog_15_method_91_code
def yJ2_checkIndex_2214a : MethodName := ⟨RJ2, "checkIndex", "(I[B)V"⟩
def RJ10 : String := "java/lang/System"
def TJ10 : u_T := fun k => match k with
  | _ => ("", "", "", false)
def tyJ10 : Nat → FieldType := fun k => match k with
  | _ => .int
abbrev wsJ100 : List Cond := u_ws RJ10 TJ10 0
theorem nmJ10 : ∀ a, a < 0 → ∀ b, b < 0 → a ≠ b → (TJ10 a).2.1 ≠ (TJ10 b).2.1 := by decide +kernel
theorem tyJ10_ok : ∀ k, k < 0 → parseFieldDescriptor (TJ10 k).2.2.1 = some (tyJ10 k) := by decide +kernel
def RJxfd54e : String := "java/lang/constant/Constable"
def TJxfd54e : u_T := fun k => match k with
  | _ => ("", "", "", false)
def tyJxfd54e : Nat → FieldType := fun k => match k with
  | _ => .int
abbrev wsJxfd54e0 : List Cond := u_ws RJxfd54e TJxfd54e 0
theorem nmJxfd54e : ∀ a, a < 0 → ∀ b, b < 0 → a ≠ b → (TJxfd54e a).2.1 ≠ (TJxfd54e b).2.1 := by decide +kernel
theorem tyJxfd54e_ok : ∀ k, k < 0 → parseFieldDescriptor (TJxfd54e k).2.2.1 = some (tyJxfd54e k) := by decide +kernel
def RJx3cf43 : String := "java/lang/constant/ConstantDesc"
def TJx3cf43 : u_T := fun k => match k with
  | _ => ("", "", "", false)
def tyJx3cf43 : Nat → FieldType := fun k => match k with
  | _ => .int
abbrev wsJx3cf430 : List Cond := u_ws RJx3cf43 TJx3cf43 0
theorem nmJx3cf43 : ∀ a, a < 0 → ∀ b, b < 0 → a ≠ b → (TJx3cf43 a).2.1 ≠ (TJx3cf43 b).2.1 := by decide +kernel
theorem tyJx3cf43_ok : ∀ k, k < 0 → parseFieldDescriptor (TJx3cf43 k).2.2.1 = some (tyJx3cf43 k) := by decide +kernel
def RJ7 : String := "java/util/Arrays"
def TJ7 : u_T := fun k => match k with
  | _ => ("", "", "", false)
def tyJ7 : Nat → FieldType := fun k => match k with
  | _ => .int
abbrev wsJ70 : List Cond := u_ws RJ7 TJ7 0
theorem nmJ7 : ∀ a, a < 0 → ∀ b, b < 0 → a ≠ b → (TJ7 a).2.1 ≠ (TJ7 b).2.1 := by decide +kernel
theorem tyJ7_ok : ∀ k, k < 0 → parseFieldDescriptor (TJ7 k).2.2.1 = some (tyJ7 k) := by decide +kernel
abbrev cJ7_fill_53178 : ByteArray := prog_17_method_103_code
def yJ7_fill_53178 : MethodName := ⟨RJ7, "fill", "([II)V"⟩
def RJ3 : String := "jdk/internal/util/Preconditions"
def TJ3 : u_T := fun k => match k with
  | _ => ("", "", "", false)
def tyJ3 : Nat → FieldType := fun k => match k with
  | _ => .int
abbrev wsJ30 : List Cond := u_ws RJ3 TJ3 0
theorem nmJ3 : ∀ a, a < 0 → ∀ b, b < 0 → a ≠ b → (TJ3 a).2.1 ≠ (TJ3 b).2.1 := by decide +kernel
theorem tyJ3_ok : ∀ k, k < 0 → parseFieldDescriptor (TJ3 k).2.2.1 = some (tyJ3 k) := by decide +kernel
abbrev cJ3_checkIndex_8e157 : ByteArray := prog_18_method_11_code
def yJ3_checkIndex_8e157 : MethodName := ⟨RJ3, "checkIndex", "(IILjava/util/function/BiFunction;)I"⟩
def RL : String := "RailOfHeadsLaw"
abbrev cL_law : ByteArray := code
def yL_law : MethodName := ⟨RL, "law", "([I)Z"⟩

abbrev vwCl : List vw_C := [(RX0, TX0, 3), (RX1, TX1, 15), (RX2, TX2, 3), (RX3, TX3, 18), (RX4, TX4, 8), (RX5, TX5, 4), (RX6, TX6, 2), (RX7, TX7, 10), (RX8, TX8, 33)]
end
section
/-! ===== the shape of the heap behind the two constructors: cell (k, o) ===== -/
def mx_nth : List Nat → Nat → Nat
  | [], _ => 0
  | a :: _, 0 => a
  | _ :: l, n + 1 => mx_nth l n
def mx_nthL {α : Type} : List (List α) → Nat → List α
  | [], _ => []
  | a :: _, 0 => a
  | _ :: l, n + 1 => mx_nthL l n
def mx_nthP : List (Nat × Nat × Nat) → Nat → Nat × Nat × Nat
  | [], _ => (0, 0, 0)
  | a :: _, 0 => a
  | _ :: l, n + 1 => mx_nthP l n
def mx_nthI : List Int32 → Nat → Int32
  | [], _ => 0
  | a :: _, 0 => a
  | _ :: l, n + 1 => mx_nthI l n
def mx_cOT : List Nat := [3, 4, 0, 0, 0, 0, 0, 0, 0, 0, 0, 0, 0, 7, 0, 0, 2, 0, 0, 0, 0, 0, 0, 0, 0, 0, 0, 0, 8, 5, 0, 0, 6, 0, 0, 1, 0, 0, 0, 9, 0, 0, 0, 0, 0, 0, 0, 0, 0, 0, 0, 0, 0, 0, 0]
def mx_aTT : List Nat := [0, 0, 1, 1, 1, 1, 1, 1, 1, 1, 1, 1, 1, 0, 1, 1, 0, 1, 1, 1, 1, 1, 1, 1, 1, 1, 1, 1, 0, 0, 2, 4, 0, 1, 5, 0, 1, 1, 1, 0, 1, 1, 1, 1, 1, 1, 1, 1, 1, 1, 1, 3, 1, 1, 1]
def mx_aNT : List Nat := [0, 0, 6, 9, 9, 9, 8, 8, 8, 6, 6, 6, 6, 0, 36, 36, 0, 30, 30, 30, 30, 30, 30, 30, 240, 6, 30, 8, 0, 0, 400, 8, 0, 40, 2, 0, 16, 4, 4, 0, 8, 8, 320, 80, 80, 421, 400, 36, 8, 8, 8, 2, 160, 842, 16]
def mx_kMT : List Nat := [4, 4, 4, 4, 4, 4, 4, 4, 4, 4, 4, 4, 4, 4, 4, 4, 4, 4, 4, 4, 4, 4, 4, 4, 4, 4, 4, 4, 1, 1, 1, 1, 8, 8, 1, 1, 1, 1, 1, 1, 1, 1, 1, 1, 1, 2, 1, 1, 1, 1, 1, 1, 1, 1, 1]
def mx_fkT : List (List Nat) := [[2, 2, 2], [0, 0, 0, 2, 0, 2, 2, 2, 0, 2, 2, 2, 0, 2, 2, 2, 2, 0], [], [], [], [], [], [], [], [], [], [], [], [2, 2], [], [], [2, 2, 0, 0, 2, 2, 2, 2, 2, 2, 2, 2, 2, 2, 2], [], [], [], [], [], [], [], [], [], [], [], [2, 2, 2, 2, 2, 2, 2, 2, 0, 0], [2, 0, 0, 0, 0, 0, 0, 3], [], [], [2, 1, 0, 0], [], [], [2, 2, 0], [], [], [], [0, 0, 2, 2, 2, 2, 2, 1, 2, 2, 2, 0, 0, 0, 0, 0, 0, 0, 0, 0, 2, 0, 0, 0, 2, 2, 2, 0, 2, 2, 2, 2, 0], [], [], [], [], [], [], [], [], [], [], [], [], [], [], []]
def mx_ptT : List (List (Nat × Nat × Nat)) := [[(1, 0, 1), (1, 0, 13), (1, 0, 16)], [(0, 0, 0), (0, 0, 0), (0, 0, 0), (1, 0, 2), (0, 0, 0), (1, 0, 3), (1, 0, 4), (1, 0, 5), (0, 0, 0), (1, 0, 6), (1, 0, 7), (1, 0, 8), (0, 0, 0), (1, 0, 9), (1, 0, 10), (1, 0, 11), (1, 0, 12), (0, 0, 0)], [], [], [], [], [], [], [], [], [], [], [], [(1, 0, 14), (1, 0, 15)], [], [], [(1, 0, 1), (1, 0, 13), (0, 0, 0), (0, 0, 0), (1, 0, 17), (1, 0, 18), (1, 0, 19), (1, 0, 20), (1, 0, 21), (1, 0, 22), (1, 0, 23), (1, 0, 24), (1, 0, 25), (1, 0, 26), (1, 0, 27)], [], [], [], [], [], [], [], [], [], [], [], [(0, 0, 31), (0, 0, 29), (0, 0, 0), (0, 1, 0), (0, 0, 34), (0, 0, 35), (0, 0, 37), (0, 0, 38), (0, 0, 0), (0, 0, 0)], [(0, 0, 30), (0, 0, 0), (0, 0, 0), (0, 0, 0), (0, 0, 0), (0, 0, 0), (0, 0, 0), (0, 1, 1)], [], [], [(1, 0, 33), (0, 0, 0), (0, 0, 0), (0, 0, 0)], [], [], [(0, 0, 16), (0, 0, 36), (0, 0, 0)], [], [], [], [(0, 0, 0), (0, 0, 0), (0, 0, 40), (0, 0, 41), (0, 0, 42), (0, 0, 43), (0, 0, 44), (0, 0, 0), (0, 0, 45), (0, 1, 45), (0, 0, 46), (0, 0, 0), (0, 0, 0), (0, 0, 0), (0, 0, 0), (0, 0, 0), (0, 0, 0), (0, 0, 0), (0, 0, 0), (0, 0, 0), (0, 0, 47), (0, 0, 0), (0, 0, 0), (0, 0, 0), (0, 0, 48), (0, 0, 49), (0, 0, 50), (0, 0, 0), (0, 0, 51), (0, 0, 52), (0, 0, 53), (0, 0, 54), (0, 0, 0)], [], [], [], [], [], [], [], [], [], [], [], [], [], [], []]
def mx_cO (o : Nat) : Nat := mx_nth mx_cOT o
def mx_aT (o : Nat) : Nat := mx_nth mx_aTT o
def mx_aN (o : Nat) : Nat := mx_nth mx_aNT o
def mx_kM (o : Nat) : Nat := mx_nth mx_kMT o
def mx_fk (o j : Nat) : Nat := mx_nth (mx_nthL mx_fkT o) j
def mx_pt (k o j : Nat) : Nat × Nat := match mx_nthP (mx_nthL mx_ptT o) j with
  | (1, _, o') => (k, o')
  | (_, k', o') => (k', o')
def mx_rA (o j : Nat) : Nat × Nat := match Nat.beq o 31 with
  | true => (j, 32)
  | false => (j + 2, 0)
abbrev mx_oS : Nat := 55
abbrev mx_oB : Nat := 56
abbrev mx_oQ : Nat := 57
abbrev mx_oX : Nat := 58
def mx_sT : List (List Int32) := [[114, 97, 105, 108], [114, 111, 111, 109], [100, 111, 111, 114], [111, 110, 101], [112, 105, 99, 116, 117, 114, 101], [103, 114, 111, 117, 112], [102, 105, 114, 115, 116], [100, 114, 97, 119], [114, 111, 117, 110, 100]]
def mx_sNT : List Nat := [4, 4, 4, 3, 7, 5, 5, 4, 5]
def mx_sN (k : Nat) : Nat := mx_nth mx_sNT k
def mx_sB (k j : Nat) : Int32 := mx_nthI (mx_nthL mx_sT k) j
end
section
/-! ===== a small machine: what a method does, as a function over numbers; its soundness over the bytecode stands in a later part ===== -/
abbrev mx_V : Type := Int32 ⊕ Int64 ⊕ (Nat × Nat)
abbrev mx_I (x : Int32) : mx_V := Sum.inl x
abbrev mx_J (x : Int64) : mx_V := Sum.inr (Sum.inl x)
abbrev mx_R (k o : Nat) : mx_V := Sum.inr (Sum.inr (k, o))
abbrev mx_S : Type := Nat → Nat → Nat → Int32
abbrev mx_Loc : Type := List (Option mx_V)
abbrev mx_Op : Type := Nat × Int32 × Int64 × Nat × Nat × List Nat
abbrev mx_Rt : Type := Option mx_V × mx_S
def mx_up (σ : mx_S) (k o j : Nat) (v : Int32) : mx_S := fun k' o' j' => if k' = k ∧ o' = o ∧ j' = j then v else σ k' o' j'
def mx_cp (σ : mx_S) (k o k1 o1 sp dp n : Nat) : mx_S := fun k' o' j' => if k' = k1 ∧ o' = o1 then va_cpy (σ k o) (σ k1 o1) sp dp n j' else σ k' o' j'
def mx_g {α : Type} (fl : α) (i : Int32) (n : Nat) (f : Nat → α) : α := if i < 0 ∨ n ≤ i.toNatClampNeg then fl else f i.toNatClampNeg
def mx_d {α : Type} (fl : α) (y : Int32) (f : α) : α := if y = 0 then fl else f
def mx_z {α : Type} (fl : α) (b : Nat) (x : Int32) (f : α) : α := match Nat.ble x.toBitVec.toNat (match b with | 1 => 1 | 2 => 65535 | _ => 127) with
  | true => f
  | false => fl
def mx_w {α : Type} (s : mx_S) (f : mx_S → α) : α := f s
def mx_kp : List Nat → mx_Loc → mx_Loc
  | 1 :: ts, v :: l => v :: mx_kp ts l
  | _ :: ts, _ :: l => none :: mx_kp ts l
  | _, _ => []
def mx_c {α : Type} (σ : mx_S) (sp dp : Int32) (k o : Nat) (n : Int32) (k1 o1 : Nat) (fl : α) (f : mx_S → α) : α := if sp < 0 ∨ dp < 0 ∨ n < 0 ∨ mx_aN o < sp.toNatClampNeg + n.toNatClampNeg ∨ mx_aN o1 < dp.toNatClampNeg + n.toNatClampNeg then fl else f (mx_cp σ k o k1 o1 sp.toNatClampNeg dp.toNatClampNeg n.toNatClampNeg)
def mx_bI {α : Type} (fl : α) (r : Option mx_Rt) (f : Int32 → mx_S → α) : α := match r with
  | some (some (Sum.inl x), σ) => f x σ
  | _ => fl
def mx_bJ {α : Type} (fl : α) (r : Option mx_Rt) (f : Int64 → mx_S → α) : α := match r with
  | some (some (Sum.inr (Sum.inl x)), σ) => f x σ
  | _ => fl
def mx_bV {α : Type} (fl : α) (r : Option mx_Rt) (f : mx_S → α) : α := match r with
  | some (none, σ) => f σ
  | _ => fl
def mx_bin {α : Type} (b : Nat) (x y : Int32) (f : Int32 → α) : α := match b with
  | 0 => f (x + y)
  | 1 => f (x - y)
  | 2 => f (x * y)
  | 3 => f (x &&& y)
  | 4 => f (x ||| y)
  | 5 => f (x <<< (y &&& 31))
  | 6 => f (x >>> (y &&& 31))
  | _ => f (x.toUInt32 >>> (y.toUInt32 &&& Int32.toUInt32 31)).toInt32
def mx_div {α : Type} (b : Nat) (x y : Int32) (f : Int32 → α) : α := match b with
  | 0 => f (x / y)
  | _ => f (x - x / y * y)
def mx_un {α : Type} (b : Nat) (x : Int32) (f : Int32 → α) : α := match b with
  | 0 => f (-x)
  | 1 => f x.toInt8.toInt32
  | 2 => f x.toInt16.toInt32
  | _ => f (x.toUInt32 % 65536).toInt32
def mx_lb {α : Type} (b : Nat) (x y : Int64) (f : Int64 → α) : α := match b with
  | 0 => f (x + y)
  | 1 => f (x &&& y)
  | _ => f (x ||| y)
def mx_lsh {α : Type} (b : Nat) (x : Int64) (y : Int32) (f : Int64 → α) : α := match b with
  | 0 => f (x <<< (y.toInt64 &&& 63))
  | _ => f (x >>> (y.toInt64 &&& 63))
def mx_nr (b : Nat) (x : Int32) : Int32 := match b with
  | 0 => vp_nar .byte x
  | _ => vp_nar .boolean x
def mx_if {α : Type} (b : Nat) (x y : Int32) (t f : α) : α := match b with
  | 0 => if x = y then t else f
  | 1 => if x = y then f else t
  | 2 => if x < y then t else f
  | 3 => if y ≤ x then t else f
  | 4 => if y < x then t else f
  | _ => if x ≤ y then t else f
def mx_lo : mx_Loc → Nat → Option mx_V
  | [], _ => none
  | v :: _, 0 => v
  | _ :: l, n + 1 => mx_lo l n
def mx_st1 (loc : mx_Loc) (i : Nat) (v : mx_V) : mx_Loc := match i with
  | 0 => loc.set 0 (some v)
  | j + 1 => match mx_lo loc j with
    | some (Sum.inr (Sum.inl _)) => (loc.set j none).set (j + 1) (some v)
    | _ => loc.set (j + 1) (some v)
def mx_sw {α : Type} (x : Int32) (d : α) : Nat → List α → α
  | _, [] => d
  | k, t :: ts => if x = Int32.ofNat k then t else mx_sw x d (k + 1) ts
/-- the receiver is of its class, not much lies below the arguments -/
def mx_rc (q : Nat) (as : List mx_V) : Bool := match q with
  | 0 => true
  | _ => match as with
    | Sum.inr (Sum.inr (_, o)) :: _ => match Nat.beq q 10 with
      | true => Nat.beq o mx_oS
      | false => Nat.beq (mx_cO o) q
    | _ => false
def mx_wd : List mx_V → Nat
  | [] => 0
  | Sum.inr (Sum.inl _) :: as => mx_wd as + 2
  | Sum.inl _ :: as => mx_wd as + 1
  | Sum.inr (Sum.inr _) :: as => mx_wd as + 1
def mx_cg (b q n : Nat) (stk : List mx_V) : Bool := Nat.ble b stk.length && (Nat.ble (stk.drop b).length 4 && (Nat.ble (mx_wd (stk.take b).reverse) n && mx_rc q (stk.take b).reverse))
section Step
variable {α : Type} (kn : mx_Loc → List mx_V → mx_S → α) (kj : Nat → mx_Loc → List mx_V → mx_S → α) (kr : Option mx_V → mx_S → α) (kc : Nat → Nat → List mx_V → mx_Loc → List mx_V → mx_S → α) (kh : Nat → mx_Loc → mx_S → α) (fl : α)
def mx_getf (a b : Nat) (loc : mx_Loc) (stk : List mx_V) (σ : mx_S) : α := match stk with
  | Sum.inr (Sum.inr (k, o)) :: r => match Nat.beq (mx_cO o) (a + 1) with
    | true => match mx_fk o b with
      | 2 => match mx_pt k o b with
        | (k', o') => kn loc (Sum.inr (Sum.inr (k', o')) :: r) σ
      | 3 => match mx_pt k o b with
        | (k', o') => if σ k o b = 0 then fl else kn loc (Sum.inr (Sum.inr (k', o')) :: r) σ
      | _ => kn loc (Sum.inl (σ k o b) :: r) σ
    | false => fl
  | _ => fl
def mx_putf (a b : Nat) (loc : mx_Loc) (stk : List mx_V) (σ : mx_S) : α := match stk with
  | Sum.inl x :: Sum.inr (Sum.inr (k, o)) :: r => match Nat.beq (mx_cO o) (a + 1) with
    | true => match mx_fk o b with
      | 0 => mx_w (mx_up σ k o b x) (fun σ => kn loc r σ)
      | 1 => mx_z fl 1 x (mx_w (mx_up σ k o b x) (fun σ => kn loc r σ))
      | _ => fl
    | false => fl
  | Sum.inr (Sum.inr (k', o')) :: Sum.inr (Sum.inr (k, o)) :: r => match Nat.beq (mx_cO o) (a + 1) with
    | true => match mx_fk o b with
      | 3 => match Nat.beq (mx_pt k o b).1 k', Nat.beq (mx_pt k o b).2 o' with
        | true, true => mx_w (mx_up σ k o b 1) (fun σ => kn loc r σ)
        | _, _ => fl
      | _ => fl
    | false => fl
  | _ => fl
def mx_step (i : mx_Op) (loc : mx_Loc) (stk : List mx_V) (σ : mx_S) : α :=
  let im := i.2.1
  let jm := i.2.2.1
  let a := i.2.2.2.1
  let b := i.2.2.2.2.1
  let ts := i.2.2.2.2.2
  match i.1 with
  | 0 => match mx_lo loc a with
    | some (Sum.inl x) => kn loc (Sum.inl x :: stk) σ
    | _ => fl
  | 1 => match mx_lo loc a with
    | some (Sum.inr (Sum.inl x)) => kn loc (Sum.inr (Sum.inl x) :: stk) σ
    | _ => fl
  | 2 => match mx_lo loc a with
    | some (Sum.inr (Sum.inr (k, o))) => match Nat.beq o mx_oQ with
      | false => kn loc (Sum.inr (Sum.inr (k, o)) :: stk) σ
      | true => fl
    | _ => fl
  | 3 => match stk with
    | Sum.inl x :: r => kn (mx_st1 loc a (Sum.inl x)) r σ
    | _ => fl
  | 4 => match stk with
    | Sum.inr (Sum.inl x) :: r => kn ((mx_st1 loc a (Sum.inr (Sum.inl x))).set (a + 1) none) r σ
    | _ => fl
  | 5 => match stk with
    | Sum.inr (Sum.inr (k, o)) :: r => match Nat.beq o mx_oQ with
      | false => kn (mx_st1 loc a (Sum.inr (Sum.inr (k, o)))) r σ
      | true => fl
    | _ => fl
  | 6 => kn loc (Sum.inl im :: stk) σ
  | 7 => kn loc (Sum.inr (Sum.inl jm) :: stk) σ
  | 8 => match stk with
    | Sum.inl y :: Sum.inl x :: r => mx_bin b x y (fun z => kn loc (Sum.inl z :: r) σ)
    | _ => fl
  | 9 => match stk with
    | Sum.inl y :: Sum.inl x :: r => mx_d fl y (mx_div b x y (fun z => kn loc (Sum.inl z :: r) σ))
    | _ => fl
  | 10 => match stk with
    | Sum.inl x :: r => mx_un b x (fun z => kn loc (Sum.inl z :: r) σ)
    | _ => fl
  | 11 => match stk with
    | Sum.inr (Sum.inl y) :: Sum.inr (Sum.inl x) :: r => mx_lb b x y (fun z => kn loc (Sum.inr (Sum.inl z) :: r) σ)
    | _ => fl
  | 12 => match stk with
    | Sum.inl y :: Sum.inr (Sum.inl x) :: r => mx_lsh b x y (fun z => kn loc (Sum.inr (Sum.inl z) :: r) σ)
    | _ => fl
  | 13 => match stk with
    | Sum.inr (Sum.inl y) :: Sum.inr (Sum.inl x) :: r => kn loc (Sum.inl (lg_cmp x y) :: r) σ
    | _ => fl
  | 14 => match stk with
    | Sum.inl x :: r => kn loc (Sum.inr (Sum.inl x.toInt64) :: r) σ
    | _ => fl
  | 15 => match stk with
    | Sum.inr (Sum.inl x) :: r => kn loc (Sum.inl x.toInt32 :: r) σ
    | _ => fl
  | 16 => match mx_lo loc a with
    | some (Sum.inl x) => kn (mx_st1 loc a (Sum.inl (x + im))) stk σ
    | _ => fl
  | 17 => match stk with
    | Sum.inl x :: r => kn loc (Sum.inl x :: Sum.inl x :: r) σ
    | Sum.inr (Sum.inr q) :: r => kn loc (Sum.inr (Sum.inr q) :: Sum.inr (Sum.inr q) :: r) σ
    | _ => fl
  | 18 => match stk with
    | Sum.inl x :: Sum.inr (Sum.inr q) :: r => kn loc (Sum.inl x :: Sum.inr (Sum.inr q) :: Sum.inl x :: Sum.inr (Sum.inr q) :: r) σ
    | _ => fl
  | 19 => match stk with
    | Sum.inl x :: r => mx_if b x 0 (kj a loc r σ) (kn loc r σ)
    | _ => fl
  | 20 => match stk with
    | Sum.inl y :: Sum.inl x :: r => mx_if b x y (kj a loc r σ) (kn loc r σ)
    | _ => fl
  | 21 => kj a loc stk σ
  | 22 => match stk with
    | Sum.inl x :: r => mx_sw x (kj a loc r σ) b (ts.map fun t => kj t loc r σ)
    | _ => fl
  | 23 => mx_getf kn fl a b loc stk σ
  | 24 => mx_putf kn fl a b loc stk σ
  | 25 => match stk with
    | Sum.inl i :: Sum.inr (Sum.inr (k, o)) :: r => match Nat.beq (mx_aT o) 1 with
      | true => mx_g fl i (mx_aN o) (fun j => kn loc (Sum.inl (σ k o j) :: r) σ)
      | false => fl
    | _ => fl
  | 26 => match stk with
    | Sum.inl x :: Sum.inl i :: Sum.inr (Sum.inr (k, o)) :: r => match Nat.beq (mx_aT o) 1 with
      | true => mx_g fl i (mx_aN o) (fun j => mx_w (mx_up σ k o j x) (fun σ => kn loc r σ))
      | false => fl
    | _ => fl
  | 27 => match stk with
    | Sum.inl i :: Sum.inr (Sum.inr (k, o)) :: r => match Nat.beq (mx_aT o) (b + 2) with
      | true => mx_g fl i (mx_aN o) (fun j => kn loc (Sum.inl (σ k o j) :: r) σ)
      | false => fl
    | _ => fl
  | 28 => match stk with
    | Sum.inl x :: Sum.inl i :: Sum.inr (Sum.inr (k, o)) :: r => match Nat.beq (mx_aT o) (b + 2) with
      | true => mx_g fl i (mx_aN o) (fun j => mx_w (mx_up σ k o j (mx_nr b x)) (fun σ => kn loc r σ))
      | false => fl
    | _ => fl
  | 29 => match stk with
    | Sum.inl i :: Sum.inr (Sum.inr (_, o)) :: r => match Nat.beq (mx_aT o) (b + 4) with
      | true => mx_g fl i (mx_aN o) (fun j => match mx_rA o j with
        | (k', o') => kn loc (Sum.inr (Sum.inr (k', o')) :: r) σ)
      | false => fl
    | _ => fl
  | 30 => match stk with
    | Sum.inr (Sum.inr (_, o)) :: r => match Nat.beq (mx_aT o) 1 with
      | true => kn loc (Sum.inl (Int32.ofNat (mx_aN o)) :: r) σ
      | false => fl
    | _ => fl
  | 31 => match mx_cg b (mx_nth ts 1) (mx_nth ts 2) stk with
    | true => kc a (mx_nth ts 0) (stk.take b).reverse loc (stk.drop b) σ
    | false => fl
  | 32 => match stk with
    | [Sum.inl x] => match b with
      | 0 => kr (some (Sum.inl x)) σ
      | _ => mx_z fl b x (kr (some (Sum.inl x)) σ)
    | _ => fl
  | 33 => match stk with
    | [Sum.inr (Sum.inl x)] => kr (some (Sum.inr (Sum.inl x))) σ
    | _ => fl
  | 34 => match stk with
    | [] => kr none σ
    | _ => fl
  | 35 => kn loc (Sum.inr (Sum.inr (a, mx_oS)) :: stk) σ
  | 36 => match stk with
    | Sum.inl n :: Sum.inl dp :: Sum.inr (Sum.inr (k1, o1)) :: Sum.inl sp :: Sum.inr (Sum.inr (k, o)) :: r => match Nat.beq (mx_aT o) 1, Nat.beq (mx_aT o1) 1 with
      | true, true => match Nat.ble r.length 4 with
        | true => mx_c σ sp dp k o n k1 o1 fl (fun σ => kn loc r σ)
        | false => fl
      | _, _ => fl
    | _ => fl
  | 37 => kn loc (Sum.inl 1 :: stk) σ
  | 38 => kn loc (Sum.inr (Sum.inr (0, mx_oQ)) :: stk) σ
  | 39 => match stk with
    | Sum.inr (Sum.inr (k, o)) :: r => match Nat.beq o mx_oS with
      | true => match b with
        | 0 => kn loc (Sum.inr (Sum.inr (k, mx_oB)) :: r) σ
        | _ => kn loc (Sum.inl 0 :: r) σ
      | false => fl
    | _ => fl
  | 40 => match stk with
    | Sum.inr (Sum.inr (k, o)) :: r => match Nat.beq o mx_oB with
      | true => kn loc (Sum.inl (Int32.ofNat (mx_sN k)) :: r) σ
      | false => fl
    | _ => fl
  | 41 => match stk with
    | Sum.inl i :: Sum.inr (Sum.inr (k, o)) :: r => match Nat.beq o mx_oB with
      | true => mx_g fl i (mx_sN k) (fun j => kn loc (Sum.inl (mx_sB k j) :: r) σ)
      | false => fl
    | _ => fl
  | 42 => match stk with
    | Sum.inl _ :: r => kn loc r σ
    | _ => fl
  | 43 => match stk with
    | Sum.inl i :: Sum.inr (Sum.inr (0, o)) :: r => match Nat.beq o mx_oX with
      | true => mx_g fl i (σ 0 mx_oX 0).toNatClampNeg (fun j => kn loc (Sum.inl (σ 1 mx_oX j) :: r) σ)
      | false => fl
    | _ => fl
  | 44 => match stk with
    | Sum.inr (Sum.inr (0, o)) :: r => match Nat.beq o mx_oX with
      | true => kn loc (Sum.inl (σ 0 mx_oX 0) :: r) σ
      | false => fl
    | _ => fl
  | 45 => match stk with
    | [] => kh a (mx_kp ts loc) σ
    | _ => fl
  | 46 => match stk with
    | Sum.inl y :: Sum.inl x :: r => match Nat.ble r.length 4 with
      | true => match b with
        | 0 => kn loc (Sum.inl (if y < x then y else x) :: r) σ
        | _ => kn loc (Sum.inl (if x < y then y else x) :: r) σ
      | false => fl
    | _ => fl
  | 47 => match stk with
    | Sum.inl x :: r => match Nat.ble r.length 4 with
      | true => kn loc (Sum.inl (if 0 ≤ x then x else 0 - x) :: r) σ
      | false => fl
    | _ => fl
  | _ => fl
end Step
def mx_run (E : Nat → List mx_V → mx_S → Option mx_Rt) (P : List mx_Op) (K : Nat → mx_Loc → mx_S → Option mx_Rt) : Nat → List mx_Op → mx_Loc → List mx_V → mx_S → Option mx_Rt
  | 0, _, _, _, _ => none
  | _ + 1, [], _, _, _ => none
  | n + 1, i :: c, loc, stk, σ => mx_step (fun l s σ => mx_run E P K n c l s σ) (fun t l s σ => mx_run E P K n (P.drop t) l s σ) (fun v σ => some (v, σ)) (fun y rk as l s σ => match rk with
      | 0 => mx_bV none (E y as σ) (fun σ => mx_run E P K n c l s σ)
      | 1 => mx_bI none (E y as σ) (fun x σ => mx_run E P K n c l (Sum.inl x :: s) σ)
      | _ => mx_bJ none (E y as σ) (fun x σ => mx_run E P K n c l (Sum.inr (Sum.inl x) :: s) σ)) K none i loc stk σ
section Steps
variable {α : Type} (kn : mx_Loc → List mx_V → mx_S → α) (kj : Nat → mx_Loc → List mx_V → mx_S → α) (kr : Option mx_V → mx_S → α) (kc : Nat → Nat → List mx_V → mx_Loc → List mx_V → mx_S → α) (kh : Nat → mx_Loc → mx_S → α) (fl : α) (im : Int32) (jm : Int64) (a b : Nat) (ts : List Nat) (loc : mx_Loc) (stk : List mx_V) (σ : mx_S)
theorem mx_s0 : mx_step kn kj kr kc kh fl (0, im, jm, a, b, ts) loc stk σ = (match mx_lo loc a with
    | some (Sum.inl x) => kn loc (Sum.inl x :: stk) σ
    | _ => fl) := rfl
theorem mx_s1 : mx_step kn kj kr kc kh fl (1, im, jm, a, b, ts) loc stk σ = (match mx_lo loc a with
    | some (Sum.inr (Sum.inl x)) => kn loc (Sum.inr (Sum.inl x) :: stk) σ
    | _ => fl) := rfl
theorem mx_s2 : mx_step kn kj kr kc kh fl (2, im, jm, a, b, ts) loc stk σ = (match mx_lo loc a with
    | some (Sum.inr (Sum.inr (k, o))) => match Nat.beq o mx_oQ with
      | false => kn loc (Sum.inr (Sum.inr (k, o)) :: stk) σ
      | true => fl
    | _ => fl) := rfl
theorem mx_s3 : mx_step kn kj kr kc kh fl (3, im, jm, a, b, ts) loc stk σ = (match stk with
    | Sum.inl x :: r => kn (mx_st1 loc a (Sum.inl x)) r σ
    | _ => fl) := rfl
theorem mx_s4 : mx_step kn kj kr kc kh fl (4, im, jm, a, b, ts) loc stk σ = (match stk with
    | Sum.inr (Sum.inl x) :: r => kn ((mx_st1 loc a (Sum.inr (Sum.inl x))).set (a + 1) none) r σ
    | _ => fl) := rfl
theorem mx_s5 : mx_step kn kj kr kc kh fl (5, im, jm, a, b, ts) loc stk σ = (match stk with
    | Sum.inr (Sum.inr (k, o)) :: r => match Nat.beq o mx_oQ with
      | false => kn (mx_st1 loc a (Sum.inr (Sum.inr (k, o)))) r σ
      | true => fl
    | _ => fl) := rfl
theorem mx_s6 : mx_step kn kj kr kc kh fl (6, im, jm, a, b, ts) loc stk σ = (kn loc (Sum.inl im :: stk) σ) := rfl
theorem mx_s7 : mx_step kn kj kr kc kh fl (7, im, jm, a, b, ts) loc stk σ = (kn loc (Sum.inr (Sum.inl jm) :: stk) σ) := rfl
theorem mx_s8 : mx_step kn kj kr kc kh fl (8, im, jm, a, b, ts) loc stk σ = (match stk with
    | Sum.inl y :: Sum.inl x :: r => mx_bin b x y (fun z => kn loc (Sum.inl z :: r) σ)
    | _ => fl) := rfl
theorem mx_s9 : mx_step kn kj kr kc kh fl (9, im, jm, a, b, ts) loc stk σ = (match stk with
    | Sum.inl y :: Sum.inl x :: r => mx_d fl y (mx_div b x y (fun z => kn loc (Sum.inl z :: r) σ))
    | _ => fl) := rfl
theorem mx_s10 : mx_step kn kj kr kc kh fl (10, im, jm, a, b, ts) loc stk σ = (match stk with
    | Sum.inl x :: r => mx_un b x (fun z => kn loc (Sum.inl z :: r) σ)
    | _ => fl) := rfl
theorem mx_s11 : mx_step kn kj kr kc kh fl (11, im, jm, a, b, ts) loc stk σ = (match stk with
    | Sum.inr (Sum.inl y) :: Sum.inr (Sum.inl x) :: r => mx_lb b x y (fun z => kn loc (Sum.inr (Sum.inl z) :: r) σ)
    | _ => fl) := rfl
theorem mx_s12 : mx_step kn kj kr kc kh fl (12, im, jm, a, b, ts) loc stk σ = (match stk with
    | Sum.inl y :: Sum.inr (Sum.inl x) :: r => mx_lsh b x y (fun z => kn loc (Sum.inr (Sum.inl z) :: r) σ)
    | _ => fl) := rfl
theorem mx_s13 : mx_step kn kj kr kc kh fl (13, im, jm, a, b, ts) loc stk σ = (match stk with
    | Sum.inr (Sum.inl y) :: Sum.inr (Sum.inl x) :: r => kn loc (Sum.inl (lg_cmp x y) :: r) σ
    | _ => fl) := rfl
theorem mx_s14 : mx_step kn kj kr kc kh fl (14, im, jm, a, b, ts) loc stk σ = (match stk with
    | Sum.inl x :: r => kn loc (Sum.inr (Sum.inl x.toInt64) :: r) σ
    | _ => fl) := rfl
theorem mx_s15 : mx_step kn kj kr kc kh fl (15, im, jm, a, b, ts) loc stk σ = (match stk with
    | Sum.inr (Sum.inl x) :: r => kn loc (Sum.inl x.toInt32 :: r) σ
    | _ => fl) := rfl
theorem mx_s16 : mx_step kn kj kr kc kh fl (16, im, jm, a, b, ts) loc stk σ = (match mx_lo loc a with
    | some (Sum.inl x) => kn (mx_st1 loc a (Sum.inl (x + im))) stk σ
    | _ => fl) := rfl
theorem mx_s17 : mx_step kn kj kr kc kh fl (17, im, jm, a, b, ts) loc stk σ = (match stk with
    | Sum.inl x :: r => kn loc (Sum.inl x :: Sum.inl x :: r) σ
    | Sum.inr (Sum.inr q) :: r => kn loc (Sum.inr (Sum.inr q) :: Sum.inr (Sum.inr q) :: r) σ
    | _ => fl) := rfl
theorem mx_s18 : mx_step kn kj kr kc kh fl (18, im, jm, a, b, ts) loc stk σ = (match stk with
    | Sum.inl x :: Sum.inr (Sum.inr q) :: r => kn loc (Sum.inl x :: Sum.inr (Sum.inr q) :: Sum.inl x :: Sum.inr (Sum.inr q) :: r) σ
    | _ => fl) := rfl
theorem mx_s19 : mx_step kn kj kr kc kh fl (19, im, jm, a, b, ts) loc stk σ = (match stk with
    | Sum.inl x :: r => mx_if b x 0 (kj a loc r σ) (kn loc r σ)
    | _ => fl) := rfl
theorem mx_s20 : mx_step kn kj kr kc kh fl (20, im, jm, a, b, ts) loc stk σ = (match stk with
    | Sum.inl y :: Sum.inl x :: r => mx_if b x y (kj a loc r σ) (kn loc r σ)
    | _ => fl) := rfl
theorem mx_s21 : mx_step kn kj kr kc kh fl (21, im, jm, a, b, ts) loc stk σ = (kj a loc stk σ) := rfl
theorem mx_s22 : mx_step kn kj kr kc kh fl (22, im, jm, a, b, ts) loc stk σ = (match stk with
    | Sum.inl x :: r => mx_sw x (kj a loc r σ) b (ts.map fun t => kj t loc r σ)
    | _ => fl) := rfl
theorem mx_s23 : mx_step kn kj kr kc kh fl (23, im, jm, a, b, ts) loc stk σ = (mx_getf kn fl a b loc stk σ) := rfl
theorem mx_s24 : mx_step kn kj kr kc kh fl (24, im, jm, a, b, ts) loc stk σ = (mx_putf kn fl a b loc stk σ) := rfl
theorem mx_s25 : mx_step kn kj kr kc kh fl (25, im, jm, a, b, ts) loc stk σ = (match stk with
    | Sum.inl i :: Sum.inr (Sum.inr (k, o)) :: r => match Nat.beq (mx_aT o) 1 with
      | true => mx_g fl i (mx_aN o) (fun j => kn loc (Sum.inl (σ k o j) :: r) σ)
      | false => fl
    | _ => fl) := rfl
theorem mx_s26 : mx_step kn kj kr kc kh fl (26, im, jm, a, b, ts) loc stk σ = (match stk with
    | Sum.inl x :: Sum.inl i :: Sum.inr (Sum.inr (k, o)) :: r => match Nat.beq (mx_aT o) 1 with
      | true => mx_g fl i (mx_aN o) (fun j => mx_w (mx_up σ k o j x) (fun σ => kn loc r σ))
      | false => fl
    | _ => fl) := rfl
theorem mx_s27 : mx_step kn kj kr kc kh fl (27, im, jm, a, b, ts) loc stk σ = (match stk with
    | Sum.inl i :: Sum.inr (Sum.inr (k, o)) :: r => match Nat.beq (mx_aT o) (b + 2) with
      | true => mx_g fl i (mx_aN o) (fun j => kn loc (Sum.inl (σ k o j) :: r) σ)
      | false => fl
    | _ => fl) := rfl
theorem mx_s28 : mx_step kn kj kr kc kh fl (28, im, jm, a, b, ts) loc stk σ = (match stk with
    | Sum.inl x :: Sum.inl i :: Sum.inr (Sum.inr (k, o)) :: r => match Nat.beq (mx_aT o) (b + 2) with
      | true => mx_g fl i (mx_aN o) (fun j => mx_w (mx_up σ k o j (mx_nr b x)) (fun σ => kn loc r σ))
      | false => fl
    | _ => fl) := rfl
theorem mx_s29 : mx_step kn kj kr kc kh fl (29, im, jm, a, b, ts) loc stk σ = (match stk with
    | Sum.inl i :: Sum.inr (Sum.inr (_, o)) :: r => match Nat.beq (mx_aT o) (b + 4) with
      | true => mx_g fl i (mx_aN o) (fun j => match mx_rA o j with
        | (k', o') => kn loc (Sum.inr (Sum.inr (k', o')) :: r) σ)
      | false => fl
    | _ => fl) := rfl
theorem mx_s30 : mx_step kn kj kr kc kh fl (30, im, jm, a, b, ts) loc stk σ = (match stk with
    | Sum.inr (Sum.inr (_, o)) :: r => match Nat.beq (mx_aT o) 1 with
      | true => kn loc (Sum.inl (Int32.ofNat (mx_aN o)) :: r) σ
      | false => fl
    | _ => fl) := rfl
theorem mx_s31 : mx_step kn kj kr kc kh fl (31, im, jm, a, b, ts) loc stk σ = (match mx_cg b (mx_nth ts 1) (mx_nth ts 2) stk with
    | true => kc a (mx_nth ts 0) (stk.take b).reverse loc (stk.drop b) σ
    | false => fl) := rfl
theorem mx_s32 : mx_step kn kj kr kc kh fl (32, im, jm, a, b, ts) loc stk σ = (match stk with
    | [Sum.inl x] => match b with
      | 0 => kr (some (Sum.inl x)) σ
      | _ => mx_z fl b x (kr (some (Sum.inl x)) σ)
    | _ => fl) := rfl
theorem mx_s33 : mx_step kn kj kr kc kh fl (33, im, jm, a, b, ts) loc stk σ = (match stk with
    | [Sum.inr (Sum.inl x)] => kr (some (Sum.inr (Sum.inl x))) σ
    | _ => fl) := rfl
theorem mx_s34 : mx_step kn kj kr kc kh fl (34, im, jm, a, b, ts) loc stk σ = (match stk with
    | [] => kr none σ
    | _ => fl) := rfl
theorem mx_s35 : mx_step kn kj kr kc kh fl (35, im, jm, a, b, ts) loc stk σ = (kn loc (Sum.inr (Sum.inr (a, mx_oS)) :: stk) σ) := rfl
theorem mx_s36 : mx_step kn kj kr kc kh fl (36, im, jm, a, b, ts) loc stk σ = (match stk with
    | Sum.inl n :: Sum.inl dp :: Sum.inr (Sum.inr (k1, o1)) :: Sum.inl sp :: Sum.inr (Sum.inr (k, o)) :: r => match Nat.beq (mx_aT o) 1, Nat.beq (mx_aT o1) 1 with
      | true, true => match Nat.ble r.length 4 with
        | true => mx_c σ sp dp k o n k1 o1 fl (fun σ => kn loc r σ)
        | false => fl
      | _, _ => fl
    | _ => fl) := rfl
theorem mx_s37 : mx_step kn kj kr kc kh fl (37, im, jm, a, b, ts) loc stk σ = (kn loc (Sum.inl 1 :: stk) σ) := rfl
theorem mx_s38 : mx_step kn kj kr kc kh fl (38, im, jm, a, b, ts) loc stk σ = (kn loc (Sum.inr (Sum.inr (0, mx_oQ)) :: stk) σ) := rfl
theorem mx_s39 : mx_step kn kj kr kc kh fl (39, im, jm, a, b, ts) loc stk σ = (match stk with
    | Sum.inr (Sum.inr (k, o)) :: r => match Nat.beq o mx_oS with
      | true => match b with
        | 0 => kn loc (Sum.inr (Sum.inr (k, mx_oB)) :: r) σ
        | _ => kn loc (Sum.inl 0 :: r) σ
      | false => fl
    | _ => fl) := rfl
theorem mx_s40 : mx_step kn kj kr kc kh fl (40, im, jm, a, b, ts) loc stk σ = (match stk with
    | Sum.inr (Sum.inr (k, o)) :: r => match Nat.beq o mx_oB with
      | true => kn loc (Sum.inl (Int32.ofNat (mx_sN k)) :: r) σ
      | false => fl
    | _ => fl) := rfl
theorem mx_s41 : mx_step kn kj kr kc kh fl (41, im, jm, a, b, ts) loc stk σ = (match stk with
    | Sum.inl i :: Sum.inr (Sum.inr (k, o)) :: r => match Nat.beq o mx_oB with
      | true => mx_g fl i (mx_sN k) (fun j => kn loc (Sum.inl (mx_sB k j) :: r) σ)
      | false => fl
    | _ => fl) := rfl
theorem mx_s42 : mx_step kn kj kr kc kh fl (42, im, jm, a, b, ts) loc stk σ = (match stk with
    | Sum.inl _ :: r => kn loc r σ
    | _ => fl) := rfl
theorem mx_s43 : mx_step kn kj kr kc kh fl (43, im, jm, a, b, ts) loc stk σ = (match stk with
    | Sum.inl i :: Sum.inr (Sum.inr (0, o)) :: r => match Nat.beq o mx_oX with
      | true => mx_g fl i (σ 0 mx_oX 0).toNatClampNeg (fun j => kn loc (Sum.inl (σ 1 mx_oX j) :: r) σ)
      | false => fl
    | _ => fl) := rfl
theorem mx_s44 : mx_step kn kj kr kc kh fl (44, im, jm, a, b, ts) loc stk σ = (match stk with
    | Sum.inr (Sum.inr (0, o)) :: r => match Nat.beq o mx_oX with
      | true => kn loc (Sum.inl (σ 0 mx_oX 0) :: r) σ
      | false => fl
    | _ => fl) := rfl
theorem mx_s45 : mx_step kn kj kr kc kh fl (45, im, jm, a, b, ts) loc stk σ = (match stk with
    | [] => kh a (mx_kp ts loc) σ
    | _ => fl) := rfl
theorem mx_s46 : mx_step kn kj kr kc kh fl (46, im, jm, a, b, ts) loc stk σ = (match stk with
    | Sum.inl y :: Sum.inl x :: r => match Nat.ble r.length 4 with
      | true => match b with
        | 0 => kn loc (Sum.inl (if y < x then y else x) :: r) σ
        | _ => kn loc (Sum.inl (if x < y then y else x) :: r) σ
      | false => fl
    | _ => fl) := rfl
theorem mx_s47 : mx_step kn kj kr kc kh fl (47, im, jm, a, b, ts) loc stk σ = (match stk with
    | Sum.inl x :: r => match Nat.ble r.length 4 with
      | true => kn loc (Sum.inl (if 0 ≤ x then x else 0 - x) :: r) σ
      | false => fl
    | _ => fl) := rfl
end Steps
end
section
/-! ===== loops and calls to any depth: limits ===== -/
def mx_L (E : Nat → List mx_V → mx_S → Option mx_Rt) (P : List mx_Op) : Nat → Nat → mx_Loc → mx_S → Option mx_Rt
  | 0, _, _, _ => none
  | n + 1, h, loc, σ => mx_run E P (mx_L E P n) 2000 (P.drop (h + 1)) loc [] σ
noncomputable def mx_lim {β : Type} (f : Nat → Option β) : Option β := @dite _ (∃ n r, f n = some r) (Classical.propDecidable _) (fun h => some (Classical.choose (Classical.choose_spec h))) (fun _ => none)
theorem mx_lim_mono {β : Type} {f : Nat → Option β} (hm : ∀ n r, f n = some r → f (n + 1) = some r) : ∀ (n m : Nat) (r : β), n ≤ m → f n = some r → f m = some r := by
  intro n m r h
  induction h with
  | refl => exact id
  | step _ ih => exact fun q => hm _ _ (ih q)
theorem mx_lim_iff {β : Type} {f : Nat → Option β} (hm : ∀ n r, f n = some r → f (n + 1) = some r) (r : β) : mx_lim f = some r ↔ ∃ n, f n = some r := by
  unfold mx_lim
  constructor
  · intro h
    split at h
    · rename_i q
      have := Classical.choose_spec (Classical.choose_spec q)
      cases h
      exact ⟨_, this⟩
    · cases h
  · rintro ⟨n, hn⟩
    rw [dif_pos ⟨n, r, hn⟩]
    have q : ∃ n r, f n = some r := ⟨n, r, hn⟩
    have h2 := Classical.choose_spec (Classical.choose_spec q)
    have a := mx_lim_mono hm _ (max n (Classical.choose q)) _ (Nat.le_max_left _ _) hn
    have b := mx_lim_mono hm _ (max n (Classical.choose q)) _ (Nat.le_max_right _ _) h2
    rw [a] at b
    exact b.symm
theorem mx_sw_map {α β : Type} (x : Int32) (f : β → α) (d : β) : ∀ (k : Nat) (l : List β), mx_sw x (f d) k (l.map f) = f (mx_sw x d k l)
  | _, [] => rfl
  | k, t :: l => by
    show (if x = Int32.ofNat k then f t else mx_sw x (f d) (k + 1) (l.map f)) = f (if x = Int32.ofNat k then t else mx_sw x d (k + 1) l)
    rw [mx_sw_map x f d (k + 1) l]
    split <;> rfl
/-- an instruction's deed, apart from what is done with it -/
abbrev mx_Act : Type := Option ((mx_Loc × List mx_V × mx_S) ⊕ (Nat × mx_Loc × List mx_V × mx_S) ⊕ (Option mx_V × mx_S) ⊕ (Nat × Nat × List mx_V × mx_Loc × List mx_V × mx_S) ⊕ (Nat × mx_Loc × mx_S))
def mx_act (i : mx_Op) (loc : mx_Loc) (stk : List mx_V) (σ : mx_S) : mx_Act := mx_step (fun l s σ => some (.inl (l, s, σ))) (fun t l s σ => some (.inr (.inl (t, l, s, σ)))) (fun v σ => some (.inr (.inr (.inl (v, σ))))) (fun y rk as l s σ => some (.inr (.inr (.inr (.inl (y, rk, as, l, s, σ)))))) (fun h l σ => some (.inr (.inr (.inr (.inr (h, l, σ)))))) none i loc stk σ
def mx_elim {α : Type} (kn : mx_Loc → List mx_V → mx_S → α) (kj : Nat → mx_Loc → List mx_V → mx_S → α) (kr : Option mx_V → mx_S → α) (kc : Nat → Nat → List mx_V → mx_Loc → List mx_V → mx_S → α) (kh : Nat → mx_Loc → mx_S → α) (fl : α) (q : mx_Act) : α := match q with
  | none => fl
  | some (.inl (l, s, σ)) => kn l s σ
  | some (.inr (.inl (t, l, s, σ))) => kj t l s σ
  | some (.inr (.inr (.inl (v, σ)))) => kr v σ
  | some (.inr (.inr (.inr (.inl (y, rk, as, l, s, σ))))) => kc y rk as l s σ
  | some (.inr (.inr (.inr (.inr (h, l, σ))))) => kh h l σ
section Fac
variable {α : Type} (kn : mx_Loc → List mx_V → mx_S → α) (kj : Nat → mx_Loc → List mx_V → mx_S → α) (kr : Option mx_V → mx_S → α) (kc : Nat → Nat → List mx_V → mx_Loc → List mx_V → mx_S → α) (kh : Nat → mx_Loc → mx_S → α) (fl : α)
set_option maxHeartbeats 4000000 in
theorem mx_fac (i : mx_Op) (loc : mx_Loc) (stk : List mx_V) (σ : mx_S) : mx_step kn kj kr kc kh fl i loc stk σ = mx_elim kn kj kr kc kh fl (mx_act i loc stk σ) := by
  obtain ⟨op, im, jm, a, b, ts⟩ := i
  unfold mx_act
  rcases op with _ | _ | _ | _ | _ | _ | _ | _ | _ | _ | _ | _ | _ | _ | _ | _ | _ | _ | _ | _ | _ | _ | _ | _ | _ | _ | _ | _ | _ | _ | _ | _ | _ | _ | _ | _ | _ | _ | _ | _ | _ | _ | _ | _ | _ | _ | _ | _ | op
  · rw [mx_s0, mx_s0]; (repeat' split) <;> rfl
  · rw [mx_s1, mx_s1]; (repeat' split) <;> rfl
  · rw [mx_s2, mx_s2]; (repeat' split) <;> rfl
  · rw [mx_s3, mx_s3]; (repeat' split) <;> rfl
  · rw [mx_s4, mx_s4]; (repeat' split) <;> rfl
  · rw [mx_s5, mx_s5]; (repeat' split) <;> rfl
  · rw [mx_s6, mx_s6]; (repeat' split) <;> rfl
  · rw [mx_s7, mx_s7]; (repeat' split) <;> rfl
  · rw [mx_s8, mx_s8]; unfold mx_bin; (repeat' split) <;> rfl
  · rw [mx_s9, mx_s9]; unfold mx_d mx_div; (repeat' split) <;> rfl
  · rw [mx_s10, mx_s10]; unfold mx_un; (repeat' split) <;> rfl
  · rw [mx_s11, mx_s11]; unfold mx_lb; (repeat' split) <;> rfl
  · rw [mx_s12, mx_s12]; unfold mx_lsh; (repeat' split) <;> rfl
  · rw [mx_s13, mx_s13]; (repeat' split) <;> rfl
  · rw [mx_s14, mx_s14]; (repeat' split) <;> rfl
  · rw [mx_s15, mx_s15]; (repeat' split) <;> rfl
  · rw [mx_s16, mx_s16]; (repeat' split) <;> rfl
  · rw [mx_s17, mx_s17]; (repeat' split) <;> rfl
  · rw [mx_s18, mx_s18]; (repeat' split) <;> rfl
  · rw [mx_s19, mx_s19]; unfold mx_if; (repeat' split) <;> rfl
  · rw [mx_s20, mx_s20]; unfold mx_if; (repeat' split) <;> rfl
  · rw [mx_s21, mx_s21]; (repeat' split) <;> rfl
  · rw [mx_s22, mx_s22]
    split
    · rename_i x r
      rw [mx_sw_map x (fun t => kj t loc r σ) a b ts, mx_sw_map x (fun t => (some (.inr (.inl (t, loc, r, σ))) : mx_Act)) a b ts]
      rfl
    · rfl
  · rw [mx_s23, mx_s23]; unfold mx_getf; (repeat' split) <;> rfl
  · rw [mx_s24, mx_s24]; unfold mx_putf mx_z mx_w; (repeat' split) <;> rfl
  · rw [mx_s25, mx_s25]; unfold mx_g; (repeat' split) <;> rfl
  · rw [mx_s26, mx_s26]; unfold mx_g mx_w; (repeat' split) <;> rfl
  · rw [mx_s27, mx_s27]; unfold mx_g; (repeat' split) <;> rfl
  · rw [mx_s28, mx_s28]; unfold mx_g mx_w; (repeat' split) <;> rfl
  · rw [mx_s29, mx_s29]; unfold mx_g; (repeat' split) <;> rfl
  · rw [mx_s30, mx_s30]; (repeat' split) <;> rfl
  · rw [mx_s31, mx_s31]; (repeat' split) <;> rfl
  · rw [mx_s32, mx_s32]; unfold mx_z; (repeat' split) <;> rfl
  · rw [mx_s33, mx_s33]; (repeat' split) <;> rfl
  · rw [mx_s34, mx_s34]; (repeat' split) <;> rfl
  · rw [mx_s35, mx_s35]; (repeat' split) <;> rfl
  · rw [mx_s36, mx_s36]; unfold mx_c; (repeat' split) <;> rfl
  · rw [mx_s37, mx_s37]; (repeat' split) <;> rfl
  · rw [mx_s38, mx_s38]; (repeat' split) <;> rfl
  · rw [mx_s39, mx_s39]; (repeat' split) <;> rfl
  · rw [mx_s40, mx_s40]; (repeat' split) <;> rfl
  · rw [mx_s41, mx_s41]; unfold mx_g; (repeat' split) <;> rfl
  · rw [mx_s42, mx_s42]; (repeat' split) <;> rfl
  · rw [mx_s43, mx_s43]; unfold mx_g; (repeat' split) <;> rfl
  · rw [mx_s44, mx_s44]; (repeat' split) <;> rfl
  · rw [mx_s45, mx_s45]; (repeat' split) <;> rfl
  · rw [mx_s46, mx_s46]; (repeat' split) <;> rfl
  · rw [mx_s47, mx_s47]; (repeat' split) <;> rfl
  · rfl
end Fac
theorem mx_run_s (E : Nat → List mx_V → mx_S → Option mx_Rt) (P : List mx_Op) (K : Nat → mx_Loc → mx_S → Option mx_Rt) (n : Nat) (i : mx_Op) (c : List mx_Op) (loc : mx_Loc) (stk : List mx_V) (σ : mx_S) : mx_run E P K (n + 1) (i :: c) loc stk σ = mx_elim (fun l s σ => mx_run E P K n c l s σ) (fun t l s σ => mx_run E P K n (P.drop t) l s σ) (fun v σ => some (v, σ)) (fun y rk as l s σ => match rk with
      | 0 => mx_bV none (E y as σ) (fun σ => mx_run E P K n c l s σ)
      | 1 => mx_bI none (E y as σ) (fun x σ => mx_run E P K n c l (Sum.inl x :: s) σ)
      | _ => mx_bJ none (E y as σ) (fun x σ => mx_run E P K n c l (Sum.inr (Sum.inl x) :: s) σ)) K none (mx_act i loc stk σ) := mx_fac _ _ _ _ _ _ i loc stk σ
theorem mx_bV_iff {β : Type} {r : Option mx_Rt} {f : mx_S → Option β} {z : β} : mx_bV none r f = some z ↔ ∃ σ, r = some (none, σ) ∧ f σ = some z := by
  unfold mx_bV
  split
  · rename_i σ
    exact ⟨fun h => ⟨σ, rfl, h⟩, fun ⟨σ', e, h⟩ => by cases e; exact h⟩
  · rename_i hn
    exact ⟨fun h => (by cases h), fun ⟨σ', e, h⟩ => absurd e (hn σ')⟩
theorem mx_bI_iff {β : Type} {r : Option mx_Rt} {f : Int32 → mx_S → Option β} {z : β} : mx_bI none r f = some z ↔ ∃ x σ, r = some (some (Sum.inl x), σ) ∧ f x σ = some z := by
  unfold mx_bI
  split
  · rename_i x σ
    exact ⟨fun h => ⟨x, σ, rfl, h⟩, fun ⟨x', σ', e, h⟩ => by cases e; exact h⟩
  · rename_i hn
    exact ⟨fun h => (by cases h), fun ⟨x', σ', e, h⟩ => absurd e (hn x' σ')⟩
theorem mx_bJ_iff {β : Type} {r : Option mx_Rt} {f : Int64 → mx_S → Option β} {z : β} : mx_bJ none r f = some z ↔ ∃ x σ, r = some (some (Sum.inr (Sum.inl x)), σ) ∧ f x σ = some z := by
  unfold mx_bJ
  split
  · rename_i x σ
    exact ⟨fun h => ⟨x, σ, rfl, h⟩, fun ⟨x', σ', e, h⟩ => by cases e; exact h⟩
  · rename_i hn
    exact ⟨fun h => (by cases h), fun ⟨x', σ', e, h⟩ => absurd e (hn x' σ')⟩
/-- more at the heads, more of the whole; and what is had of a limit is had of a step of it -/
theorem mx_run_mono (E : Nat → List mx_V → mx_S → Option mx_Rt) (P : List mx_Op) (K K' : Nat → mx_Loc → mx_S → Option mx_Rt) (hK : ∀ h l σ r, K h l σ = some r → K' h l σ = some r) : ∀ n c l s σ r, mx_run E P K n c l s σ = some r → mx_run E P K' n c l s σ = some r := by
  intro n
  induction n with
  | zero => intro c l s σ r h; cases c <;> cases h
  | succ n ih =>
    intro c l s σ r h
    cases c with
    | nil => cases h
    | cons i c =>
      rw [mx_run_s] at h ⊢
      generalize mx_act i l s σ = q at h ⊢
      rcases q with _ | (⟨l', s', σ'⟩ | ⟨t, l', s', σ'⟩ | ⟨v, σ'⟩ | ⟨y, rk, as, l', s', σ'⟩ | ⟨h', l', σ'⟩)
      · cases h
      · exact ih _ _ _ _ _ h
      · exact ih _ _ _ _ _ h
      · exact h
      · rcases rk with _ | _ | rk
        · obtain ⟨σ2, e, h⟩ := mx_bV_iff.mp h
          exact mx_bV_iff.mpr ⟨σ2, e, ih _ _ _ _ _ h⟩
        · obtain ⟨x, σ2, e, h⟩ := mx_bI_iff.mp h
          exact mx_bI_iff.mpr ⟨x, σ2, e, ih _ _ _ _ _ h⟩
        · obtain ⟨x, σ2, e, h⟩ := mx_bJ_iff.mp h
          exact mx_bJ_iff.mpr ⟨x, σ2, e, ih _ _ _ _ _ h⟩
      · exact hK _ _ _ _ h
theorem mx_run_cont (E : Nat → List mx_V → mx_S → Option mx_Rt) (P : List mx_Op) (K : Nat → mx_Loc → mx_S → Option mx_Rt) (Kn : Nat → Nat → mx_Loc → mx_S → Option mx_Rt) (hK : ∀ h l σ r, K h l σ = some r → ∃ m, Kn m h l σ = some r) : ∀ n c l s σ r, mx_run E P K n c l s σ = some r → ∃ m, mx_run E P (Kn m) n c l s σ = some r := by
  intro n
  induction n with
  | zero => intro c l s σ r h; cases c <;> cases h
  | succ n ih =>
    intro c l s σ r h
    cases c with
    | nil => cases h
    | cons i c =>
      simp only [mx_run_s] at h ⊢
      generalize mx_act i l s σ = q at h ⊢
      rcases q with _ | (⟨l', s', σ'⟩ | ⟨t, l', s', σ'⟩ | ⟨v, σ'⟩ | ⟨y, rk, as, l', s', σ'⟩ | ⟨h', l', σ'⟩)
      · cases h
      · exact ih _ _ _ _ _ h
      · exact ih _ _ _ _ _ h
      · exact ⟨0, h⟩
      · rcases rk with _ | _ | rk
        · obtain ⟨σ2, e, h⟩ := mx_bV_iff.mp h
          obtain ⟨m, h⟩ := ih _ _ _ _ _ h
          exact ⟨m, mx_bV_iff.mpr ⟨σ2, e, h⟩⟩
        · obtain ⟨x, σ2, e, h⟩ := mx_bI_iff.mp h
          obtain ⟨m, h⟩ := ih _ _ _ _ _ h
          exact ⟨m, mx_bI_iff.mpr ⟨x, σ2, e, h⟩⟩
        · obtain ⟨x, σ2, e, h⟩ := mx_bJ_iff.mp h
          obtain ⟨m, h⟩ := ih _ _ _ _ _ h
          exact ⟨m, mx_bJ_iff.mpr ⟨x, σ2, e, h⟩⟩
      · exact hK _ _ _ _ h
theorem mx_L_mono (E : Nat → List mx_V → mx_S → Option mx_Rt) (P : List mx_Op) : ∀ n h loc σ r, mx_L E P n h loc σ = some r → mx_L E P (n + 1) h loc σ = some r := by
  intro n
  induction n with
  | zero => intro h loc σ r q; cases q
  | succ n ih => intro h loc σ r q; exact mx_run_mono E P _ _ ih _ _ _ _ _ _ q
noncomputable def mx_LL (E : Nat → List mx_V → mx_S → Option mx_Rt) (P : List mx_Op) (h : Nat) (loc : mx_Loc) (σ : mx_S) : Option mx_Rt := mx_lim (fun n => mx_L E P n h loc σ)
theorem mx_LL_iff (E : Nat → List mx_V → mx_S → Option mx_Rt) (P : List mx_Op) (h : Nat) (loc : mx_Loc) (σ : mx_S) (r : mx_Rt) : mx_LL E P h loc σ = some r ↔ ∃ n, mx_L E P n h loc σ = some r := mx_lim_iff (fun n r q => mx_L_mono E P n h loc σ r q) r
theorem mx_LL_eq (E : Nat → List mx_V → mx_S → Option mx_Rt) (P : List mx_Op) (h : Nat) (loc : mx_Loc) (σ : mx_S) : mx_LL E P h loc σ = mx_run E P (mx_LL E P) 2000 (P.drop (h + 1)) loc [] σ := by
  apply Option.ext
  intro r
  show mx_LL E P h loc σ = some r ↔ mx_run E P (mx_LL E P) 2000 (P.drop (h + 1)) loc [] σ = some r
  rw [mx_LL_iff]
  constructor
  · rintro ⟨n, q⟩
    cases n with
    | zero => cases q
    | succ n => exact mx_run_mono E P _ _ (fun h l σ r q => (mx_LL_iff E P h l σ r).mpr ⟨n, q⟩) _ _ _ _ _ _ q
  · intro q
    obtain ⟨m, q⟩ := mx_run_cont E P _ (mx_L E P) (fun h l σ r q => (mx_LL_iff E P h l σ r).mp q) _ _ _ _ _ _ q
    exact ⟨m + 1, q⟩
end
section
/-! ===== the programs, by number ===== -/
/-- RailOfHeads$Asks.begin.(I)V -/
def mx_p0 : List mx_Op := [(45, 0, 0, 0, 0, [1, 1]), (2, 0, 0, 0, 0, []), (23, 0, 0, 0, 2, []), (6, 16, 0, 0, 0, []), (20, 0, 0, 17, 3, []), (2, 0, 0, 0, 0, []), (23, 0, 0, 0, 1, []), (2, 0, 0, 0, 0, []), (23, 0, 0, 0, 2, []), (0, 0, 0, 1, 0, []), (26, 0, 0, 0, 0, []), (2, 0, 0, 0, 0, []), (17, 0, 0, 0, 0, []), (23, 0, 0, 0, 2, []), (6, 1, 0, 0, 0, []), (8, 0, 0, 0, 0, []), (24, 0, 0, 0, 2, []), (34, 0, 0, 0, 0, [])]
/-- RailOfHeads$Asks.body10.(I)I -/
def mx_p1 : List mx_Op := [(45, 0, 0, 0, 0, [1, 1]), (2, 0, 0, 0, 0, []), (6, 10, 0, 0, 0, []), (31, 0, 0, 0, 2, [0, 1, 2]), (2, 0, 0, 0, 0, []), (23, 0, 0, 0, 0, []), (23, 0, 0, 1, 7, []), (0, 0, 0, 1, 0, []), (25, 0, 0, 0, 0, []), (32, 0, 0, 0, 0, [])]
/-- RailOfHeads$Crowd.kindOf.(I)I -/
def mx_p2 : List mx_Op := [(45, 0, 0, 0, 0, [1, 1]), (2, 0, 0, 0, 0, []), (23, 0, 0, 1, 5, []), (0, 0, 0, 1, 0, []), (25, 0, 0, 0, 0, []), (6, (-2), 0, 0, 0, []), (20, 0, 0, 9, 1, []), (6, 5, 0, 0, 0, []), (32, 0, 0, 0, 0, []), (2, 0, 0, 0, 0, []), (23, 0, 0, 1, 13, []), (0, 0, 0, 1, 0, []), (25, 0, 0, 0, 0, []), (22, 0, 0, 20, 1, [14, 16, 18]), (6, 1, 0, 0, 0, []), (32, 0, 0, 0, 0, []), (6, 2, 0, 0, 0, []), (32, 0, 0, 0, 0, []), (6, 4, 0, 0, 0, []), (32, 0, 0, 0, 0, []), (2, 0, 0, 0, 0, []), (23, 0, 0, 1, 5, []), (0, 0, 0, 1, 0, []), (25, 0, 0, 0, 0, []), (6, (-1), 0, 0, 0, []), (20, 0, 0, 28, 1, []), (6, 5, 0, 0, 0, []), (21, 0, 0, 29, 0, []), (6, 3, 0, 0, 0, []), (32, 0, 0, 0, 0, [])]
/-- RailOfHeads$Asks.body20.(I)I -/
def mx_p3 : List mx_Op := [(45, 0, 0, 0, 0, [1, 1]), (2, 0, 0, 0, 0, []), (6, 20, 0, 0, 0, []), (31, 0, 0, 0, 2, [0, 1, 2]), (0, 0, 0, 1, 0, []), (32, 0, 0, 0, 0, [])]
/-- RailOfHeads$Asks.body24.(I)I -/
def mx_p4 : List mx_Op := [(45, 0, 0, 0, 0, [1, 1]), (2, 0, 0, 0, 0, []), (6, 24, 0, 0, 0, []), (31, 0, 0, 0, 2, [0, 1, 2]), (2, 0, 0, 0, 0, []), (0, 0, 0, 1, 0, []), (31, 0, 0, 3, 2, [1, 1, 2]), (6, 1000, 0, 0, 0, []), (8, 0, 0, 0, 0, []), (32, 0, 0, 0, 0, [])]
/-- RailOfHeads$Asks.body21.(I)I -/
def mx_p5 : List mx_Op := [(45, 0, 0, 0, 0, [1, 1]), (2, 0, 0, 0, 0, []), (6, 21, 0, 0, 0, []), (31, 0, 0, 0, 2, [0, 1, 2]), (2, 0, 0, 0, 0, []), (0, 0, 0, 1, 0, []), (31, 0, 0, 3, 2, [1, 1, 2]), (6, 100, 0, 0, 0, []), (6, 0, 0, 0, 0, []), (2, 0, 0, 0, 0, []), (23, 0, 0, 0, 0, []), (23, 0, 0, 1, 5, []), (0, 0, 0, 1, 0, []), (25, 0, 0, 0, 0, []), (46, 0, 0, 0, 1, []), (8, 0, 0, 0, 2, []), (8, 0, 0, 0, 0, []), (32, 0, 0, 0, 0, [])]
/-- RailOfHeads$Asks.body22.(I)I -/
def mx_p6 : List mx_Op := [(45, 0, 0, 0, 0, [1, 1]), (2, 0, 0, 0, 0, []), (6, 22, 0, 0, 0, []), (31, 0, 0, 0, 2, [0, 1, 2]), (2, 0, 0, 0, 0, []), (0, 0, 0, 1, 0, []), (31, 0, 0, 5, 2, [1, 1, 2]), (2, 0, 0, 0, 0, []), (23, 0, 0, 0, 0, []), (23, 0, 0, 1, 6, []), (0, 0, 0, 1, 0, []), (25, 0, 0, 0, 0, []), (8, 0, 0, 0, 0, []), (32, 0, 0, 0, 0, [])]
/-- RailOfHeads$Asks.body13.(I)I -/
def mx_p7 : List mx_Op := [(45, 0, 0, 0, 0, [1, 1]), (2, 0, 0, 0, 0, []), (6, 13, 0, 0, 0, []), (31, 0, 0, 0, 2, [0, 1, 2]), (2, 0, 0, 0, 0, []), (0, 0, 0, 1, 0, []), (31, 0, 0, 1, 2, [1, 1, 2]), (10, 0, 0, 0, 0, []), (32, 0, 0, 0, 0, [])]
/-- RailOfHeads$Asks.body14.(I)I -/
def mx_p8 : List mx_Op := [(45, 0, 0, 0, 0, [1, 1]), (2, 0, 0, 0, 0, []), (6, 14, 0, 0, 0, []), (31, 0, 0, 0, 2, [0, 1, 2]), (2, 0, 0, 0, 0, []), (0, 0, 0, 1, 0, []), (31, 0, 0, 7, 2, [1, 1, 2]), (6, 100, 0, 0, 0, []), (8, 0, 0, 0, 1, []), (32, 0, 0, 0, 0, [])]
/-- RailOfHeads$Asks.size.(II)I -/
def mx_p9 : List mx_Op := [(45, 0, 0, 0, 0, [1, 1, 1]), (0, 0, 0, 2, 0, []), (6, 4, 0, 0, 0, []), (20, 0, 0, 6, 5, []), (6, 0, 0, 0, 0, []), (32, 0, 0, 0, 0, []), (2, 0, 0, 0, 0, []), (23, 0, 0, 0, 0, []), (0, 0, 0, 1, 0, []), (31, 0, 0, 2, 2, [1, 2, 2]), (22, 0, 0, 29, 1, [11, 16, 21, 25]), (2, 0, 0, 0, 0, []), (0, 0, 0, 1, 0, []), (0, 0, 0, 2, 0, []), (31, 0, 0, 12, 3, [1, 1, 3]), (32, 0, 0, 0, 0, []), (2, 0, 0, 0, 0, []), (0, 0, 0, 1, 0, []), (0, 0, 0, 2, 0, []), (31, 0, 0, 13, 3, [1, 1, 3]), (32, 0, 0, 0, 0, []), (2, 0, 0, 0, 0, []), (0, 0, 0, 1, 0, []), (31, 0, 0, 7, 2, [1, 1, 2]), (32, 0, 0, 0, 0, []), (2, 0, 0, 0, 0, []), (0, 0, 0, 1, 0, []), (31, 0, 0, 8, 2, [1, 1, 2]), (32, 0, 0, 0, 0, []), (2, 0, 0, 0, 0, []), (0, 0, 0, 1, 0, []), (31, 0, 0, 1, 2, [1, 1, 2]), (32, 0, 0, 0, 0, [])]
/-- RailOfHeads$Asks.body23.(II)I -/
def mx_p10 : List mx_Op := [(45, 0, 0, 0, 0, [1, 1, 1]), (2, 0, 0, 0, 0, []), (6, 23, 0, 0, 0, []), (31, 0, 0, 0, 2, [0, 1, 2]), (2, 0, 0, 0, 0, []), (0, 0, 0, 1, 0, []), (31, 0, 0, 3, 2, [1, 1, 2]), (2, 0, 0, 0, 0, []), (0, 0, 0, 1, 0, []), (0, 0, 0, 2, 0, []), (6, 1, 0, 0, 0, []), (8, 0, 0, 0, 0, []), (31, 0, 0, 9, 3, [1, 1, 3]), (8, 0, 0, 0, 0, []), (32, 0, 0, 0, 0, [])]
/-- RailOfHeads$Asks.mark.(II)I -/
def mx_p11 : List mx_Op := [(45, 0, 0, 0, 0, [1, 1, 1]), (0, 0, 0, 2, 0, []), (6, 4, 0, 0, 0, []), (20, 0, 0, 6, 5, []), (6, 0, 0, 0, 0, []), (32, 0, 0, 0, 0, []), (2, 0, 0, 0, 0, []), (23, 0, 0, 0, 0, []), (0, 0, 0, 1, 0, []), (31, 0, 0, 2, 2, [1, 2, 2]), (22, 0, 0, 28, 2, [11, 15, 19, 23]), (2, 0, 0, 0, 0, []), (0, 0, 0, 1, 0, []), (31, 0, 0, 4, 2, [1, 1, 2]), (32, 0, 0, 0, 0, []), (2, 0, 0, 0, 0, []), (0, 0, 0, 1, 0, []), (31, 0, 0, 5, 2, [1, 1, 2]), (32, 0, 0, 0, 0, []), (2, 0, 0, 0, 0, []), (0, 0, 0, 1, 0, []), (31, 0, 0, 6, 2, [1, 1, 2]), (32, 0, 0, 0, 0, []), (2, 0, 0, 0, 0, []), (0, 0, 0, 1, 0, []), (0, 0, 0, 2, 0, []), (31, 0, 0, 10, 3, [1, 1, 3]), (32, 0, 0, 0, 0, []), (2, 0, 0, 0, 0, []), (0, 0, 0, 1, 0, []), (31, 0, 0, 3, 2, [1, 1, 2]), (32, 0, 0, 0, 0, [])]
/-- RailOfHeads$Asks.body11.(II)I -/
def mx_p12 : List mx_Op := [(45, 0, 0, 0, 0, [1, 1, 1]), (2, 0, 0, 0, 0, []), (6, 11, 0, 0, 0, []), (31, 0, 0, 0, 2, [0, 1, 2]), (2, 0, 0, 0, 0, []), (0, 0, 0, 1, 0, []), (31, 0, 0, 1, 2, [1, 1, 2]), (2, 0, 0, 0, 0, []), (0, 0, 0, 1, 0, []), (0, 0, 0, 2, 0, []), (6, 1, 0, 0, 0, []), (8, 0, 0, 0, 0, []), (31, 0, 0, 11, 3, [1, 1, 3]), (8, 0, 0, 0, 0, []), (32, 0, 0, 0, 0, [])]
/-- RailOfHeads$Asks.body12.(II)I -/
def mx_p13 : List mx_Op := [(45, 0, 0, 0, 0, [1, 1, 1]), (2, 0, 0, 0, 0, []), (6, 12, 0, 0, 0, []), (31, 0, 0, 0, 2, [0, 1, 2]), (2, 0, 0, 0, 0, []), (0, 0, 0, 1, 0, []), (31, 0, 0, 1, 2, [1, 1, 2]), (2, 0, 0, 0, 0, []), (0, 0, 0, 1, 0, []), (0, 0, 0, 2, 0, []), (6, 1, 0, 0, 0, []), (8, 0, 0, 0, 0, []), (31, 0, 0, 11, 3, [1, 1, 3]), (8, 0, 0, 0, 1, []), (32, 0, 0, 0, 0, [])]
/-- RailOfHeads$Asks.size.(II)I -/
def mx_p14 : List mx_Op := [(45, 0, 0, 0, 0, [1, 1, 1]), (0, 0, 0, 2, 0, []), (6, 4, 0, 0, 0, []), (20, 0, 0, 6, 5, []), (6, 0, 0, 0, 0, []), (32, 0, 0, 0, 0, []), (2, 0, 0, 0, 0, []), (23, 0, 0, 0, 0, []), (0, 0, 0, 1, 0, []), (31, 0, 0, 2, 2, [1, 2, 2]), (22, 0, 0, 29, 1, [11, 16, 21, 25]), (2, 0, 0, 0, 0, []), (0, 0, 0, 1, 0, []), (0, 0, 0, 2, 0, []), (31, 0, 0, 12, 3, [1, 1, 3]), (32, 0, 0, 0, 0, []), (2, 0, 0, 0, 0, []), (0, 0, 0, 1, 0, []), (0, 0, 0, 2, 0, []), (31, 0, 0, 13, 3, [1, 1, 3]), (32, 0, 0, 0, 0, []), (2, 0, 0, 0, 0, []), (0, 0, 0, 1, 0, []), (31, 0, 0, 7, 2, [1, 1, 2]), (32, 0, 0, 0, 0, []), (2, 0, 0, 0, 0, []), (0, 0, 0, 1, 0, []), (31, 0, 0, 8, 2, [1, 1, 2]), (32, 0, 0, 0, 0, []), (2, 0, 0, 0, 0, []), (0, 0, 0, 1, 0, []), (31, 0, 0, 1, 2, [1, 1, 2]), (32, 0, 0, 0, 0, [])]
/-- java/lang/Integer.bitCount.(I)I -/
def mx_p15 : List mx_Op := [(45, 0, 0, 0, 0, [1]), (0, 0, 0, 0, 0, []), (0, 0, 0, 0, 0, []), (6, 1, 0, 0, 0, []), (8, 0, 0, 0, 7, []), (6, 1431655765, 0, 0, 0, []), (8, 0, 0, 0, 3, []), (8, 0, 0, 0, 1, []), (3, 0, 0, 0, 0, []), (0, 0, 0, 0, 0, []), (6, 858993459, 0, 0, 0, []), (8, 0, 0, 0, 3, []), (0, 0, 0, 0, 0, []), (6, 2, 0, 0, 0, []), (8, 0, 0, 0, 7, []), (6, 858993459, 0, 0, 0, []), (8, 0, 0, 0, 3, []), (8, 0, 0, 0, 0, []), (3, 0, 0, 0, 0, []), (0, 0, 0, 0, 0, []), (0, 0, 0, 0, 0, []), (6, 4, 0, 0, 0, []), (8, 0, 0, 0, 7, []), (8, 0, 0, 0, 0, []), (6, 252645135, 0, 0, 0, []), (8, 0, 0, 0, 3, []), (3, 0, 0, 0, 0, []), (0, 0, 0, 0, 0, []), (0, 0, 0, 0, 0, []), (6, 8, 0, 0, 0, []), (8, 0, 0, 0, 7, []), (8, 0, 0, 0, 0, []), (3, 0, 0, 0, 0, []), (0, 0, 0, 0, 0, []), (0, 0, 0, 0, 0, []), (6, 16, 0, 0, 0, []), (8, 0, 0, 0, 7, []), (8, 0, 0, 0, 0, []), (3, 0, 0, 0, 0, []), (0, 0, 0, 0, 0, []), (6, 63, 0, 0, 0, []), (8, 0, 0, 0, 3, []), (32, 0, 0, 0, 0, [])]
/-- RailOfHeads$Crowd.allMissed.()I -/
def mx_p16 : List mx_Op := [(45, 0, 0, 0, 0, [1, 1, 1]), (6, 0, 0, 0, 0, []), (3, 0, 0, 1, 0, []), (6, 0, 0, 0, 0, []), (3, 0, 0, 2, 0, []), (45, 0, 0, 5, 0, [1, 1, 1]), (0, 0, 0, 2, 0, []), (2, 0, 0, 0, 0, []), (23, 0, 0, 1, 0, []), (23, 0, 0, 3, 17, []), (20, 0, 0, 21, 3, []), (0, 0, 0, 1, 0, []), (2, 0, 0, 0, 0, []), (23, 0, 0, 1, 9, []), (0, 0, 0, 2, 0, []), (25, 0, 0, 0, 0, []), (31, 0, 0, 15, 1, [1, 0, 1]), (8, 0, 0, 0, 0, []), (3, 0, 0, 1, 0, []), (16, 1, 0, 2, 0, []), (21, 0, 0, 5, 0, []), (0, 0, 0, 1, 0, []), (32, 0, 0, 0, 0, [])]
/-- RailOfHeads$Crowd.allSaw.()I -/
def mx_p17 : List mx_Op := [(45, 0, 0, 0, 0, [1, 1, 1]), (6, 0, 0, 0, 0, []), (3, 0, 0, 1, 0, []), (6, 0, 0, 0, 0, []), (3, 0, 0, 2, 0, []), (45, 0, 0, 5, 0, [1, 1, 1]), (0, 0, 0, 2, 0, []), (2, 0, 0, 0, 0, []), (23, 0, 0, 1, 0, []), (23, 0, 0, 3, 17, []), (20, 0, 0, 20, 3, []), (0, 0, 0, 1, 0, []), (2, 0, 0, 0, 0, []), (23, 0, 0, 1, 7, []), (0, 0, 0, 2, 0, []), (25, 0, 0, 0, 0, []), (8, 0, 0, 0, 0, []), (3, 0, 0, 1, 0, []), (16, 1, 0, 2, 0, []), (21, 0, 0, 5, 0, []), (0, 0, 0, 1, 0, []), (32, 0, 0, 0, 0, [])]
/-- java/util/Arrays.fill.([II)V -/
def mx_p18 : List mx_Op := [(45, 0, 0, 0, 0, [1, 1, 1, 1]), (6, 0, 0, 0, 0, []), (3, 0, 0, 2, 0, []), (2, 0, 0, 0, 0, []), (30, 0, 0, 0, 0, []), (3, 0, 0, 3, 0, []), (45, 0, 0, 6, 0, [1, 1, 1, 1]), (0, 0, 0, 2, 0, []), (0, 0, 0, 3, 0, []), (20, 0, 0, 16, 3, []), (2, 0, 0, 0, 0, []), (0, 0, 0, 2, 0, []), (0, 0, 0, 1, 0, []), (26, 0, 0, 0, 0, []), (16, 1, 0, 2, 0, []), (21, 0, 0, 6, 0, []), (34, 0, 0, 0, 0, [])]
/-- RailOfHeads$Crowd.begin.(I)V -/
def mx_p19 : List mx_Op := [(45, 0, 0, 0, 0, [1, 1, 1, 1, 1]), (2, 0, 0, 0, 0, []), (6, 0, 0, 0, 0, []), (24, 0, 0, 1, 2, []), (2, 0, 0, 0, 0, []), (6, 0, 0, 0, 0, []), (24, 0, 0, 1, 3, []), (6, 0, 0, 0, 0, []), (3, 0, 0, 2, 0, []), (6, 0, 0, 0, 0, []), (3, 0, 0, 3, 0, []), (45, 0, 0, 11, 0, [1, 1, 1, 1, 0]), (0, 0, 0, 3, 0, []), (2, 0, 0, 0, 0, []), (23, 0, 0, 1, 0, []), (23, 0, 0, 3, 12, []), (20, 0, 0, 49, 3, []), (6, 0, 0, 0, 0, []), (3, 0, 0, 4, 0, []), (45, 0, 0, 19, 0, [1, 1, 1, 1, 1]), (0, 0, 0, 4, 0, []), (2, 0, 0, 0, 0, []), (23, 0, 0, 1, 0, []), (23, 0, 0, 3, 13, []), (0, 0, 0, 3, 0, []), (25, 0, 0, 0, 0, []), (20, 0, 0, 47, 3, []), (0, 0, 0, 2, 0, []), (6, 30, 0, 0, 0, []), (20, 0, 0, 47, 3, []), (2, 0, 0, 0, 0, []), (23, 0, 0, 1, 4, []), (0, 0, 0, 2, 0, []), (0, 0, 0, 3, 0, []), (26, 0, 0, 0, 0, []), (2, 0, 0, 0, 0, []), (23, 0, 0, 1, 6, []), (0, 0, 0, 2, 0, []), (2, 0, 0, 0, 0, []), (23, 0, 0, 1, 0, []), (23, 0, 0, 3, 16, []), (0, 0, 0, 3, 0, []), (25, 0, 0, 0, 0, []), (26, 0, 0, 0, 0, []), (16, 1, 0, 2, 0, []), (16, 1, 0, 4, 0, []), (21, 0, 0, 19, 0, []), (16, 1, 0, 3, 0, []), (21, 0, 0, 11, 0, []), (2, 0, 0, 0, 0, []), (23, 0, 0, 1, 5, []), (6, (-1), 0, 0, 0, []), (31, 0, 0, 18, 2, [0, 0, 4]), (2, 0, 0, 0, 0, []), (23, 0, 0, 1, 7, []), (6, 0, 0, 0, 0, []), (31, 0, 0, 18, 2, [0, 0, 4]), (2, 0, 0, 0, 0, []), (23, 0, 0, 1, 8, []), (0, 0, 0, 1, 0, []), (31, 0, 0, 18, 2, [0, 0, 4]), (2, 0, 0, 0, 0, []), (23, 0, 0, 1, 9, []), (6, 0, 0, 0, 0, []), (31, 0, 0, 18, 2, [0, 0, 4]), (2, 0, 0, 0, 0, []), (23, 0, 0, 1, 10, []), (6, (-1), 0, 0, 0, []), (31, 0, 0, 18, 2, [0, 0, 4]), (2, 0, 0, 0, 0, []), (23, 0, 0, 1, 11, []), (6, 0, 0, 0, 0, []), (31, 0, 0, 18, 2, [0, 0, 4]), (2, 0, 0, 0, 0, []), (23, 0, 0, 1, 12, []), (6, 0, 0, 0, 0, []), (31, 0, 0, 18, 2, [0, 0, 4]), (2, 0, 0, 0, 0, []), (23, 0, 0, 1, 13, []), (6, 0, 0, 0, 0, []), (31, 0, 0, 18, 2, [0, 0, 4]), (34, 0, 0, 0, 0, [])]
/-- RailOfHeads$Crowd.chooseAim.(I)I -/
def mx_p20 : List mx_Op := [(45, 0, 0, 0, 0, [1, 1, 1, 1, 1, 1, 1, 1]), (2, 0, 0, 0, 0, []), (23, 0, 0, 1, 0, []), (23, 0, 0, 3, 15, []), (2, 0, 0, 0, 0, []), (23, 0, 0, 1, 4, []), (0, 0, 0, 1, 0, []), (25, 0, 0, 0, 0, []), (25, 0, 0, 0, 0, []), (3, 0, 0, 2, 0, []), (6, (-1), 0, 0, 0, []), (3, 0, 0, 3, 0, []), (6, 0, 0, 0, 0, []), (3, 0, 0, 4, 0, []), (6, 0, 0, 0, 0, []), (3, 0, 0, 5, 0, []), (45, 0, 0, 16, 0, [1, 1, 1, 1, 1, 1, 0, 0]), (0, 0, 0, 5, 0, []), (2, 0, 0, 0, 0, []), (23, 0, 0, 1, 0, []), (23, 0, 0, 3, 8, []), (20, 0, 0, 84, 3, []), (2, 0, 0, 0, 0, []), (23, 0, 0, 1, 1, []), (23, 0, 0, 6, 0, []), (2, 0, 0, 0, 0, []), (23, 0, 0, 1, 5, []), (0, 0, 0, 1, 0, []), (25, 0, 0, 0, 0, []), (6, 6, 0, 0, 0, []), (8, 0, 0, 0, 2, []), (2, 0, 0, 0, 0, []), (23, 0, 0, 1, 0, []), (23, 0, 0, 3, 9, []), (0, 0, 0, 5, 0, []), (25, 0, 0, 0, 0, []), (8, 0, 0, 0, 0, []), (25, 0, 0, 0, 0, []), (3, 0, 0, 6, 0, []), (0, 0, 0, 6, 0, []), (6, 1000, 0, 0, 0, []), (20, 0, 0, 82, 0, []), (2, 0, 0, 0, 0, []), (23, 0, 0, 1, 8, []), (0, 0, 0, 1, 0, []), (25, 0, 0, 0, 0, []), (0, 0, 0, 5, 0, []), (8, 0, 0, 0, 6, []), (6, 1, 0, 0, 0, []), (8, 0, 0, 0, 3, []), (6, 1, 0, 0, 0, []), (20, 0, 0, 53, 1, []), (21, 0, 0, 82, 0, []), (0, 0, 0, 2, 0, []), (6, 2, 0, 0, 0, []), (20, 0, 0, 60, 0, []), (0, 0, 0, 2, 0, []), (19, 0, 0, 62, 1, []), (0, 0, 0, 5, 0, []), (19, 0, 0, 62, 1, []), (0, 0, 0, 5, 0, []), (32, 0, 0, 0, 0, []), (2, 0, 0, 0, 0, []), (23, 0, 0, 1, 0, []), (23, 0, 0, 3, 10, []), (0, 0, 0, 5, 0, []), (25, 0, 0, 0, 0, []), (6, 5, 0, 0, 0, []), (0, 0, 0, 6, 0, []), (8, 0, 0, 0, 2, []), (8, 0, 0, 0, 1, []), (3, 0, 0, 7, 0, []), (0, 0, 0, 3, 0, []), (6, (-1), 0, 0, 0, []), (20, 0, 0, 78, 0, []), (0, 0, 0, 7, 0, []), (0, 0, 0, 4, 0, []), (20, 0, 0, 82, 5, []), (0, 0, 0, 5, 0, []), (3, 0, 0, 3, 0, []), (0, 0, 0, 7, 0, []), (3, 0, 0, 4, 0, []), (16, 1, 0, 5, 0, []), (21, 0, 0, 16, 0, []), (0, 0, 0, 3, 0, []), (32, 0, 0, 0, 0, [])]
/-- RailOfHeads.isBelow.(II)Z -/
def mx_p21 : List mx_Op := [(45, 0, 0, 0, 0, [1, 1]), (0, 0, 0, 0, 0, []), (19, 0, 0, 8, 2, []), (0, 0, 0, 0, 0, []), (0, 0, 0, 1, 0, []), (20, 0, 0, 8, 3, []), (6, 1, 0, 0, 0, []), (21, 0, 0, 9, 0, []), (6, 0, 0, 0, 0, []), (32, 0, 0, 0, 1, [])]
/-- RailOfHeads$Crowd.enter.(II)Z -/
def mx_p22 : List mx_Op := [(45, 0, 0, 0, 0, [1, 1, 1]), (0, 0, 0, 2, 0, []), (2, 0, 0, 0, 0, []), (23, 0, 0, 1, 0, []), (23, 0, 0, 3, 2, []), (31, 0, 0, 21, 2, [1, 0, 2]), (19, 0, 0, 17, 0, []), (2, 0, 0, 0, 0, []), (23, 0, 0, 1, 12, []), (0, 0, 0, 2, 0, []), (25, 0, 0, 0, 0, []), (2, 0, 0, 0, 0, []), (23, 0, 0, 1, 0, []), (23, 0, 0, 3, 3, []), (0, 0, 0, 2, 0, []), (25, 0, 0, 0, 0, []), (20, 0, 0, 19, 2, []), (6, 0, 0, 0, 0, []), (32, 0, 0, 0, 1, []), (2, 0, 0, 0, 0, []), (23, 0, 0, 1, 12, []), (0, 0, 0, 2, 0, []), (18, 0, 0, 0, 0, []), (25, 0, 0, 0, 0, []), (6, 1, 0, 0, 0, []), (8, 0, 0, 0, 0, []), (26, 0, 0, 0, 0, []), (2, 0, 0, 0, 0, []), (23, 0, 0, 1, 5, []), (0, 0, 0, 1, 0, []), (0, 0, 0, 2, 0, []), (26, 0, 0, 0, 0, []), (2, 0, 0, 0, 0, []), (23, 0, 0, 1, 10, []), (0, 0, 0, 1, 0, []), (2, 0, 0, 0, 0, []), (0, 0, 0, 1, 0, []), (31, 0, 0, 20, 2, [1, 2, 8]), (26, 0, 0, 0, 0, []), (6, 1, 0, 0, 0, []), (32, 0, 0, 0, 1, [])]
/-- RailOfHeads$Crowd.leave.(I)V -/
def mx_p23 : List mx_Op := [(45, 0, 0, 0, 0, [1, 1]), (2, 0, 0, 0, 0, []), (23, 0, 0, 1, 5, []), (0, 0, 0, 1, 0, []), (6, (-2), 0, 0, 0, []), (26, 0, 0, 0, 0, []), (2, 0, 0, 0, 0, []), (17, 0, 0, 0, 0, []), (23, 0, 0, 1, 3, []), (6, 1, 0, 0, 0, []), (8, 0, 0, 0, 0, []), (24, 0, 0, 1, 3, []), (34, 0, 0, 0, 0, [])]
/-- RailOfHeads$Crowd.waitOn.(I)V -/
def mx_p24 : List mx_Op := [(45, 0, 0, 0, 0, [1, 1]), (2, 0, 0, 0, 0, []), (23, 0, 0, 1, 13, []), (0, 0, 0, 1, 0, []), (6, 3, 0, 0, 0, []), (26, 0, 0, 0, 0, []), (2, 0, 0, 0, 0, []), (23, 0, 0, 1, 6, []), (0, 0, 0, 1, 0, []), (25, 0, 0, 0, 0, []), (19, 0, 0, 20, 5, []), (2, 0, 0, 0, 0, []), (23, 0, 0, 1, 6, []), (0, 0, 0, 1, 0, []), (18, 0, 0, 0, 0, []), (25, 0, 0, 0, 0, []), (6, 1, 0, 0, 0, []), (8, 0, 0, 0, 1, []), (26, 0, 0, 0, 0, []), (21, 0, 0, 62, 0, []), (2, 0, 0, 0, 0, []), (23, 0, 0, 1, 5, []), (0, 0, 0, 1, 0, []), (25, 0, 0, 0, 0, []), (6, (-1), 0, 0, 0, []), (20, 0, 0, 30, 1, []), (2, 0, 0, 0, 0, []), (0, 0, 0, 1, 0, []), (31, 0, 0, 23, 2, [0, 2, 2]), (21, 0, 0, 62, 0, []), (2, 0, 0, 0, 0, []), (23, 0, 0, 1, 10, []), (0, 0, 0, 1, 0, []), (25, 0, 0, 0, 0, []), (6, (-1), 0, 0, 0, []), (20, 0, 0, 62, 0, []), (2, 0, 0, 0, 0, []), (23, 0, 0, 1, 9, []), (0, 0, 0, 1, 0, []), (18, 0, 0, 0, 0, []), (25, 0, 0, 0, 0, []), (6, 1, 0, 0, 0, []), (2, 0, 0, 0, 0, []), (23, 0, 0, 1, 10, []), (0, 0, 0, 1, 0, []), (25, 0, 0, 0, 0, []), (8, 0, 0, 0, 5, []), (8, 0, 0, 0, 4, []), (26, 0, 0, 0, 0, []), (2, 0, 0, 0, 0, []), (23, 0, 0, 1, 8, []), (0, 0, 0, 1, 0, []), (18, 0, 0, 0, 0, []), (25, 0, 0, 0, 0, []), (6, 1, 0, 0, 0, []), (2, 0, 0, 0, 0, []), (23, 0, 0, 1, 10, []), (0, 0, 0, 1, 0, []), (25, 0, 0, 0, 0, []), (8, 0, 0, 0, 5, []), (8, 0, 0, 0, 4, []), (26, 0, 0, 0, 0, []), (34, 0, 0, 0, 0, [])]
/-- RailOfHeads$Crowd.comeIn.(I)V -/
def mx_p25 : List mx_Op := [(45, 0, 0, 0, 0, [1, 1]), (2, 0, 0, 0, 0, []), (23, 0, 0, 1, 0, []), (23, 0, 0, 3, 14, []), (2, 0, 0, 0, 0, []), (23, 0, 0, 1, 4, []), (0, 0, 0, 1, 0, []), (25, 0, 0, 0, 0, []), (25, 0, 0, 0, 0, []), (2, 0, 0, 0, 0, []), (23, 0, 0, 1, 2, []), (20, 0, 0, 20, 4, []), (2, 0, 0, 0, 0, []), (0, 0, 0, 1, 0, []), (6, 0, 0, 0, 0, []), (31, 0, 0, 22, 3, [1, 2, 3]), (19, 0, 0, 20, 1, []), (2, 0, 0, 0, 0, []), (0, 0, 0, 1, 0, []), (31, 0, 0, 24, 2, [0, 2, 2]), (34, 0, 0, 0, 0, [])]
/-- RailOfHeads$Crowd.lookAt.(II)V -/
def mx_p26 : List mx_Op := [(45, 0, 0, 0, 0, [1, 1, 1, 1, 1]), (2, 0, 0, 0, 0, []), (23, 0, 0, 1, 14, []), (0, 0, 0, 2, 0, []), (25, 0, 0, 0, 0, []), (2, 0, 0, 0, 0, []), (23, 0, 0, 1, 0, []), (23, 0, 0, 3, 0, []), (20, 0, 0, 11, 3, []), (6, 1, 0, 0, 0, []), (21, 0, 0, 12, 0, []), (6, 0, 0, 0, 0, []), (3, 0, 0, 3, 0, []), (2, 0, 0, 0, 0, []), (23, 0, 0, 1, 14, []), (0, 0, 0, 2, 0, []), (18, 0, 0, 0, 0, []), (25, 0, 0, 0, 0, []), (6, 1, 0, 0, 0, []), (8, 0, 0, 0, 0, []), (26, 0, 0, 0, 0, []), (2, 0, 0, 0, 0, []), (23, 0, 0, 1, 13, []), (0, 0, 0, 1, 0, []), (0, 0, 0, 3, 0, []), (19, 0, 0, 28, 0, []), (6, 1, 0, 0, 0, []), (21, 0, 0, 29, 0, []), (6, 2, 0, 0, 0, []), (26, 0, 0, 0, 0, []), (2, 0, 0, 0, 0, []), (23, 0, 0, 1, 7, []), (0, 0, 0, 1, 0, []), (18, 0, 0, 0, 0, []), (25, 0, 0, 0, 0, []), (0, 0, 0, 3, 0, []), (19, 0, 0, 39, 0, []), (6, 10, 0, 0, 0, []), (21, 0, 0, 40, 0, []), (6, 4, 0, 0, 0, []), (2, 0, 0, 0, 0, []), (23, 0, 0, 1, 0, []), (23, 0, 0, 3, 10, []), (0, 0, 0, 2, 0, []), (25, 0, 0, 0, 0, []), (8, 0, 0, 0, 2, []), (8, 0, 0, 0, 0, []), (26, 0, 0, 0, 0, []), (0, 0, 0, 1, 0, []), (6, 8, 0, 0, 0, []), (8, 0, 0, 0, 2, []), (0, 0, 0, 2, 0, []), (8, 0, 0, 0, 0, []), (3, 0, 0, 4, 0, []), (2, 0, 0, 0, 0, []), (23, 0, 0, 1, 11, []), (0, 0, 0, 4, 0, []), (18, 0, 0, 0, 0, []), (25, 0, 0, 0, 0, []), (6, 1, 0, 0, 0, []), (8, 0, 0, 0, 0, []), (26, 0, 0, 0, 0, []), (2, 0, 0, 0, 0, []), (23, 0, 0, 1, 11, []), (0, 0, 0, 4, 0, []), (25, 0, 0, 0, 0, []), (2, 0, 0, 0, 0, []), (23, 0, 0, 1, 0, []), (23, 0, 0, 3, 11, []), (0, 0, 0, 2, 0, []), (25, 0, 0, 0, 0, []), (20, 0, 0, 84, 3, []), (2, 0, 0, 0, 0, []), (23, 0, 0, 1, 0, []), (23, 0, 0, 3, 1, []), (19, 0, 0, 94, 5, []), (2, 0, 0, 0, 0, []), (23, 0, 0, 1, 11, []), (0, 0, 0, 4, 0, []), (25, 0, 0, 0, 0, []), (2, 0, 0, 0, 0, []), (23, 0, 0, 1, 0, []), (23, 0, 0, 3, 1, []), (20, 0, 0, 94, 2, []), (2, 0, 0, 0, 0, []), (23, 0, 0, 1, 8, []), (0, 0, 0, 1, 0, []), (18, 0, 0, 0, 0, []), (25, 0, 0, 0, 0, []), (6, 1, 0, 0, 0, []), (0, 0, 0, 2, 0, []), (8, 0, 0, 0, 5, []), (8, 0, 0, 0, 4, []), (26, 0, 0, 0, 0, []), (34, 0, 0, 0, 0, [])]
/-- RailOfHeads$Crowd.goAbout.(I)V -/
def mx_p27 : List mx_Op := [(45, 0, 0, 0, 0, [1, 1, 1, 1, 1]), (2, 0, 0, 0, 0, []), (23, 0, 0, 1, 5, []), (0, 0, 0, 1, 0, []), (25, 0, 0, 0, 0, []), (3, 0, 0, 2, 0, []), (2, 0, 0, 0, 0, []), (23, 0, 0, 1, 10, []), (0, 0, 0, 1, 0, []), (25, 0, 0, 0, 0, []), (6, (-1), 0, 0, 0, []), (20, 0, 0, 24, 1, []), (2, 0, 0, 0, 0, []), (23, 0, 0, 1, 12, []), (0, 0, 0, 2, 0, []), (18, 0, 0, 0, 0, []), (25, 0, 0, 0, 0, []), (6, 1, 0, 0, 0, []), (8, 0, 0, 0, 1, []), (26, 0, 0, 0, 0, []), (2, 0, 0, 0, 0, []), (0, 0, 0, 1, 0, []), (31, 0, 0, 23, 2, [0, 2, 2]), (34, 0, 0, 0, 0, []), (2, 0, 0, 0, 0, []), (23, 0, 0, 1, 8, []), (0, 0, 0, 1, 0, []), (25, 0, 0, 0, 0, []), (3, 0, 0, 3, 0, []), (2, 0, 0, 0, 0, []), (23, 0, 0, 1, 0, []), (23, 0, 0, 3, 9, []), (2, 0, 0, 0, 0, []), (23, 0, 0, 1, 10, []), (0, 0, 0, 1, 0, []), (25, 0, 0, 0, 0, []), (25, 0, 0, 0, 0, []), (3, 0, 0, 4, 0, []), (0, 0, 0, 4, 0, []), (0, 0, 0, 2, 0, []), (20, 0, 0, 49, 1, []), (2, 0, 0, 0, 0, []), (0, 0, 0, 1, 0, []), (2, 0, 0, 0, 0, []), (23, 0, 0, 1, 10, []), (0, 0, 0, 1, 0, []), (25, 0, 0, 0, 0, []), (31, 0, 0, 26, 3, [0, 2, 5]), (21, 0, 0, 74, 0, []), (2, 0, 0, 0, 0, []), (0, 0, 0, 1, 0, []), (2, 0, 0, 0, 0, []), (23, 0, 0, 1, 1, []), (23, 0, 0, 6, 1, []), (0, 0, 0, 2, 0, []), (6, 6, 0, 0, 0, []), (8, 0, 0, 0, 2, []), (0, 0, 0, 4, 0, []), (8, 0, 0, 0, 0, []), (25, 0, 0, 0, 0, []), (31, 0, 0, 22, 3, [1, 2, 3]), (19, 0, 0, 71, 0, []), (2, 0, 0, 0, 0, []), (23, 0, 0, 1, 12, []), (0, 0, 0, 2, 0, []), (18, 0, 0, 0, 0, []), (25, 0, 0, 0, 0, []), (6, 1, 0, 0, 0, []), (8, 0, 0, 0, 1, []), (26, 0, 0, 0, 0, []), (21, 0, 0, 74, 0, []), (2, 0, 0, 0, 0, []), (0, 0, 0, 1, 0, []), (31, 0, 0, 24, 2, [0, 2, 2]), (2, 0, 0, 0, 0, []), (23, 0, 0, 1, 8, []), (0, 0, 0, 1, 0, []), (25, 0, 0, 0, 0, []), (0, 0, 0, 3, 0, []), (20, 0, 0, 87, 0, []), (2, 0, 0, 0, 0, []), (23, 0, 0, 1, 10, []), (0, 0, 0, 1, 0, []), (2, 0, 0, 0, 0, []), (0, 0, 0, 1, 0, []), (31, 0, 0, 20, 2, [1, 2, 8]), (26, 0, 0, 0, 0, []), (34, 0, 0, 0, 0, [])]
/-- RailOfHeads$Crowd.leastSaw.()I -/
def mx_p28 : List mx_Op := [(45, 0, 0, 0, 0, [1, 1, 1]), (2, 0, 0, 0, 0, []), (23, 0, 0, 1, 7, []), (6, 0, 0, 0, 0, []), (25, 0, 0, 0, 0, []), (3, 0, 0, 1, 0, []), (6, 1, 0, 0, 0, []), (3, 0, 0, 2, 0, []), (45, 0, 0, 8, 0, [1, 1, 1]), (0, 0, 0, 2, 0, []), (2, 0, 0, 0, 0, []), (23, 0, 0, 1, 0, []), (23, 0, 0, 3, 17, []), (20, 0, 0, 23, 3, []), (0, 0, 0, 1, 0, []), (2, 0, 0, 0, 0, []), (23, 0, 0, 1, 7, []), (0, 0, 0, 2, 0, []), (25, 0, 0, 0, 0, []), (46, 0, 0, 0, 0, []), (3, 0, 0, 1, 0, []), (16, 1, 0, 2, 0, []), (21, 0, 0, 8, 0, []), (0, 0, 0, 1, 0, []), (32, 0, 0, 0, 0, [])]
/-- RailOfHeads$Crowd.passMinute.()V -/
def mx_p29 : List mx_Op := [(45, 0, 0, 0, 0, [1, 1]), (2, 0, 0, 0, 0, []), (23, 0, 0, 1, 14, []), (6, 0, 0, 0, 0, []), (31, 0, 0, 18, 2, [0, 0, 4]), (6, 0, 0, 0, 0, []), (3, 0, 0, 1, 0, []), (45, 0, 0, 7, 0, [1, 1]), (0, 0, 0, 1, 0, []), (2, 0, 0, 0, 0, []), (23, 0, 0, 1, 0, []), (23, 0, 0, 3, 17, []), (20, 0, 0, 39, 3, []), (2, 0, 0, 0, 0, []), (23, 0, 0, 1, 13, []), (0, 0, 0, 1, 0, []), (6, 0, 0, 0, 0, []), (26, 0, 0, 0, 0, []), (2, 0, 0, 0, 0, []), (23, 0, 0, 1, 5, []), (0, 0, 0, 1, 0, []), (25, 0, 0, 0, 0, []), (6, (-1), 0, 0, 0, []), (20, 0, 0, 28, 1, []), (2, 0, 0, 0, 0, []), (0, 0, 0, 1, 0, []), (31, 0, 0, 25, 2, [0, 2, 2]), (21, 0, 0, 37, 0, []), (2, 0, 0, 0, 0, []), (23, 0, 0, 1, 5, []), (0, 0, 0, 1, 0, []), (25, 0, 0, 0, 0, []), (6, (-2), 0, 0, 0, []), (20, 0, 0, 37, 0, []), (2, 0, 0, 0, 0, []), (0, 0, 0, 1, 0, []), (31, 0, 0, 27, 2, [0, 2, 5]), (16, 1, 0, 1, 0, []), (21, 0, 0, 7, 0, []), (2, 0, 0, 0, 0, []), (17, 0, 0, 0, 0, []), (23, 0, 0, 1, 2, []), (6, 1, 0, 0, 0, []), (8, 0, 0, 0, 0, []), (24, 0, 0, 1, 2, []), (34, 0, 0, 0, 0, [])]
/-- RailOfHeads$Crowd.takeOver.(LRailOfHeads$Crowd;)V -/
def mx_p30 : List mx_Op := [(45, 0, 0, 0, 0, [1, 1]), (2, 0, 0, 0, 0, []), (2, 0, 0, 1, 0, []), (23, 0, 0, 1, 2, []), (24, 0, 0, 1, 2, []), (2, 0, 0, 0, 0, []), (2, 0, 0, 1, 0, []), (23, 0, 0, 1, 3, []), (24, 0, 0, 1, 3, []), (2, 0, 0, 1, 0, []), (23, 0, 0, 1, 4, []), (6, 0, 0, 0, 0, []), (2, 0, 0, 0, 0, []), (23, 0, 0, 1, 4, []), (6, 0, 0, 0, 0, []), (6, 30, 0, 0, 0, []), (36, 0, 0, 0, 0, []), (2, 0, 0, 1, 0, []), (23, 0, 0, 1, 5, []), (6, 0, 0, 0, 0, []), (2, 0, 0, 0, 0, []), (23, 0, 0, 1, 5, []), (6, 0, 0, 0, 0, []), (6, 30, 0, 0, 0, []), (36, 0, 0, 0, 0, []), (2, 0, 0, 1, 0, []), (23, 0, 0, 1, 6, []), (6, 0, 0, 0, 0, []), (2, 0, 0, 0, 0, []), (23, 0, 0, 1, 6, []), (6, 0, 0, 0, 0, []), (6, 30, 0, 0, 0, []), (36, 0, 0, 0, 0, []), (2, 0, 0, 1, 0, []), (23, 0, 0, 1, 7, []), (6, 0, 0, 0, 0, []), (2, 0, 0, 0, 0, []), (23, 0, 0, 1, 7, []), (6, 0, 0, 0, 0, []), (6, 30, 0, 0, 0, []), (36, 0, 0, 0, 0, []), (2, 0, 0, 1, 0, []), (23, 0, 0, 1, 8, []), (6, 0, 0, 0, 0, []), (2, 0, 0, 0, 0, []), (23, 0, 0, 1, 8, []), (6, 0, 0, 0, 0, []), (6, 30, 0, 0, 0, []), (36, 0, 0, 0, 0, []), (2, 0, 0, 1, 0, []), (23, 0, 0, 1, 9, []), (6, 0, 0, 0, 0, []), (2, 0, 0, 0, 0, []), (23, 0, 0, 1, 9, []), (6, 0, 0, 0, 0, []), (6, 30, 0, 0, 0, []), (36, 0, 0, 0, 0, []), (2, 0, 0, 1, 0, []), (23, 0, 0, 1, 10, []), (6, 0, 0, 0, 0, []), (2, 0, 0, 0, 0, []), (23, 0, 0, 1, 10, []), (6, 0, 0, 0, 0, []), (6, 30, 0, 0, 0, []), (36, 0, 0, 0, 0, []), (2, 0, 0, 1, 0, []), (23, 0, 0, 1, 11, []), (6, 0, 0, 0, 0, []), (2, 0, 0, 0, 0, []), (23, 0, 0, 1, 11, []), (6, 0, 0, 0, 0, []), (2, 0, 0, 0, 0, []), (23, 0, 0, 1, 11, []), (30, 0, 0, 0, 0, []), (36, 0, 0, 0, 0, []), (2, 0, 0, 1, 0, []), (23, 0, 0, 1, 12, []), (6, 0, 0, 0, 0, []), (2, 0, 0, 0, 0, []), (23, 0, 0, 1, 12, []), (6, 0, 0, 0, 0, []), (6, 6, 0, 0, 0, []), (36, 0, 0, 0, 0, []), (2, 0, 0, 1, 0, []), (23, 0, 0, 1, 13, []), (6, 0, 0, 0, 0, []), (2, 0, 0, 0, 0, []), (23, 0, 0, 1, 13, []), (6, 0, 0, 0, 0, []), (6, 30, 0, 0, 0, []), (36, 0, 0, 0, 0, []), (34, 0, 0, 0, 0, [])]
/-- RailOfHeads$House.seenInDay.(III)I -/
def mx_p31 : List mx_Op := [(45, 0, 0, 0, 0, [1, 1, 1, 1, 1]), (2, 0, 0, 0, 0, []), (23, 0, 0, 2, 2, []), (0, 0, 0, 3, 0, []), (31, 0, 0, 19, 2, [0, 2, 5]), (6, 0, 0, 0, 0, []), (3, 0, 0, 4, 0, []), (45, 0, 0, 7, 0, [1, 1, 1, 0, 1]), (0, 0, 0, 4, 0, []), (0, 0, 0, 1, 0, []), (20, 0, 0, 23, 3, []), (2, 0, 0, 0, 0, []), (23, 0, 0, 2, 2, []), (23, 0, 0, 1, 3, []), (2, 0, 0, 0, 0, []), (23, 0, 0, 2, 0, []), (23, 0, 0, 3, 17, []), (20, 0, 0, 23, 3, []), (2, 0, 0, 0, 0, []), (23, 0, 0, 2, 2, []), (31, 0, 0, 29, 1, [0, 2, 2]), (16, 1, 0, 4, 0, []), (21, 0, 0, 7, 0, []), (0, 0, 0, 2, 0, []), (22, 0, 0, 33, 0, [25, 29]), (2, 0, 0, 0, 0, []), (23, 0, 0, 2, 2, []), (31, 0, 0, 17, 1, [1, 2, 3]), (32, 0, 0, 0, 0, []), (2, 0, 0, 0, 0, []), (23, 0, 0, 2, 2, []), (31, 0, 0, 28, 1, [1, 2, 3]), (32, 0, 0, 0, 0, []), (2, 0, 0, 0, 0, []), (23, 0, 0, 2, 2, []), (31, 0, 0, 16, 1, [1, 2, 3]), (32, 0, 0, 0, 0, [])]
/-- RailOfHeads$Plan.takeOver.(LRailOfHeads$Plan;)V -/
def mx_p32 : List mx_Op := [(45, 0, 0, 0, 0, [1, 1]), (2, 0, 0, 0, 0, []), (2, 0, 0, 1, 0, []), (23, 0, 0, 3, 0, []), (24, 0, 0, 3, 0, []), (2, 0, 0, 0, 0, []), (2, 0, 0, 1, 0, []), (23, 0, 0, 3, 1, []), (24, 0, 0, 3, 1, []), (2, 0, 0, 0, 0, []), (2, 0, 0, 1, 0, []), (23, 0, 0, 3, 2, []), (24, 0, 0, 3, 2, []), (2, 0, 0, 0, 0, []), (2, 0, 0, 1, 0, []), (23, 0, 0, 3, 4, []), (24, 0, 0, 3, 4, []), (2, 0, 0, 0, 0, []), (2, 0, 0, 1, 0, []), (23, 0, 0, 3, 8, []), (24, 0, 0, 3, 8, []), (2, 0, 0, 0, 0, []), (2, 0, 0, 1, 0, []), (23, 0, 0, 3, 12, []), (24, 0, 0, 3, 12, []), (2, 0, 0, 0, 0, []), (2, 0, 0, 1, 0, []), (23, 0, 0, 3, 17, []), (24, 0, 0, 3, 17, []), (2, 0, 0, 1, 0, []), (23, 0, 0, 3, 3, []), (6, 0, 0, 0, 0, []), (2, 0, 0, 0, 0, []), (23, 0, 0, 3, 3, []), (6, 0, 0, 0, 0, []), (6, 6, 0, 0, 0, []), (36, 0, 0, 0, 0, []), (2, 0, 0, 1, 0, []), (23, 0, 0, 3, 5, []), (6, 0, 0, 0, 0, []), (2, 0, 0, 0, 0, []), (23, 0, 0, 3, 5, []), (6, 0, 0, 0, 0, []), (6, 9, 0, 0, 0, []), (36, 0, 0, 0, 0, []), (2, 0, 0, 1, 0, []), (23, 0, 0, 3, 6, []), (6, 0, 0, 0, 0, []), (2, 0, 0, 0, 0, []), (23, 0, 0, 3, 6, []), (6, 0, 0, 0, 0, []), (6, 9, 0, 0, 0, []), (36, 0, 0, 0, 0, []), (2, 0, 0, 1, 0, []), (23, 0, 0, 3, 7, []), (6, 0, 0, 0, 0, []), (2, 0, 0, 0, 0, []), (23, 0, 0, 3, 7, []), (6, 0, 0, 0, 0, []), (6, 9, 0, 0, 0, []), (36, 0, 0, 0, 0, []), (2, 0, 0, 1, 0, []), (23, 0, 0, 3, 9, []), (6, 0, 0, 0, 0, []), (2, 0, 0, 0, 0, []), (23, 0, 0, 3, 9, []), (6, 0, 0, 0, 0, []), (6, 8, 0, 0, 0, []), (36, 0, 0, 0, 0, []), (2, 0, 0, 1, 0, []), (23, 0, 0, 3, 10, []), (6, 0, 0, 0, 0, []), (2, 0, 0, 0, 0, []), (23, 0, 0, 3, 10, []), (6, 0, 0, 0, 0, []), (6, 8, 0, 0, 0, []), (36, 0, 0, 0, 0, []), (2, 0, 0, 1, 0, []), (23, 0, 0, 3, 11, []), (6, 0, 0, 0, 0, []), (2, 0, 0, 0, 0, []), (23, 0, 0, 3, 11, []), (6, 0, 0, 0, 0, []), (6, 8, 0, 0, 0, []), (36, 0, 0, 0, 0, []), (2, 0, 0, 1, 0, []), (23, 0, 0, 3, 13, []), (6, 0, 0, 0, 0, []), (2, 0, 0, 0, 0, []), (23, 0, 0, 3, 13, []), (6, 0, 0, 0, 0, []), (6, 6, 0, 0, 0, []), (36, 0, 0, 0, 0, []), (2, 0, 0, 1, 0, []), (23, 0, 0, 3, 14, []), (6, 0, 0, 0, 0, []), (2, 0, 0, 0, 0, []), (23, 0, 0, 3, 14, []), (6, 0, 0, 0, 0, []), (6, 6, 0, 0, 0, []), (36, 0, 0, 0, 0, []), (2, 0, 0, 1, 0, []), (23, 0, 0, 3, 15, []), (6, 0, 0, 0, 0, []), (2, 0, 0, 0, 0, []), (23, 0, 0, 3, 15, []), (6, 0, 0, 0, 0, []), (6, 6, 0, 0, 0, []), (36, 0, 0, 0, 0, []), (2, 0, 0, 1, 0, []), (23, 0, 0, 3, 16, []), (6, 0, 0, 0, 0, []), (2, 0, 0, 0, 0, []), (23, 0, 0, 3, 16, []), (6, 0, 0, 0, 0, []), (6, 6, 0, 0, 0, []), (36, 0, 0, 0, 0, []), (34, 0, 0, 0, 0, [])]
/-- RailOfHeads$Ways.takeOver.(LRailOfHeads$Ways;)V -/
def mx_p33 : List mx_Op := [(45, 0, 0, 0, 0, [1, 1]), (2, 0, 0, 1, 0, []), (23, 0, 0, 6, 0, []), (6, 0, 0, 0, 0, []), (2, 0, 0, 0, 0, []), (23, 0, 0, 6, 0, []), (6, 0, 0, 0, 0, []), (2, 0, 0, 0, 0, []), (23, 0, 0, 6, 0, []), (30, 0, 0, 0, 0, []), (36, 0, 0, 0, 0, []), (2, 0, 0, 1, 0, []), (23, 0, 0, 6, 1, []), (6, 0, 0, 0, 0, []), (2, 0, 0, 0, 0, []), (23, 0, 0, 6, 1, []), (6, 0, 0, 0, 0, []), (2, 0, 0, 0, 0, []), (23, 0, 0, 6, 1, []), (30, 0, 0, 0, 0, []), (36, 0, 0, 0, 0, []), (34, 0, 0, 0, 0, [])]
/-- RailOfHeads$House.takePlan.(LRailOfHeads$House;)V -/
def mx_p34 : List mx_Op := [(45, 0, 0, 0, 0, [1, 1]), (2, 0, 0, 0, 0, []), (23, 0, 0, 2, 0, []), (2, 0, 0, 1, 0, []), (23, 0, 0, 2, 0, []), (31, 0, 0, 32, 2, [0, 4, 2]), (2, 0, 0, 0, 0, []), (23, 0, 0, 2, 1, []), (2, 0, 0, 1, 0, []), (23, 0, 0, 2, 1, []), (31, 0, 0, 33, 2, [0, 7, 2]), (34, 0, 0, 0, 0, [])]
/-- RailOfHeads$House.takeAll.(LRailOfHeads$House;)V -/
def mx_p35 : List mx_Op := [(45, 0, 0, 0, 0, [1, 1]), (2, 0, 0, 0, 0, []), (2, 0, 0, 1, 0, []), (31, 0, 0, 34, 2, [0, 3, 2]), (2, 0, 0, 0, 0, []), (23, 0, 0, 2, 2, []), (2, 0, 0, 1, 0, []), (23, 0, 0, 2, 2, []), (31, 0, 0, 30, 2, [0, 2, 2]), (34, 0, 0, 0, 0, [])]
/-- java/lang/String.isLatin1.()Z -/
def mx_p36 : List mx_Op := [(45, 0, 0, 0, 0, [1]), (37, 0, 0, 0, 0, []), (19, 0, 0, 8, 0, []), (2, 0, 0, 0, 0, []), (39, 0, 0, 0, 1, []), (19, 0, 0, 8, 1, []), (6, 1, 0, 0, 0, []), (21, 0, 0, 9, 0, []), (6, 0, 0, 0, 0, []), (32, 0, 0, 0, 1, [])]
/-- jdk/internal/util/Preconditions.checkIndex.(IILjava/util/function/BiFunction;)I -/
def mx_p37 : List mx_Op := [(45, 0, 0, 0, 0, [1, 1, 1]), (0, 0, 0, 0, 0, []), (19, 0, 0, 6, 2, []), (0, 0, 0, 0, 0, []), (0, 0, 0, 1, 0, []), (20, 0, 0, 11, 2, []), (2, 0, 0, 2, 0, []), (0, 0, 0, 0, 0, []), (0, 0, 0, 1, 0, []), (99, 0, 0, 0, 0, []), (99, 0, 0, 0, 0, []), (0, 0, 0, 0, 0, []), (32, 0, 0, 0, 0, [])]
/-- java/lang/String.checkIndex.(II)V -/
def mx_p38 : List mx_Op := [(45, 0, 0, 0, 0, [1, 1]), (0, 0, 0, 0, 0, []), (0, 0, 0, 1, 0, []), (38, 0, 0, 0, 0, []), (31, 0, 0, 37, 3, [1, 0, 3]), (42, 0, 0, 0, 0, []), (34, 0, 0, 0, 0, [])]
/-- java/lang/StringLatin1.charAt.([BI)C -/
def mx_p39 : List mx_Op := [(45, 0, 0, 0, 0, [1, 1]), (0, 0, 0, 1, 0, []), (2, 0, 0, 0, 0, []), (40, 0, 0, 0, 0, []), (31, 0, 0, 38, 2, [0, 0, 2]), (2, 0, 0, 0, 0, []), (0, 0, 0, 1, 0, []), (41, 0, 0, 0, 0, []), (6, 255, 0, 0, 0, []), (8, 0, 0, 0, 3, []), (10, 0, 0, 0, 3, []), (32, 0, 0, 0, 2, [])]
/-- java/lang/String.charAt.(I)C -/
def mx_p40 : List mx_Op := [(45, 0, 0, 0, 0, [1, 1]), (2, 0, 0, 0, 0, []), (31, 0, 0, 36, 1, [1, 10, 1]), (19, 0, 0, 9, 0, []), (2, 0, 0, 0, 0, []), (39, 0, 0, 0, 0, []), (0, 0, 0, 1, 0, []), (31, 0, 0, 39, 2, [1, 0, 2]), (32, 0, 0, 0, 2, []), (2, 0, 0, 0, 0, []), (39, 0, 0, 0, 0, []), (0, 0, 0, 1, 0, []), (99, 0, 0, 0, 0, []), (32, 0, 0, 0, 2, [])]
/-- java/lang/String.coder.()B -/
def mx_p41 : List mx_Op := [(45, 0, 0, 0, 0, [1]), (37, 0, 0, 0, 0, []), (19, 0, 0, 6, 0, []), (2, 0, 0, 0, 0, []), (39, 0, 0, 0, 1, []), (21, 0, 0, 7, 0, []), (6, 1, 0, 0, 0, []), (32, 0, 0, 0, 3, [])]
/-- java/lang/String.length.()I -/
def mx_p42 : List mx_Op := [(45, 0, 0, 0, 0, [1]), (2, 0, 0, 0, 0, []), (39, 0, 0, 0, 0, []), (40, 0, 0, 0, 0, []), (2, 0, 0, 0, 0, []), (31, 0, 0, 41, 1, [1, 10, 1]), (8, 0, 0, 0, 6, []), (32, 0, 0, 0, 0, [])]
/-- RailOfHeads$Plan.addDoor.(IIZ)V -/
def mx_p43 : List mx_Op := [(45, 0, 0, 0, 0, [1, 1, 1, 1]), (2, 0, 0, 0, 0, []), (23, 0, 0, 3, 4, []), (6, 9, 0, 0, 0, []), (20, 0, 0, 33, 3, []), (2, 0, 0, 0, 0, []), (23, 0, 0, 3, 5, []), (2, 0, 0, 0, 0, []), (23, 0, 0, 3, 4, []), (0, 0, 0, 1, 0, []), (26, 0, 0, 0, 0, []), (2, 0, 0, 0, 0, []), (23, 0, 0, 3, 6, []), (2, 0, 0, 0, 0, []), (23, 0, 0, 3, 4, []), (0, 0, 0, 2, 0, []), (26, 0, 0, 0, 0, []), (2, 0, 0, 0, 0, []), (23, 0, 0, 3, 7, []), (2, 0, 0, 0, 0, []), (23, 0, 0, 3, 4, []), (0, 0, 0, 3, 0, []), (19, 0, 0, 25, 0, []), (6, 1, 0, 0, 0, []), (21, 0, 0, 26, 0, []), (6, 0, 0, 0, 0, []), (26, 0, 0, 0, 0, []), (2, 0, 0, 0, 0, []), (17, 0, 0, 0, 0, []), (23, 0, 0, 3, 4, []), (6, 1, 0, 0, 0, []), (8, 0, 0, 0, 0, []), (24, 0, 0, 3, 4, []), (34, 0, 0, 0, 0, [])]
/-- RailOfHeads$Plan.addGroup.(IIII)V -/
def mx_p44 : List mx_Op := [(45, 0, 0, 0, 0, [1, 1, 1, 1, 1]), (2, 0, 0, 0, 0, []), (23, 0, 0, 3, 12, []), (6, 6, 0, 0, 0, []), (20, 0, 0, 47, 3, []), (2, 0, 0, 0, 0, []), (23, 0, 0, 3, 17, []), (0, 0, 0, 1, 0, []), (8, 0, 0, 0, 0, []), (6, 30, 0, 0, 0, []), (20, 0, 0, 47, 4, []), (2, 0, 0, 0, 0, []), (23, 0, 0, 3, 13, []), (2, 0, 0, 0, 0, []), (23, 0, 0, 3, 12, []), (0, 0, 0, 1, 0, []), (26, 0, 0, 0, 0, []), (2, 0, 0, 0, 0, []), (23, 0, 0, 3, 14, []), (2, 0, 0, 0, 0, []), (23, 0, 0, 3, 12, []), (0, 0, 0, 2, 0, []), (26, 0, 0, 0, 0, []), (2, 0, 0, 0, 0, []), (23, 0, 0, 3, 15, []), (2, 0, 0, 0, 0, []), (23, 0, 0, 3, 12, []), (0, 0, 0, 3, 0, []), (26, 0, 0, 0, 0, []), (2, 0, 0, 0, 0, []), (23, 0, 0, 3, 16, []), (2, 0, 0, 0, 0, []), (23, 0, 0, 3, 12, []), (0, 0, 0, 4, 0, []), (26, 0, 0, 0, 0, []), (2, 0, 0, 0, 0, []), (17, 0, 0, 0, 0, []), (23, 0, 0, 3, 12, []), (6, 1, 0, 0, 0, []), (8, 0, 0, 0, 0, []), (24, 0, 0, 3, 12, []), (2, 0, 0, 0, 0, []), (17, 0, 0, 0, 0, []), (23, 0, 0, 3, 17, []), (0, 0, 0, 1, 0, []), (8, 0, 0, 0, 0, []), (24, 0, 0, 3, 17, []), (34, 0, 0, 0, 0, [])]
/-- RailOfHeads$Plan.addPicture.(II)V -/
def mx_p45 : List mx_Op := [(45, 0, 0, 0, 0, [1, 1, 1]), (2, 0, 0, 0, 0, []), (23, 0, 0, 3, 8, []), (6, 8, 0, 0, 0, []), (20, 0, 0, 33, 3, []), (2, 0, 0, 0, 0, []), (23, 0, 0, 3, 9, []), (2, 0, 0, 0, 0, []), (23, 0, 0, 3, 8, []), (0, 0, 0, 1, 0, []), (26, 0, 0, 0, 0, []), (2, 0, 0, 0, 0, []), (23, 0, 0, 3, 10, []), (2, 0, 0, 0, 0, []), (23, 0, 0, 3, 8, []), (0, 0, 0, 2, 0, []), (26, 0, 0, 0, 0, []), (2, 0, 0, 0, 0, []), (23, 0, 0, 3, 11, []), (2, 0, 0, 0, 0, []), (23, 0, 0, 3, 8, []), (6, 2, 0, 0, 0, []), (0, 0, 0, 2, 0, []), (6, 10, 0, 0, 0, []), (9, 0, 0, 0, 0, []), (8, 0, 0, 0, 0, []), (26, 0, 0, 0, 0, []), (2, 0, 0, 0, 0, []), (17, 0, 0, 0, 0, []), (23, 0, 0, 3, 8, []), (6, 1, 0, 0, 0, []), (8, 0, 0, 0, 0, []), (24, 0, 0, 3, 8, []), (34, 0, 0, 0, 0, [])]
/-- RailOfHeads$Plan.addRoom.(I)V -/
def mx_p46 : List mx_Op := [(45, 0, 0, 0, 0, [1, 1]), (2, 0, 0, 0, 0, []), (23, 0, 0, 3, 2, []), (6, 6, 0, 0, 0, []), (20, 0, 0, 17, 3, []), (2, 0, 0, 0, 0, []), (23, 0, 0, 3, 3, []), (2, 0, 0, 0, 0, []), (23, 0, 0, 3, 2, []), (0, 0, 0, 1, 0, []), (26, 0, 0, 0, 0, []), (2, 0, 0, 0, 0, []), (17, 0, 0, 0, 0, []), (23, 0, 0, 3, 2, []), (6, 1, 0, 0, 0, []), (8, 0, 0, 0, 0, []), (24, 0, 0, 3, 2, []), (34, 0, 0, 0, 0, [])]
/-- RailOfHeads$Plan.clear.()V -/
def mx_p47 : List mx_Op := [(45, 0, 0, 0, 0, [1]), (2, 0, 0, 0, 0, []), (6, 0, 0, 0, 0, []), (24, 0, 0, 3, 2, []), (2, 0, 0, 0, 0, []), (6, 0, 0, 0, 0, []), (24, 0, 0, 3, 4, []), (2, 0, 0, 0, 0, []), (6, 0, 0, 0, 0, []), (24, 0, 0, 3, 8, []), (2, 0, 0, 0, 0, []), (6, 0, 0, 0, 0, []), (24, 0, 0, 3, 12, []), (2, 0, 0, 0, 0, []), (6, 0, 0, 0, 0, []), (24, 0, 0, 3, 17, []), (34, 0, 0, 0, 0, [])]
/-- RailOfHeads.isWithin.(III)Z -/
def mx_p48 : List mx_Op := [(45, 0, 0, 0, 0, [1, 1, 1]), (0, 0, 0, 0, 0, []), (0, 0, 0, 1, 0, []), (20, 0, 0, 9, 2, []), (0, 0, 0, 0, 0, []), (0, 0, 0, 2, 0, []), (20, 0, 0, 9, 4, []), (6, 1, 0, 0, 0, []), (21, 0, 0, 10, 0, []), (6, 0, 0, 0, 0, []), (32, 0, 0, 0, 1, [])]
/-- RailOfHeads$Reader.passName.()V -/
def mx_p49 : List mx_Op := [(45, 0, 0, 0, 0, [1]), (2, 0, 0, 0, 0, []), (6, 1, 0, 0, 0, []), (24, 0, 0, 4, 5, []), (45, 0, 0, 4, 0, [1]), (2, 0, 0, 0, 0, []), (23, 0, 0, 4, 4, []), (2, 0, 0, 0, 0, []), (23, 0, 0, 4, 1, []), (20, 0, 0, 26, 3, []), (2, 0, 0, 0, 0, []), (23, 0, 0, 4, 0, []), (2, 0, 0, 0, 0, []), (23, 0, 0, 4, 4, []), (27, 0, 0, 0, 0, []), (6, 97, 0, 0, 0, []), (6, 122, 0, 0, 0, []), (31, 0, 0, 48, 3, [1, 0, 3]), (19, 0, 0, 26, 0, []), (2, 0, 0, 0, 0, []), (17, 0, 0, 0, 0, []), (23, 0, 0, 4, 4, []), (6, 1, 0, 0, 0, []), (8, 0, 0, 0, 0, []), (24, 0, 0, 4, 4, []), (21, 0, 0, 4, 0, []), (34, 0, 0, 0, 0, [])]
/-- RailOfHeads$Reader.passNumber.()V -/
def mx_p50 : List mx_Op := [(45, 0, 0, 0, 0, [1]), (2, 0, 0, 0, 0, []), (6, 0, 0, 0, 0, []), (24, 0, 0, 4, 6, []), (45, 0, 0, 4, 0, [1]), (2, 0, 0, 0, 0, []), (23, 0, 0, 4, 4, []), (2, 0, 0, 0, 0, []), (23, 0, 0, 4, 1, []), (20, 0, 0, 50, 3, []), (2, 0, 0, 0, 0, []), (23, 0, 0, 4, 0, []), (2, 0, 0, 0, 0, []), (23, 0, 0, 4, 4, []), (27, 0, 0, 0, 0, []), (6, 48, 0, 0, 0, []), (6, 57, 0, 0, 0, []), (31, 0, 0, 48, 3, [1, 0, 3]), (19, 0, 0, 50, 0, []), (2, 0, 0, 0, 0, []), (2, 0, 0, 0, 0, []), (23, 0, 0, 4, 4, []), (2, 0, 0, 0, 0, []), (23, 0, 0, 4, 2, []), (8, 0, 0, 0, 1, []), (6, 3, 0, 0, 0, []), (20, 0, 0, 40, 3, []), (2, 0, 0, 0, 0, []), (23, 0, 0, 4, 6, []), (6, 10, 0, 0, 0, []), (8, 0, 0, 0, 2, []), (2, 0, 0, 0, 0, []), (23, 0, 0, 4, 0, []), (2, 0, 0, 0, 0, []), (23, 0, 0, 4, 4, []), (27, 0, 0, 0, 0, []), (8, 0, 0, 0, 0, []), (6, 48, 0, 0, 0, []), (8, 0, 0, 0, 1, []), (21, 0, 0, 42, 0, []), (2, 0, 0, 0, 0, []), (23, 0, 0, 4, 6, []), (24, 0, 0, 4, 6, []), (2, 0, 0, 0, 0, []), (17, 0, 0, 0, 0, []), (23, 0, 0, 4, 4, []), (6, 1, 0, 0, 0, []), (8, 0, 0, 0, 0, []), (24, 0, 0, 4, 4, []), (21, 0, 0, 4, 0, []), (2, 0, 0, 0, 0, []), (2, 0, 0, 0, 0, []), (23, 0, 0, 4, 4, []), (2, 0, 0, 0, 0, []), (23, 0, 0, 4, 2, []), (8, 0, 0, 0, 1, []), (6, 3, 0, 0, 0, []), (20, 0, 0, 60, 4, []), (6, 2, 0, 0, 0, []), (21, 0, 0, 61, 0, []), (6, 4, 0, 0, 0, []), (24, 0, 0, 4, 5, []), (34, 0, 0, 0, 0, [])]
/-- RailOfHeads$Reader.advance.()V -/
def mx_p51 : List mx_Op := [(45, 0, 0, 0, 0, [1]), (2, 0, 0, 0, 0, []), (23, 0, 0, 4, 4, []), (2, 0, 0, 0, 0, []), (23, 0, 0, 4, 1, []), (20, 0, 0, 27, 3, []), (2, 0, 0, 0, 0, []), (23, 0, 0, 4, 0, []), (2, 0, 0, 0, 0, []), (23, 0, 0, 4, 4, []), (27, 0, 0, 0, 0, []), (6, 32, 0, 0, 0, []), (20, 0, 0, 20, 0, []), (2, 0, 0, 0, 0, []), (23, 0, 0, 4, 0, []), (2, 0, 0, 0, 0, []), (23, 0, 0, 4, 4, []), (27, 0, 0, 0, 0, []), (6, 10, 0, 0, 0, []), (20, 0, 0, 27, 1, []), (2, 0, 0, 0, 0, []), (17, 0, 0, 0, 0, []), (23, 0, 0, 4, 4, []), (6, 1, 0, 0, 0, []), (8, 0, 0, 0, 0, []), (24, 0, 0, 4, 4, []), (21, 0, 0, 0, 0, []), (2, 0, 0, 0, 0, []), (2, 0, 0, 0, 0, []), (23, 0, 0, 4, 4, []), (24, 0, 0, 4, 2, []), (2, 0, 0, 0, 0, []), (23, 0, 0, 4, 4, []), (2, 0, 0, 0, 0, []), (23, 0, 0, 4, 1, []), (20, 0, 0, 40, 2, []), (2, 0, 0, 0, 0, []), (6, 0, 0, 0, 0, []), (24, 0, 0, 4, 5, []), (21, 0, 0, 82, 0, []), (2, 0, 0, 0, 0, []), (23, 0, 0, 4, 0, []), (2, 0, 0, 0, 0, []), (23, 0, 0, 4, 4, []), (27, 0, 0, 0, 0, []), (6, 97, 0, 0, 0, []), (6, 122, 0, 0, 0, []), (31, 0, 0, 48, 3, [1, 0, 3]), (19, 0, 0, 52, 0, []), (2, 0, 0, 0, 0, []), (31, 0, 0, 49, 1, [0, 5, 1]), (21, 0, 0, 82, 0, []), (2, 0, 0, 0, 0, []), (23, 0, 0, 4, 0, []), (2, 0, 0, 0, 0, []), (23, 0, 0, 4, 4, []), (27, 0, 0, 0, 0, []), (6, 48, 0, 0, 0, []), (6, 57, 0, 0, 0, []), (31, 0, 0, 48, 3, [1, 0, 3]), (19, 0, 0, 64, 0, []), (2, 0, 0, 0, 0, []), (31, 0, 0, 50, 1, [0, 5, 1]), (21, 0, 0, 82, 0, []), (2, 0, 0, 0, 0, []), (2, 0, 0, 0, 0, []), (23, 0, 0, 4, 0, []), (2, 0, 0, 0, 0, []), (23, 0, 0, 4, 4, []), (27, 0, 0, 0, 0, []), (6, 59, 0, 0, 0, []), (20, 0, 0, 74, 1, []), (6, 3, 0, 0, 0, []), (21, 0, 0, 75, 0, []), (6, 4, 0, 0, 0, []), (24, 0, 0, 4, 5, []), (2, 0, 0, 0, 0, []), (17, 0, 0, 0, 0, []), (23, 0, 0, 4, 4, []), (6, 1, 0, 0, 0, []), (8, 0, 0, 0, 0, []), (24, 0, 0, 4, 4, []), (34, 0, 0, 0, 0, [])]
/-- RailOfHeads$Reader.isWord.(Ljava/lang/String;)Z -/
def mx_p52 : List mx_Op := [(45, 0, 0, 0, 0, [1, 1, 1]), (2, 0, 0, 0, 0, []), (23, 0, 0, 4, 3, []), (19, 0, 0, 16, 1, []), (2, 0, 0, 0, 0, []), (23, 0, 0, 4, 5, []), (6, 1, 0, 0, 0, []), (20, 0, 0, 16, 1, []), (2, 0, 0, 0, 0, []), (23, 0, 0, 4, 4, []), (2, 0, 0, 0, 0, []), (23, 0, 0, 4, 2, []), (8, 0, 0, 0, 1, []), (2, 0, 0, 1, 0, []), (31, 0, 0, 42, 1, [1, 10, 1]), (20, 0, 0, 18, 0, []), (6, 0, 0, 0, 0, []), (32, 0, 0, 0, 1, []), (6, 0, 0, 0, 0, []), (3, 0, 0, 2, 0, []), (45, 0, 0, 20, 0, [1, 1, 1]), (0, 0, 0, 2, 0, []), (2, 0, 0, 1, 0, []), (31, 0, 0, 42, 1, [1, 10, 1]), (20, 0, 0, 40, 3, []), (2, 0, 0, 0, 0, []), (23, 0, 0, 4, 0, []), (2, 0, 0, 0, 0, []), (23, 0, 0, 4, 2, []), (0, 0, 0, 2, 0, []), (8, 0, 0, 0, 0, []), (27, 0, 0, 0, 0, []), (2, 0, 0, 1, 0, []), (0, 0, 0, 2, 0, []), (31, 0, 0, 40, 2, [1, 10, 2]), (20, 0, 0, 38, 0, []), (6, 0, 0, 0, 0, []), (32, 0, 0, 0, 1, []), (16, 1, 0, 2, 0, []), (21, 0, 0, 20, 0, []), (6, 1, 0, 0, 0, []), (32, 0, 0, 0, 1, [])]
/-- RailOfHeads$Reader.put.(B)V -/
def mx_p53 : List mx_Op := [(45, 0, 0, 0, 0, [1, 1]), (2, 0, 0, 0, 0, []), (23, 0, 0, 4, 1, []), (6, 400, 0, 0, 0, []), (20, 0, 0, 17, 3, []), (2, 0, 0, 0, 0, []), (23, 0, 0, 4, 0, []), (2, 0, 0, 0, 0, []), (23, 0, 0, 4, 1, []), (0, 0, 0, 1, 0, []), (28, 0, 0, 0, 0, []), (2, 0, 0, 0, 0, []), (17, 0, 0, 0, 0, []), (23, 0, 0, 4, 1, []), (6, 1, 0, 0, 0, []), (8, 0, 0, 0, 0, []), (24, 0, 0, 4, 1, []), (34, 0, 0, 0, 0, [])]
/-- RailOfHeads$Reader.takeWord.(Ljava/lang/String;II)V -/
def mx_p54 : List mx_Op := [(45, 0, 0, 0, 0, [1, 1, 1, 1]), (2, 0, 0, 0, 0, []), (23, 0, 0, 4, 3, []), (19, 0, 0, 5, 0, []), (34, 0, 0, 0, 0, []), (2, 0, 0, 0, 0, []), (2, 0, 0, 1, 0, []), (31, 0, 0, 52, 2, [1, 5, 3]), (19, 0, 0, 13, 1, []), (2, 0, 0, 0, 0, []), (6, 1, 0, 0, 0, []), (24, 0, 0, 4, 3, []), (21, 0, 0, 22, 0, []), (0, 0, 0, 2, 0, []), (0, 0, 0, 3, 0, []), (20, 0, 0, 20, 2, []), (2, 0, 0, 0, 0, []), (6, 3, 0, 0, 0, []), (24, 0, 0, 4, 3, []), (21, 0, 0, 22, 0, []), (2, 0, 0, 0, 0, []), (31, 0, 0, 51, 1, [0, 5, 1]), (34, 0, 0, 0, 0, [])]
/-- RailOfHeads$Reader.takeNumber.(II)I -/
def mx_p55 : List mx_Op := [(45, 0, 0, 0, 0, [1, 1, 1, 1]), (2, 0, 0, 0, 0, []), (23, 0, 0, 4, 6, []), (3, 0, 0, 3, 0, []), (2, 0, 0, 0, 0, []), (23, 0, 0, 4, 3, []), (19, 0, 0, 14, 1, []), (2, 0, 0, 0, 0, []), (23, 0, 0, 4, 5, []), (6, 2, 0, 0, 0, []), (20, 0, 0, 14, 0, []), (2, 0, 0, 0, 0, []), (6, 1, 0, 0, 0, []), (24, 0, 0, 4, 3, []), (2, 0, 0, 0, 0, []), (23, 0, 0, 4, 3, []), (19, 0, 0, 25, 1, []), (0, 0, 0, 3, 0, []), (0, 0, 0, 1, 0, []), (0, 0, 0, 2, 0, []), (31, 0, 0, 48, 3, [1, 0, 3]), (19, 0, 0, 25, 1, []), (2, 0, 0, 0, 0, []), (6, 2, 0, 0, 0, []), (24, 0, 0, 4, 3, []), (2, 0, 0, 0, 0, []), (23, 0, 0, 4, 3, []), (19, 0, 0, 30, 1, []), (2, 0, 0, 0, 0, []), (31, 0, 0, 51, 1, [0, 5, 1]), (0, 0, 0, 3, 0, []), (32, 0, 0, 0, 0, [])]
/-- RailOfHeads$Reader.takeSign.()V -/
def mx_p56 : List mx_Op := [(45, 0, 0, 0, 0, [1]), (2, 0, 0, 0, 0, []), (23, 0, 0, 4, 3, []), (19, 0, 0, 11, 1, []), (2, 0, 0, 0, 0, []), (23, 0, 0, 4, 5, []), (6, 3, 0, 0, 0, []), (20, 0, 0, 11, 0, []), (2, 0, 0, 0, 0, []), (6, 1, 0, 0, 0, []), (24, 0, 0, 4, 3, []), (2, 0, 0, 0, 0, []), (23, 0, 0, 4, 3, []), (19, 0, 0, 16, 1, []), (2, 0, 0, 0, 0, []), (31, 0, 0, 51, 1, [0, 5, 1]), (34, 0, 0, 0, 0, [])]
/-- RailOfHeads$Reader.readRail.()V -/
def mx_p57 : List mx_Op := [(45, 0, 0, 0, 0, [1]), (2, 0, 0, 0, 0, []), (35, 0, 0, 0, 0, []), (6, 0, 0, 0, 0, []), (6, 1, 0, 0, 0, []), (31, 0, 0, 54, 4, [0, 5, 4]), (2, 0, 0, 0, 0, []), (23, 0, 0, 4, 7, []), (2, 0, 0, 0, 0, []), (6, 1, 0, 0, 0, []), (6, 20, 0, 0, 0, []), (31, 0, 0, 55, 3, [1, 5, 4]), (24, 0, 0, 3, 0, []), (2, 0, 0, 0, 0, []), (23, 0, 0, 4, 7, []), (2, 0, 0, 0, 0, []), (6, 0, 0, 0, 0, []), (6, 20, 0, 0, 0, []), (31, 0, 0, 55, 3, [1, 5, 4]), (24, 0, 0, 3, 1, []), (2, 0, 0, 0, 0, []), (31, 0, 0, 56, 1, [0, 5, 1]), (34, 0, 0, 0, 0, [])]
/-- RailOfHeads$Reader.readRooms.()V -/
def mx_p58 : List mx_Op := [(45, 0, 0, 0, 0, [1, 1, 1]), (6, 0, 0, 0, 0, []), (3, 0, 0, 1, 0, []), (45, 0, 0, 3, 0, [1, 1, 0]), (0, 0, 0, 1, 0, []), (6, 6, 0, 0, 0, []), (20, 0, 0, 34, 4, []), (0, 0, 0, 1, 0, []), (19, 0, 0, 13, 0, []), (2, 0, 0, 0, 0, []), (35, 0, 0, 1, 0, []), (31, 0, 0, 52, 2, [1, 5, 3]), (19, 0, 0, 34, 0, []), (2, 0, 0, 0, 0, []), (35, 0, 0, 1, 0, []), (0, 0, 0, 1, 0, []), (6, 6, 0, 0, 0, []), (31, 0, 0, 54, 4, [0, 5, 4]), (2, 0, 0, 0, 0, []), (6, 1, 0, 0, 0, []), (6, 40, 0, 0, 0, []), (31, 0, 0, 55, 3, [1, 5, 4]), (3, 0, 0, 2, 0, []), (2, 0, 0, 0, 0, []), (31, 0, 0, 56, 1, [0, 5, 1]), (2, 0, 0, 0, 0, []), (23, 0, 0, 4, 3, []), (19, 0, 0, 32, 1, []), (2, 0, 0, 0, 0, []), (23, 0, 0, 4, 7, []), (0, 0, 0, 2, 0, []), (31, 0, 0, 46, 2, [0, 4, 2]), (16, 1, 0, 1, 0, []), (21, 0, 0, 3, 0, []), (34, 0, 0, 0, 0, [])]
/-- RailOfHeads$Reader.readDoors.()V -/
def mx_p59 : List mx_Op := [(45, 0, 0, 0, 0, [1, 1, 1, 1, 1]), (6, 0, 0, 0, 0, []), (3, 0, 0, 1, 0, []), (45, 0, 0, 3, 0, [1, 1, 0, 0, 0]), (0, 0, 0, 1, 0, []), (6, 9, 0, 0, 0, []), (20, 0, 0, 69, 4, []), (2, 0, 0, 0, 0, []), (35, 0, 0, 2, 0, []), (31, 0, 0, 52, 2, [1, 5, 3]), (19, 0, 0, 69, 0, []), (2, 0, 0, 0, 0, []), (35, 0, 0, 2, 0, []), (0, 0, 0, 1, 0, []), (6, 9, 0, 0, 0, []), (31, 0, 0, 54, 4, [0, 5, 4]), (2, 0, 0, 0, 0, []), (6, 0, 0, 0, 0, []), (2, 0, 0, 0, 0, []), (23, 0, 0, 4, 7, []), (23, 0, 0, 3, 2, []), (6, 1, 0, 0, 0, []), (8, 0, 0, 0, 1, []), (31, 0, 0, 55, 3, [1, 5, 4]), (3, 0, 0, 2, 0, []), (2, 0, 0, 0, 0, []), (23, 0, 0, 4, 3, []), (19, 0, 0, 39, 1, []), (2, 0, 0, 0, 0, []), (23, 0, 0, 4, 5, []), (6, 2, 0, 0, 0, []), (20, 0, 0, 39, 1, []), (2, 0, 0, 0, 0, []), (23, 0, 0, 4, 6, []), (0, 0, 0, 2, 0, []), (20, 0, 0, 39, 1, []), (2, 0, 0, 0, 0, []), (6, 2, 0, 0, 0, []), (24, 0, 0, 4, 3, []), (2, 0, 0, 0, 0, []), (6, 0, 0, 0, 0, []), (2, 0, 0, 0, 0, []), (23, 0, 0, 4, 7, []), (23, 0, 0, 3, 2, []), (6, 1, 0, 0, 0, []), (8, 0, 0, 0, 1, []), (31, 0, 0, 55, 3, [1, 5, 4]), (3, 0, 0, 3, 0, []), (2, 0, 0, 0, 0, []), (35, 0, 0, 3, 0, []), (31, 0, 0, 52, 2, [1, 5, 3]), (3, 0, 0, 4, 0, []), (0, 0, 0, 4, 0, []), (19, 0, 0, 56, 0, []), (2, 0, 0, 0, 0, []), (31, 0, 0, 51, 1, [0, 5, 1]), (2, 0, 0, 0, 0, []), (31, 0, 0, 56, 1, [0, 5, 1]), (2, 0, 0, 0, 0, []), (23, 0, 0, 4, 3, []), (19, 0, 0, 67, 1, []), (2, 0, 0, 0, 0, []), (23, 0, 0, 4, 7, []), (0, 0, 0, 2, 0, []), (0, 0, 0, 3, 0, []), (0, 0, 0, 4, 0, []), (31, 0, 0, 43, 4, [0, 4, 4]), (16, 1, 0, 1, 0, []), (21, 0, 0, 3, 0, []), (34, 0, 0, 0, 0, [])]
/-- RailOfHeads$Reader.readPictures.()V -/
def mx_p60 : List mx_Op := [(45, 0, 0, 0, 0, [1, 1, 1, 1]), (6, 0, 0, 0, 0, []), (3, 0, 0, 1, 0, []), (45, 0, 0, 3, 0, [1, 1, 0, 0]), (0, 0, 0, 1, 0, []), (6, 8, 0, 0, 0, []), (20, 0, 0, 44, 4, []), (0, 0, 0, 1, 0, []), (19, 0, 0, 13, 0, []), (2, 0, 0, 0, 0, []), (35, 0, 0, 4, 0, []), (31, 0, 0, 52, 2, [1, 5, 3]), (19, 0, 0, 44, 0, []), (2, 0, 0, 0, 0, []), (35, 0, 0, 4, 0, []), (0, 0, 0, 1, 0, []), (6, 8, 0, 0, 0, []), (31, 0, 0, 54, 4, [0, 5, 4]), (2, 0, 0, 0, 0, []), (6, 0, 0, 0, 0, []), (2, 0, 0, 0, 0, []), (23, 0, 0, 4, 7, []), (23, 0, 0, 3, 2, []), (6, 1, 0, 0, 0, []), (8, 0, 0, 0, 1, []), (31, 0, 0, 55, 3, [1, 5, 4]), (3, 0, 0, 2, 0, []), (2, 0, 0, 0, 0, []), (6, 1, 0, 0, 0, []), (6, 60, 0, 0, 0, []), (31, 0, 0, 55, 3, [1, 5, 4]), (3, 0, 0, 3, 0, []), (2, 0, 0, 0, 0, []), (31, 0, 0, 56, 1, [0, 5, 1]), (2, 0, 0, 0, 0, []), (23, 0, 0, 4, 3, []), (19, 0, 0, 42, 1, []), (2, 0, 0, 0, 0, []), (23, 0, 0, 4, 7, []), (0, 0, 0, 2, 0, []), (0, 0, 0, 3, 0, []), (31, 0, 0, 45, 3, [0, 4, 3]), (16, 1, 0, 1, 0, []), (21, 0, 0, 3, 0, []), (34, 0, 0, 0, 0, [])]
/-- RailOfHeads$Reader.takeLaw.()I -/
def mx_p61 : List mx_Op := [(45, 0, 0, 0, 0, [1, 1]), (2, 0, 0, 0, 0, []), (35, 0, 0, 6, 0, []), (31, 0, 0, 52, 2, [1, 5, 3]), (19, 0, 0, 7, 0, []), (6, 0, 0, 0, 0, []), (21, 0, 0, 20, 0, []), (2, 0, 0, 0, 0, []), (35, 0, 0, 7, 0, []), (31, 0, 0, 52, 2, [1, 5, 3]), (19, 0, 0, 13, 0, []), (6, 1, 0, 0, 0, []), (21, 0, 0, 20, 0, []), (2, 0, 0, 0, 0, []), (35, 0, 0, 8, 0, []), (31, 0, 0, 52, 2, [1, 5, 3]), (19, 0, 0, 19, 0, []), (6, 2, 0, 0, 0, []), (21, 0, 0, 20, 0, []), (6, 3, 0, 0, 0, []), (3, 0, 0, 1, 0, []), (2, 0, 0, 0, 0, []), (23, 0, 0, 4, 3, []), (19, 0, 0, 30, 1, []), (0, 0, 0, 1, 0, []), (6, 3, 0, 0, 0, []), (20, 0, 0, 30, 1, []), (2, 0, 0, 0, 0, []), (6, 1, 0, 0, 0, []), (24, 0, 0, 4, 3, []), (2, 0, 0, 0, 0, []), (23, 0, 0, 4, 3, []), (19, 0, 0, 35, 1, []), (2, 0, 0, 0, 0, []), (31, 0, 0, 51, 1, [0, 5, 1]), (0, 0, 0, 1, 0, []), (32, 0, 0, 0, 0, [])]
/-- RailOfHeads$Reader.readGroups.()V -/
def mx_p62 : List mx_Op := [(45, 0, 0, 0, 0, [1, 1, 1, 1, 1, 1]), (6, 0, 0, 0, 0, []), (3, 0, 0, 1, 0, []), (45, 0, 0, 3, 0, [1, 1, 0, 0, 0, 0]), (0, 0, 0, 1, 0, []), (6, 6, 0, 0, 0, []), (20, 0, 0, 56, 4, []), (0, 0, 0, 1, 0, []), (19, 0, 0, 13, 0, []), (2, 0, 0, 0, 0, []), (35, 0, 0, 5, 0, []), (31, 0, 0, 52, 2, [1, 5, 3]), (19, 0, 0, 56, 0, []), (2, 0, 0, 0, 0, []), (35, 0, 0, 5, 0, []), (0, 0, 0, 1, 0, []), (6, 6, 0, 0, 0, []), (31, 0, 0, 54, 4, [0, 5, 4]), (2, 0, 0, 0, 0, []), (6, 1, 0, 0, 0, []), (6, 20, 0, 0, 0, []), (6, 30, 0, 0, 0, []), (2, 0, 0, 0, 0, []), (23, 0, 0, 4, 7, []), (23, 0, 0, 3, 17, []), (8, 0, 0, 0, 1, []), (46, 0, 0, 0, 0, []), (31, 0, 0, 55, 3, [1, 5, 4]), (3, 0, 0, 2, 0, []), (2, 0, 0, 0, 0, []), (6, 0, 0, 0, 0, []), (6, 60, 0, 0, 0, []), (31, 0, 0, 55, 3, [1, 5, 4]), (3, 0, 0, 3, 0, []), (2, 0, 0, 0, 0, []), (31, 0, 0, 61, 1, [1, 5, 2]), (3, 0, 0, 4, 0, []), (2, 0, 0, 0, 0, []), (6, 0, 0, 0, 0, []), (6, 20, 0, 0, 0, []), (31, 0, 0, 55, 3, [1, 5, 4]), (3, 0, 0, 5, 0, []), (2, 0, 0, 0, 0, []), (31, 0, 0, 56, 1, [0, 5, 1]), (2, 0, 0, 0, 0, []), (23, 0, 0, 4, 3, []), (19, 0, 0, 54, 1, []), (2, 0, 0, 0, 0, []), (23, 0, 0, 4, 7, []), (0, 0, 0, 2, 0, []), (0, 0, 0, 3, 0, []), (0, 0, 0, 4, 0, []), (0, 0, 0, 5, 0, []), (31, 0, 0, 44, 5, [0, 4, 5]), (16, 1, 0, 1, 0, []), (21, 0, 0, 3, 0, []), (34, 0, 0, 0, 0, [])]
/-- RailOfHeads$Reader.read.(LRailOfHeads$Plan;)V -/
def mx_p63 : List mx_Op := [(45, 0, 0, 0, 0, [1, 1]), (2, 0, 0, 0, 0, []), (2, 0, 0, 1, 0, []), (24, 0, 0, 4, 7, []), (2, 0, 0, 0, 0, []), (23, 0, 0, 4, 7, []), (31, 0, 0, 47, 1, [0, 4, 1]), (2, 0, 0, 0, 0, []), (6, 0, 0, 0, 0, []), (24, 0, 0, 4, 4, []), (2, 0, 0, 0, 0, []), (6, 0, 0, 0, 0, []), (24, 0, 0, 4, 3, []), (2, 0, 0, 0, 0, []), (31, 0, 0, 51, 1, [0, 5, 1]), (2, 0, 0, 0, 0, []), (31, 0, 0, 57, 1, [0, 5, 1]), (2, 0, 0, 0, 0, []), (31, 0, 0, 58, 1, [0, 5, 3]), (2, 0, 0, 0, 0, []), (31, 0, 0, 59, 1, [0, 5, 5]), (2, 0, 0, 0, 0, []), (31, 0, 0, 60, 1, [0, 5, 4]), (2, 0, 0, 0, 0, []), (31, 0, 0, 62, 1, [0, 5, 6]), (2, 0, 0, 0, 0, []), (23, 0, 0, 4, 3, []), (19, 0, 0, 34, 1, []), (2, 0, 0, 0, 0, []), (23, 0, 0, 4, 5, []), (19, 0, 0, 34, 0, []), (2, 0, 0, 0, 0, []), (6, 1, 0, 0, 0, []), (24, 0, 0, 4, 3, []), (34, 0, 0, 0, 0, [])]
/-- RailOfHeads$Ways.openDoors.(LRailOfHeads$Plan;)V -/
def mx_p64 : List mx_Op := [(45, 0, 0, 0, 0, [1, 1, 1]), (2, 0, 0, 0, 0, []), (23, 0, 0, 6, 0, []), (6, 1000, 0, 0, 0, []), (31, 0, 0, 18, 2, [0, 0, 4]), (6, 0, 0, 0, 0, []), (3, 0, 0, 2, 0, []), (45, 0, 0, 7, 0, [1, 1, 1]), (0, 0, 0, 2, 0, []), (2, 0, 0, 1, 0, []), (23, 0, 0, 3, 2, []), (20, 0, 0, 23, 3, []), (2, 0, 0, 0, 0, []), (23, 0, 0, 6, 0, []), (0, 0, 0, 2, 0, []), (6, 6, 0, 0, 0, []), (8, 0, 0, 0, 2, []), (0, 0, 0, 2, 0, []), (8, 0, 0, 0, 0, []), (6, 0, 0, 0, 0, []), (26, 0, 0, 0, 0, []), (16, 1, 0, 2, 0, []), (21, 0, 0, 7, 0, []), (6, 0, 0, 0, 0, []), (3, 0, 0, 2, 0, []), (45, 0, 0, 25, 0, [1, 1, 1]), (0, 0, 0, 2, 0, []), (2, 0, 0, 1, 0, []), (23, 0, 0, 3, 4, []), (20, 0, 0, 67, 3, []), (2, 0, 0, 0, 0, []), (23, 0, 0, 6, 0, []), (2, 0, 0, 1, 0, []), (23, 0, 0, 3, 5, []), (0, 0, 0, 2, 0, []), (25, 0, 0, 0, 0, []), (6, 6, 0, 0, 0, []), (8, 0, 0, 0, 2, []), (2, 0, 0, 1, 0, []), (23, 0, 0, 3, 6, []), (0, 0, 0, 2, 0, []), (25, 0, 0, 0, 0, []), (8, 0, 0, 0, 0, []), (6, 1, 0, 0, 0, []), (26, 0, 0, 0, 0, []), (2, 0, 0, 1, 0, []), (23, 0, 0, 3, 7, []), (0, 0, 0, 2, 0, []), (25, 0, 0, 0, 0, []), (19, 0, 0, 65, 1, []), (2, 0, 0, 0, 0, []), (23, 0, 0, 6, 0, []), (2, 0, 0, 1, 0, []), (23, 0, 0, 3, 6, []), (0, 0, 0, 2, 0, []), (25, 0, 0, 0, 0, []), (6, 6, 0, 0, 0, []), (8, 0, 0, 0, 2, []), (2, 0, 0, 1, 0, []), (23, 0, 0, 3, 5, []), (0, 0, 0, 2, 0, []), (25, 0, 0, 0, 0, []), (8, 0, 0, 0, 0, []), (6, 1, 0, 0, 0, []), (26, 0, 0, 0, 0, []), (16, 1, 0, 2, 0, []), (21, 0, 0, 25, 0, []), (34, 0, 0, 0, 0, [])]
/-- RailOfHeads$Ways.nextRoom.(LRailOfHeads$Plan;II)I -/
def mx_p65 : List mx_Op := [(45, 0, 0, 0, 0, [1, 1, 1, 1, 1, 1, 1]), (6, (-1), 0, 0, 0, []), (3, 0, 0, 4, 0, []), (6, 1000, 0, 0, 0, []), (3, 0, 0, 5, 0, []), (6, 0, 0, 0, 0, []), (3, 0, 0, 6, 0, []), (45, 0, 0, 7, 0, [1, 1, 1, 1, 1, 1, 1]), (0, 0, 0, 6, 0, []), (2, 0, 0, 1, 0, []), (23, 0, 0, 3, 2, []), (20, 0, 0, 45, 3, []), (2, 0, 0, 0, 0, []), (23, 0, 0, 6, 0, []), (0, 0, 0, 2, 0, []), (6, 6, 0, 0, 0, []), (8, 0, 0, 0, 2, []), (0, 0, 0, 6, 0, []), (8, 0, 0, 0, 0, []), (25, 0, 0, 0, 0, []), (6, 1, 0, 0, 0, []), (20, 0, 0, 43, 1, []), (2, 0, 0, 0, 0, []), (23, 0, 0, 6, 0, []), (0, 0, 0, 6, 0, []), (6, 6, 0, 0, 0, []), (8, 0, 0, 0, 2, []), (0, 0, 0, 3, 0, []), (8, 0, 0, 0, 0, []), (25, 0, 0, 0, 0, []), (0, 0, 0, 5, 0, []), (20, 0, 0, 43, 3, []), (2, 0, 0, 0, 0, []), (23, 0, 0, 6, 0, []), (0, 0, 0, 6, 0, []), (6, 6, 0, 0, 0, []), (8, 0, 0, 0, 2, []), (0, 0, 0, 3, 0, []), (8, 0, 0, 0, 0, []), (25, 0, 0, 0, 0, []), (3, 0, 0, 5, 0, []), (0, 0, 0, 6, 0, []), (3, 0, 0, 4, 0, []), (16, 1, 0, 6, 0, []), (21, 0, 0, 7, 0, []), (0, 0, 0, 4, 0, []), (32, 0, 0, 0, 0, [])]
/-- RailOfHeads$Ways.measure.(LRailOfHeads$Plan;)V -/
def mx_p66 : List mx_Op := [(45, 0, 0, 0, 0, [1, 1, 1, 1, 1, 1]), (2, 0, 0, 0, 0, []), (2, 0, 0, 1, 0, []), (31, 0, 0, 64, 2, [0, 7, 3]), (6, 0, 0, 0, 0, []), (3, 0, 0, 2, 0, []), (45, 0, 0, 6, 0, [1, 1, 1, 0, 0, 0]), (0, 0, 0, 2, 0, []), (2, 0, 0, 1, 0, []), (23, 0, 0, 3, 2, []), (20, 0, 0, 67, 3, []), (6, 0, 0, 0, 0, []), (3, 0, 0, 3, 0, []), (45, 0, 0, 13, 0, [1, 1, 1, 1, 0, 0]), (0, 0, 0, 3, 0, []), (2, 0, 0, 1, 0, []), (23, 0, 0, 3, 2, []), (20, 0, 0, 65, 3, []), (6, 0, 0, 0, 0, []), (3, 0, 0, 4, 0, []), (45, 0, 0, 20, 0, [1, 1, 1, 1, 1, 0]), (0, 0, 0, 4, 0, []), (2, 0, 0, 1, 0, []), (23, 0, 0, 3, 2, []), (20, 0, 0, 63, 3, []), (2, 0, 0, 0, 0, []), (23, 0, 0, 6, 0, []), (0, 0, 0, 3, 0, []), (6, 6, 0, 0, 0, []), (8, 0, 0, 0, 2, []), (0, 0, 0, 2, 0, []), (8, 0, 0, 0, 0, []), (25, 0, 0, 0, 0, []), (2, 0, 0, 0, 0, []), (23, 0, 0, 6, 0, []), (0, 0, 0, 2, 0, []), (6, 6, 0, 0, 0, []), (8, 0, 0, 0, 2, []), (0, 0, 0, 4, 0, []), (8, 0, 0, 0, 0, []), (25, 0, 0, 0, 0, []), (8, 0, 0, 0, 0, []), (3, 0, 0, 5, 0, []), (2, 0, 0, 0, 0, []), (23, 0, 0, 6, 0, []), (0, 0, 0, 3, 0, []), (6, 6, 0, 0, 0, []), (8, 0, 0, 0, 2, []), (0, 0, 0, 4, 0, []), (8, 0, 0, 0, 0, []), (2, 0, 0, 0, 0, []), (23, 0, 0, 6, 0, []), (0, 0, 0, 3, 0, []), (6, 6, 0, 0, 0, []), (8, 0, 0, 0, 2, []), (0, 0, 0, 4, 0, []), (8, 0, 0, 0, 0, []), (25, 0, 0, 0, 0, []), (0, 0, 0, 5, 0, []), (46, 0, 0, 0, 0, []), (26, 0, 0, 0, 0, []), (16, 1, 0, 4, 0, []), (21, 0, 0, 20, 0, []), (16, 1, 0, 3, 0, []), (21, 0, 0, 13, 0, []), (16, 1, 0, 2, 0, []), (21, 0, 0, 6, 0, []), (6, 0, 0, 0, 0, []), (3, 0, 0, 2, 0, []), (45, 0, 0, 69, 0, [1, 1, 1, 0, 0, 0]), (0, 0, 0, 2, 0, []), (2, 0, 0, 1, 0, []), (23, 0, 0, 3, 2, []), (20, 0, 0, 98, 3, []), (6, 0, 0, 0, 0, []), (3, 0, 0, 3, 0, []), (45, 0, 0, 76, 0, [1, 1, 1, 1, 0, 0]), (0, 0, 0, 3, 0, []), (2, 0, 0, 1, 0, []), (23, 0, 0, 3, 2, []), (20, 0, 0, 96, 3, []), (2, 0, 0, 0, 0, []), (23, 0, 0, 6, 1, []), (0, 0, 0, 2, 0, []), (6, 6, 0, 0, 0, []), (8, 0, 0, 0, 2, []), (0, 0, 0, 3, 0, []), (8, 0, 0, 0, 0, []), (2, 0, 0, 0, 0, []), (2, 0, 0, 1, 0, []), (0, 0, 0, 2, 0, []), (0, 0, 0, 3, 0, []), (31, 0, 0, 65, 4, [1, 7, 7]), (26, 0, 0, 0, 0, []), (16, 1, 0, 3, 0, []), (21, 0, 0, 76, 0, []), (16, 1, 0, 2, 0, []), (21, 0, 0, 69, 0, []), (34, 0, 0, 0, 0, [])]
/-- RailOfHeads.noVisitor.(I)Z -/
def mx_p67 : List mx_Op := [(45, 0, 0, 0, 0, [1, 1]), (0, 0, 0, 1, 0, []), (2, 0, 0, 0, 0, []), (23, 0, 0, 7, 2, []), (23, 0, 0, 2, 0, []), (23, 0, 0, 3, 17, []), (31, 0, 0, 21, 2, [1, 0, 2]), (19, 0, 0, 10, 1, []), (6, 1, 0, 0, 0, []), (21, 0, 0, 11, 0, []), (6, 0, 0, 0, 0, []), (32, 0, 0, 0, 1, [])]
/-- RailOfHeads.unfound.(I)I -/
def mx_p68 : List mx_Op := [(45, 0, 0, 0, 0, [1, 1]), (2, 0, 0, 0, 0, []), (6, 0, 0, 0, 0, []), (24, 0, 0, 7, 9, []), (0, 0, 0, 1, 0, []), (32, 0, 0, 0, 0, [])]
/-- RailOfHeads.finding.(I)I -/
def mx_p69 : List mx_Op := [(45, 0, 0, 0, 0, [1, 1]), (2, 0, 0, 0, 0, []), (0, 0, 0, 1, 0, []), (24, 0, 0, 7, 9, []), (6, (-1000010), 0, 0, 0, []), (0, 0, 0, 1, 0, []), (8, 0, 0, 0, 1, []), (32, 0, 0, 0, 0, [])]
/-- RailOfHeads.as.(II)I -/
def mx_p70 : List mx_Op := [(45, 0, 0, 0, 0, [1, 1, 1, 1, 1]), (2, 0, 0, 0, 0, []), (0, 0, 0, 1, 0, []), (31, 0, 0, 67, 2, [1, 8, 2]), (19, 0, 0, 10, 1, []), (0, 0, 0, 2, 0, []), (6, 0, 0, 0, 0, []), (6, 5, 0, 0, 0, []), (31, 0, 0, 48, 3, [1, 0, 3]), (19, 0, 0, 12, 1, []), (6, (-1000001), 0, 0, 0, []), (32, 0, 0, 0, 0, []), (2, 0, 0, 0, 0, []), (23, 0, 0, 7, 2, []), (23, 0, 0, 2, 2, []), (0, 0, 0, 1, 0, []), (31, 0, 0, 2, 2, [1, 2, 2]), (3, 0, 0, 3, 0, []), (0, 0, 0, 2, 0, []), (19, 0, 0, 29, 0, []), (0, 0, 0, 2, 0, []), (0, 0, 0, 3, 0, []), (20, 0, 0, 29, 0, []), (0, 0, 0, 2, 0, []), (6, 3, 0, 0, 0, []), (20, 0, 0, 31, 1, []), (0, 0, 0, 3, 0, []), (6, 4, 0, 0, 0, []), (20, 0, 0, 31, 1, []), (6, 1, 0, 0, 0, []), (21, 0, 0, 32, 0, []), (6, 0, 0, 0, 0, []), (3, 0, 0, 4, 0, []), (0, 0, 0, 4, 0, []), (19, 0, 0, 39, 0, []), (2, 0, 0, 0, 0, []), (0, 0, 0, 1, 0, []), (31, 0, 0, 68, 2, [1, 8, 2]), (21, 0, 0, 42, 0, []), (2, 0, 0, 0, 0, []), (6, 3, 0, 0, 0, []), (31, 0, 0, 69, 2, [1, 8, 2]), (32, 0, 0, 0, 0, [])]
/-- RailOfHeads.ask.(II)I -/
def mx_p71 : List mx_Op := [(45, 0, 0, 0, 0, [1, 1, 1]), (2, 0, 0, 0, 0, []), (0, 0, 0, 1, 0, []), (31, 0, 0, 67, 2, [1, 8, 2]), (19, 0, 0, 9, 1, []), (0, 0, 0, 2, 0, []), (6, 2, 0, 0, 0, []), (31, 0, 0, 21, 2, [1, 0, 2]), (19, 0, 0, 11, 1, []), (6, (-1000001), 0, 0, 0, []), (32, 0, 0, 0, 0, []), (2, 0, 0, 0, 0, []), (23, 0, 0, 7, 5, []), (6, 0, 0, 0, 0, []), (24, 0, 0, 0, 2, []), (0, 0, 0, 2, 0, []), (19, 0, 0, 23, 1, []), (2, 0, 0, 0, 0, []), (23, 0, 0, 7, 5, []), (0, 0, 0, 1, 0, []), (6, 0, 0, 0, 0, []), (31, 0, 0, 14, 3, [1, 1, 3]), (21, 0, 0, 28, 0, []), (2, 0, 0, 0, 0, []), (23, 0, 0, 7, 5, []), (0, 0, 0, 1, 0, []), (6, 0, 0, 0, 0, []), (31, 0, 0, 11, 3, [1, 1, 3]), (32, 0, 0, 0, 0, [])]
/-- RailOfHeads.bestGuard.(II)I -/
def mx_p72 : List mx_Op := [(45, 0, 0, 0, 0, [1, 1, 1, 1, 1, 1, 1]), (6, 0, 0, 0, 0, []), (3, 0, 0, 3, 0, []), (6, (-1), 0, 0, 0, []), (3, 0, 0, 4, 0, []), (6, 0, 0, 0, 0, []), (3, 0, 0, 5, 0, []), (45, 0, 0, 7, 0, [1, 1, 1, 1, 1, 1, 0]), (0, 0, 0, 5, 0, []), (6, 20, 0, 0, 0, []), (20, 0, 0, 32, 4, []), (2, 0, 0, 0, 0, []), (23, 0, 0, 7, 3, []), (23, 0, 0, 2, 0, []), (0, 0, 0, 5, 0, []), (24, 0, 0, 3, 1, []), (2, 0, 0, 0, 0, []), (23, 0, 0, 7, 3, []), (0, 0, 0, 1, 0, []), (0, 0, 0, 2, 0, []), (6, 0, 0, 0, 0, []), (31, 0, 0, 31, 4, [1, 3, 5]), (3, 0, 0, 6, 0, []), (0, 0, 0, 6, 0, []), (0, 0, 0, 4, 0, []), (20, 0, 0, 30, 5, []), (0, 0, 0, 6, 0, []), (3, 0, 0, 4, 0, []), (0, 0, 0, 5, 0, []), (3, 0, 0, 3, 0, []), (16, 1, 0, 5, 0, []), (21, 0, 0, 7, 0, []), (0, 0, 0, 3, 0, []), (32, 0, 0, 0, 0, [])]
/-- RailOfHeads.bestRail.(II)I -/
def mx_p73 : List mx_Op := [(45, 0, 0, 0, 0, [1, 1, 1, 1, 1, 1, 1]), (6, 1, 0, 0, 0, []), (3, 0, 0, 3, 0, []), (6, (-1), 0, 0, 0, []), (3, 0, 0, 4, 0, []), (6, 1, 0, 0, 0, []), (3, 0, 0, 5, 0, []), (45, 0, 0, 7, 0, [1, 1, 1, 1, 1, 1, 0]), (0, 0, 0, 5, 0, []), (6, 20, 0, 0, 0, []), (20, 0, 0, 32, 4, []), (2, 0, 0, 0, 0, []), (23, 0, 0, 7, 3, []), (23, 0, 0, 2, 0, []), (0, 0, 0, 5, 0, []), (24, 0, 0, 3, 0, []), (2, 0, 0, 0, 0, []), (23, 0, 0, 7, 3, []), (0, 0, 0, 1, 0, []), (0, 0, 0, 2, 0, []), (6, 0, 0, 0, 0, []), (31, 0, 0, 31, 4, [1, 3, 5]), (3, 0, 0, 6, 0, []), (0, 0, 0, 6, 0, []), (0, 0, 0, 4, 0, []), (20, 0, 0, 30, 5, []), (0, 0, 0, 6, 0, []), (3, 0, 0, 4, 0, []), (0, 0, 0, 5, 0, []), (3, 0, 0, 3, 0, []), (16, 1, 0, 5, 0, []), (21, 0, 0, 7, 0, []), (0, 0, 0, 3, 0, []), (32, 0, 0, 0, 0, [])]
/-- RailOfHeads.noHouse.()Z -/
def mx_p74 : List mx_Op := [(45, 0, 0, 0, 0, [1]), (2, 0, 0, 0, 0, []), (23, 0, 0, 7, 2, []), (23, 0, 0, 2, 0, []), (23, 0, 0, 3, 2, []), (19, 0, 0, 8, 1, []), (6, 1, 0, 0, 0, []), (21, 0, 0, 9, 0, []), (6, 0, 0, 0, 0, []), (32, 0, 0, 0, 1, [])]
/-- RailOfHeads.noDay.(I)Z -/
def mx_p75 : List mx_Op := [(45, 0, 0, 0, 0, [1]), (0, 0, 0, 0, 0, []), (6, 1, 0, 0, 0, []), (6, 120, 0, 0, 0, []), (31, 0, 0, 48, 3, [1, 0, 3]), (19, 0, 0, 8, 1, []), (6, 1, 0, 0, 0, []), (21, 0, 0, 9, 0, []), (6, 0, 0, 0, 0, []), (32, 0, 0, 0, 1, [])]
/-- RailOfHeads.bestRule.(III)I -/
def mx_p76 : List mx_Op := [(45, 0, 0, 0, 0, [1, 1, 1, 1]), (2, 0, 0, 0, 0, []), (31, 0, 0, 74, 1, [1, 8, 1]), (19, 0, 0, 6, 0, []), (6, (-1000002), 0, 0, 0, []), (32, 0, 0, 0, 0, []), (0, 0, 0, 1, 0, []), (31, 0, 0, 75, 1, [1, 0, 1]), (19, 0, 0, 17, 1, []), (0, 0, 0, 2, 0, []), (6, 2, 0, 0, 0, []), (31, 0, 0, 21, 2, [1, 0, 2]), (19, 0, 0, 17, 0, []), (0, 0, 0, 3, 0, []), (6, 2, 0, 0, 0, []), (31, 0, 0, 21, 2, [1, 0, 2]), (19, 0, 0, 19, 1, []), (6, (-1000001), 0, 0, 0, []), (32, 0, 0, 0, 0, []), (2, 0, 0, 0, 0, []), (23, 0, 0, 7, 3, []), (2, 0, 0, 0, 0, []), (23, 0, 0, 7, 2, []), (31, 0, 0, 34, 2, [0, 3, 2]), (0, 0, 0, 2, 0, []), (19, 0, 0, 31, 1, []), (2, 0, 0, 0, 0, []), (0, 0, 0, 1, 0, []), (0, 0, 0, 3, 0, []), (31, 0, 0, 73, 3, [1, 8, 7]), (21, 0, 0, 35, 0, []), (2, 0, 0, 0, 0, []), (0, 0, 0, 1, 0, []), (0, 0, 0, 3, 0, []), (31, 0, 0, 72, 3, [1, 8, 7]), (32, 0, 0, 0, 0, [])]
/-- RailOfHeads$Row.holds.(II)Z -/
def mx_p77 : List mx_Op := [(45, 0, 0, 0, 0, [1, 1, 1]), (0, 0, 0, 1, 0, []), (19, 0, 0, 17, 2, []), (0, 0, 0, 2, 0, []), (19, 0, 0, 17, 2, []), (0, 0, 0, 2, 0, []), (2, 0, 0, 0, 0, []), (23, 0, 0, 5, 3, []), (20, 0, 0, 17, 4, []), (0, 0, 0, 1, 0, []), (2, 0, 0, 0, 0, []), (23, 0, 0, 5, 3, []), (0, 0, 0, 2, 0, []), (8, 0, 0, 0, 1, []), (20, 0, 0, 17, 4, []), (6, 1, 0, 0, 0, []), (21, 0, 0, 18, 0, []), (6, 0, 0, 0, 0, []), (32, 0, 0, 0, 1, [])]
/-- RailOfHeads.copy.(IIIII)I -/
def mx_p78 : List mx_Op := [(45, 0, 0, 0, 0, [1, 1, 1, 1, 1, 1, 1, 1]), (0, 0, 0, 1, 0, []), (6, 8, 0, 0, 0, []), (31, 0, 0, 21, 2, [1, 0, 2]), (19, 0, 0, 9, 0, []), (0, 0, 0, 3, 0, []), (6, 8, 0, 0, 0, []), (31, 0, 0, 21, 2, [1, 0, 2]), (19, 0, 0, 11, 1, []), (6, (-1000001), 0, 0, 0, []), (32, 0, 0, 0, 0, []), (2, 0, 0, 0, 0, []), (23, 0, 0, 7, 0, []), (0, 0, 0, 1, 0, []), (29, 0, 0, 0, 0, []), (5, 0, 0, 6, 0, []), (2, 0, 0, 0, 0, []), (23, 0, 0, 7, 0, []), (0, 0, 0, 3, 0, []), (29, 0, 0, 0, 0, []), (5, 0, 0, 7, 0, []), (2, 0, 0, 6, 0, []), (23, 0, 0, 5, 1, []), (19, 0, 0, 27, 1, []), (2, 0, 0, 7, 0, []), (23, 0, 0, 5, 1, []), (19, 0, 0, 31, 0, []), (2, 0, 0, 0, 0, []), (6, 1, 0, 0, 0, []), (31, 0, 0, 69, 2, [1, 8, 2]), (32, 0, 0, 0, 0, []), (2, 0, 0, 6, 0, []), (23, 0, 0, 5, 2, []), (2, 0, 0, 7, 0, []), (23, 0, 0, 5, 2, []), (20, 0, 0, 40, 0, []), (2, 0, 0, 0, 0, []), (6, 5, 0, 0, 0, []), (31, 0, 0, 69, 2, [1, 8, 2]), (32, 0, 0, 0, 0, []), (2, 0, 0, 6, 0, []), (0, 0, 0, 2, 0, []), (0, 0, 0, 5, 0, []), (31, 0, 0, 77, 3, [1, 6, 3]), (19, 0, 0, 50, 0, []), (2, 0, 0, 7, 0, []), (0, 0, 0, 4, 0, []), (0, 0, 0, 5, 0, []), (31, 0, 0, 77, 3, [1, 6, 3]), (19, 0, 0, 54, 1, []), (2, 0, 0, 0, 0, []), (6, 2, 0, 0, 0, []), (31, 0, 0, 69, 2, [1, 8, 2]), (32, 0, 0, 0, 0, []), (2, 0, 0, 6, 0, []), (23, 0, 0, 5, 0, []), (0, 0, 0, 2, 0, []), (2, 0, 0, 7, 0, []), (23, 0, 0, 5, 0, []), (0, 0, 0, 4, 0, []), (0, 0, 0, 5, 0, []), (36, 0, 0, 0, 0, []), (2, 0, 0, 0, 0, []), (0, 0, 0, 5, 0, []), (31, 0, 0, 68, 2, [1, 8, 2]), (32, 0, 0, 0, 0, [])]
/-- RailOfHeads.standingRows.()I -/
def mx_p79 : List mx_Op := [(45, 0, 0, 0, 0, [1, 1, 1]), (6, 0, 0, 0, 0, []), (3, 0, 0, 1, 0, []), (6, 0, 0, 0, 0, []), (3, 0, 0, 2, 0, []), (45, 0, 0, 5, 0, [1, 1, 1]), (0, 0, 0, 2, 0, []), (6, 8, 0, 0, 0, []), (20, 0, 0, 23, 3, []), (0, 0, 0, 1, 0, []), (2, 0, 0, 0, 0, []), (23, 0, 0, 7, 0, []), (0, 0, 0, 2, 0, []), (29, 0, 0, 0, 0, []), (23, 0, 0, 5, 1, []), (19, 0, 0, 18, 0, []), (6, 0, 0, 0, 0, []), (21, 0, 0, 19, 0, []), (6, 1, 0, 0, 0, []), (8, 0, 0, 0, 0, []), (3, 0, 0, 1, 0, []), (16, 1, 0, 2, 0, []), (21, 0, 0, 5, 0, []), (0, 0, 0, 1, 0, []), (32, 0, 0, 0, 0, [])]
/-- RailOfHeads.count.(I)I -/
def mx_p80 : List mx_Op := [(45, 0, 0, 0, 0, [1, 1]), (0, 0, 0, 1, 0, []), (22, 0, 0, 45, 0, [3, 6, 11, 16, 21, 26, 31, 36, 41]), (2, 0, 0, 0, 0, []), (31, 0, 0, 79, 1, [1, 8, 3]), (32, 0, 0, 0, 0, []), (2, 0, 0, 0, 0, []), (23, 0, 0, 7, 2, []), (23, 0, 0, 2, 0, []), (23, 0, 0, 3, 2, []), (32, 0, 0, 0, 0, []), (2, 0, 0, 0, 0, []), (23, 0, 0, 7, 2, []), (23, 0, 0, 2, 0, []), (23, 0, 0, 3, 4, []), (32, 0, 0, 0, 0, []), (2, 0, 0, 0, 0, []), (23, 0, 0, 7, 2, []), (23, 0, 0, 2, 0, []), (23, 0, 0, 3, 8, []), (32, 0, 0, 0, 0, []), (2, 0, 0, 0, 0, []), (23, 0, 0, 7, 2, []), (23, 0, 0, 2, 0, []), (23, 0, 0, 3, 12, []), (32, 0, 0, 0, 0, []), (2, 0, 0, 0, 0, []), (23, 0, 0, 7, 2, []), (23, 0, 0, 2, 0, []), (23, 0, 0, 3, 17, []), (32, 0, 0, 0, 0, []), (2, 0, 0, 0, 0, []), (23, 0, 0, 7, 2, []), (23, 0, 0, 2, 2, []), (23, 0, 0, 1, 2, []), (32, 0, 0, 0, 0, []), (2, 0, 0, 0, 0, []), (23, 0, 0, 7, 2, []), (23, 0, 0, 2, 2, []), (23, 0, 0, 1, 3, []), (32, 0, 0, 0, 0, []), (2, 0, 0, 0, 0, []), (23, 0, 0, 7, 1, []), (23, 0, 0, 4, 1, []), (32, 0, 0, 0, 0, []), (6, (-1000001), 0, 0, 0, []), (32, 0, 0, 0, 0, [])]
/-- RailOfHeads.offBy.(ILRailOfHeads$Row;II)I -/
def mx_p81 : List mx_Op := [(45, 0, 0, 0, 0, [1, 1, 1, 1, 1, 1, 1]), (6, 0, 0, 0, 0, []), (3, 0, 0, 5, 0, []), (2, 0, 0, 0, 0, []), (23, 0, 0, 7, 3, []), (23, 0, 0, 2, 2, []), (6, 0, 0, 0, 0, []), (31, 0, 0, 19, 2, [0, 2, 5]), (6, 0, 0, 0, 0, []), (3, 0, 0, 6, 0, []), (45, 0, 0, 10, 0, [1, 1, 1, 1, 1, 1, 1]), (0, 0, 0, 6, 0, []), (0, 0, 0, 4, 0, []), (20, 0, 0, 37, 3, []), (2, 0, 0, 0, 0, []), (23, 0, 0, 7, 3, []), (23, 0, 0, 2, 2, []), (31, 0, 0, 29, 1, [0, 2, 2]), (0, 0, 0, 5, 0, []), (2, 0, 0, 0, 0, []), (23, 0, 0, 7, 3, []), (23, 0, 0, 2, 2, []), (23, 0, 0, 1, 12, []), (0, 0, 0, 1, 0, []), (25, 0, 0, 0, 0, []), (2, 0, 0, 2, 0, []), (23, 0, 0, 5, 0, []), (0, 0, 0, 3, 0, []), (0, 0, 0, 6, 0, []), (8, 0, 0, 0, 0, []), (25, 0, 0, 0, 0, []), (8, 0, 0, 0, 1, []), (47, 0, 0, 0, 2, []), (8, 0, 0, 0, 0, []), (3, 0, 0, 5, 0, []), (16, 1, 0, 6, 0, []), (21, 0, 0, 10, 0, []), (0, 0, 0, 5, 0, []), (32, 0, 0, 0, 0, [])]
/-- RailOfHeads.nearestLaw.(ILRailOfHeads$Row;II)I -/
def mx_p82 : List mx_Op := [(45, 0, 0, 0, 0, [1, 1, 1, 1, 1, 1, 1, 1, 1]), (2, 0, 0, 0, 0, []), (23, 0, 0, 7, 3, []), (2, 0, 0, 0, 0, []), (23, 0, 0, 7, 2, []), (31, 0, 0, 34, 2, [0, 3, 2]), (6, 0, 0, 0, 0, []), (3, 0, 0, 5, 0, []), (6, (-1), 0, 0, 0, []), (3, 0, 0, 6, 0, []), (6, 0, 0, 0, 0, []), (3, 0, 0, 7, 0, []), (45, 0, 0, 12, 0, [1, 1, 1, 1, 1, 1, 1, 1, 0]), (0, 0, 0, 7, 0, []), (6, 3, 0, 0, 0, []), (20, 0, 0, 40, 3, []), (2, 0, 0, 0, 0, []), (23, 0, 0, 7, 3, []), (23, 0, 0, 2, 0, []), (23, 0, 0, 3, 15, []), (0, 0, 0, 7, 0, []), (31, 0, 0, 18, 2, [0, 0, 4]), (2, 0, 0, 0, 0, []), (0, 0, 0, 1, 0, []), (2, 0, 0, 2, 0, []), (0, 0, 0, 3, 0, []), (0, 0, 0, 4, 0, []), (31, 0, 0, 81, 5, [1, 8, 7]), (3, 0, 0, 8, 0, []), (0, 0, 0, 6, 0, []), (19, 0, 0, 34, 2, []), (0, 0, 0, 8, 0, []), (0, 0, 0, 6, 0, []), (20, 0, 0, 38, 3, []), (0, 0, 0, 8, 0, []), (3, 0, 0, 6, 0, []), (0, 0, 0, 7, 0, []), (3, 0, 0, 5, 0, []), (16, 1, 0, 7, 0, []), (21, 0, 0, 12, 0, []), (0, 0, 0, 5, 0, []), (32, 0, 0, 0, 0, [])]
/-- RailOfHeads.counts.(IIII)I -/
def mx_p83 : List mx_Op := [(45, 0, 0, 0, 0, [1, 1, 1, 1, 1, 1]), (0, 0, 0, 1, 0, []), (2, 0, 0, 0, 0, []), (23, 0, 0, 7, 2, []), (23, 0, 0, 2, 0, []), (23, 0, 0, 3, 2, []), (31, 0, 0, 21, 2, [1, 0, 2]), (19, 0, 0, 17, 0, []), (0, 0, 0, 2, 0, []), (6, 8, 0, 0, 0, []), (31, 0, 0, 21, 2, [1, 0, 2]), (19, 0, 0, 17, 0, []), (0, 0, 0, 4, 0, []), (6, 1, 0, 0, 0, []), (6, 40, 0, 0, 0, []), (31, 0, 0, 48, 3, [1, 0, 3]), (19, 0, 0, 19, 1, []), (6, (-1000001), 0, 0, 0, []), (32, 0, 0, 0, 0, []), (2, 0, 0, 0, 0, []), (23, 0, 0, 7, 0, []), (0, 0, 0, 2, 0, []), (29, 0, 0, 0, 0, []), (23, 0, 0, 5, 1, []), (19, 0, 0, 29, 0, []), (2, 0, 0, 0, 0, []), (6, 1, 0, 0, 0, []), (31, 0, 0, 69, 2, [1, 8, 2]), (32, 0, 0, 0, 0, []), (2, 0, 0, 0, 0, []), (23, 0, 0, 7, 0, []), (0, 0, 0, 2, 0, []), (29, 0, 0, 0, 0, []), (0, 0, 0, 3, 0, []), (0, 0, 0, 4, 0, []), (31, 0, 0, 77, 3, [1, 6, 3]), (19, 0, 0, 41, 1, []), (2, 0, 0, 0, 0, []), (6, 2, 0, 0, 0, []), (31, 0, 0, 69, 2, [1, 8, 2]), (32, 0, 0, 0, 0, []), (6, 0, 0, 0, 0, []), (3, 0, 0, 5, 0, []), (45, 0, 0, 43, 0, [1, 1, 1, 1, 1, 1]), (0, 0, 0, 5, 0, []), (0, 0, 0, 4, 0, []), (20, 0, 0, 64, 3, []), (2, 0, 0, 0, 0, []), (23, 0, 0, 7, 0, []), (0, 0, 0, 2, 0, []), (29, 0, 0, 0, 0, []), (23, 0, 0, 5, 0, []), (0, 0, 0, 3, 0, []), (0, 0, 0, 5, 0, []), (8, 0, 0, 0, 0, []), (25, 0, 0, 0, 0, []), (6, 0, 0, 0, 0, []), (6, 30, 0, 0, 0, []), (31, 0, 0, 48, 3, [1, 0, 3]), (19, 0, 0, 62, 1, []), (6, (-1000001), 0, 0, 0, []), (32, 0, 0, 0, 0, []), (16, 1, 0, 5, 0, []), (21, 0, 0, 43, 0, []), (2, 0, 0, 0, 0, []), (2, 0, 0, 0, 0, []), (0, 0, 0, 1, 0, []), (2, 0, 0, 0, 0, []), (23, 0, 0, 7, 0, []), (0, 0, 0, 2, 0, []), (29, 0, 0, 0, 0, []), (0, 0, 0, 3, 0, []), (0, 0, 0, 4, 0, []), (31, 0, 0, 82, 5, [1, 8, 9]), (31, 0, 0, 68, 2, [1, 8, 2]), (32, 0, 0, 0, 0, [])]
/-- RailOfHeads.drop.(I)I -/
def mx_p84 : List mx_Op := [(45, 0, 0, 0, 0, [1, 1]), (0, 0, 0, 1, 0, []), (6, 8, 0, 0, 0, []), (31, 0, 0, 21, 2, [1, 0, 2]), (19, 0, 0, 7, 1, []), (6, (-1000001), 0, 0, 0, []), (32, 0, 0, 0, 0, []), (2, 0, 0, 0, 0, []), (23, 0, 0, 7, 0, []), (0, 0, 0, 1, 0, []), (29, 0, 0, 0, 0, []), (23, 0, 0, 5, 1, []), (19, 0, 0, 17, 0, []), (2, 0, 0, 0, 0, []), (6, 1, 0, 0, 0, []), (31, 0, 0, 69, 2, [1, 8, 2]), (32, 0, 0, 0, 0, []), (2, 0, 0, 0, 0, []), (23, 0, 0, 7, 0, []), (0, 0, 0, 1, 0, []), (29, 0, 0, 0, 0, []), (6, 1, 0, 0, 0, []), (24, 0, 0, 5, 1, []), (2, 0, 0, 0, 0, []), (2, 0, 0, 0, 0, []), (23, 0, 0, 7, 0, []), (0, 0, 0, 1, 0, []), (29, 0, 0, 0, 0, []), (23, 0, 0, 5, 3, []), (31, 0, 0, 68, 2, [1, 8, 2]), (32, 0, 0, 0, 0, [])]
/-- RailOfHeads.far.(II)I -/
def mx_p85 : List mx_Op := [(45, 0, 0, 0, 0, [1, 1, 1, 1]), (0, 0, 0, 1, 0, []), (2, 0, 0, 0, 0, []), (23, 0, 0, 7, 2, []), (23, 0, 0, 2, 0, []), (23, 0, 0, 3, 2, []), (31, 0, 0, 21, 2, [1, 0, 2]), (19, 0, 0, 15, 0, []), (0, 0, 0, 2, 0, []), (2, 0, 0, 0, 0, []), (23, 0, 0, 7, 2, []), (23, 0, 0, 2, 0, []), (23, 0, 0, 3, 2, []), (31, 0, 0, 21, 2, [1, 0, 2]), (19, 0, 0, 17, 1, []), (6, (-1000001), 0, 0, 0, []), (32, 0, 0, 0, 0, []), (2, 0, 0, 0, 0, []), (23, 0, 0, 7, 2, []), (23, 0, 0, 2, 1, []), (23, 0, 0, 6, 0, []), (0, 0, 0, 1, 0, []), (6, 6, 0, 0, 0, []), (8, 0, 0, 0, 2, []), (0, 0, 0, 2, 0, []), (8, 0, 0, 0, 0, []), (25, 0, 0, 0, 0, []), (3, 0, 0, 3, 0, []), (0, 0, 0, 3, 0, []), (6, 1000, 0, 0, 0, []), (20, 0, 0, 33, 1, []), (6, (-1000000), 0, 0, 0, []), (21, 0, 0, 34, 0, []), (0, 0, 0, 3, 0, []), (32, 0, 0, 0, 0, [])]
/-- RailOfHeads.fault.()I -/
def mx_p86 : List mx_Op := [(45, 0, 0, 0, 0, [1]), (2, 0, 0, 0, 0, []), (23, 0, 0, 7, 8, []), (32, 0, 0, 0, 0, [])]
/-- RailOfHeads.feed.(JI)I -/
def mx_p87 : List mx_Op := [(45, 0, 0, 0, 0, [1, 1, 1, 1, 1]), (0, 0, 0, 3, 0, []), (6, 1, 0, 0, 0, []), (6, 8, 0, 0, 0, []), (31, 0, 0, 48, 3, [1, 0, 3]), (19, 0, 0, 8, 1, []), (6, (-1000001), 0, 0, 0, []), (32, 0, 0, 0, 0, []), (2, 0, 0, 0, 0, []), (23, 0, 0, 7, 1, []), (23, 0, 0, 4, 1, []), (0, 0, 0, 3, 0, []), (8, 0, 0, 0, 0, []), (6, 400, 0, 0, 0, []), (20, 0, 0, 17, 5, []), (6, (-1000003), 0, 0, 0, []), (32, 0, 0, 0, 0, []), (0, 0, 0, 3, 0, []), (6, 1, 0, 0, 0, []), (8, 0, 0, 0, 1, []), (3, 0, 0, 4, 0, []), (45, 0, 0, 21, 0, [1, 1, 0, 0, 1]), (0, 0, 0, 4, 0, []), (19, 0, 0, 36, 2, []), (2, 0, 0, 0, 0, []), (23, 0, 0, 7, 1, []), (1, 0, 0, 1, 0, []), (6, 8, 0, 0, 0, []), (0, 0, 0, 4, 0, []), (8, 0, 0, 0, 2, []), (12, 0, 0, 0, 1, []), (15, 0, 0, 0, 0, []), (10, 0, 0, 0, 1, []), (31, 0, 0, 53, 2, [0, 5, 2]), (16, (-1), 0, 4, 0, []), (21, 0, 0, 21, 0, []), (2, 0, 0, 0, 0, []), (23, 0, 0, 7, 1, []), (23, 0, 0, 4, 1, []), (32, 0, 0, 0, 0, [])]
/-- RailOfHeads.fire.()I -/
def mx_p88 : List mx_Op := [(45, 0, 0, 0, 0, [1, 1, 1, 1, 1]), (2, 0, 0, 0, 0, []), (31, 0, 0, 74, 1, [1, 8, 1]), (19, 0, 0, 6, 0, []), (6, (-1000002), 0, 0, 0, []), (32, 0, 0, 0, 0, []), (6, 0, 0, 0, 0, []), (3, 0, 0, 1, 0, []), (6, 0, 0, 0, 0, []), (3, 0, 0, 2, 0, []), (45, 0, 0, 10, 0, [1, 1, 1, 0, 0]), (0, 0, 0, 2, 0, []), (2, 0, 0, 0, 0, []), (23, 0, 0, 7, 2, []), (23, 0, 0, 2, 0, []), (23, 0, 0, 3, 17, []), (20, 0, 0, 49, 3, []), (2, 0, 0, 0, 0, []), (23, 0, 0, 7, 2, []), (23, 0, 0, 2, 2, []), (23, 0, 0, 1, 5, []), (0, 0, 0, 2, 0, []), (25, 0, 0, 0, 0, []), (3, 0, 0, 3, 0, []), (0, 0, 0, 3, 0, []), (19, 0, 0, 27, 3, []), (21, 0, 0, 47, 0, []), (2, 0, 0, 0, 0, []), (23, 0, 0, 7, 2, []), (23, 0, 0, 2, 1, []), (23, 0, 0, 6, 0, []), (0, 0, 0, 3, 0, []), (6, 6, 0, 0, 0, []), (8, 0, 0, 0, 2, []), (25, 0, 0, 0, 0, []), (3, 0, 0, 4, 0, []), (0, 0, 0, 4, 0, []), (6, 1000, 0, 0, 0, []), (20, 0, 0, 41, 1, []), (6, (-1000000), 0, 0, 0, []), (32, 0, 0, 0, 0, []), (0, 0, 0, 1, 0, []), (0, 0, 0, 4, 0, []), (6, 1, 0, 0, 0, []), (8, 0, 0, 0, 0, []), (46, 0, 0, 0, 1, []), (3, 0, 0, 1, 0, []), (16, 1, 0, 2, 0, []), (21, 0, 0, 10, 0, []), (0, 0, 0, 1, 0, []), (32, 0, 0, 0, 0, [])]
/-- RailOfHeads.go.(I)I -/
def mx_p89 : List mx_Op := [(45, 0, 0, 0, 0, [1, 1, 1]), (2, 0, 0, 0, 0, []), (31, 0, 0, 74, 1, [1, 8, 1]), (19, 0, 0, 6, 0, []), (6, (-1000002), 0, 0, 0, []), (32, 0, 0, 0, 0, []), (0, 0, 0, 1, 0, []), (6, 1, 0, 0, 0, []), (6, 60, 0, 0, 0, []), (31, 0, 0, 48, 3, [1, 0, 3]), (19, 0, 0, 13, 1, []), (6, (-1000001), 0, 0, 0, []), (32, 0, 0, 0, 0, []), (6, 0, 0, 0, 0, []), (3, 0, 0, 2, 0, []), (45, 0, 0, 15, 0, [1, 1, 1]), (0, 0, 0, 2, 0, []), (0, 0, 0, 1, 0, []), (20, 0, 0, 25, 3, []), (2, 0, 0, 0, 0, []), (23, 0, 0, 7, 2, []), (23, 0, 0, 2, 2, []), (31, 0, 0, 29, 1, [0, 2, 2]), (16, 1, 0, 2, 0, []), (21, 0, 0, 15, 0, []), (2, 0, 0, 0, 0, []), (23, 0, 0, 7, 2, []), (23, 0, 0, 2, 2, []), (23, 0, 0, 1, 2, []), (32, 0, 0, 0, 0, [])]
/-- RailOfHeads.hangBy.(II)Z -/
def mx_p90 : List mx_Op := [(45, 0, 0, 0, 0, [1, 1, 1, 1, 1, 1, 1]), (0, 0, 0, 1, 0, []), (3, 0, 0, 3, 0, []), (6, 0, 0, 0, 0, []), (3, 0, 0, 4, 0, []), (0, 0, 0, 2, 0, []), (6, 1, 0, 0, 0, []), (8, 0, 0, 0, 1, []), (3, 0, 0, 5, 0, []), (45, 0, 0, 9, 0, [1, 0, 1, 1, 1, 1, 0]), (0, 0, 0, 5, 0, []), (19, 0, 0, 45, 2, []), (0, 0, 0, 3, 0, []), (0, 0, 0, 2, 0, []), (9, 0, 0, 0, 1, []), (3, 0, 0, 6, 0, []), (0, 0, 0, 3, 0, []), (0, 0, 0, 2, 0, []), (9, 0, 0, 0, 0, []), (3, 0, 0, 3, 0, []), (0, 0, 0, 4, 0, []), (6, 1, 0, 0, 0, []), (0, 0, 0, 6, 0, []), (8, 0, 0, 0, 5, []), (8, 0, 0, 0, 4, []), (3, 0, 0, 4, 0, []), (2, 0, 0, 0, 0, []), (23, 0, 0, 7, 6, []), (0, 0, 0, 5, 0, []), (0, 0, 0, 6, 0, []), (26, 0, 0, 0, 0, []), (2, 0, 0, 0, 0, []), (23, 0, 0, 7, 3, []), (23, 0, 0, 2, 0, []), (23, 0, 0, 3, 9, []), (0, 0, 0, 5, 0, []), (2, 0, 0, 0, 0, []), (23, 0, 0, 7, 2, []), (23, 0, 0, 2, 0, []), (23, 0, 0, 3, 9, []), (0, 0, 0, 6, 0, []), (25, 0, 0, 0, 0, []), (26, 0, 0, 0, 0, []), (16, (-1), 0, 5, 0, []), (21, 0, 0, 9, 0, []), (0, 0, 0, 4, 0, []), (6, 1, 0, 0, 0, []), (0, 0, 0, 2, 0, []), (8, 0, 0, 0, 5, []), (6, 1, 0, 0, 0, []), (8, 0, 0, 0, 1, []), (20, 0, 0, 54, 1, []), (6, 1, 0, 0, 0, []), (21, 0, 0, 55, 0, []), (6, 0, 0, 0, 0, []), (32, 0, 0, 0, 1, [])]
/-- RailOfHeads.hangBest.(II)I -/
def mx_p91 : List mx_Op := [(45, 0, 0, 0, 0, [1, 1, 1, 1, 1, 1, 1]), (6, 1, 0, 0, 0, []), (3, 0, 0, 3, 0, []), (6, 0, 0, 0, 0, []), (3, 0, 0, 4, 0, []), (45, 0, 0, 5, 0, [1, 1, 1, 1, 1, 0, 0]), (0, 0, 0, 4, 0, []), (0, 0, 0, 2, 0, []), (20, 0, 0, 15, 3, []), (0, 0, 0, 3, 0, []), (0, 0, 0, 2, 0, []), (8, 0, 0, 0, 2, []), (3, 0, 0, 3, 0, []), (16, 1, 0, 4, 0, []), (21, 0, 0, 5, 0, []), (2, 0, 0, 0, 0, []), (23, 0, 0, 7, 3, []), (2, 0, 0, 0, 0, []), (23, 0, 0, 7, 2, []), (31, 0, 0, 34, 2, [0, 3, 2]), (6, (-1), 0, 0, 0, []), (3, 0, 0, 4, 0, []), (6, 0, 0, 0, 0, []), (3, 0, 0, 5, 0, []), (45, 0, 0, 24, 0, [1, 1, 1, 1, 1, 1, 0]), (0, 0, 0, 5, 0, []), (0, 0, 0, 3, 0, []), (20, 0, 0, 56, 3, []), (2, 0, 0, 0, 0, []), (0, 0, 0, 5, 0, []), (0, 0, 0, 2, 0, []), (31, 0, 0, 90, 3, [1, 8, 7]), (19, 0, 0, 34, 1, []), (21, 0, 0, 54, 0, []), (2, 0, 0, 0, 0, []), (23, 0, 0, 7, 3, []), (0, 0, 0, 1, 0, []), (6, 0, 0, 0, 0, []), (6, 0, 0, 0, 0, []), (31, 0, 0, 31, 4, [1, 3, 5]), (3, 0, 0, 6, 0, []), (0, 0, 0, 6, 0, []), (0, 0, 0, 4, 0, []), (20, 0, 0, 54, 5, []), (0, 0, 0, 6, 0, []), (3, 0, 0, 4, 0, []), (2, 0, 0, 0, 0, []), (23, 0, 0, 7, 6, []), (6, 0, 0, 0, 0, []), (2, 0, 0, 0, 0, []), (23, 0, 0, 7, 7, []), (6, 0, 0, 0, 0, []), (0, 0, 0, 2, 0, []), (36, 0, 0, 0, 0, []), (16, 1, 0, 5, 0, []), (21, 0, 0, 24, 0, []), (0, 0, 0, 4, 0, []), (32, 0, 0, 0, 0, [])]
/-- RailOfHeads.house.()I -/
def mx_p92 : List mx_Op := [(45, 0, 0, 0, 0, [1]), (2, 0, 0, 0, 0, []), (23, 0, 0, 7, 1, []), (2, 0, 0, 0, 0, []), (23, 0, 0, 7, 3, []), (23, 0, 0, 2, 0, []), (31, 0, 0, 63, 2, [0, 5, 2]), (2, 0, 0, 0, 0, []), (23, 0, 0, 7, 1, []), (6, 0, 0, 0, 0, []), (24, 0, 0, 4, 1, []), (2, 0, 0, 0, 0, []), (23, 0, 0, 7, 1, []), (23, 0, 0, 4, 3, []), (19, 0, 0, 26, 0, []), (2, 0, 0, 0, 0, []), (2, 0, 0, 0, 0, []), (23, 0, 0, 7, 1, []), (23, 0, 0, 4, 3, []), (24, 0, 0, 7, 8, []), (6, (-1000100), 0, 0, 0, []), (2, 0, 0, 0, 0, []), (23, 0, 0, 7, 1, []), (23, 0, 0, 4, 2, []), (8, 0, 0, 0, 1, []), (32, 0, 0, 0, 0, []), (2, 0, 0, 0, 0, []), (23, 0, 0, 7, 2, []), (2, 0, 0, 0, 0, []), (23, 0, 0, 7, 3, []), (31, 0, 0, 34, 2, [0, 3, 2]), (2, 0, 0, 0, 0, []), (23, 0, 0, 7, 2, []), (23, 0, 0, 2, 1, []), (2, 0, 0, 0, 0, []), (23, 0, 0, 7, 2, []), (23, 0, 0, 2, 0, []), (31, 0, 0, 66, 2, [0, 7, 6]), (2, 0, 0, 0, 0, []), (23, 0, 0, 7, 2, []), (23, 0, 0, 2, 2, []), (6, 0, 0, 0, 0, []), (31, 0, 0, 19, 2, [0, 2, 5]), (2, 0, 0, 0, 0, []), (23, 0, 0, 7, 2, []), (23, 0, 0, 2, 0, []), (23, 0, 0, 3, 17, []), (32, 0, 0, 0, 0, [])]
/-- RailOfHeads.hung.(II)I -/
def mx_p93 : List mx_Op := [(45, 0, 0, 0, 0, [1, 1, 1, 1, 1]), (2, 0, 0, 0, 0, []), (31, 0, 0, 74, 1, [1, 8, 1]), (19, 0, 0, 6, 0, []), (6, (-1000002), 0, 0, 0, []), (32, 0, 0, 0, 0, []), (0, 0, 0, 1, 0, []), (31, 0, 0, 75, 1, [1, 0, 1]), (19, 0, 0, 12, 1, []), (0, 0, 0, 2, 0, []), (6, (-1), 0, 0, 0, []), (20, 0, 0, 14, 3, []), (6, (-1000001), 0, 0, 0, []), (32, 0, 0, 0, 0, []), (2, 0, 0, 0, 0, []), (23, 0, 0, 7, 2, []), (23, 0, 0, 2, 0, []), (23, 0, 0, 3, 8, []), (3, 0, 0, 3, 0, []), (0, 0, 0, 3, 0, []), (6, 1, 0, 0, 0, []), (6, 4, 0, 0, 0, []), (31, 0, 0, 48, 3, [1, 0, 3]), (19, 0, 0, 27, 0, []), (0, 0, 0, 2, 0, []), (0, 0, 0, 3, 0, []), (20, 0, 0, 29, 2, []), (6, (-1000000), 0, 0, 0, []), (32, 0, 0, 0, 0, []), (2, 0, 0, 0, 0, []), (0, 0, 0, 1, 0, []), (0, 0, 0, 3, 0, []), (31, 0, 0, 91, 3, [1, 8, 7]), (3, 0, 0, 4, 0, []), (0, 0, 0, 2, 0, []), (6, (-1), 0, 0, 0, []), (20, 0, 0, 39, 1, []), (0, 0, 0, 4, 0, []), (21, 0, 0, 43, 0, []), (2, 0, 0, 0, 0, []), (23, 0, 0, 7, 7, []), (0, 0, 0, 2, 0, []), (25, 0, 0, 0, 0, []), (32, 0, 0, 0, 0, [])]
/-- RailOfHeads.image.(I)I -/
def mx_p94 : List mx_Op := [(45, 0, 0, 0, 0, [1, 1]), (0, 0, 0, 1, 0, []), (6, 2, 0, 0, 0, []), (31, 0, 0, 21, 2, [1, 0, 2]), (19, 0, 0, 7, 1, []), (6, (-1000001), 0, 0, 0, []), (32, 0, 0, 0, 0, []), (2, 0, 0, 0, 0, []), (31, 0, 0, 74, 1, [1, 8, 1]), (19, 0, 0, 12, 0, []), (6, (-1000002), 0, 0, 0, []), (32, 0, 0, 0, 0, []), (2, 0, 0, 0, 0, []), (23, 0, 0, 7, 4, []), (0, 0, 0, 1, 0, []), (29, 0, 0, 0, 1, []), (2, 0, 0, 0, 0, []), (23, 0, 0, 7, 2, []), (31, 0, 0, 35, 2, [0, 3, 2]), (6, 1, 0, 0, 0, []), (32, 0, 0, 0, 0, [])]
/-- RailOfHeads.kind.(I)I -/
def mx_p95 : List mx_Op := [(45, 0, 0, 0, 0, [1, 1]), (2, 0, 0, 0, 0, []), (0, 0, 0, 1, 0, []), (31, 0, 0, 67, 2, [1, 8, 2]), (19, 0, 0, 7, 0, []), (6, (-1000001), 0, 0, 0, []), (21, 0, 0, 12, 0, []), (2, 0, 0, 0, 0, []), (23, 0, 0, 7, 2, []), (23, 0, 0, 2, 2, []), (0, 0, 0, 1, 0, []), (31, 0, 0, 2, 2, [1, 2, 2]), (32, 0, 0, 0, 0, [])]
/-- RailOfHeads.oneWay.(II)I -/
def mx_p96 : List mx_Op := [(45, 0, 0, 0, 0, [1, 1, 1, 1]), (0, 0, 0, 1, 0, []), (2, 0, 0, 0, 0, []), (23, 0, 0, 7, 2, []), (23, 0, 0, 2, 0, []), (23, 0, 0, 3, 4, []), (31, 0, 0, 21, 2, [1, 0, 2]), (19, 0, 0, 11, 0, []), (0, 0, 0, 2, 0, []), (31, 0, 0, 75, 1, [1, 0, 1]), (19, 0, 0, 13, 0, []), (6, (-1000001), 0, 0, 0, []), (32, 0, 0, 0, 0, []), (2, 0, 0, 0, 0, []), (23, 0, 0, 7, 3, []), (2, 0, 0, 0, 0, []), (23, 0, 0, 7, 2, []), (31, 0, 0, 34, 2, [0, 3, 2]), (2, 0, 0, 0, 0, []), (23, 0, 0, 7, 3, []), (0, 0, 0, 2, 0, []), (6, 0, 0, 0, 0, []), (6, 0, 0, 0, 0, []), (31, 0, 0, 31, 4, [1, 3, 5]), (3, 0, 0, 3, 0, []), (2, 0, 0, 0, 0, []), (23, 0, 0, 7, 3, []), (23, 0, 0, 2, 0, []), (23, 0, 0, 3, 7, []), (0, 0, 0, 1, 0, []), (6, 1, 0, 0, 0, []), (26, 0, 0, 0, 0, []), (2, 0, 0, 0, 0, []), (23, 0, 0, 7, 3, []), (23, 0, 0, 2, 1, []), (2, 0, 0, 0, 0, []), (23, 0, 0, 7, 3, []), (23, 0, 0, 2, 0, []), (31, 0, 0, 66, 2, [0, 7, 6]), (2, 0, 0, 0, 0, []), (23, 0, 0, 7, 3, []), (0, 0, 0, 2, 0, []), (6, 0, 0, 0, 0, []), (6, 0, 0, 0, 0, []), (31, 0, 0, 31, 4, [1, 3, 5]), (0, 0, 0, 3, 0, []), (8, 0, 0, 0, 1, []), (32, 0, 0, 0, 0, [])]
/-- RailOfHeads.picture.(III)I -/
def mx_p97 : List mx_Op := [(45, 0, 0, 0, 0, [1, 1, 1, 1, 1]), (0, 0, 0, 1, 0, []), (2, 0, 0, 0, 0, []), (23, 0, 0, 7, 2, []), (23, 0, 0, 2, 0, []), (23, 0, 0, 3, 8, []), (31, 0, 0, 21, 2, [1, 0, 2]), (19, 0, 0, 15, 0, []), (0, 0, 0, 2, 0, []), (31, 0, 0, 75, 1, [1, 0, 1]), (19, 0, 0, 15, 1, []), (0, 0, 0, 3, 0, []), (6, 2, 0, 0, 0, []), (31, 0, 0, 21, 2, [1, 0, 2]), (19, 0, 0, 17, 1, []), (6, (-1000001), 0, 0, 0, []), (32, 0, 0, 0, 0, []), (2, 0, 0, 0, 0, []), (23, 0, 0, 7, 3, []), (2, 0, 0, 0, 0, []), (23, 0, 0, 7, 2, []), (31, 0, 0, 34, 2, [0, 3, 2]), (2, 0, 0, 0, 0, []), (23, 0, 0, 7, 3, []), (0, 0, 0, 2, 0, []), (6, 0, 0, 0, 0, []), (6, 0, 0, 0, 0, []), (31, 0, 0, 31, 4, [1, 3, 5]), (3, 0, 0, 4, 0, []), (0, 0, 0, 3, 0, []), (6, 1, 0, 0, 0, []), (20, 0, 0, 43, 1, []), (0, 0, 0, 4, 0, []), (2, 0, 0, 0, 0, []), (23, 0, 0, 7, 3, []), (0, 0, 0, 2, 0, []), (6, 0, 0, 0, 0, []), (6, 1, 0, 0, 0, []), (0, 0, 0, 1, 0, []), (8, 0, 0, 0, 5, []), (31, 0, 0, 31, 4, [1, 3, 5]), (8, 0, 0, 0, 1, []), (32, 0, 0, 0, 0, []), (2, 0, 0, 0, 0, []), (23, 0, 0, 7, 3, []), (23, 0, 0, 2, 0, []), (23, 0, 0, 3, 11, []), (0, 0, 0, 1, 0, []), (18, 0, 0, 0, 0, []), (25, 0, 0, 0, 0, []), (6, 1, 0, 0, 0, []), (8, 0, 0, 0, 1, []), (26, 0, 0, 0, 0, []), (2, 0, 0, 0, 0, []), (23, 0, 0, 7, 3, []), (0, 0, 0, 2, 0, []), (6, 0, 0, 0, 0, []), (6, 0, 0, 0, 0, []), (31, 0, 0, 31, 4, [1, 3, 5]), (0, 0, 0, 4, 0, []), (8, 0, 0, 0, 1, []), (32, 0, 0, 0, 0, [])]
/-- RailOfHeads.restore.(I)I -/
def mx_p98 : List mx_Op := [(45, 0, 0, 0, 0, [1, 1]), (0, 0, 0, 1, 0, []), (6, 2, 0, 0, 0, []), (31, 0, 0, 21, 2, [1, 0, 2]), (19, 0, 0, 7, 1, []), (6, (-1000001), 0, 0, 0, []), (32, 0, 0, 0, 0, []), (2, 0, 0, 0, 0, []), (23, 0, 0, 7, 4, []), (0, 0, 0, 1, 0, []), (29, 0, 0, 0, 1, []), (23, 0, 0, 2, 0, []), (23, 0, 0, 3, 2, []), (19, 0, 0, 16, 1, []), (6, (-1000002), 0, 0, 0, []), (32, 0, 0, 0, 0, []), (2, 0, 0, 0, 0, []), (23, 0, 0, 7, 2, []), (2, 0, 0, 0, 0, []), (23, 0, 0, 7, 4, []), (0, 0, 0, 1, 0, []), (29, 0, 0, 0, 1, []), (31, 0, 0, 35, 2, [0, 3, 2]), (6, 1, 0, 0, 0, []), (32, 0, 0, 0, 0, [])]
/-- RailOfHeads.room.(II)I -/
def mx_p99 : List mx_Op := [(45, 0, 0, 0, 0, [1, 1, 1]), (0, 0, 0, 1, 0, []), (2, 0, 0, 0, 0, []), (23, 0, 0, 7, 2, []), (23, 0, 0, 2, 0, []), (23, 0, 0, 3, 2, []), (31, 0, 0, 21, 2, [1, 0, 2]), (19, 0, 0, 12, 0, []), (0, 0, 0, 2, 0, []), (6, 2, 0, 0, 0, []), (31, 0, 0, 21, 2, [1, 0, 2]), (19, 0, 0, 14, 1, []), (6, (-1000001), 0, 0, 0, []), (32, 0, 0, 0, 0, []), (0, 0, 0, 2, 0, []), (19, 0, 0, 23, 1, []), (2, 0, 0, 0, 0, []), (23, 0, 0, 7, 2, []), (23, 0, 0, 2, 0, []), (23, 0, 0, 3, 3, []), (0, 0, 0, 1, 0, []), (25, 0, 0, 0, 0, []), (21, 0, 0, 29, 0, []), (2, 0, 0, 0, 0, []), (23, 0, 0, 7, 2, []), (23, 0, 0, 2, 2, []), (23, 0, 0, 1, 12, []), (0, 0, 0, 1, 0, []), (25, 0, 0, 0, 0, []), (32, 0, 0, 0, 0, [])]
/-- RailOfHeads$Row.make.(II)V -/
def mx_p100 : List mx_Op := [(45, 0, 0, 0, 0, [1, 1, 1]), (2, 0, 0, 0, 0, []), (6, 0, 0, 0, 0, []), (24, 0, 0, 5, 1, []), (2, 0, 0, 0, 0, []), (0, 0, 0, 1, 0, []), (24, 0, 0, 5, 2, []), (2, 0, 0, 0, 0, []), (0, 0, 0, 2, 0, []), (24, 0, 0, 5, 3, []), (2, 0, 0, 0, 0, []), (23, 0, 0, 5, 0, []), (6, 0, 0, 0, 0, []), (31, 0, 0, 18, 2, [0, 0, 4]), (34, 0, 0, 0, 0, [])]
/-- RailOfHeads.row.(III)I -/
def mx_p101 : List mx_Op := [(45, 0, 0, 0, 0, [1, 1, 1, 1]), (0, 0, 0, 1, 0, []), (6, 8, 0, 0, 0, []), (31, 0, 0, 21, 2, [1, 0, 2]), (19, 0, 0, 12, 0, []), (0, 0, 0, 2, 0, []), (6, 3, 0, 0, 0, []), (31, 0, 0, 21, 2, [1, 0, 2]), (19, 0, 0, 12, 0, []), (0, 0, 0, 3, 0, []), (6, 40, 0, 0, 0, []), (20, 0, 0, 14, 5, []), (6, (-1000001), 0, 0, 0, []), (32, 0, 0, 0, 0, []), (0, 0, 0, 3, 0, []), (19, 0, 0, 20, 3, []), (2, 0, 0, 0, 0, []), (6, 4, 0, 0, 0, []), (31, 0, 0, 69, 2, [1, 8, 2]), (32, 0, 0, 0, 0, []), (2, 0, 0, 0, 0, []), (23, 0, 0, 7, 0, []), (0, 0, 0, 1, 0, []), (29, 0, 0, 0, 0, []), (0, 0, 0, 2, 0, []), (0, 0, 0, 3, 0, []), (31, 0, 0, 100, 3, [0, 6, 3]), (2, 0, 0, 0, 0, []), (0, 0, 0, 3, 0, []), (31, 0, 0, 68, 2, [1, 8, 2]), (32, 0, 0, 0, 0, [])]
/-- RailOfHeads.rule.(II)I -/
def mx_p102 : List mx_Op := [(45, 0, 0, 0, 0, [1, 1, 1]), (2, 0, 0, 0, 0, []), (31, 0, 0, 74, 1, [1, 8, 1]), (19, 0, 0, 6, 0, []), (6, (-1000002), 0, 0, 0, []), (32, 0, 0, 0, 0, []), (0, 0, 0, 1, 0, []), (6, 1, 0, 0, 0, []), (6, 20, 0, 0, 0, []), (31, 0, 0, 48, 3, [1, 0, 3]), (19, 0, 0, 16, 0, []), (0, 0, 0, 2, 0, []), (6, 0, 0, 0, 0, []), (6, 20, 0, 0, 0, []), (31, 0, 0, 48, 3, [1, 0, 3]), (19, 0, 0, 18, 1, []), (6, (-1000001), 0, 0, 0, []), (32, 0, 0, 0, 0, []), (2, 0, 0, 0, 0, []), (23, 0, 0, 7, 2, []), (23, 0, 0, 2, 0, []), (0, 0, 0, 1, 0, []), (24, 0, 0, 3, 0, []), (2, 0, 0, 0, 0, []), (23, 0, 0, 7, 2, []), (23, 0, 0, 2, 0, []), (0, 0, 0, 2, 0, []), (24, 0, 0, 3, 1, []), (6, 1, 0, 0, 0, []), (32, 0, 0, 0, 0, [])]
/-- RailOfHeads.seen.(II)I -/
def mx_p103 : List mx_Op := [(45, 0, 0, 0, 0, [1, 1, 1]), (2, 0, 0, 0, 0, []), (31, 0, 0, 74, 1, [1, 8, 1]), (19, 0, 0, 6, 0, []), (6, (-1000002), 0, 0, 0, []), (32, 0, 0, 0, 0, []), (0, 0, 0, 1, 0, []), (31, 0, 0, 75, 1, [1, 0, 1]), (19, 0, 0, 13, 1, []), (0, 0, 0, 2, 0, []), (6, 3, 0, 0, 0, []), (31, 0, 0, 21, 2, [1, 0, 2]), (19, 0, 0, 15, 1, []), (6, (-1000001), 0, 0, 0, []), (32, 0, 0, 0, 0, []), (2, 0, 0, 0, 0, []), (23, 0, 0, 7, 3, []), (2, 0, 0, 0, 0, []), (23, 0, 0, 7, 2, []), (31, 0, 0, 34, 2, [0, 3, 2]), (2, 0, 0, 0, 0, []), (23, 0, 0, 7, 3, []), (0, 0, 0, 1, 0, []), (0, 0, 0, 2, 0, []), (6, 0, 0, 0, 0, []), (31, 0, 0, 31, 4, [1, 3, 5]), (32, 0, 0, 0, 0, [])]
/-- RailOfHeads$Row.cut.(I)I -/
def mx_p104 : List mx_Op := [(45, 0, 0, 0, 0, [1, 1]), (2, 0, 0, 0, 0, []), (23, 0, 0, 5, 2, []), (19, 0, 0, 7, 1, []), (0, 0, 0, 1, 0, []), (10, 0, 0, 0, 1, []), (21, 0, 0, 15, 0, []), (2, 0, 0, 0, 0, []), (23, 0, 0, 5, 2, []), (6, 1, 0, 0, 0, []), (20, 0, 0, 14, 1, []), (0, 0, 0, 1, 0, []), (10, 0, 0, 0, 2, []), (21, 0, 0, 15, 0, []), (0, 0, 0, 1, 0, []), (32, 0, 0, 0, 0, [])]
/-- RailOfHeads.set.(III)I -/
def mx_p105 : List mx_Op := [(45, 0, 0, 0, 0, [1, 1, 1, 1, 1]), (0, 0, 0, 1, 0, []), (6, 8, 0, 0, 0, []), (31, 0, 0, 21, 2, [1, 0, 2]), (19, 0, 0, 7, 1, []), (6, (-1000001), 0, 0, 0, []), (32, 0, 0, 0, 0, []), (2, 0, 0, 0, 0, []), (23, 0, 0, 7, 0, []), (0, 0, 0, 1, 0, []), (29, 0, 0, 0, 0, []), (5, 0, 0, 4, 0, []), (2, 0, 0, 4, 0, []), (23, 0, 0, 5, 1, []), (19, 0, 0, 19, 0, []), (2, 0, 0, 0, 0, []), (6, 1, 0, 0, 0, []), (31, 0, 0, 69, 2, [1, 8, 2]), (32, 0, 0, 0, 0, []), (2, 0, 0, 4, 0, []), (0, 0, 0, 2, 0, []), (6, 1, 0, 0, 0, []), (31, 0, 0, 77, 3, [1, 6, 3]), (19, 0, 0, 28, 1, []), (2, 0, 0, 0, 0, []), (6, 2, 0, 0, 0, []), (31, 0, 0, 69, 2, [1, 8, 2]), (32, 0, 0, 0, 0, []), (2, 0, 0, 4, 0, []), (23, 0, 0, 5, 0, []), (0, 0, 0, 2, 0, []), (2, 0, 0, 4, 0, []), (0, 0, 0, 3, 0, []), (31, 0, 0, 104, 2, [1, 6, 2]), (26, 0, 0, 0, 0, []), (2, 0, 0, 0, 0, []), (2, 0, 0, 4, 0, []), (23, 0, 0, 5, 0, []), (0, 0, 0, 2, 0, []), (25, 0, 0, 0, 0, []), (31, 0, 0, 68, 2, [1, 8, 2]), (32, 0, 0, 0, 0, [])]
/-- RailOfHeads.status.()I -/
def mx_p106 : List mx_Op := [(45, 0, 0, 0, 0, [1]), (2, 0, 0, 0, 0, []), (23, 0, 0, 7, 9, []), (32, 0, 0, 0, 0, [])]
/-- RailOfHeads.tickets.(II)I -/
def mx_p107 : List mx_Op := [(45, 0, 0, 0, 0, [1, 1, 1, 1, 1, 1, 1]), (0, 0, 0, 1, 0, []), (2, 0, 0, 0, 0, []), (23, 0, 0, 7, 2, []), (23, 0, 0, 2, 0, []), (23, 0, 0, 3, 12, []), (31, 0, 0, 21, 2, [1, 0, 2]), (19, 0, 0, 11, 0, []), (0, 0, 0, 2, 0, []), (31, 0, 0, 75, 1, [1, 0, 1]), (19, 0, 0, 13, 0, []), (6, (-1000001), 0, 0, 0, []), (32, 0, 0, 0, 0, []), (2, 0, 0, 0, 0, []), (23, 0, 0, 7, 3, []), (2, 0, 0, 0, 0, []), (23, 0, 0, 7, 2, []), (31, 0, 0, 34, 2, [0, 3, 2]), (6, 0, 0, 0, 0, []), (3, 0, 0, 3, 0, []), (6, (-1), 0, 0, 0, []), (3, 0, 0, 4, 0, []), (6, 0, 0, 0, 0, []), (3, 0, 0, 5, 0, []), (45, 0, 0, 24, 0, [1, 1, 1, 1, 1, 1, 0]), (0, 0, 0, 5, 0, []), (6, 60, 0, 0, 0, []), (20, 0, 0, 51, 4, []), (2, 0, 0, 0, 0, []), (23, 0, 0, 7, 3, []), (23, 0, 0, 2, 0, []), (23, 0, 0, 3, 14, []), (0, 0, 0, 1, 0, []), (0, 0, 0, 5, 0, []), (26, 0, 0, 0, 0, []), (2, 0, 0, 0, 0, []), (23, 0, 0, 7, 3, []), (0, 0, 0, 2, 0, []), (6, 0, 0, 0, 0, []), (6, 0, 0, 0, 0, []), (31, 0, 0, 31, 4, [1, 3, 5]), (3, 0, 0, 6, 0, []), (0, 0, 0, 6, 0, []), (0, 0, 0, 4, 0, []), (20, 0, 0, 49, 5, []), (0, 0, 0, 6, 0, []), (3, 0, 0, 4, 0, []), (0, 0, 0, 5, 0, []), (3, 0, 0, 3, 0, []), (16, 1, 0, 5, 0, []), (21, 0, 0, 24, 0, []), (0, 0, 0, 3, 0, []), (32, 0, 0, 0, 0, [])]
/-- RailOfHeads.trace.(I)I -/
def mx_p108 : List mx_Op := [(45, 0, 0, 0, 0, [1, 1]), (0, 0, 0, 1, 0, []), (2, 0, 0, 0, 0, []), (23, 0, 0, 7, 5, []), (23, 0, 0, 0, 2, []), (31, 0, 0, 21, 2, [1, 0, 2]), (19, 0, 0, 13, 0, []), (2, 0, 0, 0, 0, []), (23, 0, 0, 7, 5, []), (23, 0, 0, 0, 1, []), (0, 0, 0, 1, 0, []), (25, 0, 0, 0, 0, []), (21, 0, 0, 14, 0, []), (6, (-1000000), 0, 0, 0, []), (32, 0, 0, 0, 0, [])]
/-- RailOfHeads.visitor.(II)I -/
def mx_p109 : List mx_Op := [(45, 0, 0, 0, 0, [1, 1, 1, 1, 1]), (2, 0, 0, 0, 0, []), (0, 0, 0, 1, 0, []), (31, 0, 0, 67, 2, [1, 8, 2]), (19, 0, 0, 7, 0, []), (6, (-1000001), 0, 0, 0, []), (32, 0, 0, 0, 0, []), (2, 0, 0, 0, 0, []), (23, 0, 0, 7, 2, []), (23, 0, 0, 2, 2, []), (5, 0, 0, 3, 0, []), (2, 0, 0, 3, 0, []), (23, 0, 0, 1, 10, []), (0, 0, 0, 1, 0, []), (25, 0, 0, 0, 0, []), (3, 0, 0, 4, 0, []), (0, 0, 0, 2, 0, []), (22, 0, 0, 86, 0, [18, 23, 35, 45, 50, 55, 60, 65, 72]), (2, 0, 0, 3, 0, []), (23, 0, 0, 1, 4, []), (0, 0, 0, 1, 0, []), (25, 0, 0, 0, 0, []), (32, 0, 0, 0, 0, []), (2, 0, 0, 3, 0, []), (23, 0, 0, 1, 5, []), (0, 0, 0, 1, 0, []), (25, 0, 0, 0, 0, []), (19, 0, 0, 30, 3, []), (6, (-1000000), 0, 0, 0, []), (21, 0, 0, 34, 0, []), (2, 0, 0, 3, 0, []), (23, 0, 0, 1, 5, []), (0, 0, 0, 1, 0, []), (25, 0, 0, 0, 0, []), (32, 0, 0, 0, 0, []), (2, 0, 0, 3, 0, []), (23, 0, 0, 1, 5, []), (0, 0, 0, 1, 0, []), (25, 0, 0, 0, 0, []), (6, (-2), 0, 0, 0, []), (20, 0, 0, 43, 1, []), (6, 1, 0, 0, 0, []), (21, 0, 0, 44, 0, []), (6, 0, 0, 0, 0, []), (32, 0, 0, 0, 0, []), (2, 0, 0, 3, 0, []), (23, 0, 0, 1, 6, []), (0, 0, 0, 1, 0, []), (25, 0, 0, 0, 0, []), (32, 0, 0, 0, 0, []), (2, 0, 0, 3, 0, []), (23, 0, 0, 1, 7, []), (0, 0, 0, 1, 0, []), (25, 0, 0, 0, 0, []), (32, 0, 0, 0, 0, []), (2, 0, 0, 3, 0, []), (23, 0, 0, 1, 8, []), (0, 0, 0, 1, 0, []), (25, 0, 0, 0, 0, []), (32, 0, 0, 0, 0, []), (2, 0, 0, 3, 0, []), (23, 0, 0, 1, 9, []), (0, 0, 0, 1, 0, []), (25, 0, 0, 0, 0, []), (32, 0, 0, 0, 0, []), (0, 0, 0, 4, 0, []), (6, (-1), 0, 0, 0, []), (20, 0, 0, 70, 1, []), (6, (-1000000), 0, 0, 0, []), (21, 0, 0, 71, 0, []), (0, 0, 0, 4, 0, []), (32, 0, 0, 0, 0, []), (0, 0, 0, 4, 0, []), (6, (-1), 0, 0, 0, []), (20, 0, 0, 77, 1, []), (6, 0, 0, 0, 0, []), (21, 0, 0, 85, 0, []), (2, 0, 0, 3, 0, []), (23, 0, 0, 1, 11, []), (0, 0, 0, 1, 0, []), (6, 8, 0, 0, 0, []), (8, 0, 0, 0, 2, []), (0, 0, 0, 4, 0, []), (8, 0, 0, 0, 0, []), (25, 0, 0, 0, 0, []), (32, 0, 0, 0, 0, []), (6, (-1000001), 0, 0, 0, []), (32, 0, 0, 0, 0, [])]
/-- RailOfHeadsModel.groupOf.(I)I -/
def mx_p110 : List mx_Op := [(45, 0, 0, 0, 0, [1, 1, 1, 1]), (0, 0, 0, 1, 0, []), (3, 0, 0, 2, 0, []), (6, 0, 0, 0, 0, []), (3, 0, 0, 3, 0, []), (45, 0, 0, 5, 0, [1, 0, 1, 1]), (0, 0, 0, 2, 0, []), (2, 0, 0, 0, 0, []), (23, 0, 0, 8, 5, []), (6, 56, 0, 0, 0, []), (6, 4, 0, 0, 0, []), (0, 0, 0, 3, 0, []), (8, 0, 0, 0, 2, []), (8, 0, 0, 0, 0, []), (25, 0, 0, 0, 0, []), (20, 0, 0, 29, 2, []), (0, 0, 0, 2, 0, []), (2, 0, 0, 0, 0, []), (23, 0, 0, 8, 5, []), (6, 56, 0, 0, 0, []), (6, 4, 0, 0, 0, []), (0, 0, 0, 3, 0, []), (8, 0, 0, 0, 2, []), (8, 0, 0, 0, 0, []), (25, 0, 0, 0, 0, []), (8, 0, 0, 0, 1, []), (3, 0, 0, 2, 0, []), (16, 1, 0, 3, 0, []), (21, 0, 0, 5, 0, []), (0, 0, 0, 3, 0, []), (32, 0, 0, 0, 0, [])]
/-- RailOfHeadsModel.told.(II)I -/
def mx_p111 : List mx_Op := [(45, 0, 0, 0, 0, [1, 1, 1]), (2, 0, 0, 0, 0, []), (23, 0, 0, 8, 5, []), (6, 56, 0, 0, 0, []), (6, 4, 0, 0, 0, []), (2, 0, 0, 0, 0, []), (0, 0, 0, 1, 0, []), (31, 0, 0, 110, 2, [1, 9, 4]), (8, 0, 0, 0, 2, []), (8, 0, 0, 0, 0, []), (0, 0, 0, 2, 0, []), (8, 0, 0, 0, 0, []), (25, 0, 0, 0, 0, []), (32, 0, 0, 0, 0, [])]
/-- RailOfHeadsModel.lawNow.(I)I -/
def mx_p112 : List mx_Op := [(45, 0, 0, 0, 0, [1, 1]), (2, 0, 0, 0, 0, []), (23, 0, 0, 8, 21, []), (19, 0, 0, 9, 3, []), (2, 0, 0, 0, 0, []), (0, 0, 0, 1, 0, []), (6, 2, 0, 0, 0, []), (31, 0, 0, 111, 3, [1, 9, 3]), (21, 0, 0, 11, 0, []), (2, 0, 0, 0, 0, []), (23, 0, 0, 8, 21, []), (32, 0, 0, 0, 0, [])]
/-- RailOfHeadsModel.isOpen.([III)Z -/
def mx_p113 : List mx_Op := [(45, 0, 0, 0, 0, [1, 1, 1, 1]), (2, 0, 0, 1, 0, []), (6, 14, 0, 0, 0, []), (0, 0, 0, 2, 0, []), (8, 0, 0, 0, 2, []), (6, 3, 0, 0, 0, []), (8, 0, 0, 0, 0, []), (25, 0, 0, 0, 0, []), (0, 0, 0, 3, 0, []), (8, 0, 0, 0, 6, []), (6, 1, 0, 0, 0, []), (8, 0, 0, 0, 3, []), (19, 0, 0, 38, 1, []), (2, 0, 0, 0, 0, []), (23, 0, 0, 8, 20, []), (6, 6, 0, 0, 0, []), (2, 0, 0, 1, 0, []), (6, 14, 0, 0, 0, []), (0, 0, 0, 2, 0, []), (8, 0, 0, 0, 2, []), (6, 0, 0, 0, 0, []), (8, 0, 0, 0, 0, []), (25, 0, 0, 0, 0, []), (8, 0, 0, 0, 2, []), (2, 0, 0, 0, 0, []), (23, 0, 0, 8, 5, []), (6, 40, 0, 0, 0, []), (6, 2, 0, 0, 0, []), (0, 0, 0, 3, 0, []), (8, 0, 0, 0, 2, []), (8, 0, 0, 0, 0, []), (25, 0, 0, 0, 0, []), (8, 0, 0, 0, 0, []), (25, 0, 0, 0, 0, []), (6, (-1000000), 0, 0, 0, []), (20, 0, 0, 38, 0, []), (6, 1, 0, 0, 0, []), (21, 0, 0, 39, 0, []), (6, 0, 0, 0, 0, []), (32, 0, 0, 0, 1, [])]
/-- RailOfHeadsModel.aim.([II)I -/
def mx_p114 : List mx_Op := [(45, 0, 0, 0, 0, [1, 1, 1, 1, 1, 1, 1, 1, 1, 1]), (6, (-1000000), 0, 0, 0, []), (3, 0, 0, 3, 0, []), (6, 0, 0, 0, 0, []), (3, 0, 0, 4, 0, []), (2, 0, 0, 0, 0, []), (0, 0, 0, 2, 0, []), (31, 0, 0, 112, 2, [1, 9, 2]), (19, 0, 0, 11, 1, []), (6, 1, 0, 0, 0, []), (21, 0, 0, 12, 0, []), (6, 0, 0, 0, 0, []), (3, 0, 0, 5, 0, []), (6, 0, 0, 0, 0, []), (3, 0, 0, 6, 0, []), (45, 0, 0, 15, 0, [1, 1, 1, 1, 1, 1, 1, 0, 0, 0]), (0, 0, 0, 6, 0, []), (2, 0, 0, 0, 0, []), (23, 0, 0, 8, 5, []), (6, 4, 0, 0, 0, []), (25, 0, 0, 0, 0, []), (20, 0, 0, 96, 3, []), (2, 0, 0, 0, 0, []), (2, 0, 0, 1, 0, []), (0, 0, 0, 2, 0, []), (0, 0, 0, 6, 0, []), (31, 0, 0, 113, 4, [1, 9, 4]), (19, 0, 0, 94, 0, []), (6, 40, 0, 0, 0, []), (6, 2, 0, 0, 0, []), (0, 0, 0, 6, 0, []), (8, 0, 0, 0, 2, []), (8, 0, 0, 0, 0, []), (3, 0, 0, 7, 0, []), (2, 0, 0, 0, 0, []), (23, 0, 0, 8, 5, []), (0, 0, 0, 7, 0, []), (6, 1, 0, 0, 0, []), (8, 0, 0, 0, 0, []), (25, 0, 0, 0, 0, []), (6, 5, 0, 0, 0, []), (2, 0, 0, 0, 0, []), (23, 0, 0, 8, 20, []), (6, 6, 0, 0, 0, []), (2, 0, 0, 1, 0, []), (6, 14, 0, 0, 0, []), (0, 0, 0, 2, 0, []), (8, 0, 0, 0, 2, []), (6, 0, 0, 0, 0, []), (8, 0, 0, 0, 0, []), (25, 0, 0, 0, 0, []), (8, 0, 0, 0, 2, []), (2, 0, 0, 0, 0, []), (23, 0, 0, 8, 5, []), (0, 0, 0, 7, 0, []), (25, 0, 0, 0, 0, []), (8, 0, 0, 0, 0, []), (25, 0, 0, 0, 0, []), (8, 0, 0, 0, 2, []), (8, 0, 0, 0, 1, []), (3, 0, 0, 8, 0, []), (2, 0, 0, 0, 0, []), (0, 0, 0, 2, 0, []), (31, 0, 0, 112, 2, [1, 9, 2]), (6, 2, 0, 0, 0, []), (20, 0, 0, 70, 0, []), (0, 0, 0, 5, 0, []), (19, 0, 0, 72, 0, []), (0, 0, 0, 6, 0, []), (19, 0, 0, 72, 1, []), (0, 0, 0, 6, 0, []), (32, 0, 0, 0, 0, []), (0, 0, 0, 3, 0, []), (6, (-1000000), 0, 0, 0, []), (20, 0, 0, 78, 0, []), (0, 0, 0, 8, 0, []), (0, 0, 0, 4, 0, []), (20, 0, 0, 80, 5, []), (6, 1, 0, 0, 0, []), (21, 0, 0, 81, 0, []), (6, 0, 0, 0, 0, []), (3, 0, 0, 9, 0, []), (0, 0, 0, 9, 0, []), (19, 0, 0, 86, 0, []), (0, 0, 0, 6, 0, []), (21, 0, 0, 87, 0, []), (0, 0, 0, 3, 0, []), (3, 0, 0, 3, 0, []), (0, 0, 0, 9, 0, []), (19, 0, 0, 92, 0, []), (0, 0, 0, 8, 0, []), (21, 0, 0, 93, 0, []), (0, 0, 0, 4, 0, []), (3, 0, 0, 4, 0, []), (16, 1, 0, 6, 0, []), (21, 0, 0, 15, 0, []), (0, 0, 0, 3, 0, []), (32, 0, 0, 0, 0, [])]
/-- RailOfHeadsModel.in.(JJJ)Z -/
def mx_p115 : List mx_Op := [(45, 0, 0, 0, 0, [1, 1, 1, 1, 1, 1]), (1, 0, 0, 0, 0, []), (1, 0, 0, 2, 0, []), (13, 0, 0, 0, 0, []), (19, 0, 0, 11, 2, []), (1, 0, 0, 0, 0, []), (1, 0, 0, 4, 0, []), (13, 0, 0, 0, 0, []), (19, 0, 0, 11, 4, []), (6, 1, 0, 0, 0, []), (21, 0, 0, 12, 0, []), (6, 0, 0, 0, 0, []), (32, 0, 0, 0, 1, [])]
/-- RailOfHeadsModel.isVisitor.(I)Z -/
def mx_p116 : List mx_Op := [(45, 0, 0, 0, 0, [1, 1]), (0, 0, 0, 1, 0, []), (14, 0, 0, 0, 0, []), (7, 0, 0, 0, 0, []), (2, 0, 0, 0, 0, []), (23, 0, 0, 8, 5, []), (6, 6, 0, 0, 0, []), (25, 0, 0, 0, 0, []), (6, 1, 0, 0, 0, []), (8, 0, 0, 0, 1, []), (14, 0, 0, 0, 0, []), (31, 0, 0, 115, 3, [1, 0, 6]), (32, 0, 0, 0, 1, [])]
/-- RailOfHeadsModel.kindOf.(I)I -/
def mx_p117 : List mx_Op := [(45, 0, 0, 0, 0, [1, 1, 1, 1]), (2, 0, 0, 0, 0, []), (23, 0, 0, 8, 8, []), (6, 14, 0, 0, 0, []), (0, 0, 0, 1, 0, []), (8, 0, 0, 0, 2, []), (6, 5, 0, 0, 0, []), (8, 0, 0, 0, 0, []), (25, 0, 0, 0, 0, []), (3, 0, 0, 2, 0, []), (2, 0, 0, 0, 0, []), (23, 0, 0, 8, 8, []), (6, 14, 0, 0, 0, []), (0, 0, 0, 1, 0, []), (8, 0, 0, 0, 2, []), (6, 0, 0, 0, 0, []), (8, 0, 0, 0, 0, []), (25, 0, 0, 0, 0, []), (3, 0, 0, 3, 0, []), (0, 0, 0, 3, 0, []), (6, (-2), 0, 0, 0, []), (20, 0, 0, 28, 0, []), (0, 0, 0, 3, 0, []), (6, (-1), 0, 0, 0, []), (20, 0, 0, 30, 1, []), (0, 0, 0, 2, 0, []), (6, 3, 0, 0, 0, []), (20, 0, 0, 30, 0, []), (6, 5, 0, 0, 0, []), (32, 0, 0, 0, 0, []), (0, 0, 0, 2, 0, []), (6, 1, 0, 0, 0, []), (20, 0, 0, 35, 1, []), (6, 1, 0, 0, 0, []), (21, 0, 0, 46, 0, []), (0, 0, 0, 2, 0, []), (6, 2, 0, 0, 0, []), (20, 0, 0, 40, 1, []), (6, 2, 0, 0, 0, []), (21, 0, 0, 46, 0, []), (0, 0, 0, 2, 0, []), (6, 3, 0, 0, 0, []), (20, 0, 0, 45, 1, []), (6, 4, 0, 0, 0, []), (21, 0, 0, 46, 0, []), (6, 3, 0, 0, 0, []), (32, 0, 0, 0, 0, [])]
/-- RailOfHeadsModel.isOf.(II)Z -/
def mx_p118 : List mx_Op := [(45, 0, 0, 0, 0, [1, 1]), (0, 0, 0, 1, 0, []), (19, 0, 0, 12, 0, []), (0, 0, 0, 0, 0, []), (0, 0, 0, 1, 0, []), (20, 0, 0, 12, 0, []), (0, 0, 0, 1, 0, []), (6, 3, 0, 0, 0, []), (20, 0, 0, 14, 1, []), (0, 0, 0, 0, 0, []), (6, 4, 0, 0, 0, []), (20, 0, 0, 14, 1, []), (6, 1, 0, 0, 0, []), (21, 0, 0, 15, 0, []), (6, 0, 0, 0, 0, []), (32, 0, 0, 0, 1, [])]
/-- RailOfHeadsModel.finding.(I)I -/
def mx_p119 : List mx_Op := [(45, 0, 0, 0, 0, [1, 1]), (2, 0, 0, 0, 0, []), (0, 0, 0, 1, 0, []), (24, 0, 0, 8, 1, []), (6, (-1000010), 0, 0, 0, []), (0, 0, 0, 1, 0, []), (8, 0, 0, 0, 1, []), (32, 0, 0, 0, 0, [])]
/-- RailOfHeadsModel.as.(II)I -/
def mx_p120 : List mx_Op := [(45, 0, 0, 0, 0, [1, 1, 1]), (2, 0, 0, 0, 0, []), (6, 0, 0, 0, 0, []), (24, 0, 0, 8, 0, []), (2, 0, 0, 0, 0, []), (0, 0, 0, 1, 0, []), (31, 0, 0, 116, 2, [1, 9, 2]), (19, 0, 0, 14, 0, []), (0, 0, 0, 2, 0, []), (14, 0, 0, 0, 0, []), (7, 0, 0, 0, 0, []), (7, 0, 5, 0, 0, []), (31, 0, 0, 115, 3, [1, 0, 6]), (19, 0, 0, 16, 1, []), (6, (-1000001), 0, 0, 0, []), (32, 0, 0, 0, 0, []), (2, 0, 0, 0, 0, []), (6, 0, 0, 0, 0, []), (24, 0, 0, 8, 1, []), (2, 0, 0, 0, 0, []), (0, 0, 0, 1, 0, []), (31, 0, 0, 117, 2, [1, 9, 4]), (0, 0, 0, 2, 0, []), (31, 0, 0, 118, 2, [1, 0, 2]), (19, 0, 0, 27, 0, []), (0, 0, 0, 1, 0, []), (21, 0, 0, 30, 0, []), (2, 0, 0, 0, 0, []), (6, 3, 0, 0, 0, []), (31, 0, 0, 119, 2, [1, 9, 2]), (32, 0, 0, 0, 0, [])]
/-- RailOfHeadsModel.began.(I)V -/
def mx_p121 : List mx_Op := [(45, 0, 0, 0, 0, [1, 1]), (2, 0, 0, 0, 0, []), (23, 0, 0, 8, 32, []), (6, 16, 0, 0, 0, []), (20, 0, 0, 17, 3, []), (2, 0, 0, 0, 0, []), (23, 0, 0, 8, 31, []), (2, 0, 0, 0, 0, []), (23, 0, 0, 8, 32, []), (0, 0, 0, 1, 0, []), (26, 0, 0, 0, 0, []), (2, 0, 0, 0, 0, []), (17, 0, 0, 0, 0, []), (23, 0, 0, 8, 32, []), (6, 1, 0, 0, 0, []), (8, 0, 0, 0, 0, []), (24, 0, 0, 8, 32, []), (34, 0, 0, 0, 0, [])]
/-- RailOfHeadsModel.plainSize.(I)I -/
def mx_p122 : List mx_Op := [(45, 0, 0, 0, 0, [1, 1]), (2, 0, 0, 0, 0, []), (6, 10, 0, 0, 0, []), (31, 0, 0, 121, 2, [0, 9, 2]), (2, 0, 0, 0, 0, []), (23, 0, 0, 8, 8, []), (6, 14, 0, 0, 0, []), (0, 0, 0, 1, 0, []), (8, 0, 0, 0, 2, []), (6, 2, 0, 0, 0, []), (8, 0, 0, 0, 0, []), (25, 0, 0, 0, 0, []), (32, 0, 0, 0, 0, [])]
/-- RailOfHeadsModel.markOf.(I)I -/
def mx_p123 : List mx_Op := [(45, 0, 0, 0, 0, [1, 1, 1, 1, 1]), (2, 0, 0, 0, 0, []), (0, 0, 0, 1, 0, []), (31, 0, 0, 117, 2, [1, 9, 4]), (3, 0, 0, 2, 0, []), (2, 0, 0, 0, 0, []), (23, 0, 0, 8, 8, []), (6, 14, 0, 0, 0, []), (0, 0, 0, 1, 0, []), (8, 0, 0, 0, 2, []), (6, 0, 0, 0, 0, []), (8, 0, 0, 0, 0, []), (25, 0, 0, 0, 0, []), (3, 0, 0, 3, 0, []), (0, 0, 0, 2, 0, []), (6, 4, 0, 0, 0, []), (20, 0, 0, 20, 1, []), (2, 0, 0, 0, 0, []), (6, 22, 0, 0, 0, []), (31, 0, 0, 121, 2, [0, 9, 2]), (45, 0, 0, 20, 0, [1, 1, 1, 1, 0]), (0, 0, 0, 2, 0, []), (6, 3, 0, 0, 0, []), (31, 0, 0, 118, 2, [1, 0, 2]), (19, 0, 0, 28, 0, []), (2, 0, 0, 0, 0, []), (6, 21, 0, 0, 0, []), (31, 0, 0, 121, 2, [0, 9, 2]), (45, 0, 0, 28, 0, [1, 1, 1, 1, 0]), (0, 0, 0, 2, 0, []), (6, 5, 0, 0, 0, []), (20, 0, 0, 35, 0, []), (0, 0, 0, 2, 0, []), (6, 2, 0, 0, 0, []), (20, 0, 0, 43, 1, []), (2, 0, 0, 0, 0, []), (0, 0, 0, 2, 0, []), (6, 5, 0, 0, 0, []), (20, 0, 0, 41, 1, []), (6, 23, 0, 0, 0, []), (21, 0, 0, 42, 0, []), (6, 24, 0, 0, 0, []), (31, 0, 0, 121, 2, [0, 9, 2]), (45, 0, 0, 43, 0, [1, 1, 1, 1, 0]), (2, 0, 0, 0, 0, []), (6, 20, 0, 0, 0, []), (31, 0, 0, 121, 2, [0, 9, 2]), (0, 0, 0, 2, 0, []), (6, 5, 0, 0, 0, []), (20, 0, 0, 56, 1, []), (0, 0, 0, 1, 0, []), (2, 0, 0, 0, 0, []), (0, 0, 0, 1, 0, []), (31, 0, 0, 122, 2, [1, 9, 2]), (8, 0, 0, 0, 0, []), (32, 0, 0, 0, 0, []), (0, 0, 0, 1, 0, []), (6, 100, 0, 0, 0, []), (0, 0, 0, 3, 0, []), (19, 0, 0, 62, 3, []), (6, 0, 0, 0, 0, []), (21, 0, 0, 63, 0, []), (0, 0, 0, 3, 0, []), (8, 0, 0, 0, 2, []), (8, 0, 0, 0, 0, []), (3, 0, 0, 4, 0, []), (0, 0, 0, 2, 0, []), (6, 1, 0, 0, 0, []), (20, 0, 0, 71, 1, []), (0, 0, 0, 1, 0, []), (21, 0, 0, 93, 0, []), (0, 0, 0, 2, 0, []), (6, 2, 0, 0, 0, []), (20, 0, 0, 78, 1, []), (0, 0, 0, 1, 0, []), (6, 1000, 0, 0, 0, []), (8, 0, 0, 0, 0, []), (21, 0, 0, 93, 0, []), (0, 0, 0, 2, 0, []), (6, 3, 0, 0, 0, []), (20, 0, 0, 83, 1, []), (0, 0, 0, 4, 0, []), (21, 0, 0, 93, 0, []), (0, 0, 0, 4, 0, []), (2, 0, 0, 0, 0, []), (23, 0, 0, 8, 8, []), (6, 14, 0, 0, 0, []), (0, 0, 0, 1, 0, []), (8, 0, 0, 0, 2, []), (6, 1, 0, 0, 0, []), (8, 0, 0, 0, 0, []), (25, 0, 0, 0, 0, []), (8, 0, 0, 0, 0, []), (32, 0, 0, 0, 0, [])]
/-- RailOfHeadsModel.sizeOf.(I)I -/
def mx_p124 : List mx_Op := [(45, 0, 0, 0, 0, [1, 1, 1, 1, 1]), (2, 0, 0, 0, 0, []), (0, 0, 0, 1, 0, []), (31, 0, 0, 117, 2, [1, 9, 4]), (3, 0, 0, 2, 0, []), (0, 0, 0, 2, 0, []), (6, 5, 0, 0, 0, []), (20, 0, 0, 12, 1, []), (2, 0, 0, 0, 0, []), (0, 0, 0, 1, 0, []), (31, 0, 0, 122, 2, [1, 9, 2]), (32, 0, 0, 0, 0, []), (0, 0, 0, 2, 0, []), (6, 4, 0, 0, 0, []), (20, 0, 0, 18, 1, []), (2, 0, 0, 0, 0, []), (6, 14, 0, 0, 0, []), (31, 0, 0, 121, 2, [0, 9, 2]), (2, 0, 0, 0, 0, []), (0, 0, 0, 2, 0, []), (6, 1, 0, 0, 0, []), (20, 0, 0, 24, 1, []), (6, 11, 0, 0, 0, []), (21, 0, 0, 30, 0, []), (0, 0, 0, 2, 0, []), (6, 2, 0, 0, 0, []), (20, 0, 0, 29, 1, []), (6, 12, 0, 0, 0, []), (21, 0, 0, 30, 0, []), (6, 13, 0, 0, 0, []), (31, 0, 0, 121, 2, [0, 9, 2]), (2, 0, 0, 0, 0, []), (0, 0, 0, 1, 0, []), (31, 0, 0, 122, 2, [1, 9, 2]), (3, 0, 0, 3, 0, []), (0, 0, 0, 2, 0, []), (6, 3, 0, 0, 0, []), (31, 0, 0, 118, 2, [1, 0, 2]), (19, 0, 0, 50, 0, []), (0, 0, 0, 2, 0, []), (6, 4, 0, 0, 0, []), (20, 0, 0, 47, 1, []), (0, 0, 0, 3, 0, []), (10, 0, 0, 0, 0, []), (6, 100, 0, 0, 0, []), (8, 0, 0, 0, 1, []), (21, 0, 0, 49, 0, []), (0, 0, 0, 3, 0, []), (10, 0, 0, 0, 0, []), (32, 0, 0, 0, 0, []), (2, 0, 0, 0, 0, []), (0, 0, 0, 1, 0, []), (31, 0, 0, 123, 2, [1, 9, 5]), (3, 0, 0, 4, 0, []), (0, 0, 0, 2, 0, []), (6, 1, 0, 0, 0, []), (20, 0, 0, 61, 1, []), (0, 0, 0, 3, 0, []), (0, 0, 0, 4, 0, []), (8, 0, 0, 0, 0, []), (21, 0, 0, 64, 0, []), (0, 0, 0, 3, 0, []), (0, 0, 0, 4, 0, []), (8, 0, 0, 0, 1, []), (32, 0, 0, 0, 0, [])]
/-- RailOfHeadsModel.ask.(II)I -/
def mx_p125 : List mx_Op := [(45, 0, 0, 0, 0, [1, 1, 1]), (2, 0, 0, 0, 0, []), (6, 0, 0, 0, 0, []), (24, 0, 0, 8, 0, []), (2, 0, 0, 0, 0, []), (0, 0, 0, 1, 0, []), (31, 0, 0, 116, 2, [1, 9, 2]), (19, 0, 0, 14, 0, []), (0, 0, 0, 2, 0, []), (14, 0, 0, 0, 0, []), (7, 0, 0, 0, 0, []), (7, 0, 1, 1, 0, []), (31, 0, 0, 115, 3, [1, 0, 6]), (19, 0, 0, 16, 1, []), (6, (-1000001), 0, 0, 0, []), (32, 0, 0, 0, 0, []), (2, 0, 0, 0, 0, []), (6, 0, 0, 0, 0, []), (24, 0, 0, 8, 32, []), (0, 0, 0, 2, 0, []), (19, 0, 0, 25, 1, []), (2, 0, 0, 0, 0, []), (0, 0, 0, 1, 0, []), (31, 0, 0, 124, 2, [1, 9, 5]), (21, 0, 0, 28, 0, []), (2, 0, 0, 0, 0, []), (0, 0, 0, 1, 0, []), (31, 0, 0, 123, 2, [1, 9, 5]), (32, 0, 0, 0, 0, [])]
/-- RailOfHeadsModel.bad.(I)V -/
def mx_p126 : List mx_Op := [(45, 0, 0, 0, 0, [1, 1]), (2, 0, 0, 0, 0, []), (23, 0, 0, 8, 18, []), (19, 0, 0, 11, 1, []), (2, 0, 0, 0, 0, []), (0, 0, 0, 1, 0, []), (24, 0, 0, 8, 18, []), (2, 0, 0, 0, 0, []), (2, 0, 0, 0, 0, []), (23, 0, 0, 8, 16, []), (24, 0, 0, 8, 19, []), (34, 0, 0, 0, 0, [])]
/-- RailOfHeadsModel.byteAt.(I)I -/
def mx_p127 : List mx_Op := [(45, 0, 0, 0, 0, [1, 1]), (0, 0, 0, 1, 0, []), (2, 0, 0, 0, 0, []), (23, 0, 0, 8, 13, []), (20, 0, 0, 10, 3, []), (2, 0, 0, 0, 0, []), (23, 0, 0, 8, 10, []), (0, 0, 0, 1, 0, []), (25, 0, 0, 0, 0, []), (21, 0, 0, 11, 0, []), (6, (-1000000), 0, 0, 0, []), (32, 0, 0, 0, 0, [])]
/-- RailOfHeadsModel.isLetter.(I)Z -/
def mx_p128 : List mx_Op := [(45, 0, 0, 0, 0, [1]), (0, 0, 0, 0, 0, []), (6, 97, 0, 0, 0, []), (20, 0, 0, 9, 2, []), (0, 0, 0, 0, 0, []), (6, 122, 0, 0, 0, []), (20, 0, 0, 9, 4, []), (6, 1, 0, 0, 0, []), (21, 0, 0, 10, 0, []), (6, 0, 0, 0, 0, []), (32, 0, 0, 0, 1, [])]
/-- RailOfHeadsModel.isFigure.(I)Z -/
def mx_p129 : List mx_Op := [(45, 0, 0, 0, 0, [1]), (0, 0, 0, 0, 0, []), (6, 48, 0, 0, 0, []), (20, 0, 0, 9, 2, []), (0, 0, 0, 0, 0, []), (6, 57, 0, 0, 0, []), (20, 0, 0, 9, 4, []), (6, 1, 0, 0, 0, []), (21, 0, 0, 10, 0, []), (6, 0, 0, 0, 0, []), (32, 0, 0, 0, 1, [])]
/-- RailOfHeadsModel.next.()V -/
def mx_p130 : List mx_Op := [(45, 0, 0, 0, 0, [1, 1]), (2, 0, 0, 0, 0, []), (2, 0, 0, 0, 0, []), (23, 0, 0, 8, 14, []), (31, 0, 0, 127, 2, [1, 9, 2]), (6, 32, 0, 0, 0, []), (20, 0, 0, 13, 0, []), (2, 0, 0, 0, 0, []), (2, 0, 0, 0, 0, []), (23, 0, 0, 8, 14, []), (31, 0, 0, 127, 2, [1, 9, 2]), (6, 10, 0, 0, 0, []), (20, 0, 0, 20, 1, []), (2, 0, 0, 0, 0, []), (17, 0, 0, 0, 0, []), (23, 0, 0, 8, 14, []), (6, 1, 0, 0, 0, []), (8, 0, 0, 0, 0, []), (24, 0, 0, 8, 14, []), (21, 0, 0, 0, 0, []), (2, 0, 0, 0, 0, []), (2, 0, 0, 0, 0, []), (23, 0, 0, 8, 14, []), (24, 0, 0, 8, 16, []), (2, 0, 0, 0, 0, []), (2, 0, 0, 0, 0, []), (23, 0, 0, 8, 14, []), (31, 0, 0, 127, 2, [1, 9, 2]), (3, 0, 0, 1, 0, []), (0, 0, 0, 1, 0, []), (6, (-1000000), 0, 0, 0, []), (20, 0, 0, 36, 1, []), (2, 0, 0, 0, 0, []), (6, 1, 0, 0, 0, []), (24, 0, 0, 8, 15, []), (21, 0, 0, 101, 0, []), (0, 0, 0, 1, 0, []), (31, 0, 0, 128, 1, [1, 0, 1]), (19, 0, 0, 57, 0, []), (45, 0, 0, 39, 0, [1, 0]), (2, 0, 0, 0, 0, []), (2, 0, 0, 0, 0, []), (23, 0, 0, 8, 14, []), (31, 0, 0, 127, 2, [1, 9, 2]), (31, 0, 0, 128, 1, [1, 0, 1]), (19, 0, 0, 53, 0, []), (2, 0, 0, 0, 0, []), (17, 0, 0, 0, 0, []), (23, 0, 0, 8, 14, []), (6, 1, 0, 0, 0, []), (8, 0, 0, 0, 0, []), (24, 0, 0, 8, 14, []), (21, 0, 0, 39, 0, []), (2, 0, 0, 0, 0, []), (6, 2, 0, 0, 0, []), (24, 0, 0, 8, 15, []), (21, 0, 0, 101, 0, []), (0, 0, 0, 1, 0, []), (31, 0, 0, 129, 1, [1, 0, 1]), (19, 0, 0, 87, 0, []), (45, 0, 0, 60, 0, [1, 0]), (2, 0, 0, 0, 0, []), (2, 0, 0, 0, 0, []), (23, 0, 0, 8, 14, []), (31, 0, 0, 127, 2, [1, 9, 2]), (31, 0, 0, 129, 1, [1, 0, 1]), (19, 0, 0, 74, 0, []), (2, 0, 0, 0, 0, []), (17, 0, 0, 0, 0, []), (23, 0, 0, 8, 14, []), (6, 1, 0, 0, 0, []), (8, 0, 0, 0, 0, []), (24, 0, 0, 8, 14, []), (21, 0, 0, 60, 0, []), (2, 0, 0, 0, 0, []), (2, 0, 0, 0, 0, []), (23, 0, 0, 8, 14, []), (2, 0, 0, 0, 0, []), (23, 0, 0, 8, 16, []), (8, 0, 0, 0, 1, []), (6, 3, 0, 0, 0, []), (20, 0, 0, 84, 5, []), (6, 0, 0, 0, 0, []), (21, 0, 0, 85, 0, []), (6, 3, 0, 0, 0, []), (24, 0, 0, 8, 15, []), (21, 0, 0, 101, 0, []), (2, 0, 0, 0, 0, []), (17, 0, 0, 0, 0, []), (23, 0, 0, 8, 14, []), (6, 1, 0, 0, 0, []), (8, 0, 0, 0, 0, []), (24, 0, 0, 8, 14, []), (2, 0, 0, 0, 0, []), (0, 0, 0, 1, 0, []), (6, 59, 0, 0, 0, []), (20, 0, 0, 99, 1, []), (6, 4, 0, 0, 0, []), (21, 0, 0, 100, 0, []), (6, 0, 0, 0, 0, []), (24, 0, 0, 8, 15, []), (2, 0, 0, 0, 0, []), (2, 0, 0, 0, 0, []), (23, 0, 0, 8, 14, []), (24, 0, 0, 8, 17, []), (34, 0, 0, 0, 0, [])]
/-- RailOfHeadsModel.begin.()V -/
def mx_p131 : List mx_Op := [(45, 0, 0, 0, 0, [1]), (2, 0, 0, 0, 0, []), (2, 0, 0, 0, 0, []), (23, 0, 0, 8, 11, []), (24, 0, 0, 8, 13, []), (2, 0, 0, 0, 0, []), (6, 0, 0, 0, 0, []), (24, 0, 0, 8, 11, []), (2, 0, 0, 0, 0, []), (6, 0, 0, 0, 0, []), (24, 0, 0, 8, 14, []), (2, 0, 0, 0, 0, []), (6, 0, 0, 0, 0, []), (24, 0, 0, 8, 18, []), (2, 0, 0, 0, 0, []), (31, 0, 0, 130, 1, [0, 9, 2]), (34, 0, 0, 0, 0, [])]
/-- RailOfHeadsModel.must.(Z)V -/
def mx_p132 : List mx_Op := [(45, 0, 0, 0, 0, [1, 1]), (0, 0, 0, 1, 0, []), (19, 0, 0, 6, 1, []), (2, 0, 0, 0, 0, []), (6, 1, 0, 0, 0, []), (31, 0, 0, 126, 2, [0, 9, 2]), (2, 0, 0, 0, 0, []), (23, 0, 0, 8, 18, []), (19, 0, 0, 11, 1, []), (2, 0, 0, 0, 0, []), (31, 0, 0, 130, 1, [0, 9, 2]), (34, 0, 0, 0, 0, [])]
/-- RailOfHeadsModel.begins.(II)V -/
def mx_p133 : List mx_Op := [(45, 0, 0, 0, 0, [1, 1, 1]), (2, 0, 0, 0, 0, []), (23, 0, 0, 8, 6, []), (0, 0, 0, 1, 0, []), (25, 0, 0, 0, 0, []), (0, 0, 0, 2, 0, []), (20, 0, 0, 10, 1, []), (2, 0, 0, 0, 0, []), (6, 3, 0, 0, 0, []), (31, 0, 0, 126, 2, [0, 9, 2]), (2, 0, 0, 0, 0, []), (6, 1, 0, 0, 0, []), (31, 0, 0, 132, 2, [0, 9, 2]), (34, 0, 0, 0, 0, [])]
/-- RailOfHeadsModel.opens.([I)V -/
def mx_p134 : List mx_Op := [(45, 0, 0, 0, 0, [1, 1, 1]), (6, 0, 0, 0, 0, []), (3, 0, 0, 2, 0, []), (45, 0, 0, 3, 0, [1, 1, 1]), (0, 0, 0, 2, 0, []), (6, 421, 0, 0, 0, []), (20, 0, 0, 13, 3, []), (2, 0, 0, 1, 0, []), (0, 0, 0, 2, 0, []), (6, 0, 0, 0, 0, []), (26, 0, 0, 0, 0, []), (16, 1, 0, 2, 0, []), (21, 0, 0, 3, 0, []), (6, 0, 0, 0, 0, []), (3, 0, 0, 2, 0, []), (45, 0, 0, 15, 0, [1, 1, 1]), (0, 0, 0, 2, 0, []), (2, 0, 0, 0, 0, []), (23, 0, 0, 8, 5, []), (6, 6, 0, 0, 0, []), (25, 0, 0, 0, 0, []), (20, 0, 0, 59, 3, []), (2, 0, 0, 1, 0, []), (6, 14, 0, 0, 0, []), (0, 0, 0, 2, 0, []), (8, 0, 0, 0, 2, []), (6, 0, 0, 0, 0, []), (8, 0, 0, 0, 0, []), (6, (-1), 0, 0, 0, []), (26, 0, 0, 0, 0, []), (2, 0, 0, 1, 0, []), (6, 14, 0, 0, 0, []), (0, 0, 0, 2, 0, []), (8, 0, 0, 0, 2, []), (6, 1, 0, 0, 0, []), (8, 0, 0, 0, 0, []), (2, 0, 0, 0, 0, []), (0, 0, 0, 2, 0, []), (6, 3, 0, 0, 0, []), (31, 0, 0, 111, 3, [1, 9, 3]), (26, 0, 0, 0, 0, []), (2, 0, 0, 1, 0, []), (6, 14, 0, 0, 0, []), (0, 0, 0, 2, 0, []), (8, 0, 0, 0, 2, []), (6, 3, 0, 0, 0, []), (8, 0, 0, 0, 0, []), (2, 0, 0, 0, 0, []), (23, 0, 0, 8, 23, []), (19, 0, 0, 52, 3, []), (6, 0, 0, 0, 0, []), (21, 0, 0, 56, 0, []), (6, 1, 0, 0, 0, []), (2, 0, 0, 0, 0, []), (23, 0, 0, 8, 23, []), (8, 0, 0, 0, 5, []), (26, 0, 0, 0, 0, []), (16, 1, 0, 2, 0, []), (21, 0, 0, 15, 0, []), (34, 0, 0, 0, 0, [])]
/-- RailOfHeadsModel.inRoom.([II)I -/
def mx_p135 : List mx_Op := [(45, 0, 0, 0, 0, [1, 1, 1, 1, 1]), (6, 0, 0, 0, 0, []), (3, 0, 0, 3, 0, []), (6, 0, 0, 0, 0, []), (3, 0, 0, 4, 0, []), (45, 0, 0, 5, 0, [1, 1, 1, 1, 1]), (0, 0, 0, 4, 0, []), (2, 0, 0, 0, 0, []), (23, 0, 0, 8, 5, []), (6, 6, 0, 0, 0, []), (25, 0, 0, 0, 0, []), (20, 0, 0, 29, 3, []), (0, 0, 0, 3, 0, []), (2, 0, 0, 1, 0, []), (6, 14, 0, 0, 0, []), (0, 0, 0, 4, 0, []), (8, 0, 0, 0, 2, []), (6, 0, 0, 0, 0, []), (8, 0, 0, 0, 0, []), (25, 0, 0, 0, 0, []), (0, 0, 0, 2, 0, []), (20, 0, 0, 24, 1, []), (6, 1, 0, 0, 0, []), (21, 0, 0, 25, 0, []), (6, 0, 0, 0, 0, []), (8, 0, 0, 0, 0, []), (3, 0, 0, 3, 0, []), (16, 1, 0, 4, 0, []), (21, 0, 0, 5, 0, []), (0, 0, 0, 3, 0, []), (32, 0, 0, 0, 0, [])]
/-- RailOfHeadsModel.holdsOne.([II)Z -/
def mx_p136 : List mx_Op := [(45, 0, 0, 0, 0, [1, 1, 1]), (2, 0, 0, 0, 0, []), (2, 0, 0, 1, 0, []), (0, 0, 0, 2, 0, []), (31, 0, 0, 135, 3, [1, 9, 5]), (2, 0, 0, 0, 0, []), (23, 0, 0, 8, 5, []), (6, 7, 0, 0, 0, []), (0, 0, 0, 2, 0, []), (8, 0, 0, 0, 0, []), (25, 0, 0, 0, 0, []), (20, 0, 0, 14, 3, []), (6, 1, 0, 0, 0, []), (21, 0, 0, 15, 0, []), (6, 0, 0, 0, 0, []), (32, 0, 0, 0, 1, [])]
/-- RailOfHeadsModel.waits.([III)V -/
def mx_p137 : List mx_Op := [(45, 0, 0, 0, 0, [1, 1, 1, 1, 1]), (6, 14, 0, 0, 0, []), (0, 0, 0, 2, 0, []), (8, 0, 0, 0, 2, []), (3, 0, 0, 4, 0, []), (2, 0, 0, 1, 0, []), (0, 0, 0, 4, 0, []), (6, 5, 0, 0, 0, []), (8, 0, 0, 0, 0, []), (6, 3, 0, 0, 0, []), (26, 0, 0, 0, 0, []), (2, 0, 0, 1, 0, []), (0, 0, 0, 4, 0, []), (6, 1, 0, 0, 0, []), (8, 0, 0, 0, 0, []), (25, 0, 0, 0, 0, []), (19, 0, 0, 27, 5, []), (2, 0, 0, 1, 0, []), (0, 0, 0, 4, 0, []), (6, 1, 0, 0, 0, []), (8, 0, 0, 0, 0, []), (18, 0, 0, 0, 0, []), (25, 0, 0, 0, 0, []), (6, 1, 0, 0, 0, []), (8, 0, 0, 0, 1, []), (26, 0, 0, 0, 0, []), (21, 0, 0, 58, 0, []), (0, 0, 0, 3, 0, []), (19, 0, 0, 36, 3, []), (2, 0, 0, 1, 0, []), (0, 0, 0, 4, 0, []), (6, 0, 0, 0, 0, []), (8, 0, 0, 0, 0, []), (6, (-2), 0, 0, 0, []), (26, 0, 0, 0, 0, []), (21, 0, 0, 58, 0, []), (2, 0, 0, 1, 0, []), (0, 0, 0, 4, 0, []), (6, 3, 0, 0, 0, []), (8, 0, 0, 0, 0, []), (18, 0, 0, 0, 0, []), (25, 0, 0, 0, 0, []), (6, 1, 0, 0, 0, []), (0, 0, 0, 3, 0, []), (8, 0, 0, 0, 5, []), (8, 0, 0, 0, 4, []), (26, 0, 0, 0, 0, []), (2, 0, 0, 1, 0, []), (0, 0, 0, 4, 0, []), (6, 4, 0, 0, 0, []), (8, 0, 0, 0, 0, []), (18, 0, 0, 0, 0, []), (25, 0, 0, 0, 0, []), (6, 1, 0, 0, 0, []), (0, 0, 0, 3, 0, []), (8, 0, 0, 0, 5, []), (8, 0, 0, 0, 4, []), (26, 0, 0, 0, 0, []), (34, 0, 0, 0, 0, [])]
/-- RailOfHeadsModel.enters.([IIII)V -/
def mx_p138 : List mx_Op := [(45, 0, 0, 0, 0, [1, 1, 1, 1, 1]), (2, 0, 0, 0, 0, []), (2, 0, 0, 1, 0, []), (0, 0, 0, 3, 0, []), (31, 0, 0, 136, 3, [1, 9, 3]), (19, 0, 0, 15, 0, []), (2, 0, 0, 1, 0, []), (6, 14, 0, 0, 0, []), (0, 0, 0, 2, 0, []), (8, 0, 0, 0, 2, []), (6, 0, 0, 0, 0, []), (8, 0, 0, 0, 0, []), (0, 0, 0, 3, 0, []), (26, 0, 0, 0, 0, []), (21, 0, 0, 20, 0, []), (2, 0, 0, 0, 0, []), (2, 0, 0, 1, 0, []), (0, 0, 0, 2, 0, []), (0, 0, 0, 4, 0, []), (31, 0, 0, 137, 4, [0, 9, 5]), (34, 0, 0, 0, 0, [])]
/-- RailOfHeadsModel.looks.([III)V -/
def mx_p139 : List mx_Op := [(45, 0, 0, 0, 0, [1, 1, 1, 1, 1, 1, 1, 1, 1]), (6, 14, 0, 0, 0, []), (0, 0, 0, 2, 0, []), (8, 0, 0, 0, 2, []), (3, 0, 0, 4, 0, []), (2, 0, 0, 0, 0, []), (23, 0, 0, 8, 5, []), (6, 40, 0, 0, 0, []), (6, 2, 0, 0, 0, []), (0, 0, 0, 3, 0, []), (8, 0, 0, 0, 2, []), (8, 0, 0, 0, 0, []), (6, 1, 0, 0, 0, []), (8, 0, 0, 0, 0, []), (25, 0, 0, 0, 0, []), (3, 0, 0, 5, 0, []), (2, 0, 0, 0, 0, []), (23, 0, 0, 8, 24, []), (0, 0, 0, 3, 0, []), (25, 0, 0, 0, 0, []), (2, 0, 0, 0, 0, []), (23, 0, 0, 8, 5, []), (6, 0, 0, 0, 0, []), (25, 0, 0, 0, 0, []), (20, 0, 0, 27, 3, []), (6, 1, 0, 0, 0, []), (21, 0, 0, 28, 0, []), (6, 0, 0, 0, 0, []), (3, 0, 0, 6, 0, []), (45, 0, 0, 29, 0, [1, 1, 0, 1, 1, 1, 1, 0, 0]), (2, 0, 0, 0, 0, []), (23, 0, 0, 8, 24, []), (0, 0, 0, 3, 0, []), (18, 0, 0, 0, 0, []), (25, 0, 0, 0, 0, []), (6, 1, 0, 0, 0, []), (8, 0, 0, 0, 0, []), (26, 0, 0, 0, 0, []), (2, 0, 0, 1, 0, []), (0, 0, 0, 4, 0, []), (6, 5, 0, 0, 0, []), (8, 0, 0, 0, 0, []), (0, 0, 0, 6, 0, []), (19, 0, 0, 46, 0, []), (6, 1, 0, 0, 0, []), (21, 0, 0, 47, 0, []), (6, 2, 0, 0, 0, []), (26, 0, 0, 0, 0, []), (2, 0, 0, 1, 0, []), (0, 0, 0, 4, 0, []), (6, 2, 0, 0, 0, []), (8, 0, 0, 0, 0, []), (18, 0, 0, 0, 0, []), (25, 0, 0, 0, 0, []), (0, 0, 0, 6, 0, []), (19, 0, 0, 58, 0, []), (6, 10, 0, 0, 0, []), (21, 0, 0, 59, 0, []), (6, 4, 0, 0, 0, []), (0, 0, 0, 5, 0, []), (8, 0, 0, 0, 2, []), (8, 0, 0, 0, 0, []), (26, 0, 0, 0, 0, []), (2, 0, 0, 1, 0, []), (0, 0, 0, 4, 0, []), (6, 6, 0, 0, 0, []), (8, 0, 0, 0, 0, []), (0, 0, 0, 3, 0, []), (8, 0, 0, 0, 0, []), (18, 0, 0, 0, 0, []), (25, 0, 0, 0, 0, []), (6, 1, 0, 0, 0, []), (8, 0, 0, 0, 0, []), (26, 0, 0, 0, 0, []), (2, 0, 0, 1, 0, []), (0, 0, 0, 4, 0, []), (6, 6, 0, 0, 0, []), (8, 0, 0, 0, 0, []), (0, 0, 0, 3, 0, []), (8, 0, 0, 0, 0, []), (25, 0, 0, 0, 0, []), (3, 0, 0, 7, 0, []), (45, 0, 0, 82, 0, [1, 1, 0, 1, 1, 1, 0, 1, 0]), (0, 0, 0, 7, 0, []), (6, 2, 0, 0, 0, []), (0, 0, 0, 5, 0, []), (6, 10, 0, 0, 0, []), (9, 0, 0, 0, 0, []), (8, 0, 0, 0, 0, []), (0, 0, 0, 3, 0, []), (2, 0, 0, 0, 0, []), (23, 0, 0, 8, 22, []), (20, 0, 0, 95, 1, []), (6, 1, 0, 0, 0, []), (21, 0, 0, 96, 0, []), (6, 0, 0, 0, 0, []), (8, 0, 0, 0, 1, []), (20, 0, 0, 100, 2, []), (6, 1, 0, 0, 0, []), (21, 0, 0, 101, 0, []), (6, 0, 0, 0, 0, []), (3, 0, 0, 8, 0, []), (0, 0, 0, 8, 0, []), (19, 0, 0, 115, 1, []), (2, 0, 0, 0, 0, []), (23, 0, 0, 8, 5, []), (6, 1, 0, 0, 0, []), (25, 0, 0, 0, 0, []), (19, 0, 0, 126, 5, []), (0, 0, 0, 7, 0, []), (2, 0, 0, 0, 0, []), (23, 0, 0, 8, 5, []), (6, 1, 0, 0, 0, []), (25, 0, 0, 0, 0, []), (20, 0, 0, 126, 2, []), (2, 0, 0, 1, 0, []), (0, 0, 0, 4, 0, []), (6, 3, 0, 0, 0, []), (8, 0, 0, 0, 0, []), (18, 0, 0, 0, 0, []), (25, 0, 0, 0, 0, []), (6, 1, 0, 0, 0, []), (0, 0, 0, 3, 0, []), (8, 0, 0, 0, 5, []), (8, 0, 0, 0, 4, []), (26, 0, 0, 0, 0, []), (34, 0, 0, 0, 0, [])]
/-- RailOfHeadsModel.leads.(III)Z -/
def mx_p140 : List mx_Op := [(45, 0, 0, 0, 0, [1, 1, 1, 1, 1]), (6, 13, 0, 0, 0, []), (6, 3, 0, 0, 0, []), (0, 0, 0, 1, 0, []), (8, 0, 0, 0, 2, []), (8, 0, 0, 0, 0, []), (3, 0, 0, 4, 0, []), (2, 0, 0, 0, 0, []), (23, 0, 0, 8, 5, []), (0, 0, 0, 4, 0, []), (25, 0, 0, 0, 0, []), (0, 0, 0, 2, 0, []), (20, 0, 0, 21, 1, []), (2, 0, 0, 0, 0, []), (23, 0, 0, 8, 5, []), (0, 0, 0, 4, 0, []), (6, 1, 0, 0, 0, []), (8, 0, 0, 0, 0, []), (25, 0, 0, 0, 0, []), (0, 0, 0, 3, 0, []), (20, 0, 0, 42, 0, []), (2, 0, 0, 0, 0, []), (23, 0, 0, 8, 5, []), (0, 0, 0, 4, 0, []), (6, 2, 0, 0, 0, []), (8, 0, 0, 0, 0, []), (25, 0, 0, 0, 0, []), (19, 0, 0, 44, 1, []), (2, 0, 0, 0, 0, []), (23, 0, 0, 8, 5, []), (0, 0, 0, 4, 0, []), (25, 0, 0, 0, 0, []), (0, 0, 0, 3, 0, []), (20, 0, 0, 44, 1, []), (2, 0, 0, 0, 0, []), (23, 0, 0, 8, 5, []), (0, 0, 0, 4, 0, []), (6, 1, 0, 0, 0, []), (8, 0, 0, 0, 0, []), (25, 0, 0, 0, 0, []), (0, 0, 0, 2, 0, []), (20, 0, 0, 44, 1, []), (6, 1, 0, 0, 0, []), (21, 0, 0, 45, 0, []), (6, 0, 0, 0, 0, []), (32, 0, 0, 0, 1, [])]
/-- RailOfHeadsModel.nextRoom.(II)I -/
def mx_p141 : List mx_Op := [(45, 0, 0, 0, 0, [1, 1, 1, 1, 1, 1, 1]), (6, (-1000000), 0, 0, 0, []), (3, 0, 0, 3, 0, []), (6, 0, 0, 0, 0, []), (3, 0, 0, 4, 0, []), (45, 0, 0, 5, 0, [1, 1, 1, 1, 1, 0, 0]), (0, 0, 0, 4, 0, []), (2, 0, 0, 0, 0, []), (23, 0, 0, 8, 5, []), (6, 2, 0, 0, 0, []), (25, 0, 0, 0, 0, []), (20, 0, 0, 81, 3, []), (6, 0, 0, 0, 0, []), (3, 0, 0, 5, 0, []), (6, 0, 0, 0, 0, []), (3, 0, 0, 6, 0, []), (45, 0, 0, 16, 0, [1, 1, 1, 1, 1, 1, 1]), (0, 0, 0, 6, 0, []), (2, 0, 0, 0, 0, []), (23, 0, 0, 8, 5, []), (6, 3, 0, 0, 0, []), (25, 0, 0, 0, 0, []), (20, 0, 0, 37, 3, []), (0, 0, 0, 5, 0, []), (19, 0, 0, 31, 1, []), (2, 0, 0, 0, 0, []), (0, 0, 0, 6, 0, []), (0, 0, 0, 1, 0, []), (0, 0, 0, 4, 0, []), (31, 0, 0, 140, 4, [1, 9, 5]), (19, 0, 0, 33, 0, []), (6, 1, 0, 0, 0, []), (21, 0, 0, 34, 0, []), (6, 0, 0, 0, 0, []), (3, 0, 0, 5, 0, []), (16, 1, 0, 6, 0, []), (21, 0, 0, 16, 0, []), (0, 0, 0, 5, 0, []), (19, 0, 0, 51, 0, []), (2, 0, 0, 0, 0, []), (23, 0, 0, 8, 20, []), (6, 6, 0, 0, 0, []), (0, 0, 0, 4, 0, []), (8, 0, 0, 0, 2, []), (0, 0, 0, 2, 0, []), (8, 0, 0, 0, 0, []), (25, 0, 0, 0, 0, []), (6, (-1000000), 0, 0, 0, []), (20, 0, 0, 51, 0, []), (6, 1, 0, 0, 0, []), (21, 0, 0, 52, 0, []), (6, 0, 0, 0, 0, []), (3, 0, 0, 6, 0, []), (0, 0, 0, 6, 0, []), (19, 0, 0, 77, 0, []), (0, 0, 0, 3, 0, []), (6, (-1000000), 0, 0, 0, []), (20, 0, 0, 75, 0, []), (2, 0, 0, 0, 0, []), (23, 0, 0, 8, 20, []), (6, 6, 0, 0, 0, []), (0, 0, 0, 4, 0, []), (8, 0, 0, 0, 2, []), (0, 0, 0, 2, 0, []), (8, 0, 0, 0, 0, []), (25, 0, 0, 0, 0, []), (2, 0, 0, 0, 0, []), (23, 0, 0, 8, 20, []), (6, 6, 0, 0, 0, []), (0, 0, 0, 3, 0, []), (8, 0, 0, 0, 2, []), (0, 0, 0, 2, 0, []), (8, 0, 0, 0, 0, []), (25, 0, 0, 0, 0, []), (20, 0, 0, 77, 3, []), (0, 0, 0, 4, 0, []), (21, 0, 0, 78, 0, []), (0, 0, 0, 3, 0, []), (3, 0, 0, 3, 0, []), (16, 1, 0, 4, 0, []), (21, 0, 0, 5, 0, []), (0, 0, 0, 3, 0, []), (32, 0, 0, 0, 0, [])]
/-- RailOfHeadsModel.goes.([II)V -/
def mx_p142 : List mx_Op := [(45, 0, 0, 0, 0, [1, 1, 1, 1, 1, 1]), (6, 14, 0, 0, 0, []), (0, 0, 0, 2, 0, []), (8, 0, 0, 0, 2, []), (3, 0, 0, 3, 0, []), (2, 0, 0, 1, 0, []), (0, 0, 0, 3, 0, []), (6, 5, 0, 0, 0, []), (8, 0, 0, 0, 0, []), (6, 0, 0, 0, 0, []), (26, 0, 0, 0, 0, []), (2, 0, 0, 1, 0, []), (0, 0, 0, 3, 0, []), (6, 0, 0, 0, 0, []), (8, 0, 0, 0, 0, []), (25, 0, 0, 0, 0, []), (6, (-1), 0, 0, 0, []), (20, 0, 0, 33, 1, []), (2, 0, 0, 0, 0, []), (0, 0, 0, 2, 0, []), (6, 1, 0, 0, 0, []), (31, 0, 0, 111, 3, [1, 9, 3]), (2, 0, 0, 1, 0, []), (6, 420, 0, 0, 0, []), (25, 0, 0, 0, 0, []), (20, 0, 0, 32, 4, []), (2, 0, 0, 0, 0, []), (2, 0, 0, 1, 0, []), (0, 0, 0, 2, 0, []), (6, 0, 0, 0, 0, []), (6, (-1), 0, 0, 0, []), (31, 0, 0, 138, 5, [0, 9, 5]), (34, 0, 0, 0, 0, []), (2, 0, 0, 1, 0, []), (0, 0, 0, 3, 0, []), (6, 0, 0, 0, 0, []), (8, 0, 0, 0, 0, []), (25, 0, 0, 0, 0, []), (6, (-2), 0, 0, 0, []), (20, 0, 0, 42, 1, []), (6, (-1000000), 0, 0, 0, []), (21, 0, 0, 46, 0, []), (2, 0, 0, 0, 0, []), (2, 0, 0, 1, 0, []), (0, 0, 0, 2, 0, []), (31, 0, 0, 114, 3, [1, 9, 10]), (3, 0, 0, 4, 0, []), (0, 0, 0, 4, 0, []), (6, (-1000000), 0, 0, 0, []), (20, 0, 0, 57, 1, []), (2, 0, 0, 1, 0, []), (0, 0, 0, 3, 0, []), (6, 0, 0, 0, 0, []), (8, 0, 0, 0, 0, []), (6, (-2), 0, 0, 0, []), (26, 0, 0, 0, 0, []), (34, 0, 0, 0, 0, []), (2, 0, 0, 0, 0, []), (23, 0, 0, 8, 5, []), (6, 40, 0, 0, 0, []), (6, 2, 0, 0, 0, []), (0, 0, 0, 4, 0, []), (8, 0, 0, 0, 2, []), (8, 0, 0, 0, 0, []), (25, 0, 0, 0, 0, []), (3, 0, 0, 5, 0, []), (0, 0, 0, 5, 0, []), (2, 0, 0, 1, 0, []), (0, 0, 0, 3, 0, []), (6, 0, 0, 0, 0, []), (8, 0, 0, 0, 0, []), (25, 0, 0, 0, 0, []), (20, 0, 0, 79, 1, []), (2, 0, 0, 0, 0, []), (2, 0, 0, 1, 0, []), (0, 0, 0, 2, 0, []), (0, 0, 0, 4, 0, []), (31, 0, 0, 139, 4, [0, 9, 9]), (21, 0, 0, 92, 0, []), (2, 0, 0, 0, 0, []), (2, 0, 0, 1, 0, []), (0, 0, 0, 2, 0, []), (2, 0, 0, 0, 0, []), (2, 0, 0, 1, 0, []), (0, 0, 0, 3, 0, []), (6, 0, 0, 0, 0, []), (8, 0, 0, 0, 0, []), (25, 0, 0, 0, 0, []), (0, 0, 0, 5, 0, []), (31, 0, 0, 141, 3, [1, 9, 7]), (0, 0, 0, 4, 0, []), (31, 0, 0, 138, 5, [0, 9, 5]), (34, 0, 0, 0, 0, [])]
/-- RailOfHeadsModel.minute.([I)V -/
def mx_p143 : List mx_Op := [(45, 0, 0, 0, 0, [1, 1, 1]), (6, 0, 0, 0, 0, []), (3, 0, 0, 2, 0, []), (45, 0, 0, 3, 0, [1, 1, 1]), (0, 0, 0, 2, 0, []), (6, 8, 0, 0, 0, []), (20, 0, 0, 14, 3, []), (2, 0, 0, 0, 0, []), (23, 0, 0, 8, 24, []), (0, 0, 0, 2, 0, []), (6, 0, 0, 0, 0, []), (26, 0, 0, 0, 0, []), (16, 1, 0, 2, 0, []), (21, 0, 0, 3, 0, []), (6, 0, 0, 0, 0, []), (3, 0, 0, 2, 0, []), (45, 0, 0, 16, 0, [1, 1, 1]), (0, 0, 0, 2, 0, []), (2, 0, 0, 0, 0, []), (23, 0, 0, 8, 5, []), (6, 6, 0, 0, 0, []), (25, 0, 0, 0, 0, []), (20, 0, 0, 29, 3, []), (2, 0, 0, 0, 0, []), (2, 0, 0, 1, 0, []), (0, 0, 0, 2, 0, []), (31, 0, 0, 142, 3, [0, 9, 6]), (16, 1, 0, 2, 0, []), (21, 0, 0, 16, 0, []), (2, 0, 0, 1, 0, []), (6, 420, 0, 0, 0, []), (18, 0, 0, 0, 0, []), (25, 0, 0, 0, 0, []), (6, 1, 0, 0, 0, []), (8, 0, 0, 0, 0, []), (26, 0, 0, 0, 0, []), (34, 0, 0, 0, 0, [])]
/-- RailOfHeadsModel.ones.(I)I -/
def mx_p144 : List mx_Op := [(45, 0, 0, 0, 0, [1, 1, 1]), (6, 0, 0, 0, 0, []), (3, 0, 0, 1, 0, []), (6, 0, 0, 0, 0, []), (3, 0, 0, 2, 0, []), (45, 0, 0, 5, 0, [1, 1, 1]), (0, 0, 0, 2, 0, []), (6, 8, 0, 0, 0, []), (20, 0, 0, 19, 3, []), (0, 0, 0, 1, 0, []), (0, 0, 0, 0, 0, []), (0, 0, 0, 2, 0, []), (8, 0, 0, 0, 6, []), (6, 1, 0, 0, 0, []), (8, 0, 0, 0, 3, []), (8, 0, 0, 0, 0, []), (3, 0, 0, 1, 0, []), (16, 1, 0, 2, 0, []), (21, 0, 0, 5, 0, []), (0, 0, 0, 1, 0, []), (32, 0, 0, 0, 0, [])]
/-- RailOfHeadsModel.dayOf.(II)I -/
def mx_p145 : List mx_Op := [(45, 0, 0, 0, 0, [1, 1, 1, 1, 1, 1, 1, 1]), (2, 0, 0, 0, 0, []), (2, 0, 0, 0, 0, []), (23, 0, 0, 8, 9, []), (31, 0, 0, 134, 2, [0, 9, 3]), (6, 0, 0, 0, 0, []), (3, 0, 0, 3, 0, []), (45, 0, 0, 7, 0, [1, 1, 1, 1, 0, 0, 0, 0]), (0, 0, 0, 3, 0, []), (0, 0, 0, 1, 0, []), (20, 0, 0, 17, 3, []), (2, 0, 0, 0, 0, []), (2, 0, 0, 0, 0, []), (23, 0, 0, 8, 9, []), (31, 0, 0, 143, 2, [0, 9, 3]), (16, 1, 0, 3, 0, []), (21, 0, 0, 7, 0, []), (6, 0, 0, 0, 0, []), (3, 0, 0, 3, 0, []), (6, 0, 0, 0, 0, []), (3, 0, 0, 4, 0, []), (6, 0, 0, 0, 0, []), (3, 0, 0, 5, 0, []), (6, 0, 0, 0, 0, []), (3, 0, 0, 6, 0, []), (45, 0, 0, 25, 0, [1, 0, 1, 1, 1, 1, 1, 0]), (0, 0, 0, 6, 0, []), (2, 0, 0, 0, 0, []), (23, 0, 0, 8, 5, []), (6, 6, 0, 0, 0, []), (25, 0, 0, 0, 0, []), (20, 0, 0, 68, 3, []), (2, 0, 0, 0, 0, []), (23, 0, 0, 8, 9, []), (6, 14, 0, 0, 0, []), (0, 0, 0, 6, 0, []), (8, 0, 0, 0, 2, []), (6, 2, 0, 0, 0, []), (8, 0, 0, 0, 0, []), (25, 0, 0, 0, 0, []), (3, 0, 0, 7, 0, []), (0, 0, 0, 3, 0, []), (0, 0, 0, 7, 0, []), (8, 0, 0, 0, 0, []), (3, 0, 0, 3, 0, []), (0, 0, 0, 6, 0, []), (19, 0, 0, 50, 0, []), (0, 0, 0, 7, 0, []), (0, 0, 0, 4, 0, []), (20, 0, 0, 52, 3, []), (0, 0, 0, 7, 0, []), (21, 0, 0, 53, 0, []), (0, 0, 0, 4, 0, []), (3, 0, 0, 4, 0, []), (0, 0, 0, 5, 0, []), (2, 0, 0, 0, 0, []), (23, 0, 0, 8, 9, []), (6, 14, 0, 0, 0, []), (0, 0, 0, 6, 0, []), (8, 0, 0, 0, 2, []), (6, 4, 0, 0, 0, []), (8, 0, 0, 0, 0, []), (25, 0, 0, 0, 0, []), (31, 0, 0, 144, 1, [1, 0, 3]), (8, 0, 0, 0, 0, []), (3, 0, 0, 5, 0, []), (16, 1, 0, 6, 0, []), (21, 0, 0, 25, 0, []), (0, 0, 0, 2, 0, []), (19, 0, 0, 72, 1, []), (0, 0, 0, 3, 0, []), (21, 0, 0, 78, 0, []), (0, 0, 0, 2, 0, []), (6, 1, 0, 0, 0, []), (20, 0, 0, 77, 1, []), (0, 0, 0, 4, 0, []), (21, 0, 0, 78, 0, []), (0, 0, 0, 5, 0, []), (32, 0, 0, 0, 0, [])]
/-- RailOfHeadsModel.bestAt.(IIIII)I -/
def mx_p146 : List mx_Op := [(45, 0, 0, 0, 0, [1, 1, 1, 1, 1, 1, 1, 1, 1, 1, 1]), (2, 0, 0, 0, 0, []), (23, 0, 0, 8, 5, []), (0, 0, 0, 1, 0, []), (25, 0, 0, 0, 0, []), (3, 0, 0, 6, 0, []), (0, 0, 0, 2, 0, []), (3, 0, 0, 7, 0, []), (6, (-1), 0, 0, 0, []), (3, 0, 0, 8, 0, []), (0, 0, 0, 2, 0, []), (3, 0, 0, 9, 0, []), (45, 0, 0, 12, 0, [1, 1, 0, 1, 1, 1, 1, 1, 1, 1, 0]), (0, 0, 0, 9, 0, []), (0, 0, 0, 3, 0, []), (20, 0, 0, 42, 4, []), (2, 0, 0, 0, 0, []), (23, 0, 0, 8, 5, []), (0, 0, 0, 1, 0, []), (0, 0, 0, 9, 0, []), (26, 0, 0, 0, 0, []), (2, 0, 0, 0, 0, []), (0, 0, 0, 4, 0, []), (0, 0, 0, 5, 0, []), (31, 0, 0, 145, 3, [1, 9, 8]), (3, 0, 0, 10, 0, []), (0, 0, 0, 10, 0, []), (0, 0, 0, 8, 0, []), (20, 0, 0, 31, 5, []), (0, 0, 0, 9, 0, []), (21, 0, 0, 32, 0, []), (0, 0, 0, 7, 0, []), (3, 0, 0, 7, 0, []), (0, 0, 0, 10, 0, []), (0, 0, 0, 8, 0, []), (20, 0, 0, 38, 5, []), (0, 0, 0, 10, 0, []), (21, 0, 0, 39, 0, []), (0, 0, 0, 8, 0, []), (3, 0, 0, 8, 0, []), (16, 1, 0, 9, 0, []), (21, 0, 0, 12, 0, []), (2, 0, 0, 0, 0, []), (23, 0, 0, 8, 5, []), (0, 0, 0, 1, 0, []), (0, 0, 0, 6, 0, []), (26, 0, 0, 0, 0, []), (0, 0, 0, 7, 0, []), (32, 0, 0, 0, 0, [])]
/-- RailOfHeadsModel.isLong.(I)Z -/
def mx_p147 : List mx_Op := [(45, 0, 0, 0, 0, [1]), (0, 0, 0, 0, 0, []), (14, 0, 0, 0, 0, []), (7, 0, 1, 1, 0, []), (7, 0, 120, 0, 0, []), (31, 0, 0, 115, 3, [1, 0, 6]), (32, 0, 0, 0, 1, [])]
/-- RailOfHeadsModel.bestRule.(III)I -/
def mx_p148 : List mx_Op := [(45, 0, 0, 0, 0, [1, 1, 1, 1]), (2, 0, 0, 0, 0, []), (6, 0, 0, 0, 0, []), (24, 0, 0, 8, 0, []), (2, 0, 0, 0, 0, []), (23, 0, 0, 8, 7, []), (19, 0, 0, 9, 1, []), (6, (-1000002), 0, 0, 0, []), (32, 0, 0, 0, 0, []), (0, 0, 0, 1, 0, []), (31, 0, 0, 147, 1, [1, 0, 1]), (19, 0, 0, 24, 0, []), (0, 0, 0, 2, 0, []), (14, 0, 0, 0, 0, []), (7, 0, 0, 0, 0, []), (7, 0, 1, 1, 0, []), (31, 0, 0, 115, 3, [1, 0, 6]), (19, 0, 0, 24, 0, []), (0, 0, 0, 3, 0, []), (14, 0, 0, 0, 0, []), (7, 0, 0, 0, 0, []), (7, 0, 1, 1, 0, []), (31, 0, 0, 115, 3, [1, 0, 6]), (19, 0, 0, 26, 1, []), (6, (-1000001), 0, 0, 0, []), (32, 0, 0, 0, 0, []), (0, 0, 0, 2, 0, []), (19, 0, 0, 36, 1, []), (2, 0, 0, 0, 0, []), (6, 0, 0, 0, 0, []), (6, 1, 0, 0, 0, []), (6, 20, 0, 0, 0, []), (0, 0, 0, 1, 0, []), (0, 0, 0, 3, 0, []), (31, 0, 0, 146, 6, [1, 9, 11]), (21, 0, 0, 43, 0, []), (2, 0, 0, 0, 0, []), (6, 1, 0, 0, 0, []), (6, 0, 0, 0, 0, []), (6, 20, 0, 0, 0, []), (0, 0, 0, 1, 0, []), (0, 0, 0, 3, 0, []), (31, 0, 0, 146, 6, [1, 9, 11]), (32, 0, 0, 0, 0, [])]
/-- RailOfHeadsModel.isRow.(I)Z -/
def mx_p149 : List mx_Op := [(45, 0, 0, 0, 0, [1]), (0, 0, 0, 0, 0, []), (14, 0, 0, 0, 0, []), (7, 0, 0, 0, 0, []), (7, 0, 7, 0, 0, []), (31, 0, 0, 115, 3, [1, 0, 6]), (32, 0, 0, 0, 1, [])]
/-- RailOfHeadsModel.copy.(IIIII)I -/
def mx_p150 : List mx_Op := [(45, 0, 0, 0, 0, [1, 1, 1, 1, 1, 1, 1, 1, 1]), (2, 0, 0, 0, 0, []), (6, 0, 0, 0, 0, []), (24, 0, 0, 8, 0, []), (0, 0, 0, 1, 0, []), (31, 0, 0, 149, 1, [1, 0, 1]), (19, 0, 0, 10, 0, []), (0, 0, 0, 3, 0, []), (31, 0, 0, 149, 1, [1, 0, 1]), (19, 0, 0, 12, 1, []), (6, (-1000001), 0, 0, 0, []), (32, 0, 0, 0, 0, []), (2, 0, 0, 0, 0, []), (6, 0, 0, 0, 0, []), (24, 0, 0, 8, 1, []), (2, 0, 0, 0, 0, []), (23, 0, 0, 8, 2, []), (0, 0, 0, 1, 0, []), (25, 0, 0, 0, 0, []), (19, 0, 0, 25, 2, []), (2, 0, 0, 0, 0, []), (23, 0, 0, 8, 2, []), (0, 0, 0, 3, 0, []), (25, 0, 0, 0, 0, []), (19, 0, 0, 29, 3, []), (2, 0, 0, 0, 0, []), (6, 1, 0, 0, 0, []), (31, 0, 0, 119, 2, [1, 9, 2]), (32, 0, 0, 0, 0, []), (2, 0, 0, 0, 0, []), (23, 0, 0, 8, 2, []), (0, 0, 0, 1, 0, []), (25, 0, 0, 0, 0, []), (2, 0, 0, 0, 0, []), (23, 0, 0, 8, 2, []), (0, 0, 0, 3, 0, []), (25, 0, 0, 0, 0, []), (20, 0, 0, 42, 0, []), (2, 0, 0, 0, 0, []), (6, 5, 0, 0, 0, []), (31, 0, 0, 119, 2, [1, 9, 2]), (32, 0, 0, 0, 0, []), (0, 0, 0, 2, 0, []), (19, 0, 0, 72, 2, []), (0, 0, 0, 4, 0, []), (19, 0, 0, 72, 2, []), (0, 0, 0, 5, 0, []), (19, 0, 0, 72, 2, []), (0, 0, 0, 2, 0, []), (14, 0, 0, 0, 0, []), (0, 0, 0, 5, 0, []), (14, 0, 0, 0, 0, []), (11, 0, 0, 0, 0, []), (2, 0, 0, 0, 0, []), (23, 0, 0, 8, 3, []), (0, 0, 0, 1, 0, []), (25, 0, 0, 0, 0, []), (14, 0, 0, 0, 0, []), (13, 0, 0, 0, 0, []), (19, 0, 0, 72, 4, []), (0, 0, 0, 4, 0, []), (14, 0, 0, 0, 0, []), (0, 0, 0, 5, 0, []), (14, 0, 0, 0, 0, []), (11, 0, 0, 0, 0, []), (2, 0, 0, 0, 0, []), (23, 0, 0, 8, 3, []), (0, 0, 0, 3, 0, []), (25, 0, 0, 0, 0, []), (14, 0, 0, 0, 0, []), (13, 0, 0, 0, 0, []), (19, 0, 0, 76, 5, []), (2, 0, 0, 0, 0, []), (6, 2, 0, 0, 0, []), (31, 0, 0, 119, 2, [1, 9, 2]), (32, 0, 0, 0, 0, []), (0, 0, 0, 2, 0, []), (0, 0, 0, 4, 0, []), (20, 0, 0, 81, 2, []), (6, 1, 0, 0, 0, []), (21, 0, 0, 82, 0, []), (6, 0, 0, 0, 0, []), (3, 0, 0, 6, 0, []), (6, 0, 0, 0, 0, []), (3, 0, 0, 7, 0, []), (45, 0, 0, 85, 0, [1, 1, 1, 1, 1, 1, 1, 1, 0]), (0, 0, 0, 7, 0, []), (0, 0, 0, 5, 0, []), (20, 0, 0, 121, 3, []), (0, 0, 0, 6, 0, []), (19, 0, 0, 93, 0, []), (0, 0, 0, 7, 0, []), (21, 0, 0, 98, 0, []), (0, 0, 0, 5, 0, []), (6, 1, 0, 0, 0, []), (8, 0, 0, 0, 1, []), (0, 0, 0, 7, 0, []), (8, 0, 0, 0, 1, []), (3, 0, 0, 8, 0, []), (2, 0, 0, 0, 0, []), (23, 0, 0, 8, 4, []), (6, 40, 0, 0, 0, []), (0, 0, 0, 3, 0, []), (8, 0, 0, 0, 2, []), (0, 0, 0, 4, 0, []), (8, 0, 0, 0, 0, []), (0, 0, 0, 8, 0, []), (8, 0, 0, 0, 0, []), (2, 0, 0, 0, 0, []), (23, 0, 0, 8, 4, []), (6, 40, 0, 0, 0, []), (0, 0, 0, 1, 0, []), (8, 0, 0, 0, 2, []), (0, 0, 0, 2, 0, []), (8, 0, 0, 0, 0, []), (0, 0, 0, 8, 0, []), (8, 0, 0, 0, 0, []), (25, 0, 0, 0, 0, []), (26, 0, 0, 0, 0, []), (16, 1, 0, 7, 0, []), (21, 0, 0, 85, 0, []), (0, 0, 0, 5, 0, []), (32, 0, 0, 0, 0, [])]
/-- RailOfHeadsModel.count.(I)I -/
def mx_p151 : List mx_Op := [(45, 0, 0, 0, 0, [1, 1, 1, 1]), (2, 0, 0, 0, 0, []), (6, 0, 0, 0, 0, []), (24, 0, 0, 8, 0, []), (6, 0, 0, 0, 0, []), (3, 0, 0, 2, 0, []), (0, 0, 0, 1, 0, []), (22, 0, 0, 75, 0, [8, 29, 29, 29, 29, 29, 38, 43, 72]), (6, 0, 0, 0, 0, []), (3, 0, 0, 3, 0, []), (45, 0, 0, 10, 0, [1, 0, 1, 1]), (0, 0, 0, 3, 0, []), (6, 8, 0, 0, 0, []), (20, 0, 0, 27, 3, []), (0, 0, 0, 2, 0, []), (2, 0, 0, 0, 0, []), (23, 0, 0, 8, 2, []), (0, 0, 0, 3, 0, []), (25, 0, 0, 0, 0, []), (19, 0, 0, 22, 2, []), (6, 1, 0, 0, 0, []), (21, 0, 0, 23, 0, []), (6, 0, 0, 0, 0, []), (8, 0, 0, 0, 0, []), (3, 0, 0, 2, 0, []), (16, 1, 0, 3, 0, []), (21, 0, 0, 10, 0, []), (0, 0, 0, 2, 0, []), (32, 0, 0, 0, 0, []), (2, 0, 0, 0, 0, []), (23, 0, 0, 8, 5, []), (6, 2, 0, 0, 0, []), (0, 0, 0, 1, 0, []), (8, 0, 0, 0, 0, []), (6, 1, 0, 0, 0, []), (8, 0, 0, 0, 1, []), (25, 0, 0, 0, 0, []), (32, 0, 0, 0, 0, []), (2, 0, 0, 0, 0, []), (23, 0, 0, 8, 8, []), (6, 420, 0, 0, 0, []), (25, 0, 0, 0, 0, []), (32, 0, 0, 0, 0, []), (6, 0, 0, 0, 0, []), (3, 0, 0, 3, 0, []), (45, 0, 0, 45, 0, [1, 0, 1, 1]), (0, 0, 0, 3, 0, []), (2, 0, 0, 0, 0, []), (23, 0, 0, 8, 5, []), (6, 6, 0, 0, 0, []), (25, 0, 0, 0, 0, []), (20, 0, 0, 70, 3, []), (0, 0, 0, 2, 0, []), (2, 0, 0, 0, 0, []), (23, 0, 0, 8, 8, []), (6, 14, 0, 0, 0, []), (0, 0, 0, 3, 0, []), (8, 0, 0, 0, 2, []), (6, 0, 0, 0, 0, []), (8, 0, 0, 0, 0, []), (25, 0, 0, 0, 0, []), (6, (-2), 0, 0, 0, []), (20, 0, 0, 65, 1, []), (6, 1, 0, 0, 0, []), (21, 0, 0, 66, 0, []), (6, 0, 0, 0, 0, []), (8, 0, 0, 0, 0, []), (3, 0, 0, 2, 0, []), (16, 1, 0, 3, 0, []), (21, 0, 0, 45, 0, []), (0, 0, 0, 2, 0, []), (32, 0, 0, 0, 0, []), (2, 0, 0, 0, 0, []), (23, 0, 0, 8, 11, []), (32, 0, 0, 0, 0, []), (6, (-1000001), 0, 0, 0, []), (32, 0, 0, 0, 0, [])]
/-- RailOfHeadsModel.isRoom.(I)Z -/
def mx_p152 : List mx_Op := [(45, 0, 0, 0, 0, [1, 1]), (0, 0, 0, 1, 0, []), (14, 0, 0, 0, 0, []), (7, 0, 0, 0, 0, []), (2, 0, 0, 0, 0, []), (23, 0, 0, 8, 5, []), (6, 2, 0, 0, 0, []), (25, 0, 0, 0, 0, []), (6, 1, 0, 0, 0, []), (8, 0, 0, 0, 1, []), (14, 0, 0, 0, 0, []), (31, 0, 0, 115, 3, [1, 0, 6]), (32, 0, 0, 0, 1, [])]
/-- RailOfHeadsModel.offBy.(III)I -/
def mx_p153 : List mx_Op := [(45, 0, 0, 0, 0, [1, 1, 1, 1, 1, 1, 1]), (2, 0, 0, 0, 0, []), (2, 0, 0, 0, 0, []), (23, 0, 0, 8, 9, []), (31, 0, 0, 134, 2, [0, 9, 3]), (6, 0, 0, 0, 0, []), (3, 0, 0, 4, 0, []), (6, 0, 0, 0, 0, []), (3, 0, 0, 5, 0, []), (45, 0, 0, 9, 0, [1, 1, 1, 1, 1, 1, 0]), (0, 0, 0, 5, 0, []), (0, 0, 0, 3, 0, []), (20, 0, 0, 41, 3, []), (2, 0, 0, 0, 0, []), (2, 0, 0, 0, 0, []), (23, 0, 0, 8, 9, []), (31, 0, 0, 143, 2, [0, 9, 3]), (2, 0, 0, 0, 0, []), (2, 0, 0, 0, 0, []), (23, 0, 0, 8, 9, []), (0, 0, 0, 1, 0, []), (31, 0, 0, 135, 3, [1, 9, 5]), (2, 0, 0, 0, 0, []), (23, 0, 0, 8, 4, []), (0, 0, 0, 2, 0, []), (0, 0, 0, 5, 0, []), (8, 0, 0, 0, 0, []), (25, 0, 0, 0, 0, []), (8, 0, 0, 0, 1, []), (3, 0, 0, 6, 0, []), (0, 0, 0, 4, 0, []), (0, 0, 0, 6, 0, []), (19, 0, 0, 36, 3, []), (0, 0, 0, 6, 0, []), (10, 0, 0, 0, 0, []), (21, 0, 0, 37, 0, []), (0, 0, 0, 6, 0, []), (8, 0, 0, 0, 0, []), (3, 0, 0, 4, 0, []), (16, 1, 0, 5, 0, []), (21, 0, 0, 9, 0, []), (0, 0, 0, 4, 0, []), (32, 0, 0, 0, 0, [])]
/-- RailOfHeadsModel.counts.(IIII)I -/
def mx_p154 : List mx_Op := [(45, 0, 0, 0, 0, [1, 1, 1, 1, 1, 1, 1, 1, 1]), (2, 0, 0, 0, 0, []), (6, 0, 0, 0, 0, []), (24, 0, 0, 8, 0, []), (2, 0, 0, 0, 0, []), (0, 0, 0, 1, 0, []), (31, 0, 0, 152, 2, [1, 9, 2]), (19, 0, 0, 17, 0, []), (0, 0, 0, 2, 0, []), (31, 0, 0, 149, 1, [1, 0, 1]), (19, 0, 0, 17, 0, []), (0, 0, 0, 4, 0, []), (14, 0, 0, 0, 0, []), (7, 0, 1, 1, 0, []), (7, 0, 40, 0, 0, []), (31, 0, 0, 115, 3, [1, 0, 6]), (19, 0, 0, 19, 1, []), (6, (-1000001), 0, 0, 0, []), (32, 0, 0, 0, 0, []), (2, 0, 0, 0, 0, []), (23, 0, 0, 8, 2, []), (0, 0, 0, 2, 0, []), (25, 0, 0, 0, 0, []), (19, 0, 0, 28, 3, []), (2, 0, 0, 0, 0, []), (6, 1, 0, 0, 0, []), (31, 0, 0, 119, 2, [1, 9, 2]), (32, 0, 0, 0, 0, []), (0, 0, 0, 3, 0, []), (19, 0, 0, 42, 2, []), (0, 0, 0, 3, 0, []), (14, 0, 0, 0, 0, []), (0, 0, 0, 4, 0, []), (14, 0, 0, 0, 0, []), (11, 0, 0, 0, 0, []), (2, 0, 0, 0, 0, []), (23, 0, 0, 8, 3, []), (0, 0, 0, 2, 0, []), (25, 0, 0, 0, 0, []), (14, 0, 0, 0, 0, []), (13, 0, 0, 0, 0, []), (19, 0, 0, 46, 5, []), (2, 0, 0, 0, 0, []), (6, 2, 0, 0, 0, []), (31, 0, 0, 119, 2, [1, 9, 2]), (32, 0, 0, 0, 0, []), (6, 0, 0, 0, 0, []), (3, 0, 0, 5, 0, []), (45, 0, 0, 48, 0, [1, 1, 1, 1, 1, 1, 0, 0, 0]), (0, 0, 0, 5, 0, []), (0, 0, 0, 4, 0, []), (20, 0, 0, 71, 3, []), (2, 0, 0, 0, 0, []), (23, 0, 0, 8, 4, []), (6, 40, 0, 0, 0, []), (0, 0, 0, 2, 0, []), (8, 0, 0, 0, 2, []), (0, 0, 0, 3, 0, []), (8, 0, 0, 0, 0, []), (0, 0, 0, 5, 0, []), (8, 0, 0, 0, 0, []), (25, 0, 0, 0, 0, []), (14, 0, 0, 0, 0, []), (7, 0, 0, 0, 0, []), (7, 0, 30, 0, 0, []), (31, 0, 0, 115, 3, [1, 0, 6]), (19, 0, 0, 69, 1, []), (6, (-1000001), 0, 0, 0, []), (32, 0, 0, 0, 0, []), (16, 1, 0, 5, 0, []), (21, 0, 0, 48, 0, []), (2, 0, 0, 0, 0, []), (6, 0, 0, 0, 0, []), (24, 0, 0, 8, 1, []), (6, 0, 0, 0, 0, []), (3, 0, 0, 5, 0, []), (6, 0, 0, 0, 0, []), (3, 0, 0, 6, 0, []), (6, 0, 0, 0, 0, []), (3, 0, 0, 7, 0, []), (45, 0, 0, 80, 0, [1, 1, 1, 1, 1, 1, 1, 1, 0]), (0, 0, 0, 7, 0, []), (6, 3, 0, 0, 0, []), (20, 0, 0, 117, 3, []), (2, 0, 0, 0, 0, []), (0, 0, 0, 7, 0, []), (24, 0, 0, 8, 21, []), (2, 0, 0, 0, 0, []), (0, 0, 0, 1, 0, []), (6, 40, 0, 0, 0, []), (0, 0, 0, 2, 0, []), (8, 0, 0, 0, 2, []), (0, 0, 0, 3, 0, []), (8, 0, 0, 0, 0, []), (0, 0, 0, 4, 0, []), (31, 0, 0, 153, 4, [1, 9, 7]), (3, 0, 0, 8, 0, []), (0, 0, 0, 7, 0, []), (19, 0, 0, 102, 0, []), (0, 0, 0, 8, 0, []), (0, 0, 0, 6, 0, []), (20, 0, 0, 104, 3, []), (0, 0, 0, 7, 0, []), (21, 0, 0, 105, 0, []), (0, 0, 0, 5, 0, []), (3, 0, 0, 5, 0, []), (0, 0, 0, 7, 0, []), (19, 0, 0, 111, 0, []), (0, 0, 0, 8, 0, []), (0, 0, 0, 6, 0, []), (20, 0, 0, 113, 3, []), (0, 0, 0, 8, 0, []), (21, 0, 0, 114, 0, []), (0, 0, 0, 6, 0, []), (3, 0, 0, 6, 0, []), (16, 1, 0, 7, 0, []), (21, 0, 0, 80, 0, []), (2, 0, 0, 0, 0, []), (6, (-1), 0, 0, 0, []), (24, 0, 0, 8, 21, []), (0, 0, 0, 5, 0, []), (32, 0, 0, 0, 0, [])]
/-- RailOfHeadsModel.drop.(I)I -/
def mx_p155 : List mx_Op := [(45, 0, 0, 0, 0, [1, 1]), (2, 0, 0, 0, 0, []), (6, 0, 0, 0, 0, []), (24, 0, 0, 8, 0, []), (0, 0, 0, 1, 0, []), (31, 0, 0, 149, 1, [1, 0, 1]), (19, 0, 0, 9, 1, []), (6, (-1000001), 0, 0, 0, []), (32, 0, 0, 0, 0, []), (2, 0, 0, 0, 0, []), (6, 0, 0, 0, 0, []), (24, 0, 0, 8, 1, []), (2, 0, 0, 0, 0, []), (23, 0, 0, 8, 2, []), (0, 0, 0, 1, 0, []), (25, 0, 0, 0, 0, []), (19, 0, 0, 21, 3, []), (2, 0, 0, 0, 0, []), (6, 1, 0, 0, 0, []), (31, 0, 0, 119, 2, [1, 9, 2]), (32, 0, 0, 0, 0, []), (2, 0, 0, 0, 0, []), (23, 0, 0, 8, 2, []), (0, 0, 0, 1, 0, []), (6, (-1), 0, 0, 0, []), (26, 0, 0, 0, 0, []), (2, 0, 0, 0, 0, []), (23, 0, 0, 8, 3, []), (0, 0, 0, 1, 0, []), (25, 0, 0, 0, 0, []), (32, 0, 0, 0, 0, [])]
/-- RailOfHeadsModel.far.(II)I -/
def mx_p156 : List mx_Op := [(45, 0, 0, 0, 0, [1, 1, 1]), (2, 0, 0, 0, 0, []), (6, 0, 0, 0, 0, []), (24, 0, 0, 8, 0, []), (2, 0, 0, 0, 0, []), (0, 0, 0, 1, 0, []), (31, 0, 0, 152, 2, [1, 9, 2]), (19, 0, 0, 21, 0, []), (2, 0, 0, 0, 0, []), (0, 0, 0, 2, 0, []), (31, 0, 0, 152, 2, [1, 9, 2]), (19, 0, 0, 21, 0, []), (2, 0, 0, 0, 0, []), (23, 0, 0, 8, 20, []), (6, 6, 0, 0, 0, []), (0, 0, 0, 1, 0, []), (8, 0, 0, 0, 2, []), (0, 0, 0, 2, 0, []), (8, 0, 0, 0, 0, []), (25, 0, 0, 0, 0, []), (21, 0, 0, 22, 0, []), (6, (-1000001), 0, 0, 0, []), (32, 0, 0, 0, 0, [])]
/-- RailOfHeadsModel.fault.()I -/
def mx_p157 : List mx_Op := [(45, 0, 0, 0, 0, [1]), (2, 0, 0, 0, 0, []), (6, 0, 0, 0, 0, []), (24, 0, 0, 8, 0, []), (2, 0, 0, 0, 0, []), (23, 0, 0, 8, 12, []), (32, 0, 0, 0, 0, [])]
/-- RailOfHeadsModel.feed.(JI)I -/
def mx_p158 : List mx_Op := [(45, 0, 0, 0, 0, [1, 1, 1, 1, 1]), (2, 0, 0, 0, 0, []), (6, 0, 0, 0, 0, []), (24, 0, 0, 8, 0, []), (0, 0, 0, 3, 0, []), (14, 0, 0, 0, 0, []), (7, 0, 1, 1, 0, []), (7, 0, 8, 0, 0, []), (31, 0, 0, 115, 3, [1, 0, 6]), (19, 0, 0, 12, 1, []), (6, (-1000001), 0, 0, 0, []), (32, 0, 0, 0, 0, []), (2, 0, 0, 0, 0, []), (23, 0, 0, 8, 11, []), (0, 0, 0, 3, 0, []), (8, 0, 0, 0, 0, []), (6, 400, 0, 0, 0, []), (20, 0, 0, 20, 5, []), (6, (-1000003), 0, 0, 0, []), (32, 0, 0, 0, 0, []), (0, 0, 0, 3, 0, []), (6, 1, 0, 0, 0, []), (8, 0, 0, 0, 1, []), (3, 0, 0, 4, 0, []), (45, 0, 0, 24, 0, [1, 1, 0, 0, 1]), (0, 0, 0, 4, 0, []), (19, 0, 0, 48, 2, []), (2, 0, 0, 0, 0, []), (23, 0, 0, 8, 10, []), (2, 0, 0, 0, 0, []), (23, 0, 0, 8, 11, []), (1, 0, 0, 1, 0, []), (6, 8, 0, 0, 0, []), (0, 0, 0, 4, 0, []), (8, 0, 0, 0, 2, []), (12, 0, 0, 0, 1, []), (7, 0, 255, 0, 0, []), (11, 0, 0, 0, 1, []), (15, 0, 0, 0, 0, []), (26, 0, 0, 0, 0, []), (2, 0, 0, 0, 0, []), (17, 0, 0, 0, 0, []), (23, 0, 0, 8, 11, []), (6, 1, 0, 0, 0, []), (8, 0, 0, 0, 0, []), (24, 0, 0, 8, 11, []), (16, (-1), 0, 4, 0, []), (21, 0, 0, 24, 0, []), (2, 0, 0, 0, 0, []), (23, 0, 0, 8, 11, []), (32, 0, 0, 0, 0, [])]
/-- RailOfHeadsModel.figures.()I -/
def mx_p159 : List mx_Op := [(45, 0, 0, 0, 0, [1, 1, 1]), (6, 0, 0, 0, 0, []), (3, 0, 0, 1, 0, []), (2, 0, 0, 0, 0, []), (23, 0, 0, 8, 16, []), (3, 0, 0, 2, 0, []), (45, 0, 0, 6, 0, [1, 1, 1]), (0, 0, 0, 2, 0, []), (2, 0, 0, 0, 0, []), (23, 0, 0, 8, 17, []), (20, 0, 0, 28, 3, []), (2, 0, 0, 0, 0, []), (23, 0, 0, 8, 15, []), (6, 3, 0, 0, 0, []), (20, 0, 0, 28, 1, []), (6, 10, 0, 0, 0, []), (0, 0, 0, 1, 0, []), (8, 0, 0, 0, 2, []), (2, 0, 0, 0, 0, []), (23, 0, 0, 8, 10, []), (0, 0, 0, 2, 0, []), (25, 0, 0, 0, 0, []), (8, 0, 0, 0, 0, []), (6, 48, 0, 0, 0, []), (8, 0, 0, 0, 1, []), (3, 0, 0, 1, 0, []), (16, 1, 0, 2, 0, []), (21, 0, 0, 6, 0, []), (0, 0, 0, 1, 0, []), (32, 0, 0, 0, 0, [])]
/-- RailOfHeadsModel.fire.()I -/
def mx_p160 : List mx_Op := [(45, 0, 0, 0, 0, [1, 1, 1, 1, 1]), (2, 0, 0, 0, 0, []), (6, 0, 0, 0, 0, []), (24, 0, 0, 8, 0, []), (2, 0, 0, 0, 0, []), (23, 0, 0, 8, 7, []), (19, 0, 0, 9, 1, []), (6, (-1000002), 0, 0, 0, []), (32, 0, 0, 0, 0, []), (6, 0, 0, 0, 0, []), (3, 0, 0, 1, 0, []), (6, 0, 0, 0, 0, []), (3, 0, 0, 2, 0, []), (45, 0, 0, 13, 0, [1, 1, 1, 0, 0]), (0, 0, 0, 2, 0, []), (2, 0, 0, 0, 0, []), (23, 0, 0, 8, 5, []), (6, 6, 0, 0, 0, []), (25, 0, 0, 0, 0, []), (20, 0, 0, 58, 3, []), (2, 0, 0, 0, 0, []), (23, 0, 0, 8, 8, []), (6, 14, 0, 0, 0, []), (0, 0, 0, 2, 0, []), (8, 0, 0, 0, 2, []), (6, 0, 0, 0, 0, []), (8, 0, 0, 0, 0, []), (25, 0, 0, 0, 0, []), (3, 0, 0, 3, 0, []), (0, 0, 0, 3, 0, []), (19, 0, 0, 33, 3, []), (6, (-1), 0, 0, 0, []), (21, 0, 0, 39, 0, []), (2, 0, 0, 0, 0, []), (23, 0, 0, 8, 20, []), (6, 6, 0, 0, 0, []), (0, 0, 0, 3, 0, []), (8, 0, 0, 0, 2, []), (25, 0, 0, 0, 0, []), (3, 0, 0, 4, 0, []), (0, 0, 0, 4, 0, []), (6, (-1000000), 0, 0, 0, []), (20, 0, 0, 45, 1, []), (6, (-1000000), 0, 0, 0, []), (32, 0, 0, 0, 0, []), (0, 0, 0, 4, 0, []), (6, 1, 0, 0, 0, []), (8, 0, 0, 0, 0, []), (0, 0, 0, 1, 0, []), (20, 0, 0, 54, 5, []), (0, 0, 0, 4, 0, []), (6, 1, 0, 0, 0, []), (8, 0, 0, 0, 0, []), (21, 0, 0, 55, 0, []), (0, 0, 0, 1, 0, []), (3, 0, 0, 1, 0, []), (16, 1, 0, 2, 0, []), (21, 0, 0, 13, 0, []), (0, 0, 0, 1, 0, []), (32, 0, 0, 0, 0, [])]
/-- RailOfHeadsModel.go.(I)I -/
def mx_p161 : List mx_Op := [(45, 0, 0, 0, 0, [1, 1, 1]), (2, 0, 0, 0, 0, []), (6, 0, 0, 0, 0, []), (24, 0, 0, 8, 0, []), (2, 0, 0, 0, 0, []), (23, 0, 0, 8, 7, []), (19, 0, 0, 9, 1, []), (6, (-1000002), 0, 0, 0, []), (32, 0, 0, 0, 0, []), (0, 0, 0, 1, 0, []), (14, 0, 0, 0, 0, []), (7, 0, 1, 1, 0, []), (7, 0, 60, 0, 0, []), (31, 0, 0, 115, 3, [1, 0, 6]), (19, 0, 0, 17, 1, []), (6, (-1000001), 0, 0, 0, []), (32, 0, 0, 0, 0, []), (6, 0, 0, 0, 0, []), (3, 0, 0, 2, 0, []), (45, 0, 0, 19, 0, [1, 1, 1]), (0, 0, 0, 2, 0, []), (0, 0, 0, 1, 0, []), (20, 0, 0, 29, 3, []), (2, 0, 0, 0, 0, []), (2, 0, 0, 0, 0, []), (23, 0, 0, 8, 8, []), (31, 0, 0, 143, 2, [0, 9, 3]), (16, 1, 0, 2, 0, []), (21, 0, 0, 19, 0, []), (2, 0, 0, 0, 0, []), (23, 0, 0, 8, 8, []), (6, 420, 0, 0, 0, []), (25, 0, 0, 0, 0, []), (32, 0, 0, 0, 0, [])]
/-- RailOfHeadsModel.hang.(II)V -/
def mx_p162 : List mx_Op := [(45, 0, 0, 0, 0, [1, 1, 1, 1, 1]), (6, 0, 0, 0, 0, []), (3, 0, 0, 3, 0, []), (45, 0, 0, 3, 0, [1, 1, 1, 1, 0]), (0, 0, 0, 3, 0, []), (0, 0, 0, 1, 0, []), (20, 0, 0, 28, 3, []), (2, 0, 0, 0, 0, []), (23, 0, 0, 8, 5, []), (6, 40, 0, 0, 0, []), (6, 2, 0, 0, 0, []), (0, 0, 0, 3, 0, []), (8, 0, 0, 0, 2, []), (8, 0, 0, 0, 0, []), (2, 0, 0, 0, 0, []), (23, 0, 0, 8, 6, []), (6, 40, 0, 0, 0, []), (6, 2, 0, 0, 0, []), (2, 0, 0, 0, 0, []), (23, 0, 0, 8, 25, []), (0, 0, 0, 3, 0, []), (25, 0, 0, 0, 0, []), (8, 0, 0, 0, 2, []), (8, 0, 0, 0, 0, []), (25, 0, 0, 0, 0, []), (26, 0, 0, 0, 0, []), (16, 1, 0, 3, 0, []), (21, 0, 0, 3, 0, []), (2, 0, 0, 0, 0, []), (0, 0, 0, 2, 0, []), (6, 0, 0, 0, 0, []), (31, 0, 0, 145, 3, [1, 9, 8]), (3, 0, 0, 3, 0, []), (6, 0, 0, 0, 0, []), (3, 0, 0, 4, 0, []), (45, 0, 0, 35, 0, [1, 1, 0, 1, 1]), (0, 0, 0, 4, 0, []), (0, 0, 0, 1, 0, []), (20, 0, 0, 53, 3, []), (0, 0, 0, 3, 0, []), (2, 0, 0, 0, 0, []), (23, 0, 0, 8, 27, []), (20, 0, 0, 53, 5, []), (2, 0, 0, 0, 0, []), (23, 0, 0, 8, 26, []), (0, 0, 0, 4, 0, []), (2, 0, 0, 0, 0, []), (23, 0, 0, 8, 25, []), (0, 0, 0, 4, 0, []), (25, 0, 0, 0, 0, []), (26, 0, 0, 0, 0, []), (16, 1, 0, 4, 0, []), (21, 0, 0, 35, 0, []), (2, 0, 0, 0, 0, []), (0, 0, 0, 3, 0, []), (2, 0, 0, 0, 0, []), (23, 0, 0, 8, 27, []), (20, 0, 0, 60, 5, []), (0, 0, 0, 3, 0, []), (21, 0, 0, 62, 0, []), (2, 0, 0, 0, 0, []), (23, 0, 0, 8, 27, []), (24, 0, 0, 8, 27, []), (34, 0, 0, 0, 0, [])]
/-- RailOfHeadsModel.name.()J -/
def mx_p163 : List mx_Op := [(45, 0, 0, 0, 0, [1, 1, 1, 1]), (7, 0, 0, 0, 0, []), (4, 0, 0, 1, 0, []), (2, 0, 0, 0, 0, []), (23, 0, 0, 8, 16, []), (3, 0, 0, 3, 0, []), (45, 0, 0, 6, 0, [1, 1, 0, 1]), (0, 0, 0, 3, 0, []), (2, 0, 0, 0, 0, []), (23, 0, 0, 8, 17, []), (20, 0, 0, 34, 3, []), (2, 0, 0, 0, 0, []), (23, 0, 0, 8, 15, []), (6, 2, 0, 0, 0, []), (20, 0, 0, 34, 1, []), (2, 0, 0, 0, 0, []), (23, 0, 0, 8, 17, []), (2, 0, 0, 0, 0, []), (23, 0, 0, 8, 16, []), (8, 0, 0, 0, 1, []), (6, 8, 0, 0, 0, []), (20, 0, 0, 34, 3, []), (1, 0, 0, 1, 0, []), (6, 8, 0, 0, 0, []), (12, 0, 0, 0, 0, []), (2, 0, 0, 0, 0, []), (23, 0, 0, 8, 10, []), (0, 0, 0, 3, 0, []), (25, 0, 0, 0, 0, []), (14, 0, 0, 0, 0, []), (11, 0, 0, 0, 2, []), (4, 0, 0, 1, 0, []), (16, 1, 0, 3, 0, []), (21, 0, 0, 6, 0, []), (2, 0, 0, 0, 0, []), (23, 0, 0, 8, 18, []), (19, 0, 0, 39, 1, []), (1, 0, 0, 1, 0, []), (21, 0, 0, 40, 0, []), (7, 0, 0, 0, 0, []), (33, 0, 0, 0, 0, [])]
/-- RailOfHeadsModel.number.(II)I -/
def mx_p164 : List mx_Op := [(45, 0, 0, 0, 0, [1, 1, 1, 1]), (2, 0, 0, 0, 0, []), (23, 0, 0, 8, 18, []), (19, 0, 0, 6, 5, []), (6, 0, 0, 0, 0, []), (32, 0, 0, 0, 0, []), (2, 0, 0, 0, 0, []), (31, 0, 0, 159, 1, [1, 9, 3]), (3, 0, 0, 3, 0, []), (2, 0, 0, 0, 0, []), (23, 0, 0, 8, 15, []), (6, 3, 0, 0, 0, []), (20, 0, 0, 24, 1, []), (0, 0, 0, 3, 0, []), (14, 0, 0, 0, 0, []), (0, 0, 0, 1, 0, []), (14, 0, 0, 0, 0, []), (0, 0, 0, 2, 0, []), (14, 0, 0, 0, 0, []), (31, 0, 0, 115, 3, [1, 0, 6]), (19, 0, 0, 24, 1, []), (2, 0, 0, 0, 0, []), (6, 2, 0, 0, 0, []), (31, 0, 0, 126, 2, [0, 9, 2]), (2, 0, 0, 0, 0, []), (2, 0, 0, 0, 0, []), (23, 0, 0, 8, 15, []), (6, 3, 0, 0, 0, []), (20, 0, 0, 31, 1, []), (6, 1, 0, 0, 0, []), (21, 0, 0, 32, 0, []), (6, 0, 0, 0, 0, []), (31, 0, 0, 132, 2, [0, 9, 2]), (0, 0, 0, 3, 0, []), (32, 0, 0, 0, 0, [])]
/-- RailOfHeadsModel.mustEnd.()V -/
def mx_p165 : List mx_Op := [(45, 0, 0, 0, 0, [1]), (2, 0, 0, 0, 0, []), (23, 0, 0, 8, 18, []), (19, 0, 0, 13, 1, []), (2, 0, 0, 0, 0, []), (2, 0, 0, 0, 0, []), (23, 0, 0, 8, 15, []), (6, 4, 0, 0, 0, []), (20, 0, 0, 11, 1, []), (6, 1, 0, 0, 0, []), (21, 0, 0, 12, 0, []), (6, 0, 0, 0, 0, []), (31, 0, 0, 132, 2, [0, 9, 2]), (34, 0, 0, 0, 0, [])]
/-- RailOfHeadsModel.readRail.()V -/
def mx_p166 : List mx_Op := [(45, 0, 0, 0, 0, [1]), (2, 0, 0, 0, 0, []), (2, 0, 0, 0, 0, []), (31, 0, 0, 163, 1, [2, 9, 4]), (7, 0, 1918986604, 0, 0, []), (13, 0, 0, 0, 0, []), (19, 0, 0, 9, 1, []), (6, 1, 0, 0, 0, []), (21, 0, 0, 10, 0, []), (6, 0, 0, 0, 0, []), (31, 0, 0, 132, 2, [0, 9, 2]), (2, 0, 0, 0, 0, []), (23, 0, 0, 8, 6, []), (6, 0, 0, 0, 0, []), (2, 0, 0, 0, 0, []), (6, 1, 0, 0, 0, []), (6, 20, 0, 0, 0, []), (31, 0, 0, 164, 3, [1, 9, 4]), (26, 0, 0, 0, 0, []), (2, 0, 0, 0, 0, []), (23, 0, 0, 8, 6, []), (6, 1, 0, 0, 0, []), (2, 0, 0, 0, 0, []), (6, 0, 0, 0, 0, []), (6, 20, 0, 0, 0, []), (31, 0, 0, 164, 3, [1, 9, 4]), (26, 0, 0, 0, 0, []), (2, 0, 0, 0, 0, []), (31, 0, 0, 165, 1, [0, 9, 1]), (34, 0, 0, 0, 0, [])]
/-- RailOfHeadsModel.mustBegin.(J)V -/
def mx_p167 : List mx_Op := [(45, 0, 0, 0, 0, [1, 1, 1]), (2, 0, 0, 0, 0, []), (31, 0, 0, 163, 1, [2, 9, 4]), (1, 0, 0, 1, 0, []), (13, 0, 0, 0, 0, []), (19, 0, 0, 9, 0, []), (2, 0, 0, 0, 0, []), (6, 1, 0, 0, 0, []), (31, 0, 0, 126, 2, [0, 9, 2]), (34, 0, 0, 0, 0, [])]
/-- RailOfHeadsModel.readRoom.()V -/
def mx_p168 : List mx_Op := [(45, 0, 0, 0, 0, [1, 1]), (2, 0, 0, 0, 0, []), (6, 2, 0, 0, 0, []), (6, 6, 0, 0, 0, []), (31, 0, 0, 133, 3, [0, 9, 3]), (2, 0, 0, 0, 0, []), (6, 1, 0, 0, 0, []), (6, 40, 0, 0, 0, []), (31, 0, 0, 164, 3, [1, 9, 4]), (3, 0, 0, 1, 0, []), (2, 0, 0, 0, 0, []), (31, 0, 0, 165, 1, [0, 9, 1]), (2, 0, 0, 0, 0, []), (23, 0, 0, 8, 18, []), (19, 0, 0, 33, 1, []), (2, 0, 0, 0, 0, []), (23, 0, 0, 8, 6, []), (6, 7, 0, 0, 0, []), (2, 0, 0, 0, 0, []), (23, 0, 0, 8, 6, []), (6, 2, 0, 0, 0, []), (25, 0, 0, 0, 0, []), (8, 0, 0, 0, 0, []), (0, 0, 0, 1, 0, []), (26, 0, 0, 0, 0, []), (2, 0, 0, 0, 0, []), (23, 0, 0, 8, 6, []), (6, 2, 0, 0, 0, []), (18, 0, 0, 0, 0, []), (25, 0, 0, 0, 0, []), (6, 1, 0, 0, 0, []), (8, 0, 0, 0, 0, []), (26, 0, 0, 0, 0, []), (34, 0, 0, 0, 0, [])]
/-- RailOfHeadsModel.readDoor.()V -/
def mx_p169 : List mx_Op := [(45, 0, 0, 0, 0, [1, 1, 1, 1, 1]), (2, 0, 0, 0, 0, []), (6, 3, 0, 0, 0, []), (6, 9, 0, 0, 0, []), (31, 0, 0, 133, 3, [0, 9, 3]), (2, 0, 0, 0, 0, []), (6, 0, 0, 0, 0, []), (2, 0, 0, 0, 0, []), (23, 0, 0, 8, 6, []), (6, 2, 0, 0, 0, []), (25, 0, 0, 0, 0, []), (6, 1, 0, 0, 0, []), (8, 0, 0, 0, 1, []), (31, 0, 0, 164, 3, [1, 9, 4]), (3, 0, 0, 1, 0, []), (2, 0, 0, 0, 0, []), (23, 0, 0, 8, 18, []), (19, 0, 0, 29, 1, []), (2, 0, 0, 0, 0, []), (23, 0, 0, 8, 15, []), (6, 3, 0, 0, 0, []), (20, 0, 0, 29, 1, []), (2, 0, 0, 0, 0, []), (31, 0, 0, 159, 1, [1, 9, 3]), (0, 0, 0, 1, 0, []), (20, 0, 0, 29, 1, []), (2, 0, 0, 0, 0, []), (6, 2, 0, 0, 0, []), (31, 0, 0, 126, 2, [0, 9, 2]), (2, 0, 0, 0, 0, []), (6, 0, 0, 0, 0, []), (2, 0, 0, 0, 0, []), (23, 0, 0, 8, 6, []), (6, 2, 0, 0, 0, []), (25, 0, 0, 0, 0, []), (6, 1, 0, 0, 0, []), (8, 0, 0, 0, 1, []), (31, 0, 0, 164, 3, [1, 9, 4]), (3, 0, 0, 2, 0, []), (2, 0, 0, 0, 0, []), (31, 0, 0, 163, 1, [2, 9, 4]), (7, 0, 7302757, 0, 0, []), (13, 0, 0, 0, 0, []), (19, 0, 0, 46, 1, []), (6, 1, 0, 0, 0, []), (21, 0, 0, 47, 0, []), (6, 0, 0, 0, 0, []), (3, 0, 0, 3, 0, []), (0, 0, 0, 3, 0, []), (19, 0, 0, 53, 0, []), (2, 0, 0, 0, 0, []), (6, 1, 0, 0, 0, []), (31, 0, 0, 132, 2, [0, 9, 2]), (2, 0, 0, 0, 0, []), (31, 0, 0, 165, 1, [0, 9, 1]), (2, 0, 0, 0, 0, []), (23, 0, 0, 8, 18, []), (19, 0, 0, 98, 1, []), (6, 13, 0, 0, 0, []), (6, 3, 0, 0, 0, []), (2, 0, 0, 0, 0, []), (23, 0, 0, 8, 6, []), (6, 3, 0, 0, 0, []), (25, 0, 0, 0, 0, []), (8, 0, 0, 0, 2, []), (8, 0, 0, 0, 0, []), (3, 0, 0, 4, 0, []), (2, 0, 0, 0, 0, []), (23, 0, 0, 8, 6, []), (0, 0, 0, 4, 0, []), (0, 0, 0, 1, 0, []), (26, 0, 0, 0, 0, []), (2, 0, 0, 0, 0, []), (23, 0, 0, 8, 6, []), (0, 0, 0, 4, 0, []), (6, 1, 0, 0, 0, []), (8, 0, 0, 0, 0, []), (0, 0, 0, 2, 0, []), (26, 0, 0, 0, 0, []), (2, 0, 0, 0, 0, []), (23, 0, 0, 8, 6, []), (0, 0, 0, 4, 0, []), (6, 2, 0, 0, 0, []), (8, 0, 0, 0, 0, []), (0, 0, 0, 3, 0, []), (19, 0, 0, 88, 0, []), (6, 1, 0, 0, 0, []), (21, 0, 0, 89, 0, []), (6, 0, 0, 0, 0, []), (26, 0, 0, 0, 0, []), (2, 0, 0, 0, 0, []), (23, 0, 0, 8, 6, []), (6, 3, 0, 0, 0, []), (18, 0, 0, 0, 0, []), (25, 0, 0, 0, 0, []), (6, 1, 0, 0, 0, []), (8, 0, 0, 0, 0, []), (26, 0, 0, 0, 0, []), (34, 0, 0, 0, 0, [])]
/-- RailOfHeadsModel.readPicture.()V -/
def mx_p170 : List mx_Op := [(45, 0, 0, 0, 0, [1, 1, 1]), (2, 0, 0, 0, 0, []), (6, 4, 0, 0, 0, []), (6, 8, 0, 0, 0, []), (31, 0, 0, 133, 3, [0, 9, 3]), (2, 0, 0, 0, 0, []), (6, 0, 0, 0, 0, []), (2, 0, 0, 0, 0, []), (23, 0, 0, 8, 6, []), (6, 2, 0, 0, 0, []), (25, 0, 0, 0, 0, []), (6, 1, 0, 0, 0, []), (8, 0, 0, 0, 1, []), (31, 0, 0, 164, 3, [1, 9, 4]), (3, 0, 0, 1, 0, []), (2, 0, 0, 0, 0, []), (6, 1, 0, 0, 0, []), (6, 60, 0, 0, 0, []), (31, 0, 0, 164, 3, [1, 9, 4]), (3, 0, 0, 2, 0, []), (2, 0, 0, 0, 0, []), (31, 0, 0, 165, 1, [0, 9, 1]), (2, 0, 0, 0, 0, []), (23, 0, 0, 8, 18, []), (19, 0, 0, 59, 1, []), (2, 0, 0, 0, 0, []), (23, 0, 0, 8, 6, []), (6, 40, 0, 0, 0, []), (6, 2, 0, 0, 0, []), (2, 0, 0, 0, 0, []), (23, 0, 0, 8, 6, []), (6, 4, 0, 0, 0, []), (25, 0, 0, 0, 0, []), (8, 0, 0, 0, 2, []), (8, 0, 0, 0, 0, []), (0, 0, 0, 1, 0, []), (26, 0, 0, 0, 0, []), (2, 0, 0, 0, 0, []), (23, 0, 0, 8, 6, []), (6, 40, 0, 0, 0, []), (6, 2, 0, 0, 0, []), (2, 0, 0, 0, 0, []), (23, 0, 0, 8, 6, []), (6, 4, 0, 0, 0, []), (25, 0, 0, 0, 0, []), (8, 0, 0, 0, 2, []), (8, 0, 0, 0, 0, []), (6, 1, 0, 0, 0, []), (8, 0, 0, 0, 0, []), (0, 0, 0, 2, 0, []), (26, 0, 0, 0, 0, []), (2, 0, 0, 0, 0, []), (23, 0, 0, 8, 6, []), (6, 4, 0, 0, 0, []), (18, 0, 0, 0, 0, []), (25, 0, 0, 0, 0, []), (6, 1, 0, 0, 0, []), (8, 0, 0, 0, 0, []), (26, 0, 0, 0, 0, []), (34, 0, 0, 0, 0, [])]
/-- RailOfHeadsModel.lawOf.(J)I -/
def mx_p171 : List mx_Op := [(45, 0, 0, 0, 0, [1, 1]), (1, 0, 0, 0, 0, []), (7, 0, 439855772532, 0, 0, []), (13, 0, 0, 0, 0, []), (19, 0, 0, 7, 1, []), (6, 0, 0, 0, 0, []), (21, 0, 0, 20, 0, []), (1, 0, 0, 0, 0, []), (7, 0, 1685217655, 0, 0, []), (13, 0, 0, 0, 0, []), (19, 0, 0, 13, 1, []), (6, 1, 0, 0, 0, []), (21, 0, 0, 20, 0, []), (1, 0, 0, 0, 0, []), (7, 0, 491496238692, 0, 0, []), (13, 0, 0, 0, 0, []), (19, 0, 0, 19, 1, []), (6, 2, 0, 0, 0, []), (21, 0, 0, 20, 0, []), (6, (-1000000), 0, 0, 0, []), (32, 0, 0, 0, 0, [])]
/-- RailOfHeadsModel.readGroup.()V -/
def mx_p172 : List mx_Op := [(45, 0, 0, 0, 0, [1, 1, 1, 1, 1, 1, 1]), (2, 0, 0, 0, 0, []), (6, 5, 0, 0, 0, []), (6, 6, 0, 0, 0, []), (31, 0, 0, 133, 3, [0, 9, 3]), (6, 30, 0, 0, 0, []), (2, 0, 0, 0, 0, []), (23, 0, 0, 8, 6, []), (6, 6, 0, 0, 0, []), (25, 0, 0, 0, 0, []), (8, 0, 0, 0, 1, []), (3, 0, 0, 1, 0, []), (2, 0, 0, 0, 0, []), (6, 1, 0, 0, 0, []), (0, 0, 0, 1, 0, []), (6, 20, 0, 0, 0, []), (20, 0, 0, 19, 3, []), (0, 0, 0, 1, 0, []), (21, 0, 0, 20, 0, []), (6, 20, 0, 0, 0, []), (31, 0, 0, 164, 3, [1, 9, 4]), (3, 0, 0, 2, 0, []), (2, 0, 0, 0, 0, []), (6, 0, 0, 0, 0, []), (6, 60, 0, 0, 0, []), (31, 0, 0, 164, 3, [1, 9, 4]), (3, 0, 0, 3, 0, []), (2, 0, 0, 0, 0, []), (31, 0, 0, 163, 1, [2, 9, 4]), (31, 0, 0, 171, 1, [1, 0, 2]), (3, 0, 0, 4, 0, []), (2, 0, 0, 0, 0, []), (23, 0, 0, 8, 18, []), (19, 0, 0, 42, 1, []), (2, 0, 0, 0, 0, []), (0, 0, 0, 4, 0, []), (6, (-1000000), 0, 0, 0, []), (20, 0, 0, 40, 0, []), (6, 1, 0, 0, 0, []), (21, 0, 0, 41, 0, []), (6, 0, 0, 0, 0, []), (31, 0, 0, 132, 2, [0, 9, 2]), (2, 0, 0, 0, 0, []), (6, 0, 0, 0, 0, []), (6, 20, 0, 0, 0, []), (31, 0, 0, 164, 3, [1, 9, 4]), (3, 0, 0, 5, 0, []), (2, 0, 0, 0, 0, []), (31, 0, 0, 165, 1, [0, 9, 1]), (2, 0, 0, 0, 0, []), (23, 0, 0, 8, 18, []), (19, 0, 0, 103, 1, []), (6, 56, 0, 0, 0, []), (6, 4, 0, 0, 0, []), (2, 0, 0, 0, 0, []), (23, 0, 0, 8, 6, []), (6, 5, 0, 0, 0, []), (25, 0, 0, 0, 0, []), (8, 0, 0, 0, 2, []), (8, 0, 0, 0, 0, []), (3, 0, 0, 6, 0, []), (2, 0, 0, 0, 0, []), (23, 0, 0, 8, 6, []), (0, 0, 0, 6, 0, []), (0, 0, 0, 2, 0, []), (26, 0, 0, 0, 0, []), (2, 0, 0, 0, 0, []), (23, 0, 0, 8, 6, []), (0, 0, 0, 6, 0, []), (6, 1, 0, 0, 0, []), (8, 0, 0, 0, 0, []), (0, 0, 0, 3, 0, []), (26, 0, 0, 0, 0, []), (2, 0, 0, 0, 0, []), (23, 0, 0, 8, 6, []), (0, 0, 0, 6, 0, []), (6, 2, 0, 0, 0, []), (8, 0, 0, 0, 0, []), (0, 0, 0, 4, 0, []), (26, 0, 0, 0, 0, []), (2, 0, 0, 0, 0, []), (23, 0, 0, 8, 6, []), (0, 0, 0, 6, 0, []), (6, 3, 0, 0, 0, []), (8, 0, 0, 0, 0, []), (0, 0, 0, 5, 0, []), (26, 0, 0, 0, 0, []), (2, 0, 0, 0, 0, []), (23, 0, 0, 8, 6, []), (6, 5, 0, 0, 0, []), (18, 0, 0, 0, 0, []), (25, 0, 0, 0, 0, []), (6, 1, 0, 0, 0, []), (8, 0, 0, 0, 0, []), (26, 0, 0, 0, 0, []), (2, 0, 0, 0, 0, []), (23, 0, 0, 8, 6, []), (6, 6, 0, 0, 0, []), (18, 0, 0, 0, 0, []), (25, 0, 0, 0, 0, []), (0, 0, 0, 2, 0, []), (8, 0, 0, 0, 0, []), (26, 0, 0, 0, 0, []), (34, 0, 0, 0, 0, [])]
/-- RailOfHeadsModel.layFar.()V -/
def mx_p173 : List mx_Op := [(45, 0, 0, 0, 0, [1, 1, 1, 1, 1, 1, 1, 1]), (2, 0, 0, 0, 0, []), (23, 0, 0, 8, 5, []), (6, 2, 0, 0, 0, []), (25, 0, 0, 0, 0, []), (3, 0, 0, 1, 0, []), (6, 0, 0, 0, 0, []), (3, 0, 0, 2, 0, []), (45, 0, 0, 8, 0, [1, 1, 1, 0, 0, 0, 0, 0]), (0, 0, 0, 2, 0, []), (6, 36, 0, 0, 0, []), (20, 0, 0, 28, 3, []), (2, 0, 0, 0, 0, []), (23, 0, 0, 8, 20, []), (0, 0, 0, 2, 0, []), (0, 0, 0, 2, 0, []), (6, 6, 0, 0, 0, []), (9, 0, 0, 0, 0, []), (0, 0, 0, 2, 0, []), (6, 6, 0, 0, 0, []), (9, 0, 0, 0, 1, []), (20, 0, 0, 24, 1, []), (6, 0, 0, 0, 0, []), (21, 0, 0, 25, 0, []), (6, (-1000000), 0, 0, 0, []), (26, 0, 0, 0, 0, []), (16, 1, 0, 2, 0, []), (21, 0, 0, 8, 0, []), (6, 1, 0, 0, 0, []), (3, 0, 0, 2, 0, []), (45, 0, 0, 30, 0, [1, 1, 1, 0, 0, 0, 0, 0]), (0, 0, 0, 2, 0, []), (0, 0, 0, 1, 0, []), (20, 0, 0, 112, 3, []), (6, 0, 0, 0, 0, []), (3, 0, 0, 3, 0, []), (45, 0, 0, 36, 0, [1, 1, 1, 1, 0, 0, 0, 0]), (0, 0, 0, 3, 0, []), (6, 36, 0, 0, 0, []), (20, 0, 0, 110, 3, []), (0, 0, 0, 3, 0, []), (6, 6, 0, 0, 0, []), (9, 0, 0, 0, 0, []), (3, 0, 0, 4, 0, []), (6, 0, 0, 0, 0, []), (3, 0, 0, 5, 0, []), (45, 0, 0, 46, 0, [1, 1, 1, 1, 1, 1, 0, 0]), (0, 0, 0, 5, 0, []), (6, 6, 0, 0, 0, []), (2, 0, 0, 0, 0, []), (23, 0, 0, 8, 5, []), (6, 3, 0, 0, 0, []), (25, 0, 0, 0, 0, []), (8, 0, 0, 0, 2, []), (20, 0, 0, 108, 3, []), (0, 0, 0, 4, 0, []), (0, 0, 0, 1, 0, []), (20, 0, 0, 108, 3, []), (0, 0, 0, 5, 0, []), (6, 6, 0, 0, 0, []), (9, 0, 0, 0, 1, []), (3, 0, 0, 6, 0, []), (2, 0, 0, 0, 0, []), (23, 0, 0, 8, 20, []), (0, 0, 0, 3, 0, []), (25, 0, 0, 0, 0, []), (6, (-1000000), 0, 0, 0, []), (20, 0, 0, 92, 1, []), (2, 0, 0, 0, 0, []), (23, 0, 0, 8, 20, []), (6, 6, 0, 0, 0, []), (0, 0, 0, 4, 0, []), (8, 0, 0, 0, 2, []), (0, 0, 0, 6, 0, []), (8, 0, 0, 0, 0, []), (25, 0, 0, 0, 0, []), (0, 0, 0, 2, 0, []), (6, 1, 0, 0, 0, []), (8, 0, 0, 0, 1, []), (20, 0, 0, 92, 1, []), (2, 0, 0, 0, 0, []), (0, 0, 0, 5, 0, []), (6, 6, 0, 0, 0, []), (9, 0, 0, 0, 0, []), (0, 0, 0, 6, 0, []), (0, 0, 0, 3, 0, []), (6, 6, 0, 0, 0, []), (9, 0, 0, 0, 1, []), (31, 0, 0, 140, 4, [1, 9, 5]), (19, 0, 0, 92, 0, []), (6, 1, 0, 0, 0, []), (21, 0, 0, 93, 0, []), (6, 0, 0, 0, 0, []), (3, 0, 0, 7, 0, []), (2, 0, 0, 0, 0, []), (23, 0, 0, 8, 20, []), (0, 0, 0, 3, 0, []), (0, 0, 0, 7, 0, []), (19, 0, 0, 101, 0, []), (0, 0, 0, 2, 0, []), (21, 0, 0, 105, 0, []), (2, 0, 0, 0, 0, []), (23, 0, 0, 8, 20, []), (0, 0, 0, 3, 0, []), (25, 0, 0, 0, 0, []), (26, 0, 0, 0, 0, []), (16, 1, 0, 5, 0, []), (21, 0, 0, 46, 0, []), (16, 1, 0, 3, 0, []), (21, 0, 0, 36, 0, []), (16, 1, 0, 2, 0, []), (21, 0, 0, 30, 0, []), (34, 0, 0, 0, 0, [])]
/-- RailOfHeadsModel.house.()I -/
def mx_p174 : List mx_Op := [(45, 0, 0, 0, 0, [1, 1]), (2, 0, 0, 0, 0, []), (6, 0, 0, 0, 0, []), (24, 0, 0, 8, 0, []), (2, 0, 0, 0, 0, []), (31, 0, 0, 131, 1, [0, 9, 1]), (6, 0, 0, 0, 0, []), (3, 0, 0, 1, 0, []), (45, 0, 0, 8, 0, [1, 1]), (0, 0, 0, 1, 0, []), (6, 80, 0, 0, 0, []), (20, 0, 0, 19, 3, []), (2, 0, 0, 0, 0, []), (23, 0, 0, 8, 6, []), (0, 0, 0, 1, 0, []), (6, 0, 0, 0, 0, []), (26, 0, 0, 0, 0, []), (16, 1, 0, 1, 0, []), (21, 0, 0, 8, 0, []), (2, 0, 0, 0, 0, []), (31, 0, 0, 166, 1, [0, 9, 1]), (2, 0, 0, 0, 0, []), (7, 0, 1919905645, 0, 0, []), (31, 0, 0, 167, 2, [0, 9, 3]), (45, 0, 0, 24, 0, [1, 0]), (2, 0, 0, 0, 0, []), (31, 0, 0, 163, 1, [2, 9, 4]), (7, 0, 1919905645, 0, 0, []), (13, 0, 0, 0, 0, []), (19, 0, 0, 33, 1, []), (2, 0, 0, 0, 0, []), (31, 0, 0, 168, 1, [0, 9, 2]), (21, 0, 0, 24, 0, []), (45, 0, 0, 33, 0, [1, 0]), (2, 0, 0, 0, 0, []), (31, 0, 0, 163, 1, [2, 9, 4]), (7, 0, 1685024626, 0, 0, []), (13, 0, 0, 0, 0, []), (19, 0, 0, 42, 1, []), (2, 0, 0, 0, 0, []), (31, 0, 0, 169, 1, [0, 9, 5]), (21, 0, 0, 33, 0, []), (2, 0, 0, 0, 0, []), (7, 0, 31641073268126309, 0, 0, []), (31, 0, 0, 167, 2, [0, 9, 3]), (45, 0, 0, 45, 0, [1, 0]), (2, 0, 0, 0, 0, []), (31, 0, 0, 163, 1, [2, 9, 4]), (7, 0, 31641073268126309, 0, 0, []), (13, 0, 0, 0, 0, []), (19, 0, 0, 54, 1, []), (2, 0, 0, 0, 0, []), (31, 0, 0, 170, 1, [0, 9, 3]), (21, 0, 0, 45, 0, []), (2, 0, 0, 0, 0, []), (7, 0, 444301538672, 0, 0, []), (31, 0, 0, 167, 2, [0, 9, 3]), (45, 0, 0, 57, 0, [1, 0]), (2, 0, 0, 0, 0, []), (31, 0, 0, 163, 1, [2, 9, 4]), (7, 0, 444301538672, 0, 0, []), (13, 0, 0, 0, 0, []), (19, 0, 0, 66, 1, []), (2, 0, 0, 0, 0, []), (31, 0, 0, 172, 1, [0, 9, 7]), (21, 0, 0, 57, 0, []), (2, 0, 0, 0, 0, []), (23, 0, 0, 8, 18, []), (19, 0, 0, 76, 1, []), (2, 0, 0, 0, 0, []), (23, 0, 0, 8, 15, []), (6, 1, 0, 0, 0, []), (20, 0, 0, 76, 0, []), (2, 0, 0, 0, 0, []), (6, 1, 0, 0, 0, []), (31, 0, 0, 126, 2, [0, 9, 2]), (2, 0, 0, 0, 0, []), (23, 0, 0, 8, 18, []), (19, 0, 0, 88, 5, []), (2, 0, 0, 0, 0, []), (2, 0, 0, 0, 0, []), (23, 0, 0, 8, 18, []), (24, 0, 0, 8, 12, []), (6, (-1000100), 0, 0, 0, []), (2, 0, 0, 0, 0, []), (23, 0, 0, 8, 19, []), (8, 0, 0, 0, 1, []), (32, 0, 0, 0, 0, []), (2, 0, 0, 0, 0, []), (6, 1, 0, 0, 0, []), (24, 0, 0, 8, 7, []), (6, 0, 0, 0, 0, []), (3, 0, 0, 1, 0, []), (45, 0, 0, 93, 0, [1, 1]), (0, 0, 0, 1, 0, []), (6, 80, 0, 0, 0, []), (20, 0, 0, 107, 3, []), (2, 0, 0, 0, 0, []), (23, 0, 0, 8, 5, []), (0, 0, 0, 1, 0, []), (2, 0, 0, 0, 0, []), (23, 0, 0, 8, 6, []), (0, 0, 0, 1, 0, []), (25, 0, 0, 0, 0, []), (26, 0, 0, 0, 0, []), (16, 1, 0, 1, 0, []), (21, 0, 0, 93, 0, []), (2, 0, 0, 0, 0, []), (31, 0, 0, 173, 1, [0, 9, 8]), (2, 0, 0, 0, 0, []), (2, 0, 0, 0, 0, []), (23, 0, 0, 8, 8, []), (31, 0, 0, 134, 2, [0, 9, 3]), (2, 0, 0, 0, 0, []), (23, 0, 0, 8, 5, []), (6, 6, 0, 0, 0, []), (25, 0, 0, 0, 0, []), (32, 0, 0, 0, 0, [])]
/-- RailOfHeadsModel.isEachOnce.(I)Z -/
def mx_p175 : List mx_Op := [(45, 0, 0, 0, 0, [1, 1, 1, 1]), (6, 0, 0, 0, 0, []), (3, 0, 0, 2, 0, []), (6, 0, 0, 0, 0, []), (3, 0, 0, 3, 0, []), (45, 0, 0, 5, 0, [1, 1, 1, 1]), (0, 0, 0, 3, 0, []), (0, 0, 0, 1, 0, []), (20, 0, 0, 20, 3, []), (0, 0, 0, 2, 0, []), (6, 1, 0, 0, 0, []), (2, 0, 0, 0, 0, []), (23, 0, 0, 8, 25, []), (0, 0, 0, 3, 0, []), (25, 0, 0, 0, 0, []), (8, 0, 0, 0, 5, []), (8, 0, 0, 0, 4, []), (3, 0, 0, 2, 0, []), (16, 1, 0, 3, 0, []), (21, 0, 0, 5, 0, []), (0, 0, 0, 2, 0, []), (6, 1, 0, 0, 0, []), (0, 0, 0, 1, 0, []), (8, 0, 0, 0, 5, []), (6, 1, 0, 0, 0, []), (8, 0, 0, 0, 1, []), (20, 0, 0, 29, 1, []), (6, 1, 0, 0, 0, []), (21, 0, 0, 30, 0, []), (6, 0, 0, 0, 0, []), (32, 0, 0, 0, 1, [])]
/-- RailOfHeadsModel.hung.(II)I -/
def mx_p176 : List mx_Op := [(45, 0, 0, 0, 0, [1, 1, 1, 1, 1, 1, 1, 1]), (2, 0, 0, 0, 0, []), (6, 0, 0, 0, 0, []), (24, 0, 0, 8, 0, []), (2, 0, 0, 0, 0, []), (23, 0, 0, 8, 7, []), (19, 0, 0, 9, 1, []), (6, (-1000002), 0, 0, 0, []), (32, 0, 0, 0, 0, []), (0, 0, 0, 1, 0, []), (31, 0, 0, 147, 1, [1, 0, 1]), (19, 0, 0, 15, 0, []), (0, 0, 0, 2, 0, []), (6, (-1), 0, 0, 0, []), (20, 0, 0, 17, 3, []), (6, (-1000001), 0, 0, 0, []), (32, 0, 0, 0, 0, []), (2, 0, 0, 0, 0, []), (23, 0, 0, 8, 5, []), (6, 4, 0, 0, 0, []), (25, 0, 0, 0, 0, []), (3, 0, 0, 3, 0, []), (0, 0, 0, 3, 0, []), (6, 4, 0, 0, 0, []), (20, 0, 0, 27, 5, []), (6, (-1000000), 0, 0, 0, []), (32, 0, 0, 0, 0, []), (6, 0, 0, 0, 0, []), (3, 0, 0, 4, 0, []), (45, 0, 0, 29, 0, [1, 1, 1, 1, 1, 0, 0, 0]), (0, 0, 0, 4, 0, []), (0, 0, 0, 3, 0, []), (20, 0, 0, 51, 3, []), (2, 0, 0, 0, 0, []), (23, 0, 0, 8, 6, []), (6, 40, 0, 0, 0, []), (6, 2, 0, 0, 0, []), (0, 0, 0, 4, 0, []), (8, 0, 0, 0, 2, []), (8, 0, 0, 0, 0, []), (2, 0, 0, 0, 0, []), (23, 0, 0, 8, 5, []), (6, 40, 0, 0, 0, []), (6, 2, 0, 0, 0, []), (0, 0, 0, 4, 0, []), (8, 0, 0, 0, 2, []), (8, 0, 0, 0, 0, []), (25, 0, 0, 0, 0, []), (26, 0, 0, 0, 0, []), (16, 1, 0, 4, 0, []), (21, 0, 0, 29, 0, []), (2, 0, 0, 0, 0, []), (6, (-1), 0, 0, 0, []), (24, 0, 0, 8, 27, []), (6, 1, 0, 0, 0, []), (3, 0, 0, 4, 0, []), (6, 0, 0, 0, 0, []), (3, 0, 0, 5, 0, []), (45, 0, 0, 58, 0, [1, 1, 1, 1, 1, 1, 0, 0]), (0, 0, 0, 5, 0, []), (0, 0, 0, 3, 0, []), (20, 0, 0, 68, 3, []), (0, 0, 0, 4, 0, []), (0, 0, 0, 3, 0, []), (8, 0, 0, 0, 2, []), (3, 0, 0, 4, 0, []), (16, 1, 0, 5, 0, []), (21, 0, 0, 58, 0, []), (6, 0, 0, 0, 0, []), (3, 0, 0, 5, 0, []), (45, 0, 0, 70, 0, [1, 1, 1, 1, 1, 1, 0, 0]), (0, 0, 0, 5, 0, []), (0, 0, 0, 4, 0, []), (20, 0, 0, 106, 3, []), (0, 0, 0, 5, 0, []), (3, 0, 0, 6, 0, []), (0, 0, 0, 3, 0, []), (6, 1, 0, 0, 0, []), (8, 0, 0, 0, 1, []), (3, 0, 0, 7, 0, []), (45, 0, 0, 80, 0, [1, 1, 1, 1, 1, 1, 1, 1]), (0, 0, 0, 7, 0, []), (19, 0, 0, 96, 2, []), (2, 0, 0, 0, 0, []), (23, 0, 0, 8, 25, []), (0, 0, 0, 7, 0, []), (0, 0, 0, 6, 0, []), (0, 0, 0, 3, 0, []), (9, 0, 0, 0, 1, []), (26, 0, 0, 0, 0, []), (0, 0, 0, 6, 0, []), (0, 0, 0, 3, 0, []), (9, 0, 0, 0, 0, []), (3, 0, 0, 6, 0, []), (16, (-1), 0, 7, 0, []), (21, 0, 0, 80, 0, []), (2, 0, 0, 0, 0, []), (0, 0, 0, 3, 0, []), (31, 0, 0, 175, 2, [1, 9, 4]), (19, 0, 0, 104, 0, []), (2, 0, 0, 0, 0, []), (0, 0, 0, 3, 0, []), (0, 0, 0, 1, 0, []), (31, 0, 0, 162, 3, [0, 9, 5]), (16, 1, 0, 5, 0, []), (21, 0, 0, 70, 0, []), (6, 0, 0, 0, 0, []), (3, 0, 0, 5, 0, []), (45, 0, 0, 108, 0, [1, 0, 1, 1, 0, 1, 0, 0]), (0, 0, 0, 5, 0, []), (0, 0, 0, 3, 0, []), (20, 0, 0, 130, 3, []), (2, 0, 0, 0, 0, []), (23, 0, 0, 8, 5, []), (6, 40, 0, 0, 0, []), (6, 2, 0, 0, 0, []), (0, 0, 0, 5, 0, []), (8, 0, 0, 0, 2, []), (8, 0, 0, 0, 0, []), (2, 0, 0, 0, 0, []), (23, 0, 0, 8, 6, []), (6, 40, 0, 0, 0, []), (6, 2, 0, 0, 0, []), (0, 0, 0, 5, 0, []), (8, 0, 0, 0, 2, []), (8, 0, 0, 0, 0, []), (25, 0, 0, 0, 0, []), (26, 0, 0, 0, 0, []), (16, 1, 0, 5, 0, []), (21, 0, 0, 108, 0, []), (0, 0, 0, 2, 0, []), (19, 0, 0, 135, 3, []), (2, 0, 0, 0, 0, []), (23, 0, 0, 8, 27, []), (21, 0, 0, 144, 0, []), (0, 0, 0, 2, 0, []), (0, 0, 0, 3, 0, []), (20, 0, 0, 143, 3, []), (2, 0, 0, 0, 0, []), (23, 0, 0, 8, 26, []), (0, 0, 0, 2, 0, []), (25, 0, 0, 0, 0, []), (21, 0, 0, 144, 0, []), (6, (-1000000), 0, 0, 0, []), (32, 0, 0, 0, 0, [])]
/-- RailOfHeadsModel.image.(I)I -/
def mx_p177 : List mx_Op := [(45, 0, 0, 0, 0, [1, 1, 1]), (2, 0, 0, 0, 0, []), (6, 0, 0, 0, 0, []), (24, 0, 0, 8, 0, []), (0, 0, 0, 1, 0, []), (14, 0, 0, 0, 0, []), (7, 0, 0, 0, 0, []), (7, 0, 1, 1, 0, []), (31, 0, 0, 115, 3, [1, 0, 6]), (19, 0, 0, 12, 1, []), (6, (-1000001), 0, 0, 0, []), (32, 0, 0, 0, 0, []), (2, 0, 0, 0, 0, []), (23, 0, 0, 8, 7, []), (19, 0, 0, 17, 1, []), (6, (-1000002), 0, 0, 0, []), (32, 0, 0, 0, 0, []), (6, 0, 0, 0, 0, []), (3, 0, 0, 2, 0, []), (45, 0, 0, 19, 0, [1, 1, 1]), (0, 0, 0, 2, 0, []), (6, 80, 0, 0, 0, []), (20, 0, 0, 37, 3, []), (2, 0, 0, 0, 0, []), (23, 0, 0, 8, 29, []), (6, 80, 0, 0, 0, []), (0, 0, 0, 1, 0, []), (8, 0, 0, 0, 2, []), (0, 0, 0, 2, 0, []), (8, 0, 0, 0, 0, []), (2, 0, 0, 0, 0, []), (23, 0, 0, 8, 5, []), (0, 0, 0, 2, 0, []), (25, 0, 0, 0, 0, []), (26, 0, 0, 0, 0, []), (16, 1, 0, 2, 0, []), (21, 0, 0, 19, 0, []), (6, 0, 0, 0, 0, []), (3, 0, 0, 2, 0, []), (45, 0, 0, 39, 0, [1, 1, 1]), (0, 0, 0, 2, 0, []), (6, 421, 0, 0, 0, []), (20, 0, 0, 57, 3, []), (2, 0, 0, 0, 0, []), (23, 0, 0, 8, 30, []), (6, 421, 0, 0, 0, []), (0, 0, 0, 1, 0, []), (8, 0, 0, 0, 2, []), (0, 0, 0, 2, 0, []), (8, 0, 0, 0, 0, []), (2, 0, 0, 0, 0, []), (23, 0, 0, 8, 8, []), (0, 0, 0, 2, 0, []), (25, 0, 0, 0, 0, []), (26, 0, 0, 0, 0, []), (16, 1, 0, 2, 0, []), (21, 0, 0, 39, 0, []), (2, 0, 0, 0, 0, []), (23, 0, 0, 8, 28, []), (0, 0, 0, 1, 0, []), (6, 1, 0, 0, 0, []), (28, 0, 0, 0, 1, []), (6, 1, 0, 0, 0, []), (32, 0, 0, 0, 0, [])]
/-- RailOfHeadsModel.kind.(I)I -/
def mx_p178 : List mx_Op := [(45, 0, 0, 0, 0, [1, 1]), (2, 0, 0, 0, 0, []), (6, 0, 0, 0, 0, []), (24, 0, 0, 8, 0, []), (2, 0, 0, 0, 0, []), (0, 0, 0, 1, 0, []), (31, 0, 0, 116, 2, [1, 9, 2]), (19, 0, 0, 12, 0, []), (2, 0, 0, 0, 0, []), (0, 0, 0, 1, 0, []), (31, 0, 0, 117, 2, [1, 9, 4]), (21, 0, 0, 13, 0, []), (6, (-1000001), 0, 0, 0, []), (32, 0, 0, 0, 0, [])]
/-- RailOfHeadsModel.oneWay.(II)I -/
def mx_p179 : List mx_Op := [(45, 0, 0, 0, 0, [1, 1, 1, 1, 1, 1]), (2, 0, 0, 0, 0, []), (6, 0, 0, 0, 0, []), (24, 0, 0, 8, 0, []), (0, 0, 0, 1, 0, []), (14, 0, 0, 0, 0, []), (7, 0, 0, 0, 0, []), (2, 0, 0, 0, 0, []), (23, 0, 0, 8, 5, []), (6, 3, 0, 0, 0, []), (25, 0, 0, 0, 0, []), (6, 1, 0, 0, 0, []), (8, 0, 0, 0, 1, []), (14, 0, 0, 0, 0, []), (31, 0, 0, 115, 3, [1, 0, 6]), (19, 0, 0, 19, 0, []), (0, 0, 0, 2, 0, []), (31, 0, 0, 147, 1, [1, 0, 1]), (19, 0, 0, 21, 1, []), (6, (-1000001), 0, 0, 0, []), (32, 0, 0, 0, 0, []), (2, 0, 0, 0, 0, []), (0, 0, 0, 2, 0, []), (6, 0, 0, 0, 0, []), (31, 0, 0, 145, 3, [1, 9, 8]), (3, 0, 0, 3, 0, []), (2, 0, 0, 0, 0, []), (23, 0, 0, 8, 5, []), (6, 13, 0, 0, 0, []), (6, 3, 0, 0, 0, []), (0, 0, 0, 1, 0, []), (8, 0, 0, 0, 2, []), (8, 0, 0, 0, 0, []), (6, 2, 0, 0, 0, []), (8, 0, 0, 0, 0, []), (25, 0, 0, 0, 0, []), (3, 0, 0, 4, 0, []), (2, 0, 0, 0, 0, []), (23, 0, 0, 8, 5, []), (6, 13, 0, 0, 0, []), (6, 3, 0, 0, 0, []), (0, 0, 0, 1, 0, []), (8, 0, 0, 0, 2, []), (8, 0, 0, 0, 0, []), (6, 2, 0, 0, 0, []), (8, 0, 0, 0, 0, []), (6, 1, 0, 0, 0, []), (26, 0, 0, 0, 0, []), (2, 0, 0, 0, 0, []), (31, 0, 0, 173, 1, [0, 9, 8]), (2, 0, 0, 0, 0, []), (0, 0, 0, 2, 0, []), (6, 0, 0, 0, 0, []), (31, 0, 0, 145, 3, [1, 9, 8]), (3, 0, 0, 5, 0, []), (2, 0, 0, 0, 0, []), (23, 0, 0, 8, 5, []), (6, 13, 0, 0, 0, []), (6, 3, 0, 0, 0, []), (0, 0, 0, 1, 0, []), (8, 0, 0, 0, 2, []), (8, 0, 0, 0, 0, []), (6, 2, 0, 0, 0, []), (8, 0, 0, 0, 0, []), (0, 0, 0, 4, 0, []), (26, 0, 0, 0, 0, []), (2, 0, 0, 0, 0, []), (31, 0, 0, 173, 1, [0, 9, 8]), (0, 0, 0, 5, 0, []), (0, 0, 0, 3, 0, []), (8, 0, 0, 0, 1, []), (32, 0, 0, 0, 0, [])]
/-- RailOfHeadsModel.picture.(III)I -/
def mx_p180 : List mx_Op := [(45, 0, 0, 0, 0, [1, 1, 1, 1, 1, 1]), (2, 0, 0, 0, 0, []), (6, 0, 0, 0, 0, []), (24, 0, 0, 8, 0, []), (0, 0, 0, 1, 0, []), (14, 0, 0, 0, 0, []), (7, 0, 0, 0, 0, []), (2, 0, 0, 0, 0, []), (23, 0, 0, 8, 5, []), (6, 4, 0, 0, 0, []), (25, 0, 0, 0, 0, []), (6, 1, 0, 0, 0, []), (8, 0, 0, 0, 1, []), (14, 0, 0, 0, 0, []), (31, 0, 0, 115, 3, [1, 0, 6]), (19, 0, 0, 25, 0, []), (0, 0, 0, 2, 0, []), (31, 0, 0, 147, 1, [1, 0, 1]), (19, 0, 0, 25, 0, []), (0, 0, 0, 3, 0, []), (14, 0, 0, 0, 0, []), (7, 0, 0, 0, 0, []), (7, 0, 1, 1, 0, []), (31, 0, 0, 115, 3, [1, 0, 6]), (19, 0, 0, 27, 1, []), (6, (-1000001), 0, 0, 0, []), (32, 0, 0, 0, 0, []), (2, 0, 0, 0, 0, []), (0, 0, 0, 2, 0, []), (6, 0, 0, 0, 0, []), (31, 0, 0, 145, 3, [1, 9, 8]), (3, 0, 0, 4, 0, []), (2, 0, 0, 0, 0, []), (0, 0, 0, 3, 0, []), (19, 0, 0, 37, 1, []), (0, 0, 0, 1, 0, []), (21, 0, 0, 38, 0, []), (6, (-1), 0, 0, 0, []), (24, 0, 0, 8, 22, []), (2, 0, 0, 0, 0, []), (0, 0, 0, 3, 0, []), (6, 1, 0, 0, 0, []), (20, 0, 0, 45, 1, []), (0, 0, 0, 1, 0, []), (21, 0, 0, 46, 0, []), (6, (-1), 0, 0, 0, []), (24, 0, 0, 8, 23, []), (2, 0, 0, 0, 0, []), (0, 0, 0, 2, 0, []), (6, 0, 0, 0, 0, []), (31, 0, 0, 145, 3, [1, 9, 8]), (3, 0, 0, 5, 0, []), (2, 0, 0, 0, 0, []), (6, (-1), 0, 0, 0, []), (24, 0, 0, 8, 22, []), (2, 0, 0, 0, 0, []), (6, (-1), 0, 0, 0, []), (24, 0, 0, 8, 23, []), (0, 0, 0, 3, 0, []), (19, 0, 0, 64, 1, []), (0, 0, 0, 5, 0, []), (0, 0, 0, 4, 0, []), (8, 0, 0, 0, 1, []), (21, 0, 0, 67, 0, []), (0, 0, 0, 4, 0, []), (0, 0, 0, 5, 0, []), (8, 0, 0, 0, 1, []), (32, 0, 0, 0, 0, [])]
/-- RailOfHeadsModel.restore.(I)I -/
def mx_p181 : List mx_Op := [(45, 0, 0, 0, 0, [1, 1, 1]), (2, 0, 0, 0, 0, []), (6, 0, 0, 0, 0, []), (24, 0, 0, 8, 0, []), (0, 0, 0, 1, 0, []), (14, 0, 0, 0, 0, []), (7, 0, 0, 0, 0, []), (7, 0, 1, 1, 0, []), (31, 0, 0, 115, 3, [1, 0, 6]), (19, 0, 0, 12, 1, []), (6, (-1000001), 0, 0, 0, []), (32, 0, 0, 0, 0, []), (2, 0, 0, 0, 0, []), (23, 0, 0, 8, 28, []), (0, 0, 0, 1, 0, []), (27, 0, 0, 0, 1, []), (19, 0, 0, 19, 1, []), (6, (-1000002), 0, 0, 0, []), (32, 0, 0, 0, 0, []), (6, 0, 0, 0, 0, []), (3, 0, 0, 2, 0, []), (45, 0, 0, 21, 0, [1, 1, 1]), (0, 0, 0, 2, 0, []), (6, 80, 0, 0, 0, []), (20, 0, 0, 39, 3, []), (2, 0, 0, 0, 0, []), (23, 0, 0, 8, 5, []), (0, 0, 0, 2, 0, []), (2, 0, 0, 0, 0, []), (23, 0, 0, 8, 29, []), (6, 80, 0, 0, 0, []), (0, 0, 0, 1, 0, []), (8, 0, 0, 0, 2, []), (0, 0, 0, 2, 0, []), (8, 0, 0, 0, 0, []), (25, 0, 0, 0, 0, []), (26, 0, 0, 0, 0, []), (16, 1, 0, 2, 0, []), (21, 0, 0, 21, 0, []), (6, 0, 0, 0, 0, []), (3, 0, 0, 2, 0, []), (45, 0, 0, 41, 0, [1, 1, 1]), (0, 0, 0, 2, 0, []), (6, 421, 0, 0, 0, []), (20, 0, 0, 59, 3, []), (2, 0, 0, 0, 0, []), (23, 0, 0, 8, 8, []), (0, 0, 0, 2, 0, []), (2, 0, 0, 0, 0, []), (23, 0, 0, 8, 30, []), (6, 421, 0, 0, 0, []), (0, 0, 0, 1, 0, []), (8, 0, 0, 0, 2, []), (0, 0, 0, 2, 0, []), (8, 0, 0, 0, 0, []), (25, 0, 0, 0, 0, []), (26, 0, 0, 0, 0, []), (16, 1, 0, 2, 0, []), (21, 0, 0, 41, 0, []), (2, 0, 0, 0, 0, []), (31, 0, 0, 173, 1, [0, 9, 8]), (6, 1, 0, 0, 0, []), (32, 0, 0, 0, 0, [])]
/-- RailOfHeadsModel.room.(II)I -/
def mx_p182 : List mx_Op := [(45, 0, 0, 0, 0, [1, 1, 1]), (2, 0, 0, 0, 0, []), (6, 0, 0, 0, 0, []), (24, 0, 0, 8, 0, []), (2, 0, 0, 0, 0, []), (0, 0, 0, 1, 0, []), (31, 0, 0, 152, 2, [1, 9, 2]), (19, 0, 0, 14, 0, []), (0, 0, 0, 2, 0, []), (14, 0, 0, 0, 0, []), (7, 0, 0, 0, 0, []), (7, 0, 1, 1, 0, []), (31, 0, 0, 115, 3, [1, 0, 6]), (19, 0, 0, 16, 1, []), (6, (-1000001), 0, 0, 0, []), (32, 0, 0, 0, 0, []), (0, 0, 0, 2, 0, []), (19, 0, 0, 25, 1, []), (2, 0, 0, 0, 0, []), (23, 0, 0, 8, 5, []), (6, 7, 0, 0, 0, []), (0, 0, 0, 1, 0, []), (8, 0, 0, 0, 0, []), (25, 0, 0, 0, 0, []), (21, 0, 0, 30, 0, []), (2, 0, 0, 0, 0, []), (2, 0, 0, 0, 0, []), (23, 0, 0, 8, 8, []), (0, 0, 0, 1, 0, []), (31, 0, 0, 135, 3, [1, 9, 5]), (32, 0, 0, 0, 0, [])]
/-- RailOfHeadsModel.row.(III)I -/
def mx_p183 : List mx_Op := [(45, 0, 0, 0, 0, [1, 1, 1, 1, 1]), (2, 0, 0, 0, 0, []), (6, 0, 0, 0, 0, []), (24, 0, 0, 8, 0, []), (0, 0, 0, 1, 0, []), (31, 0, 0, 149, 1, [1, 0, 1]), (19, 0, 0, 16, 0, []), (0, 0, 0, 2, 0, []), (14, 0, 0, 0, 0, []), (7, 0, 0, 0, 0, []), (7, 0, 2, 0, 0, []), (31, 0, 0, 115, 3, [1, 0, 6]), (19, 0, 0, 16, 0, []), (0, 0, 0, 3, 0, []), (6, 40, 0, 0, 0, []), (20, 0, 0, 18, 5, []), (6, (-1000001), 0, 0, 0, []), (32, 0, 0, 0, 0, []), (2, 0, 0, 0, 0, []), (6, 0, 0, 0, 0, []), (24, 0, 0, 8, 1, []), (0, 0, 0, 3, 0, []), (19, 0, 0, 27, 3, []), (2, 0, 0, 0, 0, []), (6, 4, 0, 0, 0, []), (31, 0, 0, 119, 2, [1, 9, 2]), (32, 0, 0, 0, 0, []), (2, 0, 0, 0, 0, []), (23, 0, 0, 8, 2, []), (0, 0, 0, 1, 0, []), (0, 0, 0, 2, 0, []), (26, 0, 0, 0, 0, []), (2, 0, 0, 0, 0, []), (23, 0, 0, 8, 3, []), (0, 0, 0, 1, 0, []), (0, 0, 0, 3, 0, []), (26, 0, 0, 0, 0, []), (6, 0, 0, 0, 0, []), (3, 0, 0, 4, 0, []), (45, 0, 0, 39, 0, [1, 1, 0, 1, 1]), (0, 0, 0, 4, 0, []), (6, 40, 0, 0, 0, []), (20, 0, 0, 54, 3, []), (2, 0, 0, 0, 0, []), (23, 0, 0, 8, 4, []), (6, 40, 0, 0, 0, []), (0, 0, 0, 1, 0, []), (8, 0, 0, 0, 2, []), (0, 0, 0, 4, 0, []), (8, 0, 0, 0, 0, []), (6, 0, 0, 0, 0, []), (26, 0, 0, 0, 0, []), (16, 1, 0, 4, 0, []), (21, 0, 0, 39, 0, []), (0, 0, 0, 3, 0, []), (32, 0, 0, 0, 0, [])]
/-- RailOfHeadsModel.rule.(II)I -/
def mx_p184 : List mx_Op := [(45, 0, 0, 0, 0, [1, 1, 1]), (2, 0, 0, 0, 0, []), (6, 0, 0, 0, 0, []), (24, 0, 0, 8, 0, []), (2, 0, 0, 0, 0, []), (23, 0, 0, 8, 7, []), (19, 0, 0, 9, 1, []), (6, (-1000002), 0, 0, 0, []), (32, 0, 0, 0, 0, []), (0, 0, 0, 1, 0, []), (14, 0, 0, 0, 0, []), (7, 0, 1, 1, 0, []), (7, 0, 20, 0, 0, []), (31, 0, 0, 115, 3, [1, 0, 6]), (19, 0, 0, 21, 0, []), (0, 0, 0, 2, 0, []), (14, 0, 0, 0, 0, []), (7, 0, 0, 0, 0, []), (7, 0, 20, 0, 0, []), (31, 0, 0, 115, 3, [1, 0, 6]), (19, 0, 0, 23, 1, []), (6, (-1000001), 0, 0, 0, []), (32, 0, 0, 0, 0, []), (2, 0, 0, 0, 0, []), (23, 0, 0, 8, 5, []), (6, 0, 0, 0, 0, []), (0, 0, 0, 1, 0, []), (26, 0, 0, 0, 0, []), (2, 0, 0, 0, 0, []), (23, 0, 0, 8, 5, []), (6, 1, 0, 0, 0, []), (0, 0, 0, 2, 0, []), (26, 0, 0, 0, 0, []), (6, 1, 0, 0, 0, []), (32, 0, 0, 0, 0, [])]
/-- RailOfHeadsModel.seen.(II)I -/
def mx_p185 : List mx_Op := [(45, 0, 0, 0, 0, [1, 1, 1]), (2, 0, 0, 0, 0, []), (6, 0, 0, 0, 0, []), (24, 0, 0, 8, 0, []), (2, 0, 0, 0, 0, []), (23, 0, 0, 8, 7, []), (19, 0, 0, 9, 1, []), (6, (-1000002), 0, 0, 0, []), (32, 0, 0, 0, 0, []), (0, 0, 0, 1, 0, []), (31, 0, 0, 147, 1, [1, 0, 1]), (19, 0, 0, 23, 0, []), (0, 0, 0, 2, 0, []), (14, 0, 0, 0, 0, []), (7, 0, 0, 0, 0, []), (7, 0, 2, 0, 0, []), (31, 0, 0, 115, 3, [1, 0, 6]), (19, 0, 0, 23, 0, []), (2, 0, 0, 0, 0, []), (0, 0, 0, 1, 0, []), (0, 0, 0, 2, 0, []), (31, 0, 0, 145, 3, [1, 9, 8]), (21, 0, 0, 24, 0, []), (6, (-1000001), 0, 0, 0, []), (32, 0, 0, 0, 0, [])]
/-- RailOfHeadsModel.set.(III)I -/
def mx_p186 : List mx_Op := [(45, 0, 0, 0, 0, [1, 1, 1, 1]), (2, 0, 0, 0, 0, []), (6, 0, 0, 0, 0, []), (24, 0, 0, 8, 0, []), (0, 0, 0, 1, 0, []), (31, 0, 0, 149, 1, [1, 0, 1]), (19, 0, 0, 9, 1, []), (6, (-1000001), 0, 0, 0, []), (32, 0, 0, 0, 0, []), (2, 0, 0, 0, 0, []), (6, 0, 0, 0, 0, []), (24, 0, 0, 8, 1, []), (2, 0, 0, 0, 0, []), (23, 0, 0, 8, 2, []), (0, 0, 0, 1, 0, []), (25, 0, 0, 0, 0, []), (19, 0, 0, 21, 3, []), (2, 0, 0, 0, 0, []), (6, 1, 0, 0, 0, []), (31, 0, 0, 119, 2, [1, 9, 2]), (32, 0, 0, 0, 0, []), (0, 0, 0, 2, 0, []), (14, 0, 0, 0, 0, []), (7, 0, 0, 0, 0, []), (2, 0, 0, 0, 0, []), (23, 0, 0, 8, 3, []), (0, 0, 0, 1, 0, []), (25, 0, 0, 0, 0, []), (6, 1, 0, 0, 0, []), (8, 0, 0, 0, 1, []), (14, 0, 0, 0, 0, []), (31, 0, 0, 115, 3, [1, 0, 6]), (19, 0, 0, 37, 1, []), (2, 0, 0, 0, 0, []), (6, 2, 0, 0, 0, []), (31, 0, 0, 119, 2, [1, 9, 2]), (32, 0, 0, 0, 0, []), (2, 0, 0, 0, 0, []), (23, 0, 0, 8, 4, []), (6, 40, 0, 0, 0, []), (0, 0, 0, 1, 0, []), (8, 0, 0, 0, 2, []), (0, 0, 0, 2, 0, []), (8, 0, 0, 0, 0, []), (2, 0, 0, 0, 0, []), (23, 0, 0, 8, 2, []), (0, 0, 0, 1, 0, []), (25, 0, 0, 0, 0, []), (19, 0, 0, 52, 1, []), (0, 0, 0, 3, 0, []), (10, 0, 0, 0, 1, []), (21, 0, 0, 62, 0, []), (2, 0, 0, 0, 0, []), (23, 0, 0, 8, 2, []), (0, 0, 0, 1, 0, []), (25, 0, 0, 0, 0, []), (6, 1, 0, 0, 0, []), (20, 0, 0, 61, 1, []), (0, 0, 0, 3, 0, []), (10, 0, 0, 0, 2, []), (21, 0, 0, 62, 0, []), (0, 0, 0, 3, 0, []), (26, 0, 0, 0, 0, []), (2, 0, 0, 0, 0, []), (23, 0, 0, 8, 4, []), (6, 40, 0, 0, 0, []), (0, 0, 0, 1, 0, []), (8, 0, 0, 0, 2, []), (0, 0, 0, 2, 0, []), (8, 0, 0, 0, 0, []), (25, 0, 0, 0, 0, []), (32, 0, 0, 0, 0, [])]
/-- RailOfHeadsModel.status.()I -/
def mx_p187 : List mx_Op := [(45, 0, 0, 0, 0, [1]), (2, 0, 0, 0, 0, []), (6, 0, 0, 0, 0, []), (24, 0, 0, 8, 0, []), (2, 0, 0, 0, 0, []), (23, 0, 0, 8, 1, []), (32, 0, 0, 0, 0, [])]
/-- RailOfHeadsModel.tickets.(II)I -/
def mx_p188 : List mx_Op := [(45, 0, 0, 0, 0, [1, 1, 1]), (2, 0, 0, 0, 0, []), (6, 0, 0, 0, 0, []), (24, 0, 0, 8, 0, []), (0, 0, 0, 1, 0, []), (14, 0, 0, 0, 0, []), (7, 0, 0, 0, 0, []), (2, 0, 0, 0, 0, []), (23, 0, 0, 8, 5, []), (6, 5, 0, 0, 0, []), (25, 0, 0, 0, 0, []), (6, 1, 0, 0, 0, []), (8, 0, 0, 0, 1, []), (14, 0, 0, 0, 0, []), (31, 0, 0, 115, 3, [1, 0, 6]), (19, 0, 0, 33, 0, []), (0, 0, 0, 2, 0, []), (31, 0, 0, 147, 1, [1, 0, 1]), (19, 0, 0, 33, 0, []), (2, 0, 0, 0, 0, []), (6, 56, 0, 0, 0, []), (6, 4, 0, 0, 0, []), (0, 0, 0, 1, 0, []), (8, 0, 0, 0, 2, []), (8, 0, 0, 0, 0, []), (6, 1, 0, 0, 0, []), (8, 0, 0, 0, 0, []), (6, 0, 0, 0, 0, []), (6, 60, 0, 0, 0, []), (0, 0, 0, 2, 0, []), (6, 0, 0, 0, 0, []), (31, 0, 0, 146, 6, [1, 9, 11]), (21, 0, 0, 34, 0, []), (6, (-1000001), 0, 0, 0, []), (32, 0, 0, 0, 0, [])]
/-- RailOfHeadsModel.trace.(I)I -/
def mx_p189 : List mx_Op := [(45, 0, 0, 0, 0, [1, 1]), (2, 0, 0, 0, 0, []), (6, 0, 0, 0, 0, []), (24, 0, 0, 8, 0, []), (0, 0, 0, 1, 0, []), (14, 0, 0, 0, 0, []), (7, 0, 0, 0, 0, []), (2, 0, 0, 0, 0, []), (23, 0, 0, 8, 32, []), (6, 1, 0, 0, 0, []), (8, 0, 0, 0, 1, []), (14, 0, 0, 0, 0, []), (31, 0, 0, 115, 3, [1, 0, 6]), (19, 0, 0, 19, 0, []), (2, 0, 0, 0, 0, []), (23, 0, 0, 8, 31, []), (0, 0, 0, 1, 0, []), (25, 0, 0, 0, 0, []), (21, 0, 0, 20, 0, []), (6, (-1000000), 0, 0, 0, []), (32, 0, 0, 0, 0, [])]
/-- RailOfHeadsModel.visitor.(II)I -/
def mx_p190 : List mx_Op := [(45, 0, 0, 0, 0, [1, 1, 1, 1, 1]), (2, 0, 0, 0, 0, []), (6, 0, 0, 0, 0, []), (24, 0, 0, 8, 0, []), (2, 0, 0, 0, 0, []), (0, 0, 0, 1, 0, []), (31, 0, 0, 116, 2, [1, 9, 2]), (19, 0, 0, 10, 1, []), (6, (-1000001), 0, 0, 0, []), (32, 0, 0, 0, 0, []), (2, 0, 0, 0, 0, []), (23, 0, 0, 8, 8, []), (6, 14, 0, 0, 0, []), (0, 0, 0, 1, 0, []), (8, 0, 0, 0, 2, []), (6, 0, 0, 0, 0, []), (8, 0, 0, 0, 0, []), (25, 0, 0, 0, 0, []), (3, 0, 0, 3, 0, []), (0, 0, 0, 3, 0, []), (19, 0, 0, 23, 3, []), (6, (-1000000), 0, 0, 0, []), (21, 0, 0, 28, 0, []), (2, 0, 0, 0, 0, []), (2, 0, 0, 0, 0, []), (23, 0, 0, 8, 8, []), (0, 0, 0, 1, 0, []), (31, 0, 0, 114, 3, [1, 9, 10]), (3, 0, 0, 4, 0, []), (0, 0, 0, 2, 0, []), (22, 0, 0, 77, 0, [31, 35, 41, 48, 48, 48, 48, 59, 61]), (2, 0, 0, 0, 0, []), (0, 0, 0, 1, 0, []), (31, 0, 0, 110, 2, [1, 9, 4]), (32, 0, 0, 0, 0, []), (0, 0, 0, 3, 0, []), (19, 0, 0, 39, 3, []), (6, (-1000000), 0, 0, 0, []), (21, 0, 0, 40, 0, []), (0, 0, 0, 3, 0, []), (32, 0, 0, 0, 0, []), (0, 0, 0, 3, 0, []), (6, (-2), 0, 0, 0, []), (20, 0, 0, 46, 1, []), (6, 1, 0, 0, 0, []), (21, 0, 0, 47, 0, []), (6, 0, 0, 0, 0, []), (32, 0, 0, 0, 0, []), (2, 0, 0, 0, 0, []), (23, 0, 0, 8, 8, []), (6, 14, 0, 0, 0, []), (0, 0, 0, 1, 0, []), (8, 0, 0, 0, 2, []), (0, 0, 0, 2, 0, []), (8, 0, 0, 0, 0, []), (6, 2, 0, 0, 0, []), (8, 0, 0, 0, 1, []), (25, 0, 0, 0, 0, []), (32, 0, 0, 0, 0, []), (0, 0, 0, 4, 0, []), (32, 0, 0, 0, 0, []), (0, 0, 0, 4, 0, []), (6, (-1000000), 0, 0, 0, []), (20, 0, 0, 66, 1, []), (6, 0, 0, 0, 0, []), (21, 0, 0, 76, 0, []), (2, 0, 0, 0, 0, []), (23, 0, 0, 8, 8, []), (6, 14, 0, 0, 0, []), (0, 0, 0, 1, 0, []), (8, 0, 0, 0, 2, []), (6, 6, 0, 0, 0, []), (8, 0, 0, 0, 0, []), (0, 0, 0, 4, 0, []), (8, 0, 0, 0, 0, []), (25, 0, 0, 0, 0, []), (32, 0, 0, 0, 0, []), (6, (-1000001), 0, 0, 0, []), (32, 0, 0, 0, 0, [])]
/-- RailOfHeadsLaw.law.([I)Z -/
def mx_p191 : List mx_Op := [(45, 0, 0, 0, 0, [1, 1, 1, 1]), (99, 0, 0, 0, 0, []), (17, 0, 0, 0, 0, []), (99, 0, 0, 0, 0, []), (5, 0, 0, 1, 0, []), (99, 0, 0, 0, 0, []), (17, 0, 0, 0, 0, []), (99, 0, 0, 0, 0, []), (5, 0, 0, 2, 0, []), (6, 0, 0, 0, 0, []), (3, 0, 0, 3, 0, []), (45, 0, 0, 11, 0, [1, 1, 1, 1]), (0, 0, 0, 3, 0, []), (2, 0, 0, 0, 0, []), (44, 0, 0, 0, 0, []), (6, 6, 0, 0, 0, []), (8, 0, 0, 0, 1, []), (20, 0, 0, 746, 4, []), (2, 0, 0, 0, 0, []), (0, 0, 0, 3, 0, []), (43, 0, 0, 0, 0, []), (6, 31, 0, 0, 0, []), (8, 0, 0, 0, 3, []), (22, 0, 0, 744, 0, [24, 61, 98, 155, 172, 223, 230, 237, 264, 281, 308, 335, 362, 389, 426, 453, 480, 517, 544, 551, 598, 615, 632, 649, 676, 703, 720, 737]), (2, 0, 0, 1, 0, []), (2, 0, 0, 0, 0, []), (0, 0, 0, 3, 0, []), (6, 1, 0, 0, 0, []), (8, 0, 0, 0, 0, []), (43, 0, 0, 0, 0, []), (2, 0, 0, 0, 0, []), (0, 0, 0, 3, 0, []), (6, 2, 0, 0, 0, []), (8, 0, 0, 0, 0, []), (43, 0, 0, 0, 0, []), (2, 0, 0, 0, 0, []), (0, 0, 0, 3, 0, []), (6, 3, 0, 0, 0, []), (8, 0, 0, 0, 0, []), (43, 0, 0, 0, 0, []), (31, 0, 0, 101, 4, [1, 8, 4]), (2, 0, 0, 2, 0, []), (2, 0, 0, 0, 0, []), (0, 0, 0, 3, 0, []), (6, 1, 0, 0, 0, []), (8, 0, 0, 0, 0, []), (43, 0, 0, 0, 0, []), (2, 0, 0, 0, 0, []), (0, 0, 0, 3, 0, []), (6, 2, 0, 0, 0, []), (8, 0, 0, 0, 0, []), (43, 0, 0, 0, 0, []), (2, 0, 0, 0, 0, []), (0, 0, 0, 3, 0, []), (6, 3, 0, 0, 0, []), (8, 0, 0, 0, 0, []), (43, 0, 0, 0, 0, []), (31, 0, 0, 183, 4, [1, 9, 5]), (20, 0, 0, 744, 0, []), (6, 0, 0, 0, 0, []), (32, 0, 0, 0, 1, []), (2, 0, 0, 1, 0, []), (2, 0, 0, 0, 0, []), (0, 0, 0, 3, 0, []), (6, 1, 0, 0, 0, []), (8, 0, 0, 0, 0, []), (43, 0, 0, 0, 0, []), (2, 0, 0, 0, 0, []), (0, 0, 0, 3, 0, []), (6, 2, 0, 0, 0, []), (8, 0, 0, 0, 0, []), (43, 0, 0, 0, 0, []), (2, 0, 0, 0, 0, []), (0, 0, 0, 3, 0, []), (6, 3, 0, 0, 0, []), (8, 0, 0, 0, 0, []), (43, 0, 0, 0, 0, []), (31, 0, 0, 105, 4, [1, 8, 5]), (2, 0, 0, 2, 0, []), (2, 0, 0, 0, 0, []), (0, 0, 0, 3, 0, []), (6, 1, 0, 0, 0, []), (8, 0, 0, 0, 0, []), (43, 0, 0, 0, 0, []), (2, 0, 0, 0, 0, []), (0, 0, 0, 3, 0, []), (6, 2, 0, 0, 0, []), (8, 0, 0, 0, 0, []), (43, 0, 0, 0, 0, []), (2, 0, 0, 0, 0, []), (0, 0, 0, 3, 0, []), (6, 3, 0, 0, 0, []), (8, 0, 0, 0, 0, []), (43, 0, 0, 0, 0, []), (31, 0, 0, 186, 4, [1, 9, 4]), (20, 0, 0, 744, 0, []), (6, 0, 0, 0, 0, []), (32, 0, 0, 0, 1, []), (2, 0, 0, 1, 0, []), (2, 0, 0, 0, 0, []), (0, 0, 0, 3, 0, []), (6, 1, 0, 0, 0, []), (8, 0, 0, 0, 0, []), (43, 0, 0, 0, 0, []), (2, 0, 0, 0, 0, []), (0, 0, 0, 3, 0, []), (6, 2, 0, 0, 0, []), (8, 0, 0, 0, 0, []), (43, 0, 0, 0, 0, []), (2, 0, 0, 0, 0, []), (0, 0, 0, 3, 0, []), (6, 3, 0, 0, 0, []), (8, 0, 0, 0, 0, []), (43, 0, 0, 0, 0, []), (2, 0, 0, 0, 0, []), (0, 0, 0, 3, 0, []), (6, 4, 0, 0, 0, []), (8, 0, 0, 0, 0, []), (43, 0, 0, 0, 0, []), (2, 0, 0, 0, 0, []), (0, 0, 0, 3, 0, []), (6, 5, 0, 0, 0, []), (8, 0, 0, 0, 0, []), (43, 0, 0, 0, 0, []), (31, 0, 0, 78, 6, [1, 8, 8]), (2, 0, 0, 2, 0, []), (2, 0, 0, 0, 0, []), (0, 0, 0, 3, 0, []), (6, 1, 0, 0, 0, []), (8, 0, 0, 0, 0, []), (43, 0, 0, 0, 0, []), (2, 0, 0, 0, 0, []), (0, 0, 0, 3, 0, []), (6, 2, 0, 0, 0, []), (8, 0, 0, 0, 0, []), (43, 0, 0, 0, 0, []), (2, 0, 0, 0, 0, []), (0, 0, 0, 3, 0, []), (6, 3, 0, 0, 0, []), (8, 0, 0, 0, 0, []), (43, 0, 0, 0, 0, []), (2, 0, 0, 0, 0, []), (0, 0, 0, 3, 0, []), (6, 4, 0, 0, 0, []), (8, 0, 0, 0, 0, []), (43, 0, 0, 0, 0, []), (2, 0, 0, 0, 0, []), (0, 0, 0, 3, 0, []), (6, 5, 0, 0, 0, []), (8, 0, 0, 0, 0, []), (43, 0, 0, 0, 0, []), (31, 0, 0, 150, 6, [1, 9, 9]), (20, 0, 0, 744, 0, []), (6, 0, 0, 0, 0, []), (32, 0, 0, 0, 1, []), (2, 0, 0, 1, 0, []), (2, 0, 0, 0, 0, []), (0, 0, 0, 3, 0, []), (6, 1, 0, 0, 0, []), (8, 0, 0, 0, 0, []), (43, 0, 0, 0, 0, []), (31, 0, 0, 84, 2, [1, 8, 2]), (2, 0, 0, 2, 0, []), (2, 0, 0, 0, 0, []), (0, 0, 0, 3, 0, []), (6, 1, 0, 0, 0, []), (8, 0, 0, 0, 0, []), (43, 0, 0, 0, 0, []), (31, 0, 0, 155, 2, [1, 9, 2]), (20, 0, 0, 744, 0, []), (6, 0, 0, 0, 0, []), (32, 0, 0, 0, 1, []), (2, 0, 0, 1, 0, []), (2, 0, 0, 0, 0, []), (0, 0, 0, 3, 0, []), (6, 1, 0, 0, 0, []), (8, 0, 0, 0, 0, []), (43, 0, 0, 0, 0, []), (14, 0, 0, 0, 0, []), (6, 32, 0, 0, 0, []), (12, 0, 0, 0, 0, []), (2, 0, 0, 0, 0, []), (0, 0, 0, 3, 0, []), (6, 2, 0, 0, 0, []), (8, 0, 0, 0, 0, []), (43, 0, 0, 0, 0, []), (14, 0, 0, 0, 0, []), (7, 0, 4294967295, 0, 0, []), (11, 0, 0, 0, 1, []), (11, 0, 0, 0, 2, []), (2, 0, 0, 0, 0, []), (0, 0, 0, 3, 0, []), (6, 3, 0, 0, 0, []), (8, 0, 0, 0, 0, []), (43, 0, 0, 0, 0, []), (31, 0, 0, 87, 3, [1, 8, 5]), (2, 0, 0, 2, 0, []), (2, 0, 0, 0, 0, []), (0, 0, 0, 3, 0, []), (6, 1, 0, 0, 0, []), (8, 0, 0, 0, 0, []), (43, 0, 0, 0, 0, []), (14, 0, 0, 0, 0, []), (6, 32, 0, 0, 0, []), (12, 0, 0, 0, 0, []), (2, 0, 0, 0, 0, []), (0, 0, 0, 3, 0, []), (6, 2, 0, 0, 0, []), (8, 0, 0, 0, 0, []), (43, 0, 0, 0, 0, []), (14, 0, 0, 0, 0, []), (7, 0, 4294967295, 0, 0, []), (11, 0, 0, 0, 1, []), (11, 0, 0, 0, 2, []), (2, 0, 0, 0, 0, []), (0, 0, 0, 3, 0, []), (6, 3, 0, 0, 0, []), (8, 0, 0, 0, 0, []), (43, 0, 0, 0, 0, []), (31, 0, 0, 158, 3, [1, 9, 5]), (20, 0, 0, 744, 0, []), (6, 0, 0, 0, 0, []), (32, 0, 0, 0, 1, []), (2, 0, 0, 1, 0, []), (31, 0, 0, 92, 1, [1, 8, 1]), (2, 0, 0, 2, 0, []), (31, 0, 0, 174, 1, [1, 9, 2]), (20, 0, 0, 744, 0, []), (6, 0, 0, 0, 0, []), (32, 0, 0, 0, 1, []), (2, 0, 0, 1, 0, []), (31, 0, 0, 86, 1, [1, 8, 1]), (2, 0, 0, 2, 0, []), (31, 0, 0, 157, 1, [1, 9, 1]), (20, 0, 0, 744, 0, []), (6, 0, 0, 0, 0, []), (32, 0, 0, 0, 1, []), (2, 0, 0, 1, 0, []), (2, 0, 0, 0, 0, []), (0, 0, 0, 3, 0, []), (6, 1, 0, 0, 0, []), (8, 0, 0, 0, 0, []), (43, 0, 0, 0, 0, []), (2, 0, 0, 0, 0, []), (0, 0, 0, 3, 0, []), (6, 2, 0, 0, 0, []), (8, 0, 0, 0, 0, []), (43, 0, 0, 0, 0, []), (31, 0, 0, 85, 3, [1, 8, 4]), (2, 0, 0, 2, 0, []), (2, 0, 0, 0, 0, []), (0, 0, 0, 3, 0, []), (6, 1, 0, 0, 0, []), (8, 0, 0, 0, 0, []), (43, 0, 0, 0, 0, []), (2, 0, 0, 0, 0, []), (0, 0, 0, 3, 0, []), (6, 2, 0, 0, 0, []), (8, 0, 0, 0, 0, []), (43, 0, 0, 0, 0, []), (31, 0, 0, 156, 3, [1, 9, 3]), (20, 0, 0, 744, 0, []), (6, 0, 0, 0, 0, []), (32, 0, 0, 0, 1, []), (2, 0, 0, 1, 0, []), (2, 0, 0, 0, 0, []), (0, 0, 0, 3, 0, []), (6, 1, 0, 0, 0, []), (8, 0, 0, 0, 0, []), (43, 0, 0, 0, 0, []), (31, 0, 0, 89, 2, [1, 8, 3]), (2, 0, 0, 2, 0, []), (2, 0, 0, 0, 0, []), (0, 0, 0, 3, 0, []), (6, 1, 0, 0, 0, []), (8, 0, 0, 0, 0, []), (43, 0, 0, 0, 0, []), (31, 0, 0, 161, 2, [1, 9, 3]), (20, 0, 0, 744, 0, []), (6, 0, 0, 0, 0, []), (32, 0, 0, 0, 1, []), (2, 0, 0, 1, 0, []), (2, 0, 0, 0, 0, []), (0, 0, 0, 3, 0, []), (6, 1, 0, 0, 0, []), (8, 0, 0, 0, 0, []), (43, 0, 0, 0, 0, []), (2, 0, 0, 0, 0, []), (0, 0, 0, 3, 0, []), (6, 2, 0, 0, 0, []), (8, 0, 0, 0, 0, []), (43, 0, 0, 0, 0, []), (31, 0, 0, 102, 3, [1, 8, 3]), (2, 0, 0, 2, 0, []), (2, 0, 0, 0, 0, []), (0, 0, 0, 3, 0, []), (6, 1, 0, 0, 0, []), (8, 0, 0, 0, 0, []), (43, 0, 0, 0, 0, []), (2, 0, 0, 0, 0, []), (0, 0, 0, 3, 0, []), (6, 2, 0, 0, 0, []), (8, 0, 0, 0, 0, []), (43, 0, 0, 0, 0, []), (31, 0, 0, 184, 3, [1, 9, 3]), (20, 0, 0, 744, 0, []), (6, 0, 0, 0, 0, []), (32, 0, 0, 0, 1, []), (2, 0, 0, 1, 0, []), (2, 0, 0, 0, 0, []), (0, 0, 0, 3, 0, []), (6, 1, 0, 0, 0, []), (8, 0, 0, 0, 0, []), (43, 0, 0, 0, 0, []), (2, 0, 0, 0, 0, []), (0, 0, 0, 3, 0, []), (6, 2, 0, 0, 0, []), (8, 0, 0, 0, 0, []), (43, 0, 0, 0, 0, []), (31, 0, 0, 109, 3, [1, 8, 5]), (2, 0, 0, 2, 0, []), (2, 0, 0, 0, 0, []), (0, 0, 0, 3, 0, []), (6, 1, 0, 0, 0, []), (8, 0, 0, 0, 0, []), (43, 0, 0, 0, 0, []), (2, 0, 0, 0, 0, []), (0, 0, 0, 3, 0, []), (6, 2, 0, 0, 0, []), (8, 0, 0, 0, 0, []), (43, 0, 0, 0, 0, []), (31, 0, 0, 190, 3, [1, 9, 5]), (20, 0, 0, 744, 0, []), (6, 0, 0, 0, 0, []), (32, 0, 0, 0, 1, []), (2, 0, 0, 1, 0, []), (2, 0, 0, 0, 0, []), (0, 0, 0, 3, 0, []), (6, 1, 0, 0, 0, []), (8, 0, 0, 0, 0, []), (43, 0, 0, 0, 0, []), (2, 0, 0, 0, 0, []), (0, 0, 0, 3, 0, []), (6, 2, 0, 0, 0, []), (8, 0, 0, 0, 0, []), (43, 0, 0, 0, 0, []), (31, 0, 0, 99, 3, [1, 8, 3]), (2, 0, 0, 2, 0, []), (2, 0, 0, 0, 0, []), (0, 0, 0, 3, 0, []), (6, 1, 0, 0, 0, []), (8, 0, 0, 0, 0, []), (43, 0, 0, 0, 0, []), (2, 0, 0, 0, 0, []), (0, 0, 0, 3, 0, []), (6, 2, 0, 0, 0, []), (8, 0, 0, 0, 0, []), (43, 0, 0, 0, 0, []), (31, 0, 0, 182, 3, [1, 9, 3]), (20, 0, 0, 744, 0, []), (6, 0, 0, 0, 0, []), (32, 0, 0, 0, 1, []), (2, 0, 0, 1, 0, []), (2, 0, 0, 0, 0, []), (0, 0, 0, 3, 0, []), (6, 1, 0, 0, 0, []), (8, 0, 0, 0, 0, []), (43, 0, 0, 0, 0, []), (2, 0, 0, 0, 0, []), (0, 0, 0, 3, 0, []), (6, 2, 0, 0, 0, []), (8, 0, 0, 0, 0, []), (43, 0, 0, 0, 0, []), (31, 0, 0, 103, 3, [1, 8, 3]), (2, 0, 0, 2, 0, []), (2, 0, 0, 0, 0, []), (0, 0, 0, 3, 0, []), (6, 1, 0, 0, 0, []), (8, 0, 0, 0, 0, []), (43, 0, 0, 0, 0, []), (2, 0, 0, 0, 0, []), (0, 0, 0, 3, 0, []), (6, 2, 0, 0, 0, []), (8, 0, 0, 0, 0, []), (43, 0, 0, 0, 0, []), (31, 0, 0, 185, 3, [1, 9, 3]), (20, 0, 0, 744, 0, []), (6, 0, 0, 0, 0, []), (32, 0, 0, 0, 1, []), (2, 0, 0, 1, 0, []), (2, 0, 0, 0, 0, []), (0, 0, 0, 3, 0, []), (6, 1, 0, 0, 0, []), (8, 0, 0, 0, 0, []), (43, 0, 0, 0, 0, []), (2, 0, 0, 0, 0, []), (0, 0, 0, 3, 0, []), (6, 2, 0, 0, 0, []), (8, 0, 0, 0, 0, []), (43, 0, 0, 0, 0, []), (2, 0, 0, 0, 0, []), (0, 0, 0, 3, 0, []), (6, 3, 0, 0, 0, []), (8, 0, 0, 0, 0, []), (43, 0, 0, 0, 0, []), (31, 0, 0, 76, 4, [1, 8, 4]), (2, 0, 0, 2, 0, []), (2, 0, 0, 0, 0, []), (0, 0, 0, 3, 0, []), (6, 1, 0, 0, 0, []), (8, 0, 0, 0, 0, []), (43, 0, 0, 0, 0, []), (2, 0, 0, 0, 0, []), (0, 0, 0, 3, 0, []), (6, 2, 0, 0, 0, []), (8, 0, 0, 0, 0, []), (43, 0, 0, 0, 0, []), (2, 0, 0, 0, 0, []), (0, 0, 0, 3, 0, []), (6, 3, 0, 0, 0, []), (8, 0, 0, 0, 0, []), (43, 0, 0, 0, 0, []), (31, 0, 0, 148, 4, [1, 9, 4]), (20, 0, 0, 744, 0, []), (6, 0, 0, 0, 0, []), (32, 0, 0, 0, 1, []), (2, 0, 0, 1, 0, []), (2, 0, 0, 0, 0, []), (0, 0, 0, 3, 0, []), (6, 1, 0, 0, 0, []), (8, 0, 0, 0, 0, []), (43, 0, 0, 0, 0, []), (2, 0, 0, 0, 0, []), (0, 0, 0, 3, 0, []), (6, 2, 0, 0, 0, []), (8, 0, 0, 0, 0, []), (43, 0, 0, 0, 0, []), (31, 0, 0, 107, 3, [1, 8, 7]), (2, 0, 0, 2, 0, []), (2, 0, 0, 0, 0, []), (0, 0, 0, 3, 0, []), (6, 1, 0, 0, 0, []), (8, 0, 0, 0, 0, []), (43, 0, 0, 0, 0, []), (2, 0, 0, 0, 0, []), (0, 0, 0, 3, 0, []), (6, 2, 0, 0, 0, []), (8, 0, 0, 0, 0, []), (43, 0, 0, 0, 0, []), (31, 0, 0, 188, 3, [1, 9, 3]), (20, 0, 0, 744, 0, []), (6, 0, 0, 0, 0, []), (32, 0, 0, 0, 1, []), (2, 0, 0, 1, 0, []), (2, 0, 0, 0, 0, []), (0, 0, 0, 3, 0, []), (6, 1, 0, 0, 0, []), (8, 0, 0, 0, 0, []), (43, 0, 0, 0, 0, []), (2, 0, 0, 0, 0, []), (0, 0, 0, 3, 0, []), (6, 2, 0, 0, 0, []), (8, 0, 0, 0, 0, []), (43, 0, 0, 0, 0, []), (31, 0, 0, 96, 3, [1, 8, 4]), (2, 0, 0, 2, 0, []), (2, 0, 0, 0, 0, []), (0, 0, 0, 3, 0, []), (6, 1, 0, 0, 0, []), (8, 0, 0, 0, 0, []), (43, 0, 0, 0, 0, []), (2, 0, 0, 0, 0, []), (0, 0, 0, 3, 0, []), (6, 2, 0, 0, 0, []), (8, 0, 0, 0, 0, []), (43, 0, 0, 0, 0, []), (31, 0, 0, 179, 3, [1, 9, 6]), (20, 0, 0, 744, 0, []), (6, 0, 0, 0, 0, []), (32, 0, 0, 0, 1, []), (2, 0, 0, 1, 0, []), (2, 0, 0, 0, 0, []), (0, 0, 0, 3, 0, []), (6, 1, 0, 0, 0, []), (8, 0, 0, 0, 0, []), (43, 0, 0, 0, 0, []), (2, 0, 0, 0, 0, []), (0, 0, 0, 3, 0, []), (6, 2, 0, 0, 0, []), (8, 0, 0, 0, 0, []), (43, 0, 0, 0, 0, []), (2, 0, 0, 0, 0, []), (0, 0, 0, 3, 0, []), (6, 3, 0, 0, 0, []), (8, 0, 0, 0, 0, []), (43, 0, 0, 0, 0, []), (31, 0, 0, 97, 4, [1, 8, 5]), (2, 0, 0, 2, 0, []), (2, 0, 0, 0, 0, []), (0, 0, 0, 3, 0, []), (6, 1, 0, 0, 0, []), (8, 0, 0, 0, 0, []), (43, 0, 0, 0, 0, []), (2, 0, 0, 0, 0, []), (0, 0, 0, 3, 0, []), (6, 2, 0, 0, 0, []), (8, 0, 0, 0, 0, []), (43, 0, 0, 0, 0, []), (2, 0, 0, 0, 0, []), (0, 0, 0, 3, 0, []), (6, 3, 0, 0, 0, []), (8, 0, 0, 0, 0, []), (43, 0, 0, 0, 0, []), (31, 0, 0, 180, 4, [1, 9, 6]), (20, 0, 0, 744, 0, []), (6, 0, 0, 0, 0, []), (32, 0, 0, 0, 1, []), (2, 0, 0, 1, 0, []), (2, 0, 0, 0, 0, []), (0, 0, 0, 3, 0, []), (6, 1, 0, 0, 0, []), (8, 0, 0, 0, 0, []), (43, 0, 0, 0, 0, []), (2, 0, 0, 0, 0, []), (0, 0, 0, 3, 0, []), (6, 2, 0, 0, 0, []), (8, 0, 0, 0, 0, []), (43, 0, 0, 0, 0, []), (31, 0, 0, 93, 3, [1, 8, 5]), (2, 0, 0, 2, 0, []), (2, 0, 0, 0, 0, []), (0, 0, 0, 3, 0, []), (6, 1, 0, 0, 0, []), (8, 0, 0, 0, 0, []), (43, 0, 0, 0, 0, []), (2, 0, 0, 0, 0, []), (0, 0, 0, 3, 0, []), (6, 2, 0, 0, 0, []), (8, 0, 0, 0, 0, []), (43, 0, 0, 0, 0, []), (31, 0, 0, 176, 3, [1, 9, 8]), (20, 0, 0, 744, 0, []), (6, 0, 0, 0, 0, []), (32, 0, 0, 0, 1, []), (2, 0, 0, 1, 0, []), (31, 0, 0, 88, 1, [1, 8, 5]), (2, 0, 0, 2, 0, []), (31, 0, 0, 160, 1, [1, 9, 5]), (20, 0, 0, 744, 0, []), (6, 0, 0, 0, 0, []), (32, 0, 0, 0, 1, []), (2, 0, 0, 1, 0, []), (2, 0, 0, 0, 0, []), (0, 0, 0, 3, 0, []), (6, 1, 0, 0, 0, []), (8, 0, 0, 0, 0, []), (43, 0, 0, 0, 0, []), (2, 0, 0, 0, 0, []), (0, 0, 0, 3, 0, []), (6, 2, 0, 0, 0, []), (8, 0, 0, 0, 0, []), (43, 0, 0, 0, 0, []), (2, 0, 0, 0, 0, []), (0, 0, 0, 3, 0, []), (6, 3, 0, 0, 0, []), (8, 0, 0, 0, 0, []), (43, 0, 0, 0, 0, []), (2, 0, 0, 0, 0, []), (0, 0, 0, 3, 0, []), (6, 4, 0, 0, 0, []), (8, 0, 0, 0, 0, []), (43, 0, 0, 0, 0, []), (31, 0, 0, 83, 5, [1, 8, 6]), (2, 0, 0, 2, 0, []), (2, 0, 0, 0, 0, []), (0, 0, 0, 3, 0, []), (6, 1, 0, 0, 0, []), (8, 0, 0, 0, 0, []), (43, 0, 0, 0, 0, []), (2, 0, 0, 0, 0, []), (0, 0, 0, 3, 0, []), (6, 2, 0, 0, 0, []), (8, 0, 0, 0, 0, []), (43, 0, 0, 0, 0, []), (2, 0, 0, 0, 0, []), (0, 0, 0, 3, 0, []), (6, 3, 0, 0, 0, []), (8, 0, 0, 0, 0, []), (43, 0, 0, 0, 0, []), (2, 0, 0, 0, 0, []), (0, 0, 0, 3, 0, []), (6, 4, 0, 0, 0, []), (8, 0, 0, 0, 0, []), (43, 0, 0, 0, 0, []), (31, 0, 0, 154, 5, [1, 9, 9]), (20, 0, 0, 744, 0, []), (6, 0, 0, 0, 0, []), (32, 0, 0, 0, 1, []), (2, 0, 0, 1, 0, []), (2, 0, 0, 0, 0, []), (0, 0, 0, 3, 0, []), (6, 1, 0, 0, 0, []), (8, 0, 0, 0, 0, []), (43, 0, 0, 0, 0, []), (31, 0, 0, 94, 2, [1, 8, 2]), (2, 0, 0, 2, 0, []), (2, 0, 0, 0, 0, []), (0, 0, 0, 3, 0, []), (6, 1, 0, 0, 0, []), (8, 0, 0, 0, 0, []), (43, 0, 0, 0, 0, []), (31, 0, 0, 177, 2, [1, 9, 3]), (20, 0, 0, 744, 0, []), (6, 0, 0, 0, 0, []), (32, 0, 0, 0, 1, []), (2, 0, 0, 1, 0, []), (2, 0, 0, 0, 0, []), (0, 0, 0, 3, 0, []), (6, 1, 0, 0, 0, []), (8, 0, 0, 0, 0, []), (43, 0, 0, 0, 0, []), (31, 0, 0, 98, 2, [1, 8, 2]), (2, 0, 0, 2, 0, []), (2, 0, 0, 0, 0, []), (0, 0, 0, 3, 0, []), (6, 1, 0, 0, 0, []), (8, 0, 0, 0, 0, []), (43, 0, 0, 0, 0, []), (31, 0, 0, 181, 2, [1, 9, 3]), (20, 0, 0, 744, 0, []), (6, 0, 0, 0, 0, []), (32, 0, 0, 0, 1, []), (2, 0, 0, 1, 0, []), (2, 0, 0, 0, 0, []), (0, 0, 0, 3, 0, []), (6, 1, 0, 0, 0, []), (8, 0, 0, 0, 0, []), (43, 0, 0, 0, 0, []), (31, 0, 0, 95, 2, [1, 8, 2]), (2, 0, 0, 2, 0, []), (2, 0, 0, 0, 0, []), (0, 0, 0, 3, 0, []), (6, 1, 0, 0, 0, []), (8, 0, 0, 0, 0, []), (43, 0, 0, 0, 0, []), (31, 0, 0, 178, 2, [1, 9, 2]), (20, 0, 0, 744, 0, []), (6, 0, 0, 0, 0, []), (32, 0, 0, 0, 1, []), (2, 0, 0, 1, 0, []), (2, 0, 0, 0, 0, []), (0, 0, 0, 3, 0, []), (6, 1, 0, 0, 0, []), (8, 0, 0, 0, 0, []), (43, 0, 0, 0, 0, []), (2, 0, 0, 0, 0, []), (0, 0, 0, 3, 0, []), (6, 2, 0, 0, 0, []), (8, 0, 0, 0, 0, []), (43, 0, 0, 0, 0, []), (31, 0, 0, 70, 3, [1, 8, 5]), (2, 0, 0, 2, 0, []), (2, 0, 0, 0, 0, []), (0, 0, 0, 3, 0, []), (6, 1, 0, 0, 0, []), (8, 0, 0, 0, 0, []), (43, 0, 0, 0, 0, []), (2, 0, 0, 0, 0, []), (0, 0, 0, 3, 0, []), (6, 2, 0, 0, 0, []), (8, 0, 0, 0, 0, []), (43, 0, 0, 0, 0, []), (31, 0, 0, 120, 3, [1, 9, 3]), (20, 0, 0, 744, 0, []), (6, 0, 0, 0, 0, []), (32, 0, 0, 0, 1, []), (2, 0, 0, 1, 0, []), (2, 0, 0, 0, 0, []), (0, 0, 0, 3, 0, []), (6, 1, 0, 0, 0, []), (8, 0, 0, 0, 0, []), (43, 0, 0, 0, 0, []), (2, 0, 0, 0, 0, []), (0, 0, 0, 3, 0, []), (6, 2, 0, 0, 0, []), (8, 0, 0, 0, 0, []), (43, 0, 0, 0, 0, []), (31, 0, 0, 71, 3, [1, 8, 3]), (2, 0, 0, 2, 0, []), (2, 0, 0, 0, 0, []), (0, 0, 0, 3, 0, []), (6, 1, 0, 0, 0, []), (8, 0, 0, 0, 0, []), (43, 0, 0, 0, 0, []), (2, 0, 0, 0, 0, []), (0, 0, 0, 3, 0, []), (6, 2, 0, 0, 0, []), (8, 0, 0, 0, 0, []), (43, 0, 0, 0, 0, []), (31, 0, 0, 125, 3, [1, 9, 3]), (20, 0, 0, 744, 0, []), (6, 0, 0, 0, 0, []), (32, 0, 0, 0, 1, []), (2, 0, 0, 1, 0, []), (2, 0, 0, 0, 0, []), (0, 0, 0, 3, 0, []), (6, 1, 0, 0, 0, []), (8, 0, 0, 0, 0, []), (43, 0, 0, 0, 0, []), (31, 0, 0, 108, 2, [1, 8, 2]), (2, 0, 0, 2, 0, []), (2, 0, 0, 0, 0, []), (0, 0, 0, 3, 0, []), (6, 1, 0, 0, 0, []), (8, 0, 0, 0, 0, []), (43, 0, 0, 0, 0, []), (31, 0, 0, 189, 2, [1, 9, 2]), (20, 0, 0, 744, 0, []), (6, 0, 0, 0, 0, []), (32, 0, 0, 0, 1, []), (2, 0, 0, 1, 0, []), (2, 0, 0, 0, 0, []), (0, 0, 0, 3, 0, []), (6, 1, 0, 0, 0, []), (8, 0, 0, 0, 0, []), (43, 0, 0, 0, 0, []), (31, 0, 0, 80, 2, [1, 8, 2]), (2, 0, 0, 2, 0, []), (2, 0, 0, 0, 0, []), (0, 0, 0, 3, 0, []), (6, 1, 0, 0, 0, []), (8, 0, 0, 0, 0, []), (43, 0, 0, 0, 0, []), (31, 0, 0, 151, 2, [1, 9, 4]), (20, 0, 0, 744, 0, []), (6, 0, 0, 0, 0, []), (32, 0, 0, 0, 1, []), (2, 0, 0, 1, 0, []), (31, 0, 0, 106, 1, [1, 8, 1]), (2, 0, 0, 2, 0, []), (31, 0, 0, 187, 1, [1, 9, 1]), (20, 0, 0, 744, 0, []), (6, 0, 0, 0, 0, []), (32, 0, 0, 0, 1, []), (16, 6, 0, 3, 0, []), (21, 0, 0, 11, 0, []), (6, 1, 0, 0, 0, []), (32, 0, 0, 0, 1, [])]
def mx_prT : List (List mx_Op) := [mx_p0, mx_p1, mx_p2, mx_p3, mx_p4, mx_p5, mx_p6, mx_p7, mx_p8, mx_p9, mx_p10, mx_p11, mx_p12, mx_p13, mx_p14, mx_p15, mx_p16, mx_p17, mx_p18, mx_p19, mx_p20, mx_p21, mx_p22, mx_p23, mx_p24, mx_p25, mx_p26, mx_p27, mx_p28, mx_p29, mx_p30, mx_p31, mx_p32, mx_p33, mx_p34, mx_p35, mx_p36, mx_p37, mx_p38, mx_p39, mx_p40, mx_p41, mx_p42, mx_p43, mx_p44, mx_p45, mx_p46, mx_p47, mx_p48, mx_p49, mx_p50, mx_p51, mx_p52, mx_p53, mx_p54, mx_p55, mx_p56, mx_p57, mx_p58, mx_p59, mx_p60, mx_p61, mx_p62, mx_p63, mx_p64, mx_p65, mx_p66, mx_p67, mx_p68, mx_p69, mx_p70, mx_p71, mx_p72, mx_p73, mx_p74, mx_p75, mx_p76, mx_p77, mx_p78, mx_p79, mx_p80, mx_p81, mx_p82, mx_p83, mx_p84, mx_p85, mx_p86, mx_p87, mx_p88, mx_p89, mx_p90, mx_p91, mx_p92, mx_p93, mx_p94, mx_p95, mx_p96, mx_p97, mx_p98, mx_p99, mx_p100, mx_p101, mx_p102, mx_p103, mx_p104, mx_p105, mx_p106, mx_p107, mx_p108, mx_p109, mx_p110, mx_p111, mx_p112, mx_p113, mx_p114, mx_p115, mx_p116, mx_p117, mx_p118, mx_p119, mx_p120, mx_p121, mx_p122, mx_p123, mx_p124, mx_p125, mx_p126, mx_p127, mx_p128, mx_p129, mx_p130, mx_p131, mx_p132, mx_p133, mx_p134, mx_p135, mx_p136, mx_p137, mx_p138, mx_p139, mx_p140, mx_p141, mx_p142, mx_p143, mx_p144, mx_p145, mx_p146, mx_p147, mx_p148, mx_p149, mx_p150, mx_p151, mx_p152, mx_p153, mx_p154, mx_p155, mx_p156, mx_p157, mx_p158, mx_p159, mx_p160, mx_p161, mx_p162, mx_p163, mx_p164, mx_p165, mx_p166, mx_p167, mx_p168, mx_p169, mx_p170, mx_p171, mx_p172, mx_p173, mx_p174, mx_p175, mx_p176, mx_p177, mx_p178, mx_p179, mx_p180, mx_p181, mx_p182, mx_p183, mx_p184, mx_p185, mx_p186, mx_p187, mx_p188, mx_p189, mx_p190, mx_p191]
def mx_pr (y : Nat) : List mx_Op := mx_nthL mx_prT y
def mx_nlT : List Nat := [2, 2, 2, 2, 2, 2, 2, 2, 2, 3, 3, 3, 3, 3, 3, 1, 3, 3, 4, 5, 8, 2, 3, 2, 2, 2, 5, 5, 3, 2, 2, 5, 2, 2, 2, 2, 1, 3, 2, 2, 2, 1, 1, 4, 5, 3, 2, 1, 3, 1, 1, 1, 3, 2, 4, 4, 1, 1, 3, 5, 4, 2, 6, 2, 3, 7, 6, 2, 2, 2, 5, 3, 7, 7, 1, 1, 4, 3, 8, 3, 2, 7, 9, 6, 2, 4, 1, 5, 5, 3, 7, 7, 1, 5, 2, 2, 4, 5, 2, 3, 3, 4, 3, 3, 2, 5, 1, 7, 2, 5, 4, 3, 2, 4, 10, 6, 2, 4, 2, 2, 3, 2, 2, 5, 5, 3, 2, 2, 1, 1, 2, 1, 2, 3, 3, 5, 3, 5, 5, 9, 5, 7, 6, 3, 3, 8, 11, 1, 4, 1, 9, 4, 2, 7, 9, 2, 3, 1, 5, 3, 5, 3, 5, 4, 4, 1, 1, 3, 2, 5, 3, 2, 7, 8, 2, 4, 8, 3, 2, 6, 6, 3, 3, 5, 3, 3, 4, 1, 3, 2, 5, 4]
def mx_nl (y : Nat) : Nat := mx_nth mx_nlT y
def mx_mNT : List MethodName := [yX0_begin, yX0_body10, yX1_kindOf, yX0_body20, yX0_body24, yX0_body21, yX0_body22, yX0_body13, yX0_body14, yX0_size, yX0_body23, yX0_mark, yX0_body11, yX0_body12, yX0_size, yJ6_bitCount_0f7a4, yX1_allMissed, yX1_allSaw, yJ7_fill_53178, yX1_begin, yX1_chooseAim, yX7_isBelow, yX1_enter, yX1_leave, yX1_waitOn, yX1_comeIn, yX1_lookAt, yX1_goAbout, yX1_leastSaw, yX1_passMinute, yX1_takeOver, yX2_seenInDay, yX3_takeOver, yX6_takeOver, yX2_takePlan, yX2_takeAll, yJ0_isLatin1_aae02, yJ3_checkIndex_8e157, yJ0_checkIndex_df160, yJ1_charAt_3b067, yJ0_charAt_5068e, yJ0_coder_7d493, yJ0_length_8abf5, yX3_addDoor, yX3_addGroup, yX3_addPicture, yX3_addRoom, yX3_clear, yX7_isWithin, yX4_passName, yX4_passNumber, yX4_advance, yX4_isWord, yX4_put, yX4_takeWord, yX4_takeNumber, yX4_takeSign, yX4_readRail, yX4_readRooms, yX4_readDoors, yX4_readPictures, yX4_takeLaw, yX4_readGroups, yX4_read, yX6_openDoors, yX6_nextRoom, yX6_measure, yX7_noVisitor, yX7_unfound, yX7_finding, yX7_as, yX7_ask, yX7_bestGuard, yX7_bestRail, yX7_noHouse, yX7_noDay, yX7_bestRule, yX5_holds, yX7_copy, yX7_standingRows, yX7_count, yX7_offBy, yX7_nearestLaw, yX7_counts, yX7_drop, yX7_far, yX7_fault, yX7_feed, yX7_fire, yX7_go, yX7_hangBy, yX7_hangBest, yX7_house, yX7_hung, yX7_image, yX7_kind, yX7_oneWay, yX7_picture, yX7_restore, yX7_room, yX5_make, yX7_row, yX7_rule, yX7_seen, yX5_cut, yX7_set, yX7_status, yX7_tickets, yX7_trace, yX7_visitor, yX8_groupOf, yX8_told, yX8_lawNow, yX8_isOpen, yX8_aim, yX8_in, yX8_isVisitor, yX8_kindOf, yX8_isOf, yX8_finding, yX8_as, yX8_began, yX8_plainSize, yX8_markOf, yX8_sizeOf, yX8_ask, yX8_bad, yX8_byteAt, yX8_isLetter, yX8_isFigure, yX8_next, yX8_begin, yX8_must, yX8_begins, yX8_opens, yX8_inRoom, yX8_holdsOne, yX8_waits, yX8_enters, yX8_looks, yX8_leads, yX8_nextRoom, yX8_goes, yX8_minute, yX8_ones, yX8_dayOf, yX8_bestAt, yX8_isLong, yX8_bestRule, yX8_isRow, yX8_copy, yX8_count, yX8_isRoom, yX8_offBy, yX8_counts, yX8_drop, yX8_far, yX8_fault, yX8_feed, yX8_figures, yX8_fire, yX8_go, yX8_hang, yX8_name, yX8_number, yX8_mustEnd, yX8_readRail, yX8_mustBegin, yX8_readRoom, yX8_readDoor, yX8_readPicture, yX8_lawOf, yX8_readGroup, yX8_layFar, yX8_house, yX8_isEachOnce, yX8_hung, yX8_image, yX8_kind, yX8_oneWay, yX8_picture, yX8_restore, yX8_room, yX8_row, yX8_rule, yX8_seen, yX8_set, yX8_status, yX8_tickets, yX8_trace, yX8_visitor, yL_law]
def mx_mN (y : Nat) : MethodName := mx_mNT.getD y ⟨"", "", ""⟩
def mx_mCT : List ByteArray := [cX0_begin, cX0_body10, cX1_kindOf, cX0_body20, cX0_body24, cX0_body21, cX0_body22, cX0_body13, cX0_body14, cX0_size, cX0_body23, cX0_mark, cX0_body11, cX0_body12, cX0_size, cJ6_bitCount_0f7a4, cX1_allMissed, cX1_allSaw, cJ7_fill_53178, cX1_begin, cX1_chooseAim, cX7_isBelow, cX1_enter, cX1_leave, cX1_waitOn, cX1_comeIn, cX1_lookAt, cX1_goAbout, cX1_leastSaw, cX1_passMinute, cX1_takeOver, cX2_seenInDay, cX3_takeOver, cX6_takeOver, cX2_takePlan, cX2_takeAll, cJ0_isLatin1_aae02, cJ3_checkIndex_8e157, cJ0_checkIndex_df160, cJ1_charAt_3b067, cJ0_charAt_5068e, cJ0_coder_7d493, cJ0_length_8abf5, cX3_addDoor, cX3_addGroup, cX3_addPicture, cX3_addRoom, cX3_clear, cX7_isWithin, cX4_passName, cX4_passNumber, cX4_advance, cX4_isWord, cX4_put, cX4_takeWord, cX4_takeNumber, cX4_takeSign, cX4_readRail, cX4_readRooms, cX4_readDoors, cX4_readPictures, cX4_takeLaw, cX4_readGroups, cX4_read, cX6_openDoors, cX6_nextRoom, cX6_measure, cX7_noVisitor, cX7_unfound, cX7_finding, cX7_as, cX7_ask, cX7_bestGuard, cX7_bestRail, cX7_noHouse, cX7_noDay, cX7_bestRule, cX5_holds, cX7_copy, cX7_standingRows, cX7_count, cX7_offBy, cX7_nearestLaw, cX7_counts, cX7_drop, cX7_far, cX7_fault, cX7_feed, cX7_fire, cX7_go, cX7_hangBy, cX7_hangBest, cX7_house, cX7_hung, cX7_image, cX7_kind, cX7_oneWay, cX7_picture, cX7_restore, cX7_room, cX5_make, cX7_row, cX7_rule, cX7_seen, cX5_cut, cX7_set, cX7_status, cX7_tickets, cX7_trace, cX7_visitor, cX8_groupOf, cX8_told, cX8_lawNow, cX8_isOpen, cX8_aim, cX8_in, cX8_isVisitor, cX8_kindOf, cX8_isOf, cX8_finding, cX8_as, cX8_began, cX8_plainSize, cX8_markOf, cX8_sizeOf, cX8_ask, cX8_bad, cX8_byteAt, cX8_isLetter, cX8_isFigure, cX8_next, cX8_begin, cX8_must, cX8_begins, cX8_opens, cX8_inRoom, cX8_holdsOne, cX8_waits, cX8_enters, cX8_looks, cX8_leads, cX8_nextRoom, cX8_goes, cX8_minute, cX8_ones, cX8_dayOf, cX8_bestAt, cX8_isLong, cX8_bestRule, cX8_isRow, cX8_copy, cX8_count, cX8_isRoom, cX8_offBy, cX8_counts, cX8_drop, cX8_far, cX8_fault, cX8_feed, cX8_figures, cX8_fire, cX8_go, cX8_hang, cX8_name, cX8_number, cX8_mustEnd, cX8_readRail, cX8_mustBegin, cX8_readRoom, cX8_readDoor, cX8_readPicture, cX8_lawOf, cX8_readGroup, cX8_layFar, cX8_house, cX8_isEachOnce, cX8_hung, cX8_image, cX8_kind, cX8_oneWay, cX8_picture, cX8_restore, cX8_room, cX8_row, cX8_rule, cX8_seen, cX8_set, cX8_status, cX8_tickets, cX8_trace, cX8_visitor, cL_law]
def mx_mC (y : Nat) : ByteArray := mx_mCT.getD y ⟨#[]⟩
def mx_mRT : List (Option FieldType) := [none, some .int, some .int, some .int, some .int, some .int, some .int, some .int, some .int, some .int, some .int, some .int, some .int, some .int, some .int, some .int, some .int, some .int, none, none, some .int, some .boolean, some .boolean, none, none, none, none, none, some .int, none, none, some .int, none, none, none, none, some .boolean, some .int, none, some .char, some .char, some .byte, some .int, none, none, none, none, none, some .boolean, none, none, none, some .boolean, none, none, some .int, none, none, none, none, none, some .int, none, none, none, some .int, none, some .boolean, some .int, some .int, some .int, some .int, some .int, some .int, some .boolean, some .boolean, some .int, some .boolean, some .int, some .int, some .int, some .int, some .int, some .int, some .int, some .int, some .int, some .int, some .int, some .int, some .boolean, some .int, some .int, some .int, some .int, some .int, some .int, some .int, some .int, some .int, none, some .int, some .int, some .int, some .int, some .int, some .int, some .int, some .int, some .int, some .int, some .int, some .int, some .boolean, some .int, some .boolean, some .boolean, some .int, some .boolean, some .int, some .int, none, some .int, some .int, some .int, some .int, none, some .int, some .boolean, some .boolean, none, none, none, none, none, some .int, some .boolean, none, none, none, some .boolean, some .int, none, none, some .int, some .int, some .int, some .boolean, some .int, some .boolean, some .int, some .int, some .boolean, some .int, some .int, some .int, some .int, some .int, some .int, some .int, some .int, some .int, none, some .long, some .int, none, none, none, none, none, none, some .int, none, none, some .int, some .boolean, some .int, some .int, some .int, some .int, some .int, some .int, some .int, some .int, some .int, some .int, some .int, some .int, some .int, some .int, some .int, some .boolean]
def mx_mR (y : Nat) : Option FieldType := mx_mRT.getD y none
def mx_onT : List String := ["RailOfHeads$Asks", "RailOfHeads$Crowd", "RailOfHeads$House", "RailOfHeads$Plan", "RailOfHeads$Reader", "RailOfHeads$Row", "RailOfHeads$Ways", "RailOfHeads", "RailOfHeadsModel", "java/lang/String", "java/lang/StringLatin1", "jdk/internal/util/Preconditions", "java/lang/Integer", "java/util/Arrays", "java/lang/Math", "RailOfHeadsLaw"]
def mx_on (k : Nat) : String := mx_onT.getD k ""
def mx_nwT : List (Nat × Nat × Nat) := [(1, 136, 21), (4, 121, 48), (7, 260, 14), (7, 263, 11)]
end
section
/-! ===== what a method does ===== -/
/-- the locals at a method's entry -/
def mx_ent : Nat → List mx_V → mx_Loc
  | 0, _ => []
  | n + 1, [] => none :: mx_ent n []
  | 1, v :: _ => [some v]
  | n + 2, Sum.inr (Sum.inl x) :: as => some (Sum.inr (Sum.inl x)) :: none :: mx_ent n as
  | n + 2, v :: as => some v :: mx_ent (n + 1) as
noncomputable def mx_sem : Nat → List mx_V → mx_S → Option mx_Rt := WellFounded.fix Nat.lt_wfRel.wf (fun y ih as σ => mx_LL (fun y' as' σ' => if h : y' < y then ih y' h as' σ' else none) (mx_pr y) 0 (mx_ent (mx_nl y) as) σ)
noncomputable def mx_E (y : Nat) (y' : Nat) (as : List mx_V) (σ : mx_S) : Option mx_Rt := if y' < y then mx_sem y' as σ else none
noncomputable def mx_H (y h : Nat) (loc : mx_Loc) (σ : mx_S) : Option mx_Rt := mx_LL (mx_E y) (mx_pr y) h loc σ
theorem mx_H_eq (y h : Nat) (loc : mx_Loc) (σ : mx_S) : mx_H y h loc σ = mx_run (mx_E y) (mx_pr y) (mx_H y) 2000 ((mx_pr y).drop (h + 1)) loc [] σ := mx_LL_eq (mx_E y) (mx_pr y) h loc σ
theorem mx_sem_eq (y : Nat) (as : List mx_V) (σ : mx_S) : mx_sem y as σ = mx_run (mx_E y) (mx_pr y) (mx_H y) 2000 ((mx_pr y).drop 1) (mx_ent (mx_nl y) as) [] σ := by
  have h0 : mx_sem y as σ = mx_H y 0 (mx_ent (mx_nl y) as) σ := by
    unfold mx_H mx_sem
    rw [WellFounded.fix_eq]
    congr 1
  rw [h0]
  exact mx_H_eq y 0 _ σ
end
section
/-! ===== the world of the machine, in the kit's words ===== -/
def lw_gd : List Cond := lw_tbl.filter goodWord
theorem lw_gd_of {w : Cond} {k : Nat} (h : (decide (lw_tbl[k]? = some w) && goodWord w) = true) : w ∈ lw_gd := by
  simp only [Bool.and_eq_true, decide_eq_true_eq] at h
  exact List.mem_filter.mpr ⟨List.mem_of_getElem? h.1, h.2⟩
abbrev mx_G : Type := (Nat → Nat → Nat) × va_G × (Nat → ClassId) × Value
def mx_rv (g : mx_G) : mx_V → Value
  | Sum.inl x => .int x
  | Sum.inr (Sum.inl x) => .long x
  | Sum.inr (Sum.inr q) => if q.2 = mx_oQ then g.2.2.2 else .ref (g.1 q.1 q.2)
def mx_fv (g : mx_G) (σ : mx_S) (k o j : Nat) : Value := match mx_fk o j with
  | 2 => .ref (g.1 (mx_pt k o j).1 (mx_pt k o j).2)
  | 3 => if σ k o j = 0 then .null else .ref (g.1 (mx_pt k o j).1 (mx_pt k o j).2)
  | _ => .int (σ k o j)
def mx_nf (o : Nat) : Nat := (mx_nthL mx_fkT o).length
def mx_cell (g : mx_G) (σ : mx_S) (k o : Nat) : va_E := match mx_cO o with
  | 0 => .inl (g.2.2.1 (mx_aT o), mx_aN o, if mx_aT o ≤ 3 then .inl (σ k o) else .inr (.inr (.inr (.inr (fun j => some (g.1 (mx_rA o j).1 (mx_rA o j).2))))))
  | c + 1 => .inr (c, (List.range (mx_nf o)).map (mx_fv g σ k o))
def mx_cs : List (Nat × Nat) := (List.range 55).flatMap (fun o => (List.range (mx_kM o)).map (fun k => (k, o)))
def mx_ws (g : mx_G) (σ : mx_S) : va_W := mx_cs.map (fun q => (g.1 q.1 q.2, mx_cell g σ q.1 q.2))
theorem mx_nth_ge : ∀ (l : List Nat) (n : Nat), l.length ≤ n → mx_nth l n = 0
  | [], _, _ => rfl
  | _ :: _, 0, h => absurd h (by simp)
  | _ :: l, n + 1, h => mx_nth_ge l n (by simpa using h)
theorem mx_kM_lt {k o : Nat} (h : k < mx_kM o) : o < 55 := by
  rcases Nat.lt_or_ge o 55 with q | q
  · exact q
  · rw [mx_kM, mx_nth_ge _ _ (show mx_kMT.length ≤ o from q)] at h
    exact absurd h (Nat.not_lt_zero _)
theorem mx_cs_mem {k o : Nat} (h : k < mx_kM o) : (k, o) ∈ mx_cs := List.mem_flatMap.mpr ⟨o, List.mem_range.mpr (mx_kM_lt h), List.mem_map.mpr ⟨k, List.mem_range.mpr h, rfl⟩⟩
theorem mx_cs_of {q : Nat × Nat} (h : q ∈ mx_cs) : q.1 < mx_kM q.2 := by
  obtain ⟨o, -, h⟩ := List.mem_flatMap.mp h
  obtain ⟨k, hk, rfl⟩ := List.mem_map.mp h
  exact List.mem_range.mp hk
theorem mx_cs_nd : mx_cs.Nodup := by decide +kernel
theorem mx_cs_inj {i j : Nat} {q : Nat × Nat} (h1 : mx_cs[i]? = some q) (h2 : mx_cs[j]? = some q) : i = j := (List.getElem?_inj (List.getElem?_eq_some_iff.mp h1).1 mx_cs_nd).mp (h1.trans h2.symm)
theorem mx_at {k o : Nat} (h : k < mx_kM o) : ∃ i : Nat, mx_cs[i]? = some (k, o) := List.getElem?_of_mem (mx_cs_mem h)
theorem mx_ws_at {g : mx_G} {σ : mx_S} {i k o : Nat} (h : mx_cs[i]? = some (k, o)) : (mx_ws g σ)[i]? = some (g.1 k o, mx_cell g σ k o) := by
  rw [mx_ws, List.getElem?_map, h]
  rfl
theorem mx_ws_set {g : mx_G} {σ τ : mx_S} {i k o : Nat} {e : va_E} (h : mx_cs[i]? = some (k, o)) (he : mx_cell g τ k o = e) (ho : ∀ k' o', (k', o') ≠ (k, o) → mx_cell g τ k' o' = mx_cell g σ k' o') : (mx_ws g σ).set i (g.1 k o, e) = mx_ws g τ := by
  apply List.ext_getElem?
  intro n
  by_cases hn : n = i
  · subst hn
    rw [List.getElem?_set_self (by rw [mx_ws, List.length_map]; exact (List.getElem?_eq_some_iff.mp h).1), mx_ws_at h, he]
  · rw [List.getElem?_set_ne (Ne.symm hn), mx_ws, mx_ws, List.getElem?_map, List.getElem?_map]
    cases hq : mx_cs[n]? with
    | none => rfl
    | some q =>
      obtain ⟨k', o'⟩ := q
      have : (k', o') ≠ (k, o) := fun z => hn (mx_cs_inj (z ▸ hq) h)
      simp only [Option.map_some, ho k' o' this]
def mx_A (g : mx_G) : Nat → Prop := fun a => ∃ k o, k < mx_kM o ∧ a = g.1 k o
def mx_inj (g : mx_G) : Prop := ∀ k o k' o', k < mx_kM o → k' < mx_kM o' → g.1 k o = g.1 k' o' → (k, o) = (k', o')
theorem mx_Dof {g : mx_G} (h : mx_inj g) (σ : mx_S) : va_D (mx_A g) (mx_ws g σ) := by
  have key : ∀ (i : Nat) (p : Nat × va_E), (mx_ws g σ)[i]? = some p → ∃ k o, mx_cs[i]? = some (k, o) ∧ k < mx_kM o ∧ p.1 = g.1 k o := by
    intro i p hp
    rw [mx_ws, List.getElem?_map] at hp
    cases hq : mx_cs[i]? with
    | none => rw [hq] at hp; cases hp
    | some q =>
      rw [hq] at hp
      cases hp
      exact ⟨q.1, q.2, rfl, mx_cs_of (List.mem_of_getElem? hq), rfl⟩
  refine ⟨fun i j p q hi hj hpq => ?_, fun i p hp => ?_⟩
  · obtain ⟨k, o, h1, h2, h3⟩ := key i p hi
    obtain ⟨k', o', h4, h5, h6⟩ := key j q hj
    have := h k o k' o' h2 h5 (by rw [← h3, ← h6]; exact hpq)
    rw [this] at h1
    exact mx_cs_inj h1 h4
  · obtain ⟨k, o, h1, h2, h3⟩ := key i p hp
    exact ⟨k, o, h2, h3⟩
def mx_okV : mx_V → Prop
  | Sum.inr (Sum.inr (k, o)) => k < mx_kM o ∨ ((o = mx_oS ∨ o = mx_oB) ∧ k < 9) ∨ o = mx_oQ ∨ (k = 0 ∧ o = mx_oX)
  | _ => True
theorem mx_rv_ref {g : mx_G} {k o : Nat} (h : k < mx_kM o) : mx_rv g (Sum.inr (Sum.inr (k, o))) = .ref (g.1 k o) := by
  have := mx_kM_lt h
  show (if o = mx_oQ then _ else _) = _
  rw [if_neg (by show ¬ o = 57; omega)]
theorem mx_okV_cell {k o : Nat} (h : mx_okV (Sum.inr (Sum.inr (k, o)))) (ho : o < 55) : k < mx_kM o := by
  rcases h with h | ⟨h | h, -⟩ | h | h
  · exact h
  · exact absurd h (by show ¬ o = 55; omega)
  · exact absurd h (by show ¬ o = 56; omega)
  · exact absurd h (by show ¬ o = 57; omega)
  · exact absurd h.2 (by show ¬ o = 58; omega)
theorem mx_cO_lt {o c : Nat} (h : mx_cO o = c + 1) : o < 55 := by
  rcases Nat.lt_or_ge o 55 with q | q
  · exact q
  · rw [mx_cO, mx_nth_ge _ _ (show mx_cOT.length ≤ o from q)] at h
    cases h
theorem mx_aT_lt {o c : Nat} (h : mx_aT o = c + 1) : o < 55 := by
  rcases Nat.lt_or_ge o 55 with q | q
  · exact q
  · rw [mx_aT, mx_nth_ge _ _ (show mx_aTT.length ≤ o from q)] at h
    cases h
theorem mx_aT_c : ∀ o, o < 55 → (mx_aT o ≠ 0 → mx_cO o = 0) ∧ (mx_cO o ≠ 0 → (mx_cO o - 1 < 9 ∧ mx_nf o = (vwCl.getD (mx_cO o - 1) (RX0, TX0, 0)).2.2)) := by decide +kernel
theorem mx_pt_if (k o j : Nat) : mx_pt k o j = if (mx_nthP (mx_nthL mx_ptT o) j).1 = 1 then (k, (mx_nthP (mx_nthL mx_ptT o) j).2.2) else ((mx_nthP (mx_nthL mx_ptT o) j).2.1, (mx_nthP (mx_nthL mx_ptT o) j).2.2) := by
  unfold mx_pt
  generalize mx_nthP (mx_nthL mx_ptT o) j = e
  obtain ⟨a, b, c⟩ := e
  by_cases h : a = 1
  · subst h; rfl
  · rw [if_neg h]
    split
    · rename_i e2; cases e2; exact absurd rfl h
    · rename_i e2; cases e2; rfl
theorem mx_pt_tab : ∀ o, o < 55 → ∀ j, j < mx_nf o → mx_fk o j = 2 ∨ mx_fk o j = 3 → (if (mx_nthP (mx_nthL mx_ptT o) j).1 = 1 then mx_kM o = mx_kM (mx_nthP (mx_nthL mx_ptT o) j).2.2 else (mx_nthP (mx_nthL mx_ptT o) j).2.1 < mx_kM (mx_nthP (mx_nthL mx_ptT o) j).2.2) := by decide +kernel
theorem mx_pt_ok {k o j : Nat} (hk : k < mx_kM o) (hj : j < mx_nf o) (hf : mx_fk o j = 2 ∨ mx_fk o j = 3) : (mx_pt k o j).1 < mx_kM (mx_pt k o j).2 := by
  have h := mx_pt_tab o (mx_kM_lt hk) j hj hf
  rw [mx_pt_if]
  split at h
  · rename_i e
    rw [if_pos e, ← h]
    exact hk
  · rename_i e
    rw [if_neg e]
    exact h
/-! the locals -/
theorem mx_lo_lt : ∀ {l : mx_Loc} {j : Nat} {w : mx_V}, mx_lo l j = some w → j < l.length
  | [], _, _, h => by cases h
  | _ :: _, 0, _, _ => by simp
  | _ :: l, n + 1, _, h => by
    have := mx_lo_lt (l := l) h
    simp; omega
theorem mx_lo_set : ∀ (l : mx_Loc) (i j : Nat) (v : Option mx_V) (w : mx_V), mx_lo (l.set i v) j = some w → (j = i ∧ v = some w) ∨ (j ≠ i ∧ mx_lo l j = some w)
  | [], _, _, _, _, h => by cases h
  | _ :: _, 0, 0, _, _, h => Or.inl ⟨rfl, h⟩
  | _ :: _, 0, n + 1, _, _, h => Or.inr ⟨by omega, h⟩
  | _ :: _, i + 1, 0, _, _, h => Or.inr ⟨by omega, h⟩
  | _ :: l, i + 1, n + 1, v, w, h => by
    rcases mx_lo_set l i n v w h with ⟨h1, h2⟩ | ⟨h1, h2⟩
    · exact Or.inl ⟨by omega, h2⟩
    · exact Or.inr ⟨by omega, h2⟩
def mx_lg : mx_V → Prop
  | Sum.inr (Sum.inl _) => True
  | _ => False
theorem mx_lo_st1 {l : mx_Loc} {i j : Nat} {v w : mx_V} (h : mx_lo (mx_st1 l i v) j = some w) : (j = i ∧ w = v) ∨ (j ≠ i ∧ mx_lo l j = some w ∧ ¬ (j + 1 = i ∧ mx_lg w)) := by
  cases i with
  | zero =>
    rcases mx_lo_set _ _ _ _ _ h with ⟨h1, h2⟩ | ⟨h1, h2⟩
    · exact Or.inl ⟨h1, (Option.some.inj h2).symm⟩
    · exact Or.inr ⟨h1, h2, fun q => by omega⟩
  | succ i =>
    unfold mx_st1 at h
    dsimp only at h
    split at h
    · rcases mx_lo_set _ _ _ _ _ h with ⟨h1, h2⟩ | ⟨h1, h2⟩
      · exact Or.inl ⟨h1, (Option.some.inj h2).symm⟩
      · rcases mx_lo_set _ _ _ _ _ h2 with ⟨h3, h4⟩ | ⟨h3, h4⟩
        · cases h4
        · exact Or.inr ⟨h1, h4, fun q => by omega⟩
    · rename_i hn
      rcases mx_lo_set _ _ _ _ _ h with ⟨h1, h2⟩ | ⟨h1, h2⟩
      · exact Or.inl ⟨h1, (Option.some.inj h2).symm⟩
      · refine Or.inr ⟨h1, h2, fun q => ?_⟩
        obtain ⟨q1, q2⟩ := q
        have : j = i := by omega
        subst this
        rcases w with x | x | x
        · exact q2
        · exact hn x h2
        · exact q2
theorem mx_lo_kp : ∀ {ts : List Nat} {l : mx_Loc} {j : Nat} {w : mx_V}, mx_lo (mx_kp ts l) j = some w → mx_lo l j = some w
  | [], [], _, _, h => by cases h
  | [], _ :: _, _, _, h => by cases h
  | 0 :: _, [], _, _, h => by cases h
  | 1 :: _, [], _, _, h => by cases h
  | (_ + 2) :: _, [], _, _, h => by cases h
  | 1 :: ts, v :: l, 0, w, h => h
  | 1 :: ts, v :: l, n + 1, w, h => mx_lo_kp (ts := ts) (l := l) h
  | 0 :: ts, v :: l, 0, w, h => by cases h
  | 0 :: ts, v :: l, n + 1, w, h => mx_lo_kp (ts := ts) (l := l) h
  | (_ + 2) :: ts, v :: l, 0, w, h => by cases h
  | (_ + 2) :: ts, v :: l, n + 1, w, h => mx_lo_kp (ts := ts) (l := l) h
def mx_lv (g : mx_G) (ls : Array Slot) (nL : Nat) (loc : mx_Loc) : Prop := ls.size = nL ∧ lv_wf ls ∧ ∀ i v, mx_lo loc i = some v → ls[i]? = some (.val (mx_rv g v))
def mx_al (g : mx_G) (loc : mx_Loc) : List (Nat × Value) := (List.range loc.length).filterMap (fun i => (mx_lo loc i).map (fun v => (i, mx_rv g v)))
theorem mx_al_mem {g : mx_G} {loc : mx_Loc} {i : Nat} {v : mx_V} (h : mx_lo loc i = some v) : (i, mx_rv g v) ∈ mx_al g loc := List.mem_filterMap.mpr ⟨i, List.mem_range.mpr (mx_lo_lt h), by rw [h]; rfl⟩
theorem mx_lv.has {g : mx_G} {ls : Array Slot} {nL : Nat} {loc : mx_Loc} (h : mx_lv g ls nL loc) : lv_has ls nL (mx_al g loc) := by
  refine ⟨h.1, h.2.1, fun q hq => ?_⟩
  obtain ⟨i, -, hi⟩ := List.mem_filterMap.mp hq
  cases hl : mx_lo loc i with
  | none => rw [hl] at hi; cases hi
  | some v => rw [hl] at hi; cases hi; exact h.2.2 i v hl
theorem mx_lg_of {g : mx_G} (hq : g.2.2.2.category = 1) {w : mx_V} (h : (mx_rv g w).category = 2) : mx_lg w := by
  rcases w with x | x | x
  · cases h
  · trivial
  · have h' : (if x.2 = mx_oQ then g.2.2.2 else Value.ref (g.1 x.1 x.2)).category = 2 := h
    split at h'
    · omega
    · cases h'
theorem mx_lv.st1 {g : mx_G} (hq : g.2.2.2.category = 1) {ls : Array Slot} {nL i : Nat} {loc : mx_Loc} {v : mx_V} (h : lv_has ls nL ((i, mx_rv g v) :: (mx_al g loc).filter (fun q => !(q.1 == i) && !(q.1 + 1 == i && q.2.category == 2)))) : mx_lv g ls nL (mx_st1 loc i v) := by
  refine ⟨h.1, h.2.1, fun j w hj => ?_⟩
  rcases mx_lo_st1 hj with ⟨rfl, rfl⟩ | ⟨h1, h2, h3⟩
  · exact h.2.2 (j, mx_rv g w) List.mem_cons_self
  · refine h.2.2 (j, mx_rv g w) (List.mem_cons_of_mem _ (List.mem_filter.mpr ⟨mx_al_mem h2, ?_⟩))
    simp only [Bool.and_eq_true, Bool.not_eq_true', beq_eq_false_iff_ne, Bool.and_eq_false_iff]
    refine ⟨h1, ?_⟩
    by_cases q : j + 1 = i
    · exact Or.inr fun z => h3 ⟨q, mx_lg_of hq z⟩
    · exact Or.inl q
theorem mx_lv.st2 {g : mx_G} (hq : g.2.2.2.category = 1) {ls : Array Slot} {nL i : Nat} {loc : mx_Loc} {v : mx_V} (h : lv_has ls nL ((i, mx_rv g v) :: (mx_al g loc).filter (fun q => !(q.1 == i) && (!(q.1 == i + 1) && !(q.1 + 1 == i && q.2.category == 2))))) : mx_lv g ls nL ((mx_st1 loc i v).set (i + 1) none) := by
  refine ⟨h.1, h.2.1, fun j w hj => ?_⟩
  rcases mx_lo_set _ _ _ _ _ hj with ⟨-, h0⟩ | ⟨h0, hj⟩
  · cases h0
  · rcases mx_lo_st1 hj with ⟨rfl, rfl⟩ | ⟨h1, h2, h3⟩
    · exact h.2.2 (j, mx_rv g w) List.mem_cons_self
    · refine h.2.2 (j, mx_rv g w) (List.mem_cons_of_mem _ (List.mem_filter.mpr ⟨mx_al_mem h2, ?_⟩))
      simp only [Bool.and_eq_true, Bool.not_eq_true', beq_eq_false_iff_ne, Bool.and_eq_false_iff]
      refine ⟨h1, h0, ?_⟩
      by_cases q : j + 1 = i
      · exact Or.inr fun z => h3 ⟨q, mx_lg_of hq z⟩
      · exact Or.inl q
/-! what an update does to the cells -/
theorem mx_up_o {σ : mx_S} {k o j : Nat} {x : Int32} {k' o' : Nat} (h : (k', o') ≠ (k, o)) : mx_up σ k o j x k' o' = σ k' o' := by
  funext j'
  show (if k' = k ∧ o' = o ∧ j' = j then x else σ k' o' j') = _
  rw [if_neg (fun q => h (by rw [q.1, q.2.1]))]
theorem mx_up_s {σ : mx_S} {k o j : Nat} {x : Int32} : mx_up σ k o j x k o = upd (σ k o) j x := by
  funext j'
  show (if k = k ∧ o = o ∧ j' = j then x else σ k o j') = if j' = j then x else σ k o j'
  by_cases h : j' = j
  · rw [if_pos ⟨rfl, rfl, h⟩, if_pos h]
  · rw [if_neg (fun q => h q.2.2), if_neg h]
theorem mx_cell_congr {g : mx_G} {σ τ : mx_S} {k o : Nat} (h : τ k o = σ k o) : mx_cell g τ k o = mx_cell g σ k o := by
  have e : mx_fv g τ k o = mx_fv g σ k o := by
    funext j
    unfold mx_fv
    rw [h]
  unfold mx_cell
  rw [e, h]
end
section
/-! ===== each instruction of the machine is the bytecode's ===== -/
def mx_cl (a : Nat) : vw_C := vwCl.getD a (RX0, TX0, 0)
theorem mx_cl_at {a : Nat} (h : a < 9) : vwCl[a]? = some (mx_cl a) := by
  rcases (show a = 0 ∨ a = 1 ∨ a = 2 ∨ a = 3 ∨ a = 4 ∨ a = 5 ∨ a = 6 ∨ a = 7 ∨ a = 8 by omega) with rfl | rfl | rfl | rfl | rfl | rfl | rfl | rfl | rfl <;> rfl
def mx_tyf (a k : Nat) : FieldType := (parseFieldDescriptor ((mx_cl a).2.1 k).2.2.1).getD .int
theorem mx_ty_ok : ∀ a, a < 9 → ∀ k, k < (mx_cl a).2.2 → parseFieldDescriptor ((mx_cl a).2.1 k).2.2.1 = some (mx_tyf a k) := by decide +kernel
theorem mx_nm_ok : ∀ a, a < 9 → ∀ j, j < (mx_cl a).2.2 → ∀ k, k < (mx_cl a).2.2 → j ≠ k → ((mx_cl a).2.1 j).2.1 ≠ ((mx_cl a).2.1 k).2.1 := by decide +kernel
theorem mx_uw : ∀ a, a < 9 → ∀ w ∈ u_ws (mx_cl a).1 (mx_cl a).2.1 (mx_cl a).2.2, w ∈ lw_gd := by decide +kernel
/-- the kind of a field is its type's -/
theorem mx_fk_0 : ∀ o, o < 55 → mx_cO o ≠ 0 → ∀ j, j < mx_nf o → mx_fk o j = 0 → mx_tyf (mx_cO o - 1) j = .int := by decide +kernel
theorem mx_fk_1 : ∀ o, o < 55 → mx_cO o ≠ 0 → ∀ j, j < mx_nf o → mx_fk o j = 1 → mx_tyf (mx_cO o - 1) j = .boolean := by decide +kernel
theorem mx_fk_3 : ∀ o, o < 55 → mx_cO o ≠ 0 → ∀ j, j < mx_nf o → mx_fk o j = 3 → mx_tyf (mx_cO o - 1) j = .object RX3 := by decide +kernel
theorem mx_fk_f : ∀ o, o < 55 → mx_cO o ≠ 0 → ∀ j, j < mx_nf o → mx_fk o j ≠ 2 → ((mx_cl (mx_cO o - 1)).2.1 j).2.2.2 = false := by decide +kernel
def mx_tys (g : mx_G) : List (ClassId × FieldType) := [(g.2.2.1 1, .int), (g.2.2.1 2, .byte), (g.2.2.1 3, .boolean), (g.2.2.1 4, .object RX5), (g.2.2.1 5, .object RX2)]
def mx_sPT : List Nat := [55, 73, 83, 91, 97, 103, 125, 127, 129]
def mx_sX (k : Nat) : String := (["rail", "room", "door", "one", "picture", "group", "first", "draw", "round"] : List String).getD k ""
theorem mx_sB_at : ∀ k, k < 9 → ∀ j, j < mx_sN k → (mx_sT.getD k []).getD j 0 = mx_sB k j := by decide +kernel
theorem mx_sN_at : ∀ k, k < 9 → mx_sNT.getD k 0 = mx_sN k := by decide +kernel
/-- what stands fast: the tables, the constants, the script -/
def mx_Fx (g : mx_G) (L : Nat) (xs : Nat → Int32) (U : State) : Prop :=
  va_K g.2.1 vwCl (mx_tys g) U ∧ vk_S 9 mx_sNT mx_sT (fun k => g.1 k mx_oS) (fun k => g.1 k mx_oB) (mx_A g) U U.heap ∧ (∀ k, k < 9 → vk_R RX4 (mx_nth mx_sPT k) (mx_sX k) (g.1 k mx_oS) U) ∧ va_Z "java/lang/String" "COMPACT_STRINGS" "Z" (.int 1) (mx_A g) U U.heap ∧ va_Z "jdk/internal/util/Preconditions" "SIOOBE_FORMATTER" "Ljava/util/function/BiFunction;" g.2.2.2 (mx_A g) U U.heap ∧ va_X (g.1 0 mx_oX) L xs U U.heap ∧ g.1 0 mx_oX < U.heap.size ∧ ¬ mx_A g (g.1 0 mx_oX) ∧ ∀ t ∈ mx_nwT, va_Nw (.methodLinkNest (mx_on t.1) t.2.1 (mx_mN t.2.2) "RailOfHeads") U
theorem mx_Fx.same {g : mx_G} {L : Nat} {xs : Nat → Int32} {u U : State} (hv : U.vm = u.vm) (hh : U.heap = u.heap) (h : mx_Fx g L xs u) : mx_Fx g L xs U := by
  obtain ⟨h1, h2, h3, h4, h5, h6, h7, h8, h9⟩ := h
  have ha : u.vm.Alike U.vm := by rw [hv]; exact Vm.Alike.refl u.vm
  refine ⟨h1.moved ha, ?_, fun k hk => (h3 k hk).same hv, ?_, ?_, ?_, by rw [hh]; exact h7, h8, fun t ht => (h9 t ht).same rfl hv.symm⟩
  · rw [hh]; exact h2.moved ha
  · rw [hh]; exact h4.moved ha
  · rw [hh]; exact h5.moved ha
  · rw [hh]; exact h6.moved ha
theorem mx_Fx.warm {g : mx_G} {L : Nat} {xs : Nat → Int32} {s U : State} {H : Heap} {locs : List Loc} (hW : s.WarmedH U.vm) (hh : U.heap = H) (hS : va_S (mx_A g) s.heap H locs) (h : mx_Fx g L xs s) : mx_Fx g L xs U := by
  obtain ⟨h1, h2, h3, h4, h5, h6, h7, h8, h9⟩ := h
  subst hh
  exact ⟨h1.moved hW.alike, (h2.kept hS.2.1).moved hW.alike, fun k hk => (h3 k hk).warm hW, (h4.kept hS.2.1).moved hW.alike, (h5.kept hS.2.1).moved hW.alike, (h6.kept (hS.2.1 _ h7 h8)).moved hW.alike, Nat.lt_of_lt_of_le h7 hS.1, h8, fun t ht => va_Nw.warmM hW (h9 t ht)⟩
def mx_sc (L : Nat) (xs : Nat → Int32) (σ : mx_S) : Prop := σ 0 mx_oX 0 = Int32.ofNat L ∧ ∀ j, j < L → σ 1 mx_oX j = xs j
def mx_Cx (p : Program) (R : Room) (s : State) (m : MethodId) (args : Array Value) (c : Code) (cells slots : Nat) (cc : ByteArray) (nL : Nat) (own : String) (g : mx_G) (L : Nat) (xs : Nat → Int32) (Y : Nat) : Prop :=
  p.tables.exec = Jvm.exec ∧ c.code = cc ∧ c.maxLocals = nL ∧ s.vm.findClass own = some m.cls ∧ (∀ w ∈ lw_gd, w.before args s = true) ∧ mx_Fx g L xs s ∧ mx_inj g ∧ g.2.2.2.category = 1 ∧ (cells ≤ R.cells ∧ slots ≤ R.slots) ∧ L < 2 ^ 31 ∧ (1 ≤ R.frames ∧ 100 ≤ R.locals) ∧ (∀ y', y' < Y → y' + 3 ≤ R.frames ∧ 8 + (mx_nl y' + 11) + 100 * (y' + 2) ≤ R.locals)
def mx_W (p : Program) (l : Launch) (e : Env) (R : Room) (s : State) (m : MethodId) (args : Array Value) (below : List Frame) (meth : Method) (c : Code) (cells slots : Nat) (Q : State → Prop) (nL : Nat) (g : mx_G) (L : Nat) (xs : Nat → Int32) (pc : Nat) (loc : mx_Loc) (stk : List mx_V) (σ : mx_S) : Prop :=
  ∀ (H : Heap) (ls : Array Slot) (locs : List Loc), va_P g.2.1 vwCl (mx_ws g σ) H → va_S (mx_A g) s.heap H locs → mx_lv g ls nL loc → (∀ v ∈ stk, mx_okV v) → (∀ i v, mx_lo loc i = some v → mx_okV v) → mx_sc L xs σ → W p l e R s m args below meth c H locs cells slots Q (F0 m pc ls (stk.map (mx_rv g)))
section Sd
variable {p : Program} {l : Launch} {e : Env} {R : Room} {s : State} {m : MethodId} {args : Array Value} {below : List Frame} {meth : Method} {c : Code} {cells slots : Nat} {Q : State → Prop} {cc : ByteArray} {nL : Nat} {own : String} {g : mx_G} {L : Nat} {xs : Nat → Int32} {pc npc a b x0 Y : Nat} {loc : mx_Loc} {stk r : List mx_V} {σ : mx_S} {x y im : Int32} {u w jm : Int64}
theorem sd_iload (C : mx_Cx p R s m args c cells slots cc nL own g L xs Y) (hd : decode cc pc = .ok (.iload a, 2) ∧ npc = pc + 2 ∨ a < 4 ∧ decode cc pc = .ok (.iload_n (Fin.ofNat 4 a), 1) ∧ npc = pc + 1) (hl : mx_lo loc a = some (Sum.inl x)) (k : mx_W p l e R s m args below meth c cells slots Q nL g L xs npc loc (Sum.inl x :: stk) σ) : mx_W p l e R s m args below meth c cells slots Q nL g L xs pc loc stk σ := by
  obtain ⟨hx, hb, -⟩ := C
  intro H ls locs hP hS hv hs hlo hc
  have hl' : ls[a]? = some (.val (.int x)) := hv.2.2 a _ hl
  have kk := k H ls locs hP hS hv (List.forall_mem_cons.mpr ⟨trivial, hs⟩) hlo hc
  rcases hd with ⟨hd, rfl⟩ | ⟨ha, hd, rfl⟩
  · exact lv_iload hx hb hd hl' kk
  · exact lv_iload_n hx hb hd (by simp [Fin.ofNat]; omega) hl' kk
theorem sd_lload (C : mx_Cx p R s m args c cells slots cc nL own g L xs Y) (hd : decode cc pc = .ok (.lload a, 2) ∧ npc = pc + 2 ∨ a < 4 ∧ decode cc pc = .ok (.lload_n (Fin.ofNat 4 a), 1) ∧ npc = pc + 1) (hl : mx_lo loc a = some (Sum.inr (Sum.inl u))) (k : mx_W p l e R s m args below meth c cells slots Q nL g L xs npc loc (Sum.inr (Sum.inl u) :: stk) σ) : mx_W p l e R s m args below meth c cells slots Q nL g L xs pc loc stk σ := by
  obtain ⟨hx, hb, -⟩ := C
  intro H ls locs hP hS hv hs hlo hc
  have hl' : ls[a]? = some (.val (.long u)) := hv.2.2 a _ hl
  have kk := k H ls locs hP hS hv (List.forall_mem_cons.mpr ⟨trivial, hs⟩) hlo hc
  rcases hd with ⟨hd, rfl⟩ | ⟨ha, hd, rfl⟩
  · exact lv_lload hx hb hd hl' kk
  · exact lv_lload_n hx hb hd (by simp [Fin.ofNat]; omega) hl' kk
theorem sd_aload (C : mx_Cx p R s m args c cells slots cc nL own g L xs Y) {q : Nat × Nat} (hd : decode cc pc = .ok (.aload a, 2) ∧ npc = pc + 2 ∨ a < 4 ∧ decode cc pc = .ok (.aload_n (Fin.ofNat 4 a), 1) ∧ npc = pc + 1) (hq : q.2 ≠ mx_oQ) (hl : mx_lo loc a = some (Sum.inr (Sum.inr q))) (k : mx_W p l e R s m args below meth c cells slots Q nL g L xs npc loc (Sum.inr (Sum.inr q) :: stk) σ) : mx_W p l e R s m args below meth c cells slots Q nL g L xs pc loc stk σ := by
  obtain ⟨hx, hb, -⟩ := C
  intro H ls locs hP hS hv hs hlo hc
  have e0 : mx_rv g (Sum.inr (Sum.inr q)) = .ref (g.1 q.1 q.2) := if_neg hq
  have hl' : ls[a]? = some (.val (.ref (g.1 q.1 q.2))) := by rw [← e0]; exact hv.2.2 a _ hl
  have kk := k H ls locs hP hS hv (List.forall_mem_cons.mpr ⟨hlo a _ hl, hs⟩) hlo hc
  rw [List.map_cons, e0] at kk
  rcases hd with ⟨hd, rfl⟩ | ⟨ha, hd, rfl⟩
  · exact lv_aload hx hb hd hl' kk
  · exact lv_aload_n hx hb hd (by simp [Fin.ofNat]; omega) hl' kk
theorem mx_ok_st1 {v : mx_V} (hlo : ∀ i v, mx_lo loc i = some v → mx_okV v) (hv : mx_okV v) : ∀ i w, mx_lo (mx_st1 loc a v) i = some w → mx_okV w := by
  intro i w h
  rcases mx_lo_st1 h with ⟨-, rfl⟩ | ⟨-, h, -⟩
  · exact hv
  · exact hlo i w h
theorem sd_istore (C : mx_Cx p R s m args c cells slots cc nL own g L xs Y) (ha : a < nL) (hd : decode cc pc = .ok (.istore a, 2) ∧ npc = pc + 2 ∨ a < 4 ∧ decode cc pc = .ok (.istore_n (Fin.ofNat 4 a), 1) ∧ npc = pc + 1) (k : mx_W p l e R s m args below meth c cells slots Q nL g L xs npc (mx_st1 loc a (Sum.inl x)) r σ) : mx_W p l e R s m args below meth c cells slots Q nL g L xs pc loc (Sum.inl x :: r) σ := by
  obtain ⟨hx, hb, -, -, -, -, -, hq, -⟩ := C
  intro H ls locs hP hS hv hs hlo hc
  obtain ⟨-, hs⟩ := List.forall_mem_cons.mp hs
  rcases hd with ⟨hd, rfl⟩ | ⟨ha4, hd, rfl⟩
  · exact lv_istore hx hb hd hv.has ha rfl (fun ls' h' => k H ls' locs hP hS (mx_lv.st1 (v := Sum.inl x) hq h') hs (mx_ok_st1 hlo trivial) hc)
  · exact lv_istore_n hx hb hd (by simp [Fin.ofNat]; omega) hv.has ha rfl (fun ls' h' => k H ls' locs hP hS (mx_lv.st1 (v := Sum.inl x) hq h') hs (mx_ok_st1 hlo trivial) hc)
theorem sd_astore (C : mx_Cx p R s m args c cells slots cc nL own g L xs Y) {q : Nat × Nat} (ha : a < nL) (hd : decode cc pc = .ok (.astore a, 2) ∧ npc = pc + 2 ∨ a < 4 ∧ decode cc pc = .ok (.astore_n (Fin.ofNat 4 a), 1) ∧ npc = pc + 1) (hq0 : q.2 ≠ mx_oQ) (k : mx_W p l e R s m args below meth c cells slots Q nL g L xs npc (mx_st1 loc a (Sum.inr (Sum.inr q))) r σ) : mx_W p l e R s m args below meth c cells slots Q nL g L xs pc loc (Sum.inr (Sum.inr q) :: r) σ := by
  obtain ⟨hx, hb, -, -, -, -, -, hq, -⟩ := C
  intro H ls locs hP hS hv hs hlo hc
  obtain ⟨h0, hs⟩ := List.forall_mem_cons.mp hs
  have e0 : mx_rv g (Sum.inr (Sum.inr q)) = .ref (g.1 q.1 q.2) := if_neg hq0
  rw [List.map_cons, e0]
  rcases hd with ⟨hd, rfl⟩ | ⟨ha4, hd, rfl⟩
  · exact lv_astore hx hb hd hv.has ha rfl (fun ls' h' => k H ls' locs hP hS (mx_lv.st1 (v := Sum.inr (Sum.inr q)) hq (by rw [e0]; exact h')) hs (mx_ok_st1 hlo h0) hc)
  · exact lv_astore_n hx hb hd (by simp [Fin.ofNat]; omega) hv.has ha rfl (fun ls' h' => k H ls' locs hP hS (mx_lv.st1 (v := Sum.inr (Sum.inr q)) hq (by rw [e0]; exact h')) hs (mx_ok_st1 hlo h0) hc)
theorem sd_lstore (C : mx_Cx p R s m args c cells slots cc nL own g L xs Y) (ha : a + 1 < nL) (hd : decode cc pc = .ok (.lstore a, 2) ∧ npc = pc + 2 ∨ a < 4 ∧ decode cc pc = .ok (.lstore_n (Fin.ofNat 4 a), 1) ∧ npc = pc + 1) (k : mx_W p l e R s m args below meth c cells slots Q nL g L xs npc ((mx_st1 loc a (Sum.inr (Sum.inl u))).set (a + 1) none) r σ) : mx_W p l e R s m args below meth c cells slots Q nL g L xs pc loc (Sum.inr (Sum.inl u) :: r) σ := by
  obtain ⟨hx, hb, -, -, -, -, -, hq, -⟩ := C
  intro H ls locs hP hS hv hs hlo hc
  obtain ⟨-, hs⟩ := List.forall_mem_cons.mp hs
  have ho : ∀ i w, mx_lo ((mx_st1 loc a (Sum.inr (Sum.inl u))).set (a + 1) none) i = some w → mx_okV w := by
    intro i w h
    rcases mx_lo_set _ _ _ _ _ h with ⟨-, h⟩ | ⟨-, h⟩
    · cases h
    · exact mx_ok_st1 (v := Sum.inr (Sum.inl u)) hlo trivial i w h
  rcases hd with ⟨hd, rfl⟩ | ⟨ha4, hd, rfl⟩
  · exact lv_lstore hx hb hd hv.has ha rfl (fun ls' h' => k H ls' locs hP hS (mx_lv.st2 (v := Sum.inr (Sum.inl u)) hq h') hs ho hc)
  · exact lv_lstore_n hx hb hd (by simp [Fin.ofNat]; omega) hv.has ha rfl (fun ls' h' => k H ls' locs hP hS (mx_lv.st2 (v := Sum.inr (Sum.inl u)) hq h') hs ho hc)
theorem sd_const (C : mx_Cx p R s m args c cells slots cc nL own g L xs Y) (hd : (decode cc pc = .ok (.iconst im.toInt, 1) ∧ npc = pc + 1) ∨ (decode cc pc = .ok (.bipush im.toInt, 2) ∧ (Int8.ofInt im.toInt).toInt32 = im ∧ npc = pc + 2) ∨ (decode cc pc = .ok (.sipush im.toInt, 3) ∧ (Int16.ofInt im.toInt).toInt32 = im ∧ npc = pc + 3) ∨ (decode cc pc = .ok (.ldc x0, 2) ∧ Cond.constant own x0 im ∈ lw_gd ∧ npc = pc + 2) ∨ (decode cc pc = .ok (.ldc_w x0, 3) ∧ Cond.constant own x0 im ∈ lw_gd ∧ npc = pc + 3)) (k : mx_W p l e R s m args below meth c cells slots Q nL g L xs npc loc (Sum.inl im :: stk) σ) : mx_W p l e R s m args below meth c cells slots Q nL g L xs pc loc stk σ := by
  obtain ⟨hx, hb, -, hown, hts, -⟩ := C
  intro H ls locs hP hS hv hs hlo hc
  have kk := k H ls locs hP hS hv (List.forall_mem_cons.mpr ⟨trivial, hs⟩) hlo hc
  rcases hd with ⟨hd, rfl⟩ | ⟨hd, h1, rfl⟩ | ⟨hd, h1, rfl⟩ | ⟨hd, h1, rfl⟩ | ⟨hd, h1, rfl⟩
  · exact lv_iconst hx hb hd (by simp) kk
  · exact lv_bipush hx hb hd h1 kk
  · exact lv_sipush hx hb hd h1 kk
  · exact lv_ldc hx hb hown (hts _ h1) hd kk
  · exact lv_ldcw hx hb hown (hts _ h1) hd kk
theorem sd_lconst (C : mx_Cx p R s m args c cells slots cc nL own g L xs Y) (hd : (decode cc pc = .ok (.lconst (Fin.ofNat 2 a), 1) ∧ Int64.ofNat (Fin.ofNat 2 a : Fin 2).val = jm ∧ npc = pc + 1) ∨ (decode cc pc = .ok (.ldc2_w x0, 3) ∧ Cond.constantLong own x0 jm ∈ lw_gd ∧ npc = pc + 3)) (k : mx_W p l e R s m args below meth c cells slots Q nL g L xs npc loc (Sum.inr (Sum.inl jm) :: stk) σ) : mx_W p l e R s m args below meth c cells slots Q nL g L xs pc loc stk σ := by
  obtain ⟨hx, hb, -, hown, hts, -⟩ := C
  intro H ls locs hP hS hv hs hlo hc
  have kk := k H ls locs hP hS hv (List.forall_mem_cons.mpr ⟨trivial, hs⟩) hlo hc
  rcases hd with ⟨hd, h1, rfl⟩ | ⟨hd, h1, rfl⟩
  · exact lv_lconst hx hb hd h1 kk
  · exact lv_ldc2 hx hb hown (hts _ h1) hd kk
def mx_binI (b : Nat) : Instr := match b with
  | 0 => .iadd
  | 1 => .isub
  | 2 => .imul
  | 3 => .iand
  | 4 => .ior
  | 5 => .ishl
  | 6 => .ishr
  | _ => .iushr
/-- a goal out of what 'mx_step' has made of it -/
theorem sd_bin (C : mx_Cx p R s m args c cells slots cc nL own g L xs Y) (hd : decode cc pc = .ok (mx_binI b, 1)) (kk : mx_bin b x y (fun z => mx_W p l e R s m args below meth c cells slots Q nL g L xs (pc + 1) loc (Sum.inl z :: r) σ)) : mx_W p l e R s m args below meth c cells slots Q nL g L xs pc loc (Sum.inl y :: Sum.inl x :: r) σ := by
  obtain ⟨hx, hb, -⟩ := C
  intro H ls locs hP hS hv hs hlo hc
  obtain ⟨-, hs⟩ := List.forall_mem_cons.mp hs
  obtain ⟨-, hs⟩ := List.forall_mem_cons.mp hs
  have hk : ∀ z, mx_W p l e R s m args below meth c cells slots Q nL g L xs (pc + 1) loc (Sum.inl z :: r) σ → W p l e R s m args below meth c H locs cells slots Q (F0 m (pc + 1) ls (.int z :: r.map (mx_rv g))) := fun z q => q H ls locs hP hS hv (List.forall_mem_cons.mpr ⟨trivial, hs⟩) hlo hc
  unfold mx_bin at kk
  unfold mx_binI at hd
  split at kk
  · exact lv_iadd hx hb hd (hk _ kk)
  · exact lv_isub hx hb hd (hk _ kk)
  · exact lv_imul hx hb hd (hk _ kk)
  · exact lv_iand hx hb hd (hk _ kk)
  · exact lv_ior hx hb hd (hk _ kk)
  · exact lv_ishl hx hb hd (hk _ kk)
  · exact lv_ishr hx hb hd (hk _ kk)
  · rename_i n0 n1 n2 n3 n4 n5 n6
    have hd : decode cc pc = .ok (.iushr, 1) := by
      split at hd
      · exact absurd rfl n0
      · exact absurd rfl n1
      · exact absurd rfl n2
      · exact absurd rfl n3
      · exact absurd rfl n4
      · exact absurd rfl n5
      · exact absurd rfl n6
      · exact hd
    exact lv_iushr hx hb hd rfl (hk _ kk)
def mx_divI (b : Nat) : Instr := match b with
  | 0 => .idiv
  | _ => .irem
theorem sd_div (C : mx_Cx p R s m args c cells slots cc nL own g L xs Y) (hd : decode cc pc = .ok (mx_divI b, 1)) (kk : mx_d False y (mx_div b x y (fun z => mx_W p l e R s m args below meth c cells slots Q nL g L xs (pc + 1) loc (Sum.inl z :: r) σ))) : mx_W p l e R s m args below meth c cells slots Q nL g L xs pc loc (Sum.inl y :: Sum.inl x :: r) σ := by
  obtain ⟨hx, hb, -⟩ := C
  intro H ls locs hP hS hv hs hlo hc
  obtain ⟨-, hs⟩ := List.forall_mem_cons.mp hs
  obtain ⟨-, hs⟩ := List.forall_mem_cons.mp hs
  have hk : ∀ z, mx_W p l e R s m args below meth c cells slots Q nL g L xs (pc + 1) loc (Sum.inl z :: r) σ → W p l e R s m args below meth c H locs cells slots Q (F0 m (pc + 1) ls (.int z :: r.map (mx_rv g))) := fun z q => q H ls locs hP hS hv (List.forall_mem_cons.mpr ⟨trivial, hs⟩) hlo hc
  unfold mx_d at kk
  split at kk
  · exact kk.elim
  · rename_i hne
    unfold mx_div at kk
    unfold mx_divI at hd
    split at kk
    · exact lv_idiv hx hb hd hne (hk _ kk)
    · rename_i n0
      have hd : decode cc pc = .ok (.irem, 1) := by
        split at hd
        · exact absurd rfl n0
        · exact hd
      exact lv_irem hx hb hd hne (hk _ kk)
def mx_unI (b : Nat) : Instr := match b with
  | 0 => .ineg
  | 1 => .i2b
  | 2 => .i2s
  | _ => .i2c
theorem sd_un (C : mx_Cx p R s m args c cells slots cc nL own g L xs Y) (hd : decode cc pc = .ok (mx_unI b, 1)) (kk : mx_un b x (fun z => mx_W p l e R s m args below meth c cells slots Q nL g L xs (pc + 1) loc (Sum.inl z :: r) σ)) : mx_W p l e R s m args below meth c cells slots Q nL g L xs pc loc (Sum.inl x :: r) σ := by
  obtain ⟨hx, hb, -⟩ := C
  intro H ls locs hP hS hv hs hlo hc
  obtain ⟨-, hs⟩ := List.forall_mem_cons.mp hs
  have hk : ∀ z, mx_W p l e R s m args below meth c cells slots Q nL g L xs (pc + 1) loc (Sum.inl z :: r) σ → W p l e R s m args below meth c H locs cells slots Q (F0 m (pc + 1) ls (.int z :: r.map (mx_rv g))) := fun z q => q H ls locs hP hS hv (List.forall_mem_cons.mpr ⟨trivial, hs⟩) hlo hc
  unfold mx_un at kk
  unfold mx_unI at hd
  split at kk
  · exact lv_ineg hx hb hd (hk _ kk)
  · exact lv_i2b hx hb hd rfl (hk _ kk)
  · exact lv_i2s hx hb hd rfl (hk _ kk)
  · rename_i n0 n1 n2
    have hd : decode cc pc = .ok (.i2c, 1) := by
      split at hd
      · exact absurd rfl n0
      · exact absurd rfl n1
      · exact absurd rfl n2
      · exact hd
    exact lv_i2c hx hb hd rfl (hk _ kk)
def mx_lbI (b : Nat) : Instr := match b with
  | 0 => .ladd
  | 1 => .land
  | _ => .lor
theorem sd_lb (C : mx_Cx p R s m args c cells slots cc nL own g L xs Y) (hd : decode cc pc = .ok (mx_lbI b, 1)) (kk : mx_lb b u w (fun z => mx_W p l e R s m args below meth c cells slots Q nL g L xs (pc + 1) loc (Sum.inr (Sum.inl z) :: r) σ)) : mx_W p l e R s m args below meth c cells slots Q nL g L xs pc loc (Sum.inr (Sum.inl w) :: Sum.inr (Sum.inl u) :: r) σ := by
  obtain ⟨hx, hb, -⟩ := C
  intro H ls locs hP hS hv hs hlo hc
  obtain ⟨-, hs⟩ := List.forall_mem_cons.mp hs
  obtain ⟨-, hs⟩ := List.forall_mem_cons.mp hs
  have hk : ∀ z, mx_W p l e R s m args below meth c cells slots Q nL g L xs (pc + 1) loc (Sum.inr (Sum.inl z) :: r) σ → W p l e R s m args below meth c H locs cells slots Q (F0 m (pc + 1) ls (.long z :: r.map (mx_rv g))) := fun z q => q H ls locs hP hS hv (List.forall_mem_cons.mpr ⟨trivial, hs⟩) hlo hc
  unfold mx_lb at kk
  unfold mx_lbI at hd
  split at kk
  · exact lv_ladd hx hb hd (hk _ kk)
  · exact lv_land hx hb hd (hk _ kk)
  · rename_i n0 n1
    have hd : decode cc pc = .ok (.lor, 1) := by
      split at hd
      · exact absurd rfl n0
      · exact absurd rfl n1
      · exact hd
    exact lv_lor hx hb hd (hk _ kk)
def mx_lshI (b : Nat) : Instr := match b with
  | 0 => .lshl
  | _ => .lshr
theorem sd_lsh (C : mx_Cx p R s m args c cells slots cc nL own g L xs Y) (hd : decode cc pc = .ok (mx_lshI b, 1)) (kk : mx_lsh b u y (fun z => mx_W p l e R s m args below meth c cells slots Q nL g L xs (pc + 1) loc (Sum.inr (Sum.inl z) :: r) σ)) : mx_W p l e R s m args below meth c cells slots Q nL g L xs pc loc (Sum.inl y :: Sum.inr (Sum.inl u) :: r) σ := by
  obtain ⟨hx, hb, -⟩ := C
  intro H ls locs hP hS hv hs hlo hc
  obtain ⟨-, hs⟩ := List.forall_mem_cons.mp hs
  obtain ⟨-, hs⟩ := List.forall_mem_cons.mp hs
  have hk : ∀ z, mx_W p l e R s m args below meth c cells slots Q nL g L xs (pc + 1) loc (Sum.inr (Sum.inl z) :: r) σ → W p l e R s m args below meth c H locs cells slots Q (F0 m (pc + 1) ls (.long z :: r.map (mx_rv g))) := fun z q => q H ls locs hP hS hv (List.forall_mem_cons.mpr ⟨trivial, hs⟩) hlo hc
  unfold mx_lsh at kk
  unfold mx_lshI at hd
  split at kk
  · exact lv_lshl hx hb hd rfl (hk _ kk)
  · rename_i n0
    have hd : decode cc pc = .ok (.lshr, 1) := by
      split at hd
      · exact absurd rfl n0
      · exact hd
    exact lv_lshr hx hb hd rfl (hk _ kk)
theorem sd_lcmp (C : mx_Cx p R s m args c cells slots cc nL own g L xs Y) (hd : decode cc pc = .ok (.lcmp, 1)) (kk : mx_W p l e R s m args below meth c cells slots Q nL g L xs (pc + 1) loc (Sum.inl (lg_cmp u w) :: r) σ) : mx_W p l e R s m args below meth c cells slots Q nL g L xs pc loc (Sum.inr (Sum.inl w) :: Sum.inr (Sum.inl u) :: r) σ := by
  obtain ⟨hx, hb, -⟩ := C
  intro H ls locs hP hS hv hs hlo hc
  obtain ⟨-, hs⟩ := List.forall_mem_cons.mp hs
  obtain ⟨-, hs⟩ := List.forall_mem_cons.mp hs
  exact W.lcmp hx hb hd (kk H ls locs hP hS hv (List.forall_mem_cons.mpr ⟨trivial, hs⟩) hlo hc)
theorem sd_i2l (C : mx_Cx p R s m args c cells slots cc nL own g L xs Y) (hd : decode cc pc = .ok (.i2l, 1)) (kk : mx_W p l e R s m args below meth c cells slots Q nL g L xs (pc + 1) loc (Sum.inr (Sum.inl x.toInt64) :: r) σ) : mx_W p l e R s m args below meth c cells slots Q nL g L xs pc loc (Sum.inl x :: r) σ := by
  obtain ⟨hx, hb, -⟩ := C
  intro H ls locs hP hS hv hs hlo hc
  obtain ⟨-, hs⟩ := List.forall_mem_cons.mp hs
  exact lv_i2l hx hb hd rfl (kk H ls locs hP hS hv (List.forall_mem_cons.mpr ⟨trivial, hs⟩) hlo hc)
theorem sd_l2i (C : mx_Cx p R s m args c cells slots cc nL own g L xs Y) (hd : decode cc pc = .ok (.l2i, 1)) (kk : mx_W p l e R s m args below meth c cells slots Q nL g L xs (pc + 1) loc (Sum.inl u.toInt32 :: r) σ) : mx_W p l e R s m args below meth c cells slots Q nL g L xs pc loc (Sum.inr (Sum.inl u) :: r) σ := by
  obtain ⟨hx, hb, -⟩ := C
  intro H ls locs hP hS hv hs hlo hc
  obtain ⟨-, hs⟩ := List.forall_mem_cons.mp hs
  exact lv_l2i hx hb hd rfl (kk H ls locs hP hS hv (List.forall_mem_cons.mpr ⟨trivial, hs⟩) hlo hc)
theorem sd_iinc (C : mx_Cx p R s m args c cells slots cc nL own g L xs Y) (ha : a < nL) (hd : decode cc pc = .ok (.iinc a im.toInt, 3)) (hl : mx_lo loc a = some (Sum.inl x)) (kk : mx_W p l e R s m args below meth c cells slots Q nL g L xs (pc + 3) (mx_st1 loc a (Sum.inl (x + im))) stk σ) : mx_W p l e R s m args below meth c cells slots Q nL g L xs pc loc stk σ := by
  obtain ⟨hx, hb, -, -, -, -, -, hq, -⟩ := C
  intro H ls locs hP hS hv hs hlo hc
  obtain ⟨k, hk⟩ := List.getElem?_of_mem (mx_al_mem (g := g) hl)
  exact lv_iinc (x := x) (v := x + im) hx hb hd hv.has hk (by simp) ha rfl (fun ls' h' => kk H ls' locs hP hS (mx_lv.st1 (v := Sum.inl (x + im)) hq h') hs (mx_ok_st1 hlo trivial) hc)
theorem mx_cat1 {v : mx_V} (hq : g.2.2.2.category = 1) (h : ¬ mx_lg v) : (mx_rv g v).category = 1 := by
  rcases v with x | x | x
  · rfl
  · exact absurd trivial h
  · show (if x.2 = mx_oQ then g.2.2.2 else Value.ref (g.1 x.1 x.2)).category = 1
    split
    · exact hq
    · rfl
theorem sd_dup (C : mx_Cx p R s m args c cells slots cc nL own g L xs Y) {v : mx_V} (hv1 : ¬ mx_lg v) (hd : decode cc pc = .ok (.dup, 1)) (kk : mx_W p l e R s m args below meth c cells slots Q nL g L xs (pc + 1) loc (v :: v :: r) σ) : mx_W p l e R s m args below meth c cells slots Q nL g L xs pc loc (v :: r) σ := by
  obtain ⟨hx, hb, -, -, -, -, -, hq, -⟩ := C
  intro H ls locs hP hS hv hs hlo hc
  have h0 := (List.forall_mem_cons.mp hs).1
  exact lv_dup hx hb hd (mx_cat1 hq hv1) (kk H ls locs hP hS hv (List.forall_mem_cons.mpr ⟨h0, hs⟩) hlo hc)
theorem sd_dup2 (C : mx_Cx p R s m args c cells slots cc nL own g L xs Y) {v v' : mx_V} (hv1 : ¬ mx_lg v) (hv2 : ¬ mx_lg v') (hd : decode cc pc = .ok (.dup2, 1)) (kk : mx_W p l e R s m args below meth c cells slots Q nL g L xs (pc + 1) loc (v :: v' :: v :: v' :: r) σ) : mx_W p l e R s m args below meth c cells slots Q nL g L xs pc loc (v :: v' :: r) σ := by
  obtain ⟨hx, hb, -, -, -, -, -, hq, -⟩ := C
  intro H ls locs hP hS hv hs hlo hc
  have h0 := (List.forall_mem_cons.mp hs).1
  have h1 := (List.forall_mem_cons.mp (List.forall_mem_cons.mp hs).2).1
  exact lv_dup2_11 hx hb hd (mx_cat1 hq hv1) (mx_cat1 hq hv2) (kk H ls locs hP hS hv (List.forall_mem_cons.mpr ⟨h0, List.forall_mem_cons.mpr ⟨h1, hs⟩⟩) hlo hc)
theorem sd_pop (C : mx_Cx p R s m args c cells slots cc nL own g L xs Y) (hd : decode cc pc = .ok (.pop, 1)) (kk : mx_W p l e R s m args below meth c cells slots Q nL g L xs (pc + 1) loc r σ) : mx_W p l e R s m args below meth c cells slots Q nL g L xs pc loc (Sum.inl x :: r) σ := by
  obtain ⟨hx, hb, -⟩ := C
  intro H ls locs hP hS hv hs hlo hc
  exact lv_pop hx hb hd rfl (kk H ls locs hP hS hv (List.forall_mem_cons.mp hs).2 hlo hc)
def mx_cn (b : Nat) : ClassFile.Cond := match b with
  | 0 => .eq
  | 1 => .ne
  | 2 => .lt
  | 3 => .ge
  | 4 => .gt
  | _ => .le
theorem sd_ifc (C : mx_Cx p R s m args c cells slots cc nL own g L xs Y) {tgt : Nat} (hd : decode cc pc = .ok (.ifCond (mx_cn b) ((tgt : Int) - pc), 3)) (kk : mx_if b x 0 (mx_W p l e R s m args below meth c cells slots Q nL g L xs tgt loc r σ) (mx_W p l e R s m args below meth c cells slots Q nL g L xs (pc + 3) loc r σ)) : mx_W p l e R s m args below meth c cells slots Q nL g L xs pc loc (Sum.inl x :: r) σ := by
  obtain ⟨hx, hb, -⟩ := C
  intro H ls locs hP hS hv hs hlo hc
  obtain ⟨-, hs⟩ := List.forall_mem_cons.mp hs
  have ht : (pc : Int) + ((tgt : Int) - pc) = (tgt : Int) := by omega
  have h1 : mx_W p l e R s m args below meth c cells slots Q nL g L xs tgt loc r σ → _ := fun q => q H ls locs hP hS hv hs hlo hc
  have h2 : mx_W p l e R s m args below meth c cells slots Q nL g L xs (pc + 3) loc r σ → _ := fun q => q H ls locs hP hS hv hs hlo hc
  unfold mx_if at kk
  unfold mx_cn at hd
  split at kk
  · exact lv_if_eq hx hb hd ht (fun q => h1 (by rw [if_pos q] at kk; exact kk)) (fun q => h2 (by rw [if_neg q] at kk; exact kk))
  · exact lv_if_ne hx hb hd ht (fun q => h1 (by rw [if_neg q] at kk; exact kk)) (fun q => h2 (by rw [if_pos q] at kk; exact kk))
  · exact lv_if_lt hx hb hd ht (fun q => h1 (by rw [if_pos q] at kk; exact kk)) (fun q => h2 (by rw [if_neg q] at kk; exact kk))
  · exact lv_if_ge hx hb hd ht (fun q => h1 (by rw [if_pos q] at kk; exact kk)) (fun q => h2 (by rw [if_neg q] at kk; exact kk))
  · exact lv_if_gt hx hb hd ht (fun q => h1 (by rw [if_pos q] at kk; exact kk)) (fun q => h2 (by rw [if_neg q] at kk; exact kk))
  · rename_i n0 n1 n2 n3 n4
    have hd : decode cc pc = .ok (.ifCond .le ((tgt : Int) - pc), 3) := by
      split at hd
      · exact absurd rfl n0
      · exact absurd rfl n1
      · exact absurd rfl n2
      · exact absurd rfl n3
      · exact absurd rfl n4
      · exact hd
    exact lv_if_le hx hb hd ht (fun q => h1 (by rw [if_pos q] at kk; exact kk)) (fun q => h2 (by rw [if_neg q] at kk; exact kk))
theorem sd_icmp (C : mx_Cx p R s m args c cells slots cc nL own g L xs Y) {tgt : Nat} (hd : decode cc pc = .ok (.if_icmp (mx_cn b) ((tgt : Int) - pc), 3)) (kk : mx_if b x y (mx_W p l e R s m args below meth c cells slots Q nL g L xs tgt loc r σ) (mx_W p l e R s m args below meth c cells slots Q nL g L xs (pc + 3) loc r σ)) : mx_W p l e R s m args below meth c cells slots Q nL g L xs pc loc (Sum.inl y :: Sum.inl x :: r) σ := by
  obtain ⟨hx, hb, -⟩ := C
  intro H ls locs hP hS hv hs hlo hc
  obtain ⟨-, hs⟩ := List.forall_mem_cons.mp hs
  obtain ⟨-, hs⟩ := List.forall_mem_cons.mp hs
  have ht : (pc : Int) + ((tgt : Int) - pc) = (tgt : Int) := by omega
  have h1 : mx_W p l e R s m args below meth c cells slots Q nL g L xs tgt loc r σ → _ := fun q => q H ls locs hP hS hv hs hlo hc
  have h2 : mx_W p l e R s m args below meth c cells slots Q nL g L xs (pc + 3) loc r σ → _ := fun q => q H ls locs hP hS hv hs hlo hc
  unfold mx_if at kk
  unfold mx_cn at hd
  split at kk
  · exact lv_icmp_eq hx hb hd ht (fun q => h1 (by rw [if_pos q] at kk; exact kk)) (fun q => h2 (by rw [if_neg q] at kk; exact kk))
  · exact lv_icmp_ne hx hb hd ht (fun q => h1 (by rw [if_neg q] at kk; exact kk)) (fun q => h2 (by rw [if_pos q] at kk; exact kk))
  · exact lv_icmp_lt hx hb hd ht (fun q => h1 (by rw [if_pos q] at kk; exact kk)) (fun q => h2 (by rw [if_neg q] at kk; exact kk))
  · exact lv_icmp_ge hx hb hd ht (fun q => h1 (by rw [if_pos q] at kk; exact kk)) (fun q => h2 (by rw [if_neg q] at kk; exact kk))
  · exact lv_icmp_gt hx hb hd ht (fun q => h1 (by rw [if_pos q] at kk; exact kk)) (fun q => h2 (by rw [if_neg q] at kk; exact kk))
  · rename_i n0 n1 n2 n3 n4
    have hd : decode cc pc = .ok (.if_icmp .le ((tgt : Int) - pc), 3) := by
      split at hd
      · exact absurd rfl n0
      · exact absurd rfl n1
      · exact absurd rfl n2
      · exact absurd rfl n3
      · exact absurd rfl n4
      · exact hd
    exact lv_icmp_le hx hb hd ht (fun q => h1 (by rw [if_pos q] at kk; exact kk)) (fun q => h2 (by rw [if_neg q] at kk; exact kk))
theorem sd_goto (C : mx_Cx p R s m args c cells slots cc nL own g L xs Y) {tgt : Nat} (hd : decode cc pc = .ok (.goto ((tgt : Int) - pc), 3)) (kk : mx_W p l e R s m args below meth c cells slots Q nL g L xs tgt loc stk σ) : mx_W p l e R s m args below meth c cells slots Q nL g L xs pc loc stk σ := by
  obtain ⟨hx, hb, -⟩ := C
  intro H ls locs hP hS hv hs hlo hc
  exact lv_goto hx hb hd (by omega) (kk H ls locs hP hS hv hs hlo hc)
theorem mx_sw_spec (x : Int32) (d : Nat) : ∀ (ts : List Nat) (b : Nat), (∃ i t, ts[i]? = some t ∧ x = Int32.ofNat (b + i) ∧ mx_sw x d b ts = t) ∨ ((∀ i, i < ts.length → x ≠ Int32.ofNat (b + i)) ∧ mx_sw x d b ts = d)
  | [], b => Or.inr ⟨fun i h => absurd h (Nat.not_lt_zero i), rfl⟩
  | t :: ts, b => by
    by_cases h : x = Int32.ofNat b
    · exact Or.inl ⟨0, t, rfl, h, if_pos h⟩
    · have e : mx_sw x d b (t :: ts) = mx_sw x d (b + 1) ts := if_neg h
      rw [e]
      rcases mx_sw_spec x d ts (b + 1) with ⟨i, t', h1, h2, h3⟩ | ⟨h1, h2⟩
      · exact Or.inl ⟨i + 1, t', by rw [List.getElem?_cons_succ]; exact h1, by rw [h2]; congr 1; omega, h3⟩
      · refine Or.inr ⟨fun i hi => ?_, h2⟩
        cases i with
        | zero => exact h
        | succ i =>
          have := h1 i (by simpa using hi)
          intro q
          exact this (by rw [q]; congr 1; omega)
theorem sd_sw (C : mx_Cx p R s m args c cells slots cc nL own g L xs Y) {len : Nat} {ts : List Nat} {tg : Nat → Nat} (hd : decode cc pc = .ok (.tableswitch ((tg a : Int) - pc) (b : Int) (((b + ts.length : Nat) : Int) - 1) (ts.map (fun t => (tg t : Int) - pc)).toArray, len)) (hb0 : b + ts.length < 2 ^ 31) (kk : mx_W p l e R s m args below meth c cells slots Q nL g L xs (tg (mx_sw x a b ts)) loc r σ) : mx_W p l e R s m args below meth c cells slots Q nL g L xs pc loc (Sum.inl x :: r) σ := by
  obtain ⟨hx, hb, -⟩ := C
  intro H ls locs hP hS hv hs hlo hc
  obtain ⟨-, hs⟩ := List.forall_mem_cons.mp hs
  have k1 := kk H ls locs hP hS hv hs hlo hc
  rcases mx_sw_spec x a ts b with ⟨i, t, h1, h2, h3⟩ | ⟨h1, h2⟩
  · rw [h3] at k1
    have hi : i < ts.length := (List.getElem?_eq_some_iff.mp h1).1
    have ex : x.toInt = ((b + i : Nat) : Int) := by rw [h2]; exact nI_toInt (by omega)
    refine lv_tableIn (off := (tg t : Int) - pc) (tgt := tg t) hx hb hd (by omega) (by omega) ?_ (by omega) k1
    have e1 : (x.toInt - (b : Int)).toNat = i := by omega
    rw [e1]
    simp [h1]
  · rw [h2] at k1
    refine lv_tableOut (tgt := tg a) hx hb hd ?_ (by omega) k1
    rcases Int.lt_or_le x.toInt (b : Int) with q | q
    · exact Or.inl q
    · refine Or.inr ?_
      rcases Int.lt_or_le (((b + ts.length : Nat) : Int) - 1) x.toInt with q2 | q2
      · exact q2
      · exfalso
        refine h1 (x.toInt - b).toNat (by omega) (Int32.toInt_inj.mp ?_)
        rw [show (Int32.ofNat (b + (x.toInt - b).toNat)).toInt = _ from nI_toInt (by omega)]
        omega
theorem sd_lsw (C : mx_Cx p R s m args c cells slots cc nL own g L xs Y) {len t0 t1 : Nat} {tg : Nat → Nat} (hd : decode cc pc = .ok (.lookupswitch ((tg a : Int) - pc) #[(0, (tg t0 : Int) - pc), (1, (tg t1 : Int) - pc)], len)) (kk : mx_W p l e R s m args below meth c cells slots Q nL g L xs (tg (mx_sw x a 0 [t0, t1])) loc r σ) : mx_W p l e R s m args below meth c cells slots Q nL g L xs pc loc (Sum.inl x :: r) σ := by
  obtain ⟨hx, hb, -⟩ := C
  intro H ls locs hP hS hv hs hlo hc
  obtain ⟨-, hs⟩ := List.forall_mem_cons.mp hs
  have k1 := kk H ls locs hP hS hv hs hlo hc
  have h0 : (x = Int32.ofNat 0) ↔ x.toInt = 0 := by rw [← Int32.toInt_inj]; exact Iff.rfl
  have h1 : (x = Int32.ofNat 1) ↔ x.toInt = 1 := by rw [← Int32.toInt_inj]; exact Iff.rfl
  have e : mx_sw x a 0 [t0, t1] = if x.toInt = 0 then t0 else if x.toInt = 1 then t1 else a := by
    show (if x = Int32.ofNat 0 then t0 else if x = Int32.ofNat 1 then t1 else a) = _
    simp only [h0, h1]
  rw [e] at k1
  by_cases q0 : x.toInt = 0
  · rw [if_pos q0] at k1
    exact lv_lookup (off := (tg t0 : Int) - pc) hx hb hd (by simp) (by rw [Op.lookupswitch.offset_cons, if_pos q0.symm]) (by omega) k1
  · rw [if_neg q0] at k1
    by_cases q1 : x.toInt = 1
    · rw [if_pos q1] at k1
      exact lv_lookup (off := (tg t1 : Int) - pc) hx hb hd (by simp) (by rw [Op.lookupswitch.offset_cons, if_neg (Ne.symm q0), Op.lookupswitch.offset_cons, if_pos q1.symm]) (by omega) k1
    · rw [if_neg q1] at k1
      exact lv_lookup (off := (tg a : Int) - pc) hx hb hd (by simp) (by rw [Op.lookupswitch.offset_cons, if_neg (Ne.symm q0), Op.lookupswitch.offset_cons, if_neg (Ne.symm q1)]; rfl) (by omega) k1
theorem mx_obj {k o : Nat} (h : mx_cO o = a + 1) : mx_cell g σ k o = .inr (a, (List.range (mx_nf o)).map (mx_fv g σ k o)) := by
  unfold mx_cell
  rw [h]
theorem mx_arr {k o : Nat} (h : mx_aT o ≠ 0) (ho : o < 55) : mx_cell g σ k o = .inl (g.2.2.1 (mx_aT o), mx_aN o, if mx_aT o ≤ 3 then .inl (σ k o) else .inr (.inr (.inr (.inr (fun j => some (g.1 (mx_rA o j).1 (mx_rA o j).2)))))) := by
  unfold mx_cell
  rw [(mx_aT_c o ho).1 h]
theorem sd_getf (C : mx_Cx p R s m args c cells slots cc nL own g L xs Y) {k o : Nat} (hN : b < mx_nf o) (hd : decode cc pc = .ok (.getfield x0, 3)) (hw : Cond.fieldLink own x0 (mx_cl a).1 ((mx_cl a).2.1 b).2.1 ((mx_cl a).2.1 b).2.2.1 ∈ lw_gd) (hT : ((mx_cl a).2.1 b).1 = (mx_cl a).1) (ho : mx_cO o = a + 1) (hk : k < mx_kM o) {v : mx_V} (hv0 : mx_okV v) (hfv : mx_fv g σ k o b = mx_rv g v) (kk : mx_W p l e R s m args below meth c cells slots Q nL g L xs (pc + 3) loc (v :: r) σ) : mx_W p l e R s m args below meth c cells slots Q nL g L xs pc loc (Sum.inr (Sum.inr (k, o)) :: r) σ := by
  obtain ⟨hx, hb, -, hown, hts, hF, hinj, hq, -⟩ := C
  intro H ls locs hP hS hv hs hlo hc
  obtain ⟨-, hs⟩ := List.forall_mem_cons.mp hs
  have ho5 : o < 55 := mx_kM_lt hk
  obtain ⟨ha9, hnf⟩ := (mx_aT_c o ho5).2 (by omega)
  have ea : mx_cO o - 1 = a := by omega
  rw [ea] at ha9 hnf
  obtain ⟨i, hi⟩ := mx_at hk
  have he : (mx_ws g σ)[i]? = some (g.1 k o, .inr (a, (List.range (mx_nf o)).map (mx_fv g σ k o))) := by rw [mx_ws_at hi, mx_obj ho]
  rw [List.map_cons, mx_rv_ref hk]
  refine va_get (C := (mx_cl a).1) (T := (mx_cl a).2.1) (N := (mx_cl a).2.2) (ref := (mx_cl a).1) (own := own) (index := x0) hx hb hts (mx_uw a ha9) hown hF.1 hP i he (mx_cl_at ha9) b (by rw [show (mx_cl a).2.2 = mx_nf o from hnf.symm]; exact hN) (hts _ hw) (fun z hz => by rw [hT] at hz; exact hz) (v := mx_rv g v) (by rw [List.getElem?_map, List.getElem?_range hN]; exact congrArg some hfv) hd ?_
  exact kk H ls locs hP hS hv (List.forall_mem_cons.mpr ⟨hv0, hs⟩) hlo hc
theorem mx_fs_set {k o j : Nat} {x : Int32} {v : Value} (hj : j < mx_nf o) (hv : mx_fv g (mx_up σ k o j x) k o j = v) : ((List.range (mx_nf o)).map (mx_fv g σ k o)).set j v = (List.range (mx_nf o)).map (mx_fv g (mx_up σ k o j x) k o) := by
  apply List.ext_getElem?
  intro n
  by_cases hn : n = j
  · subst hn
    rw [List.getElem?_set_self (by simpa using hj), List.getElem?_map, List.getElem?_range hj, ← hv]
    rfl
  · rw [List.getElem?_set_ne (Ne.symm hn), List.getElem?_map, List.getElem?_map]
    by_cases hl : n < mx_nf o
    · rw [List.getElem?_range hl]
      simp only [Option.map_some]
      have : mx_up σ k o j x k o n = σ k o n := by rw [mx_up_s]; exact if_neg hn
      unfold mx_fv
      rw [this]
    · rw [List.getElem?_eq_none (by simpa using hl)]
      rfl
theorem sd_putf (C : mx_Cx p R s m args c cells slots cc nL own g L xs Y) {k o : Nat} {v : mx_V} {z : Int32} (hN : b < mx_nf o) (hd : decode cc pc = .ok (.putfield x0, 3)) (hw : Cond.fieldLink own x0 (mx_cl a).1 ((mx_cl a).2.1 b).2.1 ((mx_cl a).2.1 b).2.2.1 ∈ lw_gd) (hT : ((mx_cl a).2.1 b).1 = (mx_cl a).1) (ho : mx_cO o = a + 1) (hk : k < mx_kM o) (hnf2 : mx_fk o b ≠ 2) (hn : narrow (mx_tyf a b) (mx_rv g v) = mx_rv g v) (hfit : fits (mx_tyf a b) (mx_rv g v) = true) (hfv : mx_fv g (mx_up σ k o b z) k o b = mx_rv g v) (kk : mx_W p l e R s m args below meth c cells slots Q nL g L xs (pc + 3) loc r (mx_up σ k o b z)) : mx_W p l e R s m args below meth c cells slots Q nL g L xs pc loc (v :: Sum.inr (Sum.inr (k, o)) :: r) σ := by
  obtain ⟨hx, hb, -, hown, hts, hF, hinj, hq, -⟩ := C
  intro H ls locs hP hS hv hs hlo hc
  obtain ⟨-, hs⟩ := List.forall_mem_cons.mp hs
  obtain ⟨-, hs⟩ := List.forall_mem_cons.mp hs
  have ho5 : o < 55 := mx_kM_lt hk
  obtain ⟨ha9, hnf⟩ := (mx_aT_c o ho5).2 (by omega)
  have ea : mx_cO o - 1 = a := by omega
  rw [ea] at ha9 hnf
  obtain ⟨i, hi⟩ := mx_at hk
  have he : (mx_ws g σ)[i]? = some (g.1 k o, .inr (a, (List.range (mx_nf o)).map (mx_fv g σ k o))) := by rw [mx_ws_at hi, mx_obj ho]
  have hNc : b < (mx_cl a).2.2 := by rw [show (mx_cl a).2.2 = mx_nf o from hnf.symm]; exact hN
  have hfin := mx_fk_f o ho5 (by omega) b hN hnf2
  rw [ea] at hfin
  rw [List.map_cons, List.map_cons, mx_rv_ref hk]
  refine va_put (C := (mx_cl a).1) (T := (mx_cl a).2.1) (N := (mx_cl a).2.2) (ref := (mx_cl a).1) (own := own) (index := x0) hx hb hts (mx_uw a ha9) (mx_tyf a) (mx_ty_ok a ha9) (mx_nm_ok a ha9) hown hF.1 hP (mx_Dof hinj σ) hS i he (mx_cl_at ha9) b hNc (hts _ hw) (fun z hz => by rw [hT] at hz; exact hz) hfin (ty := mx_tyf a b) (v := mx_rv g v) (mx_ty_ok a ha9 b hNc) hn hfit (by simpa using hN) hd (fun H1 locs1 hP1 hD1 hS1 => ?_)
  have ew : (mx_ws g σ).set i (g.1 k o, .inr (a, ((List.range (mx_nf o)).map (mx_fv g σ k o)).set b (mx_rv g v))) = mx_ws g (mx_up σ k o b z) := mx_ws_set hi (by rw [mx_obj ho, mx_fs_set hN hfv]) (fun k' o' h => mx_cell_congr (mx_up_o h))
  rw [ew] at hP1
  refine kk H1 ls locs1 hP1 hS1 hv hs hlo ?_
  have hne : ∀ k', (k', mx_oX) ≠ (k, o) := fun k' h => by cases h; exact absurd ho5 (by decide)
  exact ⟨by rw [mx_up_o (hne 0)]; exact hc.1, fun j hj => by rw [mx_up_o (hne 1)]; exact hc.2 j hj⟩
theorem sd_iald (C : mx_Cx p R s m args c cells slots cc nL own g L xs Y) {k o : Nat} {i : Int32} (hd : decode cc pc = .ok (.iaload, 1)) (ht : mx_aT o = 1) (hk : k < mx_kM o) (kk : mx_g False i (mx_aN o) (fun j => mx_W p l e R s m args below meth c cells slots Q nL g L xs (pc + 1) loc (Sum.inl (σ k o j) :: r) σ)) : mx_W p l e R s m args below meth c cells slots Q nL g L xs pc loc (Sum.inl i :: Sum.inr (Sum.inr (k, o)) :: r) σ := by
  obtain ⟨hx, hb, -, hown, hts, hF, hinj, hq, -⟩ := C
  intro H ls locs hP hS hv hs hlo hc
  obtain ⟨-, hs⟩ := List.forall_mem_cons.mp hs
  obtain ⟨-, hs⟩ := List.forall_mem_cons.mp hs
  obtain ⟨n, hn⟩ := mx_at hk
  have he : (mx_ws g σ)[n]? = some (g.1 k o, .inl (g.2.2.1 1, mx_aN o, .inl (σ k o))) := by rw [mx_ws_at hn, mx_arr (by omega) (mx_kM_lt hk), ht]; rfl
  unfold mx_g at kk
  split at kk
  · exact kk.elim
  · rename_i hin
    rw [List.map_cons, List.map_cons, mx_rv_ref hk]
    exact va_iald hx hb hF.1 hP n 0 he rfl hin hd (kk H ls locs hP hS hv (List.forall_mem_cons.mpr ⟨trivial, hs⟩) hlo hc)
theorem sd_bald (C : mx_Cx p R s m args c cells slots cc nL own g L xs Y) {k o : Nat} {i : Int32} (hd : decode cc pc = .ok (.baload, 1)) (ht : mx_aT o = 2 ∨ mx_aT o = 3) (hk : k < mx_kM o) (kk : mx_g False i (mx_aN o) (fun j => mx_W p l e R s m args below meth c cells slots Q nL g L xs (pc + 1) loc (Sum.inl (σ k o j) :: r) σ)) : mx_W p l e R s m args below meth c cells slots Q nL g L xs pc loc (Sum.inl i :: Sum.inr (Sum.inr (k, o)) :: r) σ := by
  obtain ⟨hx, hb, -, hown, hts, hF, hinj, hq, -⟩ := C
  intro H ls locs hP hS hv hs hlo hc
  obtain ⟨-, hs⟩ := List.forall_mem_cons.mp hs
  obtain ⟨-, hs⟩ := List.forall_mem_cons.mp hs
  obtain ⟨n, hn⟩ := mx_at hk
  unfold mx_g at kk
  split at kk
  · exact kk.elim
  · rename_i hin
    rw [List.map_cons, List.map_cons, mx_rv_ref hk]
    rcases ht with ht | ht
    · have he : (mx_ws g σ)[n]? = some (g.1 k o, .inl (g.2.2.1 2, mx_aN o, .inl (σ k o))) := by rw [mx_ws_at hn, mx_arr (by omega) (mx_kM_lt hk), ht]; rfl
      exact va_bald hx hb hF.1 hP n 1 he rfl hin hd (kk H ls locs hP hS hv (List.forall_mem_cons.mpr ⟨trivial, hs⟩) hlo hc)
    · have he : (mx_ws g σ)[n]? = some (g.1 k o, .inl (g.2.2.1 3, mx_aN o, .inl (σ k o))) := by rw [mx_ws_at hn, mx_arr (by omega) (mx_kM_lt hk), ht]; rfl
      exact va_zald hx hb hF.1 hP n 2 he rfl hin hd (kk H ls locs hP hS hv (List.forall_mem_cons.mpr ⟨trivial, hs⟩) hlo hc)
theorem mx_arr_set {k o n j : Nat} {x : Int32} {t : Nat} (hn : mx_cs[n]? = some (k, o)) (hk : k < mx_kM o) (ht : mx_aT o = t) (ht0 : t ≠ 0) (ht3 : t ≤ 3) : (mx_ws g σ).set n (g.1 k o, .inl (g.2.2.1 t, mx_aN o, .inl (upd (σ k o) j x))) = mx_ws g (mx_up σ k o j x) := by
  refine mx_ws_set hn ?_ (fun k' o' h => mx_cell_congr (mx_up_o h))
  rw [mx_arr (by omega) (mx_kM_lt hk), ht, if_pos ht3, mx_up_s]
theorem mx_sc_up {k o j : Nat} {x : Int32} (hk : k < mx_kM o) (hc : mx_sc L xs σ) : mx_sc L xs (mx_up σ k o j x) := by
  have ho5 := mx_kM_lt hk
  have hne : ∀ k', (k', mx_oX) ≠ (k, o) := fun k' h => by cases h; exact absurd ho5 (by decide)
  exact ⟨by rw [mx_up_o (hne 0)]; exact hc.1, fun j hj => by rw [mx_up_o (hne 1)]; exact hc.2 j hj⟩
theorem sd_iast (C : mx_Cx p R s m args c cells slots cc nL own g L xs Y) {k o : Nat} {i : Int32} (hd : decode cc pc = .ok (.iastore, 1)) (ht : mx_aT o = 1) (hk : k < mx_kM o) (kk : mx_g False i (mx_aN o) (fun j => mx_w (mx_up σ k o j x) (fun σ => mx_W p l e R s m args below meth c cells slots Q nL g L xs (pc + 1) loc r σ))) : mx_W p l e R s m args below meth c cells slots Q nL g L xs pc loc (Sum.inl x :: Sum.inl i :: Sum.inr (Sum.inr (k, o)) :: r) σ := by
  obtain ⟨hx, hb, -, hown, hts, hF, hinj, hq, -⟩ := C
  intro H ls locs hP hS hv hs hlo hc
  obtain ⟨-, hs⟩ := List.forall_mem_cons.mp hs
  obtain ⟨-, hs⟩ := List.forall_mem_cons.mp hs
  obtain ⟨-, hs⟩ := List.forall_mem_cons.mp hs
  obtain ⟨n, hn⟩ := mx_at hk
  have he : (mx_ws g σ)[n]? = some (g.1 k o, .inl (g.2.2.1 1, mx_aN o, .inl (σ k o))) := by rw [mx_ws_at hn, mx_arr (by omega) (mx_kM_lt hk), ht]; rfl
  unfold mx_g at kk
  split at kk
  · exact kk.elim
  · rename_i hin
    rw [List.map_cons, List.map_cons, List.map_cons, mx_rv_ref hk]
    refine va_iast hx hb hF.1 hP (mx_Dof hinj σ) hS n 0 he rfl hin hd (fun H1 locs1 hP1 hD1 hS1 => ?_)
    rw [mx_arr_set hn hk ht (by omega) (by omega)] at hP1
    exact kk H1 ls locs1 hP1 hS1 hv hs hlo (mx_sc_up hk hc)
theorem sd_bast (C : mx_Cx p R s m args c cells slots cc nL own g L xs Y) {k o : Nat} {i : Int32} (hd : decode cc pc = .ok (.bastore, 1)) (ht : mx_aT o = b + 2) (hb2 : b < 2) (hk : k < mx_kM o) (kk : mx_g False i (mx_aN o) (fun j => mx_w (mx_up σ k o j (mx_nr b x)) (fun σ => mx_W p l e R s m args below meth c cells slots Q nL g L xs (pc + 1) loc r σ))) : mx_W p l e R s m args below meth c cells slots Q nL g L xs pc loc (Sum.inl x :: Sum.inl i :: Sum.inr (Sum.inr (k, o)) :: r) σ := by
  obtain ⟨hx, hb, -, hown, hts, hF, hinj, hq, -⟩ := C
  intro H ls locs hP hS hv hs hlo hc
  obtain ⟨-, hs⟩ := List.forall_mem_cons.mp hs
  obtain ⟨-, hs⟩ := List.forall_mem_cons.mp hs
  obtain ⟨-, hs⟩ := List.forall_mem_cons.mp hs
  obtain ⟨n, hn⟩ := mx_at hk
  unfold mx_g at kk
  split at kk
  · exact kk.elim
  · rename_i hin
    rw [List.map_cons, List.map_cons, List.map_cons, mx_rv_ref hk]
    rcases (show b = 0 ∨ b = 1 by omega) with rfl | rfl
    · have he : (mx_ws g σ)[n]? = some (g.1 k o, .inl (g.2.2.1 2, mx_aN o, .inl (σ k o))) := by rw [mx_ws_at hn, mx_arr (by omega) (mx_kM_lt hk), ht]; rfl
      refine va_bast hx hb hF.1 hP (mx_Dof hinj σ) hS n 1 he rfl hin hd (fun H1 locs1 hP1 hD1 hS1 => ?_)
      rw [mx_arr_set hn hk ht (by omega) (by omega)] at hP1
      exact kk H1 ls locs1 hP1 hS1 hv hs hlo (mx_sc_up hk hc)
    · have he : (mx_ws g σ)[n]? = some (g.1 k o, .inl (g.2.2.1 3, mx_aN o, .inl (σ k o))) := by rw [mx_ws_at hn, mx_arr (by omega) (mx_kM_lt hk), ht]; rfl
      refine va_zast hx hb hF.1 hP (mx_Dof hinj σ) hS n 2 he rfl hin hd (fun H1 locs1 hP1 hD1 hS1 => ?_)
      rw [mx_arr_set hn hk ht (by omega) (by omega)] at hP1
      exact kk H1 ls locs1 hP1 hS1 hv hs hlo (mx_sc_up hk hc)
theorem mx_rA_ok : ∀ o, o < 55 → 4 ≤ mx_aT o → ∀ j, j < mx_aN o → (mx_rA o j).1 < mx_kM (mx_rA o j).2 := by decide +kernel
theorem sd_aald (C : mx_Cx p R s m args c cells slots cc nL own g L xs Y) {k o : Nat} {i : Int32} (hd : decode cc pc = .ok (.aaload, 1)) (ht : mx_aT o = 4 ∨ mx_aT o = 5) (hk : k < mx_kM o) (kk : mx_g False i (mx_aN o) (fun j => mx_W p l e R s m args below meth c cells slots Q nL g L xs (pc + 1) loc (Sum.inr (Sum.inr ((mx_rA o j).1, (mx_rA o j).2)) :: r) σ)) : mx_W p l e R s m args below meth c cells slots Q nL g L xs pc loc (Sum.inl i :: Sum.inr (Sum.inr (k, o)) :: r) σ := by
  obtain ⟨hx, hb, -, hown, hts, hF, hinj, hq, -⟩ := C
  intro H ls locs hP hS hv hs hlo hc
  obtain ⟨-, hs⟩ := List.forall_mem_cons.mp hs
  obtain ⟨-, hs⟩ := List.forall_mem_cons.mp hs
  obtain ⟨n, hn⟩ := mx_at hk
  unfold mx_g at kk
  split at kk
  · exact kk.elim
  · rename_i hin
    rw [List.map_cons, List.map_cons, mx_rv_ref hk]
    have hj : i.toNatClampNeg < mx_aN o := Nat.not_le.mp fun q => hin (Or.inr q)
    have hr := mx_rA_ok o (mx_kM_lt hk) (by omega) _ hj
    have k1 := kk H ls locs hP hS hv (List.forall_mem_cons.mpr ⟨Or.inl hr, hs⟩) hlo hc
    rw [List.map_cons, mx_rv_ref hr] at k1
    rcases ht with ht | ht
    · have he : (mx_ws g σ)[n]? = some (g.1 k o, .inl (g.2.2.1 4, mx_aN o, .inr (.inr (.inr (.inr (fun j => some (g.1 (mx_rA o j).1 (mx_rA o j).2))))))) := by rw [mx_ws_at hn, mx_arr (by omega) (mx_kM_lt hk), ht]; rfl
      exact va_aldq hx hb hF.1 hP n 3 he rfl hin hd k1
    · have he : (mx_ws g σ)[n]? = some (g.1 k o, .inl (g.2.2.1 5, mx_aN o, .inr (.inr (.inr (.inr (fun j => some (g.1 (mx_rA o j).1 (mx_rA o j).2))))))) := by rw [mx_ws_at hn, mx_arr (by omega) (mx_kM_lt hk), ht]; rfl
      exact va_aldq hx hb hF.1 hP n 4 he rfl hin hd k1
theorem sd_alen (C : mx_Cx p R s m args c cells slots cc nL own g L xs Y) {k o : Nat} (hd : decode cc pc = .ok (.arraylength, 1)) (ht : mx_aT o = 1) (hk : k < mx_kM o) (kk : mx_W p l e R s m args below meth c cells slots Q nL g L xs (pc + 1) loc (Sum.inl (Int32.ofNat (mx_aN o)) :: r) σ) : mx_W p l e R s m args below meth c cells slots Q nL g L xs pc loc (Sum.inr (Sum.inr (k, o)) :: r) σ := by
  obtain ⟨hx, hb, -, hown, hts, hF, hinj, hq, -⟩ := C
  intro H ls locs hP hS hv hs hlo hc
  obtain ⟨-, hs⟩ := List.forall_mem_cons.mp hs
  obtain ⟨n, hn⟩ := mx_at hk
  have he : (mx_ws g σ)[n]? = some (g.1 k o, .inl (g.2.2.1 1, mx_aN o, .inl (σ k o))) := by rw [mx_ws_at hn, mx_arr (by omega) (mx_kM_lt hk), ht]; rfl
  rw [List.map_cons, mx_rv_ref hk]
  exact va_alen hx hb hF.1 hP n 0 he (ty := .int) rfl rfl hd (kk H ls locs hP hS hv (List.forall_mem_cons.mpr ⟨trivial, hs⟩) hlo hc)
def mx_Q (g : mx_G) (r : mx_Rt) : Array Value → State → Outcome → State → Prop := fun _ st oc t => oc = .returned (r.1.map (mx_rv g)) ∧ va_P g.2.1 vwCl (mx_ws g r.2) t.heap ∧ va_F (mx_A g) st t
def mx_Pc (g : mx_G) (L : Nat) (xs : Nat → Int32) (as : List mx_V) (σ : mx_S) : Array Value → State → Prop := va_Pc (as.map (mx_rv g)) (fun U => va_P g.2.1 vwCl (mx_ws g σ) U.heap ∧ mx_Fx g L xs U)
def mx_rm (y : Nat) : Room := { frames := y + 2, cells := 0, slots := 0, locals := 100 * (y + 2) }
abbrev mx_wy (y : Nat) : List Cond := Cond.code (mx_mN y) (mx_mC y) (mx_nl y) (mx_mR y) :: lw_gd
/-- what is to be shown of a method's answer -/
def mx_OK (l : Launch) (y : Nat) (as : List mx_V) (σ : mx_S) (r : mx_Rt) : Prop := ∀ (g : mx_G) (L : Nat) (xs : Nat → Int32), mx_inj g → g.2.2.2.category = 1 → L < 2 ^ 31 → (∀ v ∈ as, mx_okV v) → mx_wd as ≤ mx_nl y → mx_sc L xs σ → Met l (mx_mN y) (mx_wy y) (mx_rm y) (mx_Pc g L xs as σ) (mx_Q g r) 0 0 (mx_A g)
theorem mx_blind {as : List mx_V} : FrameBlind (mx_Pc g L xs as σ) := by
  intro a U f mk q
  exact ⟨q.1, q.2.1, q.2.2.same rfl rfl⟩
theorem mx_callW {rest st0 : List Value} {rr : mx_Rt} {aa : Array Value} {H : Heap} {locs : List Loc} {ls : Array Slot} (hr : va_Run p l e R s m args below meth c H locs cells slots 0 0 (F0 m pc ls st0) rest (mx_Q g rr aa) (mx_A g)) (hS : va_S (mx_A g) s.heap H locs) (kk : ∀ (H1 : Heap) (locs1 : List Loc), va_P g.2.1 vwCl (mx_ws g rr.2) H1 → va_S (mx_A g) s.heap H1 locs1 → W p l e R s m args below meth c H1 locs1 cells slots Q (F0 m (pc + 3) ls ((rr.1.map (mx_rv g)).toList ++ rest))) : W p l e R s m args below meth c H locs cells slots Q (F0 m pc ls st0) := by
  intro T hT X
  obtain ⟨v, st₀, t, T', Lc, h0, X', hL, e1, e2, ⟨hv, hP1, hz, hk⟩, st⟩ := hr T hT X
  have hv : v = rr.1.map (mx_rv g) := by injection hv
  subst hv
  rw [h0] at hz hk
  obtain ⟨t2, a1, b1⟩ := kk T'.heap (locs ++ Lc) (by rw [e1]; exact hP1) ⟨Nat.le_trans hS.1 (by rw [e1]; exact hz), fun q h1 h2 => by rw [e1, hk q (Nat.lt_of_lt_of_le h1 hS.1) h2]; exact hS.2.1 q h1 h2, fun q hq => by
    rcases List.mem_append.mp hq with h | h
    · exact hS.2.2 q h
    · exact hL q h⟩ T' rfl X'
  exact ⟨t2, st t2 a1, b1⟩
theorem lw_gd_good : GoodIn lw_gd lw_gd := fun w h => ⟨h, good_of_word (List.mem_filter.mp h).2⟩
theorem mx_good {y : Nat} (h : Cond.code (mx_mN y) (mx_mC y) (mx_nl y) (mx_mR y) ∈ lw_gd) : GoodIn lw_gd (mx_wy y) := fun w hw => (List.mem_cons.mp hw).elim (fun e => e ▸ lw_gd_good _ h) (fun e => lw_gd_good _ e)
theorem mx_catle {v : mx_V} (hq : g.2.2.2.category = 1) : (mx_rv g v).category ≤ 2 := by
  rcases v with x | x | x
  · exact Nat.le_succ 1
  · exact Nat.le_refl 2
  · show (if x.2 = mx_oQ then g.2.2.2 else Value.ref (g.1 x.1 x.2)).category ≤ 2
    split
    · omega
    · exact Nat.le_succ 1
theorem mx_sum (hq : g.2.2.2.category = 1) : ∀ (st : List mx_V), ((st.map (mx_rv g)).map fun v => v.category).sum ≤ 2 * st.length
  | [] => Nat.le_refl 0
  | v :: st => by
    have h1 := mx_sum hq st
    have h2 := mx_catle (g := g) (v := v) hq
    simp only [List.map_cons, List.sum_cons, List.length_cons]
    omega
/-- the words of a method, as a call of it wants them -/
def mx_mok (y : Nat) : Prop := Cond.code (mx_mN y) (mx_mC y) (mx_nl y) (mx_mR y) ∈ lw_gd ∧ Cond.initialized (mx_mN y).cls ∈ lw_gd ∧ (mx_mN y).cls ≠ "java/lang/invoke/MethodHandle" ∧ (mx_mN y).cls ≠ "java/lang/invoke/VarHandle"
theorem sd_callV (C : mx_Cx p R s m args c cells slots cc nL own g L xs Y) {y' : Nat} {v0 : mx_V} {as rest : List mx_V} {rr : mx_Rt} {ad0 : Nat} {host : String} (hY : y' < Y) (hwd : mx_wd (v0 :: as) ≤ mx_nl y') (hOK : mx_OK l y' (v0 :: as) σ rr) (hm : mx_mok y') (hn : (parseMethodDescriptor (mx_mN y').desc).map (fun d => d.parameters.length) = some as.length) (hi : Cond.instanceMethod (mx_mN y') ∈ lw_gd) (hse : Cond.selects (mx_mN y').cls (mx_mN y') (mx_mN y') ∈ lw_gd) (hl : Cond.methodLink own x0 (mx_mN y') ∈ lw_gd ∨ va_Nw (.methodLinkNest own x0 (mx_mN y') host) s) (hd : decode cc pc = .ok (.invokevirtual x0, 3)) (h4 : rest.length ≤ 4) (hstk : stk = (v0 :: as).reverse ++ rest) (hv0 : mx_rv g v0 = .ref ad0)
    (hrc : ∀ H locs, va_P g.2.1 vwCl (mx_ws g σ) H → va_S (mx_A g) s.heap H locs → ∃ cell : Cell, H[ad0]? = some cell ∧ cell.vm.isStatics = false ∧ s.vm.findClass (mx_mN y').cls = some cell.cls)
    (hX : ∀ k j, rr.2 k mx_oX j = σ k mx_oX j) (hrv : ∀ v, rr.1 = some v → mx_okV v) (kk : mx_W p l e R s m args below meth c cells slots Q nL g L xs (pc + 3) loc (rr.1.toList ++ rest) rr.2) : mx_W p l e R s m args below meth c cells slots Q nL g L xs pc loc stk σ := by
  obtain ⟨hx, hb, hml, hown, hts, hF, hinj, hq, hcs, hL31, hR1, hRY⟩ := C
  intro H ls locs hP hS hv hs hlo hc
  obtain ⟨hcode, hini, hc1, hc2⟩ := hm
  subst hstk
  have hs1 : ∀ v ∈ v0 :: as, mx_okV v := fun v h => hs v (List.mem_append_left _ (List.mem_reverse.mpr h))
  have hs2 : ∀ v ∈ rest, mx_okV v := fun v h => hs v (List.mem_append_right _ h)
  have hM := hOK g L xs hinj hq hL31 hs1 hwd hc
  have hPre : PreV s H (mx_mN y').cls ad0 (mx_Pc g L xs (v0 :: as) σ) (as.map (mx_rv g)) := ⟨mx_blind, hrc H locs hP hS, fun U hU hW => ⟨by rw [List.map_cons, hv0], by rw [hU]; exact hP, hF.warm hW hU hS⟩⟩
  have hstk : ((v0 :: as).reverse ++ rest).map (mx_rv g) = (as.map (mx_rv g)).reverse ++ .ref ad0 :: rest.map (mx_rv g) := by
    rw [List.map_append, List.reverse_cons, List.map_append, List.map_reverse, List.append_assoc]
    show _ ++ (mx_rv g v0 :: _) = _
    rw [hv0]
    rfl
  have hrun : va_Run p l e R s m args below meth c H locs cells slots 0 0 (F0 m pc ls (((v0 :: as).reverse ++ rest).map (mx_rv g))) (rest.map (mx_rv g)) (mx_Q g rr (Value.ref ad0 :: as.map (mx_rv g)).toArray) (mx_A g) := by
    rcases hl with hl | hl
    · exact va_runV (g := F0 m pc ls (((v0 :: as).reverse ++ rest).map (mx_rv g))) (As := as.map (mx_rv g)) (rest := rest.map (mx_rv g)) (b := ad0) (C := (mx_mN y').cls) ⟨hx, hb, hml, hown, hts⟩ hM ⟨callB_of as.length hts (mx_good hcode) rfl rfl rfl (hts _ hini) (hts _ hl) ⟨hc1, hc2, hn⟩ (hRY y' hY), hts _ hi, hts _ hse⟩ hPre rfl (by rw [List.length_map]) hv.1 hstk (lv_room (Nat.le_trans (mx_sum hq rest) (by omega))) hd ⟨hcs.1, hcs.2⟩
    · exact va_runVN (g := F0 m pc ls (((v0 :: as).reverse ++ rest).map (mx_rv g))) (As := as.map (mx_rv g)) (rest := rest.map (mx_rv g)) (b := ad0) (C := (mx_mN y').cls) (host := host) ⟨hx, hb, hml, hown, hts⟩ hM ⟨va_cnB as.length hts (mx_good hcode) rfl rfl rfl hl (hts _ hini) ⟨hc1, hc2, hn⟩ (hRY y' hY), hts _ hi, hts _ hse⟩ hPre rfl (by rw [List.length_map]) hv.1 hstk (lv_room (Nat.le_trans (mx_sum hq rest) (by omega))) hd ⟨hcs.1, hcs.2⟩
  refine mx_callW (rr := rr) hrun hS (fun H1 locs1 hP1 hS1 => ?_)
  have k1 := kk H1 ls locs1 hP1 hS1 hv (fun v h => by
    rcases List.mem_append.mp h with h | h
    · exact hrv v (Option.mem_toList.mp h)
    · exact hs2 v h) hlo ⟨by rw [hX]; exact hc.1, fun j hj => by rw [hX]; exact hc.2 j hj⟩
  have e1 : (rr.1.toList ++ rest).map (mx_rv g) = (rr.1.map (mx_rv g)).toList ++ rest.map (mx_rv g) := by
    rw [List.map_append]
    cases rr.1 <;> rfl
  rw [e1] at k1
  exact k1
theorem sd_callS (C : mx_Cx p R s m args c cells slots cc nL own g L xs Y) {y' : Nat} {as rest : List mx_V} {rr : mx_Rt} {host : String} (hY : y' < Y) (hwd : mx_wd as ≤ mx_nl y') (hOK : mx_OK l y' as σ rr) (hm : mx_mok y') (hn : (parseMethodDescriptor (mx_mN y').desc).map (fun d => d.parameters.length) = some as.length) (hi : Cond.static (mx_mN y') ∈ lw_gd) (hl : Cond.methodLink own x0 (mx_mN y') ∈ lw_gd ∨ va_Nw (.methodLinkNest own x0 (mx_mN y') host) s) (hd : decode cc pc = .ok (.invokestatic x0, 3)) (h4 : rest.length ≤ 4) (hstk : stk = as.reverse ++ rest)
    (hX : ∀ k j, rr.2 k mx_oX j = σ k mx_oX j) (hrv : ∀ v, rr.1 = some v → mx_okV v) (kk : mx_W p l e R s m args below meth c cells slots Q nL g L xs (pc + 3) loc (rr.1.toList ++ rest) rr.2) : mx_W p l e R s m args below meth c cells slots Q nL g L xs pc loc stk σ := by
  obtain ⟨hx, hb, hml, hown, hts, hF, hinj, hq, hcs, hL31, hR1, hRY⟩ := C
  intro H ls locs hP hS hv hs hlo hc
  obtain ⟨hcode, hini, hc1, hc2⟩ := hm
  subst hstk
  have hs1 : ∀ v ∈ as, mx_okV v := fun v h => hs v (List.mem_append_left _ (List.mem_reverse.mpr h))
  have hs2 : ∀ v ∈ rest, mx_okV v := fun v h => hs v (List.mem_append_right _ h)
  have hM := hOK g L xs hinj hq hL31 hs1 hwd hc
  have hPre : PreS s H (mx_Pc g L xs as σ) (as.map (mx_rv g)) := ⟨mx_blind, fun U hU hW => ⟨rfl, by rw [hU]; exact hP, hF.warm hW hU hS⟩⟩
  have hstk : (as.reverse ++ rest).map (mx_rv g) = (as.map (mx_rv g)).reverse ++ rest.map (mx_rv g) := by rw [List.map_append, List.map_reverse]
  have hrun : va_Run p l e R s m args below meth c H locs cells slots 0 0 (F0 m pc ls ((as.reverse ++ rest).map (mx_rv g))) (rest.map (mx_rv g)) (mx_Q g rr (as.map (mx_rv g)).toArray) (mx_A g) := by
    rcases hl with hl | hl
    · exact va_runS (g := F0 m pc ls ((as.reverse ++ rest).map (mx_rv g))) (As := as.map (mx_rv g)) (rest := rest.map (mx_rv g)) ⟨hx, hb, hml, hown, hts⟩ hM ⟨callB_of as.length hts (mx_good hcode) rfl rfl rfl (hts _ hini) (hts _ hl) ⟨hc1, hc2, hn⟩ (hRY y' hY), hts _ hi⟩ hPre rfl (by rw [List.length_map]) hv.1 hstk (lv_room (Nat.le_trans (mx_sum hq rest) (by omega))) hd ⟨hcs.1, hcs.2⟩
    · exact va_runSN (g := F0 m pc ls ((as.reverse ++ rest).map (mx_rv g))) (As := as.map (mx_rv g)) (rest := rest.map (mx_rv g)) (host := host) ⟨hx, hb, hml, hown, hts⟩ hM ⟨va_cnB as.length hts (mx_good hcode) rfl rfl rfl hl (hts _ hini) ⟨hc1, hc2, hn⟩ (hRY y' hY), hts _ hi, trivial⟩ hPre rfl (by rw [List.length_map]) hv.1 hstk (lv_room (Nat.le_trans (mx_sum hq rest) (by omega))) hd ⟨hcs.1, hcs.2⟩
  refine mx_callW (rr := rr) hrun hS (fun H1 locs1 hP1 hS1 => ?_)
  have k1 := kk H1 ls locs1 hP1 hS1 hv (fun v h => by
    rcases List.mem_append.mp h with h | h
    · exact hrv v (Option.mem_toList.mp h)
    · exact hs2 v h) hlo ⟨by rw [hX]; exact hc.1, fun j hj => by rw [hX]; exact hc.2 j hj⟩
  have e1 : (rr.1.toList ++ rest).map (mx_rv g) = (rr.1.map (mx_rv g)).toList ++ rest.map (mx_rv g) := by
    rw [List.map_append]
    cases rr.1 <;> rfl
  rw [e1] at k1
  exact k1
theorem sd_ldcS (C : mx_Cx p R s m args c cells slots cc nL own g L xs Y) (ho : own = RX4) (ha : a < 9) (hp : x0 = mx_nth mx_sPT a) (hd : decode cc pc = .ok (.ldc x0, 2)) (kk : mx_W p l e R s m args below meth c cells slots Q nL g L xs (pc + 2) loc (Sum.inr (Sum.inr (a, mx_oS)) :: stk) σ) : mx_W p l e R s m args below meth c cells slots Q nL g L xs pc loc stk σ := by
  obtain ⟨hx, hb, hml, hown, hts, hF, hinj, hq, -⟩ := C
  intro H ls locs hP hS hv hs hlo hc
  subst ho
  subst hp
  exact va_ldcS hx hb hown (hF.2.2.1 a ha) hd (kk H ls locs hP hS hv (List.forall_mem_cons.mpr ⟨Or.inr (Or.inl ⟨Or.inl rfl, ha⟩), hs⟩) hlo hc)
theorem sd_copy (C : mx_Cx p R s m args c cells slots cc nL own g L xs Y) {k o k1 o1 : Nat} {n dp sp : Int32} (hd : decode cc pc = .ok (.invokestatic x0, 3)) (hl : Cond.methodLink own x0 arraycopyName ∈ lw_gd) (hnat : Cond.native arraycopyName ∈ lw_gd) (hst : Cond.static arraycopyName ∈ lw_gd) (hini : Cond.initialized "java/lang/System" ∈ lw_gd) (ht : mx_aT o = 1) (ht1 : mx_aT o1 = 1) (hk : k < mx_kM o) (hk1 : k1 < mx_kM o1) (h4 : r.length ≤ 4) (kk : mx_c σ sp dp k o n k1 o1 False (fun σ => mx_W p l e R s m args below meth c cells slots Q nL g L xs (pc + 3) loc r σ)) : mx_W p l e R s m args below meth c cells slots Q nL g L xs pc loc (Sum.inl n :: Sum.inl dp :: Sum.inr (Sum.inr (k1, o1)) :: Sum.inl sp :: Sum.inr (Sum.inr (k, o)) :: r) σ := by
  obtain ⟨hx, hb, hml, hown, hts, hF, hinj, hq, hcs, hL31, hR1, hRY⟩ := C
  intro H ls locs hP hS hv hs hlo hc
  obtain ⟨-, hs⟩ := List.forall_mem_cons.mp hs
  obtain ⟨-, hs⟩ := List.forall_mem_cons.mp hs
  obtain ⟨-, hs⟩ := List.forall_mem_cons.mp hs
  obtain ⟨-, hs⟩ := List.forall_mem_cons.mp hs
  obtain ⟨-, hs⟩ := List.forall_mem_cons.mp hs
  obtain ⟨i, hi⟩ := mx_at hk
  obtain ⟨i1, hi1⟩ := mx_at hk1
  have he : (mx_ws g σ)[i]? = some (g.1 k o, .inl (g.2.2.1 1, mx_aN o, .inl (σ k o))) := by rw [mx_ws_at hi, mx_arr (by omega) (mx_kM_lt hk), ht]; rfl
  have he1 : (mx_ws g σ)[i1]? = some (g.1 k1 o1, .inl (g.2.2.1 1, mx_aN o1, .inl (σ k1 o1))) := by rw [mx_ws_at hi1, mx_arr (by omega) (mx_kM_lt hk1), ht1]; rfl
  unfold mx_c at kk
  split at kk
  · exact kk.elim
  · rename_i hin
    simp only [not_or] at hin
    obtain ⟨q1, q2, q3, q4, q5⟩ := hin
    rw [List.map_cons, List.map_cons, List.map_cons, List.map_cons, List.map_cons, mx_rv_ref hk, mx_rv_ref hk1]
    refine va_copyi hx hb (by rw [hml]; exact hv.1.symm) hown (hts _ hl) (hts _ hnat) (hts _ hst) (hts _ hini) hF.1 hP (mx_Dof hinj σ) hS i i1 0 0 (ty := .int) he he1 rfl rfl rfl q1 q2 q3 (by omega) (by omega) (fun _ _ => rfl) hR1.1 ?_ hd (fun H1 locs1 hP1 hD1 hS1 => ?_)
    · have := mx_sum (g := g) hq r
      have e7 : nativeFrameWords "java/lang/System" "arraycopy" 5 = 7 := by decide +kernel
      omega
    · have ew : (mx_ws g σ).set i1 (g.1 k1 o1, .inl (g.2.2.1 1, mx_aN o1, .inl (va_cpy (σ k o) (σ k1 o1) sp.toNatClampNeg dp.toNatClampNeg n.toNatClampNeg))) = mx_ws g (mx_cp σ k o k1 o1 sp.toNatClampNeg dp.toNatClampNeg n.toNatClampNeg) := by
        refine mx_ws_set hi1 ?_ (fun k' o' h => mx_cell_congr ?_)
        · have e2 : mx_cp σ k o k1 o1 sp.toNatClampNeg dp.toNatClampNeg n.toNatClampNeg k1 o1 = va_cpy (σ k o) (σ k1 o1) sp.toNatClampNeg dp.toNatClampNeg n.toNatClampNeg := by
            funext j
            exact if_pos ⟨rfl, rfl⟩
          rw [mx_arr (by omega) (mx_kM_lt hk1), ht1, if_pos (by omega), e2]
        · funext j
          exact if_neg (fun q => h (by rw [q.1, q.2]))
      rw [ew] at hP1
      have ho5 := mx_kM_lt hk1
      have hX : ∀ k' j, mx_cp σ k o k1 o1 sp.toNatClampNeg dp.toNatClampNeg n.toNatClampNeg k' mx_oX j = σ k' mx_oX j := fun k' j => if_neg (fun q => absurd (show mx_oX < 55 by rw [q.2]; exact ho5) (by decide))
      exact kk H1 ls locs1 hP1 hS1 hv hs hlo ⟨by rw [hX]; exact hc.1, fun j hj => by rw [hX]; exact hc.2 j hj⟩
theorem sd_gets1 (C : mx_Cx p R s m args c cells slots cc nL own g L xs Y) (hd : decode cc pc = .ok (.getstatic x0, 3)) (hw : Cond.fieldLink own x0 "java/lang/String" "COMPACT_STRINGS" "Z" ∈ lw_gd) (kk : mx_W p l e R s m args below meth c cells slots Q nL g L xs (pc + 3) loc (Sum.inl 1 :: stk) σ) : mx_W p l e R s m args below meth c cells slots Q nL g L xs pc loc stk σ := by
  obtain ⟨hx, hb, hml, hown, hts, hF, hinj, hq, -⟩ := C
  intro H ls locs hP hS hv hs hlo hc
  exact va_gets hx hb hF.2.2.2.1 hS hown (hts _ hw) (fun _ h => h) hd (kk H ls locs hP hS hv (List.forall_mem_cons.mpr ⟨trivial, hs⟩) hlo hc)
theorem sd_gets2 (C : mx_Cx p R s m args c cells slots cc nL own g L xs Y) (hd : decode cc pc = .ok (.getstatic x0, 3)) (hw : Cond.fieldLink own x0 "jdk/internal/util/Preconditions" "SIOOBE_FORMATTER" "Ljava/util/function/BiFunction;" ∈ lw_gd) (kk : mx_W p l e R s m args below meth c cells slots Q nL g L xs (pc + 3) loc (Sum.inr (Sum.inr (0, mx_oQ)) :: stk) σ) : mx_W p l e R s m args below meth c cells slots Q nL g L xs pc loc stk σ := by
  obtain ⟨hx, hb, hml, hown, hts, hF, hinj, hq, -⟩ := C
  intro H ls locs hP hS hv hs hlo hc
  exact va_gets hx hb hF.2.2.2.2.1 hS hown (hts _ hw) (fun _ h => h) hd (kk H ls locs hP hS hv (List.forall_mem_cons.mpr ⟨Or.inr (Or.inr (Or.inl rfl)), hs⟩) hlo hc)
theorem sd_sval (C : mx_Cx p R s m args c cells slots cc nL own g L xs Y) {k : Nat} (hk : k < 9) (hd : decode cc pc = .ok (.getfield x0, 3)) (hw : Cond.fieldLink own x0 "java/lang/String" "value" "[B" ∈ lw_gd) (kk : mx_W p l e R s m args below meth c cells slots Q nL g L xs (pc + 3) loc (Sum.inr (Sum.inr (k, mx_oB)) :: r) σ) : mx_W p l e R s m args below meth c cells slots Q nL g L xs pc loc (Sum.inr (Sum.inr (k, mx_oS)) :: r) σ := by
  obtain ⟨hx, hb, hml, hown, hts, hF, hinj, hq, -⟩ := C
  intro H ls locs hP hS hv hs hlo hc
  obtain ⟨-, hs⟩ := List.forall_mem_cons.mp hs
  exact vk_getf hx hb (hF.2.1.1 k hk).2.2.1 hS hown (hts _ hw) (fun _ h => h) hd (kk H ls locs hP hS hv (List.forall_mem_cons.mpr ⟨Or.inr (Or.inl ⟨Or.inr rfl, hk⟩), hs⟩) hlo hc)
theorem sd_scod (C : mx_Cx p R s m args c cells slots cc nL own g L xs Y) {k : Nat} (hk : k < 9) (hd : decode cc pc = .ok (.getfield x0, 3)) (hw : Cond.fieldLink own x0 "java/lang/String" "coder" "B" ∈ lw_gd) (kk : mx_W p l e R s m args below meth c cells slots Q nL g L xs (pc + 3) loc (Sum.inl 0 :: r) σ) : mx_W p l e R s m args below meth c cells slots Q nL g L xs pc loc (Sum.inr (Sum.inr (k, mx_oS)) :: r) σ := by
  obtain ⟨hx, hb, hml, hown, hts, hF, hinj, hq, -⟩ := C
  intro H ls locs hP hS hv hs hlo hc
  obtain ⟨-, hs⟩ := List.forall_mem_cons.mp hs
  exact vk_getf hx hb (hF.2.1.1 k hk).2.1 hS hown (hts _ hw) (fun _ h => h) hd (kk H ls locs hP hS hv (List.forall_mem_cons.mpr ⟨trivial, hs⟩) hlo hc)
theorem sd_slen (C : mx_Cx p R s m args c cells slots cc nL own g L xs Y) {k : Nat} (hk : k < 9) (hd : decode cc pc = .ok (.arraylength, 1)) (kk : mx_W p l e R s m args below meth c cells slots Q nL g L xs (pc + 1) loc (Sum.inl (Int32.ofNat (mx_sN k)) :: r) σ) : mx_W p l e R s m args below meth c cells slots Q nL g L xs pc loc (Sum.inr (Sum.inr (k, mx_oB)) :: r) σ := by
  obtain ⟨hx, hb, hml, hown, hts, hF, hinj, hq, -⟩ := C
  intro H ls locs hP hS hv hs hlo hc
  obtain ⟨-, hs⟩ := List.forall_mem_cons.mp hs
  exact va_tlen hx hb (hF.2.1.1 k hk).2.2.2 hS (by rw [mx_sN_at k hk]) hd (kk H ls locs hP hS hv (List.forall_mem_cons.mpr ⟨trivial, hs⟩) hlo hc)
theorem sd_sbyt (C : mx_Cx p R s m args c cells slots cc nL own g L xs Y) {k : Nat} {i : Int32} (hk : k < 9) (hd : decode cc pc = .ok (.baload, 1)) (kk : mx_g False i (mx_sN k) (fun j => mx_W p l e R s m args below meth c cells slots Q nL g L xs (pc + 1) loc (Sum.inl (mx_sB k j) :: r) σ)) : mx_W p l e R s m args below meth c cells slots Q nL g L xs pc loc (Sum.inl i :: Sum.inr (Sum.inr (k, mx_oB)) :: r) σ := by
  obtain ⟨hx, hb, hml, hown, hts, hF, hinj, hq, -⟩ := C
  intro H ls locs hP hS hv hs hlo hc
  obtain ⟨-, hs⟩ := List.forall_mem_cons.mp hs
  obtain ⟨-, hs⟩ := List.forall_mem_cons.mp hs
  unfold mx_g at kk
  split at kk
  · exact kk.elim
  · rename_i hin
    have hj : i.toNatClampNeg < mx_sN k := Nat.not_le.mp fun q => hin (Or.inr q)
    exact va_tb hx hb (hF.2.1.1 k hk).2.2.2 hS (i := i) (by rw [mx_sN_at k hk]; exact hin) (by rw [mx_sB_at k hk _ hj]; rfl) hd (kk H ls locs hP hS hv (List.forall_mem_cons.mpr ⟨trivial, hs⟩) hlo hc)
theorem sd_xld (C : mx_Cx p R s m args c cells slots cc nL own g L xs Y) {i : Int32} (hd : decode cc pc = .ok (.iaload, 1)) (kk : mx_g False i (σ 0 mx_oX 0).toNatClampNeg (fun j => mx_W p l e R s m args below meth c cells slots Q nL g L xs (pc + 1) loc (Sum.inl (σ 1 mx_oX j) :: r) σ)) : mx_W p l e R s m args below meth c cells slots Q nL g L xs pc loc (Sum.inl i :: Sum.inr (Sum.inr (0, mx_oX)) :: r) σ := by
  obtain ⟨hx, hb, hml, hown, hts, hF, hinj, hq, hcs, hL31, -⟩ := C
  intro H ls locs hP hS hv hs hlo hc
  obtain ⟨-, hs⟩ := List.forall_mem_cons.mp hs
  obtain ⟨-, hs⟩ := List.forall_mem_cons.mp hs
  rw [hc.1, show (Int32.ofNat L).toNatClampNeg = L from nI_clamp hL31] at kk
  unfold mx_g at kk
  split at kk
  · exact kk.elim
  · rename_i hin
    have hj : i.toNatClampNeg < L := Nat.not_le.mp fun q => hin (Or.inr q)
    rw [hc.2 _ hj] at kk
    exact va_sld hx hb hF.2.2.2.2.2.1 hF.2.2.2.2.2.2.1 hF.2.2.2.2.2.2.2.1 hS hin hd (kk H ls locs hP hS hv (List.forall_mem_cons.mpr ⟨trivial, hs⟩) hlo hc)
theorem sd_xlen (C : mx_Cx p R s m args c cells slots cc nL own g L xs Y) (hd : decode cc pc = .ok (.arraylength, 1)) (kk : mx_W p l e R s m args below meth c cells slots Q nL g L xs (pc + 1) loc (Sum.inl (σ 0 mx_oX 0) :: r) σ) : mx_W p l e R s m args below meth c cells slots Q nL g L xs pc loc (Sum.inr (Sum.inr (0, mx_oX)) :: r) σ := by
  obtain ⟨hx, hb, hml, hown, hts, hF, hinj, hq, hcs, hL31, -⟩ := C
  intro H ls locs hP hS hv hs hlo hc
  obtain ⟨-, hs⟩ := List.forall_mem_cons.mp hs
  have k1 := kk H ls locs hP hS hv (List.forall_mem_cons.mpr ⟨trivial, hs⟩) hlo hc
  rw [hc.1] at k1
  exact va_slen hx hb hF.2.2.2.2.2.1 hF.2.2.2.2.2.2.1 hF.2.2.2.2.2.2.2.1 hS hd k1
theorem mx_mthw : (Cond.static Lib.Math.min.name ∈ lw_gd ∧ Cond.code Lib.Math.min.name Lib.Math.min.code 2 (some .int) ∈ lw_gd) ∧ (Cond.static Lib.Math.max.name ∈ lw_gd ∧ Cond.code Lib.Math.max.name Lib.Math.max.code 2 (some .int) ∈ lw_gd) ∧ (Cond.static Lib.Math.abs.name ∈ lw_gd ∧ Cond.code Lib.Math.abs.name Lib.Math.abs.code 1 (some .int) ∈ lw_gd) ∧ Cond.initialized "java/lang/Math" ∈ lw_gd := ⟨⟨lw_gd_of (k := 614) (by decide +kernel), lw_gd_of (k := 615) (by decide +kernel)⟩, ⟨lw_gd_of (k := 801) (by decide +kernel), lw_gd_of (k := 802) (by decide +kernel)⟩, ⟨lw_gd_of (k := 817) (by decide +kernel), lw_gd_of (k := 818) (by decide +kernel)⟩, lw_gd_of (k := 107) (by decide +kernel)⟩
theorem sd_mmin (C : mx_Cx p R s m args c cells slots cc nL own g L xs Y) (hd : decode cc pc = .ok (.invokestatic x0, 3)) (hl : Cond.methodLink own x0 Lib.Math.min.name ∈ lw_gd) (h4 : r.length ≤ 4) (kk : mx_W p l e R s m args below meth c cells slots Q nL g L xs (pc + 3) loc (Sum.inl (if y < x then y else x) :: r) σ) : mx_W p l e R s m args below meth c cells slots Q nL g L xs pc loc (Sum.inl y :: Sum.inl x :: r) σ := by
  obtain ⟨hx, hb, hml, hown, hts, hF, hinj, hq, hcs, hL31, hR1, hRY⟩ := C
  intro H ls locs hP hS hv hs hlo hc
  obtain ⟨-, hs⟩ := List.forall_mem_cons.mp hs
  obtain ⟨-, hs⟩ := List.forall_mem_cons.mp hs
  have hsum := mx_sum (g := g) hq r
  exact va_mmin hx hb (by rw [hml]; exact hv.1.symm) hown (hts _ hl) (hts _ mx_mthw.1.1) (hts _ mx_mthw.2.2.2) (hts _ mx_mthw.1.2) hR1.1 (by omega) hcs.1 hcs.2 hd (kk H ls locs hP hS hv (List.forall_mem_cons.mpr ⟨trivial, hs⟩) hlo hc)
theorem sd_mmax (C : mx_Cx p R s m args c cells slots cc nL own g L xs Y) (hd : decode cc pc = .ok (.invokestatic x0, 3)) (hl : Cond.methodLink own x0 Lib.Math.max.name ∈ lw_gd) (h4 : r.length ≤ 4) (kk : mx_W p l e R s m args below meth c cells slots Q nL g L xs (pc + 3) loc (Sum.inl (if x < y then y else x) :: r) σ) : mx_W p l e R s m args below meth c cells slots Q nL g L xs pc loc (Sum.inl y :: Sum.inl x :: r) σ := by
  obtain ⟨hx, hb, hml, hown, hts, hF, hinj, hq, hcs, hL31, hR1, hRY⟩ := C
  intro H ls locs hP hS hv hs hlo hc
  obtain ⟨-, hs⟩ := List.forall_mem_cons.mp hs
  obtain ⟨-, hs⟩ := List.forall_mem_cons.mp hs
  have hsum := mx_sum (g := g) hq r
  exact va_mmax hx hb (by rw [hml]; exact hv.1.symm) hown (hts _ hl) (hts _ mx_mthw.2.1.1) (hts _ mx_mthw.2.2.2) (hts _ mx_mthw.2.1.2) hR1.1 (by omega) hcs.1 hcs.2 hd (kk H ls locs hP hS hv (List.forall_mem_cons.mpr ⟨trivial, hs⟩) hlo hc)
theorem sd_mabs (C : mx_Cx p R s m args c cells slots cc nL own g L xs Y) (hd : decode cc pc = .ok (.invokestatic x0, 3)) (hl : Cond.methodLink own x0 Lib.Math.abs.name ∈ lw_gd) (h4 : r.length ≤ 4) (kk : mx_W p l e R s m args below meth c cells slots Q nL g L xs (pc + 3) loc (Sum.inl (if 0 ≤ x then x else 0 - x) :: r) σ) : mx_W p l e R s m args below meth c cells slots Q nL g L xs pc loc (Sum.inl x :: r) σ := by
  obtain ⟨hx, hb, hml, hown, hts, hF, hinj, hq, hcs, hL31, hR1, hRY⟩ := C
  intro H ls locs hP hS hv hs hlo hc
  obtain ⟨-, hs⟩ := List.forall_mem_cons.mp hs
  have hsum := mx_sum (g := g) hq r
  exact va_mabs hx hb (by rw [hml]; exact hv.1.symm) hown (hts _ hl) (hts _ mx_mthw.2.2.1.1) (hts _ mx_mthw.2.2.2) (hts _ mx_mthw.2.2.1.2) hR1.1 (by omega) hcs.1 hcs.2 hd (kk H ls locs hP hS hv (List.forall_mem_cons.mpr ⟨trivial, hs⟩) hlo hc)
end Sd
end
section
/-! ===== the check of a method's table against its bytecode ===== -/
def mx_dq (cc : ByteArray) (pc : Nat) (i : Instr) (n : Nat) : Bool := decide (decode cc pc = .ok (i, n))
def mx_hw (k : Nat) (w : Cond) : Bool := decide (lw_tbl[k]? = some w) && goodWord w
theorem mx_dq_of {cc : ByteArray} {pc : Nat} {i : Instr} {n : Nat} (h : mx_dq cc pc i n = true) : decode cc pc = .ok (i, n) := of_decide_eq_true h
theorem mx_hw_of {k : Nat} {w : Cond} (h : mx_hw k w = true) : w ∈ lw_gd := lw_gd_of h
def mx_pC : List Nat := [865, 869, 844, 881, 877, 885, 890, 903, 907, 856, 894, 873, 861, 899, 856, 756, 753, 744, 446, 659, 695, 433, 690, 703, 699, 686, 711, 707, 748, 682, 831, 738, 635, 640, 631, 826, 541, 552, 547, 544, 537, 531, 527, 598, 626, 607, 588, 497, 480, 506, 510, 501, 523, 485, 519, 575, 579, 514, 583, 592, 602, 619, 611, 493, 649, 655, 645, 723, 450, 438, 848, 852, 771, 767, 677, 734, 763, 458, 466, 920, 916, 815, 810, 806, 473, 668, 664, 477, 799, 673, 795, 791, 489, 787, 822, 840, 779, 783, 836, 727, 443, 430, 715, 731, 462, 454, 924, 775, 912, 719, 1176, 1172, 1226, 1230, 1222, 1042, 1251, 1332, 1340, 1048, 1336, 1356, 1352, 1360, 1348, 1344, 1108, 1084, 1088, 1091, 1080, 1076, 1104, 1133, 1168, 1214, 1210, 1218, 1206, 1234, 1164, 1238, 1202, 1198, 1270, 1267, 1278, 1262, 1274, 1038, 1057, 1368, 1188, 1316, 1310, 1061, 1184, 1180, 1065, 1116, 1306, 1192, 1302, 1099, 1112, 1120, 1095, 1125, 1129, 1138, 1144, 1152, 1149, 1160, 1072, 1298, 1294, 1320, 1328, 1286, 1290, 1324, 1255, 1035, 1242, 1259, 1053, 1372, 1282, 1364, 1247, 0]
def mx_pI : List Nat := [98, 98, 97, 98, 98, 98, 98, 98, 98, 98, 98, 98, 98, 98, 98, 108, 97, 97, 101, 97, 97, 92, 97, 97, 97, 97, 97, 97, 97, 97, 97, 94, 95, 96, 94, 94, 103, 105, 103, 104, 103, 103, 103, 95, 95, 95, 95, 95, 92, 93, 93, 93, 93, 93, 93, 93, 93, 93, 93, 93, 93, 93, 93, 93, 96, 96, 96, 92, 92, 92, 92, 92, 92, 92, 92, 92, 92, 99, 92, 92, 92, 92, 92, 92, 92, 92, 92, 92, 92, 92, 92, 92, 92, 92, 92, 92, 92, 92, 92, 92, 99, 92, 92, 92, 99, 92, 92, 92, 92, 92, 100, 100, 100, 100, 100, 100, 100, 100, 100, 100, 100, 100, 100, 100, 100, 100, 100, 100, 100, 100, 100, 100, 100, 100, 100, 100, 100, 100, 100, 100, 100, 100, 100, 100, 100, 100, 100, 100, 100, 100, 100, 100, 100, 100, 100, 100, 100, 100, 100, 100, 100, 100, 100, 100, 100, 100, 100, 100, 100, 100, 100, 100, 100, 100, 100, 100, 100, 100, 100, 100, 100, 100, 100, 100, 100, 100, 100, 100, 100, 100, 100, 91]
def mx_pT : List Nat := [0, 0, 0, 0, 0, 0, 0, 0, 0, 0, 0, 0, 0, 0, 0, 1, 0, 0, 1, 0, 0, 1, 0, 0, 0, 0, 0, 0, 0, 0, 0, 0, 0, 0, 0, 0, 0, 1, 1, 1, 0, 0, 0, 0, 0, 0, 0, 0, 1, 0, 0, 0, 0, 0, 0, 0, 0, 0, 0, 0, 0, 0, 0, 0, 0, 0, 0, 0, 0, 0, 0, 0, 0, 0, 0, 1, 0, 0, 0, 0, 0, 0, 0, 0, 0, 0, 0, 0, 0, 0, 0, 0, 0, 0, 0, 0, 0, 0, 0, 0, 0, 0, 0, 0, 0, 0, 0, 0, 0, 0, 0, 0, 0, 0, 0, 1, 0, 0, 1, 0, 0, 0, 0, 0, 0, 0, 0, 0, 1, 1, 0, 0, 0, 0, 0, 0, 0, 0, 0, 0, 0, 0, 0, 0, 1, 0, 0, 1, 0, 1, 0, 0, 0, 0, 0, 0, 0, 0, 0, 0, 0, 0, 0, 0, 0, 0, 0, 0, 0, 0, 0, 1, 0, 0, 0, 0, 0, 0, 0, 0, 0, 0, 0, 0, 0, 0, 0, 0, 0, 0, 0, 1]
def mx_pM : List Nat := [864, 868, 842, 880, 876, 884, 889, 902, 906, 855, 893, 872, 860, 898, 855, 755, 751, 742, 445, 657, 694, 432, 689, 702, 698, 685, 710, 706, 746, 680, 829, 736, 633, 638, 629, 824, 539, 551, 546, 543, 535, 529, 525, 596, 624, 605, 586, 495, 479, 505, 509, 500, 522, 483, 518, 574, 578, 513, 582, 591, 601, 618, 610, 491, 648, 654, 643, 722, 449, 437, 846, 850, 770, 766, 676, 733, 761, 456, 464, 919, 914, 814, 809, 804, 471, 666, 662, 475, 797, 671, 794, 790, 487, 785, 820, 838, 777, 781, 834, 725, 441, 428, 713, 729, 460, 452, 922, 773, 910, 717, 1175, 1171, 1225, 1229, 1221, 1041, 1250, 1331, 1339, 1047, 1334, 1355, 1351, 1359, 1347, 1342, 1107, 1083, 1087, 1090, 1079, 1075, 1103, 1132, 1167, 1213, 1209, 1217, 1205, 1233, 1163, 1237, 1201, 1197, 1269, 1266, 1277, 1261, 1272, 1037, 1055, 1366, 1187, 1315, 1308, 1059, 1182, 1178, 1063, 1115, 1304, 1190, 1301, 1098, 1111, 1119, 1094, 1124, 1128, 1137, 1143, 1151, 1148, 1159, 1070, 1297, 1292, 1318, 1326, 1284, 1288, 1322, 1253, 1033, 1240, 1257, 1051, 1370, 1280, 1362, 1245, 0]
def mx_pS : List Nat := [34, 35, 843, 38, 37, 39, 40, 43, 44, 32, 41, 36, 33, 42, 32, 0, 752, 743, 0, 658, 20, 0, 19, 22, 21, 18, 24, 23, 747, 681, 830, 737, 634, 639, 630, 825, 540, 0, 0, 0, 536, 530, 526, 597, 625, 606, 587, 496, 0, 3, 4, 2, 7, 484, 6, 8, 9, 5, 10, 11, 12, 14, 13, 492, 15, 16, 644, 25, 1, 0, 847, 851, 27, 26, 17, 0, 762, 457, 465, 45, 915, 31, 30, 805, 472, 667, 663, 476, 798, 672, 29, 28, 488, 786, 821, 839, 778, 782, 835, 726, 442, 429, 714, 730, 461, 453, 923, 774, 911, 718, 67, 66, 76, 77, 75, 0, 80, 86, 0, 46, 1335, 89, 88, 90, 87, 1343, 53, 49, 0, 0, 48, 47, 52, 59, 65, 73, 72, 74, 71, 78, 64, 79, 70, 69, 0, 81, 82, 0, 1273, 0, 1056, 1367, 68, 85, 1309, 1060, 1183, 1179, 1064, 55, 1305, 1191, 84, 51, 54, 56, 50, 57, 58, 60, 61, 0, 62, 63, 1071, 83, 1293, 1319, 1327, 1285, 1289, 1323, 1254, 1034, 1241, 1258, 1052, 1371, 1281, 1363, 1246, 0]
/-- a method's own words: its code, its class, instance (and selected) or static -/
def mx_mck (y : Nat) : Bool := (mx_hw (mx_nth mx_pI y) (Cond.initialized (mx_mN y).cls) && (decide ((mx_mN y).cls ≠ "java/lang/invoke/MethodHandle") && (decide ((mx_mN y).cls ≠ "java/lang/invoke/VarHandle") && (match mx_nth mx_pT y with
  | 0 => mx_hw (mx_nth mx_pM y) (Cond.instanceMethod (mx_mN y)) && mx_hw (mx_nth mx_pS y) (Cond.selects (mx_mN y).cls (mx_mN y) (mx_mN y))
  | _ => mx_hw (mx_nth mx_pM y) (Cond.static (mx_mN y))))))
theorem mx_mck_all : (List.range 191).all mx_mck = true := by decide +kernel
theorem mx_mck_at {y : Nat} (h : y < 191) : mx_mck y = true := List.all_eq_true.mp mx_mck_all y (List.mem_range.mpr h)
def mx_allP (P : Nat → Prop) : Nat → Prop
  | 0 => True
  | n + 1 => mx_allP P n ∧ P n
theorem mx_allP_at {P : Nat → Prop} : ∀ {n y : Nat}, mx_allP P n → y < n → P y
  | 0, _, _, h => absurd h (Nat.not_lt_zero _)
  | n + 1, y, q, h => by
    rcases Nat.lt_or_ge y n with hy | hy
    · exact mx_allP_at q.1 hy
    · have : y = n := by omega
      subst this
      exact q.2
def mx_cdp (y : Nat) : Prop := Cond.code (mx_mN y) (mx_mC y) (mx_nl y) (mx_mR y) ∈ lw_gd
set_option maxRecDepth 100000 in
theorem mx_cw0 : mx_cdp 0 := List.mem_filter.mpr ⟨List.mem_of_getElem? (i := 865) rfl, rfl⟩
set_option maxRecDepth 100000 in
theorem mx_cw1 : mx_cdp 1 := List.mem_filter.mpr ⟨List.mem_of_getElem? (i := 869) rfl, rfl⟩
set_option maxRecDepth 100000 in
theorem mx_cw2 : mx_cdp 2 := List.mem_filter.mpr ⟨List.mem_of_getElem? (i := 844) rfl, rfl⟩
set_option maxRecDepth 100000 in
theorem mx_cw3 : mx_cdp 3 := List.mem_filter.mpr ⟨List.mem_of_getElem? (i := 881) rfl, rfl⟩
set_option maxRecDepth 100000 in
theorem mx_cw4 : mx_cdp 4 := List.mem_filter.mpr ⟨List.mem_of_getElem? (i := 877) rfl, rfl⟩
set_option maxRecDepth 100000 in
theorem mx_cw5 : mx_cdp 5 := List.mem_filter.mpr ⟨List.mem_of_getElem? (i := 885) rfl, rfl⟩
set_option maxRecDepth 100000 in
theorem mx_cw6 : mx_cdp 6 := List.mem_filter.mpr ⟨List.mem_of_getElem? (i := 890) rfl, rfl⟩
set_option maxRecDepth 100000 in
theorem mx_cw7 : mx_cdp 7 := List.mem_filter.mpr ⟨List.mem_of_getElem? (i := 903) rfl, rfl⟩
set_option maxRecDepth 100000 in
theorem mx_cw8 : mx_cdp 8 := List.mem_filter.mpr ⟨List.mem_of_getElem? (i := 907) rfl, rfl⟩
set_option maxRecDepth 100000 in
theorem mx_cw9 : mx_cdp 9 := List.mem_filter.mpr ⟨List.mem_of_getElem? (i := 856) rfl, rfl⟩
set_option maxRecDepth 100000 in
theorem mx_cw10 : mx_cdp 10 := List.mem_filter.mpr ⟨List.mem_of_getElem? (i := 894) rfl, rfl⟩
set_option maxRecDepth 100000 in
theorem mx_cw11 : mx_cdp 11 := List.mem_filter.mpr ⟨List.mem_of_getElem? (i := 873) rfl, rfl⟩
set_option maxRecDepth 100000 in
theorem mx_cw12 : mx_cdp 12 := List.mem_filter.mpr ⟨List.mem_of_getElem? (i := 861) rfl, rfl⟩
set_option maxRecDepth 100000 in
theorem mx_cw13 : mx_cdp 13 := List.mem_filter.mpr ⟨List.mem_of_getElem? (i := 899) rfl, rfl⟩
set_option maxRecDepth 100000 in
theorem mx_cw14 : mx_cdp 14 := List.mem_filter.mpr ⟨List.mem_of_getElem? (i := 856) rfl, rfl⟩
set_option maxRecDepth 100000 in
theorem mx_cw15 : mx_cdp 15 := List.mem_filter.mpr ⟨List.mem_of_getElem? (i := 756) rfl, rfl⟩
set_option maxRecDepth 100000 in
theorem mx_cw16 : mx_cdp 16 := List.mem_filter.mpr ⟨List.mem_of_getElem? (i := 753) rfl, rfl⟩
set_option maxRecDepth 100000 in
theorem mx_cw17 : mx_cdp 17 := List.mem_filter.mpr ⟨List.mem_of_getElem? (i := 744) rfl, rfl⟩
set_option maxRecDepth 100000 in
theorem mx_cw18 : mx_cdp 18 := List.mem_filter.mpr ⟨List.mem_of_getElem? (i := 446) rfl, rfl⟩
set_option maxRecDepth 100000 in
theorem mx_cw19 : mx_cdp 19 := List.mem_filter.mpr ⟨List.mem_of_getElem? (i := 659) rfl, rfl⟩
set_option maxRecDepth 100000 in
theorem mx_cw20 : mx_cdp 20 := List.mem_filter.mpr ⟨List.mem_of_getElem? (i := 695) rfl, rfl⟩
set_option maxRecDepth 100000 in
theorem mx_cw21 : mx_cdp 21 := List.mem_filter.mpr ⟨List.mem_of_getElem? (i := 433) rfl, rfl⟩
set_option maxRecDepth 100000 in
theorem mx_cw22 : mx_cdp 22 := List.mem_filter.mpr ⟨List.mem_of_getElem? (i := 690) rfl, rfl⟩
set_option maxRecDepth 100000 in
theorem mx_cw23 : mx_cdp 23 := List.mem_filter.mpr ⟨List.mem_of_getElem? (i := 703) rfl, rfl⟩
set_option maxRecDepth 100000 in
theorem mx_cw24 : mx_cdp 24 := List.mem_filter.mpr ⟨List.mem_of_getElem? (i := 699) rfl, rfl⟩
set_option maxRecDepth 100000 in
theorem mx_cw25 : mx_cdp 25 := List.mem_filter.mpr ⟨List.mem_of_getElem? (i := 686) rfl, rfl⟩
set_option maxRecDepth 100000 in
theorem mx_cw26 : mx_cdp 26 := List.mem_filter.mpr ⟨List.mem_of_getElem? (i := 711) rfl, rfl⟩
set_option maxRecDepth 100000 in
theorem mx_cw27 : mx_cdp 27 := List.mem_filter.mpr ⟨List.mem_of_getElem? (i := 707) rfl, rfl⟩
set_option maxRecDepth 100000 in
theorem mx_cw28 : mx_cdp 28 := List.mem_filter.mpr ⟨List.mem_of_getElem? (i := 748) rfl, rfl⟩
set_option maxRecDepth 100000 in
theorem mx_cw29 : mx_cdp 29 := List.mem_filter.mpr ⟨List.mem_of_getElem? (i := 682) rfl, rfl⟩
set_option maxRecDepth 100000 in
theorem mx_cw30 : mx_cdp 30 := List.mem_filter.mpr ⟨List.mem_of_getElem? (i := 831) rfl, rfl⟩
set_option maxRecDepth 100000 in
theorem mx_cw31 : mx_cdp 31 := List.mem_filter.mpr ⟨List.mem_of_getElem? (i := 738) rfl, rfl⟩
set_option maxRecDepth 100000 in
theorem mx_cw32 : mx_cdp 32 := List.mem_filter.mpr ⟨List.mem_of_getElem? (i := 635) rfl, rfl⟩
set_option maxRecDepth 100000 in
theorem mx_cw33 : mx_cdp 33 := List.mem_filter.mpr ⟨List.mem_of_getElem? (i := 640) rfl, rfl⟩
set_option maxRecDepth 100000 in
theorem mx_cw34 : mx_cdp 34 := List.mem_filter.mpr ⟨List.mem_of_getElem? (i := 631) rfl, rfl⟩
set_option maxRecDepth 100000 in
theorem mx_cw35 : mx_cdp 35 := List.mem_filter.mpr ⟨List.mem_of_getElem? (i := 826) rfl, rfl⟩
set_option maxRecDepth 100000 in
theorem mx_cw36 : mx_cdp 36 := List.mem_filter.mpr ⟨List.mem_of_getElem? (i := 541) rfl, rfl⟩
set_option maxRecDepth 100000 in
theorem mx_cw37 : mx_cdp 37 := List.mem_filter.mpr ⟨List.mem_of_getElem? (i := 552) rfl, rfl⟩
set_option maxRecDepth 100000 in
theorem mx_cw38 : mx_cdp 38 := List.mem_filter.mpr ⟨List.mem_of_getElem? (i := 547) rfl, rfl⟩
set_option maxRecDepth 100000 in
theorem mx_cw39 : mx_cdp 39 := List.mem_filter.mpr ⟨List.mem_of_getElem? (i := 544) rfl, rfl⟩
set_option maxRecDepth 100000 in
theorem mx_cw40 : mx_cdp 40 := List.mem_filter.mpr ⟨List.mem_of_getElem? (i := 537) rfl, rfl⟩
set_option maxRecDepth 100000 in
theorem mx_cw41 : mx_cdp 41 := List.mem_filter.mpr ⟨List.mem_of_getElem? (i := 531) rfl, rfl⟩
set_option maxRecDepth 100000 in
theorem mx_cw42 : mx_cdp 42 := List.mem_filter.mpr ⟨List.mem_of_getElem? (i := 527) rfl, rfl⟩
set_option maxRecDepth 100000 in
theorem mx_cw43 : mx_cdp 43 := List.mem_filter.mpr ⟨List.mem_of_getElem? (i := 598) rfl, rfl⟩
set_option maxRecDepth 100000 in
theorem mx_cw44 : mx_cdp 44 := List.mem_filter.mpr ⟨List.mem_of_getElem? (i := 626) rfl, rfl⟩
set_option maxRecDepth 100000 in
theorem mx_cw45 : mx_cdp 45 := List.mem_filter.mpr ⟨List.mem_of_getElem? (i := 607) rfl, rfl⟩
set_option maxRecDepth 100000 in
theorem mx_cw46 : mx_cdp 46 := List.mem_filter.mpr ⟨List.mem_of_getElem? (i := 588) rfl, rfl⟩
set_option maxRecDepth 100000 in
theorem mx_cw47 : mx_cdp 47 := List.mem_filter.mpr ⟨List.mem_of_getElem? (i := 497) rfl, rfl⟩
set_option maxRecDepth 100000 in
theorem mx_cw48 : mx_cdp 48 := List.mem_filter.mpr ⟨List.mem_of_getElem? (i := 480) rfl, rfl⟩
set_option maxRecDepth 100000 in
theorem mx_cw49 : mx_cdp 49 := List.mem_filter.mpr ⟨List.mem_of_getElem? (i := 506) rfl, rfl⟩
set_option maxRecDepth 100000 in
theorem mx_cw50 : mx_cdp 50 := List.mem_filter.mpr ⟨List.mem_of_getElem? (i := 510) rfl, rfl⟩
set_option maxRecDepth 100000 in
theorem mx_cw51 : mx_cdp 51 := List.mem_filter.mpr ⟨List.mem_of_getElem? (i := 501) rfl, rfl⟩
set_option maxRecDepth 100000 in
theorem mx_cw52 : mx_cdp 52 := List.mem_filter.mpr ⟨List.mem_of_getElem? (i := 523) rfl, rfl⟩
set_option maxRecDepth 100000 in
theorem mx_cw53 : mx_cdp 53 := List.mem_filter.mpr ⟨List.mem_of_getElem? (i := 485) rfl, rfl⟩
set_option maxRecDepth 100000 in
theorem mx_cw54 : mx_cdp 54 := List.mem_filter.mpr ⟨List.mem_of_getElem? (i := 519) rfl, rfl⟩
set_option maxRecDepth 100000 in
theorem mx_cw55 : mx_cdp 55 := List.mem_filter.mpr ⟨List.mem_of_getElem? (i := 575) rfl, rfl⟩
set_option maxRecDepth 100000 in
theorem mx_cw56 : mx_cdp 56 := List.mem_filter.mpr ⟨List.mem_of_getElem? (i := 579) rfl, rfl⟩
set_option maxRecDepth 100000 in
theorem mx_cw57 : mx_cdp 57 := List.mem_filter.mpr ⟨List.mem_of_getElem? (i := 514) rfl, rfl⟩
set_option maxRecDepth 100000 in
theorem mx_cw58 : mx_cdp 58 := List.mem_filter.mpr ⟨List.mem_of_getElem? (i := 583) rfl, rfl⟩
set_option maxRecDepth 100000 in
theorem mx_cw59 : mx_cdp 59 := List.mem_filter.mpr ⟨List.mem_of_getElem? (i := 592) rfl, rfl⟩
set_option maxRecDepth 100000 in
theorem mx_cw60 : mx_cdp 60 := List.mem_filter.mpr ⟨List.mem_of_getElem? (i := 602) rfl, rfl⟩
set_option maxRecDepth 100000 in
theorem mx_cw61 : mx_cdp 61 := List.mem_filter.mpr ⟨List.mem_of_getElem? (i := 619) rfl, rfl⟩
set_option maxRecDepth 100000 in
theorem mx_cw62 : mx_cdp 62 := List.mem_filter.mpr ⟨List.mem_of_getElem? (i := 611) rfl, rfl⟩
set_option maxRecDepth 100000 in
theorem mx_cw63 : mx_cdp 63 := List.mem_filter.mpr ⟨List.mem_of_getElem? (i := 493) rfl, rfl⟩
set_option maxRecDepth 100000 in
theorem mx_cw64 : mx_cdp 64 := List.mem_filter.mpr ⟨List.mem_of_getElem? (i := 649) rfl, rfl⟩
set_option maxRecDepth 100000 in
theorem mx_cw65 : mx_cdp 65 := List.mem_filter.mpr ⟨List.mem_of_getElem? (i := 655) rfl, rfl⟩
set_option maxRecDepth 100000 in
theorem mx_cw66 : mx_cdp 66 := List.mem_filter.mpr ⟨List.mem_of_getElem? (i := 645) rfl, rfl⟩
set_option maxRecDepth 100000 in
theorem mx_cw67 : mx_cdp 67 := List.mem_filter.mpr ⟨List.mem_of_getElem? (i := 723) rfl, rfl⟩
set_option maxRecDepth 100000 in
theorem mx_cw68 : mx_cdp 68 := List.mem_filter.mpr ⟨List.mem_of_getElem? (i := 450) rfl, rfl⟩
set_option maxRecDepth 100000 in
theorem mx_cw69 : mx_cdp 69 := List.mem_filter.mpr ⟨List.mem_of_getElem? (i := 438) rfl, rfl⟩
set_option maxRecDepth 100000 in
theorem mx_cw70 : mx_cdp 70 := List.mem_filter.mpr ⟨List.mem_of_getElem? (i := 848) rfl, rfl⟩
set_option maxRecDepth 100000 in
theorem mx_cw71 : mx_cdp 71 := List.mem_filter.mpr ⟨List.mem_of_getElem? (i := 852) rfl, rfl⟩
set_option maxRecDepth 100000 in
theorem mx_cw72 : mx_cdp 72 := List.mem_filter.mpr ⟨List.mem_of_getElem? (i := 771) rfl, rfl⟩
set_option maxRecDepth 100000 in
theorem mx_cw73 : mx_cdp 73 := List.mem_filter.mpr ⟨List.mem_of_getElem? (i := 767) rfl, rfl⟩
set_option maxRecDepth 100000 in
theorem mx_cw74 : mx_cdp 74 := List.mem_filter.mpr ⟨List.mem_of_getElem? (i := 677) rfl, rfl⟩
set_option maxRecDepth 100000 in
theorem mx_cw75 : mx_cdp 75 := List.mem_filter.mpr ⟨List.mem_of_getElem? (i := 734) rfl, rfl⟩
set_option maxRecDepth 100000 in
theorem mx_cw76 : mx_cdp 76 := List.mem_filter.mpr ⟨List.mem_of_getElem? (i := 763) rfl, rfl⟩
set_option maxRecDepth 100000 in
theorem mx_cw77 : mx_cdp 77 := List.mem_filter.mpr ⟨List.mem_of_getElem? (i := 458) rfl, rfl⟩
set_option maxRecDepth 100000 in
theorem mx_cw78 : mx_cdp 78 := List.mem_filter.mpr ⟨List.mem_of_getElem? (i := 466) rfl, rfl⟩
set_option maxRecDepth 100000 in
theorem mx_cw79 : mx_cdp 79 := List.mem_filter.mpr ⟨List.mem_of_getElem? (i := 920) rfl, rfl⟩
set_option maxRecDepth 100000 in
theorem mx_cw80 : mx_cdp 80 := List.mem_filter.mpr ⟨List.mem_of_getElem? (i := 916) rfl, rfl⟩
set_option maxRecDepth 100000 in
theorem mx_cw81 : mx_cdp 81 := List.mem_filter.mpr ⟨List.mem_of_getElem? (i := 815) rfl, rfl⟩
set_option maxRecDepth 100000 in
theorem mx_cw82 : mx_cdp 82 := List.mem_filter.mpr ⟨List.mem_of_getElem? (i := 810) rfl, rfl⟩
set_option maxRecDepth 100000 in
theorem mx_cw83 : mx_cdp 83 := List.mem_filter.mpr ⟨List.mem_of_getElem? (i := 806) rfl, rfl⟩
set_option maxRecDepth 100000 in
theorem mx_cw84 : mx_cdp 84 := List.mem_filter.mpr ⟨List.mem_of_getElem? (i := 473) rfl, rfl⟩
set_option maxRecDepth 100000 in
theorem mx_cw85 : mx_cdp 85 := List.mem_filter.mpr ⟨List.mem_of_getElem? (i := 668) rfl, rfl⟩
set_option maxRecDepth 100000 in
theorem mx_cw86 : mx_cdp 86 := List.mem_filter.mpr ⟨List.mem_of_getElem? (i := 664) rfl, rfl⟩
set_option maxRecDepth 100000 in
theorem mx_cw87 : mx_cdp 87 := List.mem_filter.mpr ⟨List.mem_of_getElem? (i := 477) rfl, rfl⟩
set_option maxRecDepth 100000 in
theorem mx_cw88 : mx_cdp 88 := List.mem_filter.mpr ⟨List.mem_of_getElem? (i := 799) rfl, rfl⟩
set_option maxRecDepth 100000 in
theorem mx_cw89 : mx_cdp 89 := List.mem_filter.mpr ⟨List.mem_of_getElem? (i := 673) rfl, rfl⟩
set_option maxRecDepth 100000 in
theorem mx_cw90 : mx_cdp 90 := List.mem_filter.mpr ⟨List.mem_of_getElem? (i := 795) rfl, rfl⟩
set_option maxRecDepth 100000 in
theorem mx_cw91 : mx_cdp 91 := List.mem_filter.mpr ⟨List.mem_of_getElem? (i := 791) rfl, rfl⟩
set_option maxRecDepth 100000 in
theorem mx_cw92 : mx_cdp 92 := List.mem_filter.mpr ⟨List.mem_of_getElem? (i := 489) rfl, rfl⟩
set_option maxRecDepth 100000 in
theorem mx_cw93 : mx_cdp 93 := List.mem_filter.mpr ⟨List.mem_of_getElem? (i := 787) rfl, rfl⟩
set_option maxRecDepth 100000 in
theorem mx_cw94 : mx_cdp 94 := List.mem_filter.mpr ⟨List.mem_of_getElem? (i := 822) rfl, rfl⟩
set_option maxRecDepth 100000 in
theorem mx_cw95 : mx_cdp 95 := List.mem_filter.mpr ⟨List.mem_of_getElem? (i := 840) rfl, rfl⟩
set_option maxRecDepth 100000 in
theorem mx_cw96 : mx_cdp 96 := List.mem_filter.mpr ⟨List.mem_of_getElem? (i := 779) rfl, rfl⟩
set_option maxRecDepth 100000 in
theorem mx_cw97 : mx_cdp 97 := List.mem_filter.mpr ⟨List.mem_of_getElem? (i := 783) rfl, rfl⟩
set_option maxRecDepth 100000 in
theorem mx_cw98 : mx_cdp 98 := List.mem_filter.mpr ⟨List.mem_of_getElem? (i := 836) rfl, rfl⟩
set_option maxRecDepth 100000 in
theorem mx_cw99 : mx_cdp 99 := List.mem_filter.mpr ⟨List.mem_of_getElem? (i := 727) rfl, rfl⟩
set_option maxRecDepth 100000 in
theorem mx_cw100 : mx_cdp 100 := List.mem_filter.mpr ⟨List.mem_of_getElem? (i := 443) rfl, rfl⟩
set_option maxRecDepth 100000 in
theorem mx_cw101 : mx_cdp 101 := List.mem_filter.mpr ⟨List.mem_of_getElem? (i := 430) rfl, rfl⟩
set_option maxRecDepth 100000 in
theorem mx_cw102 : mx_cdp 102 := List.mem_filter.mpr ⟨List.mem_of_getElem? (i := 715) rfl, rfl⟩
set_option maxRecDepth 100000 in
theorem mx_cw103 : mx_cdp 103 := List.mem_filter.mpr ⟨List.mem_of_getElem? (i := 731) rfl, rfl⟩
set_option maxRecDepth 100000 in
theorem mx_cw104 : mx_cdp 104 := List.mem_filter.mpr ⟨List.mem_of_getElem? (i := 462) rfl, rfl⟩
set_option maxRecDepth 100000 in
theorem mx_cw105 : mx_cdp 105 := List.mem_filter.mpr ⟨List.mem_of_getElem? (i := 454) rfl, rfl⟩
set_option maxRecDepth 100000 in
theorem mx_cw106 : mx_cdp 106 := List.mem_filter.mpr ⟨List.mem_of_getElem? (i := 924) rfl, rfl⟩
set_option maxRecDepth 100000 in
theorem mx_cw107 : mx_cdp 107 := List.mem_filter.mpr ⟨List.mem_of_getElem? (i := 775) rfl, rfl⟩
set_option maxRecDepth 100000 in
theorem mx_cw108 : mx_cdp 108 := List.mem_filter.mpr ⟨List.mem_of_getElem? (i := 912) rfl, rfl⟩
set_option maxRecDepth 100000 in
theorem mx_cw109 : mx_cdp 109 := List.mem_filter.mpr ⟨List.mem_of_getElem? (i := 719) rfl, rfl⟩
set_option maxRecDepth 100000 in
theorem mx_cw110 : mx_cdp 110 := List.mem_filter.mpr ⟨List.mem_of_getElem? (i := 1176) rfl, rfl⟩
set_option maxRecDepth 100000 in
theorem mx_cw111 : mx_cdp 111 := List.mem_filter.mpr ⟨List.mem_of_getElem? (i := 1172) rfl, rfl⟩
set_option maxRecDepth 100000 in
theorem mx_cw112 : mx_cdp 112 := List.mem_filter.mpr ⟨List.mem_of_getElem? (i := 1226) rfl, rfl⟩
set_option maxRecDepth 100000 in
theorem mx_cw113 : mx_cdp 113 := List.mem_filter.mpr ⟨List.mem_of_getElem? (i := 1230) rfl, rfl⟩
set_option maxRecDepth 100000 in
theorem mx_cw114 : mx_cdp 114 := List.mem_filter.mpr ⟨List.mem_of_getElem? (i := 1222) rfl, rfl⟩
set_option maxRecDepth 100000 in
theorem mx_cw115 : mx_cdp 115 := List.mem_filter.mpr ⟨List.mem_of_getElem? (i := 1042) rfl, rfl⟩
set_option maxRecDepth 100000 in
theorem mx_cw116 : mx_cdp 116 := List.mem_filter.mpr ⟨List.mem_of_getElem? (i := 1251) rfl, rfl⟩
set_option maxRecDepth 100000 in
theorem mx_cw117 : mx_cdp 117 := List.mem_filter.mpr ⟨List.mem_of_getElem? (i := 1332) rfl, rfl⟩
set_option maxRecDepth 100000 in
theorem mx_cw118 : mx_cdp 118 := List.mem_filter.mpr ⟨List.mem_of_getElem? (i := 1340) rfl, rfl⟩
set_option maxRecDepth 100000 in
theorem mx_cw119 : mx_cdp 119 := List.mem_filter.mpr ⟨List.mem_of_getElem? (i := 1048) rfl, rfl⟩
set_option maxRecDepth 100000 in
theorem mx_cw120 : mx_cdp 120 := List.mem_filter.mpr ⟨List.mem_of_getElem? (i := 1336) rfl, rfl⟩
set_option maxRecDepth 100000 in
theorem mx_cw121 : mx_cdp 121 := List.mem_filter.mpr ⟨List.mem_of_getElem? (i := 1356) rfl, rfl⟩
set_option maxRecDepth 100000 in
theorem mx_cw122 : mx_cdp 122 := List.mem_filter.mpr ⟨List.mem_of_getElem? (i := 1352) rfl, rfl⟩
set_option maxRecDepth 100000 in
theorem mx_cw123 : mx_cdp 123 := List.mem_filter.mpr ⟨List.mem_of_getElem? (i := 1360) rfl, rfl⟩
set_option maxRecDepth 100000 in
theorem mx_cw124 : mx_cdp 124 := List.mem_filter.mpr ⟨List.mem_of_getElem? (i := 1348) rfl, rfl⟩
set_option maxRecDepth 100000 in
theorem mx_cw125 : mx_cdp 125 := List.mem_filter.mpr ⟨List.mem_of_getElem? (i := 1344) rfl, rfl⟩
set_option maxRecDepth 100000 in
theorem mx_cw126 : mx_cdp 126 := List.mem_filter.mpr ⟨List.mem_of_getElem? (i := 1108) rfl, rfl⟩
set_option maxRecDepth 100000 in
theorem mx_cw127 : mx_cdp 127 := List.mem_filter.mpr ⟨List.mem_of_getElem? (i := 1084) rfl, rfl⟩
set_option maxRecDepth 100000 in
theorem mx_cw128 : mx_cdp 128 := List.mem_filter.mpr ⟨List.mem_of_getElem? (i := 1088) rfl, rfl⟩
set_option maxRecDepth 100000 in
theorem mx_cw129 : mx_cdp 129 := List.mem_filter.mpr ⟨List.mem_of_getElem? (i := 1091) rfl, rfl⟩
set_option maxRecDepth 100000 in
theorem mx_cw130 : mx_cdp 130 := List.mem_filter.mpr ⟨List.mem_of_getElem? (i := 1080) rfl, rfl⟩
set_option maxRecDepth 100000 in
theorem mx_cw131 : mx_cdp 131 := List.mem_filter.mpr ⟨List.mem_of_getElem? (i := 1076) rfl, rfl⟩
set_option maxRecDepth 100000 in
theorem mx_cw132 : mx_cdp 132 := List.mem_filter.mpr ⟨List.mem_of_getElem? (i := 1104) rfl, rfl⟩
set_option maxRecDepth 100000 in
theorem mx_cw133 : mx_cdp 133 := List.mem_filter.mpr ⟨List.mem_of_getElem? (i := 1133) rfl, rfl⟩
set_option maxRecDepth 100000 in
theorem mx_cw134 : mx_cdp 134 := List.mem_filter.mpr ⟨List.mem_of_getElem? (i := 1168) rfl, rfl⟩
set_option maxRecDepth 100000 in
theorem mx_cw135 : mx_cdp 135 := List.mem_filter.mpr ⟨List.mem_of_getElem? (i := 1214) rfl, rfl⟩
set_option maxRecDepth 100000 in
theorem mx_cw136 : mx_cdp 136 := List.mem_filter.mpr ⟨List.mem_of_getElem? (i := 1210) rfl, rfl⟩
set_option maxRecDepth 100000 in
theorem mx_cw137 : mx_cdp 137 := List.mem_filter.mpr ⟨List.mem_of_getElem? (i := 1218) rfl, rfl⟩
set_option maxRecDepth 100000 in
theorem mx_cw138 : mx_cdp 138 := List.mem_filter.mpr ⟨List.mem_of_getElem? (i := 1206) rfl, rfl⟩
set_option maxRecDepth 100000 in
theorem mx_cw139 : mx_cdp 139 := List.mem_filter.mpr ⟨List.mem_of_getElem? (i := 1234) rfl, rfl⟩
set_option maxRecDepth 100000 in
theorem mx_cw140 : mx_cdp 140 := List.mem_filter.mpr ⟨List.mem_of_getElem? (i := 1164) rfl, rfl⟩
set_option maxRecDepth 100000 in
theorem mx_cw141 : mx_cdp 141 := List.mem_filter.mpr ⟨List.mem_of_getElem? (i := 1238) rfl, rfl⟩
set_option maxRecDepth 100000 in
theorem mx_cw142 : mx_cdp 142 := List.mem_filter.mpr ⟨List.mem_of_getElem? (i := 1202) rfl, rfl⟩
set_option maxRecDepth 100000 in
theorem mx_cw143 : mx_cdp 143 := List.mem_filter.mpr ⟨List.mem_of_getElem? (i := 1198) rfl, rfl⟩
set_option maxRecDepth 100000 in
theorem mx_cw144 : mx_cdp 144 := List.mem_filter.mpr ⟨List.mem_of_getElem? (i := 1270) rfl, rfl⟩
set_option maxRecDepth 100000 in
theorem mx_cw145 : mx_cdp 145 := List.mem_filter.mpr ⟨List.mem_of_getElem? (i := 1267) rfl, rfl⟩
set_option maxRecDepth 100000 in
theorem mx_cw146 : mx_cdp 146 := List.mem_filter.mpr ⟨List.mem_of_getElem? (i := 1278) rfl, rfl⟩
set_option maxRecDepth 100000 in
theorem mx_cw147 : mx_cdp 147 := List.mem_filter.mpr ⟨List.mem_of_getElem? (i := 1262) rfl, rfl⟩
set_option maxRecDepth 100000 in
theorem mx_cw148 : mx_cdp 148 := List.mem_filter.mpr ⟨List.mem_of_getElem? (i := 1274) rfl, rfl⟩
set_option maxRecDepth 100000 in
theorem mx_cw149 : mx_cdp 149 := List.mem_filter.mpr ⟨List.mem_of_getElem? (i := 1038) rfl, rfl⟩
set_option maxRecDepth 100000 in
theorem mx_cw150 : mx_cdp 150 := List.mem_filter.mpr ⟨List.mem_of_getElem? (i := 1057) rfl, rfl⟩
set_option maxRecDepth 100000 in
theorem mx_cw151 : mx_cdp 151 := List.mem_filter.mpr ⟨List.mem_of_getElem? (i := 1368) rfl, rfl⟩
set_option maxRecDepth 100000 in
theorem mx_cw152 : mx_cdp 152 := List.mem_filter.mpr ⟨List.mem_of_getElem? (i := 1188) rfl, rfl⟩
set_option maxRecDepth 100000 in
theorem mx_cw153 : mx_cdp 153 := List.mem_filter.mpr ⟨List.mem_of_getElem? (i := 1316) rfl, rfl⟩
set_option maxRecDepth 100000 in
theorem mx_cw154 : mx_cdp 154 := List.mem_filter.mpr ⟨List.mem_of_getElem? (i := 1310) rfl, rfl⟩
set_option maxRecDepth 100000 in
theorem mx_cw155 : mx_cdp 155 := List.mem_filter.mpr ⟨List.mem_of_getElem? (i := 1061) rfl, rfl⟩
set_option maxRecDepth 100000 in
theorem mx_cw156 : mx_cdp 156 := List.mem_filter.mpr ⟨List.mem_of_getElem? (i := 1184) rfl, rfl⟩
set_option maxRecDepth 100000 in
theorem mx_cw157 : mx_cdp 157 := List.mem_filter.mpr ⟨List.mem_of_getElem? (i := 1180) rfl, rfl⟩
set_option maxRecDepth 100000 in
theorem mx_cw158 : mx_cdp 158 := List.mem_filter.mpr ⟨List.mem_of_getElem? (i := 1065) rfl, rfl⟩
set_option maxRecDepth 100000 in
theorem mx_cw159 : mx_cdp 159 := List.mem_filter.mpr ⟨List.mem_of_getElem? (i := 1116) rfl, rfl⟩
set_option maxRecDepth 100000 in
theorem mx_cw160 : mx_cdp 160 := List.mem_filter.mpr ⟨List.mem_of_getElem? (i := 1306) rfl, rfl⟩
set_option maxRecDepth 100000 in
theorem mx_cw161 : mx_cdp 161 := List.mem_filter.mpr ⟨List.mem_of_getElem? (i := 1192) rfl, rfl⟩
set_option maxRecDepth 100000 in
theorem mx_cw162 : mx_cdp 162 := List.mem_filter.mpr ⟨List.mem_of_getElem? (i := 1302) rfl, rfl⟩
set_option maxRecDepth 100000 in
theorem mx_cw163 : mx_cdp 163 := List.mem_filter.mpr ⟨List.mem_of_getElem? (i := 1099) rfl, rfl⟩
set_option maxRecDepth 100000 in
theorem mx_cw164 : mx_cdp 164 := List.mem_filter.mpr ⟨List.mem_of_getElem? (i := 1112) rfl, rfl⟩
set_option maxRecDepth 100000 in
theorem mx_cw165 : mx_cdp 165 := List.mem_filter.mpr ⟨List.mem_of_getElem? (i := 1120) rfl, rfl⟩
set_option maxRecDepth 100000 in
theorem mx_cw166 : mx_cdp 166 := List.mem_filter.mpr ⟨List.mem_of_getElem? (i := 1095) rfl, rfl⟩
set_option maxRecDepth 100000 in
theorem mx_cw167 : mx_cdp 167 := List.mem_filter.mpr ⟨List.mem_of_getElem? (i := 1125) rfl, rfl⟩
set_option maxRecDepth 100000 in
theorem mx_cw168 : mx_cdp 168 := List.mem_filter.mpr ⟨List.mem_of_getElem? (i := 1129) rfl, rfl⟩
set_option maxRecDepth 100000 in
theorem mx_cw169 : mx_cdp 169 := List.mem_filter.mpr ⟨List.mem_of_getElem? (i := 1138) rfl, rfl⟩
set_option maxRecDepth 100000 in
theorem mx_cw170 : mx_cdp 170 := List.mem_filter.mpr ⟨List.mem_of_getElem? (i := 1144) rfl, rfl⟩
set_option maxRecDepth 100000 in
theorem mx_cw171 : mx_cdp 171 := List.mem_filter.mpr ⟨List.mem_of_getElem? (i := 1152) rfl, rfl⟩
set_option maxRecDepth 100000 in
theorem mx_cw172 : mx_cdp 172 := List.mem_filter.mpr ⟨List.mem_of_getElem? (i := 1149) rfl, rfl⟩
set_option maxRecDepth 100000 in
theorem mx_cw173 : mx_cdp 173 := List.mem_filter.mpr ⟨List.mem_of_getElem? (i := 1160) rfl, rfl⟩
set_option maxRecDepth 100000 in
theorem mx_cw174 : mx_cdp 174 := List.mem_filter.mpr ⟨List.mem_of_getElem? (i := 1072) rfl, rfl⟩
set_option maxRecDepth 100000 in
theorem mx_cw175 : mx_cdp 175 := List.mem_filter.mpr ⟨List.mem_of_getElem? (i := 1298) rfl, rfl⟩
set_option maxRecDepth 100000 in
theorem mx_cw176 : mx_cdp 176 := List.mem_filter.mpr ⟨List.mem_of_getElem? (i := 1294) rfl, rfl⟩
set_option maxRecDepth 100000 in
theorem mx_cw177 : mx_cdp 177 := List.mem_filter.mpr ⟨List.mem_of_getElem? (i := 1320) rfl, rfl⟩
set_option maxRecDepth 100000 in
theorem mx_cw178 : mx_cdp 178 := List.mem_filter.mpr ⟨List.mem_of_getElem? (i := 1328) rfl, rfl⟩
set_option maxRecDepth 100000 in
theorem mx_cw179 : mx_cdp 179 := List.mem_filter.mpr ⟨List.mem_of_getElem? (i := 1286) rfl, rfl⟩
set_option maxRecDepth 100000 in
theorem mx_cw180 : mx_cdp 180 := List.mem_filter.mpr ⟨List.mem_of_getElem? (i := 1290) rfl, rfl⟩
set_option maxRecDepth 100000 in
theorem mx_cw181 : mx_cdp 181 := List.mem_filter.mpr ⟨List.mem_of_getElem? (i := 1324) rfl, rfl⟩
set_option maxRecDepth 100000 in
theorem mx_cw182 : mx_cdp 182 := List.mem_filter.mpr ⟨List.mem_of_getElem? (i := 1255) rfl, rfl⟩
set_option maxRecDepth 100000 in
theorem mx_cw183 : mx_cdp 183 := List.mem_filter.mpr ⟨List.mem_of_getElem? (i := 1035) rfl, rfl⟩
set_option maxRecDepth 100000 in
theorem mx_cw184 : mx_cdp 184 := List.mem_filter.mpr ⟨List.mem_of_getElem? (i := 1242) rfl, rfl⟩
set_option maxRecDepth 100000 in
theorem mx_cw185 : mx_cdp 185 := List.mem_filter.mpr ⟨List.mem_of_getElem? (i := 1259) rfl, rfl⟩
set_option maxRecDepth 100000 in
theorem mx_cw186 : mx_cdp 186 := List.mem_filter.mpr ⟨List.mem_of_getElem? (i := 1053) rfl, rfl⟩
set_option maxRecDepth 100000 in
theorem mx_cw187 : mx_cdp 187 := List.mem_filter.mpr ⟨List.mem_of_getElem? (i := 1372) rfl, rfl⟩
set_option maxRecDepth 100000 in
theorem mx_cw188 : mx_cdp 188 := List.mem_filter.mpr ⟨List.mem_of_getElem? (i := 1282) rfl, rfl⟩
set_option maxRecDepth 100000 in
theorem mx_cw189 : mx_cdp 189 := List.mem_filter.mpr ⟨List.mem_of_getElem? (i := 1364) rfl, rfl⟩
set_option maxRecDepth 100000 in
theorem mx_cw190 : mx_cdp 190 := List.mem_filter.mpr ⟨List.mem_of_getElem? (i := 1247) rfl, rfl⟩
theorem mx_cdp_all : mx_allP mx_cdp 191 := ⟨⟨⟨⟨⟨⟨⟨⟨⟨⟨⟨⟨⟨⟨⟨⟨⟨⟨⟨⟨⟨⟨⟨⟨⟨⟨⟨⟨⟨⟨⟨⟨⟨⟨⟨⟨⟨⟨⟨⟨⟨⟨⟨⟨⟨⟨⟨⟨⟨⟨⟨⟨⟨⟨⟨⟨⟨⟨⟨⟨⟨⟨⟨⟨⟨⟨⟨⟨⟨⟨⟨⟨⟨⟨⟨⟨⟨⟨⟨⟨⟨⟨⟨⟨⟨⟨⟨⟨⟨⟨⟨⟨⟨⟨⟨⟨⟨⟨⟨⟨⟨⟨⟨⟨⟨⟨⟨⟨⟨⟨⟨⟨⟨⟨⟨⟨⟨⟨⟨⟨⟨⟨⟨⟨⟨⟨⟨⟨⟨⟨⟨⟨⟨⟨⟨⟨⟨⟨⟨⟨⟨⟨⟨⟨⟨⟨⟨⟨⟨⟨⟨⟨⟨⟨⟨⟨⟨⟨⟨⟨⟨⟨⟨⟨⟨⟨⟨⟨⟨⟨⟨⟨⟨⟨⟨⟨⟨⟨⟨⟨⟨⟨⟨⟨⟨⟨⟨⟨⟨⟨⟨trivial, mx_cw0⟩, mx_cw1⟩, mx_cw2⟩, mx_cw3⟩, mx_cw4⟩, mx_cw5⟩, mx_cw6⟩, mx_cw7⟩, mx_cw8⟩, mx_cw9⟩, mx_cw10⟩, mx_cw11⟩, mx_cw12⟩, mx_cw13⟩, mx_cw14⟩, mx_cw15⟩, mx_cw16⟩, mx_cw17⟩, mx_cw18⟩, mx_cw19⟩, mx_cw20⟩, mx_cw21⟩, mx_cw22⟩, mx_cw23⟩, mx_cw24⟩, mx_cw25⟩, mx_cw26⟩, mx_cw27⟩, mx_cw28⟩, mx_cw29⟩, mx_cw30⟩, mx_cw31⟩, mx_cw32⟩, mx_cw33⟩, mx_cw34⟩, mx_cw35⟩, mx_cw36⟩, mx_cw37⟩, mx_cw38⟩, mx_cw39⟩, mx_cw40⟩, mx_cw41⟩, mx_cw42⟩, mx_cw43⟩, mx_cw44⟩, mx_cw45⟩, mx_cw46⟩, mx_cw47⟩, mx_cw48⟩, mx_cw49⟩, mx_cw50⟩, mx_cw51⟩, mx_cw52⟩, mx_cw53⟩, mx_cw54⟩, mx_cw55⟩, mx_cw56⟩, mx_cw57⟩, mx_cw58⟩, mx_cw59⟩, mx_cw60⟩, mx_cw61⟩, mx_cw62⟩, mx_cw63⟩, mx_cw64⟩, mx_cw65⟩, mx_cw66⟩, mx_cw67⟩, mx_cw68⟩, mx_cw69⟩, mx_cw70⟩, mx_cw71⟩, mx_cw72⟩, mx_cw73⟩, mx_cw74⟩, mx_cw75⟩, mx_cw76⟩, mx_cw77⟩, mx_cw78⟩, mx_cw79⟩, mx_cw80⟩, mx_cw81⟩, mx_cw82⟩, mx_cw83⟩, mx_cw84⟩, mx_cw85⟩, mx_cw86⟩, mx_cw87⟩, mx_cw88⟩, mx_cw89⟩, mx_cw90⟩, mx_cw91⟩, mx_cw92⟩, mx_cw93⟩, mx_cw94⟩, mx_cw95⟩, mx_cw96⟩, mx_cw97⟩, mx_cw98⟩, mx_cw99⟩, mx_cw100⟩, mx_cw101⟩, mx_cw102⟩, mx_cw103⟩, mx_cw104⟩, mx_cw105⟩, mx_cw106⟩, mx_cw107⟩, mx_cw108⟩, mx_cw109⟩, mx_cw110⟩, mx_cw111⟩, mx_cw112⟩, mx_cw113⟩, mx_cw114⟩, mx_cw115⟩, mx_cw116⟩, mx_cw117⟩, mx_cw118⟩, mx_cw119⟩, mx_cw120⟩, mx_cw121⟩, mx_cw122⟩, mx_cw123⟩, mx_cw124⟩, mx_cw125⟩, mx_cw126⟩, mx_cw127⟩, mx_cw128⟩, mx_cw129⟩, mx_cw130⟩, mx_cw131⟩, mx_cw132⟩, mx_cw133⟩, mx_cw134⟩, mx_cw135⟩, mx_cw136⟩, mx_cw137⟩, mx_cw138⟩, mx_cw139⟩, mx_cw140⟩, mx_cw141⟩, mx_cw142⟩, mx_cw143⟩, mx_cw144⟩, mx_cw145⟩, mx_cw146⟩, mx_cw147⟩, mx_cw148⟩, mx_cw149⟩, mx_cw150⟩, mx_cw151⟩, mx_cw152⟩, mx_cw153⟩, mx_cw154⟩, mx_cw155⟩, mx_cw156⟩, mx_cw157⟩, mx_cw158⟩, mx_cw159⟩, mx_cw160⟩, mx_cw161⟩, mx_cw162⟩, mx_cw163⟩, mx_cw164⟩, mx_cw165⟩, mx_cw166⟩, mx_cw167⟩, mx_cw168⟩, mx_cw169⟩, mx_cw170⟩, mx_cw171⟩, mx_cw172⟩, mx_cw173⟩, mx_cw174⟩, mx_cw175⟩, mx_cw176⟩, mx_cw177⟩, mx_cw178⟩, mx_cw179⟩, mx_cw180⟩, mx_cw181⟩, mx_cw182⟩, mx_cw183⟩, mx_cw184⟩, mx_cw185⟩, mx_cw186⟩, mx_cw187⟩, mx_cw188⟩, mx_cw189⟩, mx_cw190⟩

def mx_LF : List (Nat × Nat × Nat × Nat) := [(0, 56, 0, 2), (0, 9, 0, 1), (0, 15, 0, 0), (0, 64, 1, 7), (1, 15, 1, 5), (1, 39, 1, 13), (0, 70, 1, 5), (0, 78, 1, 6), (1, 45, 1, 0), (1, 83, 3, 17), (1, 27, 1, 9), (1, 21, 1, 7), (1, 53, 1, 2), (1, 57, 1, 3), (1, 60, 3, 12), (1, 65, 3, 13), (1, 9, 1, 4), (1, 18, 1, 6), (1, 68, 3, 16), (1, 24, 1, 8), (1, 30, 1, 10), (1, 33, 1, 11), (1, 36, 1, 12), (1, 154, 3, 15), (1, 157, 3, 8), (1, 49, 1, 1), (1, 160, 6, 0), (1, 118, 3, 9), (1, 145, 3, 10), (1, 133, 3, 2), (1, 139, 3, 3), (1, 105, 3, 14), (1, 42, 1, 14), (1, 142, 3, 0), (1, 148, 3, 11), (1, 151, 3, 1), (1, 125, 6, 1), (2, 28, 2, 2), (2, 50, 1, 3), (2, 10, 2, 0), (2, 54, 3, 17), (3, 61, 3, 0), (3, 64, 3, 1), (3, 45, 3, 2), (3, 49, 3, 4), (3, 52, 3, 8), (3, 55, 3, 12), (3, 58, 3, 17), (3, 9, 3, 3), (3, 15, 3, 5), (3, 18, 3, 6), (3, 21, 3, 7), (3, 24, 3, 9), (3, 27, 3, 10), (3, 30, 3, 11), (3, 33, 3, 13), (3, 36, 3, 14), (3, 39, 3, 15), (3, 42, 3, 16), (6, 9, 6, 0), (6, 15, 6, 1), (2, 19, 2, 1), (9, 38, 9, 0), (9, 15, 9, 3), (9, 1053, 9, 1), (9, 9, 9, 2), (4, 52, 4, 5), (4, 28, 4, 4), (4, 15, 4, 1), (4, 9, 4, 0), (4, 88, 4, 6), (4, 131, 4, 2), (4, 31, 4, 3), (4, 19, 4, 7), (4, 65, 3, 0), (4, 67, 3, 1), (4, 85, 3, 2), (4, 105, 3, 17), (6, 22, 3, 2), (6, 50, 3, 4), (6, 52, 3, 5), (6, 55, 3, 6), (6, 58, 3, 7), (7, 25, 7, 2), (7, 109, 2, 0), (7, 146, 3, 17), (7, 276, 7, 9), (7, 38, 2, 2), (7, 45, 7, 5), (7, 257, 0, 2), (7, 29, 7, 3), (7, 172, 3, 1), (7, 169, 3, 0), (7, 151, 3, 2), (5, 23, 5, 3), (7, 11, 7, 0), (7, 73, 5, 1), (7, 86, 5, 2), (7, 80, 5, 0), (7, 228, 3, 4), (7, 233, 3, 8), (7, 222, 3, 12), (7, 166, 1, 2), (7, 273, 1, 3), (7, 18, 7, 1), (7, 103, 4, 1), (7, 205, 1, 12), (7, 286, 3, 15), (7, 96, 5, 3), (7, 131, 2, 1), (7, 154, 6, 0), (7, 120, 7, 8), (7, 185, 1, 5), (7, 49, 7, 6), (7, 283, 3, 9), (7, 53, 7, 7), (7, 117, 4, 3), (7, 124, 4, 2), (7, 32, 7, 4), (7, 230, 3, 7), (7, 236, 3, 11), (7, 203, 3, 3), (5, 15, 5, 1), (5, 19, 5, 2), (5, 9, 5, 0), (7, 225, 3, 14), (7, 266, 0, 1), (7, 179, 1, 10), (7, 182, 1, 4), (7, 188, 1, 6), (7, 191, 1, 7), (7, 194, 1, 8), (7, 197, 1, 9), (7, 200, 1, 11), (8, 19, 8, 5), (8, 37, 8, 21), (8, 34, 8, 20), (8, 25, 8, 8), (8, 72, 8, 1), (8, 69, 8, 0), (8, 322, 8, 32), (8, 66, 8, 31), (8, 126, 8, 18), (8, 111, 8, 16), (8, 132, 8, 19), (8, 101, 8, 13), (8, 31, 8, 10), (8, 105, 8, 14), (8, 114, 8, 15), (8, 123, 8, 17), (8, 95, 8, 11), (8, 22, 8, 6), (8, 44, 8, 23), (8, 47, 8, 24), (8, 41, 8, 22), (8, 28, 8, 9), (8, 210, 8, 7), (8, 7, 8, 2), (8, 13, 8, 3), (8, 16, 8, 4), (8, 206, 8, 12), (8, 50, 8, 25), (8, 296, 8, 27), (8, 53, 8, 26), (8, 60, 8, 29), (8, 63, 8, 30), (8, 56, 8, 28)]
def mx_LM : List (Nat × Nat × Nat) := [(0, 60, 0), (0, 53, 3), (0, 73, 1002), (0, 44, 5), (0, 38, 1), (0, 32, 7), (0, 19, 2), (0, 25, 12), (0, 29, 13), (0, 35, 8), (0, 81, 9), (0, 41, 4), (0, 47, 6), (0, 50, 10), (0, 67, 11), (1, 99, 15), (1, 71, 18), (1, 130, 20), (1, 115, 23), (1, 108, 22), (1, 112, 24), (1, 121, 26), (1, 93, 1001), (1, 86, 25), (1, 90, 27), (1, 77, 1000), (2, 46, 19), (2, 57, 29), (2, 60, 17), (2, 64, 28), (2, 67, 16), (3, 67, 1000), (6, 38, 1000), (2, 32, 32), (2, 36, 33), (2, 39, 34), (2, 43, 30), (9, 1059, 37), (10, 9, 38), (9, 492, 36), (9, 495, 39), (9, 335, 41), (4, 142, 49), (4, 145, 50), (4, 134, 42), (4, 138, 40), (4, 75, 52), (4, 34, 51), (4, 57, 54), (4, 61, 55), (4, 70, 56), (4, 79, 46), (4, 93, 43), (4, 99, 45), (4, 108, 1001), (4, 113, 61), (4, 117, 44), (4, 23, 47), (4, 37, 57), (4, 40, 58), (4, 43, 59), (4, 46, 60), (4, 49, 62), (6, 44, 18), (6, 18, 64), (6, 28, 1001), (6, 34, 65), (7, 57, 21), (7, 175, 67), (7, 99, 48), (7, 254, 2), (7, 70, 68), (7, 62, 69), (7, 211, 31), (7, 158, 74), (7, 208, 75), (7, 127, 34), (7, 215, 73), (7, 219, 72), (7, 77, 77), (7, 90, 1000), (7, 269, 79), (7, 140, 19), (7, 163, 29), (7, 298, 1003), (7, 289, 18), (7, 295, 81), (7, 247, 82), (7, 105, 53), (7, 242, 1002), (7, 280, 90), (7, 113, 63), (7, 135, 66), (7, 239, 91), (7, 251, 35), (5, 26, 18), (7, 66, 100), (7, 83, 104), (8, 228, 110), (8, 231, 111), (8, 234, 112), (8, 237, 113), (8, 78, 115), (8, 278, 116), (8, 313, 117), (8, 318, 118), (8, 89, 119), (8, 325, 121), (8, 328, 122), (8, 331, 123), (8, 334, 124), (8, 108, 127), (8, 117, 128), (8, 120, 129), (8, 129, 130), (8, 135, 126), (8, 143, 132), (8, 241, 135), (8, 259, 136), (8, 263, 137), (8, 221, 140), (8, 245, 138), (8, 249, 114), (8, 252, 139), (8, 256, 141), (8, 266, 142), (8, 217, 134), (8, 273, 143), (8, 283, 144), (8, 289, 145), (8, 286, 147), (8, 292, 146), (8, 82, 149), (8, 225, 152), (8, 309, 153), (8, 139, 159), (8, 153, 163), (8, 159, 164), (8, 163, 165), (8, 166, 133), (8, 172, 171), (8, 176, 131), (8, 179, 166), (8, 184, 167), (8, 188, 168), (8, 193, 169), (8, 198, 170), (8, 203, 172), (8, 214, 173), (8, 299, 175), (8, 302, 162), (15, 13, 101), (15, 17, 183), (15, 18, 105), (15, 21, 186), (15, 22, 78), (15, 26, 150), (15, 27, 84), (15, 31, 155), (15, 34, 87), (15, 38, 158), (15, 39, 92), (15, 43, 174), (15, 44, 86), (15, 47, 157), (15, 48, 85), (15, 52, 156), (15, 53, 89), (15, 56, 161), (15, 57, 102), (15, 60, 184), (15, 61, 109), (15, 64, 190), (15, 65, 99), (15, 68, 182), (15, 69, 103), (15, 72, 185), (15, 73, 76), (15, 76, 148), (15, 77, 107), (15, 80, 188), (15, 81, 96), (15, 84, 179), (15, 85, 97), (15, 88, 180), (15, 89, 93), (15, 92, 176), (15, 93, 88), (15, 96, 160), (15, 97, 83), (15, 101, 154), (15, 102, 94), (15, 105, 177), (15, 106, 98), (15, 109, 181), (15, 110, 95), (15, 113, 178), (15, 114, 70), (15, 117, 120), (15, 118, 71), (15, 121, 125), (15, 122, 108), (15, 125, 189), (15, 126, 80), (15, 129, 151), (15, 130, 106), (15, 133, 187)]
def mx_LC : List (Nat × Nat × Int32) := [(12, 265, 1431655765), (12, 266, 858993459), (12, 267, 252645135), (7, 279, (-1000010)), (7, 61, (-1000001)), (7, 162, (-1000002)), (7, 157, (-1000000)), (7, 104, (-1000003)), (7, 123, (-1000100)), (8, 104, (-1000000)), (8, 75, (-1000010)), (8, 88, (-1000001)), (8, 270, (-1000002)), (8, 98, (-1000003)), (8, 209, (-1000100))]
def mx_LJ : List (Nat × Nat × Int64) := [(8, 316, 5), (8, 281, 120), (8, 76, 7), (8, 305, 40), (8, 307, 30), (8, 93, 8), (8, 99, 255), (8, 271, 60), (8, 157, 1918986604), (8, 170, 7302757), (8, 147, 439855772532), (8, 149, 1685217655), (8, 151, 491496238692), (8, 182, 1919905645), (8, 191, 1685024626), (8, 196, 31641073268126309), (8, 201, 444301538672), (8, 86, 2), (8, 276, 20), (15, 32, 4294967295)]
def mx_LFp : List Nat := [365, 363, 362, 297, 290, 309, 291, 294, 281, 217, 301, 296, 283, 285, 204, 207, 288, 293, 215, 299, 303, 305, 307, 212, 193, 282, 267, 196, 199, 178, 180, 209, 310, 169, 201, 173, 269, 346, 286, 342, 218, 167, 171, 174, 182, 192, 203, 216, 179, 185, 187, 189, 195, 198, 200, 206, 208, 211, 214, 265, 268, 344, 532, 1375, 548, 1374, 133, 132, 126, 125, 134, 129, 130, 135, 166, 170, 176, 220, 175, 183, 186, 188, 190, 398, 343, 219, 405, 347, 401, 366, 399, 172, 168, 177, 385, 396, 382, 384, 380, 184, 194, 205, 284, 287, 397, 127, 308, 213, 386, 345, 266, 404, 292, 402, 197, 403, 131, 128, 400, 191, 202, 181, 381, 383, 379, 210, 364, 304, 289, 295, 298, 300, 302, 306, 936, 952, 951, 939, 932, 931, 963, 962, 949, 947, 950, 944, 941, 945, 946, 948, 942, 937, 954, 955, 953, 940, 938, 933, 934, 935, 943, 956, 958, 957, 960, 961, 959]
def mx_LMp : List Nat := [862, 878, 886, 882, 866, 900, 857, 858, 896, 904, 895, 874, 887, 891, 870, 754, 660, 692, 700, 687, 696, 708, 749, 683, 704, 832, 739, 740, 741, 745, 750, 636, 641, 632, 637, 827, 828, 550, 545, 538, 542, 528, 503, 507, 524, 534, 520, 498, 516, 572, 576, 585, 595, 604, 613, 616, 623, 494, 511, 580, 589, 599, 608, 650, 646, 651, 652, 431, 720, 478, 841, 447, 435, 735, 674, 732, 628, 764, 768, 455, 467, 917, 656, 679, 816, 811, 812, 807, 482, 800, 792, 490, 642, 788, 823, 444, 440, 459, 1173, 1169, 1223, 1227, 1040, 1248, 1329, 1338, 1045, 1353, 1349, 1357, 1345, 1081, 1086, 1089, 1077, 1105, 1101, 1211, 1207, 1215, 1161, 1203, 1219, 1231, 1235, 1199, 1165, 1195, 1268, 1264, 1260, 1275, 1036, 1185, 1313, 1113, 1096, 1109, 1117, 1130, 1150, 1073, 1092, 1122, 1126, 1135, 1141, 1146, 1157, 1295, 1299, 427, 1032, 451, 1050, 463, 1054, 470, 1058, 474, 1062, 486, 1069, 661, 1177, 665, 1181, 670, 1189, 712, 1239, 716, 1244, 724, 1252, 728, 1256, 760, 1271, 772, 1279, 776, 1283, 780, 1287, 784, 1291, 796, 1303, 803, 1307, 819, 1317, 833, 1321, 837, 1325, 845, 1333, 849, 1341, 909, 1361, 913, 1365, 921, 1369]
def mx_LCp : List Nat := [757, 758, 759, 439, 434, 678, 669, 481, 627, 1085, 1049, 1044, 1193, 1067, 1156]
def mx_LJp : List Nat := [1337, 1263, 1039, 1311, 1312, 1066, 1068, 1194, 1100, 1139, 1153, 1154, 1155, 1121, 1134, 1140, 1145, 1043, 1243, 1373]
def mx_wF (t : Nat × Nat × Nat × Nat) : Cond := if t.2.2.1 = 9 then (match t.2.2.2 with
  | 0 => .fieldLink (mx_on t.1) t.2.1 "java/lang/String" "COMPACT_STRINGS" "Z"
  | 1 => .fieldLink (mx_on t.1) t.2.1 "jdk/internal/util/Preconditions" "SIOOBE_FORMATTER" "Ljava/util/function/BiFunction;"
  | 2 => .fieldLink (mx_on t.1) t.2.1 "java/lang/String" "value" "[B"
  | _ => .fieldLink (mx_on t.1) t.2.1 "java/lang/String" "coder" "B") else .fieldLink (mx_on t.1) t.2.1 (mx_cl t.2.2.1).1 ((mx_cl t.2.2.1).2.1 t.2.2.2).2.1 ((mx_cl t.2.2.1).2.1 t.2.2.2).2.2.1
def mx_wM (t : Nat × Nat × Nat) : Cond := if t.2.2 = 1000 then .methodLink (mx_on t.1) t.2.1 arraycopyName else if t.2.2 = 1001 then .methodLink (mx_on t.1) t.2.1 Lib.Math.min.name else if t.2.2 = 1002 then .methodLink (mx_on t.1) t.2.1 Lib.Math.max.name else if t.2.2 = 1003 then .methodLink (mx_on t.1) t.2.1 Lib.Math.abs.name else .methodLink (mx_on t.1) t.2.1 (mx_mN t.2.2)
def mx_zip {α : Type} (f : Nat → α → Bool) : List α → List Nat → Bool
  | [], _ => true
  | _ :: _, [] => false
  | a :: l, k :: ks => f k a && mx_zip f l ks
theorem mx_zip_at {α : Type} {f : Nat → α → Bool} : ∀ {l : List α} {ks : List Nat}, mx_zip f l ks = true → ∀ a ∈ l, ∃ k, f k a = true
  | [], _, _, a, h => absurd h List.not_mem_nil
  | _ :: _, [], h, _, _ => by cases h
  | b :: l, k :: ks, h, a, ha => by
    simp only [mx_zip, Bool.and_eq_true] at h
    rcases List.mem_cons.mp ha with rfl | ha
    · exact ⟨k, h.1⟩
    · exact mx_zip_at h.2 a ha
theorem mx_LF_ok : mx_zip (fun k t => mx_hw k (mx_wF t) && (decide (t.2.2.1 = 9) || (decide (((mx_cl t.2.2.1).2.1 t.2.2.2).1 = (mx_cl t.2.2.1).1) && decide (t.2.2.2 < (mx_cl t.2.2.1).2.2)))) mx_LF mx_LFp = true := by decide +kernel
theorem mx_LM_ok : mx_zip (fun k t => mx_hw k (mx_wM t)) mx_LM mx_LMp = true := by decide +kernel
theorem mx_LC_ok : mx_zip (fun k t => mx_hw k (.constant (mx_on t.1) t.2.1 t.2.2)) mx_LC mx_LCp = true := by decide +kernel
theorem mx_LJ_ok : mx_zip (fun k t => mx_hw k (.constantLong (mx_on t.1) t.2.1 t.2.2)) mx_LJ mx_LJp = true := by decide +kernel
def mx_lkF (w ow q a b : Nat) : Bool := decide (mx_LF[w]? = some (ow, q, a, b))
def mx_lkM (w ow q y : Nat) : Bool := decide (mx_LM[w]? = some (ow, q, y))
def mx_lkC (w ow q : Nat) (x : Int32) : Bool := decide (mx_LC[w]? = some (ow, q, x))
def mx_lkJ (w ow q : Nat) (x : Int64) : Bool := decide (mx_LJ[w]? = some (ow, q, x))
theorem mx_lkC_of {w ow q : Nat} {x : Int32} (h : mx_lkC w ow q x = true) : Cond.constant (mx_on ow) q x ∈ lw_gd := by
  obtain ⟨k, hk⟩ := mx_zip_at mx_LC_ok _ (List.mem_of_getElem? (of_decide_eq_true h))
  exact mx_hw_of hk
theorem mx_lkJ_of {w ow q : Nat} {x : Int64} (h : mx_lkJ w ow q x = true) : Cond.constantLong (mx_on ow) q x ∈ lw_gd := by
  obtain ⟨k, hk⟩ := mx_zip_at mx_LJ_ok _ (List.mem_of_getElem? (of_decide_eq_true h))
  exact mx_hw_of hk
theorem mx_lkM_of {w ow q y : Nat} (h : mx_lkM w ow q y = true) : mx_wM (ow, q, y) ∈ lw_gd := by
  obtain ⟨k, hk⟩ := mx_zip_at mx_LM_ok _ (List.mem_of_getElem? (of_decide_eq_true h))
  exact mx_hw_of hk
theorem mx_lkF_of {w ow q a b : Nat} (h : mx_lkF w ow q a b = true) : mx_wF (ow, q, a, b) ∈ lw_gd ∧ (a = 9 ∨ (((mx_cl a).2.1 b).1 = (mx_cl a).1 ∧ b < (mx_cl a).2.2)) := by
  obtain ⟨k, hk⟩ := mx_zip_at mx_LF_ok _ (List.mem_of_getElem? (of_decide_eq_true h))
  rw [Bool.and_eq_true] at hk
  refine ⟨mx_hw_of hk.1, ?_⟩
  have h2 := hk.2
  simp only [Bool.or_eq_true, Bool.and_eq_true, decide_eq_true_eq] at h2
  exact h2
theorem mx_wF_lt {ow q a b : Nat} (h : a ≠ 9) : mx_wF (ow, q, a, b) = .fieldLink (mx_on ow) q (mx_cl a).1 ((mx_cl a).2.1 b).2.1 ((mx_cl a).2.1 b).2.2.1 := if_neg h
def mx_lkN (w ow q y : Nat) : Bool := decide (mx_nwT[w]? = some (ow, q, y))

def mx_okl (v w ow q a : Nat) : Bool := match v with
  | 0 => mx_lkM w ow q a
  | 1 => mx_lkM w ow q a
  | _ => mx_lkN w ow q a
def mx_okc (ow : Nat) (cc : ByteArray) (pc q v w a b rc : Nat) : Bool := decide (a < 191) && (mx_okl v w ow q a && (match mx_nth mx_pT a with
  | 0 => mx_dq cc pc (.invokevirtual q) 3 && (decide ((parseMethodDescriptor (mx_mN a).desc).map (fun d => d.parameters.length + 1) = some b) && (match rc with
    | 0 => false
    | 10 => decide ((mx_mN a).cls = "java/lang/String")
    | c + 1 => decide (c < 9) && decide ((mx_cl c).1 = (mx_mN a).cls)))
  | _ => mx_dq cc pc (.invokestatic q) 3 && decide ((parseMethodDescriptor (mx_mN a).desc).map (fun d => d.parameters.length) = some b)))
def mx_ok (ow : Nat) (cc : ByteArray) (nL : Nat) (ret : Option FieldType) (tg : Nat → Nat) (pc npc q v w : Nat) (i : mx_Op) : Bool :=
  let im := i.2.1
  let jm := i.2.2.1
  let a := i.2.2.2.1
  let b := i.2.2.2.2.1
  let ts := i.2.2.2.2.2
  match i.1 with
  | 0 => match v with | 0 => decide (a < 4) && (mx_dq cc pc (.iload_n (Fin.ofNat 4 a)) 1 && decide (npc = pc + 1)) | _ => mx_dq cc pc (.iload a) 2 && decide (npc = pc + 2)
  | 1 => match v with | 0 => decide (a < 4) && (mx_dq cc pc (.lload_n (Fin.ofNat 4 a)) 1 && decide (npc = pc + 1)) | _ => mx_dq cc pc (.lload a) 2 && decide (npc = pc + 2)
  | 2 => match v with | 0 => decide (a < 4) && (mx_dq cc pc (.aload_n (Fin.ofNat 4 a)) 1 && decide (npc = pc + 1)) | _ => mx_dq cc pc (.aload a) 2 && decide (npc = pc + 2)
  | 3 => decide (a < nL) && (match v with | 0 => decide (a < 4) && (mx_dq cc pc (.istore_n (Fin.ofNat 4 a)) 1 && decide (npc = pc + 1)) | _ => mx_dq cc pc (.istore a) 2 && decide (npc = pc + 2))
  | 4 => decide (a + 1 < nL) && (match v with | 0 => decide (a < 4) && (mx_dq cc pc (.lstore_n (Fin.ofNat 4 a)) 1 && decide (npc = pc + 1)) | _ => mx_dq cc pc (.lstore a) 2 && decide (npc = pc + 2))
  | 5 => decide (a < nL) && (match v with | 0 => decide (a < 4) && (mx_dq cc pc (.astore_n (Fin.ofNat 4 a)) 1 && decide (npc = pc + 1)) | _ => mx_dq cc pc (.astore a) 2 && decide (npc = pc + 2))
  | 6 => match v with | 0 => mx_dq cc pc (.iconst im.toInt) 1 && decide (npc = pc + 1) | 1 => mx_dq cc pc (.bipush im.toInt) 2 && (decide ((Int8.ofInt im.toInt).toInt32 = im) && decide (npc = pc + 2)) | 2 => mx_dq cc pc (.sipush im.toInt) 3 && (decide ((Int16.ofInt im.toInt).toInt32 = im) && decide (npc = pc + 3)) | 3 => mx_dq cc pc (.ldc q) 2 && (mx_lkC w ow q im && decide (npc = pc + 2)) | _ => mx_dq cc pc (.ldc_w q) 3 && (mx_lkC w ow q im && decide (npc = pc + 3))
  | 7 => match v with | 0 => mx_dq cc pc (.lconst (Fin.ofNat 2 a)) 1 && (decide (Int64.ofNat (Fin.ofNat 2 a : Fin 2).val = jm) && decide (npc = pc + 1)) | _ => mx_dq cc pc (.ldc2_w q) 3 && (mx_lkJ w ow q jm && decide (npc = pc + 3))
  | 8 => mx_dq cc pc (mx_binI b) 1 && decide (npc = pc + 1)
  | 9 => mx_dq cc pc (mx_divI b) 1 && decide (npc = pc + 1)
  | 10 => mx_dq cc pc (mx_unI b) 1 && decide (npc = pc + 1)
  | 11 => mx_dq cc pc (mx_lbI b) 1 && decide (npc = pc + 1)
  | 12 => mx_dq cc pc (mx_lshI b) 1 && decide (npc = pc + 1)
  | 13 => mx_dq cc pc .lcmp 1 && decide (npc = pc + 1)
  | 14 => mx_dq cc pc .i2l 1 && decide (npc = pc + 1)
  | 15 => mx_dq cc pc .l2i 1 && decide (npc = pc + 1)
  | 16 => decide (a < nL) && (mx_dq cc pc (.iinc a im.toInt) 3 && decide (npc = pc + 3))
  | 17 => mx_dq cc pc .dup 1 && decide (npc = pc + 1)
  | 18 => mx_dq cc pc .dup2 1 && decide (npc = pc + 1)
  | 19 => mx_dq cc pc (.ifCond (mx_cn b) ((tg a : Int) - pc)) 3 && decide (npc = pc + 3)
  | 20 => mx_dq cc pc (.if_icmp (mx_cn b) ((tg a : Int) - pc)) 3 && decide (npc = pc + 3)
  | 21 => mx_dq cc pc (.goto ((tg a : Int) - pc)) 3
  | 22 => match v with | 0 => mx_dq cc pc (.tableswitch ((tg a : Int) - pc) (b : Int) (((b + ts.length : Nat) : Int) - 1) (ts.map (fun t => (tg t : Int) - pc)).toArray) q && decide (b + ts.length < 2 ^ 31) | _ => match ts with | [t0, t1] => mx_dq cc pc (.lookupswitch ((tg a : Int) - pc) #[(0, (tg t0 : Int) - pc), (1, (tg t1 : Int) - pc)]) q && decide (b = 0) | _ => false
  | 23 => mx_dq cc pc (.getfield q) 3 && (mx_lkF w ow q a b && decide (npc = pc + 3))
  | 24 => mx_dq cc pc (.putfield q) 3 && (mx_lkF w ow q a b && decide (npc = pc + 3))
  | 25 => mx_dq cc pc .iaload 1 && decide (npc = pc + 1)
  | 26 => mx_dq cc pc .iastore 1 && decide (npc = pc + 1)
  | 27 => mx_dq cc pc .baload 1 && decide (npc = pc + 1) && decide (b < 2)
  | 28 => mx_dq cc pc .bastore 1 && decide (npc = pc + 1) && decide (b < 2)
  | 29 => mx_dq cc pc .aaload 1 && decide (npc = pc + 1) && decide (b < 2)
  | 30 => mx_dq cc pc .arraylength 1 && decide (npc = pc + 1)
  | 31 => mx_okc ow cc pc q v w a b (mx_nth ts 1) && (decide (mx_nth ts 2 = mx_nl a) && decide (npc = pc + 3))
  | 32 => mx_dq cc pc .ireturn 1 && decide (ret = some (match b with | 0 => .int | 1 => .boolean | 2 => .char | _ => .byte))
  | 33 => mx_dq cc pc .lreturn 1 && decide (ret = some .long)
  | 34 => mx_dq cc pc .return_ 1 && decide (ret = none)
  | 35 => mx_dq cc pc (.ldc q) 2 && (decide (ow = 4) && (decide (a < 9) && (decide (q = mx_nth mx_sPT a) && decide (npc = pc + 2))))
  | 36 => mx_dq cc pc (.invokestatic q) 3 && (mx_lkM w ow q 1000 && decide (npc = pc + 3))
  | 37 => mx_dq cc pc (.getstatic q) 3 && (mx_lkF w ow q 9 0 && decide (npc = pc + 3))
  | 38 => mx_dq cc pc (.getstatic q) 3 && (mx_lkF w ow q 9 1 && decide (npc = pc + 3))
  | 39 => mx_dq cc pc (.getfield q) 3 && ((match b with | 0 => mx_lkF w ow q 9 2 | _ => mx_lkF w ow q 9 3) && decide (npc = pc + 3))
  | 40 => mx_dq cc pc .arraylength 1 && decide (npc = pc + 1)
  | 41 => mx_dq cc pc .baload 1 && decide (npc = pc + 1)
  | 42 => mx_dq cc pc .pop 1 && decide (npc = pc + 1)
  | 43 => mx_dq cc pc .iaload 1 && decide (npc = pc + 1)
  | 44 => mx_dq cc pc .arraylength 1 && decide (npc = pc + 1)
  | 45 => decide (tg (a + 1) = pc)
  | 46 => mx_dq cc pc (.invokestatic q) 3 && ((match b with | 0 => mx_lkM w ow q 1001 | _ => mx_lkM w ow q 1002) && decide (npc = pc + 3))
  | 47 => mx_dq cc pc (.invokestatic q) 3 && (mx_lkM w ow q 1003 && decide (npc = pc + 3))
  | _ => true
section Oks
variable (ow : Nat) (cc : ByteArray) (nL : Nat) (ret : Option FieldType) (tg : Nat → Nat) (pc npc q v w : Nat) (im : Int32) (jm : Int64) (a b : Nat) (ts : List Nat)
theorem mx_o0 : mx_ok ow cc nL ret tg pc npc q v w (0, im, jm, a, b, ts) = (match v with | 0 => decide (a < 4) && (mx_dq cc pc (.iload_n (Fin.ofNat 4 a)) 1 && decide (npc = pc + 1)) | _ => mx_dq cc pc (.iload a) 2 && decide (npc = pc + 2)) := rfl
theorem mx_o1 : mx_ok ow cc nL ret tg pc npc q v w (1, im, jm, a, b, ts) = (match v with | 0 => decide (a < 4) && (mx_dq cc pc (.lload_n (Fin.ofNat 4 a)) 1 && decide (npc = pc + 1)) | _ => mx_dq cc pc (.lload a) 2 && decide (npc = pc + 2)) := rfl
theorem mx_o2 : mx_ok ow cc nL ret tg pc npc q v w (2, im, jm, a, b, ts) = (match v with | 0 => decide (a < 4) && (mx_dq cc pc (.aload_n (Fin.ofNat 4 a)) 1 && decide (npc = pc + 1)) | _ => mx_dq cc pc (.aload a) 2 && decide (npc = pc + 2)) := rfl
theorem mx_o3 : mx_ok ow cc nL ret tg pc npc q v w (3, im, jm, a, b, ts) = (decide (a < nL) && (match v with | 0 => decide (a < 4) && (mx_dq cc pc (.istore_n (Fin.ofNat 4 a)) 1 && decide (npc = pc + 1)) | _ => mx_dq cc pc (.istore a) 2 && decide (npc = pc + 2))) := rfl
theorem mx_o4 : mx_ok ow cc nL ret tg pc npc q v w (4, im, jm, a, b, ts) = (decide (a + 1 < nL) && (match v with | 0 => decide (a < 4) && (mx_dq cc pc (.lstore_n (Fin.ofNat 4 a)) 1 && decide (npc = pc + 1)) | _ => mx_dq cc pc (.lstore a) 2 && decide (npc = pc + 2))) := rfl
theorem mx_o5 : mx_ok ow cc nL ret tg pc npc q v w (5, im, jm, a, b, ts) = (decide (a < nL) && (match v with | 0 => decide (a < 4) && (mx_dq cc pc (.astore_n (Fin.ofNat 4 a)) 1 && decide (npc = pc + 1)) | _ => mx_dq cc pc (.astore a) 2 && decide (npc = pc + 2))) := rfl
theorem mx_o6 : mx_ok ow cc nL ret tg pc npc q v w (6, im, jm, a, b, ts) = (match v with | 0 => mx_dq cc pc (.iconst im.toInt) 1 && decide (npc = pc + 1) | 1 => mx_dq cc pc (.bipush im.toInt) 2 && (decide ((Int8.ofInt im.toInt).toInt32 = im) && decide (npc = pc + 2)) | 2 => mx_dq cc pc (.sipush im.toInt) 3 && (decide ((Int16.ofInt im.toInt).toInt32 = im) && decide (npc = pc + 3)) | 3 => mx_dq cc pc (.ldc q) 2 && (mx_lkC w ow q im && decide (npc = pc + 2)) | _ => mx_dq cc pc (.ldc_w q) 3 && (mx_lkC w ow q im && decide (npc = pc + 3))) := rfl
theorem mx_o7 : mx_ok ow cc nL ret tg pc npc q v w (7, im, jm, a, b, ts) = (match v with | 0 => mx_dq cc pc (.lconst (Fin.ofNat 2 a)) 1 && (decide (Int64.ofNat (Fin.ofNat 2 a : Fin 2).val = jm) && decide (npc = pc + 1)) | _ => mx_dq cc pc (.ldc2_w q) 3 && (mx_lkJ w ow q jm && decide (npc = pc + 3))) := rfl
theorem mx_o8 : mx_ok ow cc nL ret tg pc npc q v w (8, im, jm, a, b, ts) = (mx_dq cc pc (mx_binI b) 1 && decide (npc = pc + 1)) := rfl
theorem mx_o9 : mx_ok ow cc nL ret tg pc npc q v w (9, im, jm, a, b, ts) = (mx_dq cc pc (mx_divI b) 1 && decide (npc = pc + 1)) := rfl
theorem mx_o10 : mx_ok ow cc nL ret tg pc npc q v w (10, im, jm, a, b, ts) = (mx_dq cc pc (mx_unI b) 1 && decide (npc = pc + 1)) := rfl
theorem mx_o11 : mx_ok ow cc nL ret tg pc npc q v w (11, im, jm, a, b, ts) = (mx_dq cc pc (mx_lbI b) 1 && decide (npc = pc + 1)) := rfl
theorem mx_o12 : mx_ok ow cc nL ret tg pc npc q v w (12, im, jm, a, b, ts) = (mx_dq cc pc (mx_lshI b) 1 && decide (npc = pc + 1)) := rfl
theorem mx_o13 : mx_ok ow cc nL ret tg pc npc q v w (13, im, jm, a, b, ts) = (mx_dq cc pc .lcmp 1 && decide (npc = pc + 1)) := rfl
theorem mx_o14 : mx_ok ow cc nL ret tg pc npc q v w (14, im, jm, a, b, ts) = (mx_dq cc pc .i2l 1 && decide (npc = pc + 1)) := rfl
theorem mx_o15 : mx_ok ow cc nL ret tg pc npc q v w (15, im, jm, a, b, ts) = (mx_dq cc pc .l2i 1 && decide (npc = pc + 1)) := rfl
theorem mx_o16 : mx_ok ow cc nL ret tg pc npc q v w (16, im, jm, a, b, ts) = (decide (a < nL) && (mx_dq cc pc (.iinc a im.toInt) 3 && decide (npc = pc + 3))) := rfl
theorem mx_o17 : mx_ok ow cc nL ret tg pc npc q v w (17, im, jm, a, b, ts) = (mx_dq cc pc .dup 1 && decide (npc = pc + 1)) := rfl
theorem mx_o18 : mx_ok ow cc nL ret tg pc npc q v w (18, im, jm, a, b, ts) = (mx_dq cc pc .dup2 1 && decide (npc = pc + 1)) := rfl
theorem mx_o19 : mx_ok ow cc nL ret tg pc npc q v w (19, im, jm, a, b, ts) = (mx_dq cc pc (.ifCond (mx_cn b) ((tg a : Int) - pc)) 3 && decide (npc = pc + 3)) := rfl
theorem mx_o20 : mx_ok ow cc nL ret tg pc npc q v w (20, im, jm, a, b, ts) = (mx_dq cc pc (.if_icmp (mx_cn b) ((tg a : Int) - pc)) 3 && decide (npc = pc + 3)) := rfl
theorem mx_o21 : mx_ok ow cc nL ret tg pc npc q v w (21, im, jm, a, b, ts) = (mx_dq cc pc (.goto ((tg a : Int) - pc)) 3) := rfl
theorem mx_o22 : mx_ok ow cc nL ret tg pc npc q v w (22, im, jm, a, b, ts) = (match v with | 0 => mx_dq cc pc (.tableswitch ((tg a : Int) - pc) (b : Int) (((b + ts.length : Nat) : Int) - 1) (ts.map (fun t => (tg t : Int) - pc)).toArray) q && decide (b + ts.length < 2 ^ 31) | _ => match ts with | [t0, t1] => mx_dq cc pc (.lookupswitch ((tg a : Int) - pc) #[(0, (tg t0 : Int) - pc), (1, (tg t1 : Int) - pc)]) q && decide (b = 0) | _ => false) := rfl
theorem mx_o23 : mx_ok ow cc nL ret tg pc npc q v w (23, im, jm, a, b, ts) = (mx_dq cc pc (.getfield q) 3 && (mx_lkF w ow q a b && decide (npc = pc + 3))) := rfl
theorem mx_o24 : mx_ok ow cc nL ret tg pc npc q v w (24, im, jm, a, b, ts) = (mx_dq cc pc (.putfield q) 3 && (mx_lkF w ow q a b && decide (npc = pc + 3))) := rfl
theorem mx_o25 : mx_ok ow cc nL ret tg pc npc q v w (25, im, jm, a, b, ts) = (mx_dq cc pc .iaload 1 && decide (npc = pc + 1)) := rfl
theorem mx_o26 : mx_ok ow cc nL ret tg pc npc q v w (26, im, jm, a, b, ts) = (mx_dq cc pc .iastore 1 && decide (npc = pc + 1)) := rfl
theorem mx_o27 : mx_ok ow cc nL ret tg pc npc q v w (27, im, jm, a, b, ts) = (mx_dq cc pc .baload 1 && decide (npc = pc + 1) && decide (b < 2)) := rfl
theorem mx_o28 : mx_ok ow cc nL ret tg pc npc q v w (28, im, jm, a, b, ts) = (mx_dq cc pc .bastore 1 && decide (npc = pc + 1) && decide (b < 2)) := rfl
theorem mx_o29 : mx_ok ow cc nL ret tg pc npc q v w (29, im, jm, a, b, ts) = (mx_dq cc pc .aaload 1 && decide (npc = pc + 1) && decide (b < 2)) := rfl
theorem mx_o30 : mx_ok ow cc nL ret tg pc npc q v w (30, im, jm, a, b, ts) = (mx_dq cc pc .arraylength 1 && decide (npc = pc + 1)) := rfl
theorem mx_o31 : mx_ok ow cc nL ret tg pc npc q v w (31, im, jm, a, b, ts) = (mx_okc ow cc pc q v w a b (mx_nth ts 1) && (decide (mx_nth ts 2 = mx_nl a) && decide (npc = pc + 3))) := rfl
theorem mx_o32 : mx_ok ow cc nL ret tg pc npc q v w (32, im, jm, a, b, ts) = (mx_dq cc pc .ireturn 1 && decide (ret = some (match b with | 0 => .int | 1 => .boolean | 2 => .char | _ => .byte))) := rfl
theorem mx_o33 : mx_ok ow cc nL ret tg pc npc q v w (33, im, jm, a, b, ts) = (mx_dq cc pc .lreturn 1 && decide (ret = some .long)) := rfl
theorem mx_o34 : mx_ok ow cc nL ret tg pc npc q v w (34, im, jm, a, b, ts) = (mx_dq cc pc .return_ 1 && decide (ret = none)) := rfl
theorem mx_o35 : mx_ok ow cc nL ret tg pc npc q v w (35, im, jm, a, b, ts) = (mx_dq cc pc (.ldc q) 2 && (decide (ow = 4) && (decide (a < 9) && (decide (q = mx_nth mx_sPT a) && decide (npc = pc + 2))))) := rfl
theorem mx_o36 : mx_ok ow cc nL ret tg pc npc q v w (36, im, jm, a, b, ts) = (mx_dq cc pc (.invokestatic q) 3 && (mx_lkM w ow q 1000 && decide (npc = pc + 3))) := rfl
theorem mx_o37 : mx_ok ow cc nL ret tg pc npc q v w (37, im, jm, a, b, ts) = (mx_dq cc pc (.getstatic q) 3 && (mx_lkF w ow q 9 0 && decide (npc = pc + 3))) := rfl
theorem mx_o38 : mx_ok ow cc nL ret tg pc npc q v w (38, im, jm, a, b, ts) = (mx_dq cc pc (.getstatic q) 3 && (mx_lkF w ow q 9 1 && decide (npc = pc + 3))) := rfl
theorem mx_o39 : mx_ok ow cc nL ret tg pc npc q v w (39, im, jm, a, b, ts) = (mx_dq cc pc (.getfield q) 3 && ((match b with | 0 => mx_lkF w ow q 9 2 | _ => mx_lkF w ow q 9 3) && decide (npc = pc + 3))) := rfl
theorem mx_o40 : mx_ok ow cc nL ret tg pc npc q v w (40, im, jm, a, b, ts) = (mx_dq cc pc .arraylength 1 && decide (npc = pc + 1)) := rfl
theorem mx_o41 : mx_ok ow cc nL ret tg pc npc q v w (41, im, jm, a, b, ts) = (mx_dq cc pc .baload 1 && decide (npc = pc + 1)) := rfl
theorem mx_o42 : mx_ok ow cc nL ret tg pc npc q v w (42, im, jm, a, b, ts) = (mx_dq cc pc .pop 1 && decide (npc = pc + 1)) := rfl
theorem mx_o43 : mx_ok ow cc nL ret tg pc npc q v w (43, im, jm, a, b, ts) = (mx_dq cc pc .iaload 1 && decide (npc = pc + 1)) := rfl
theorem mx_o44 : mx_ok ow cc nL ret tg pc npc q v w (44, im, jm, a, b, ts) = (mx_dq cc pc .arraylength 1 && decide (npc = pc + 1)) := rfl
theorem mx_o45 : mx_ok ow cc nL ret tg pc npc q v w (45, im, jm, a, b, ts) = (decide (tg (a + 1) = pc)) := rfl
theorem mx_o46 : mx_ok ow cc nL ret tg pc npc q v w (46, im, jm, a, b, ts) = (mx_dq cc pc (.invokestatic q) 3 && ((match b with | 0 => mx_lkM w ow q 1001 | _ => mx_lkM w ow q 1002) && decide (npc = pc + 3))) := rfl
theorem mx_o47 : mx_ok ow cc nL ret tg pc npc q v w (47, im, jm, a, b, ts) = (mx_dq cc pc (.invokestatic q) 3 && (mx_lkM w ow q 1003 && decide (npc = pc + 3))) := rfl
end Oks
end
section
/-! ===== one step ===== -/
theorem mx_nfo {o a : Nat} (h : mx_cO o = a + 1) : mx_nf o = (mx_cl a).2.2 ∧ a < 9 := by
  obtain ⟨h1, h2⟩ := (mx_aT_c o (mx_cO_lt h)).2 (by omega)
  have e : mx_cO o - 1 = a := by omega
  rw [e] at h1 h2
  exact ⟨h2, h1⟩
theorem mx_up_v {σ : mx_S} {k o j : Nat} {x : Int32} : mx_up σ k o j x k o j = x := if_pos ⟨rfl, rfl, rfl⟩
theorem mx_small {x : Int32} {n : Nat} (h : Nat.ble x.toBitVec.toNat n = true) : ∃ k, k ≤ n ∧ x = nI k := by
  refine ⟨x.toBitVec.toNat, Nat.le_of_ble_eq_true h, ?_⟩
  apply Int32.toBitVec_inj.mp
  apply BitVec.eq_of_toNat_eq
  show _ = (BitVec.ofNat 32 x.toBitVec.toNat).toNat
  rw [BitVec.toNat_ofNat, Nat.mod_eq_of_lt x.toBitVec.isLt]
theorem mx_b01 {x : Int32} (h : Nat.ble x.toBitVec.toNat 1 = true) : x = 0 ∨ x = 1 := by
  obtain ⟨k, hk, e⟩ := mx_small h
  rcases (show k = 0 ∨ k = 1 by omega) with rfl | rfl
  · exact Or.inl e
  · exact Or.inr e
theorem mx_nbool {x : Int32} (h : Nat.ble x.toBitVec.toNat 1 = true) : narrow .boolean (.int x) = .int x ∧ fits .boolean (.int x) = true := by
  rcases mx_b01 h with rfl | rfl <;> exact ⟨rfl, rfl⟩
theorem mx_nchar {x : Int32} (h : Nat.ble x.toBitVec.toNat 65535 = true) : narrow .char (.int x) = .int x := by
  obtain ⟨k, hk, rfl⟩ := mx_small h
  exact (pk_charN (by omega)).1
theorem mx_nbyte {x : Int32} (h : Nat.ble x.toBitVec.toNat 127 = true) : narrow .byte (.int x) = .int x := by
  obtain ⟨k, hk, rfl⟩ := mx_small h
  have : ∀ k, k < 128 → narrow .byte (.int (nI k)) = .int (nI k) := by decide +kernel
  exact this k (by omega)
def mx_rt (cc : ByteArray) (pc : Nat) (ret : Option FieldType) (v : Option mx_V) : Prop := match v with
  | some (Sum.inl x) => decode cc pc = .ok (.ireturn, 1) ∧ ∃ ty, ret = some ty ∧ narrow ty (.int x) = .int x
  | some (Sum.inr (Sum.inl _)) => decode cc pc = .ok (.lreturn, 1) ∧ ret = some .long
  | some (Sum.inr (Sum.inr _)) => False
  | none => decode cc pc = .ok (.return_, 1) ∧ ret = none
theorem mx_acw : Cond.native arraycopyName ∈ lw_gd ∧ Cond.static arraycopyName ∈ lw_gd ∧ Cond.initialized "java/lang/System" ∈ lw_gd := ⟨mx_hw_of (k := 469) (by decide +kernel), mx_hw_of (k := 468) (by decide +kernel), mx_hw_of (k := 102) (by decide +kernel)⟩
theorem mx_take_drop (b : Nat) (stk : List mx_V) : stk = (stk.take b).reverse.reverse ++ stk.drop b := by rw [List.reverse_reverse, List.take_append_drop]
section St
variable {p : Program} {l : Launch} {e : Env} {R : Room} {s : State} {m : MethodId} {args : Array Value} {below : List Frame} {meth : Method} {c : Code} {cells slots : Nat} {Q : State → Prop} {cc : ByteArray} {nL : Nat} {g : mx_G} {L : Nat} {xs : Nat → Int32} {pc npc Y : Nat} {loc : mx_Loc} {stk : List mx_V} {σ : mx_S}
set_option maxHeartbeats 4000000 in
set_option maxRecDepth 10000 in
theorem sd_step {ow : Nat} (C : mx_Cx p R s m args c cells slots cc nL (mx_on ow) g L xs Y) {ret : Option FieldType} {tg : Nat → Nat} {q v w : Nat} {i : mx_Op} {KR : Option mx_V → mx_S → Prop} (hok : mx_ok ow cc nL ret tg pc npc q v w i = true)
    (hKR : ∀ (v0 : Option mx_V) (σ' : mx_S) (H : Heap) (ls : Array Slot) (locs : List Loc), KR v0 σ' → va_P g.2.1 vwCl (mx_ws g σ') H → va_S (mx_A g) s.heap H locs → mx_rt cc pc ret v0 → W p l e R s m args below meth c H locs cells slots Q (F0 m pc ls (v0.map (mx_rv g)).toList))
    (h : mx_step (fun lo st σ => mx_W p l e R s m args below meth c cells slots Q nL g L xs npc lo st σ) (fun t lo st σ => mx_W p l e R s m args below meth c cells slots Q nL g L xs (tg t) lo st σ) KR (fun y' _ as lo st σ => ∃ rr : mx_Rt, y' < Y ∧ mx_OK l y' as σ rr ∧ (∀ k j, rr.2 k mx_oX j = σ k mx_oX j) ∧ (∀ v, rr.1 = some v → mx_okV v) ∧ mx_W p l e R s m args below meth c cells slots Q nL g L xs npc lo (rr.1.toList ++ st) rr.2) (fun hh lo σ => mx_W p l e R s m args below meth c cells slots Q nL g L xs (tg (hh + 1)) lo [] σ) False i loc stk σ) : mx_W p l e R s m args below meth c cells slots Q nL g L xs pc loc stk σ := by
  intro H ls locs hP hS hv hs hlo hc
  obtain ⟨op, im, jm, a, b, ts⟩ := i
  rcases op with _ | _ | _ | _ | _ | _ | _ | _ | _ | _ | _ | _ | _ | _ | _ | _ | _ | _ | _ | _ | _ | _ | _ | _ | _ | _ | _ | _ | _ | _ | _ | _ | _ | _ | _ | _ | _ | _ | _ | _ | _ | _ | _ | _ | _ | _ | _ | _ | op
  · rw [mx_o0] at hok; rw [mx_s0] at h
    split at h
    · rename_i x hx0
      refine sd_iload C ?_ hx0 h H ls locs hP hS hv hs hlo hc
      revert hok
      split
      · intro hok
        simp only [Bool.and_eq_true, decide_eq_true_eq] at hok
        exact Or.inr ⟨hok.1, mx_dq_of hok.2.1, hok.2.2⟩
      · intro hok
        simp only [Bool.and_eq_true, decide_eq_true_eq] at hok
        exact Or.inl ⟨mx_dq_of hok.1, hok.2⟩
    · exact h.elim
  · rw [mx_o1] at hok; rw [mx_s1] at h
    split at h
    · rename_i x hx0
      refine sd_lload C ?_ hx0 h H ls locs hP hS hv hs hlo hc
      revert hok
      split
      · intro hok
        simp only [Bool.and_eq_true, decide_eq_true_eq] at hok
        exact Or.inr ⟨hok.1, mx_dq_of hok.2.1, hok.2.2⟩
      · intro hok
        simp only [Bool.and_eq_true, decide_eq_true_eq] at hok
        exact Or.inl ⟨mx_dq_of hok.1, hok.2⟩
    · exact h.elim
  · rw [mx_o2] at hok; rw [mx_s2] at h
    split at h
    · rename_i k o hx0
      split at h
      · rename_i hb
        refine sd_aload (q := (k, o)) C ?_ (fun z => by have z : o = mx_oQ := z; subst z; exact absurd hb (by decide)) hx0 h H ls locs hP hS hv hs hlo hc
        revert hok
        split
        · intro hok
          simp only [Bool.and_eq_true, decide_eq_true_eq] at hok
          exact Or.inr ⟨hok.1, mx_dq_of hok.2.1, hok.2.2⟩
        · intro hok
          simp only [Bool.and_eq_true, decide_eq_true_eq] at hok
          exact Or.inl ⟨mx_dq_of hok.1, hok.2⟩
      · exact h.elim
    · exact h.elim
  · rw [mx_o3] at hok; rw [mx_s3] at h
    split at h
    · rw [Bool.and_eq_true] at hok
      obtain ⟨ha, hok⟩ := hok
      refine sd_istore C (of_decide_eq_true ha) ?_ h H ls locs hP hS hv hs hlo hc
      revert hok
      split
      · intro hok
        simp only [Bool.and_eq_true, decide_eq_true_eq] at hok
        exact Or.inr ⟨hok.1, mx_dq_of hok.2.1, hok.2.2⟩
      · intro hok
        simp only [Bool.and_eq_true, decide_eq_true_eq] at hok
        exact Or.inl ⟨mx_dq_of hok.1, hok.2⟩
    · exact h.elim
  · rw [mx_o4] at hok; rw [mx_s4] at h
    split at h
    · rw [Bool.and_eq_true] at hok
      obtain ⟨ha, hok⟩ := hok
      refine sd_lstore C (of_decide_eq_true ha) ?_ h H ls locs hP hS hv hs hlo hc
      revert hok
      split
      · intro hok
        simp only [Bool.and_eq_true, decide_eq_true_eq] at hok
        exact Or.inr ⟨hok.1, mx_dq_of hok.2.1, hok.2.2⟩
      · intro hok
        simp only [Bool.and_eq_true, decide_eq_true_eq] at hok
        exact Or.inl ⟨mx_dq_of hok.1, hok.2⟩
    · exact h.elim
  · rw [mx_o5] at hok; rw [mx_s5] at h
    split at h
    · rename_i k o r
      split at h
      · rename_i hb
        rw [Bool.and_eq_true] at hok
        obtain ⟨ha, hok⟩ := hok
        refine sd_astore (q := (k, o)) C (of_decide_eq_true ha) ?_ (fun z => by have z : o = mx_oQ := z; subst z; exact absurd hb (by decide)) h H ls locs hP hS hv hs hlo hc
        revert hok
        split
        · intro hok
          simp only [Bool.and_eq_true, decide_eq_true_eq] at hok
          exact Or.inr ⟨hok.1, mx_dq_of hok.2.1, hok.2.2⟩
        · intro hok
          simp only [Bool.and_eq_true, decide_eq_true_eq] at hok
          exact Or.inl ⟨mx_dq_of hok.1, hok.2⟩
      · exact h.elim
    · exact h.elim
  · rw [mx_o6] at hok; rw [mx_s6] at h
    refine sd_const (x0 := q) C ?_ h H ls locs hP hS hv hs hlo hc
    revert hok
    split
    · intro hok
      simp only [Bool.and_eq_true, decide_eq_true_eq] at hok
      exact Or.inl ⟨mx_dq_of hok.1, hok.2⟩
    · intro hok
      simp only [Bool.and_eq_true, decide_eq_true_eq] at hok
      exact Or.inr (Or.inl ⟨mx_dq_of hok.1, hok.2.1, hok.2.2⟩)
    · intro hok
      simp only [Bool.and_eq_true, decide_eq_true_eq] at hok
      exact Or.inr (Or.inr (Or.inl ⟨mx_dq_of hok.1, hok.2.1, hok.2.2⟩))
    · intro hok
      simp only [Bool.and_eq_true, decide_eq_true_eq] at hok
      exact Or.inr (Or.inr (Or.inr (Or.inl ⟨mx_dq_of hok.1, mx_lkC_of hok.2.1, hok.2.2⟩)))
    · intro hok
      simp only [Bool.and_eq_true, decide_eq_true_eq] at hok
      exact Or.inr (Or.inr (Or.inr (Or.inr ⟨mx_dq_of hok.1, mx_lkC_of hok.2.1, hok.2.2⟩)))
  · rw [mx_o7] at hok; rw [mx_s7] at h
    refine sd_lconst (a := a) (x0 := q) C ?_ h H ls locs hP hS hv hs hlo hc
    revert hok
    split
    · intro hok
      simp only [Bool.and_eq_true, decide_eq_true_eq] at hok
      exact Or.inl ⟨mx_dq_of hok.1, hok.2.1, hok.2.2⟩
    · intro hok
      simp only [Bool.and_eq_true, decide_eq_true_eq] at hok
      exact Or.inr ⟨mx_dq_of hok.1, mx_lkJ_of hok.2.1, hok.2.2⟩
  · rw [mx_o8] at hok; rw [mx_s8] at h
    simp only [Bool.and_eq_true, decide_eq_true_eq] at hok
    obtain ⟨hd, rfl⟩ := hok
    split at h
    · exact sd_bin C (mx_dq_of hd) h H ls locs hP hS hv hs hlo hc
    · exact h.elim
  · rw [mx_o9] at hok; rw [mx_s9] at h
    simp only [Bool.and_eq_true, decide_eq_true_eq] at hok
    obtain ⟨hd, rfl⟩ := hok
    split at h
    · exact sd_div C (mx_dq_of hd) h H ls locs hP hS hv hs hlo hc
    · exact h.elim
  · rw [mx_o10] at hok; rw [mx_s10] at h
    simp only [Bool.and_eq_true, decide_eq_true_eq] at hok
    obtain ⟨hd, rfl⟩ := hok
    split at h
    · exact sd_un C (mx_dq_of hd) h H ls locs hP hS hv hs hlo hc
    · exact h.elim
  · rw [mx_o11] at hok; rw [mx_s11] at h
    simp only [Bool.and_eq_true, decide_eq_true_eq] at hok
    obtain ⟨hd, rfl⟩ := hok
    split at h
    · exact sd_lb C (mx_dq_of hd) h H ls locs hP hS hv hs hlo hc
    · exact h.elim
  · rw [mx_o12] at hok; rw [mx_s12] at h
    simp only [Bool.and_eq_true, decide_eq_true_eq] at hok
    obtain ⟨hd, rfl⟩ := hok
    split at h
    · exact sd_lsh C (mx_dq_of hd) h H ls locs hP hS hv hs hlo hc
    · exact h.elim
  · rw [mx_o13] at hok; rw [mx_s13] at h
    simp only [Bool.and_eq_true, decide_eq_true_eq] at hok
    obtain ⟨hd, rfl⟩ := hok
    split at h
    · exact sd_lcmp C (mx_dq_of hd) h H ls locs hP hS hv hs hlo hc
    · exact h.elim
  · rw [mx_o14] at hok; rw [mx_s14] at h
    simp only [Bool.and_eq_true, decide_eq_true_eq] at hok
    obtain ⟨hd, rfl⟩ := hok
    split at h
    · exact sd_i2l C (mx_dq_of hd) h H ls locs hP hS hv hs hlo hc
    · exact h.elim
  · rw [mx_o15] at hok; rw [mx_s15] at h
    simp only [Bool.and_eq_true, decide_eq_true_eq] at hok
    obtain ⟨hd, rfl⟩ := hok
    split at h
    · exact sd_l2i C (mx_dq_of hd) h H ls locs hP hS hv hs hlo hc
    · exact h.elim
  · rw [mx_o16] at hok; rw [mx_s16] at h
    simp only [Bool.and_eq_true, decide_eq_true_eq] at hok
    obtain ⟨ha, hd, rfl⟩ := hok
    split at h
    · rename_i x hx0
      exact sd_iinc C ha (mx_dq_of hd) hx0 h H ls locs hP hS hv hs hlo hc
    · exact h.elim
  · rw [mx_o17] at hok; rw [mx_s17] at h
    simp only [Bool.and_eq_true, decide_eq_true_eq] at hok
    obtain ⟨hd, rfl⟩ := hok
    split at h
    · exact sd_dup (v := Sum.inl _) C (fun z => z) (mx_dq_of hd) h H ls locs hP hS hv hs hlo hc
    · exact sd_dup (v := Sum.inr (Sum.inr _)) C (fun z => z) (mx_dq_of hd) h H ls locs hP hS hv hs hlo hc
    · exact h.elim
  · rw [mx_o18] at hok; rw [mx_s18] at h
    simp only [Bool.and_eq_true, decide_eq_true_eq] at hok
    obtain ⟨hd, rfl⟩ := hok
    split at h
    · exact sd_dup2 (v := Sum.inl _) (v' := Sum.inr (Sum.inr _)) C (fun z => z) (fun z => z) (mx_dq_of hd) h H ls locs hP hS hv hs hlo hc
    · exact h.elim
  · rw [mx_o19] at hok; rw [mx_s19] at h
    simp only [Bool.and_eq_true, decide_eq_true_eq] at hok
    obtain ⟨hd, rfl⟩ := hok
    split at h
    · exact sd_ifc C (mx_dq_of hd) h H ls locs hP hS hv hs hlo hc
    · exact h.elim
  · rw [mx_o20] at hok; rw [mx_s20] at h
    simp only [Bool.and_eq_true, decide_eq_true_eq] at hok
    obtain ⟨hd, rfl⟩ := hok
    split at h
    · exact sd_icmp C (mx_dq_of hd) h H ls locs hP hS hv hs hlo hc
    · exact h.elim
  · rw [mx_o21] at hok; rw [mx_s21] at h
    exact sd_goto C (mx_dq_of hok) h H ls locs hP hS hv hs hlo hc
  · rw [mx_o22] at hok; rw [mx_s22] at h
    split at h
    · rename_i x r
      rw [mx_sw_map x (fun t => mx_W p l e R s m args below meth c cells slots Q nL g L xs (tg t) loc r σ) a b ts] at h
      revert hok
      split
      · intro hok
        simp only [Bool.and_eq_true, decide_eq_true_eq] at hok
        exact sd_sw C (mx_dq_of hok.1) hok.2 h H ls locs hP hS hv hs hlo hc
      · intro hok
        split at hok
        · simp only [Bool.and_eq_true, decide_eq_true_eq] at hok
          obtain ⟨hd, rfl⟩ := hok
          exact sd_lsw C (mx_dq_of hd) h H ls locs hP hS hv hs hlo hc
        · cases hok
    · exact h.elim
  · rw [mx_o23] at hok; rw [mx_s23] at h
    simp only [Bool.and_eq_true, decide_eq_true_eq] at hok
    obtain ⟨hd, hlk, rfl⟩ := hok
    obtain ⟨hw, hT9⟩ := mx_lkF_of hlk
    unfold mx_getf at h
    split at h
    · rename_i k o r
      split at h
      · rename_i hbq
        have ho : mx_cO o = a + 1 := Nat.eq_of_beq_eq_true hbq
        obtain ⟨en, ha9⟩ := mx_nfo ho
        obtain ⟨hT, hb9⟩ := hT9.resolve_left (by omega)
        rw [mx_wF_lt (by omega)] at hw
        have hN : b < mx_nf o := by rw [en]; exact hb9
        have hk : k < mx_kM o := mx_okV_cell (hs _ List.mem_cons_self) (mx_cO_lt ho)
        split at h
        · rename_i hf
          have hp := mx_pt_ok hk hN (Or.inl hf)
          exact sd_getf (v := Sum.inr (Sum.inr ((mx_pt k o b).1, (mx_pt k o b).2))) C hN (mx_dq_of hd) hw hT ho hk (Or.inl hp) (by unfold mx_fv; rw [hf, mx_rv_ref hp]; rfl) h H ls locs hP hS hv hs hlo hc
        · rename_i hf
          have hp := mx_pt_ok hk hN (Or.inr hf)
          by_cases hz : σ k o b = 0
          · exact (show False by simpa [hz] using h).elim
          · refine sd_getf (v := Sum.inr (Sum.inr ((mx_pt k o b).1, (mx_pt k o b).2))) C hN (mx_dq_of hd) hw hT ho hk (Or.inl hp) (by unfold mx_fv; rw [hf]; show (if σ k o b = 0 then _ else _) = _; rw [if_neg hz, mx_rv_ref hp]) ?_ H ls locs hP hS hv hs hlo hc
            have h2 : (if σ k o b = 0 then False else mx_W p l e R s m args below meth c cells slots Q nL g L xs (pc + 3) loc (Sum.inr (Sum.inr ((mx_pt k o b).1, (mx_pt k o b).2)) :: r) σ) := h
            rw [if_neg hz] at h2
            exact h2
        · rename_i h2 h3
          refine sd_getf (v := Sum.inl (σ k o b)) C hN (mx_dq_of hd) hw hT ho hk trivial ?_ h H ls locs hP hS hv hs hlo hc
          unfold mx_fv
          split
          · rename_i z; exact absurd z h2
          · rename_i z; exact absurd z h3
          · rfl
      · exact h.elim
    · exact h.elim
  · rw [mx_o24] at hok; rw [mx_s24] at h
    simp only [Bool.and_eq_true, decide_eq_true_eq] at hok
    obtain ⟨hd, hlk, rfl⟩ := hok
    obtain ⟨hw, hT9⟩ := mx_lkF_of hlk
    unfold mx_putf at h
    split at h
    · rename_i x k o r
      split at h
      · rename_i hbq
        have ho : mx_cO o = a + 1 := Nat.eq_of_beq_eq_true hbq
        obtain ⟨en, ha9⟩ := mx_nfo ho
        obtain ⟨hT, hb9⟩ := hT9.resolve_left (by omega)
        rw [mx_wF_lt (by omega)] at hw
        have hN : b < mx_nf o := by rw [en]; exact hb9
        have ho5 := mx_cO_lt ho
        have ea : mx_cO o - 1 = a := by omega
        have hk : k < mx_kM o := mx_okV_cell (hs _ (List.mem_cons_of_mem _ List.mem_cons_self)) ho5
        split at h
        · rename_i hf
          have ety := mx_fk_0 o ho5 (by omega) b hN hf
          rw [ea] at ety
          exact sd_putf (v := Sum.inl x) (z := x) C hN (mx_dq_of hd) hw hT ho hk (by omega) (by rw [ety]; rfl) (by rw [ety]; rfl) (by unfold mx_fv; rw [hf, mx_up_v]; rfl) h H ls locs hP hS hv hs hlo hc
        · rename_i hf
          have ety := mx_fk_1 o ho5 (by omega) b hN hf
          rw [ea] at ety
          unfold mx_z at h
          split at h
          · rename_i hz
            have h2 := mx_nbool hz
            exact sd_putf (v := Sum.inl x) (z := x) C hN (mx_dq_of hd) hw hT ho hk (by omega) (by rw [ety]; exact h2.1) (by rw [ety]; exact h2.2) (by unfold mx_fv; rw [hf, mx_up_v]; rfl) h H ls locs hP hS hv hs hlo hc
          · exact h.elim
        · exact h.elim
      · exact h.elim
    · rename_i k' o' k o r
      split at h
      · rename_i hbq
        have ho : mx_cO o = a + 1 := Nat.eq_of_beq_eq_true hbq
        obtain ⟨en, ha9⟩ := mx_nfo ho
        obtain ⟨hT, hb9⟩ := hT9.resolve_left (by omega)
        rw [mx_wF_lt (by omega)] at hw
        have hN : b < mx_nf o := by rw [en]; exact hb9
        have ho5 := mx_cO_lt ho
        have ea : mx_cO o - 1 = a := by omega
        have hk : k < mx_kM o := mx_okV_cell (hs _ (List.mem_cons_of_mem _ List.mem_cons_self)) ho5
        split at h
        · rename_i hf
          have ety := mx_fk_3 o ho5 (by omega) b hN hf
          rw [ea] at ety
          have hp := mx_pt_ok hk hN (Or.inr hf)
          split at h
          · rename_i h1 h2
            have e1 : (mx_pt k o b).1 = k' := Nat.eq_of_beq_eq_true h1
            have e2 : (mx_pt k o b).2 = o' := Nat.eq_of_beq_eq_true h2
            have er : mx_rv g (Sum.inr (Sum.inr (k', o'))) = .ref (g.1 k' o') := mx_rv_ref (by rw [← e1, ← e2]; exact hp)
            exact sd_putf (v := Sum.inr (Sum.inr (k', o'))) (z := 1) C hN (mx_dq_of hd) hw hT ho hk (by omega) (by rw [ety, er]; rfl) (by rw [ety, er]; rfl) (by unfold mx_fv; rw [hf, er]; show (if mx_up σ k o b 1 k o b = 0 then _ else _) = _; rw [mx_up_v, if_neg (by decide), e1, e2]) h H ls locs hP hS hv hs hlo hc
          · exact h.elim
        · exact h.elim
      · exact h.elim
    · exact h.elim
  · rw [mx_o25] at hok; rw [mx_s25] at h
    simp only [Bool.and_eq_true, decide_eq_true_eq] at hok
    obtain ⟨hd, rfl⟩ := hok
    split at h
    · rename_i i k o r
      split at h
      · rename_i hbq
        have ht := Nat.eq_of_beq_eq_true hbq
        have hk : k < mx_kM o := mx_okV_cell (hs _ (by simp)) (mx_aT_lt ht)
        exact sd_iald C (mx_dq_of hd) ht hk h H ls locs hP hS hv hs hlo hc
      · exact h.elim
    · exact h.elim
  · rw [mx_o26] at hok; rw [mx_s26] at h
    simp only [Bool.and_eq_true, decide_eq_true_eq] at hok
    obtain ⟨hd, rfl⟩ := hok
    split at h
    · rename_i x i k o r
      split at h
      · rename_i hbq
        have ht := Nat.eq_of_beq_eq_true hbq
        have hk : k < mx_kM o := mx_okV_cell (hs _ (by simp)) (mx_aT_lt ht)
        exact sd_iast C (mx_dq_of hd) ht hk h H ls locs hP hS hv hs hlo hc
      · exact h.elim
    · exact h.elim
  · rw [mx_o27] at hok; rw [mx_s27] at h
    simp only [Bool.and_eq_true, decide_eq_true_eq] at hok
    obtain ⟨⟨hd, rfl⟩, hb2⟩ := hok
    split at h
    · rename_i i k o r
      split at h
      · rename_i hbq
        have ht := Nat.eq_of_beq_eq_true hbq
        have hk : k < mx_kM o := mx_okV_cell (hs _ (by simp)) (mx_aT_lt ht)
        exact sd_bald C (mx_dq_of hd) (by omega) hk h H ls locs hP hS hv hs hlo hc
      · exact h.elim
    · exact h.elim
  · rw [mx_o28] at hok; rw [mx_s28] at h
    simp only [Bool.and_eq_true, decide_eq_true_eq] at hok
    obtain ⟨⟨hd, rfl⟩, hb2⟩ := hok
    split at h
    · rename_i x i k o r
      split at h
      · rename_i hbq
        have ht := Nat.eq_of_beq_eq_true hbq
        have hk : k < mx_kM o := mx_okV_cell (hs _ (by simp)) (mx_aT_lt ht)
        exact sd_bast C (mx_dq_of hd) ht hb2 hk h H ls locs hP hS hv hs hlo hc
      · exact h.elim
    · exact h.elim
  · rw [mx_o29] at hok; rw [mx_s29] at h
    simp only [Bool.and_eq_true, decide_eq_true_eq] at hok
    obtain ⟨⟨hd, rfl⟩, hb2⟩ := hok
    split at h
    · rename_i i k o r
      split at h
      · rename_i hbq
        have ht := Nat.eq_of_beq_eq_true hbq
        have hk : k < mx_kM o := mx_okV_cell (hs _ (by simp)) (mx_aT_lt ht)
        exact sd_aald C (mx_dq_of hd) (by omega) hk h H ls locs hP hS hv hs hlo hc
      · exact h.elim
    · exact h.elim
  · rw [mx_o30] at hok; rw [mx_s30] at h
    simp only [Bool.and_eq_true, decide_eq_true_eq] at hok
    obtain ⟨hd, rfl⟩ := hok
    split at h
    · rename_i k o r
      split at h
      · rename_i hbq
        have ht := Nat.eq_of_beq_eq_true hbq
        have hk : k < mx_kM o := mx_okV_cell (hs _ (by simp)) (mx_aT_lt ht)
        exact sd_alen C (mx_dq_of hd) ht hk h H ls locs hP hS hv hs hlo hc
      · exact h.elim
    · exact h.elim
  · rw [mx_o31] at hok; rw [mx_s31] at h
    split at h
    · rename_i hcg
      simp only [Bool.and_eq_true, decide_eq_true_eq] at hok
      obtain ⟨hok, hnl, hnp⟩ := hok
      subst hnp
      unfold mx_cg at hcg
      simp only [Bool.and_eq_true] at hcg
      obtain ⟨hl1, hl2, hwd, hrc⟩ := hcg
      have hl1 : b ≤ stk.length := Nat.le_of_ble_eq_true hl1
      have hl2 : (stk.drop b).length ≤ 4 := Nat.le_of_ble_eq_true hl2
      have hwd : mx_wd (stk.take b).reverse ≤ mx_nl a := by rw [← hnl]; exact Nat.le_of_ble_eq_true hwd
      have hlen : (stk.take b).reverse.length = b := by rw [List.length_reverse, List.length_take]; omega
      have hst := mx_take_drop b stk
      obtain ⟨rr, hY, hOK, hX, hrv, hW⟩ := h
      unfold mx_okc at hok
      rw [Bool.and_eq_true, Bool.and_eq_true] at hok
      obtain ⟨ha, hlk, hok⟩ := hok
      have ha : a < 191 := of_decide_eq_true ha
      have hl : Cond.methodLink (mx_on ow) q (mx_mN a) ∈ lw_gd ∨ va_Nw (.methodLinkNest (mx_on ow) q (mx_mN a) "RailOfHeads") s := by
        have hM : mx_lkM w ow q a = true → Cond.methodLink (mx_on ow) q (mx_mN a) ∈ lw_gd := fun z => by
          have := mx_lkM_of z
          unfold mx_wM at this
          rw [if_neg (by show ¬ a = 1000; omega), if_neg (by show ¬ a = 1001; omega), if_neg (by show ¬ a = 1002; omega), if_neg (by show ¬ a = 1003; omega)] at this
          exact this
        unfold mx_okl at hlk
        split at hlk
        · exact Or.inl (hM hlk)
        · exact Or.inl (hM hlk)
        · exact Or.inr (C.2.2.2.2.2.1.2.2.2.2.2.2.2.2 (ow, q, a) (List.mem_of_getElem? (of_decide_eq_true hlk)))
      have hmk := mx_mck_at ha
      unfold mx_mck at hmk
      simp only [Bool.and_eq_true, decide_eq_true_eq] at hmk
      obtain ⟨hm1, hm2, hm3, hm4⟩ := hmk
      have hm : mx_mok a := ⟨mx_allP_at mx_cdp_all ha, mx_hw_of hm1, hm2, hm3⟩
      revert hok
      split
      · rename_i hpt
        intro hok
        simp only [Bool.and_eq_true, decide_eq_true_eq] at hok
        obtain ⟨hd, hpar, hcl⟩ := hok
        rw [hpt] at hm4
        simp only [Bool.and_eq_true] at hm4
        generalize (stk.take b).reverse = as at hrc hOK hlen hst hwd
        generalize stk.drop b = rest at hl2 hW hst
        generalize mx_nth ts 1 = rc at hrc hcl
        unfold mx_rc at hrc
        split at hrc
        · cases hcl
        · rename_i hrc0
          split at hrc
          · rename_i k o as'
            have hpn : (parseMethodDescriptor (mx_mN a).desc).map (fun d => d.parameters.length) = some as'.length := by
              cases hpd : parseMethodDescriptor (mx_mN a).desc with
              | none => rw [hpd] at hpar; cases hpar
              | some d =>
                rw [hpd] at hpar
                simp only [Option.map_some, Option.some.injEq, List.length_cons] at hpar hlen ⊢
                omega
            have hok0 : mx_okV (Sum.inr (Sum.inr (k, o))) := hs _ (by rw [hst]; simp)
            split at hrc
            · rename_i h10
              have ho : o = mx_oS := Nat.eq_of_beq_eq_true hrc
              have e10 : rc = 10 := Nat.eq_of_beq_eq_true h10
              subst ho
              subst e10
              have hk9 : k < 9 := by
                rcases hok0 with z | ⟨-, z⟩ | z | z
                · exact absurd (mx_kM_lt z) (by decide)
                · exact z
                · exact absurd z (by decide)
                · exact absurd z.2 (by decide)
              have ecl : (mx_mN a).cls = "java/lang/String" := of_decide_eq_true hcl
              refine sd_callV (v0 := Sum.inr (Sum.inr (k, mx_oS))) (as := as') (rest := rest) (ad0 := g.1 k mx_oS) C hY hwd hOK hm hpn (mx_hw_of hm4.1) (mx_hw_of hm4.2) hl (mx_dq_of hd) hl2 hst rfl (fun H locs hP hS => ?_) hX hrv hW H ls locs hP hS hv hs hlo hc
              rw [ecl]
              exact vk_recv (adK := fun k => g.1 k mx_oS) (i := k) C.2.2.2.2.2.1.2.1 hk9 hS
            · rename_i h10
              have ho : mx_cO o = rc := Nat.eq_of_beq_eq_true hrc
              cases rc with
              | zero => exact absurd rfl hrc0
              | succ rc =>
                have hcl : rc < 9 ∧ (mx_cl rc).1 = (mx_mN a).cls := by
                  split at hcl
                  · rename_i z; cases z
                  · rename_i z; cases z; cases h10
                  · rename_i z
                    cases z
                    simp only [Bool.and_eq_true, decide_eq_true_eq] at hcl
                    exact hcl
                have hk : k < mx_kM o := mx_okV_cell hok0 (mx_cO_lt ho)
                refine sd_callV (v0 := Sum.inr (Sum.inr (k, o))) (as := as') (rest := rest) (ad0 := g.1 k o) C hY hwd hOK hm hpn (mx_hw_of hm4.1) (mx_hw_of hm4.2) hl (mx_dq_of hd) hl2 hst (mx_rv_ref hk) (fun H locs hP hS => ?_) hX hrv hW H ls locs hP hS hv hs hlo hc
                obtain ⟨n, hn⟩ := mx_at hk
                have he : (mx_ws g σ)[n]? = some (g.1 k o, .inr (rc, (List.range (mx_nf o)).map (mx_fv g σ k o))) := by rw [mx_ws_at hn, mx_obj ho]
                rw [← hcl.2]
                exact va_recv C.2.2.2.2.2.1.1 hP (mx_cl_at hcl.1) he
          · cases hrc
      · rename_i hpt
        intro hok
        simp only [Bool.and_eq_true, decide_eq_true_eq] at hok
        obtain ⟨hd, hpar⟩ := hok
        split at hm4
        · rename_i z; exact absurd z hpt
        · exact sd_callS (as := (stk.take b).reverse) (rest := stk.drop b) C hY hwd hOK hm (by rw [hlen]; exact hpar) (mx_hw_of hm4) hl (mx_dq_of hd) hl2 hst hX hrv hW H ls locs hP hS hv hs hlo hc
    · exact h.elim
  · rw [mx_o32] at hok; rw [mx_s32] at h
    simp only [Bool.and_eq_true, decide_eq_true_eq] at hok
    obtain ⟨hd, hr⟩ := hok
    split at h
    · rename_i x
      split at h
      · exact hKR (some (Sum.inl x)) σ H ls locs h hP hS ⟨mx_dq_of hd, _, hr, rfl⟩
      · rename_i hb0
        unfold mx_z at h
        split at h
        · rename_i hz
          refine hKR (some (Sum.inl x)) σ H ls locs h hP hS ⟨mx_dq_of hd, _, hr, ?_⟩
          split at hz
          · exact (mx_nbool hz).1
          · exact mx_nchar hz
          · rename_i h1 h2
            split
            · rename_i z; exact absurd rfl hb0
            · rename_i z; exact absurd rfl h1
            · rename_i z; exact absurd rfl h2
            · exact mx_nbyte hz
        · exact h.elim
    · exact h.elim
  · rw [mx_o33] at hok; rw [mx_s33] at h
    simp only [Bool.and_eq_true, decide_eq_true_eq] at hok
    obtain ⟨hd, hr⟩ := hok
    split at h
    · rename_i x
      exact hKR (some (Sum.inr (Sum.inl x))) σ H ls locs h hP hS ⟨mx_dq_of hd, hr⟩
    · exact h.elim
  · rw [mx_o34] at hok; rw [mx_s34] at h
    simp only [Bool.and_eq_true, decide_eq_true_eq] at hok
    obtain ⟨hd, hr⟩ := hok
    split at h
    · exact hKR none σ H ls locs h hP hS ⟨mx_dq_of hd, hr⟩
    · exact h.elim
  · rw [mx_o35] at hok; rw [mx_s35] at h
    simp only [Bool.and_eq_true, decide_eq_true_eq] at hok
    obtain ⟨hd, ho, ha, hp, rfl⟩ := hok
    exact sd_ldcS C (by rw [ho]; rfl) ha hp (mx_dq_of hd) h H ls locs hP hS hv hs hlo hc
  · rw [mx_o36] at hok; rw [mx_s36] at h
    simp only [Bool.and_eq_true, decide_eq_true_eq] at hok
    obtain ⟨hd, hl, rfl⟩ := hok
    split at h
    · rename_i n dp k1 o1 sp k o r
      split at h
      · rename_i h1 h2
        have ht := Nat.eq_of_beq_eq_true h1
        have ht1 := Nat.eq_of_beq_eq_true h2
        have hk : k < mx_kM o := mx_okV_cell (hs _ (by simp)) (mx_aT_lt ht)
        have hk1 : k1 < mx_kM o1 := mx_okV_cell (hs _ (by simp)) (mx_aT_lt ht1)
        split at h
        · rename_i h4
          exact sd_copy C (mx_dq_of hd) (mx_lkM_of hl) mx_acw.1 mx_acw.2.1 mx_acw.2.2 ht ht1 hk hk1 (Nat.le_of_ble_eq_true h4) h H ls locs hP hS hv hs hlo hc
        · exact h.elim
      · exact h.elim
    · exact h.elim
  · rw [mx_o37] at hok; rw [mx_s37] at h
    simp only [Bool.and_eq_true, decide_eq_true_eq] at hok
    obtain ⟨hd, hl, rfl⟩ := hok
    exact sd_gets1 C (mx_dq_of hd) (mx_lkF_of hl).1 h H ls locs hP hS hv hs hlo hc
  · rw [mx_o38] at hok; rw [mx_s38] at h
    simp only [Bool.and_eq_true, decide_eq_true_eq] at hok
    obtain ⟨hd, hl, rfl⟩ := hok
    exact sd_gets2 C (mx_dq_of hd) (mx_lkF_of hl).1 h H ls locs hP hS hv hs hlo hc
  · rw [mx_o39] at hok; rw [mx_s39] at h
    simp only [Bool.and_eq_true, decide_eq_true_eq] at hok
    obtain ⟨hd, hl, rfl⟩ := hok
    split at h
    · rename_i k o r
      split at h
      · rename_i hbq
        have ho : o = mx_oS := Nat.eq_of_beq_eq_true hbq
        subst ho
        have hk9 : k < 9 := by
          rcases hs _ List.mem_cons_self with z | ⟨-, z⟩ | z | z
          · exact absurd (mx_kM_lt z) (by decide)
          · exact z
          · exact absurd z (by decide)
          · exact absurd z.2 (by decide)
        split at h
        · exact sd_sval C hk9 (mx_dq_of hd) (mx_lkF_of hl).1 h H ls locs hP hS hv hs hlo hc
        · rename_i hb0
          refine sd_scod C hk9 (mx_dq_of hd) ?_ h H ls locs hP hS hv hs hlo hc
          split at hl
          · exact absurd rfl hb0
          · exact (mx_lkF_of hl).1
      · exact h.elim
    · exact h.elim
  · rw [mx_o40] at hok; rw [mx_s40] at h
    simp only [Bool.and_eq_true, decide_eq_true_eq] at hok
    obtain ⟨hd, rfl⟩ := hok
    split at h
    · rename_i k o r
      split at h
      · rename_i hbq
        have ho : o = mx_oB := Nat.eq_of_beq_eq_true hbq
        subst ho
        have hk9 : k < 9 := by
          rcases hs _ List.mem_cons_self with z | ⟨-, z⟩ | z | z
          · exact absurd (mx_kM_lt z) (by decide)
          · exact z
          · exact absurd z (by decide)
          · exact absurd z.2 (by decide)
        exact sd_slen C hk9 (mx_dq_of hd) h H ls locs hP hS hv hs hlo hc
      · exact h.elim
    · exact h.elim
  · rw [mx_o41] at hok; rw [mx_s41] at h
    simp only [Bool.and_eq_true, decide_eq_true_eq] at hok
    obtain ⟨hd, rfl⟩ := hok
    split at h
    · rename_i i k o r
      split at h
      · rename_i hbq
        have ho : o = mx_oB := Nat.eq_of_beq_eq_true hbq
        subst ho
        have hk9 : k < 9 := by
          rcases hs _ (List.mem_cons_of_mem _ List.mem_cons_self) with z | ⟨-, z⟩ | z | z
          · exact absurd (mx_kM_lt z) (by decide)
          · exact z
          · exact absurd z (by decide)
          · exact absurd z.2 (by decide)
        exact sd_sbyt C hk9 (mx_dq_of hd) h H ls locs hP hS hv hs hlo hc
      · exact h.elim
    · exact h.elim
  · rw [mx_o42] at hok; rw [mx_s42] at h
    simp only [Bool.and_eq_true, decide_eq_true_eq] at hok
    obtain ⟨hd, rfl⟩ := hok
    split at h
    · exact sd_pop C (mx_dq_of hd) h H ls locs hP hS hv hs hlo hc
    · exact h.elim
  · rw [mx_o43] at hok; rw [mx_s43] at h
    simp only [Bool.and_eq_true, decide_eq_true_eq] at hok
    obtain ⟨hd, rfl⟩ := hok
    split at h
    · rename_i i o r
      split at h
      · rename_i hbq
        have ho : o = mx_oX := Nat.eq_of_beq_eq_true hbq
        subst ho
        exact sd_xld C (mx_dq_of hd) h H ls locs hP hS hv hs hlo hc
      · exact h.elim
    · exact h.elim
  · rw [mx_o44] at hok; rw [mx_s44] at h
    simp only [Bool.and_eq_true, decide_eq_true_eq] at hok
    obtain ⟨hd, rfl⟩ := hok
    split at h
    · rename_i o r
      split at h
      · rename_i hbq
        have ho : o = mx_oX := Nat.eq_of_beq_eq_true hbq
        subst ho
        exact sd_xlen C (mx_dq_of hd) h H ls locs hP hS hv hs hlo hc
      · exact h.elim
    · exact h.elim
  · rw [mx_o45] at hok; rw [mx_s45] at h
    split at h
    · have ht : tg (a + 1) = pc := of_decide_eq_true hok
      rw [ht] at h
      exact h H ls locs hP hS ⟨hv.1, hv.2.1, fun i v hi => hv.2.2 i v (mx_lo_kp hi)⟩ hs (fun i v hi => hlo i v (mx_lo_kp hi)) hc
    · exact h.elim
  · rw [mx_o46] at hok; rw [mx_s46] at h
    simp only [Bool.and_eq_true, decide_eq_true_eq] at hok
    obtain ⟨hd, hl, rfl⟩ := hok
    split at h
    · split at h
      · rename_i h4
        split at h
        · exact sd_mmin C (mx_dq_of hd) (mx_lkM_of hl) (Nat.le_of_ble_eq_true h4) h H ls locs hP hS hv hs hlo hc
        · rename_i hb0
          refine sd_mmax C (mx_dq_of hd) ?_ (Nat.le_of_ble_eq_true h4) h H ls locs hP hS hv hs hlo hc
          split at hl
          · exact absurd rfl hb0
          · exact mx_lkM_of hl
      · exact h.elim
    · exact h.elim
  · rw [mx_o47] at hok; rw [mx_s47] at h
    simp only [Bool.and_eq_true, decide_eq_true_eq] at hok
    obtain ⟨hd, hl, rfl⟩ := hok
    split at h
    · split at h
      · rename_i h4
        exact sd_mabs C (mx_dq_of hd) (mx_lkM_of hl) (Nat.le_of_ble_eq_true h4) h H ls locs hP hS hv hs hlo hc
      · exact h.elim
    · exact h.elim
  · rw [show mx_step (fun lo st σ => mx_W p l e R s m args below meth c cells slots Q nL g L xs npc lo st σ) (fun t lo st σ => mx_W p l e R s m args below meth c cells slots Q nL g L xs (tg t) lo st σ) KR (fun y' _ as lo st σ => ∃ rr : mx_Rt, y' < Y ∧ mx_OK l y' as σ rr ∧ (∀ k j, rr.2 k mx_oX j = σ k mx_oX j) ∧ (∀ v, rr.1 = some v → mx_okV v) ∧ mx_W p l e R s m args below meth c cells slots Q nL g L xs npc lo (rr.1.toList ++ st) rr.2) (fun hh lo σ => mx_W p l e R s m args below meth c cells slots Q nL g L xs (tg (hh + 1)) lo [] σ) False (op + 48, im, jm, a, b, ts) loc stk σ = False from rfl] at h
    exact h.elim
end St
end
section
/-! ===== the tables are the bytecode's ===== -/
def mx_chk (ow : Nat) (cc : ByteArray) (nL : Nat) (ret : Option FieldType) (tg : Nat → Nat) : Nat → List mx_Op → List (Nat × Nat × Nat) → Bool
  | _, [], _ => true
  | _, _ :: _, [] => false
  | j, i :: c, k :: ks => mx_ok ow cc nL ret tg (tg j) (tg (j + 1)) k.1 k.2.1 k.2.2 i && mx_chk ow cc nL ret tg (j + 1) c ks
theorem mx_chk_at {ow : Nat} {cc : ByteArray} {nL : Nat} {ret : Option FieldType} {tg : Nat → Nat} : ∀ {P : List mx_Op} {ks : List (Nat × Nat × Nat)} {j n : Nat} {i : mx_Op} {c : List mx_Op}, mx_chk ow cc nL ret tg j P ks = true → P.drop n = i :: c → ∃ q v w, mx_ok ow cc nL ret tg (tg (j + n)) (tg (j + n + 1)) q v w i = true ∧ c = P.drop (n + 1)
  | [], _, _, n, _, _, _, h => by simp at h
  | _ :: _, [], _, _, _, _, h, _ => by cases h
  | i0 :: P, k :: ks, j, 0, i, c, h, hd => by
    cases hd
    simp only [mx_chk, Bool.and_eq_true] at h
    exact ⟨k.1, k.2.1, k.2.2, h.1, rfl⟩
  | i0 :: P, k :: ks, j, n + 1, i, c, h, hd => by
    simp only [mx_chk, Bool.and_eq_true] at h
    obtain ⟨q, v, w, h1, h2⟩ := mx_chk_at (n := n) h.2 hd
    refine ⟨q, v, w, ?_, h2⟩
    rw [show j + (n + 1) = j + 1 + n by omega]
    exact h1
theorem mx_chk_app {ow : Nat} {cc : ByteArray} {nL : Nat} {ret : Option FieldType} {tg : Nat → Nat} : ∀ {P P2 : List mx_Op} {ks k2 : List (Nat × Nat × Nat)} {j : Nat}, P.length = ks.length → mx_chk ow cc nL ret tg j P ks = true → mx_chk ow cc nL ret tg (j + P.length) P2 k2 = true → mx_chk ow cc nL ret tg j (P ++ P2) (ks ++ k2) = true
  | [], _, [], _, _, _, _, h => h
  | [], _, _ :: _, _, _, h, _, _ => by cases h
  | _ :: _, _, [], _, _, h, _, _ => by cases h
  | i :: P, P2, k :: ks, k2, j, hl, h1, h2 => by
    simp only [mx_chk, Bool.and_eq_true] at h1
    simp only [List.cons_append, mx_chk, Bool.and_eq_true]
    refine ⟨h1.1, mx_chk_app (by simpa using hl) h1.2 ?_⟩
    rw [List.length_cons] at h2
    rw [show j + 1 + P.length = j + (P.length + 1) by omega]
    exact h2
end
section
/-! ===== a method's table run by the machine is the bytecode run ===== -/
def mx_eqX (σ τ : mx_S) : Prop := ∀ k j, τ k mx_oX j = σ k mx_oX j
theorem mx_eqX_up {σ : mx_S} {k o j : Nat} {x : Int32} (h : o < 55) : mx_eqX σ (mx_up σ k o j x) := fun k' j' => if_neg (fun q => absurd (show mx_oX < 55 by rw [q.2.1]; exact h) (by decide))
theorem mx_eqX_cp {σ : mx_S} {k o k1 o1 sp dp n : Nat} (h : o1 < 55) : mx_eqX σ (mx_cp σ k o k1 o1 sp dp n) := fun k' j' => if_neg (fun q => absurd (show mx_oX < 55 by rw [q.2]; exact h) (by decide))
theorem mx_eqX_rf {σ : mx_S} : mx_eqX σ σ := fun _ _ => rfl
set_option maxHeartbeats 4000000 in
/-- no instruction touches the script; no answer is a reference -/
theorem mx_stepX (i : mx_Op) (loc : mx_Loc) (stk : List mx_V) (σ : mx_S) : mx_step (fun _ _ τ => mx_eqX σ τ) (fun _ _ _ τ => mx_eqX σ τ) (fun v τ => mx_eqX σ τ ∧ ∀ w, v = some w → mx_okV w) (fun _ _ _ _ _ τ => mx_eqX σ τ) (fun _ _ τ => mx_eqX σ τ) True i loc stk σ := by
  obtain ⟨op, im, jm, a, b, ts⟩ := i
  rcases op with _ | _ | _ | _ | _ | _ | _ | _ | _ | _ | _ | _ | _ | _ | _ | _ | _ | _ | _ | _ | _ | _ | _ | _ | _ | _ | _ | _ | _ | _ | _ | _ | _ | _ | _ | _ | _ | _ | _ | _ | _ | _ | _ | _ | _ | _ | _ | _ | op
  · rw [mx_s0]
    (repeat' split) <;> first | exact mx_eqX_rf | trivial
  · rw [mx_s1]
    (repeat' split) <;> first | exact mx_eqX_rf | trivial
  · rw [mx_s2]
    (repeat' split) <;> first | exact mx_eqX_rf | trivial
  · rw [mx_s3]
    (repeat' split) <;> first | exact mx_eqX_rf | trivial
  · rw [mx_s4]
    (repeat' split) <;> first | exact mx_eqX_rf | trivial
  · rw [mx_s5]
    (repeat' split) <;> first | exact mx_eqX_rf | trivial
  · rw [mx_s6]
    (repeat' split) <;> first | exact mx_eqX_rf | trivial
  · rw [mx_s7]
    (repeat' split) <;> first | exact mx_eqX_rf | trivial
  · rw [mx_s8]
    unfold mx_bin
    (repeat' split) <;> first | exact mx_eqX_rf | trivial
  · rw [mx_s9]
    unfold mx_d mx_div
    (repeat' split) <;> first | exact mx_eqX_rf | trivial
  · rw [mx_s10]
    unfold mx_un
    (repeat' split) <;> first | exact mx_eqX_rf | trivial
  · rw [mx_s11]
    unfold mx_lb
    (repeat' split) <;> first | exact mx_eqX_rf | trivial
  · rw [mx_s12]
    unfold mx_lsh
    (repeat' split) <;> first | exact mx_eqX_rf | trivial
  · rw [mx_s13]
    (repeat' split) <;> first | exact mx_eqX_rf | trivial
  · rw [mx_s14]
    (repeat' split) <;> first | exact mx_eqX_rf | trivial
  · rw [mx_s15]
    (repeat' split) <;> first | exact mx_eqX_rf | trivial
  · rw [mx_s16]
    (repeat' split) <;> first | exact mx_eqX_rf | trivial
  · rw [mx_s17]
    (repeat' split) <;> first | exact mx_eqX_rf | trivial
  · rw [mx_s18]
    (repeat' split) <;> first | exact mx_eqX_rf | trivial
  · rw [mx_s19]
    unfold mx_if
    (repeat' split) <;> first | exact mx_eqX_rf | trivial
  · rw [mx_s20]
    unfold mx_if
    (repeat' split) <;> first | exact mx_eqX_rf | trivial
  · rw [mx_s21]
    (repeat' split) <;> first | exact mx_eqX_rf | trivial
  · rw [mx_s22]
    split
    · rename_i x r
      rw [mx_sw_map x (fun _ : Nat => mx_eqX σ σ) a b ts]
      exact mx_eqX_rf
    · trivial
  · rw [mx_s23]
    unfold mx_getf
    (repeat' split) <;> first | exact mx_eqX_rf | trivial
  · rw [mx_s24]
    unfold mx_putf mx_z mx_w
    split
    · split
      · rename_i hb
        have ho := mx_cO_lt (Nat.eq_of_beq_eq_true hb)
        (repeat' split) <;> first | exact mx_eqX_up ho | trivial
      · trivial
    · split
      · rename_i hb
        have ho := mx_cO_lt (Nat.eq_of_beq_eq_true hb)
        (repeat' split) <;> first | exact mx_eqX_up ho | trivial
      · trivial
    · trivial
  · rw [mx_s25]
    unfold mx_g
    (repeat' split) <;> first | exact mx_eqX_rf | trivial
  · rw [mx_s26]
    split
    · split
      · rename_i hb
        have ho := mx_aT_lt (Nat.eq_of_beq_eq_true hb)
        unfold mx_g mx_w
        split
        · trivial
        · exact mx_eqX_up ho
      · trivial
    · trivial
  · rw [mx_s27]
    unfold mx_g
    (repeat' split) <;> first | exact mx_eqX_rf | trivial
  · rw [mx_s28]
    split
    · split
      · rename_i hb
        have ho := mx_aT_lt (Nat.eq_of_beq_eq_true hb)
        unfold mx_g mx_w
        split
        · trivial
        · exact mx_eqX_up ho
      · trivial
    · trivial
  · rw [mx_s29]
    unfold mx_g
    (repeat' split) <;> first | exact mx_eqX_rf | trivial
  · rw [mx_s30]
    (repeat' split) <;> first | exact mx_eqX_rf | trivial
  · rw [mx_s31]
    (repeat' split) <;> first | exact mx_eqX_rf | trivial
  · rw [mx_s32]
    unfold mx_z
    (repeat' split) <;> first | trivial | exact ⟨mx_eqX_rf, fun w hw => by cases hw; trivial⟩
  · rw [mx_s33]
    (repeat' split) <;> first | trivial | exact ⟨mx_eqX_rf, fun w hw => by cases hw; trivial⟩
  · rw [mx_s34]
    (repeat' split) <;> first | trivial | exact ⟨mx_eqX_rf, fun w hw => by cases hw⟩
  · rw [mx_s35]
    (repeat' split) <;> first | exact mx_eqX_rf | trivial
  · rw [mx_s36]
    split
    · split
      · rename_i h1 h2
        have ho := mx_aT_lt (Nat.eq_of_beq_eq_true h2)
        split
        · unfold mx_c
          split
          · trivial
          · exact mx_eqX_cp ho
        · trivial
      · trivial
    · trivial
  · rw [mx_s37]
    (repeat' split) <;> first | exact mx_eqX_rf | trivial
  · rw [mx_s38]
    (repeat' split) <;> first | exact mx_eqX_rf | trivial
  · rw [mx_s39]
    (repeat' split) <;> first | exact mx_eqX_rf | trivial
  · rw [mx_s40]
    (repeat' split) <;> first | exact mx_eqX_rf | trivial
  · rw [mx_s41]
    unfold mx_g
    (repeat' split) <;> first | exact mx_eqX_rf | trivial
  · rw [mx_s42]
    (repeat' split) <;> first | exact mx_eqX_rf | trivial
  · rw [mx_s43]
    unfold mx_g
    (repeat' split) <;> first | exact mx_eqX_rf | trivial
  · rw [mx_s44]
    (repeat' split) <;> first | exact mx_eqX_rf | trivial
  · rw [mx_s45]
    (repeat' split) <;> first | exact mx_eqX_rf | trivial
  · rw [mx_s46]
    (repeat' split) <;> first | exact mx_eqX_rf | trivial
  · rw [mx_s47]
    (repeat' split) <;> first | exact mx_eqX_rf | trivial
  · trivial
theorem mx_elim_mp {kn kn' : mx_Loc → List mx_V → mx_S → Prop} {kj kj' : Nat → mx_Loc → List mx_V → mx_S → Prop} {kr kr' : Option mx_V → mx_S → Prop} {kc kc' : Nat → Nat → List mx_V → mx_Loc → List mx_V → mx_S → Prop} {kh kh' : Nat → mx_Loc → mx_S → Prop} {fl fl' : Prop} {q : mx_Act} (h : mx_elim kn kj kr kc kh fl q) (h1 : ∀ a b c, kn a b c → kn' a b c) (h2 : ∀ a b c d, kj a b c d → kj' a b c d) (h3 : ∀ a b, kr a b → kr' a b) (h4 : ∀ a b c d e f, kc a b c d e f → kc' a b c d e f) (h5 : ∀ a b c, kh a b c → kh' a b c) (h6 : fl → fl') : mx_elim kn' kj' kr' kc' kh' fl' q := by
  rcases q with _ | (⟨l', s', σ'⟩ | ⟨t, l', s', σ'⟩ | ⟨v, σ'⟩ | ⟨y, rk, as, l', s', σ'⟩ | ⟨h', l', σ'⟩)
  · exact h6 h
  · exact h1 _ _ _ h
  · exact h2 _ _ _ _ h
  · exact h3 _ _ h
  · exact h4 _ _ _ _ _ _ h
  · exact h5 _ _ _ h
def mx_gdX (σ : mx_S) (r : mx_Rt) : Prop := mx_eqX σ r.2 ∧ ∀ w, r.1 = some w → mx_okV w
theorem mx_gdX.tr {σ τ : mx_S} {r : mx_Rt} (h : mx_eqX σ τ) (q : mx_gdX τ r) : mx_gdX σ r := ⟨fun k j => (q.1 k j).trans (h k j), q.2⟩
theorem mx_runX {E : Nat → List mx_V → mx_S → Option mx_Rt} {P : List mx_Op} {K : Nat → mx_Loc → mx_S → Option mx_Rt} (hE : ∀ y as σ r, E y as σ = some r → mx_gdX σ r) (hK : ∀ h l σ r, K h l σ = some r → mx_gdX σ r) : ∀ n c l s σ r, mx_run E P K n c l s σ = some r → mx_gdX σ r := by
  intro n
  induction n with
  | zero => intro c l s σ r h; cases c <;> cases h
  | succ n ih =>
    intro c l s σ r h
    cases c with
    | nil => cases h
    | cons i c =>
      rw [mx_run_s] at h
      have hx := mx_stepX i l s σ
      rw [mx_fac] at hx
      generalize mx_act i l s σ = q at h hx
      rcases q with _ | (⟨l', s', σ'⟩ | ⟨t, l', s', σ'⟩ | ⟨v, σ'⟩ | ⟨y, rk, as, l', s', σ'⟩ | ⟨h', l', σ'⟩)
      · cases h
      · exact (ih _ _ _ _ _ h).tr hx
      · exact (ih _ _ _ _ _ h).tr hx
      · cases h; exact hx
      · refine mx_gdX.tr (τ := σ') hx ?_
        rcases rk with _ | _ | rk
        · obtain ⟨σ2, e, h⟩ := mx_bV_iff.mp h
          exact (ih _ _ _ _ _ h).tr (hE _ _ _ _ e).1
        · obtain ⟨x, σ2, e, h⟩ := mx_bI_iff.mp h
          exact (ih _ _ _ _ _ h).tr (hE _ _ _ _ e).1
        · obtain ⟨x, σ2, e, h⟩ := mx_bJ_iff.mp h
          exact (ih _ _ _ _ _ h).tr (hE _ _ _ _ e).1
      · exact (hK _ _ _ _ h).tr hx
theorem mx_LX {E : Nat → List mx_V → mx_S → Option mx_Rt} {P : List mx_Op} (hE : ∀ y as σ r, E y as σ = some r → mx_gdX σ r) : ∀ n h l σ r, mx_L E P n h l σ = some r → mx_gdX σ r := by
  intro n
  induction n with
  | zero => intro h l σ r q; cases q
  | succ n ih => intro h l σ r q; exact mx_runX hE ih _ _ _ _ _ _ q
theorem mx_sem_H (y : Nat) (as : List mx_V) (σ : mx_S) : mx_sem y as σ = mx_H y 0 (mx_ent (mx_nl y) as) σ := by
  unfold mx_H mx_sem
  rw [WellFounded.fix_eq]
  congr 1
theorem mx_semX : ∀ y as σ r, mx_sem y as σ = some r → mx_gdX σ r := by
  intro y
  induction y using Nat.strongRecOn with
  | _ y ih =>
    intro as σ r h
    rw [mx_sem_H] at h
    obtain ⟨n, h⟩ := (mx_LL_iff _ _ _ _ _ _).mp h
    refine mx_LX (fun y' as' σ' r' h' => ?_) n _ _ _ _ h
    unfold mx_E at h'
    split at h'
    · rename_i hy
      exact ih y' hy as' σ' r' h'
    · cases h'
section Rn
variable {p : Program} {l : Launch} {e : Env} {R : Room} {s : State} {m : MethodId} {args : Array Value} {below : List Frame} {meth : Method} {c : Code} {cells slots : Nat} {Q : State → Prop} {cc : ByteArray} {nL : Nat} {g : mx_G} {L : Nat} {xs : Nat → Int32} {Y : Nat}
theorem mx_run_sd {ow : Nat} (C : mx_Cx p R s m args c cells slots cc nL (mx_on ow) g L xs Y) {ret : Option FieldType} {tg : Nat → Nat} {P : List mx_Op} {ks : List (Nat × Nat × Nat)} (hchk : mx_chk ow cc nL ret tg 0 P ks = true) {r : mx_Rt} {E : Nat → List mx_V → mx_S → Option mx_Rt} {K : Nat → mx_Loc → mx_S → Option mx_Rt}
    (hKR : ∀ (pc : Nat) (v0 : Option mx_V) (σ' : mx_S) (H : Heap) (ls : Array Slot) (locs : List Loc), (v0, σ') = r → va_P g.2.1 vwCl (mx_ws g σ') H → va_S (mx_A g) s.heap H locs → mx_rt cc pc ret v0 → W p l e R s m args below meth c H locs cells slots Q (F0 m pc ls (v0.map (mx_rv g)).toList))
    (hE : ∀ y' as σ rr, E y' as σ = some rr → y' < Y ∧ mx_OK l y' as σ rr ∧ mx_gdX σ rr)
    (hK : ∀ h lo σ, K h lo σ = some r → mx_W p l e R s m args below meth c cells slots Q nL g L xs (tg (h + 1)) lo [] σ) : ∀ n j loc stk σ, mx_run E P K n (P.drop j) loc stk σ = some r → mx_W p l e R s m args below meth c cells slots Q nL g L xs (tg j) loc stk σ := by
  intro n
  induction n with
  | zero => intro j loc stk σ h; cases hd : P.drop j <;> rw [hd] at h <;> cases h
  | succ n ih =>
    intro j loc stk σ h
    cases hd : P.drop j with
    | nil => rw [hd] at h; cases h
    | cons i c' =>
      obtain ⟨q, v, w, hok, hc'⟩ := mx_chk_at hchk hd
      rw [Nat.zero_add] at hok
      rw [hd, mx_run_s] at h
      subst hc'
      refine sd_step C hok (KR := fun v σ' => (v, σ') = r) (hKR (tg j)) ?_
      rw [mx_fac]
      generalize mx_act i loc stk σ = q at h ⊢
      rcases q with _ | (⟨l', s', σ'⟩ | ⟨t, l', s', σ'⟩ | ⟨v, σ'⟩ | ⟨y, rk, as, l', s', σ'⟩ | ⟨h', l', σ'⟩)
      · cases h
      · exact ih _ _ _ _ h
      · exact ih _ _ _ _ h
      · exact Option.some.inj h
      · rcases rk with _ | _ | rk
        · obtain ⟨σ2, e1, h⟩ := mx_bV_iff.mp h
          obtain ⟨h1, h2, h3⟩ := hE _ _ _ _ e1
          exact ⟨(none, σ2), h1, h2, h3.1, h3.2, ih _ _ _ _ h⟩
        · obtain ⟨x, σ2, e1, h⟩ := mx_bI_iff.mp h
          obtain ⟨h1, h2, h3⟩ := hE _ _ _ _ e1
          exact ⟨(some (Sum.inl x), σ2), h1, h2, h3.1, h3.2, ih _ _ _ _ h⟩
        · obtain ⟨x, σ2, e1, h⟩ := mx_bJ_iff.mp h
          obtain ⟨h1, h2, h3⟩ := hE _ _ _ _ e1
          exact ⟨(some (Sum.inr (Sum.inl x)), σ2), h1, h2, h3.1, h3.2, ih _ _ _ _ h⟩
      · exact hK _ _ _ h
theorem mx_L_sd {ow : Nat} (C : mx_Cx p R s m args c cells slots cc nL (mx_on ow) g L xs Y) {ret : Option FieldType} {tg : Nat → Nat} {P : List mx_Op} {ks : List (Nat × Nat × Nat)} (hchk : mx_chk ow cc nL ret tg 0 P ks = true) {r : mx_Rt} {E : Nat → List mx_V → mx_S → Option mx_Rt}
    (hKR : ∀ (pc : Nat) (v0 : Option mx_V) (σ' : mx_S) (H : Heap) (ls : Array Slot) (locs : List Loc), (v0, σ') = r → va_P g.2.1 vwCl (mx_ws g σ') H → va_S (mx_A g) s.heap H locs → mx_rt cc pc ret v0 → W p l e R s m args below meth c H locs cells slots Q (F0 m pc ls (v0.map (mx_rv g)).toList))
    (hE : ∀ y' as σ rr, E y' as σ = some rr → y' < Y ∧ mx_OK l y' as σ rr ∧ mx_gdX σ rr) : ∀ n h loc σ, mx_L E P n h loc σ = some r → mx_W p l e R s m args below meth c cells slots Q nL g L xs (tg (h + 1)) loc [] σ := by
  intro n
  induction n with
  | zero => intro h loc σ q; cases q
  | succ n ih => intro h loc σ q; exact mx_run_sd C hchk hKR hE ih 2000 (h + 1) loc [] σ q
end Rn
/-! the entry -/
theorem mx_wd_sl {g : mx_G} (hq : g.2.2.2.category = 1) : ∀ as : List mx_V, (lg_sl (as.map (mx_rv g))).length = mx_wd as
  | [] => rfl
  | Sum.inl x :: as => by
    have := mx_wd_sl hq as
    show (lg_sl (Value.int x :: as.map (mx_rv g))).length = mx_wd as + 1
    simp only [lg_sl, List.flatMap_cons, List.length_append] at this ⊢
    rw [this]
    simp [Value.category]; omega
  | Sum.inr (Sum.inl x) :: as => by
    have := mx_wd_sl hq as
    show (lg_sl (Value.long x :: as.map (mx_rv g))).length = mx_wd as + 2
    simp only [lg_sl, List.flatMap_cons, List.length_append] at this ⊢
    rw [this]
    simp [Value.category]; omega
  | Sum.inr (Sum.inr x) :: as => by
    have := mx_wd_sl hq as
    have hc := mx_cat1 (g := g) (v := Sum.inr (Sum.inr x)) hq (fun z => z)
    show (lg_sl (mx_rv g (Sum.inr (Sum.inr x)) :: as.map (mx_rv g))).length = mx_wd as + 1
    simp only [lg_sl, List.flatMap_cons, List.length_append] at this ⊢
    rw [this, if_neg (by omega)]
    simp; omega
theorem mx_ent_nil : ∀ (n i : Nat) (v : mx_V), mx_lo (mx_ent n []) i ≠ some v
  | 0, _, _ => fun h => by cases h
  | n + 1, 0, _ => fun h => by cases h
  | n + 1, i + 1, v => mx_ent_nil n i v
theorem mx_ent_at {g : mx_G} (hq : g.2.2.2.category = 1) : ∀ (as : List mx_V) (n off i : Nat) (v : mx_V), mx_lo (mx_ent n as) i = some v → (off + i, mx_rv g v) ∈ lv_args off (as.map (mx_rv g))
  | [], n, off, i, v, h => absurd h (mx_ent_nil n i v)
  | a :: as, 0, off, i, v, h => by cases h
  | a :: as, 1, off, i, v, h => by
    have h2 : mx_lo [some a] i = some v := by
      rcases a with x | x | x <;> exact h
    cases i with
    | zero => cases h2; exact List.mem_cons_self
    | succ i => cases h2
  | Sum.inr (Sum.inl x) :: as, n + 2, off, 0, v, h => by
    cases h
    exact List.mem_cons_self
  | Sum.inr (Sum.inl x) :: as, n + 2, off, 1, v, h => by cases h
  | Sum.inr (Sum.inl x) :: as, n + 2, off, i + 2, v, h => by
    have h2 := mx_ent_at hq as n (off + 2) i v h
    have e : off + (i + 2) = off + 2 + i := by omega
    rw [e]
    exact List.mem_cons_of_mem _ h2
  | Sum.inl x :: as, n + 2, off, 0, v, h => by
    cases h
    exact List.mem_cons_self
  | Sum.inl x :: as, n + 2, off, i + 1, v, h => by
    have h2 := mx_ent_at hq as (n + 1) (off + 1) i v h
    have e : off + (i + 1) = off + 1 + i := by omega
    rw [e]
    exact List.mem_cons_of_mem _ h2
  | Sum.inr (Sum.inr x) :: as, n + 2, off, 0, v, h => by
    cases h
    exact List.mem_cons_self
  | Sum.inr (Sum.inr x) :: as, n + 2, off, i + 1, v, h => by
    have h2 := mx_ent_at hq as (n + 1) (off + 1) i v h
    have e : off + (i + 1) = off + 1 + i := by omega
    have hc := mx_cat1 (g := g) (v := Sum.inr (Sum.inr x)) hq (fun z => z)
    rw [e]
    refine List.mem_cons_of_mem _ ?_
    rw [if_neg (by omega)]
    exact h2
theorem mx_ent_ok : ∀ (as : List mx_V) (n i : Nat) (v : mx_V), mx_lo (mx_ent n as) i = some v → v ∈ as
  | [], n, i, v, h => absurd h (mx_ent_nil n i v)
  | a :: as, 0, i, v, h => by cases h
  | a :: as, 1, i, v, h => by
    have h2 : mx_lo [some a] i = some v := by
      rcases a with x | x | x <;> exact h
    cases i with
    | zero => cases h2; exact List.mem_cons_self
    | succ i => cases h2
  | Sum.inr (Sum.inl x) :: as, n + 2, 0, v, h => by cases h; exact List.mem_cons_self
  | Sum.inr (Sum.inl x) :: as, n + 2, 1, v, h => by cases h
  | Sum.inr (Sum.inl x) :: as, n + 2, i + 2, v, h => List.mem_cons_of_mem _ (mx_ent_ok as n i v h)
  | Sum.inl x :: as, n + 2, 0, v, h => by cases h; exact List.mem_cons_self
  | Sum.inl x :: as, n + 2, i + 1, v, h => List.mem_cons_of_mem _ (mx_ent_ok as (n + 1) i v h)
  | Sum.inr (Sum.inr x) :: as, n + 2, 0, v, h => by cases h; exact List.mem_cons_self
  | Sum.inr (Sum.inr x) :: as, n + 2, i + 1, v, h => List.mem_cons_of_mem _ (mx_ent_ok as (n + 1) i v h)
/-- a method's table is checked -/
def mx_tok (y : Nat) : Prop := ∃ (ow : Nat) (tg : Nat → Nat) (ks : List (Nat × Nat × Nat)), mx_chk ow (mx_mC y) (mx_nl y) (mx_mR y) tg 0 (mx_pr y) ks = true ∧ mx_on ow = (mx_mN y).cls ∧ tg 1 = 0 ∧ plainName (mx_mN y).cls = true ∧ mx_nl y ≤ 40
theorem mx_sound (l : Launch) (hT : ∀ y, y < 191 → mx_tok y) : ∀ y, y < 191 → ∀ as σ r, mx_sem y as σ = some r → mx_OK l y as σ r := by
  intro y
  induction y using Nat.strongRecOn with
  | _ y ih =>
    intro hy as σ r h
    obtain ⟨ow, tg, ks, hchk, hon, htg, hpl, hnl⟩ := hT y hy
    intro g L xs hinj hq hL hs hwd hc
    refine Met.ofW (cc := mx_mC y) (maxL := mx_nl y) (ret := mx_mR y) hpl rfl ?_
    intro p e s m args below meth c s₁ B hml hv
    obtain ⟨rfl, hP, hF⟩ := hv
    have hts : ∀ w ∈ lw_gd, w.before (as.map (mx_rv g)).toArray s = true := fun w hw => atoms_spec (ws := mx_wy y) B.pre w (List.mem_cons_of_mem _ hw)
    have hown : s.vm.findClass (mx_on ow) = some m.cls := by rw [hon]; exact findClass_of_methodNamed B.named
    have hlocks := B.notSynchronized
    have C : mx_Cx p (headSpec (mx_wy y) (mx_rm y)).room s m (as.map (mx_rv g)).toArray c 0 0 (mx_mC y) (mx_nl y) (mx_on ow) g L xs y := by
      refine ⟨B.exec, B.bytes, hml, hown, hts, hF, hinj, hq, ⟨Nat.le_refl 0, Nat.le_refl 0⟩, hL, ⟨show 1 ≤ y + 2 by omega, show 100 ≤ 100 * (y + 2) by omega⟩, fun y' h' => ⟨show y' + 3 ≤ y + 2 by omega, show 8 + (mx_nl y' + 11) + 100 * (y' + 2) ≤ 100 * (y + 2) from ?_⟩⟩
      obtain ⟨-, -, -, -, -, -, -, h40⟩ := hT y' (by omega)
      omega
    rw [mx_sem_H] at h
    obtain ⟨n, h⟩ := (mx_LL_iff _ _ _ _ _ _).mp h
    have k := mx_L_sd (l := l) (e := e) (below := below) (meth := meth) (Q := MQ below (mx_Q g r) (as.map (mx_rv g)).toArray s 0 0 (mx_A g)) C hchk (r := r) (E := mx_E y) (fun pc v0 σ' H ls locs hr hP hS hrt => ?_) (fun y' as' σ' rr h' => ?_) n 0 _ _ h
    · rw [show 0 + 1 = 1 from rfl, htg] at k
      have hl := lv_entry (as.map (mx_rv g)) (n := mx_nl y) (by rw [mx_wd_sl hq]; exact hwd)
      rw [lg_entry_eq]
      generalize (lg_sl (as.map (mx_rv g)) ++ List.replicate (mx_nl y - (lg_sl (as.map (mx_rv g))).length) Slot.unset).toArray = ls at hl ⊢
      refine k s.heap ls [] hP va_S.rf ⟨hl.1, hl.2.1, fun i v hi => ?_⟩ (fun v hv => absurd hv List.not_mem_nil) (fun i v hi => hs v (mx_ent_ok as _ i v hi)) hc
      have := hl.2.2 _ (mx_ent_at hq as (mx_nl y) 0 i v hi)
      rw [Nat.zero_add] at this
      exact this
    · subst hr
      rcases v0 with _ | (x | x | x)
      · exact W.vret B.exec B.bytes (B.returns.trans hrt.2) (fun t ht hW => ⟨rfl, by rw [ht]; exact hP, hS.F ht⟩) hS.2.2 hrt.1
      · obtain ⟨hd, ty, h1, h2⟩ := hrt
        exact W.zret B.exec B.bytes (B.returns.trans h1) h2 (fun t ht hW => ⟨rfl, by rw [ht]; exact hP, hS.F ht⟩) hS.2.2 hd
      · exact W.lret B.exec B.bytes (B.returns.trans hrt.2) (fun t ht hW => ⟨rfl, by rw [ht]; exact hP, hS.F ht⟩) hS.2.2 hrt.1
      · exact hrt.elim
    · unfold mx_E at h'
      split at h'
      · rename_i hy'
        exact ⟨hy', ih y' hy' (by omega) as' σ' rr h', mx_semX y' as' σ' rr h'⟩
      · cases h'
end
section
/-! ===== a method keeps to the cells of its side ===== -/
def mx_okG (G : Nat → Prop) : mx_V → Prop
  | Sum.inr (Sum.inr q) => q.2 < 55 → G q.2
  | _ => True
def mx_gS (G : Nat → Prop) (s : List mx_V) : Prop := ∀ v ∈ s, mx_okG G v
def mx_gL (G : Nat → Prop) (l : mx_Loc) : Prop := ∀ i v, mx_lo l i = some v → mx_okG G v
def mx_ag (G : Nat → Prop) (σ τ : mx_S) : Prop := ∀ k o, ¬ G o → τ k o = σ k o
theorem mx_ag_rf {G : Nat → Prop} {σ : mx_S} : mx_ag G σ σ := fun _ _ _ => rfl
theorem mx_ag_up {G : Nat → Prop} {σ : mx_S} {k o j : Nat} {x : Int32} (h : G o) : mx_ag G σ (mx_up σ k o j x) := fun k' o' h' => mx_up_o (fun q => h' (by cases q; exact h))
theorem mx_ag_cp {G : Nat → Prop} {σ : mx_S} {k o k1 o1 sp dp n : Nat} (h : G o1) : mx_ag G σ (mx_cp σ k o k1 o1 sp dp n) := fun k' o' h' => by
  funext j
  exact if_neg (fun q => h' (by rw [q.2]; exact h))
theorem mx_gS_cons {G : Nat → Prop} {v : mx_V} {s : List mx_V} : mx_gS G (v :: s) ↔ mx_okG G v ∧ mx_gS G s := List.forall_mem_cons
theorem mx_gS_nil {G : Nat → Prop} : mx_gS G [] := fun _ h => absurd h List.not_mem_nil
theorem mx_gL_st1 {G : Nat → Prop} {l : mx_Loc} {a : Nat} {v : mx_V} (hl : mx_gL G l) (hv : mx_okG G v) : mx_gL G (mx_st1 l a v) := fun i w h => by
  rcases mx_lo_st1 h with ⟨-, rfl⟩ | ⟨-, h, -⟩
  · exact hv
  · exact hl i w h
theorem mx_gL_set {G : Nat → Prop} {l : mx_Loc} {a : Nat} (hl : mx_gL G l) : mx_gL G (l.set a none) := fun i w h => by
  rcases mx_lo_set _ _ _ _ _ h with ⟨-, h⟩ | ⟨-, h⟩
  · cases h
  · exact hl i w h
def mx_cl1 (G : Nat → Prop) : Prop := (∀ o, o < 55 → G o → ∀ k j, mx_fk o j = 2 ∨ mx_fk o j = 3 → (mx_pt k o j).2 < 55 → G (mx_pt k o j).2) ∧ (∀ o, o < 55 → G o → ∀ j, 4 ≤ mx_aT o → (mx_rA o j).2 < 55 → G (mx_rA o j).2)
set_option maxHeartbeats 4000000 in
theorem mx_stepG {G : Nat → Prop} (hG : mx_cl1 G) (i : mx_Op) (loc : mx_Loc) (stk : List mx_V) (σ : mx_S) (hl : mx_gL G loc) (hs : mx_gS G stk) : mx_step (fun l s τ => mx_ag G σ τ ∧ mx_gL G l ∧ mx_gS G s) (fun _ l s τ => mx_ag G σ τ ∧ mx_gL G l ∧ mx_gS G s) (fun _ τ => mx_ag G σ τ) (fun _ _ as l s τ => mx_ag G σ τ ∧ mx_gS G as ∧ mx_gL G l ∧ mx_gS G s) (fun _ l τ => mx_ag G σ τ ∧ mx_gL G l) True i loc stk σ := by
  obtain ⟨op, im, jm, a, b, ts⟩ := i
  rcases op with _ | _ | _ | _ | _ | _ | _ | _ | _ | _ | _ | _ | _ | _ | _ | _ | _ | _ | _ | _ | _ | _ | _ | _ | _ | _ | _ | _ | _ | _ | _ | _ | _ | _ | _ | _ | _ | _ | _ | _ | _ | _ | _ | _ | _ | _ | _ | _ | op
  · rw [mx_s0]
    (repeat' split) <;> first | exact ⟨mx_ag_rf, hl, mx_gS_cons.mpr ⟨trivial, hs⟩⟩ | trivial
  · rw [mx_s1]
    (repeat' split) <;> first | exact ⟨mx_ag_rf, hl, mx_gS_cons.mpr ⟨trivial, hs⟩⟩ | trivial
  · rw [mx_s2]
    split
    · rename_i k o h0
      split
      · exact ⟨mx_ag_rf, hl, mx_gS_cons.mpr ⟨hl a _ h0, hs⟩⟩
      · trivial
    · trivial
  · rw [mx_s3]
    split
    · exact ⟨mx_ag_rf, mx_gL_st1 hl trivial, (mx_gS_cons.mp hs).2⟩
    · trivial
  · rw [mx_s4]
    split
    · exact ⟨mx_ag_rf, mx_gL_set (mx_gL_st1 hl trivial), (mx_gS_cons.mp hs).2⟩
    · trivial
  · rw [mx_s5]
    split
    · split
      · exact ⟨mx_ag_rf, mx_gL_st1 hl (mx_gS_cons.mp hs).1, (mx_gS_cons.mp hs).2⟩
      · trivial
    · trivial
  · rw [mx_s6]
    exact ⟨mx_ag_rf, hl, mx_gS_cons.mpr ⟨trivial, hs⟩⟩
  · rw [mx_s7]
    exact ⟨mx_ag_rf, hl, mx_gS_cons.mpr ⟨trivial, hs⟩⟩
  · rw [mx_s8]
    unfold mx_bin
    (repeat' split) <;> first | exact ⟨mx_ag_rf, hl, mx_gS_cons.mpr ⟨trivial, (mx_gS_cons.mp (mx_gS_cons.mp hs).2).2⟩⟩ | trivial
  · rw [mx_s9]
    unfold mx_d mx_div
    (repeat' split) <;> first | exact ⟨mx_ag_rf, hl, mx_gS_cons.mpr ⟨trivial, (mx_gS_cons.mp (mx_gS_cons.mp hs).2).2⟩⟩ | trivial
  · rw [mx_s10]
    unfold mx_un
    (repeat' split) <;> first | exact ⟨mx_ag_rf, hl, mx_gS_cons.mpr ⟨trivial, (mx_gS_cons.mp hs).2⟩⟩ | trivial
  · rw [mx_s11]
    unfold mx_lb
    (repeat' split) <;> first | exact ⟨mx_ag_rf, hl, mx_gS_cons.mpr ⟨trivial, (mx_gS_cons.mp (mx_gS_cons.mp hs).2).2⟩⟩ | trivial
  · rw [mx_s12]
    unfold mx_lsh
    (repeat' split) <;> first | exact ⟨mx_ag_rf, hl, mx_gS_cons.mpr ⟨trivial, (mx_gS_cons.mp (mx_gS_cons.mp hs).2).2⟩⟩ | trivial
  · rw [mx_s13]
    (repeat' split) <;> first | exact ⟨mx_ag_rf, hl, mx_gS_cons.mpr ⟨trivial, (mx_gS_cons.mp (mx_gS_cons.mp hs).2).2⟩⟩ | trivial
  · rw [mx_s14]
    (repeat' split) <;> first | exact ⟨mx_ag_rf, hl, mx_gS_cons.mpr ⟨trivial, (mx_gS_cons.mp hs).2⟩⟩ | trivial
  · rw [mx_s15]
    (repeat' split) <;> first | exact ⟨mx_ag_rf, hl, mx_gS_cons.mpr ⟨trivial, (mx_gS_cons.mp hs).2⟩⟩ | trivial
  · rw [mx_s16]
    split
    · exact ⟨mx_ag_rf, mx_gL_st1 hl trivial, hs⟩
    · trivial
  · rw [mx_s17]
    (repeat' split) <;> first | exact ⟨mx_ag_rf, hl, mx_gS_cons.mpr ⟨(mx_gS_cons.mp hs).1, hs⟩⟩ | trivial
  · rw [mx_s18]
    (repeat' split) <;> first | exact ⟨mx_ag_rf, hl, mx_gS_cons.mpr ⟨(mx_gS_cons.mp hs).1, mx_gS_cons.mpr ⟨(mx_gS_cons.mp (mx_gS_cons.mp hs).2).1, hs⟩⟩⟩ | trivial
  · rw [mx_s19]
    unfold mx_if
    (repeat' split) <;> first | exact ⟨mx_ag_rf, hl, (mx_gS_cons.mp hs).2⟩ | trivial
  · rw [mx_s20]
    unfold mx_if
    (repeat' split) <;> first | exact ⟨mx_ag_rf, hl, (mx_gS_cons.mp (mx_gS_cons.mp hs).2).2⟩ | trivial
  · rw [mx_s21]
    exact ⟨mx_ag_rf, hl, hs⟩
  · rw [mx_s22]
    split
    · rename_i x r
      rw [mx_sw_map x (fun _ : Nat => mx_ag G σ σ ∧ mx_gL G loc ∧ mx_gS G r) a b ts]
      exact ⟨mx_ag_rf, hl, (mx_gS_cons.mp hs).2⟩
    · trivial
  · rw [mx_s23]
    unfold mx_getf
    split
    · rename_i k o r
      split
      · rename_i hb
        have ho := mx_cO_lt (Nat.eq_of_beq_eq_true hb)
        have hg := (mx_gS_cons.mp hs).1 ho
        split
        · rename_i hf
          exact ⟨mx_ag_rf, hl, mx_gS_cons.mpr ⟨fun z => hG.1 o ho hg k b (Or.inl hf) z, (mx_gS_cons.mp hs).2⟩⟩
        · rename_i hf
          show (if σ k o b = 0 then True else _)
          split
          · trivial
          · exact ⟨mx_ag_rf, hl, mx_gS_cons.mpr ⟨fun z => hG.1 o ho hg k b (Or.inr hf) z, (mx_gS_cons.mp hs).2⟩⟩
        · exact ⟨mx_ag_rf, hl, mx_gS_cons.mpr ⟨trivial, (mx_gS_cons.mp hs).2⟩⟩
      · trivial
    · trivial
  · rw [mx_s24]
    unfold mx_putf mx_z mx_w
    split
    · split
      · rename_i hb
        have ho := mx_cO_lt (Nat.eq_of_beq_eq_true hb)
        have hg := (mx_gS_cons.mp (mx_gS_cons.mp hs).2).1 ho
        (repeat' split) <;> first | exact ⟨mx_ag_up hg, hl, (mx_gS_cons.mp (mx_gS_cons.mp hs).2).2⟩ | trivial
      · trivial
    · split
      · rename_i hb
        have ho := mx_cO_lt (Nat.eq_of_beq_eq_true hb)
        have hg := (mx_gS_cons.mp (mx_gS_cons.mp hs).2).1 ho
        (repeat' split) <;> first | exact ⟨mx_ag_up hg, hl, (mx_gS_cons.mp (mx_gS_cons.mp hs).2).2⟩ | trivial
      · trivial
    · trivial
  · rw [mx_s25]
    unfold mx_g
    (repeat' split) <;> first | exact ⟨mx_ag_rf, hl, mx_gS_cons.mpr ⟨trivial, (mx_gS_cons.mp (mx_gS_cons.mp hs).2).2⟩⟩ | trivial
  · rw [mx_s26]
    split
    · split
      · rename_i hb
        have ho := mx_aT_lt (Nat.eq_of_beq_eq_true hb)
        have hg := (mx_gS_cons.mp (mx_gS_cons.mp (mx_gS_cons.mp hs).2).2).1 ho
        unfold mx_g mx_w
        split
        · trivial
        · exact ⟨mx_ag_up hg, hl, (mx_gS_cons.mp (mx_gS_cons.mp (mx_gS_cons.mp hs).2).2).2⟩
      · trivial
    · trivial
  · rw [mx_s27]
    unfold mx_g
    (repeat' split) <;> first | exact ⟨mx_ag_rf, hl, mx_gS_cons.mpr ⟨trivial, (mx_gS_cons.mp (mx_gS_cons.mp hs).2).2⟩⟩ | trivial
  · rw [mx_s28]
    split
    · split
      · rename_i hb
        have ho := mx_aT_lt (Nat.eq_of_beq_eq_true hb)
        have hg := (mx_gS_cons.mp (mx_gS_cons.mp (mx_gS_cons.mp hs).2).2).1 ho
        unfold mx_g mx_w
        split
        · trivial
        · exact ⟨mx_ag_up hg, hl, (mx_gS_cons.mp (mx_gS_cons.mp (mx_gS_cons.mp hs).2).2).2⟩
      · trivial
    · trivial
  · rw [mx_s29]
    split
    · split
      · rename_i hb
        have e4 := Nat.eq_of_beq_eq_true hb
        have ho := mx_aT_lt e4
        have hg := (mx_gS_cons.mp (mx_gS_cons.mp hs).2).1 ho
        unfold mx_g
        split
        · trivial
        · exact ⟨mx_ag_rf, hl, mx_gS_cons.mpr ⟨fun z => hG.2 _ ho hg _ (by omega) z, (mx_gS_cons.mp (mx_gS_cons.mp hs).2).2⟩⟩
      · trivial
    · trivial
  · rw [mx_s30]
    (repeat' split) <;> first | exact ⟨mx_ag_rf, hl, mx_gS_cons.mpr ⟨trivial, (mx_gS_cons.mp hs).2⟩⟩ | trivial
  · rw [mx_s31]
    split
    · exact ⟨mx_ag_rf, fun v hv => hs v (List.mem_of_mem_take (List.mem_reverse.mp hv)), hl, fun v hv => hs v (List.mem_of_mem_drop hv)⟩
    · trivial
  · rw [mx_s32]
    unfold mx_z
    (repeat' split) <;> first | exact mx_ag_rf | trivial
  · rw [mx_s33]
    (repeat' split) <;> first | exact mx_ag_rf | trivial
  · rw [mx_s34]
    (repeat' split) <;> first | exact mx_ag_rf | trivial
  · rw [mx_s35]
    exact ⟨mx_ag_rf, hl, mx_gS_cons.mpr ⟨(fun z => absurd (show mx_oS < 55 from z) (by decide)), hs⟩⟩
  · rw [mx_s36]
    split
    · split
      · rename_i h1 h2
        have ho := mx_aT_lt (Nat.eq_of_beq_eq_true h2)
        have hg := (mx_gS_cons.mp (mx_gS_cons.mp (mx_gS_cons.mp hs).2).2).1 ho
        split
        · unfold mx_c
          split
          · trivial
          · exact ⟨mx_ag_cp hg, hl, (mx_gS_cons.mp (mx_gS_cons.mp (mx_gS_cons.mp (mx_gS_cons.mp (mx_gS_cons.mp hs).2).2).2).2).2⟩
        · trivial
      · trivial
    · trivial
  · rw [mx_s37]
    exact ⟨mx_ag_rf, hl, mx_gS_cons.mpr ⟨trivial, hs⟩⟩
  · rw [mx_s38]
    exact ⟨mx_ag_rf, hl, mx_gS_cons.mpr ⟨(fun z => absurd (show mx_oQ < 55 from z) (by decide)), hs⟩⟩
  · rw [mx_s39]
    split
    · split
      · split
        · exact ⟨mx_ag_rf, hl, mx_gS_cons.mpr ⟨fun z => absurd (show mx_oB < 55 from z) (by decide), (mx_gS_cons.mp hs).2⟩⟩
        · exact ⟨mx_ag_rf, hl, mx_gS_cons.mpr ⟨trivial, (mx_gS_cons.mp hs).2⟩⟩
      · trivial
    · trivial
  · rw [mx_s40]
    (repeat' split) <;> first | exact ⟨mx_ag_rf, hl, mx_gS_cons.mpr ⟨trivial, (mx_gS_cons.mp hs).2⟩⟩ | trivial
  · rw [mx_s41]
    unfold mx_g
    (repeat' split) <;> first | exact ⟨mx_ag_rf, hl, mx_gS_cons.mpr ⟨trivial, (mx_gS_cons.mp (mx_gS_cons.mp hs).2).2⟩⟩ | trivial
  · rw [mx_s42]
    split
    · exact ⟨mx_ag_rf, hl, (mx_gS_cons.mp hs).2⟩
    · trivial
  · rw [mx_s43]
    unfold mx_g
    (repeat' split) <;> first | exact ⟨mx_ag_rf, hl, mx_gS_cons.mpr ⟨trivial, (mx_gS_cons.mp (mx_gS_cons.mp hs).2).2⟩⟩ | trivial
  · rw [mx_s44]
    (repeat' split) <;> first | exact ⟨mx_ag_rf, hl, mx_gS_cons.mpr ⟨trivial, (mx_gS_cons.mp hs).2⟩⟩ | trivial
  · rw [mx_s45]
    split
    · exact ⟨mx_ag_rf, fun i v hi => hl i v (mx_lo_kp hi)⟩
    · trivial
  · rw [mx_s46]
    (repeat' split) <;> first | exact ⟨mx_ag_rf, hl, mx_gS_cons.mpr ⟨trivial, (mx_gS_cons.mp (mx_gS_cons.mp hs).2).2⟩⟩ | trivial
  · rw [mx_s47]
    (repeat' split) <;> first | exact ⟨mx_ag_rf, hl, mx_gS_cons.mpr ⟨trivial, (mx_gS_cons.mp hs).2⟩⟩ | trivial
  · trivial
theorem mx_runG {G : Nat → Prop} (hG : mx_cl1 G) {E : Nat → List mx_V → mx_S → Option mx_Rt} {P : List mx_Op} {K : Nat → mx_Loc → mx_S → Option mx_Rt} (hE : ∀ y as σ r, mx_gS G as → E y as σ = some r → mx_ag G σ r.2) (hK : ∀ h l σ r, mx_gL G l → K h l σ = some r → mx_ag G σ r.2) : ∀ n c l s σ r, mx_gL G l → mx_gS G s → mx_run E P K n c l s σ = some r → mx_ag G σ r.2 := by
  have tr : ∀ {σ τ ρ : mx_S}, mx_ag G σ τ → mx_ag G τ ρ → mx_ag G σ ρ := fun h1 h2 k o h => (h2 k o h).trans (h1 k o h)
  intro n
  induction n with
  | zero => intro c l s σ r _ _ h; cases c <;> cases h
  | succ n ih =>
    intro c l s σ r hl hs h
    cases c with
    | nil => cases h
    | cons i c =>
      rw [mx_run_s] at h
      have hx := mx_stepG hG i l s σ hl hs
      rw [mx_fac] at hx
      generalize mx_act i l s σ = q at h hx
      rcases q with _ | (⟨l', s', σ'⟩ | ⟨t, l', s', σ'⟩ | ⟨v, σ'⟩ | ⟨y, rk, as, l', s', σ'⟩ | ⟨h', l', σ'⟩)
      · cases h
      · exact tr hx.1 (ih _ _ _ _ _ hx.2.1 hx.2.2 h)
      · exact tr hx.1 (ih _ _ _ _ _ hx.2.1 hx.2.2 h)
      · cases h; exact hx
      · obtain ⟨h1, h2, h3, h4⟩ := hx
        refine tr (τ := σ') h1 ?_
        rcases rk with _ | _ | rk
        · obtain ⟨σ2, e, h⟩ := mx_bV_iff.mp h
          exact tr (hE _ _ _ _ h2 e) (ih _ _ _ _ _ h3 h4 h)
        · obtain ⟨x, σ2, e, h⟩ := mx_bI_iff.mp h
          exact tr (hE _ _ _ _ h2 e) (ih _ _ _ _ _ h3 ((mx_gS_cons (v := Sum.inl x)).mpr ⟨trivial, h4⟩) h)
        · obtain ⟨x, σ2, e, h⟩ := mx_bJ_iff.mp h
          exact tr (hE _ _ _ _ h2 e) (ih _ _ _ _ _ h3 ((mx_gS_cons (v := Sum.inr (Sum.inl x))).mpr ⟨trivial, h4⟩) h)
      · exact tr hx.1 (hK _ _ _ _ hx.2 h)
theorem mx_semG {G : Nat → Prop} (hG : mx_cl1 G) : ∀ y as σ r, mx_gS G as → mx_sem y as σ = some r → mx_ag G σ r.2 := by
  intro y
  induction y using Nat.strongRecOn with
  | _ y ih =>
    intro as σ r hs h
    rw [mx_sem_H] at h
    obtain ⟨n, h⟩ := (mx_LL_iff _ _ _ _ _ _).mp h
    have key : ∀ n h l σ r, mx_gL G l → mx_L (mx_E y) (mx_pr y) n h l σ = some r → mx_ag G σ r.2 := by
      intro n
      induction n with
      | zero => intro h l σ r _ q; cases q
      | succ n ihn =>
        intro h l σ r hl q
        refine mx_runG hG (fun y' as' σ' r' h1 h' => ?_) (fun h l σ r hl q => ihn h l σ r hl q) _ _ _ _ _ _ hl mx_gS_nil q
        unfold mx_E at h'
        split at h'
        · rename_i hy
          exact ih y' hy as' σ' r' h1 h'
        · cases h'
    exact key n 0 _ _ _ (fun i v hi => hs v (mx_ent_ok as _ i v hi)) h
def mx_GX (o : Nat) : Prop := o < 39
def mx_GM (o : Nat) : Prop := 39 ≤ o ∧ o < 55
theorem mx_fk_out {o j : Nat} (h : mx_nf o ≤ j) : mx_fk o j = 0 := mx_nth_ge _ _ h
theorem mx_pt_2 (k o j : Nat) : (mx_pt k o j).2 = (mx_nthP (mx_nthL mx_ptT o) j).2.2 := by
  rw [mx_pt_if]
  split <;> rfl
theorem mx_GX_cl : mx_cl1 mx_GX := by
  have t1 : ∀ o, o < 39 → ∀ j, j < mx_nf o → mx_fk o j = 2 ∨ mx_fk o j = 3 → (mx_nthP (mx_nthL mx_ptT o) j).2.2 < 39 := by decide +kernel
  refine ⟨fun o _ ho k j hf _ => ?_, fun o _ ho j ht _ => ?_⟩
  · rw [mx_pt_2]
    rcases Nat.lt_or_ge j (mx_nf o) with hj | hj
    · exact t1 o ho j hj hf
    · rw [mx_fk_out hj] at hf; omega
  · unfold mx_rA
    split
    · show 32 < 39; omega
    · show 0 < 39; omega
theorem mx_GM_cl : mx_cl1 mx_GM := by
  have t1 : ∀ o, o < 55 → 39 ≤ o → ∀ j, j < mx_nf o → mx_fk o j = 2 ∨ mx_fk o j = 3 → 39 ≤ (mx_nthP (mx_nthL mx_ptT o) j).2.2 := by decide +kernel
  have t2 : ∀ o, o < 55 → 39 ≤ o → mx_aT o < 4 := by decide +kernel
  refine ⟨fun o h5 ho k j hf hp => ?_, fun o h5 ho j ht _ => ?_⟩
  · refine ⟨?_, hp⟩
    rw [mx_pt_2]
    rcases Nat.lt_or_ge j (mx_nf o) with hj | hj
    · exact t1 o h5 ho.1 j hj hf
    · rw [mx_fk_out hj] at hf; omega
  · have := t2 o h5 ho.1; omega
/-- a method of the class leaves the reference's cells, and the other way round -/
theorem mx_frX {y : Nat} {as : List mx_V} {σ : mx_S} {r : mx_Rt} (h : mx_sem y as σ = some r) (hs : mx_gS mx_GX as) : ∀ k o, 39 ≤ o → r.2 k o = σ k o := fun k o ho => mx_semG mx_GX_cl y as σ r hs h k o (by show ¬ o < 39; omega)
theorem mx_frM {y : Nat} {as : List mx_V} {σ : mx_S} {r : mx_Rt} (h : mx_sem y as σ = some r) (hs : mx_gS mx_GM as) : ∀ k o, o < 39 → r.2 k o = σ k o := fun k o ho => mx_semG mx_GM_cl y as σ r hs h k o (by show ¬ (39 ≤ o ∧ o < 55); omega)
end
