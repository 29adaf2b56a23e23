section
-- ===== PART A: goes FIRST, ahead of the names: the tables' words, and 'selects' of the private methods out of them =====
/-- a private method of a class that the tables say can be made, by its rows of tables_1 -/
def lw_okq (q : MethodName × Nat) : Prop := (q.1.cls ≠ "java/lang/invoke/MethodHandle" ∧ q.1.cls ≠ "java/lang/invoke/VarHandle") ∧ Cond.instantiable q.1.cls q.2 ∈ tables_1 ∧ Cond.privateMethod q.1 ∈ tables_1 ∧ Cond.instanceMethod q.1 ∈ tables_1
theorem lw_p0 : lw_okq (⟨"SiteObjects", "changed", "(I)I"⟩, 7) := ⟨⟨by decide +kernel, by decide +kernel⟩, List.mem_of_getElem? (i := 13) (by decide +kernel), List.mem_of_getElem? (i := 338) (by decide +kernel), List.mem_of_getElem? (i := 339) (by decide +kernel)⟩
theorem lw_p1 : lw_okq (⟨"SiteObjects$Program", "setMeant", "(III)V"⟩, 17) := ⟨⟨by decide +kernel, by decide +kernel⟩, List.mem_of_getElem? (i := 21) (by decide +kernel), List.mem_of_getElem? (i := 355) (by decide +kernel), List.mem_of_getElem? (i := 356) (by decide +kernel)⟩
theorem lw_p2 : lw_okq (⟨"SiteObjects$Finding", "attempt", "(III)V"⟩, 13) := ⟨⟨by decide +kernel, by decide +kernel⟩, List.mem_of_getElem? (i := 106) (by decide +kernel), List.mem_of_getElem? (i := 404) (by decide +kernel), List.mem_of_getElem? (i := 405) (by decide +kernel)⟩
theorem lw_p3 : lw_okq (⟨"SiteObjects$Finding", "nodeFor", "(II)I"⟩, 13) := ⟨⟨by decide +kernel, by decide +kernel⟩, List.mem_of_getElem? (i := 106) (by decide +kernel), List.mem_of_getElem? (i := 415) (by decide +kernel), List.mem_of_getElem? (i := 416) (by decide +kernel)⟩
theorem lw_p4 : lw_okq (⟨"SiteObjects$Finding", "doStep", "(II)V"⟩, 13) := ⟨⟨by decide +kernel, by decide +kernel⟩, List.mem_of_getElem? (i := 106) (by decide +kernel), List.mem_of_getElem? (i := 432) (by decide +kernel), List.mem_of_getElem? (i := 433) (by decide +kernel)⟩
theorem lw_p5 : lw_okq (⟨"SiteObjects$Finding", "nameFor", "(II)J"⟩, 13) := ⟨⟨by decide +kernel, by decide +kernel⟩, List.mem_of_getElem? (i := 106) (by decide +kernel), List.mem_of_getElem? (i := 436) (by decide +kernel), List.mem_of_getElem? (i := 437) (by decide +kernel)⟩
theorem lw_p6 : lw_okq (⟨"SiteObjects$Finding", "addToVar", "(IIJ)V"⟩, 13) := ⟨⟨by decide +kernel, by decide +kernel⟩, List.mem_of_getElem? (i := 106) (by decide +kernel), List.mem_of_getElem? (i := 453) (by decide +kernel), List.mem_of_getElem? (i := 454) (by decide +kernel)⟩
theorem lw_p7 : lw_okq (⟨"SiteObjects$Finding", "insideAny", "(JI)J"⟩, 13) := ⟨⟨by decide +kernel, by decide +kernel⟩, List.mem_of_getElem? (i := 106) (by decide +kernel), List.mem_of_getElem? (i := 462) (by decide +kernel), List.mem_of_getElem? (i := 463) (by decide +kernel)⟩
theorem lw_p8 : lw_okq (⟨"SiteObjects$Finding", "storeInAll", "(JIJ)V"⟩, 13) := ⟨⟨by decide +kernel, by decide +kernel⟩, List.mem_of_getElem? (i := 106) (by decide +kernel), List.mem_of_getElem? (i := 470) (by decide +kernel), List.mem_of_getElem? (i := 471) (by decide +kernel)⟩
theorem lw_p9 : lw_okq (⟨"SiteObjects$Finding", "addInside", "(IIJ)V"⟩, 13) := ⟨⟨by decide +kernel, by decide +kernel⟩, List.mem_of_getElem? (i := 106) (by decide +kernel), List.mem_of_getElem? (i := 474) (by decide +kernel), List.mem_of_getElem? (i := 475) (by decide +kernel)⟩
theorem lw_p10 : lw_okq (⟨"SiteObjects$Finding", "layInAll", "(JJ)V"⟩, 13) := ⟨⟨by decide +kernel, by decide +kernel⟩, List.mem_of_getElem? (i := 106) (by decide +kernel), List.mem_of_getElem? (i := 478) (by decide +kernel), List.mem_of_getElem? (i := 479) (by decide +kernel)⟩
theorem lw_p11 : lw_okq (⟨"SiteObjects$Finding", "doAsk", "(II)V"⟩, 13) := ⟨⟨by decide +kernel, by decide +kernel⟩, List.mem_of_getElem? (i := 106) (by decide +kernel), List.mem_of_getElem? (i := 482) (by decide +kernel), List.mem_of_getElem? (i := 483) (by decide +kernel)⟩
theorem lw_p12 : lw_okq (⟨"SiteObjects$Finding", "methodAskedOf", "(II)I"⟩, 13) := ⟨⟨by decide +kernel, by decide +kernel⟩, List.mem_of_getElem? (i := 106) (by decide +kernel), List.mem_of_getElem? (i := 486) (by decide +kernel), List.mem_of_getElem? (i := 487) (by decide +kernel)⟩
theorem lw_p13 : lw_okq (⟨"SiteObjects$Sites", "ahead", "(II)I"⟩, 9) := ⟨⟨by decide +kernel, by decide +kernel⟩, List.mem_of_getElem? (i := 112) (by decide +kernel), List.mem_of_getElem? (i := 498) (by decide +kernel), List.mem_of_getElem? (i := 499) (by decide +kernel)⟩
theorem lw_p14 : lw_okq (⟨"SiteObjects$Finding", "link", "(IIIJ)V"⟩, 13) := ⟨⟨by decide +kernel, by decide +kernel⟩, List.mem_of_getElem? (i := 106) (by decide +kernel), List.mem_of_getElem? (i := 502) (by decide +kernel), List.mem_of_getElem? (i := 503) (by decide +kernel)⟩
theorem lw_p15 : lw_okq (⟨"SiteObjects$Finding", "raiseAt", "(IIJ)V"⟩, 13) := ⟨⟨by decide +kernel, by decide +kernel⟩, List.mem_of_getElem? (i := 106) (by decide +kernel), List.mem_of_getElem? (i := 506) (by decide +kernel), List.mem_of_getElem? (i := 507) (by decide +kernel)⟩
def lw_privs_1 : List (MethodName × Nat) := [(⟨"SiteObjects", "changed", "(I)I"⟩, 7), (⟨"SiteObjects$Program", "setMeant", "(III)V"⟩, 17), (⟨"SiteObjects$Finding", "attempt", "(III)V"⟩, 13), (⟨"SiteObjects$Finding", "nodeFor", "(II)I"⟩, 13), (⟨"SiteObjects$Finding", "doStep", "(II)V"⟩, 13), (⟨"SiteObjects$Finding", "nameFor", "(II)J"⟩, 13), (⟨"SiteObjects$Finding", "addToVar", "(IIJ)V"⟩, 13), (⟨"SiteObjects$Finding", "insideAny", "(JI)J"⟩, 13), (⟨"SiteObjects$Finding", "storeInAll", "(JIJ)V"⟩, 13), (⟨"SiteObjects$Finding", "addInside", "(IIJ)V"⟩, 13), (⟨"SiteObjects$Finding", "layInAll", "(JJ)V"⟩, 13), (⟨"SiteObjects$Finding", "doAsk", "(II)V"⟩, 13), (⟨"SiteObjects$Finding", "methodAskedOf", "(II)I"⟩, 13), (⟨"SiteObjects$Sites", "ahead", "(II)I"⟩, 9), (⟨"SiteObjects$Finding", "link", "(IIIJ)V"⟩, 13), (⟨"SiteObjects$Finding", "raiseAt", "(IIJ)V"⟩, 13)]
theorem lw_r1 : ∀ q ∈ lw_privs_1, lw_okq q := List.forall_mem_cons.mpr ⟨lw_p0, List.forall_mem_cons.mpr ⟨lw_p1, List.forall_mem_cons.mpr ⟨lw_p2, List.forall_mem_cons.mpr ⟨lw_p3, List.forall_mem_cons.mpr ⟨lw_p4, List.forall_mem_cons.mpr ⟨lw_p5, List.forall_mem_cons.mpr ⟨lw_p6, List.forall_mem_cons.mpr ⟨lw_p7, List.forall_mem_cons.mpr ⟨lw_p8, List.forall_mem_cons.mpr ⟨lw_p9, List.forall_mem_cons.mpr ⟨lw_p10, List.forall_mem_cons.mpr ⟨lw_p11, List.forall_mem_cons.mpr ⟨lw_p12, List.forall_mem_cons.mpr ⟨lw_p13, List.forall_mem_cons.mpr ⟨lw_p14, List.forall_mem_cons.mpr ⟨lw_p15, fun _ h => absurd h List.not_mem_nil⟩⟩⟩⟩⟩⟩⟩⟩⟩⟩⟩⟩⟩⟩⟩⟩
theorem lw_p16 : lw_okq (⟨"SiteObjects$Finding", "doCall", "(II)V"⟩, 13) := ⟨⟨by decide +kernel, by decide +kernel⟩, List.mem_of_getElem? (i := 106) (by decide +kernel), List.mem_of_getElem? (i := 514) (by decide +kernel), List.mem_of_getElem? (i := 515) (by decide +kernel)⟩
theorem lw_p17 : lw_okq (⟨"SiteObjects$Finding", "addToGlobal", "(IJ)V"⟩, 13) := ⟨⟨by decide +kernel, by decide +kernel⟩, List.mem_of_getElem? (i := 106) (by decide +kernel), List.mem_of_getElem? (i := 522) (by decide +kernel), List.mem_of_getElem? (i := 523) (by decide +kernel)⟩
theorem lw_p18 : lw_okq (⟨"SiteObjects$Finding", "countLeaders", "()V"⟩, 13) := ⟨⟨by decide +kernel, by decide +kernel⟩, List.mem_of_getElem? (i := 106) (by decide +kernel), List.mem_of_getElem? (i := 526) (by decide +kernel), List.mem_of_getElem? (i := 527) (by decide +kernel)⟩
theorem lw_p19 : lw_okq (⟨"SiteObjects$Finding", "reach", "(II)V"⟩, 13) := ⟨⟨by decide +kernel, by decide +kernel⟩, List.mem_of_getElem? (i := 106) (by decide +kernel), List.mem_of_getElem? (i := 535) (by decide +kernel), List.mem_of_getElem? (i := 536) (by decide +kernel)⟩
theorem lw_p20 : lw_okq (⟨"SiteObjects$Finding", "noteReached", "(I)V"⟩, 13) := ⟨⟨by decide +kernel, by decide +kernel⟩, List.mem_of_getElem? (i := 106) (by decide +kernel), List.mem_of_getElem? (i := 539) (by decide +kernel), List.mem_of_getElem? (i := 540) (by decide +kernel)⟩
theorem lw_p21 : lw_okq (⟨"SiteObjects$Finding", "countReached", "(I)V"⟩, 13) := ⟨⟨by decide +kernel, by decide +kernel⟩, List.mem_of_getElem? (i := 106) (by decide +kernel), List.mem_of_getElem? (i := 543) (by decide +kernel), List.mem_of_getElem? (i := 544) (by decide +kernel)⟩
theorem lw_p22 : lw_okq (⟨"SiteObjects$Finding", "isReached", "(I)Z"⟩, 13) := ⟨⟨by decide +kernel, by decide +kernel⟩, List.mem_of_getElem? (i := 106) (by decide +kernel), List.mem_of_getElem? (i := 547) (by decide +kernel), List.mem_of_getElem? (i := 548) (by decide +kernel)⟩
theorem lw_p23 : lw_okq (⟨"SiteObjects$Finding", "settleOnce", "()V"⟩, 13) := ⟨⟨by decide +kernel, by decide +kernel⟩, List.mem_of_getElem? (i := 106) (by decide +kernel), List.mem_of_getElem? (i := 551) (by decide +kernel), List.mem_of_getElem? (i := 552) (by decide +kernel)⟩
theorem lw_p24 : lw_okq (⟨"SiteObjects$Runner", "enter", "(IIII)V"⟩, 8) := ⟨⟨by decide +kernel, by decide +kernel⟩, List.mem_of_getElem? (i := 206) (by decide +kernel), List.mem_of_getElem? (i := 610) (by decide +kernel), List.mem_of_getElem? (i := 611) (by decide +kernel)⟩
theorem lw_p25 : lw_okq (⟨"SiteObjects$Runner", "setVar", "(II)V"⟩, 8) := ⟨⟨by decide +kernel, by decide +kernel⟩, List.mem_of_getElem? (i := 206) (by decide +kernel), List.mem_of_getElem? (i := 621) (by decide +kernel), List.mem_of_getElem? (i := 622) (by decide +kernel)⟩
theorem lw_p26 : lw_okq (⟨"SiteObjects$Runner", "tallyHold", "(IJ)V"⟩, 8) := ⟨⟨by decide +kernel, by decide +kernel⟩, List.mem_of_getElem? (i := 206) (by decide +kernel), List.mem_of_getElem? (i := 634) (by decide +kernel), List.mem_of_getElem? (i := 635) (by decide +kernel)⟩
theorem lw_p27 : lw_okq (⟨"SiteObjects$Runner", "takeTurn", "()V"⟩, 8) := ⟨⟨by decide +kernel, by decide +kernel⟩, List.mem_of_getElem? (i := 206) (by decide +kernel), List.mem_of_getElem? (i := 638) (by decide +kernel), List.mem_of_getElem? (i := 639) (by decide +kernel)⟩
theorem lw_p28 : lw_okq (⟨"SiteObjects$Runner", "leave", "(I)V"⟩, 8) := ⟨⟨by decide +kernel, by decide +kernel⟩, List.mem_of_getElem? (i := 206) (by decide +kernel), List.mem_of_getElem? (i := 651) (by decide +kernel), List.mem_of_getElem? (i := 652) (by decide +kernel)⟩
theorem lw_p29 : lw_okq (⟨"SiteObjects$Runner", "fail", "(II)V"⟩, 8) := ⟨⟨by decide +kernel, by decide +kernel⟩, List.mem_of_getElem? (i := 206) (by decide +kernel), List.mem_of_getElem? (i := 655) (by decide +kernel), List.mem_of_getElem? (i := 656) (by decide +kernel)⟩
theorem lw_p30 : lw_okq (⟨"SiteObjects$Runner", "doStep", "(I)V"⟩, 8) := ⟨⟨by decide +kernel, by decide +kernel⟩, List.mem_of_getElem? (i := 206) (by decide +kernel), List.mem_of_getElem? (i := 663) (by decide +kernel), List.mem_of_getElem? (i := 664) (by decide +kernel)⟩
theorem lw_p31 : lw_okq (⟨"SiteObjects$Runner", "make", "(I)V"⟩, 8) := ⟨⟨by decide +kernel, by decide +kernel⟩, List.mem_of_getElem? (i := 206) (by decide +kernel), List.mem_of_getElem? (i := 667) (by decide +kernel), List.mem_of_getElem? (i := 668) (by decide +kernel)⟩
def lw_privs_2 : List (MethodName × Nat) := [(⟨"SiteObjects$Finding", "doCall", "(II)V"⟩, 13), (⟨"SiteObjects$Finding", "addToGlobal", "(IJ)V"⟩, 13), (⟨"SiteObjects$Finding", "countLeaders", "()V"⟩, 13), (⟨"SiteObjects$Finding", "reach", "(II)V"⟩, 13), (⟨"SiteObjects$Finding", "noteReached", "(I)V"⟩, 13), (⟨"SiteObjects$Finding", "countReached", "(I)V"⟩, 13), (⟨"SiteObjects$Finding", "isReached", "(I)Z"⟩, 13), (⟨"SiteObjects$Finding", "settleOnce", "()V"⟩, 13), (⟨"SiteObjects$Runner", "enter", "(IIII)V"⟩, 8), (⟨"SiteObjects$Runner", "setVar", "(II)V"⟩, 8), (⟨"SiteObjects$Runner", "tallyHold", "(IJ)V"⟩, 8), (⟨"SiteObjects$Runner", "takeTurn", "()V"⟩, 8), (⟨"SiteObjects$Runner", "leave", "(I)V"⟩, 8), (⟨"SiteObjects$Runner", "fail", "(II)V"⟩, 8), (⟨"SiteObjects$Runner", "doStep", "(I)V"⟩, 8), (⟨"SiteObjects$Runner", "make", "(I)V"⟩, 8)]
theorem lw_r2 : ∀ q ∈ lw_privs_2, lw_okq q := List.forall_mem_cons.mpr ⟨lw_p16, List.forall_mem_cons.mpr ⟨lw_p17, List.forall_mem_cons.mpr ⟨lw_p18, List.forall_mem_cons.mpr ⟨lw_p19, List.forall_mem_cons.mpr ⟨lw_p20, List.forall_mem_cons.mpr ⟨lw_p21, List.forall_mem_cons.mpr ⟨lw_p22, List.forall_mem_cons.mpr ⟨lw_p23, List.forall_mem_cons.mpr ⟨lw_p24, List.forall_mem_cons.mpr ⟨lw_p25, List.forall_mem_cons.mpr ⟨lw_p26, List.forall_mem_cons.mpr ⟨lw_p27, List.forall_mem_cons.mpr ⟨lw_p28, List.forall_mem_cons.mpr ⟨lw_p29, List.forall_mem_cons.mpr ⟨lw_p30, List.forall_mem_cons.mpr ⟨lw_p31, fun _ h => absurd h List.not_mem_nil⟩⟩⟩⟩⟩⟩⟩⟩⟩⟩⟩⟩⟩⟩⟩⟩
theorem lw_p32 : lw_okq (⟨"SiteObjects$Runner", "load", "(II)V"⟩, 8) := ⟨⟨by decide +kernel, by decide +kernel⟩, List.mem_of_getElem? (i := 206) (by decide +kernel), List.mem_of_getElem? (i := 680) (by decide +kernel), List.mem_of_getElem? (i := 681) (by decide +kernel)⟩
theorem lw_p33 : lw_okq (⟨"SiteObjects$Runner", "store", "(II)V"⟩, 8) := ⟨⟨by decide +kernel, by decide +kernel⟩, List.mem_of_getElem? (i := 206) (by decide +kernel), List.mem_of_getElem? (i := 693) (by decide +kernel), List.mem_of_getElem? (i := 694) (by decide +kernel)⟩
theorem lw_p34 : lw_okq (⟨"SiteObjects$Runner", "setInside", "(IIII)V"⟩, 8) := ⟨⟨by decide +kernel, by decide +kernel⟩, List.mem_of_getElem? (i := 206) (by decide +kernel), List.mem_of_getElem? (i := 697) (by decide +kernel), List.mem_of_getElem? (i := 698) (by decide +kernel)⟩
theorem lw_p35 : lw_okq (⟨"SiteObjects$Runner", "take", "(II)V"⟩, 8) := ⟨⟨by decide +kernel, by decide +kernel⟩, List.mem_of_getElem? (i := 206) (by decide +kernel), List.mem_of_getElem? (i := 702) (by decide +kernel), List.mem_of_getElem? (i := 703) (by decide +kernel)⟩
theorem lw_p36 : lw_okq (⟨"SiteObjects$Runner", "failureOfPlace", "(II)I"⟩, 8) := ⟨⟨by decide +kernel, by decide +kernel⟩, List.mem_of_getElem? (i := 206) (by decide +kernel), List.mem_of_getElem? (i := 706) (by decide +kernel), List.mem_of_getElem? (i := 707) (by decide +kernel)⟩
theorem lw_p37 : lw_okq (⟨"SiteObjects$Runner", "lay", "(III)V"⟩, 8) := ⟨⟨by decide +kernel, by decide +kernel⟩, List.mem_of_getElem? (i := 206) (by decide +kernel), List.mem_of_getElem? (i := 719) (by decide +kernel), List.mem_of_getElem? (i := 720) (by decide +kernel)⟩
theorem lw_p38 : lw_okq (⟨"SiteObjects$Runner", "cast", "(II)V"⟩, 8) := ⟨⟨by decide +kernel, by decide +kernel⟩, List.mem_of_getElem? (i := 206) (by decide +kernel), List.mem_of_getElem? (i := 733) (by decide +kernel), List.mem_of_getElem? (i := 734) (by decide +kernel)⟩
theorem lw_p39 : lw_okq (⟨"SiteObjects$Runner", "ask", "(II)V"⟩, 8) := ⟨⟨by decide +kernel, by decide +kernel⟩, List.mem_of_getElem? (i := 206) (by decide +kernel), List.mem_of_getElem? (i := 737) (by decide +kernel), List.mem_of_getElem? (i := 738) (by decide +kernel)⟩
theorem lw_p40 : lw_okq (⟨"SiteObjects$Runner", "nodeAsked", "(III)I"⟩, 8) := ⟨⟨by decide +kernel, by decide +kernel⟩, List.mem_of_getElem? (i := 206) (by decide +kernel), List.mem_of_getElem? (i := 746) (by decide +kernel), List.mem_of_getElem? (i := 747) (by decide +kernel)⟩
theorem lw_p41 : lw_okq (⟨"SiteObjects$Runner", "call", "(I)V"⟩, 8) := ⟨⟨by decide +kernel, by decide +kernel⟩, List.mem_of_getElem? (i := 206) (by decide +kernel), List.mem_of_getElem? (i := 752) (by decide +kernel), List.mem_of_getElem? (i := 753) (by decide +kernel)⟩
theorem lw_p42 : lw_okq (⟨"SiteObjects$Runner", "nodeCalled", "(II)I"⟩, 8) := ⟨⟨by decide +kernel, by decide +kernel⟩, List.mem_of_getElem? (i := 206) (by decide +kernel), List.mem_of_getElem? (i := 756) (by decide +kernel), List.mem_of_getElem? (i := 757) (by decide +kernel)⟩
theorem lw_p43 : lw_okq (⟨"SiteObjects$Runner", "maybe", "(I)V"⟩, 8) := ⟨⟨by decide +kernel, by decide +kernel⟩, List.mem_of_getElem? (i := 206) (by decide +kernel), List.mem_of_getElem? (i := 761) (by decide +kernel), List.mem_of_getElem? (i := 762) (by decide +kernel)⟩
theorem lw_p44 : lw_okq (⟨"SiteObjects$Runner", "setGlobal", "(II)V"⟩, 8) := ⟨⟨by decide +kernel, by decide +kernel⟩, List.mem_of_getElem? (i := 206) (by decide +kernel), List.mem_of_getElem? (i := 765) (by decide +kernel), List.mem_of_getElem? (i := 766) (by decide +kernel)⟩
theorem lw_p45 : lw_okq (⟨"SiteObjects$Runner", "raise", "(II)V"⟩, 8) := ⟨⟨by decide +kernel, by decide +kernel⟩, List.mem_of_getElem? (i := 206) (by decide +kernel), List.mem_of_getElem? (i := 769) (by decide +kernel), List.mem_of_getElem? (i := 770) (by decide +kernel)⟩
theorem lw_p46 : lw_okq (⟨"SiteObjects$Runner", "guardFor", "(I)I"⟩, 8) := ⟨⟨by decide +kernel, by decide +kernel⟩, List.mem_of_getElem? (i := 206) (by decide +kernel), List.mem_of_getElem? (i := 773) (by decide +kernel), List.mem_of_getElem? (i := 774) (by decide +kernel)⟩
theorem lw_p47 : lw_okq (⟨"SiteObjects$Finding", "namesIn", "(II)J"⟩, 13) := ⟨⟨by decide +kernel, by decide +kernel⟩, List.mem_of_getElem? (i := 106) (by decide +kernel), List.mem_of_getElem? (i := 809) (by decide +kernel), List.mem_of_getElem? (i := 810) (by decide +kernel)⟩
def lw_privs_3 : List (MethodName × Nat) := [(⟨"SiteObjects$Runner", "load", "(II)V"⟩, 8), (⟨"SiteObjects$Runner", "store", "(II)V"⟩, 8), (⟨"SiteObjects$Runner", "setInside", "(IIII)V"⟩, 8), (⟨"SiteObjects$Runner", "take", "(II)V"⟩, 8), (⟨"SiteObjects$Runner", "failureOfPlace", "(II)I"⟩, 8), (⟨"SiteObjects$Runner", "lay", "(III)V"⟩, 8), (⟨"SiteObjects$Runner", "cast", "(II)V"⟩, 8), (⟨"SiteObjects$Runner", "ask", "(II)V"⟩, 8), (⟨"SiteObjects$Runner", "nodeAsked", "(III)I"⟩, 8), (⟨"SiteObjects$Runner", "call", "(I)V"⟩, 8), (⟨"SiteObjects$Runner", "nodeCalled", "(II)I"⟩, 8), (⟨"SiteObjects$Runner", "maybe", "(I)V"⟩, 8), (⟨"SiteObjects$Runner", "setGlobal", "(II)V"⟩, 8), (⟨"SiteObjects$Runner", "raise", "(II)V"⟩, 8), (⟨"SiteObjects$Runner", "guardFor", "(I)I"⟩, 8), (⟨"SiteObjects$Finding", "namesIn", "(II)J"⟩, 13)]
theorem lw_r3 : ∀ q ∈ lw_privs_3, lw_okq q := List.forall_mem_cons.mpr ⟨lw_p32, List.forall_mem_cons.mpr ⟨lw_p33, List.forall_mem_cons.mpr ⟨lw_p34, List.forall_mem_cons.mpr ⟨lw_p35, List.forall_mem_cons.mpr ⟨lw_p36, List.forall_mem_cons.mpr ⟨lw_p37, List.forall_mem_cons.mpr ⟨lw_p38, List.forall_mem_cons.mpr ⟨lw_p39, List.forall_mem_cons.mpr ⟨lw_p40, List.forall_mem_cons.mpr ⟨lw_p41, List.forall_mem_cons.mpr ⟨lw_p42, List.forall_mem_cons.mpr ⟨lw_p43, List.forall_mem_cons.mpr ⟨lw_p44, List.forall_mem_cons.mpr ⟨lw_p45, List.forall_mem_cons.mpr ⟨lw_p46, List.forall_mem_cons.mpr ⟨lw_p47, fun _ h => absurd h List.not_mem_nil⟩⟩⟩⟩⟩⟩⟩⟩⟩⟩⟩⟩⟩⟩⟩⟩
theorem lw_p48 : lw_okq (⟨"SiteObjects$Finding", "hasStep", "(JI)Z"⟩, 13) := ⟨⟨by decide +kernel, by decide +kernel⟩, List.mem_of_getElem? (i := 106) (by decide +kernel), List.mem_of_getElem? (i := 813) (by decide +kernel), List.mem_of_getElem? (i := 814) (by decide +kernel)⟩
theorem lw_p49 : lw_okq (⟨"SiteObjectsModel", "isClass", "(I)Z"⟩, 59) := ⟨⟨by decide +kernel, by decide +kernel⟩, List.mem_of_getElem? (i := 817) (by decide +kernel), List.mem_of_getElem? (i := 1005) (by decide +kernel), List.mem_of_getElem? (i := 1006) (by decide +kernel)⟩
theorem lw_p50 : lw_okq (⟨"SiteObjectsModel", "areRight", "(IIIII)Z"⟩, 59) := ⟨⟨by decide +kernel, by decide +kernel⟩, List.mem_of_getElem? (i := 817) (by decide +kernel), List.mem_of_getElem? (i := 1020) (by decide +kernel), List.mem_of_getElem? (i := 1021) (by decide +kernel)⟩
theorem lw_p51 : lw_okq (⟨"SiteObjectsModel", "isStatic", "(I)Z"⟩, 59) := ⟨⟨by decide +kernel, by decide +kernel⟩, List.mem_of_getElem? (i := 817) (by decide +kernel), List.mem_of_getElem? (i := 1027) (by decide +kernel), List.mem_of_getElem? (i := 1028) (by decide +kernel)⟩
theorem lw_p52 : lw_okq (⟨"SiteObjectsModel", "findsAll", "(II)V"⟩, 59) := ⟨⟨by decide +kernel, by decide +kernel⟩, List.mem_of_getElem? (i := 817) (by decide +kernel), List.mem_of_getElem? (i := 1035) (by decide +kernel), List.mem_of_getElem? (i := 1036) (by decide +kernel)⟩
theorem lw_p53 : lw_okq (⟨"SiteObjectsModel", "finds", "()V"⟩, 59) := ⟨⟨by decide +kernel, by decide +kernel⟩, List.mem_of_getElem? (i := 817) (by decide +kernel), List.mem_of_getElem? (i := 1039) (by decide +kernel), List.mem_of_getElem? (i := 1040) (by decide +kernel)⟩
theorem lw_p54 : lw_okq (⟨"SiteObjectsModel", "newNode", "(I)I"⟩, 59) := ⟨⟨by decide +kernel, by decide +kernel⟩, List.mem_of_getElem? (i := 817) (by decide +kernel), List.mem_of_getElem? (i := 1043) (by decide +kernel), List.mem_of_getElem? (i := 1044) (by decide +kernel)⟩
theorem lw_p55 : lw_okq (⟨"SiteObjectsModel", "nodeOf", "(I)I"⟩, 59) := ⟨⟨by decide +kernel, by decide +kernel⟩, List.mem_of_getElem? (i := 817) (by decide +kernel), List.mem_of_getElem? (i := 1047) (by decide +kernel), List.mem_of_getElem? (i := 1048) (by decide +kernel)⟩
theorem lw_p56 : lw_okq (⟨"SiteObjectsModel", "goes", "(II)V"⟩, 59) := ⟨⟨by decide +kernel, by decide +kernel⟩, List.mem_of_getElem? (i := 817) (by decide +kernel), List.mem_of_getElem? (i := 1051) (by decide +kernel), List.mem_of_getElem? (i := 1052) (by decide +kernel)⟩
theorem lw_p57 : lw_okq (⟨"SiteObjectsModel", "newName", "(II)I"⟩, 59) := ⟨⟨by decide +kernel, by decide +kernel⟩, List.mem_of_getElem? (i := 817) (by decide +kernel), List.mem_of_getElem? (i := 1055) (by decide +kernel), List.mem_of_getElem? (i := 1056) (by decide +kernel)⟩
theorem lw_p58 : lw_okq (⟨"SiteObjectsModel", "nameOf", "(II)I"⟩, 59) := ⟨⟨by decide +kernel, by decide +kernel⟩, List.mem_of_getElem? (i := 817) (by decide +kernel), List.mem_of_getElem? (i := 1059) (by decide +kernel), List.mem_of_getElem? (i := 1060) (by decide +kernel)⟩
theorem lw_p59 : lw_okq (⟨"SiteObjectsModel", "holds", "(IIJ)V"⟩, 59) := ⟨⟨by decide +kernel, by decide +kernel⟩, List.mem_of_getElem? (i := 817) (by decide +kernel), List.mem_of_getElem? (i := 1063) (by decide +kernel), List.mem_of_getElem? (i := 1064) (by decide +kernel)⟩
theorem lw_p60 : lw_okq (⟨"SiteObjectsModel", "isRow", "(I)Z"⟩, 59) := ⟨⟨by decide +kernel, by decide +kernel⟩, List.mem_of_getElem? (i := 817) (by decide +kernel), List.mem_of_getElem? (i := 1067) (by decide +kernel), List.mem_of_getElem? (i := 1068) (by decide +kernel)⟩
theorem lw_p61 : lw_okq (⟨"SiteObjectsModel", "lies", "(IIJ)V"⟩, 59) := ⟨⟨by decide +kernel, by decide +kernel⟩, List.mem_of_getElem? (i := 817) (by decide +kernel), List.mem_of_getElem? (i := 1071) (by decide +kernel), List.mem_of_getElem? (i := 1072) (by decide +kernel)⟩
theorem lw_p62 : lw_okq (⟨"SiteObjectsModel", "below", "(JI)J"⟩, 59) := ⟨⟨by decide +kernel, by decide +kernel⟩, List.mem_of_getElem? (i := 817) (by decide +kernel), List.mem_of_getElem? (i := 1075) (by decide +kernel), List.mem_of_getElem? (i := 1076) (by decide +kernel)⟩
theorem lw_p63 : lw_okq (⟨"SiteObjectsModel", "classOf", "(I)I"⟩, 59) := ⟨⟨by decide +kernel, by decide +kernel⟩, List.mem_of_getElem? (i := 817) (by decide +kernel), List.mem_of_getElem? (i := 1079) (by decide +kernel), List.mem_of_getElem? (i := 1080) (by decide +kernel)⟩
def lw_privs_4 : List (MethodName × Nat) := [(⟨"SiteObjects$Finding", "hasStep", "(JI)Z"⟩, 13), (⟨"SiteObjectsModel", "isClass", "(I)Z"⟩, 59), (⟨"SiteObjectsModel", "areRight", "(IIIII)Z"⟩, 59), (⟨"SiteObjectsModel", "isStatic", "(I)Z"⟩, 59), (⟨"SiteObjectsModel", "findsAll", "(II)V"⟩, 59), (⟨"SiteObjectsModel", "finds", "()V"⟩, 59), (⟨"SiteObjectsModel", "newNode", "(I)I"⟩, 59), (⟨"SiteObjectsModel", "nodeOf", "(I)I"⟩, 59), (⟨"SiteObjectsModel", "goes", "(II)V"⟩, 59), (⟨"SiteObjectsModel", "newName", "(II)I"⟩, 59), (⟨"SiteObjectsModel", "nameOf", "(II)I"⟩, 59), (⟨"SiteObjectsModel", "holds", "(IIJ)V"⟩, 59), (⟨"SiteObjectsModel", "isRow", "(I)Z"⟩, 59), (⟨"SiteObjectsModel", "lies", "(IIJ)V"⟩, 59), (⟨"SiteObjectsModel", "below", "(JI)J"⟩, 59), (⟨"SiteObjectsModel", "classOf", "(I)I"⟩, 59)]
theorem lw_r4 : ∀ q ∈ lw_privs_4, lw_okq q := List.forall_mem_cons.mpr ⟨lw_p48, List.forall_mem_cons.mpr ⟨lw_p49, List.forall_mem_cons.mpr ⟨lw_p50, List.forall_mem_cons.mpr ⟨lw_p51, List.forall_mem_cons.mpr ⟨lw_p52, List.forall_mem_cons.mpr ⟨lw_p53, List.forall_mem_cons.mpr ⟨lw_p54, List.forall_mem_cons.mpr ⟨lw_p55, List.forall_mem_cons.mpr ⟨lw_p56, List.forall_mem_cons.mpr ⟨lw_p57, List.forall_mem_cons.mpr ⟨lw_p58, List.forall_mem_cons.mpr ⟨lw_p59, List.forall_mem_cons.mpr ⟨lw_p60, List.forall_mem_cons.mpr ⟨lw_p61, List.forall_mem_cons.mpr ⟨lw_p62, List.forall_mem_cons.mpr ⟨lw_p63, fun _ h => absurd h List.not_mem_nil⟩⟩⟩⟩⟩⟩⟩⟩⟩⟩⟩⟩⟩⟩⟩⟩
theorem lw_p64 : lw_okq (⟨"SiteObjectsModel", "isBelow", "(II)Z"⟩, 59) := ⟨⟨by decide +kernel, by decide +kernel⟩, List.mem_of_getElem? (i := 817) (by decide +kernel), List.mem_of_getElem? (i := 1083) (by decide +kernel), List.mem_of_getElem? (i := 1084) (by decide +kernel)⟩
theorem lw_p65 : lw_okq (⟨"SiteObjectsModel", "methodFor", "(II)I"⟩, 59) := ⟨⟨by decide +kernel, by decide +kernel⟩, List.mem_of_getElem? (i := 817) (by decide +kernel), List.mem_of_getElem? (i := 1087) (by decide +kernel), List.mem_of_getElem? (i := 1088) (by decide +kernel)⟩
theorem lw_p66 : lw_okq (⟨"SiteObjectsModel", "context", "(III)V"⟩, 59) := ⟨⟨by decide +kernel, by decide +kernel⟩, List.mem_of_getElem? (i := 817) (by decide +kernel), List.mem_of_getElem? (i := 1091) (by decide +kernel), List.mem_of_getElem? (i := 1092) (by decide +kernel)⟩
theorem lw_p67 : lw_okq (⟨"SiteObjectsModel", "joins", "(III)V"⟩, 59) := ⟨⟨by decide +kernel, by decide +kernel⟩, List.mem_of_getElem? (i := 817) (by decide +kernel), List.mem_of_getElem? (i := 1095) (by decide +kernel), List.mem_of_getElem? (i := 1096) (by decide +kernel)⟩
theorem lw_p68 : lw_okq (⟨"SiteObjectsModel", "raised", "(IIJ)V"⟩, 59) := ⟨⟨by decide +kernel, by decide +kernel⟩, List.mem_of_getElem? (i := 817) (by decide +kernel), List.mem_of_getElem? (i := 1099) (by decide +kernel), List.mem_of_getElem? (i := 1100) (by decide +kernel)⟩
theorem lw_p69 : lw_okq (⟨"SiteObjectsModel", "covers", "(II)Z"⟩, 59) := ⟨⟨by decide +kernel, by decide +kernel⟩, List.mem_of_getElem? (i := 817) (by decide +kernel), List.mem_of_getElem? (i := 1103) (by decide +kernel), List.mem_of_getElem? (i := 1104) (by decide +kernel)⟩
theorem lw_p70 : lw_okq (⟨"SiteObjectsModel", "isOnce", "(I)Z"⟩, 59) := ⟨⟨by decide +kernel, by decide +kernel⟩, List.mem_of_getElem? (i := 817) (by decide +kernel), List.mem_of_getElem? (i := 1112) (by decide +kernel), List.mem_of_getElem? (i := 1113) (by decide +kernel)⟩
theorem lw_p71 : lw_okq (⟨"SiteObjectsModel", "ledBy", "(I)I"⟩, 59) := ⟨⟨by decide +kernel, by decide +kernel⟩, List.mem_of_getElem? (i := 817) (by decide +kernel), List.mem_of_getElem? (i := 1116) (by decide +kernel), List.mem_of_getElem? (i := 1117) (by decide +kernel)⟩
theorem lw_p72 : lw_okq (⟨"SiteObjectsModel", "isLed", "(III)Z"⟩, 59) := ⟨⟨by decide +kernel, by decide +kernel⟩, List.mem_of_getElem? (i := 817) (by decide +kernel), List.mem_of_getElem? (i := 1120) (by decide +kernel), List.mem_of_getElem? (i := 1121) (by decide +kernel)⟩
theorem lw_p73 : lw_okq (⟨"SiteObjectsModel", "begins", "(I)Z"⟩, 59) := ⟨⟨by decide +kernel, by decide +kernel⟩, List.mem_of_getElem? (i := 817) (by decide +kernel), List.mem_of_getElem? (i := 1149) (by decide +kernel), List.mem_of_getElem? (i := 1150) (by decide +kernel)⟩
theorem lw_p74 : lw_okq (⟨"SiteObjectsModel", "ends", "(I)V"⟩, 59) := ⟨⟨by decide +kernel, by decide +kernel⟩, List.mem_of_getElem? (i := 817) (by decide +kernel), List.mem_of_getElem? (i := 1153) (by decide +kernel), List.mem_of_getElem? (i := 1154) (by decide +kernel)⟩
theorem lw_p75 : lw_okq (⟨"SiteObjectsModel", "becomes", "(II)V"⟩, 59) := ⟨⟨by decide +kernel, by decide +kernel⟩, List.mem_of_getElem? (i := 817) (by decide +kernel), List.mem_of_getElem? (i := 1157) (by decide +kernel), List.mem_of_getElem? (i := 1158) (by decide +kernel)⟩
theorem lw_p76 : lw_okq (⟨"SiteObjectsModel", "counts", "(IJ)V"⟩, 59) := ⟨⟨by decide +kernel, by decide +kernel⟩, List.mem_of_getElem? (i := 817) (by decide +kernel), List.mem_of_getElem? (i := 1161) (by decide +kernel), List.mem_of_getElem? (i := 1162) (by decide +kernel)⟩
theorem lw_p77 : lw_okq (⟨"SiteObjectsModel", "fails", "(II)V"⟩, 59) := ⟨⟨by decide +kernel, by decide +kernel⟩, List.mem_of_getElem? (i := 817) (by decide +kernel), List.mem_of_getElem? (i := 1165) (by decide +kernel), List.mem_of_getElem? (i := 1166) (by decide +kernel)⟩
theorem lw_p78 : lw_okq (⟨"SiteObjectsModel", "does", "(IJ)V"⟩, 59) := ⟨⟨by decide +kernel, by decide +kernel⟩, List.mem_of_getElem? (i := 817) (by decide +kernel), List.mem_of_getElem? (i := 1169) (by decide +kernel), List.mem_of_getElem? (i := 1170) (by decide +kernel)⟩
theorem lw_p79 : lw_okq (⟨"SiteObjectsModel", "makes", "(II)V"⟩, 59) := ⟨⟨by decide +kernel, by decide +kernel⟩, List.mem_of_getElem? (i := 817) (by decide +kernel), List.mem_of_getElem? (i := 1173) (by decide +kernel), List.mem_of_getElem? (i := 1174) (by decide +kernel)⟩
def lw_privs_5 : List (MethodName × Nat) := [(⟨"SiteObjectsModel", "isBelow", "(II)Z"⟩, 59), (⟨"SiteObjectsModel", "methodFor", "(II)I"⟩, 59), (⟨"SiteObjectsModel", "context", "(III)V"⟩, 59), (⟨"SiteObjectsModel", "joins", "(III)V"⟩, 59), (⟨"SiteObjectsModel", "raised", "(IIJ)V"⟩, 59), (⟨"SiteObjectsModel", "covers", "(II)Z"⟩, 59), (⟨"SiteObjectsModel", "isOnce", "(I)Z"⟩, 59), (⟨"SiteObjectsModel", "ledBy", "(I)I"⟩, 59), (⟨"SiteObjectsModel", "isLed", "(III)Z"⟩, 59), (⟨"SiteObjectsModel", "begins", "(I)Z"⟩, 59), (⟨"SiteObjectsModel", "ends", "(I)V"⟩, 59), (⟨"SiteObjectsModel", "becomes", "(II)V"⟩, 59), (⟨"SiteObjectsModel", "counts", "(IJ)V"⟩, 59), (⟨"SiteObjectsModel", "fails", "(II)V"⟩, 59), (⟨"SiteObjectsModel", "does", "(IJ)V"⟩, 59), (⟨"SiteObjectsModel", "makes", "(II)V"⟩, 59)]
theorem lw_r5 : ∀ q ∈ lw_privs_5, lw_okq q := List.forall_mem_cons.mpr ⟨lw_p64, List.forall_mem_cons.mpr ⟨lw_p65, List.forall_mem_cons.mpr ⟨lw_p66, List.forall_mem_cons.mpr ⟨lw_p67, List.forall_mem_cons.mpr ⟨lw_p68, List.forall_mem_cons.mpr ⟨lw_p69, List.forall_mem_cons.mpr ⟨lw_p70, List.forall_mem_cons.mpr ⟨lw_p71, List.forall_mem_cons.mpr ⟨lw_p72, List.forall_mem_cons.mpr ⟨lw_p73, List.forall_mem_cons.mpr ⟨lw_p74, List.forall_mem_cons.mpr ⟨lw_p75, List.forall_mem_cons.mpr ⟨lw_p76, List.forall_mem_cons.mpr ⟨lw_p77, List.forall_mem_cons.mpr ⟨lw_p78, List.forall_mem_cons.mpr ⟨lw_p79, fun _ h => absurd h List.not_mem_nil⟩⟩⟩⟩⟩⟩⟩⟩⟩⟩⟩⟩⟩⟩⟩⟩
theorem lw_p80 : lw_okq (⟨"SiteObjectsModel", "var", "(I)I"⟩, 59) := ⟨⟨by decide +kernel, by decide +kernel⟩, List.mem_of_getElem? (i := 817) (by decide +kernel), List.mem_of_getElem? (i := 1177) (by decide +kernel), List.mem_of_getElem? (i := 1178) (by decide +kernel)⟩
theorem lw_p81 : lw_okq (⟨"SiteObjectsModel", "reads", "(IZ)V"⟩, 59) := ⟨⟨by decide +kernel, by decide +kernel⟩, List.mem_of_getElem? (i := 817) (by decide +kernel), List.mem_of_getElem? (i := 1181) (by decide +kernel), List.mem_of_getElem? (i := 1182) (by decide +kernel)⟩
theorem lw_p82 : lw_okq (⟨"SiteObjectsModel", "against", "(IZI)I"⟩, 59) := ⟨⟨by decide +kernel, by decide +kernel⟩, List.mem_of_getElem? (i := 817) (by decide +kernel), List.mem_of_getElem? (i := 1185) (by decide +kernel), List.mem_of_getElem? (i := 1186) (by decide +kernel)⟩
theorem lw_p83 : lw_okq (⟨"SiteObjectsModel", "isRowNow", "(I)Z"⟩, 59) := ⟨⟨by decide +kernel, by decide +kernel⟩, List.mem_of_getElem? (i := 817) (by decide +kernel), List.mem_of_getElem? (i := 1189) (by decide +kernel), List.mem_of_getElem? (i := 1190) (by decide +kernel)⟩
theorem lw_p84 : lw_okq (⟨"SiteObjectsModel", "writes", "(IZ)V"⟩, 59) := ⟨⟨by decide +kernel, by decide +kernel⟩, List.mem_of_getElem? (i := 817) (by decide +kernel), List.mem_of_getElem? (i := 1193) (by decide +kernel), List.mem_of_getElem? (i := 1194) (by decide +kernel)⟩
theorem lw_p85 : lw_okq (⟨"SiteObjectsModel", "isObjectBelow", "(II)Z"⟩, 59) := ⟨⟨by decide +kernel, by decide +kernel⟩, List.mem_of_getElem? (i := 817) (by decide +kernel), List.mem_of_getElem? (i := 1197) (by decide +kernel), List.mem_of_getElem? (i := 1198) (by decide +kernel)⟩
theorem lw_p86 : lw_okq (⟨"SiteObjectsModel", "asks", "(I)V"⟩, 59) := ⟨⟨by decide +kernel, by decide +kernel⟩, List.mem_of_getElem? (i := 817) (by decide +kernel), List.mem_of_getElem? (i := 1201) (by decide +kernel), List.mem_of_getElem? (i := 1202) (by decide +kernel)⟩
theorem lw_p87 : lw_okq (⟨"SiteObjectsModel", "calls", "(I)V"⟩, 59) := ⟨⟨by decide +kernel, by decide +kernel⟩, List.mem_of_getElem? (i := 817) (by decide +kernel), List.mem_of_getElem? (i := 1205) (by decide +kernel), List.mem_of_getElem? (i := 1206) (by decide +kernel)⟩
theorem lw_p88 : lw_okq (⟨"SiteObjectsModel", "raises", "(II)V"⟩, 59) := ⟨⟨by decide +kernel, by decide +kernel⟩, List.mem_of_getElem? (i := 817) (by decide +kernel), List.mem_of_getElem? (i := 1209) (by decide +kernel), List.mem_of_getElem? (i := 1210) (by decide +kernel)⟩
theorem lw_p89 : lw_okq (⟨"SiteObjectsModel", "bySteps", "([J)V"⟩, 59) := ⟨⟨by decide +kernel, by decide +kernel⟩, List.mem_of_getElem? (i := 817) (by decide +kernel), List.mem_of_getElem? (i := 1236) (by decide +kernel), List.mem_of_getElem? (i := 1237) (by decide +kernel)⟩
def lw_privs_6 : List (MethodName × Nat) := [(⟨"SiteObjectsModel", "var", "(I)I"⟩, 59), (⟨"SiteObjectsModel", "reads", "(IZ)V"⟩, 59), (⟨"SiteObjectsModel", "against", "(IZI)I"⟩, 59), (⟨"SiteObjectsModel", "isRowNow", "(I)Z"⟩, 59), (⟨"SiteObjectsModel", "writes", "(IZ)V"⟩, 59), (⟨"SiteObjectsModel", "isObjectBelow", "(II)Z"⟩, 59), (⟨"SiteObjectsModel", "asks", "(I)V"⟩, 59), (⟨"SiteObjectsModel", "calls", "(I)V"⟩, 59), (⟨"SiteObjectsModel", "raises", "(II)V"⟩, 59), (⟨"SiteObjectsModel", "bySteps", "([J)V"⟩, 59)]
theorem lw_r6 : ∀ q ∈ lw_privs_6, lw_okq q := List.forall_mem_cons.mpr ⟨lw_p80, List.forall_mem_cons.mpr ⟨lw_p81, List.forall_mem_cons.mpr ⟨lw_p82, List.forall_mem_cons.mpr ⟨lw_p83, List.forall_mem_cons.mpr ⟨lw_p84, List.forall_mem_cons.mpr ⟨lw_p85, List.forall_mem_cons.mpr ⟨lw_p86, List.forall_mem_cons.mpr ⟨lw_p87, List.forall_mem_cons.mpr ⟨lw_p88, List.forall_mem_cons.mpr ⟨lw_p89, fun _ h => absurd h List.not_mem_nil⟩⟩⟩⟩⟩⟩⟩⟩⟩⟩
def lw_privs : List (MethodName × Nat) := lw_privs_1 ++ (lw_privs_2 ++ (lw_privs_3 ++ (lw_privs_4 ++ (lw_privs_5 ++ (lw_privs_6)))))
def lw_tbl : List Cond := k2_sels lw_privs ++ tables_1
theorem lw_privs_ok : ∀ q ∈ lw_privs, lw_okq q := by
  show ∀ q ∈ lw_privs_1 ++ (lw_privs_2 ++ (lw_privs_3 ++ (lw_privs_4 ++ (lw_privs_5 ++ (lw_privs_6))))), lw_okq q
  exact List.forall_mem_append.mpr ⟨lw_r1, List.forall_mem_append.mpr ⟨lw_r2, List.forall_mem_append.mpr ⟨lw_r3, List.forall_mem_append.mpr ⟨lw_r4, List.forall_mem_append.mpr ⟨lw_r5, lw_r6⟩⟩⟩⟩⟩
-- ===== end of PART A; then your names; then what follows =====
end
section
/-! MY OWN LAYER. A world is a list of shapes (what each cell is) and two functions of numbers (what is in it): the ints (and booleans) as whole numbers in range, the longs as they are. A method is a function over these that answers 'none' where the machine would leave the told road. -/
abbrev inR (x : Int) : Prop := -2147483648 ≤ x ∧ x ≤ 2147483647
abbrev oi (x : Int) : Int32 := Int32.ofInt x
theorem oi_toInt {x : Int} (h : inR x) : (oi x).toInt = x := Int32.toInt_ofInt_of_le (by omega) (by omega)
theorem oi_lt {x y : Int} (hx : inR x) (hy : inR y) : oi x < oi y ↔ x < y := by
  rw [Int32.lt_iff_toInt_lt, oi_toInt hx, oi_toInt hy]
theorem oi_le {x y : Int} (hx : inR x) (hy : inR y) : oi x ≤ oi y ↔ x ≤ y := by
  rw [Int32.le_iff_toInt_le, oi_toInt hx, oi_toInt hy]
theorem oi_eq {x y : Int} (hx : inR x) (hy : inR y) : oi x = oi y ↔ x = y := by
  rw [← Int32.toInt_inj, oi_toInt hx, oi_toInt hy]
theorem oi_of (x : Int32) : oi x.toInt = x := Int32.ofInt_toInt x
theorem oi_rng (x : Int32) : inR x.toInt := ⟨by have := x.le_toInt; omega, by have := x.toInt_lt; omega⟩
theorem oi_in {i : Int} {n : Nat} (h : 0 ≤ i ∧ i < (n : Int)) (hn : n < 2147483648) : vp_in (oi i) n ∧ (oi i).toNatClampNeg = i.toNat := by
  have hr : inR i := ⟨by omega, by omega⟩
  refine ⟨vp_in_iff.mpr (by rw [oi_toInt hr]; exact h), ?_⟩
  rw [← Int32.toNat_toInt, oi_toInt hr]
theorem oi_add (x y : Int) : oi x + oi y = oi (x + y) := (Int32.ofInt_add x y).symm
theorem oi_sub (x y : Int) : oi x - oi y = oi (x - y) := (Int32.ofInt_sub x y).symm
theorem oi_mul (x y : Int) : oi x * oi y = oi (x * y) := (Int32.ofInt_mul x y).symm
/-! what the machine makes of two ints where it isn't the whole numbers' own -/
def iAnd (x y : Int) : Int := (oi x &&& oi y).toInt
def iOr (x y : Int) : Int := (oi x ||| oi y).toInt
def iShl (x y : Int) : Int := (oi x <<< (oi y &&& 31)).toInt
def iShr (x y : Int) : Int := (oi x >>> (oi y &&& 31)).toInt
def iDiv (x y : Int) : Int := (oi x / oi y).toInt
def iRem (x y : Int) : Int := (oi x - oi x / oi y * oi y).toInt
def lShl (x : Int64) (y : Int) : Int64 := x <<< ((oi y).toInt64 &&& 63)
def lShr (x : Int64) (y : Int) : Int64 := x >>> ((oi y).toInt64 &&& 63)
def lUsr (x : Int64) (y : Int) : Int64 := (x.toUInt64 >>> ((oi y).toInt64.toUInt64 &&& Int64.toUInt64 63)).toInt64
def i2L (x : Int) : Int64 := (oi x).toInt64
/-! the contents -/
abbrev Mm : Type := (Nat → Nat → Int) × (Nat → Nat → Int64)
abbrev Sh : Type := Nat × Nat × List (Nat × Nat)
def Rg (σ : Mm) : Prop := ∀ k j : Nat, inR (σ.1 k j)
def stI (σ : Mm) (k j : Nat) (v : Int) : Mm := (fun a b => if a = k ∧ b = j then v else σ.1 a b, σ.2)
def stL (σ : Mm) (k j : Nat) (v : Int64) : Mm := (σ.1, fun a b => if a = k ∧ b = j then v else σ.2 a b)
theorem Rg.stI {σ : Mm} {k j : Nat} {v : Int} (h : Rg σ) (hv : inR v) : Rg (stI σ k j v) := by
  intro a b
  by_cases hc : a = k ∧ b = j
  · show inR (if a = k ∧ b = j then v else σ.1 a b)
    rw [if_pos hc]; exact hv
  · show inR (if a = k ∧ b = j then v else σ.1 a b)
    rw [if_neg hc]; exact h a b
theorem Rg.stL {σ : Mm} {k j : Nat} {v : Int64} (h : Rg σ) : Rg (stL σ k j v) := h
def ck {α : Type} (c : Prop) [Decidable c] (e : Option α) : Option α := if c then e else none
theorem ck_pos {α : Type} {c : Prop} [Decidable c] {e : Option α} (h : c) : ck c e = e := if_pos h
theorem ck_some {α : Type} {c : Prop} [Decidable c] {e : Option α} {r : α} (h : ck c e = some r) : c ∧ e = some r := by
  unfold ck at h
  by_cases hc : c
  · rw [if_pos hc] at h; exact ⟨hc, h⟩
  · rw [if_neg hc] at h; cases h
def vfd (ad : Nat → Nat) (σ : Mm) (k j : Nat) (d : Nat × Nat) : Value := match d.1 with
  | 0 => .int (oi (σ.1 k j))
  | 1 => .long (σ.2 k j)
  | _ => .ref (ad d.2)
def fds (ad : Nat → Nat) (σ : Mm) (k : Nat) : Nat → List (Nat × Nat) → List Value
  | _, [] => []
  | j, d :: ds => vfd ad σ k j d :: fds ad σ k (j + 1) ds
theorem fds_get (ad : Nat → Nat) (σ : Mm) (k : Nat) : ∀ (ds : List (Nat × Nat)) (j i : Nat), (fds ad σ k j ds)[i]? = (ds[i]?).map (vfd ad σ k (j + i))
  | [], j, i => by simp [fds]
  | d :: ds, j, 0 => by simp [fds]
  | d :: ds, j, i + 1 => by
    show (fds ad σ k (j + 1) ds)[i]? = _
    rw [fds_get ad σ k ds (j + 1) i]
    have h : j + 1 + i = j + (i + 1) := by omega
    rw [h]
    rfl
theorem fds_len (ad : Nat → Nat) (σ : Mm) (k : Nat) : ∀ (ds : List (Nat × Nat)) (j : Nat), (fds ad σ k j ds).length = ds.length
  | [], _ => rfl
  | _ :: ds, j => by show (fds ad σ k (j + 1) ds).length + 1 = _; rw [fds_len ad σ k ds (j + 1)]; rfl
def cel (ca : Nat → ClassId) (ad : Nat → Nat) (σ : Mm) (k : Nat) (sh : Sh) : va_E := match sh.1 with
  | 0 => .inr (sh.2.1, fds ad σ k 0 sh.2.2)
  | 1 => .inl (ca 0, sh.2.1, .inl (fun j => oi (σ.1 k j)))
  | 2 => .inl (ca 1, sh.2.1, .inr (.inl (fun j => σ.2 k j)))
  | _ => .inl (ca 2, sh.2.1, .inl (fun j => oi (σ.1 k j)))
def wl (ca : Nat → ClassId) (ad : Nat → Nat) (shs : List Sh) (σ : Mm) : va_W := shs.zipIdx.map (fun q => (ad q.2, cel ca ad σ q.2 q.1))
theorem wl_get {ca : Nat → ClassId} {ad : Nat → Nat} {shs : List Sh} {σ : Mm} {k : Nat} {sh : Sh} (h : shs[k]? = some sh) : (wl ca ad shs σ)[k]? = some (ad k, cel ca ad σ k sh) := by
  simp [wl, List.getElem?_zipIdx, h]
theorem wl_len {ca : Nat → ClassId} {ad : Nat → Nat} {shs : List Sh} {σ : Mm} : (wl ca ad shs σ).length = shs.length := by simp [wl]
theorem vfd_congr {ad : Nat → Nat} {σ σ' : Mm} {k j : Nat} {d : Nat × Nat} (h1 : σ.1 k j = σ'.1 k j) (h2 : σ.2 k j = σ'.2 k j) : vfd ad σ k j d = vfd ad σ' k j d := by
  unfold vfd
  rw [h1, h2]
theorem fds_congr {ad : Nat → Nat} {σ σ' : Mm} {k : Nat} (h1 : σ.1 k = σ'.1 k) (h2 : σ.2 k = σ'.2 k) : ∀ (ds : List (Nat × Nat)) (j : Nat), fds ad σ k j ds = fds ad σ' k j ds
  | [], _ => rfl
  | d :: ds, j => by
    show vfd ad σ k j d :: fds ad σ k (j + 1) ds = vfd ad σ' k j d :: fds ad σ' k (j + 1) ds
    rw [fds_congr h1 h2 ds (j + 1), vfd_congr (congrFun h1 j) (congrFun h2 j)]
theorem cel_congr {ca : Nat → ClassId} {ad : Nat → Nat} {σ σ' : Mm} {k : Nat} (h1 : σ.1 k = σ'.1 k) (h2 : σ.2 k = σ'.2 k) (sh : Sh) : cel ca ad σ k sh = cel ca ad σ' k sh := by
  unfold cel
  rw [fds_congr h1 h2, h1, h2]
theorem wl_set {ca : Nat → ClassId} {ad : Nat → Nat} {shs : List Sh} {σ σ' : Mm} {k : Nat} {sh : Sh} (h : shs[k]? = some sh) (h1 : ∀ q, q ≠ k → σ.1 q = σ'.1 q) (h2 : ∀ q, q ≠ k → σ.2 q = σ'.2 q) : (wl ca ad shs σ).set k (ad k, cel ca ad σ' k sh) = wl ca ad shs σ' := by
  apply List.ext_getElem?
  intro i
  have hlt : k < shs.length := (List.getElem?_eq_some_iff.mp h).1
  by_cases hi : k = i
  · subst hi
    rw [List.getElem?_set_self (by rw [wl_len]; exact hlt), wl_get h]
  · rw [List.getElem?_set_ne hi]
    cases hs : shs[i]? with
    | none =>
      have hl : shs.length ≤ i := List.getElem?_eq_none_iff.mp hs
      rw [List.getElem?_eq_none (by rw [wl_len]; exact hl), List.getElem?_eq_none (by rw [wl_len]; exact hl)]
    | some s2 => rw [wl_get hs, wl_get hs, cel_congr (h1 i (Ne.symm hi)) (h2 i (Ne.symm hi))]
theorem stI_ne {σ : Mm} {k j : Nat} {v : Int} : ∀ q, q ≠ k → σ.1 q = (stI σ k j v).1 q := fun q hq => by
  funext b
  show _ = if q = k ∧ b = j then v else σ.1 q b
  rw [if_neg (fun h => hq h.1)]
theorem stL_ne {σ : Mm} {k j : Nat} {v : Int64} : ∀ q, q ≠ k → σ.2 q = (stL σ k j v).2 q := fun q hq => by
  funext b
  show _ = if q = k ∧ b = j then v else σ.2 q b
  rw [if_neg (fun h => hq h.1)]
theorem fds_set {ad : Nat → Nat} {σ σ' : Mm} {k i : Nat} (h : ∀ q, q ≠ i → σ.1 k q = σ'.1 k q ∧ σ.2 k q = σ'.2 k q) {d : Nat × Nat} {ds : List (Nat × Nat)} (hd : ds[i]? = some d) : (fds ad σ k 0 ds).set i (vfd ad σ' k i d) = fds ad σ' k 0 ds := by
  apply List.ext_getElem?
  intro q
  have hlt : i < ds.length := (List.getElem?_eq_some_iff.mp hd).1
  by_cases hq : i = q
  · subst hq
    rw [List.getElem?_set_self (by rw [fds_len]; exact hlt), fds_get, hd, Nat.zero_add]
    rfl
  · rw [List.getElem?_set_ne hq, fds_get, fds_get, Nat.zero_add]
    cases ds[q]? with
    | none => rfl
    | some d2 => exact congrArg some (vfd_congr (h q (Ne.symm hq)).1 (h q (Ne.symm hq)).2)
theorem wl_stI_fld {ca : Nat → ClassId} {ad : Nat → Nat} {shs : List Sh} {σ : Mm} {k i ci : Nat} {fl : List (Nat × Nat)} {v : Int} {z : Nat} (h : shs[k]? = some (0, ci, fl)) (hd : fl[i]? = some (0, z)) : (wl ca ad shs σ).set k (ad k, .inr (ci, (fds ad σ k 0 fl).set i (.int (oi v)))) = wl ca ad shs (stI σ k i v) := by
  rw [← wl_set (σ := σ) (σ' := stI σ k i v) h stI_ne (fun _ _ => rfl)]
  have hv : vfd ad (stI σ k i v) k i (0, z) = .int (oi v) := by
    show Value.int (oi (if k = k ∧ i = i then v else σ.1 k i)) = _
    rw [if_pos ⟨rfl, rfl⟩]
  have hf : (fds ad σ k 0 fl).set i (.int (oi v)) = fds ad (stI σ k i v) k 0 fl := by
    rw [← hv]
    refine fds_set (σ := σ) (σ' := stI σ k i v) (fun q hq => ⟨?_, rfl⟩) hd
    show _ = if k = k ∧ q = i then v else σ.1 k q
    rw [if_neg (fun h => hq h.2)]
  rw [hf]
  rfl
theorem wl_stL_fld {ca : Nat → ClassId} {ad : Nat → Nat} {shs : List Sh} {σ : Mm} {k i ci : Nat} {fl : List (Nat × Nat)} {v : Int64} {z : Nat} (h : shs[k]? = some (0, ci, fl)) (hd : fl[i]? = some (1, z)) : (wl ca ad shs σ).set k (ad k, .inr (ci, (fds ad σ k 0 fl).set i (.long v))) = wl ca ad shs (stL σ k i v) := by
  rw [← wl_set (σ := σ) (σ' := stL σ k i v) h (fun _ _ => rfl) stL_ne]
  have hv : vfd ad (stL σ k i v) k i (1, z) = .long v := by
    show Value.long (if k = k ∧ i = i then v else σ.2 k i) = _
    rw [if_pos ⟨rfl, rfl⟩]
  have hf : (fds ad σ k 0 fl).set i (.long v) = fds ad (stL σ k i v) k 0 fl := by
    rw [← hv]
    refine fds_set (σ := σ) (σ' := stL σ k i v) (fun q hq => ⟨rfl, ?_⟩) hd
    show _ = if k = k ∧ q = i then v else σ.2 k q
    rw [if_neg (fun h => hq h.2)]
  rw [hf]
  rfl
theorem wl_stI_arr {ca : Nat → ClassId} {ad : Nat → Nat} {shs : List Sh} {σ : Mm} {k i n : Nat} {fl : List (Nat × Nat)} {v : Int} (h : shs[k]? = some (1, n, fl)) : (wl ca ad shs σ).set k (ad k, .inl (ca 0, n, .inl (upd (fun j => oi (σ.1 k j)) i (oi v)))) = wl ca ad shs (stI σ k i v) := by
  rw [← wl_set (σ := σ) (σ' := stI σ k i v) h stI_ne (fun _ _ => rfl)]
  have hf : upd (fun j => oi (σ.1 k j)) i (oi v) = fun j => oi ((stI σ k i v).1 k j) := by
    funext j
    show (if j = i then oi v else oi (σ.1 k j)) = oi (if k = k ∧ j = i then v else σ.1 k j)
    by_cases hj : j = i
    · rw [if_pos hj, if_pos ⟨rfl, hj⟩]
    · rw [if_neg hj, if_neg (fun h => hj h.2)]
  rw [hf]
  rfl
theorem wl_stZ_arr {ca : Nat → ClassId} {ad : Nat → Nat} {shs : List Sh} {σ : Mm} {k i n : Nat} {fl : List (Nat × Nat)} {v : Int} (h : shs[k]? = some (3, n, fl)) : (wl ca ad shs σ).set k (ad k, .inl (ca 2, n, .inl (upd (fun j => oi (σ.1 k j)) i (oi v)))) = wl ca ad shs (stI σ k i v) := by
  rw [← wl_set (σ := σ) (σ' := stI σ k i v) h stI_ne (fun _ _ => rfl)]
  have hf : upd (fun j => oi (σ.1 k j)) i (oi v) = fun j => oi ((stI σ k i v).1 k j) := by
    funext j
    show (if j = i then oi v else oi (σ.1 k j)) = oi (if k = k ∧ j = i then v else σ.1 k j)
    by_cases hj : j = i
    · rw [if_pos hj, if_pos ⟨rfl, hj⟩]
    · rw [if_neg hj, if_neg (fun h => hj h.2)]
  rw [hf]
  rfl
theorem wl_stL_arr {ca : Nat → ClassId} {ad : Nat → Nat} {shs : List Sh} {σ : Mm} {k i n : Nat} {fl : List (Nat × Nat)} {v : Int64} (h : shs[k]? = some (2, n, fl)) : (wl ca ad shs σ).set k (ad k, .inl (ca 1, n, .inr (.inl (vp_updL (fun j => σ.2 k j) i v)))) = wl ca ad shs (stL σ k i v) := by
  rw [← wl_set (σ := σ) (σ' := stL σ k i v) h (fun _ _ => rfl) stL_ne]
  have hf : vp_updL (fun j => σ.2 k j) i v = fun j => (stL σ k i v).2 k j := by
    funext j
    show (if j = i then v else σ.2 k j) = (if k = k ∧ j = i then v else σ.2 k j)
    by_cases hj : j = i
    · rw [if_pos hj, if_pos ⟨rfl, hj⟩]
    · rw [if_neg hj, if_neg (fun h => hj h.2)]
  rw [hf]
  rfl
end
section
/-! THE RULES: one a kind of instruction, over my worlds. 'G .. pc lv st σ x': if the rest of the method is the pure text x and that ends, with 'res', then the machine, at pc with the locals lv, the stack st and the world σ, comes to its end with Q. -/
abbrev tysA (ca : Nat → ClassId) : List (ClassId × FieldType) := [(ca 0, .int), (ca 1, .long), (ca 2, .boolean)]
def Cx (p : Program) (s : State) (m : MethodId) (args : Array Value) (c : Code) (cc : ByteArray) (nL : Nat) (own : String) (Ts : List Cond) (D : va_G) (cl : List vw_C) (ca : Nat → ClassId) : Prop :=
  p.tables.exec = Jvm.exec ∧ c.code = cc ∧ c.maxLocals = nL ∧ s.vm.findClass own = some m.cls ∧ (∀ w ∈ Ts, w.before args s = true) ∧ va_K D cl (tysA ca) s
def G (p : Program) (l : Launch) (e : Env) (R : Room) (s : State) (m : MethodId) (args : Array Value) (below : List Frame) (meth : Method) (c : Code) (Q : State → Prop) (nL : Nat) (D : va_G) (cl : List vw_C) (ca : Nat → ClassId) (ad : Nat → Nat) (shs : List Sh) (A : Nat → Prop) {ρ : Type} (res : ρ) (pc : Nat) (lv : List (Nat × Value)) (st : List Value) (σ : Mm) (x : Option ρ) : Prop :=
  x = some res → Rg σ → ∀ (H : Heap) (locs : List Loc) (ls : Array Slot), lv_has ls nL lv → va_P D cl (wl ca ad shs σ) H → va_D A (wl ca ad shs σ) → va_S A s.heap H locs → W p l e R s m args below meth c H locs 0 0 Q (F0 m pc ls st)
section RULES
variable {p : Program} {l : Launch} {e : Env} {R : Room} {s : State} {m : MethodId} {args : Array Value} {below : List Frame} {meth : Method} {c : Code} {Q : State → Prop} {nL : Nat} {D : va_G} {cl : List vw_C} {ca : Nat → ClassId} {ad : Nat → Nat} {shs : List Sh} {A : Nat → Prop} {ρ : Type} {res : ρ}
variable {cc : ByteArray} {own : String} {Ts : List Cond} {pc : Nat} {lv : List (Nat × Value)} {st : List Value} {σ : Mm} {t t1 t2 : Option ρ}
theorem q_iload_n (X : Cx p s m args c cc nL own Ts D cl ca) {k : Fin 4} {x : Int32} (d : decode cc pc = .ok (.iload_n k, 1)) (q : Nat) (hl : lv[q]? = some ((k : Nat), .int x)) (K : G p l e R s m args below meth c Q nL D cl ca ad shs A res (pc + 1) lv (.int x :: st) σ t) : G p l e R s m args below meth c Q nL D cl ca ad shs A res pc lv st σ t :=
  fun h hR H locs ls hv hP hD hS => lv_iload_n X.1 X.2.1 d rfl (lv_at hv q hl) (K h hR H locs ls hv hP hD hS)
theorem q_iload (X : Cx p s m args c cc nL own Ts D cl ca) {k : Nat} {x : Int32} (d : decode cc pc = .ok (.iload k, 2)) (q : Nat) (hl : lv[q]? = some (k, .int x)) (K : G p l e R s m args below meth c Q nL D cl ca ad shs A res (pc + 2) lv (.int x :: st) σ t) : G p l e R s m args below meth c Q nL D cl ca ad shs A res pc lv st σ t :=
  fun h hR H locs ls hv hP hD hS => lv_iload X.1 X.2.1 d (lv_at hv q hl) (K h hR H locs ls hv hP hD hS)
theorem q_lload_n (X : Cx p s m args c cc nL own Ts D cl ca) {k : Fin 4} {x : Int64} (d : decode cc pc = .ok (.lload_n k, 1)) (q : Nat) (hl : lv[q]? = some ((k : Nat), .long x)) (K : G p l e R s m args below meth c Q nL D cl ca ad shs A res (pc + 1) lv (.long x :: st) σ t) : G p l e R s m args below meth c Q nL D cl ca ad shs A res pc lv st σ t :=
  fun h hR H locs ls hv hP hD hS => lv_lload_n X.1 X.2.1 d rfl (lv_at hv q hl) (K h hR H locs ls hv hP hD hS)
theorem q_lload (X : Cx p s m args c cc nL own Ts D cl ca) {k : Nat} {x : Int64} (d : decode cc pc = .ok (.lload k, 2)) (q : Nat) (hl : lv[q]? = some (k, .long x)) (K : G p l e R s m args below meth c Q nL D cl ca ad shs A res (pc + 2) lv (.long x :: st) σ t) : G p l e R s m args below meth c Q nL D cl ca ad shs A res pc lv st σ t :=
  fun h hR H locs ls hv hP hD hS => lv_lload X.1 X.2.1 d (lv_at hv q hl) (K h hR H locs ls hv hP hD hS)
theorem q_aload_n (X : Cx p s m args c cc nL own Ts D cl ca) {k : Fin 4} {x : Nat} (d : decode cc pc = .ok (.aload_n k, 1)) (q : Nat) (hl : lv[q]? = some ((k : Nat), .ref x)) (K : G p l e R s m args below meth c Q nL D cl ca ad shs A res (pc + 1) lv (.ref x :: st) σ t) : G p l e R s m args below meth c Q nL D cl ca ad shs A res pc lv st σ t :=
  fun h hR H locs ls hv hP hD hS => lv_aload_n X.1 X.2.1 d rfl (lv_at hv q hl) (K h hR H locs ls hv hP hD hS)
theorem q_istore_n (X : Cx p s m args c cc nL own Ts D cl ca) {k : Fin 4} {x : Int32} (lv' : List (Nat × Value)) (d : decode cc pc = .ok (.istore_n k, 1)) (hn : (k : Nat) < nL) (hl : ((k : Nat), Value.int x) :: lv.filter (fun q => !(q.1 == (k : Nat)) && !(q.1 + 1 == (k : Nat) && q.2.category == 2)) = lv') (K : G p l e R s m args below meth c Q nL D cl ca ad shs A res (pc + 1) lv' st σ t) : G p l e R s m args below meth c Q nL D cl ca ad shs A res pc lv (.int x :: st) σ t :=
  fun h hR H locs ls hv hP hD hS => lv_istore_n X.1 X.2.1 d rfl hv hn hl (fun ls' hv' => K h hR H locs ls' hv' hP hD hS)
theorem q_istore (X : Cx p s m args c cc nL own Ts D cl ca) {k : Nat} {x : Int32} (lv' : List (Nat × Value)) (d : decode cc pc = .ok (.istore k, 2)) (hn : k < nL) (hl : (k, Value.int x) :: lv.filter (fun q => !(q.1 == k) && !(q.1 + 1 == k && q.2.category == 2)) = lv') (K : G p l e R s m args below meth c Q nL D cl ca ad shs A res (pc + 2) lv' st σ t) : G p l e R s m args below meth c Q nL D cl ca ad shs A res pc lv (.int x :: st) σ t :=
  fun h hR H locs ls hv hP hD hS => lv_istore X.1 X.2.1 d hv hn hl (fun ls' hv' => K h hR H locs ls' hv' hP hD hS)
theorem q_lstore_n (X : Cx p s m args c cc nL own Ts D cl ca) {k : Fin 4} {x : Int64} (lv' : List (Nat × Value)) (d : decode cc pc = .ok (.lstore_n k, 1)) (hn : (k : Nat) + 1 < nL) (hl : ((k : Nat), Value.long x) :: lv.filter (fun q => !(q.1 == (k : Nat)) && (!(q.1 == (k : Nat) + 1) && !(q.1 + 1 == (k : Nat) && q.2.category == 2))) = lv') (K : G p l e R s m args below meth c Q nL D cl ca ad shs A res (pc + 1) lv' st σ t) : G p l e R s m args below meth c Q nL D cl ca ad shs A res pc lv (.long x :: st) σ t :=
  fun h hR H locs ls hv hP hD hS => lv_lstore_n X.1 X.2.1 d rfl hv hn hl (fun ls' hv' => K h hR H locs ls' hv' hP hD hS)
theorem q_lstore (X : Cx p s m args c cc nL own Ts D cl ca) {k : Nat} {x : Int64} (lv' : List (Nat × Value)) (d : decode cc pc = .ok (.lstore k, 2)) (hn : k + 1 < nL) (hl : (k, Value.long x) :: lv.filter (fun q => !(q.1 == k) && (!(q.1 == k + 1) && !(q.1 + 1 == k && q.2.category == 2))) = lv') (K : G p l e R s m args below meth c Q nL D cl ca ad shs A res (pc + 2) lv' st σ t) : G p l e R s m args below meth c Q nL D cl ca ad shs A res pc lv (.long x :: st) σ t :=
  fun h hR H locs ls hv hP hD hS => lv_lstore X.1 X.2.1 d hv hn hl (fun ls' hv' => K h hR H locs ls' hv' hP hD hS)
theorem q_iinc (X : Cx p s m args c cc nL own Ts D cl ca) {k : Nat} {n x : Int} (lv' : List (Nat × Value)) (d : decode cc pc = .ok (.iinc k n, 3)) (hn : k < nL) (q : Nat) (hk : lv[q]? = some (k, .int (oi x))) (hl : (k, Value.int (oi (x + n))) :: lv.filter (fun q => !(q.1 == k) && !(q.1 + 1 == k && q.2.category == 2)) = lv') (K : inR (x + n) → G p l e R s m args below meth c Q nL D cl ca ad shs A res (pc + 3) lv' st σ t) : G p l e R s m args below meth c Q nL D cl ca ad shs A res pc lv st σ (ck (inR (x + n)) t) :=
  fun h hR H locs ls hv hP hD hS => lv_iinc X.1 X.2.1 d hv hk (oi_add x n) hn hl (fun ls' hv' => K (ck_some h).1 (ck_some h).2 hR H locs ls' hv' hP hD hS)
theorem q_sub (lv' : List (Nat × Value)) (ks : List Nat) (hl : lv_pick lv ks = lv') (K : G p l e R s m args below meth c Q nL D cl ca ad shs A res pc lv' st σ t) : G p l e R s m args below meth c Q nL D cl ca ad shs A res pc lv st σ t :=
  fun h hR H locs ls hv hP hD hS => K h hR H locs ls (lv_sub hv ks hl) hP hD hS
theorem q_iconst (X : Cx p s m args c cc nL own Ts D cl ca) {n : Int} (d : decode cc pc = .ok (.iconst n, 1)) (K : G p l e R s m args below meth c Q nL D cl ca ad shs A res (pc + 1) lv (.int (oi n) :: st) σ t) : G p l e R s m args below meth c Q nL D cl ca ad shs A res pc lv st σ t :=
  fun h hR H locs ls hv hP hD hS => lv_iconst X.1 X.2.1 d rfl (K h hR H locs ls hv hP hD hS)
theorem q_bipush (X : Cx p s m args c cc nL own Ts D cl ca) {n : Int} (d : decode cc pc = .ok (.bipush n, 2)) (hn : (Int8.ofInt n).toInt32 = oi n) (K : G p l e R s m args below meth c Q nL D cl ca ad shs A res (pc + 2) lv (.int (oi n) :: st) σ t) : G p l e R s m args below meth c Q nL D cl ca ad shs A res pc lv st σ t :=
  fun h hR H locs ls hv hP hD hS => lv_bipush X.1 X.2.1 d hn (K h hR H locs ls hv hP hD hS)
theorem q_sipush (X : Cx p s m args c cc nL own Ts D cl ca) {n : Int} (d : decode cc pc = .ok (.sipush n, 3)) (hn : (Int16.ofInt n).toInt32 = oi n) (K : G p l e R s m args below meth c Q nL D cl ca ad shs A res (pc + 3) lv (.int (oi n) :: st) σ t) : G p l e R s m args below meth c Q nL D cl ca ad shs A res pc lv st σ t :=
  fun h hR H locs ls hv hP hD hS => lv_sipush X.1 X.2.1 d hn (K h hR H locs ls hv hP hD hS)
theorem q_lconst (X : Cx p s m args c cc nL own Ts D cl ca) {n : Fin 2} (v : Int64) (d : decode cc pc = .ok (.lconst n, 1)) (hn : Int64.ofNat (n : Nat) = v) (K : G p l e R s m args below meth c Q nL D cl ca ad shs A res (pc + 1) lv (.long v :: st) σ t) : G p l e R s m args below meth c Q nL D cl ca ad shs A res pc lv st σ t :=
  fun h hR H locs ls hv hP hD hS => lv_lconst X.1 X.2.1 d hn (K h hR H locs ls hv hP hD hS)
theorem q_ldc (X : Cx p s m args c cc nL own Ts D cl ca) {i : Nat} (v : Int) (d : decode cc pc = .ok (.ldc i, 2)) (hw : Cond.constant own i (oi v) ∈ Ts) (K : G p l e R s m args below meth c Q nL D cl ca ad shs A res (pc + 2) lv (.int (oi v) :: st) σ t) : G p l e R s m args below meth c Q nL D cl ca ad shs A res pc lv st σ t :=
  fun h hR H locs ls hv hP hD hS => lv_ldc X.1 X.2.1 X.2.2.2.1 (X.2.2.2.2.1 _ hw) d (K h hR H locs ls hv hP hD hS)
theorem q_ldc2 (X : Cx p s m args c cc nL own Ts D cl ca) {i : Nat} (v : Int64) (d : decode cc pc = .ok (.ldc2_w i, 3)) (hw : Cond.constantLong own i v ∈ Ts) (K : G p l e R s m args below meth c Q nL D cl ca ad shs A res (pc + 3) lv (.long v :: st) σ t) : G p l e R s m args below meth c Q nL D cl ca ad shs A res pc lv st σ t :=
  fun h hR H locs ls hv hP hD hS => lv_ldc2 X.1 X.2.1 X.2.2.2.1 (X.2.2.2.2.1 _ hw) d (K h hR H locs ls hv hP hD hS)
theorem q_dup (X : Cx p s m args c cc nL own Ts D cl ca) {v : Value} (d : decode cc pc = .ok (.dup, 1)) (hv1 : v.category = 1) (K : G p l e R s m args below meth c Q nL D cl ca ad shs A res (pc + 1) lv (v :: v :: st) σ t) : G p l e R s m args below meth c Q nL D cl ca ad shs A res pc lv (v :: st) σ t :=
  fun h hR H locs ls hv hP hD hS => lv_dup X.1 X.2.1 d hv1 (K h hR H locs ls hv hP hD hS)
theorem q_pop (X : Cx p s m args c cc nL own Ts D cl ca) {v : Value} (d : decode cc pc = .ok (.pop, 1)) (hv1 : v.category = 1) (K : G p l e R s m args below meth c Q nL D cl ca ad shs A res (pc + 1) lv st σ t) : G p l e R s m args below meth c Q nL D cl ca ad shs A res pc lv (v :: st) σ t :=
  fun h hR H locs ls hv hP hD hS => lv_pop X.1 X.2.1 d hv1 (K h hR H locs ls hv hP hD hS)
theorem q_iadd (X : Cx p s m args c cc nL own Ts D cl ca) {x y : Int} (d : decode cc pc = .ok (.iadd, 1)) (K : G p l e R s m args below meth c Q nL D cl ca ad shs A res (pc + 1) lv (.int (oi (x + y)) :: st) σ t) : G p l e R s m args below meth c Q nL D cl ca ad shs A res pc lv (.int (oi y) :: .int (oi x) :: st) σ t :=
  fun h hR H locs ls hv hP hD hS => lv_iadd X.1 X.2.1 d (by rw [oi_add]; exact K h hR H locs ls hv hP hD hS)
theorem q_isub (X : Cx p s m args c cc nL own Ts D cl ca) {x y : Int} (d : decode cc pc = .ok (.isub, 1)) (K : G p l e R s m args below meth c Q nL D cl ca ad shs A res (pc + 1) lv (.int (oi (x - y)) :: st) σ t) : G p l e R s m args below meth c Q nL D cl ca ad shs A res pc lv (.int (oi y) :: .int (oi x) :: st) σ t :=
  fun h hR H locs ls hv hP hD hS => lv_isub X.1 X.2.1 d (by rw [oi_sub]; exact K h hR H locs ls hv hP hD hS)
theorem q_imul (X : Cx p s m args c cc nL own Ts D cl ca) {x y : Int} (d : decode cc pc = .ok (.imul, 1)) (K : G p l e R s m args below meth c Q nL D cl ca ad shs A res (pc + 1) lv (.int (oi (x * y)) :: st) σ t) : G p l e R s m args below meth c Q nL D cl ca ad shs A res pc lv (.int (oi y) :: .int (oi x) :: st) σ t :=
  fun h hR H locs ls hv hP hD hS => lv_imul X.1 X.2.1 d (by rw [oi_mul]; exact K h hR H locs ls hv hP hD hS)
theorem q_iand (X : Cx p s m args c cc nL own Ts D cl ca) {x y : Int} (d : decode cc pc = .ok (.iand, 1)) (K : G p l e R s m args below meth c Q nL D cl ca ad shs A res (pc + 1) lv (.int (oi (iAnd x y)) :: st) σ t) : G p l e R s m args below meth c Q nL D cl ca ad shs A res pc lv (.int (oi y) :: .int (oi x) :: st) σ t :=
  fun h hR H locs ls hv hP hD hS => lv_iand X.1 X.2.1 d (by have k := K h hR H locs ls hv hP hD hS; rw [iAnd, oi_of] at k; exact k)
theorem q_ior (X : Cx p s m args c cc nL own Ts D cl ca) {x y : Int} (d : decode cc pc = .ok (.ior, 1)) (K : G p l e R s m args below meth c Q nL D cl ca ad shs A res (pc + 1) lv (.int (oi (iOr x y)) :: st) σ t) : G p l e R s m args below meth c Q nL D cl ca ad shs A res pc lv (.int (oi y) :: .int (oi x) :: st) σ t :=
  fun h hR H locs ls hv hP hD hS => lv_ior X.1 X.2.1 d (by have k := K h hR H locs ls hv hP hD hS; rw [iOr, oi_of] at k; exact k)
theorem q_ishl (X : Cx p s m args c cc nL own Ts D cl ca) {x y : Int} (d : decode cc pc = .ok (.ishl, 1)) (K : G p l e R s m args below meth c Q nL D cl ca ad shs A res (pc + 1) lv (.int (oi (iShl x y)) :: st) σ t) : G p l e R s m args below meth c Q nL D cl ca ad shs A res pc lv (.int (oi y) :: .int (oi x) :: st) σ t :=
  fun h hR H locs ls hv hP hD hS => lv_ishl X.1 X.2.1 d (by have k := K h hR H locs ls hv hP hD hS; rw [iShl, oi_of] at k; exact k)
theorem q_ishr (X : Cx p s m args c cc nL own Ts D cl ca) {x y : Int} (d : decode cc pc = .ok (.ishr, 1)) (K : G p l e R s m args below meth c Q nL D cl ca ad shs A res (pc + 1) lv (.int (oi (iShr x y)) :: st) σ t) : G p l e R s m args below meth c Q nL D cl ca ad shs A res pc lv (.int (oi y) :: .int (oi x) :: st) σ t :=
  fun h hR H locs ls hv hP hD hS => lv_ishr X.1 X.2.1 d (by have k := K h hR H locs ls hv hP hD hS; rw [iShr, oi_of] at k; exact k)
theorem q_idiv (X : Cx p s m args c cc nL own Ts D cl ca) {x y : Int} (d : decode cc pc = .ok (.idiv, 1)) (hy : ¬ oi y = 0) (K : G p l e R s m args below meth c Q nL D cl ca ad shs A res (pc + 1) lv (.int (oi (iDiv x y)) :: st) σ t) : G p l e R s m args below meth c Q nL D cl ca ad shs A res pc lv (.int (oi y) :: .int (oi x) :: st) σ t :=
  fun h hR H locs ls hv hP hD hS => lv_idiv X.1 X.2.1 d hy (by have k := K h hR H locs ls hv hP hD hS; rw [iDiv, oi_of] at k; exact k)
theorem q_irem (X : Cx p s m args c cc nL own Ts D cl ca) {x y : Int} (d : decode cc pc = .ok (.irem, 1)) (hy : ¬ oi y = 0) (K : G p l e R s m args below meth c Q nL D cl ca ad shs A res (pc + 1) lv (.int (oi (iRem x y)) :: st) σ t) : G p l e R s m args below meth c Q nL D cl ca ad shs A res pc lv (.int (oi y) :: .int (oi x) :: st) σ t :=
  fun h hR H locs ls hv hP hD hS => lv_irem X.1 X.2.1 d hy (by have k := K h hR H locs ls hv hP hD hS; rw [iRem, oi_of] at k; exact k)
theorem q_land (X : Cx p s m args c cc nL own Ts D cl ca) {x y : Int64} (d : decode cc pc = .ok (.land, 1)) (K : G p l e R s m args below meth c Q nL D cl ca ad shs A res (pc + 1) lv (.long (x &&& y) :: st) σ t) : G p l e R s m args below meth c Q nL D cl ca ad shs A res pc lv (.long y :: .long x :: st) σ t :=
  fun h hR H locs ls hv hP hD hS => lv_land X.1 X.2.1 d (K h hR H locs ls hv hP hD hS)
theorem q_lor (X : Cx p s m args c cc nL own Ts D cl ca) {x y : Int64} (d : decode cc pc = .ok (.lor, 1)) (K : G p l e R s m args below meth c Q nL D cl ca ad shs A res (pc + 1) lv (.long (x ||| y) :: st) σ t) : G p l e R s m args below meth c Q nL D cl ca ad shs A res pc lv (.long y :: .long x :: st) σ t :=
  fun h hR H locs ls hv hP hD hS => lv_lor X.1 X.2.1 d (K h hR H locs ls hv hP hD hS)
theorem q_lxor (X : Cx p s m args c cc nL own Ts D cl ca) {x y : Int64} (d : decode cc pc = .ok (.lxor, 1)) (K : G p l e R s m args below meth c Q nL D cl ca ad shs A res (pc + 1) lv (.long (x ^^^ y) :: st) σ t) : G p l e R s m args below meth c Q nL D cl ca ad shs A res pc lv (.long y :: .long x :: st) σ t :=
  fun h hR H locs ls hv hP hD hS => lv_lxor X.1 X.2.1 d (K h hR H locs ls hv hP hD hS)
theorem q_lshl (X : Cx p s m args c cc nL own Ts D cl ca) {x : Int64} {y : Int} (d : decode cc pc = .ok (.lshl, 1)) (K : G p l e R s m args below meth c Q nL D cl ca ad shs A res (pc + 1) lv (.long (lShl x y) :: st) σ t) : G p l e R s m args below meth c Q nL D cl ca ad shs A res pc lv (.int (oi y) :: .long x :: st) σ t :=
  fun h hR H locs ls hv hP hD hS => lv_lshl X.1 X.2.1 d rfl (K h hR H locs ls hv hP hD hS)
theorem q_lshr (X : Cx p s m args c cc nL own Ts D cl ca) {x : Int64} {y : Int} (d : decode cc pc = .ok (.lshr, 1)) (K : G p l e R s m args below meth c Q nL D cl ca ad shs A res (pc + 1) lv (.long (lShr x y) :: st) σ t) : G p l e R s m args below meth c Q nL D cl ca ad shs A res pc lv (.int (oi y) :: .long x :: st) σ t :=
  fun h hR H locs ls hv hP hD hS => lv_lshr X.1 X.2.1 d rfl (K h hR H locs ls hv hP hD hS)
theorem q_lushr (X : Cx p s m args c cc nL own Ts D cl ca) {x : Int64} {y : Int} (d : decode cc pc = .ok (.lushr, 1)) (K : G p l e R s m args below meth c Q nL D cl ca ad shs A res (pc + 1) lv (.long (lUsr x y) :: st) σ t) : G p l e R s m args below meth c Q nL D cl ca ad shs A res pc lv (.int (oi y) :: .long x :: st) σ t :=
  fun h hR H locs ls hv hP hD hS => lv_lushr X.1 X.2.1 d rfl (K h hR H locs ls hv hP hD hS)
theorem q_i2l (X : Cx p s m args c cc nL own Ts D cl ca) {x : Int} (d : decode cc pc = .ok (.i2l, 1)) (K : G p l e R s m args below meth c Q nL D cl ca ad shs A res (pc + 1) lv (.long (i2L x) :: st) σ t) : G p l e R s m args below meth c Q nL D cl ca ad shs A res pc lv (.int (oi x) :: st) σ t :=
  fun h hR H locs ls hv hP hD hS => lv_i2l X.1 X.2.1 d rfl (K h hR H locs ls hv hP hD hS)
/-! a number's range is asked for -/
theorem q_ck {P : Prop} [Decidable P] (K : P → G p l e R s m args below meth c Q nL D cl ca ad shs A res pc lv st σ t) : G p l e R s m args below meth c Q nL D cl ca ad shs A res pc lv st σ (ck P t) :=
  fun h hR H locs ls hv hP hD hS => K (ck_some h).1 (ck_some h).2 hR H locs ls hv hP hD hS
theorem ite_l {α : Type} {P : Prop} [Decidable P] {a b : Option α} {r : α} (h : (if P then a else b) = some r) (hc : P) : a = some r := by rw [if_pos hc] at h; exact h
theorem ite_r {α : Type} {P : Prop} [Decidable P] {a b : Option α} {r : α} (h : (if P then a else b) = some r) (hc : ¬ P) : b = some r := by rw [if_neg hc] at h; exact h
theorem q_goto (X : Cx p s m args c cc nL own Ts D cl ca) {off : Int} (tgt : Nat) (d : decode cc pc = .ok (.goto off, 3)) (ht : (pc : Int) + off = (tgt : Int)) (K : G p l e R s m args below meth c Q nL D cl ca ad shs A res tgt lv st σ t) : G p l e R s m args below meth c Q nL D cl ca ad shs A res pc lv st σ t :=
  fun h hR H locs ls hv hP hD hS => lv_goto X.1 X.2.1 d ht (K h hR H locs ls hv hP hD hS)
end RULES
end
section
/-! THE RULES, the second part -/
section RULES2
variable {p : Program} {l : Launch} {e : Env} {R : Room} {s : State} {m : MethodId} {args : Array Value} {below : List Frame} {meth : Method} {c : Code} {Q : State → Prop} {nL : Nat} {D : va_G} {cl : List vw_C} {ca : Nat → ClassId} {ad : Nat → Nat} {shs : List Sh} {A : Nat → Prop} {ρ : Type} {res : ρ}
variable {cc : ByteArray} {own : String} {Ts : List Cond} {pc : Nat} {lv : List (Nat × Value)} {st : List Value} {σ : Mm} {t t1 t2 : Option ρ}
theorem oi_0 : oi 0 = 0 := by decide
theorem inR_0 : inR 0 := by decide
theorem oi_eq0 {x : Int} (hx : inR x) : oi x = 0 ↔ x = 0 := by have h := oi_eq hx inR_0; rwa [oi_0] at h
theorem oi_lt0 {x : Int} (hx : inR x) : oi x < 0 ↔ x < 0 := by have h := oi_lt hx inR_0; rwa [oi_0] at h
theorem oi_gt0 {x : Int} (hx : inR x) : 0 < oi x ↔ 0 < x := by have h := oi_lt inR_0 hx; rwa [oi_0] at h
theorem oi_le0 {x : Int} (hx : inR x) : oi x ≤ 0 ↔ x ≤ 0 := by have h := oi_le hx inR_0; rwa [oi_0] at h
theorem oi_ge0 {x : Int} (hx : inR x) : 0 ≤ oi x ↔ 0 ≤ x := by have h := oi_le inR_0 hx; rwa [oi_0] at h
theorem q_dup2 (X : Cx p s m args c cc nL own Ts D cl ca) {v u : Value} (d : decode cc pc = .ok (.dup2, 1)) (hv1 : v.category = 1) (hu1 : u.category = 1) (K : G p l e R s m args below meth c Q nL D cl ca ad shs A res (pc + 1) lv (v :: u :: v :: u :: st) σ t) : G p l e R s m args below meth c Q nL D cl ca ad shs A res pc lv (v :: u :: st) σ t :=
  fun h hR H locs ls hv hP hD hS => lv_dup2_11 X.1 X.2.1 d hv1 hu1 (K h hR H locs ls hv hP hD hS)
theorem q_ite {P : Prop} [Decidable P] (K1 : P → G p l e R s m args below meth c Q nL D cl ca ad shs A res pc lv st σ t1) (K2 : ¬ P → G p l e R s m args below meth c Q nL D cl ca ad shs A res pc lv st σ t2) : G p l e R s m args below meth c Q nL D cl ca ad shs A res pc lv st σ (if P then t1 else t2) := by
  intro h hR H locs ls hv hP hD hS
  by_cases hc : P
  · exact K1 hc (ite_l h hc) hR H locs ls hv hP hD hS
  · exact K2 hc (ite_r h hc) hR H locs ls hv hP hD hS
theorem q_icmp_eq (X : Cx p s m args c cc nL own Ts D cl ca) {x y : Int} (hx : inR x) (hy : inR y) {off : Int} (tgt : Nat) (d : decode cc pc = .ok (.if_icmp .eq off, 3)) (ht : (pc : Int) + off = (tgt : Int)) (KP : x = y → G p l e R s m args below meth c Q nL D cl ca ad shs A res tgt lv st σ t1) (KN : ¬ x = y → G p l e R s m args below meth c Q nL D cl ca ad shs A res (pc + 3) lv st σ t2) : G p l e R s m args below meth c Q nL D cl ca ad shs A res pc lv (.int (oi y) :: .int (oi x) :: st) σ (if x = y then t1 else t2) :=
  fun h hR H locs ls hv hP hD hS => lv_icmp_eq X.1 X.2.1 d ht (fun hc => KP ((oi_eq hx hy).mp hc) (ite_l h ((oi_eq hx hy).mp hc)) hR H locs ls hv hP hD hS) (fun hc => KN (fun z => hc ((oi_eq hx hy).mpr z)) (ite_r h (fun z => hc ((oi_eq hx hy).mpr z))) hR H locs ls hv hP hD hS)
theorem q_if_eq (X : Cx p s m args c cc nL own Ts D cl ca) {x : Int} (hx : inR x) {off : Int} (tgt : Nat) (d : decode cc pc = .ok (.ifCond .eq off, 3)) (ht : (pc : Int) + off = (tgt : Int)) (KP : x = 0 → G p l e R s m args below meth c Q nL D cl ca ad shs A res tgt lv st σ t1) (KN : ¬ x = 0 → G p l e R s m args below meth c Q nL D cl ca ad shs A res (pc + 3) lv st σ t2) : G p l e R s m args below meth c Q nL D cl ca ad shs A res pc lv (.int (oi x) :: st) σ (if x = 0 then t1 else t2) :=
  fun h hR H locs ls hv hP hD hS => lv_if_eq X.1 X.2.1 d ht (fun hc => KP ((oi_eq0 hx).mp hc) (ite_l h ((oi_eq0 hx).mp hc)) hR H locs ls hv hP hD hS) (fun hc => KN (fun z => hc ((oi_eq0 hx).mpr z)) (ite_r h (fun z => hc ((oi_eq0 hx).mpr z))) hR H locs ls hv hP hD hS)
theorem q_icmp_ne (X : Cx p s m args c cc nL own Ts D cl ca) {x y : Int} (hx : inR x) (hy : inR y) {off : Int} (tgt : Nat) (d : decode cc pc = .ok (.if_icmp .ne off, 3)) (ht : (pc : Int) + off = (tgt : Int)) (KP : x = y → G p l e R s m args below meth c Q nL D cl ca ad shs A res (pc + 3) lv st σ t1) (KN : ¬ x = y → G p l e R s m args below meth c Q nL D cl ca ad shs A res tgt lv st σ t2) : G p l e R s m args below meth c Q nL D cl ca ad shs A res pc lv (.int (oi y) :: .int (oi x) :: st) σ (if x = y then t1 else t2) :=
  fun h hR H locs ls hv hP hD hS => lv_icmp_ne X.1 X.2.1 d ht (fun hc => KN (fun z => hc ((oi_eq hx hy).mpr z)) (ite_r h (fun z => hc ((oi_eq hx hy).mpr z))) hR H locs ls hv hP hD hS) (fun hc => KP ((oi_eq hx hy).mp hc) (ite_l h ((oi_eq hx hy).mp hc)) hR H locs ls hv hP hD hS)
theorem q_if_ne (X : Cx p s m args c cc nL own Ts D cl ca) {x : Int} (hx : inR x) {off : Int} (tgt : Nat) (d : decode cc pc = .ok (.ifCond .ne off, 3)) (ht : (pc : Int) + off = (tgt : Int)) (KP : x = 0 → G p l e R s m args below meth c Q nL D cl ca ad shs A res (pc + 3) lv st σ t1) (KN : ¬ x = 0 → G p l e R s m args below meth c Q nL D cl ca ad shs A res tgt lv st σ t2) : G p l e R s m args below meth c Q nL D cl ca ad shs A res pc lv (.int (oi x) :: st) σ (if x = 0 then t1 else t2) :=
  fun h hR H locs ls hv hP hD hS => lv_if_ne X.1 X.2.1 d ht (fun hc => KN (fun z => hc ((oi_eq0 hx).mpr z)) (ite_r h (fun z => hc ((oi_eq0 hx).mpr z))) hR H locs ls hv hP hD hS) (fun hc => KP ((oi_eq0 hx).mp hc) (ite_l h ((oi_eq0 hx).mp hc)) hR H locs ls hv hP hD hS)
theorem q_icmp_lt (X : Cx p s m args c cc nL own Ts D cl ca) {x y : Int} (hx : inR x) (hy : inR y) {off : Int} (tgt : Nat) (d : decode cc pc = .ok (.if_icmp .lt off, 3)) (ht : (pc : Int) + off = (tgt : Int)) (KP : x < y → G p l e R s m args below meth c Q nL D cl ca ad shs A res tgt lv st σ t1) (KN : ¬ x < y → G p l e R s m args below meth c Q nL D cl ca ad shs A res (pc + 3) lv st σ t2) : G p l e R s m args below meth c Q nL D cl ca ad shs A res pc lv (.int (oi y) :: .int (oi x) :: st) σ (if x < y then t1 else t2) :=
  fun h hR H locs ls hv hP hD hS => lv_icmp_lt X.1 X.2.1 d ht (fun hc => KP ((oi_lt hx hy).mp hc) (ite_l h ((oi_lt hx hy).mp hc)) hR H locs ls hv hP hD hS) (fun hc => KN (fun z => hc ((oi_lt hx hy).mpr z)) (ite_r h (fun z => hc ((oi_lt hx hy).mpr z))) hR H locs ls hv hP hD hS)
theorem q_if_lt (X : Cx p s m args c cc nL own Ts D cl ca) {x : Int} (hx : inR x) {off : Int} (tgt : Nat) (d : decode cc pc = .ok (.ifCond .lt off, 3)) (ht : (pc : Int) + off = (tgt : Int)) (KP : x < 0 → G p l e R s m args below meth c Q nL D cl ca ad shs A res tgt lv st σ t1) (KN : ¬ x < 0 → G p l e R s m args below meth c Q nL D cl ca ad shs A res (pc + 3) lv st σ t2) : G p l e R s m args below meth c Q nL D cl ca ad shs A res pc lv (.int (oi x) :: st) σ (if x < 0 then t1 else t2) :=
  fun h hR H locs ls hv hP hD hS => lv_if_lt X.1 X.2.1 d ht (fun hc => KP ((oi_lt0 hx).mp hc) (ite_l h ((oi_lt0 hx).mp hc)) hR H locs ls hv hP hD hS) (fun hc => KN (fun z => hc ((oi_lt0 hx).mpr z)) (ite_r h (fun z => hc ((oi_lt0 hx).mpr z))) hR H locs ls hv hP hD hS)
theorem q_icmp_ge (X : Cx p s m args c cc nL own Ts D cl ca) {x y : Int} (hx : inR x) (hy : inR y) {off : Int} (tgt : Nat) (d : decode cc pc = .ok (.if_icmp .ge off, 3)) (ht : (pc : Int) + off = (tgt : Int)) (KP : y ≤ x → G p l e R s m args below meth c Q nL D cl ca ad shs A res tgt lv st σ t1) (KN : ¬ y ≤ x → G p l e R s m args below meth c Q nL D cl ca ad shs A res (pc + 3) lv st σ t2) : G p l e R s m args below meth c Q nL D cl ca ad shs A res pc lv (.int (oi y) :: .int (oi x) :: st) σ (if y ≤ x then t1 else t2) :=
  fun h hR H locs ls hv hP hD hS => lv_icmp_ge X.1 X.2.1 d ht (fun hc => KP ((oi_le hy hx).mp hc) (ite_l h ((oi_le hy hx).mp hc)) hR H locs ls hv hP hD hS) (fun hc => KN (fun z => hc ((oi_le hy hx).mpr z)) (ite_r h (fun z => hc ((oi_le hy hx).mpr z))) hR H locs ls hv hP hD hS)
theorem q_if_ge (X : Cx p s m args c cc nL own Ts D cl ca) {x : Int} (hx : inR x) {off : Int} (tgt : Nat) (d : decode cc pc = .ok (.ifCond .ge off, 3)) (ht : (pc : Int) + off = (tgt : Int)) (KP : 0 ≤ x → G p l e R s m args below meth c Q nL D cl ca ad shs A res tgt lv st σ t1) (KN : ¬ 0 ≤ x → G p l e R s m args below meth c Q nL D cl ca ad shs A res (pc + 3) lv st σ t2) : G p l e R s m args below meth c Q nL D cl ca ad shs A res pc lv (.int (oi x) :: st) σ (if 0 ≤ x then t1 else t2) :=
  fun h hR H locs ls hv hP hD hS => lv_if_ge X.1 X.2.1 d ht (fun hc => KP ((oi_ge0 hx).mp hc) (ite_l h ((oi_ge0 hx).mp hc)) hR H locs ls hv hP hD hS) (fun hc => KN (fun z => hc ((oi_ge0 hx).mpr z)) (ite_r h (fun z => hc ((oi_ge0 hx).mpr z))) hR H locs ls hv hP hD hS)
theorem q_icmp_gt (X : Cx p s m args c cc nL own Ts D cl ca) {x y : Int} (hx : inR x) (hy : inR y) {off : Int} (tgt : Nat) (d : decode cc pc = .ok (.if_icmp .gt off, 3)) (ht : (pc : Int) + off = (tgt : Int)) (KP : y < x → G p l e R s m args below meth c Q nL D cl ca ad shs A res tgt lv st σ t1) (KN : ¬ y < x → G p l e R s m args below meth c Q nL D cl ca ad shs A res (pc + 3) lv st σ t2) : G p l e R s m args below meth c Q nL D cl ca ad shs A res pc lv (.int (oi y) :: .int (oi x) :: st) σ (if y < x then t1 else t2) :=
  fun h hR H locs ls hv hP hD hS => lv_icmp_gt X.1 X.2.1 d ht (fun hc => KP ((oi_lt hy hx).mp hc) (ite_l h ((oi_lt hy hx).mp hc)) hR H locs ls hv hP hD hS) (fun hc => KN (fun z => hc ((oi_lt hy hx).mpr z)) (ite_r h (fun z => hc ((oi_lt hy hx).mpr z))) hR H locs ls hv hP hD hS)
theorem q_if_gt (X : Cx p s m args c cc nL own Ts D cl ca) {x : Int} (hx : inR x) {off : Int} (tgt : Nat) (d : decode cc pc = .ok (.ifCond .gt off, 3)) (ht : (pc : Int) + off = (tgt : Int)) (KP : 0 < x → G p l e R s m args below meth c Q nL D cl ca ad shs A res tgt lv st σ t1) (KN : ¬ 0 < x → G p l e R s m args below meth c Q nL D cl ca ad shs A res (pc + 3) lv st σ t2) : G p l e R s m args below meth c Q nL D cl ca ad shs A res pc lv (.int (oi x) :: st) σ (if 0 < x then t1 else t2) :=
  fun h hR H locs ls hv hP hD hS => lv_if_gt X.1 X.2.1 d ht (fun hc => KP ((oi_gt0 hx).mp hc) (ite_l h ((oi_gt0 hx).mp hc)) hR H locs ls hv hP hD hS) (fun hc => KN (fun z => hc ((oi_gt0 hx).mpr z)) (ite_r h (fun z => hc ((oi_gt0 hx).mpr z))) hR H locs ls hv hP hD hS)
theorem q_icmp_le (X : Cx p s m args c cc nL own Ts D cl ca) {x y : Int} (hx : inR x) (hy : inR y) {off : Int} (tgt : Nat) (d : decode cc pc = .ok (.if_icmp .le off, 3)) (ht : (pc : Int) + off = (tgt : Int)) (KP : x ≤ y → G p l e R s m args below meth c Q nL D cl ca ad shs A res tgt lv st σ t1) (KN : ¬ x ≤ y → G p l e R s m args below meth c Q nL D cl ca ad shs A res (pc + 3) lv st σ t2) : G p l e R s m args below meth c Q nL D cl ca ad shs A res pc lv (.int (oi y) :: .int (oi x) :: st) σ (if x ≤ y then t1 else t2) :=
  fun h hR H locs ls hv hP hD hS => lv_icmp_le X.1 X.2.1 d ht (fun hc => KP ((oi_le hx hy).mp hc) (ite_l h ((oi_le hx hy).mp hc)) hR H locs ls hv hP hD hS) (fun hc => KN (fun z => hc ((oi_le hx hy).mpr z)) (ite_r h (fun z => hc ((oi_le hx hy).mpr z))) hR H locs ls hv hP hD hS)
theorem q_if_le (X : Cx p s m args c cc nL own Ts D cl ca) {x : Int} (hx : inR x) {off : Int} (tgt : Nat) (d : decode cc pc = .ok (.ifCond .le off, 3)) (ht : (pc : Int) + off = (tgt : Int)) (KP : x ≤ 0 → G p l e R s m args below meth c Q nL D cl ca ad shs A res tgt lv st σ t1) (KN : ¬ x ≤ 0 → G p l e R s m args below meth c Q nL D cl ca ad shs A res (pc + 3) lv st σ t2) : G p l e R s m args below meth c Q nL D cl ca ad shs A res pc lv (.int (oi x) :: st) σ (if x ≤ 0 then t1 else t2) :=
  fun h hR H locs ls hv hP hD hS => lv_if_le X.1 X.2.1 d ht (fun hc => KP ((oi_le0 hx).mp hc) (ite_l h ((oi_le0 hx).mp hc)) hR H locs ls hv hP hD hS) (fun hc => KN (fun z => hc ((oi_le0 hx).mpr z)) (ite_r h (fun z => hc ((oi_le0 hx).mpr z))) hR H locs ls hv hP hD hS)
theorem q_lcmp_eq (X : Cx p s m args c cc nL own Ts D cl ca) {x y : Int64} {off : Int} (tgt : Nat) (d : decode cc pc = .ok (.lcmp, 1)) (d2 : decode cc (pc + 1) = .ok (.ifCond .eq off, 3)) (ht : ((pc + 1 : Nat) : Int) + off = (tgt : Int)) (KP : x = y → G p l e R s m args below meth c Q nL D cl ca ad shs A res tgt lv st σ t1) (KN : ¬ x = y → G p l e R s m args below meth c Q nL D cl ca ad shs A res (pc + 1 + 3) lv st σ t2) : G p l e R s m args below meth c Q nL D cl ca ad shs A res pc lv (.long y :: .long x :: st) σ (if x = y then t1 else t2) :=
  fun h hR H locs ls hv hP hD hS => W.lcmp X.1 X.2.1 d (lv_if_eq X.1 X.2.1 d2 ht (fun hc => KP ((lg_cmp_eq x y).mp hc) (ite_l h ((lg_cmp_eq x y).mp hc)) hR H locs ls hv hP hD hS) (fun hc => KN (fun z => hc ((lg_cmp_eq x y).mpr z)) (ite_r h (fun z => hc ((lg_cmp_eq x y).mpr z))) hR H locs ls hv hP hD hS))
theorem q_lcmp_ne (X : Cx p s m args c cc nL own Ts D cl ca) {x y : Int64} {off : Int} (tgt : Nat) (d : decode cc pc = .ok (.lcmp, 1)) (d2 : decode cc (pc + 1) = .ok (.ifCond .ne off, 3)) (ht : ((pc + 1 : Nat) : Int) + off = (tgt : Int)) (KP : x = y → G p l e R s m args below meth c Q nL D cl ca ad shs A res (pc + 1 + 3) lv st σ t1) (KN : ¬ x = y → G p l e R s m args below meth c Q nL D cl ca ad shs A res tgt lv st σ t2) : G p l e R s m args below meth c Q nL D cl ca ad shs A res pc lv (.long y :: .long x :: st) σ (if x = y then t1 else t2) :=
  fun h hR H locs ls hv hP hD hS => W.lcmp X.1 X.2.1 d (lv_if_ne X.1 X.2.1 d2 ht (fun hc => KN (fun z => hc ((lg_cmp_eq x y).mpr z)) (ite_r h (fun z => hc ((lg_cmp_eq x y).mpr z))) hR H locs ls hv hP hD hS) (fun hc => KP ((lg_cmp_eq x y).mp hc) (ite_l h ((lg_cmp_eq x y).mp hc)) hR H locs ls hv hP hD hS))
theorem q_tswIn (X : Cx p s m args c cc nL own Ts D cl ca) {x : Int} (hx : inR x) {dflt lo hi : Int} {offs : Array Int} {len : Nat} (i : Int) (off : Int) (tgt : Nat) (hi1 : x = i) (d : decode cc pc = .ok (.tableswitch dflt lo hi offs, len)) (hi2 : lo ≤ i ∧ i ≤ hi) (ho : offs[(i - lo).toNat]? = some off) (ht : (pc : Int) + off = (tgt : Int)) (K : G p l e R s m args below meth c Q nL D cl ca ad shs A res tgt lv st σ t) : G p l e R s m args below meth c Q nL D cl ca ad shs A res pc lv (.int (oi x) :: st) σ t :=
  fun h hR H locs ls hv hP hD hS => lv_tableIn X.1 X.2.1 d (by rw [oi_toInt hx, hi1]; omega) (by rw [oi_toInt hx, hi1]; omega) (by rw [oi_toInt hx, hi1]; exact ho) ht (K h hR H locs ls hv hP hD hS)
theorem q_tswOut (X : Cx p s m args c cc nL own Ts D cl ca) {x : Int} (hx : inR x) {dflt lo hi : Int} {offs : Array Int} {len : Nat} (tgt : Nat) (hi1 : x < lo ∨ hi < x) (d : decode cc pc = .ok (.tableswitch dflt lo hi offs, len)) (ht : (pc : Int) + dflt = (tgt : Int)) (K : G p l e R s m args below meth c Q nL D cl ca ad shs A res tgt lv st σ t) : G p l e R s m args below meth c Q nL D cl ca ad shs A res pc lv (.int (oi x) :: st) σ t :=
  fun h hR H locs ls hv hP hD hS => lv_tableOut X.1 X.2.1 d (by rw [oi_toInt hx]; exact hi1) ht (K h hR H locs ls hv hP hD hS)
theorem q_lsw (X : Cx p s m args c cc nL own Ts D cl ca) {x : Int} (hx : inR x) {dflt : Int} {ps : Array (Int × Int)} {len : Nat} (off : Int) (tgt : Nat) (d : decode cc pc = .ok (.lookupswitch dflt ps, len)) (hp : (ps.toList.zip (ps.toList.drop 1)).all (fun (a, next) => a.1 < next.1) = true) (ho : Op.lookupswitch.offset ps.toList dflt x = off) (ht : (pc : Int) + off = (tgt : Int)) (K : G p l e R s m args below meth c Q nL D cl ca ad shs A res tgt lv st σ t) : G p l e R s m args below meth c Q nL D cl ca ad shs A res pc lv (.int (oi x) :: st) σ t :=
  fun h hR H locs ls hv hP hD hS => lv_lookup X.1 X.2.1 d hp (by rw [oi_toInt hx]; exact ho) ht (K h hR H locs ls hv hP hD hS)
theorem q_iald (X : Cx p s m args c cc nL own Ts D cl ca) {k n : Nat} {fl : List (Nat × Nat)} {i : Int} (hs : shs[k]? = some (1, n, fl)) (hn : n < 2147483648) (d : decode cc pc = .ok (.iaload, 1)) (K : inR (σ.1 k i.toNat) → G p l e R s m args below meth c Q nL D cl ca ad shs A res (pc + 1) lv (.int (oi (σ.1 k i.toNat)) :: st) σ t) : G p l e R s m args below meth c Q nL D cl ca ad shs A res pc lv (.int (oi i) :: .ref (ad k) :: st) σ (ck (0 ≤ i ∧ i < (n : Int)) t) := by
  intro h hR H locs ls hv hP hD hS
  obtain ⟨h1, h2⟩ := ck_some h
  obtain ⟨h3, h4⟩ := oi_in h1 hn
  refine va_iald (n := n) (f := fun j => oi (σ.1 k j)) X.1 X.2.1 X.2.2.2.2.2 hP k 0 (wl_get hs) rfl h3 d ?_
  rw [h4]
  exact K (hR k _) h2 hR H locs ls hv hP hD hS
theorem q_zald (X : Cx p s m args c cc nL own Ts D cl ca) {k n : Nat} {fl : List (Nat × Nat)} {i : Int} (hs : shs[k]? = some (3, n, fl)) (hn : n < 2147483648) (d : decode cc pc = .ok (.baload, 1)) (K : inR (σ.1 k i.toNat) → G p l e R s m args below meth c Q nL D cl ca ad shs A res (pc + 1) lv (.int (oi (σ.1 k i.toNat)) :: st) σ t) : G p l e R s m args below meth c Q nL D cl ca ad shs A res pc lv (.int (oi i) :: .ref (ad k) :: st) σ (ck (0 ≤ i ∧ i < (n : Int)) t) := by
  intro h hR H locs ls hv hP hD hS
  obtain ⟨h1, h2⟩ := ck_some h
  obtain ⟨h3, h4⟩ := oi_in h1 hn
  refine va_zald (n := n) (f := fun j => oi (σ.1 k j)) X.1 X.2.1 X.2.2.2.2.2 hP k 2 (wl_get hs) rfl h3 d ?_
  rw [h4]
  exact K (hR k _) h2 hR H locs ls hv hP hD hS
theorem q_lald (X : Cx p s m args c cc nL own Ts D cl ca) {k n : Nat} {fl : List (Nat × Nat)} {i : Int} (hs : shs[k]? = some (2, n, fl)) (hn : n < 2147483648) (d : decode cc pc = .ok (.laload, 1)) (K : G p l e R s m args below meth c Q nL D cl ca ad shs A res (pc + 1) lv (.long (σ.2 k i.toNat) :: st) σ t) : G p l e R s m args below meth c Q nL D cl ca ad shs A res pc lv (.int (oi i) :: .ref (ad k) :: st) σ (ck (0 ≤ i ∧ i < (n : Int)) t) := by
  intro h hR H locs ls hv hP hD hS
  obtain ⟨h1, h2⟩ := ck_some h
  obtain ⟨h3, h4⟩ := oi_in h1 hn
  refine va_lald (n := n) (f := fun j => σ.2 k j) X.1 X.2.1 X.2.2.2.2.2 hP k 1 (wl_get hs) rfl h3 d ?_
  rw [h4]
  exact K h2 hR H locs ls hv hP hD hS
theorem q_iast (X : Cx p s m args c cc nL own Ts D cl ca) {k n : Nat} {fl : List (Nat × Nat)} {i v : Int} (hs : shs[k]? = some (1, n, fl)) (hn : n < 2147483648) (hv1 : inR v) (d : decode cc pc = .ok (.iastore, 1)) (K : G p l e R s m args below meth c Q nL D cl ca ad shs A res (pc + 1) lv st (stI σ k i.toNat v) t) : G p l e R s m args below meth c Q nL D cl ca ad shs A res pc lv (.int (oi v) :: .int (oi i) :: .ref (ad k) :: st) σ (ck (0 ≤ i ∧ i < (n : Int)) t) := by
  intro h hR H locs ls hv hP hD hS
  obtain ⟨h1, h2⟩ := ck_some h
  obtain ⟨h3, h4⟩ := oi_in h1 hn
  refine va_iast (n := n) (f := fun j => oi (σ.1 k j)) X.1 X.2.1 X.2.2.2.2.2 hP hD hS k 0 (wl_get hs) rfl h3 d (fun H1 locs1 hP1 hD1 hS1 => ?_)
  rw [h4, wl_stI_arr hs] at hP1 hD1
  exact K h2 (hR.stI hv1) H1 locs1 ls hv hP1 hD1 hS1
theorem q_last (X : Cx p s m args c cc nL own Ts D cl ca) {k n : Nat} {fl : List (Nat × Nat)} {i : Int} {v : Int64} (hs : shs[k]? = some (2, n, fl)) (hn : n < 2147483648) (d : decode cc pc = .ok (.lastore, 1)) (K : G p l e R s m args below meth c Q nL D cl ca ad shs A res (pc + 1) lv st (stL σ k i.toNat v) t) : G p l e R s m args below meth c Q nL D cl ca ad shs A res pc lv (.long v :: .int (oi i) :: .ref (ad k) :: st) σ (ck (0 ≤ i ∧ i < (n : Int)) t) := by
  intro h hR H locs ls hv hP hD hS
  obtain ⟨h1, h2⟩ := ck_some h
  obtain ⟨h3, h4⟩ := oi_in h1 hn
  refine va_last (n := n) (f := fun j => σ.2 k j) X.1 X.2.1 X.2.2.2.2.2 hP hD hS k 1 (wl_get hs) rfl h3 d (fun H1 locs1 hP1 hD1 hS1 => ?_)
  rw [h4, wl_stL_arr hs] at hP1 hD1
  exact K h2 hR.stL H1 locs1 ls hv hP1 hD1 hS1
theorem nar_z {v : Int} (h : v = 0 ∨ v = 1) : narrow .boolean (.int (oi v)) = .int (oi v) ∧ vp_nar .boolean (oi v) = oi v ∧ fits .boolean (.int (oi v)) = true := by
  rcases h with rfl | rfl <;> exact ⟨by decide, by decide, by decide⟩
theorem q_zast (X : Cx p s m args c cc nL own Ts D cl ca) {k n : Nat} {fl : List (Nat × Nat)} {i v : Int} (hs : shs[k]? = some (3, n, fl)) (hn : n < 2147483648) (hv0 : v = 0 ∨ v = 1) (d : decode cc pc = .ok (.bastore, 1)) (K : G p l e R s m args below meth c Q nL D cl ca ad shs A res (pc + 1) lv st (stI σ k i.toNat v) t) : G p l e R s m args below meth c Q nL D cl ca ad shs A res pc lv (.int (oi v) :: .int (oi i) :: .ref (ad k) :: st) σ (ck (0 ≤ i ∧ i < (n : Int)) t) := by
  intro h hR H locs ls hv hP hD hS
  obtain ⟨h1, h2⟩ := ck_some h
  obtain ⟨h3, h4⟩ := oi_in h1 hn
  refine va_zast (n := n) (f := fun j => oi (σ.1 k j)) X.1 X.2.1 X.2.2.2.2.2 hP hD hS k 2 (wl_get hs) rfl h3 d (fun H1 locs1 hP1 hD1 hS1 => ?_)
  rw [h4, (nar_z hv0).2.1, wl_stZ_arr hs] at hP1 hD1
  exact K h2 (hR.stI (by omega)) H1 locs1 ls hv hP1 hD1 hS1
theorem q_alen (X : Cx p s m args c cc nL own Ts D cl ca) {k n tg : Nat} {fl : List (Nat × Nat)} (hs : shs[k]? = some (tg, n, fl)) (ht : tg = 1 ∨ tg = 2 ∨ tg = 3) (d : decode cc pc = .ok (.arraylength, 1)) (K : G p l e R s m args below meth c Q nL D cl ca ad shs A res (pc + 1) lv (.int (oi (n : Int)) :: st) σ t) : G p l e R s m args below meth c Q nL D cl ca ad shs A res pc lv (.ref (ad k) :: st) σ t := by
  intro h hR H locs ls hv hP hD hS
  have hz : Int32.ofNat n = oi (n : Int) := Int32.ofInt_eq_ofNat.symm
  rcases ht with rfl | rfl | rfl
  · exact va_alen (x := (n, _)) X.1 X.2.1 X.2.2.2.2.2 hP k 0 (wl_get hs) rfl hz d (K h hR H locs ls hv hP hD hS)
  · exact va_alen (x := (n, _)) X.1 X.2.1 X.2.2.2.2.2 hP k 1 (wl_get hs) rfl hz d (K h hR H locs ls hv hP hD hS)
  · exact va_alen (x := (n, _)) X.1 X.2.1 X.2.2.2.2.2 hP k 2 (wl_get hs) rfl hz d (K h hR H locs ls hv hP hD hS)
theorem q_getI (X : Cx p s m args c cc nL own Ts D cl ca) {C : String} {T : u_T} {N ci k idx z : Nat} {fl : List (Nat × Nat)} (hin : ∀ w ∈ u_ws C T N, w ∈ Ts) (hs : shs[k]? = some (0, ci, fl)) (hc : cl[ci]? = some (C, T, N)) (j : Nat) (hj : j < N) (hd : fl[j]? = some (0, z)) (hw : Cond.fieldLink own idx (T j).1 (T j).2.1 (T j).2.2.1 ∈ Ts) (d : decode cc pc = .ok (.getfield idx, 3)) (K : inR (σ.1 k j) → G p l e R s m args below meth c Q nL D cl ca ad shs A res (pc + 3) lv (.int (oi (σ.1 k j)) :: st) σ t) : G p l e R s m args below meth c Q nL D cl ca ad shs A res pc lv (.ref (ad k) :: st) σ t :=
  fun h hR H locs ls hv hP hD hS => va_get X.1 X.2.1 X.2.2.2.2.1 hin X.2.2.2.1 X.2.2.2.2.2 hP k (wl_get hs) hc j hj (X.2.2.2.2.1 _ hw) (fun _ h9 => h9) (by show (fds ad σ k 0 fl)[j]? = _; rw [fds_get, hd, Nat.zero_add]; rfl) d (K (hR k j) h hR H locs ls hv hP hD hS)
theorem q_getL (X : Cx p s m args c cc nL own Ts D cl ca) {C : String} {T : u_T} {N ci k idx z : Nat} {fl : List (Nat × Nat)} (hin : ∀ w ∈ u_ws C T N, w ∈ Ts) (hs : shs[k]? = some (0, ci, fl)) (hc : cl[ci]? = some (C, T, N)) (j : Nat) (hj : j < N) (hd : fl[j]? = some (1, z)) (hw : Cond.fieldLink own idx (T j).1 (T j).2.1 (T j).2.2.1 ∈ Ts) (d : decode cc pc = .ok (.getfield idx, 3)) (K : G p l e R s m args below meth c Q nL D cl ca ad shs A res (pc + 3) lv (.long (σ.2 k j) :: st) σ t) : G p l e R s m args below meth c Q nL D cl ca ad shs A res pc lv (.ref (ad k) :: st) σ t :=
  fun h hR H locs ls hv hP hD hS => va_get X.1 X.2.1 X.2.2.2.2.1 hin X.2.2.2.1 X.2.2.2.2.2 hP k (wl_get hs) hc j hj (X.2.2.2.2.1 _ hw) (fun _ h9 => h9) (by show (fds ad σ k 0 fl)[j]? = _; rw [fds_get, hd, Nat.zero_add]; rfl) d (K h hR H locs ls hv hP hD hS)
theorem q_getR (X : Cx p s m args c cc nL own Ts D cl ca) {C : String} {T : u_T} {N ci k idx z : Nat} {fl : List (Nat × Nat)} (hin : ∀ w ∈ u_ws C T N, w ∈ Ts) (hs : shs[k]? = some (0, ci, fl)) (hc : cl[ci]? = some (C, T, N)) (j : Nat) (hj : j < N) (hd : fl[j]? = some (2, z)) (hw : Cond.fieldLink own idx (T j).1 (T j).2.1 (T j).2.2.1 ∈ Ts) (d : decode cc pc = .ok (.getfield idx, 3)) (K : G p l e R s m args below meth c Q nL D cl ca ad shs A res (pc + 3) lv (.ref (ad z) :: st) σ t) : G p l e R s m args below meth c Q nL D cl ca ad shs A res pc lv (.ref (ad k) :: st) σ t :=
  fun h hR H locs ls hv hP hD hS => va_get X.1 X.2.1 X.2.2.2.2.1 hin X.2.2.2.1 X.2.2.2.2.2 hP k (wl_get hs) hc j hj (X.2.2.2.2.1 _ hw) (fun _ h9 => h9) (by show (fds ad σ k 0 fl)[j]? = _; rw [fds_get, hd, Nat.zero_add]; rfl) d (K h hR H locs ls hv hP hD hS)
theorem q_putI (X : Cx p s m args c cc nL own Ts D cl ca) {C : String} {T : u_T} {N ci k idx z : Nat} {fl : List (Nat × Nat)} (hin : ∀ w ∈ u_ws C T N, w ∈ Ts) (hs : shs[k]? = some (0, ci, fl)) (hc : cl[ci]? = some (C, T, N)) (j : Nat) (hj : j < N) (ty0 : Nat → FieldType) (hty : ∀ k, k < N → parseFieldDescriptor (T k).2.2.1 = some (ty0 k)) (hnm : ∀ a, a < N → ∀ b, b < N → a ≠ b → (T a).2.1 ≠ (T b).2.1) (hfin : (T j).2.2.2 = false) (hd : fl[j]? = some (0, z)) (hw : Cond.fieldLink own idx (T j).1 (T j).2.1 (T j).2.2.1 ∈ Ts) {v : Int} (hv1 : inR v) (hdt : parseFieldDescriptor (T j).2.2.1 = some .int) (d : decode cc pc = .ok (.putfield idx, 3)) (K : G p l e R s m args below meth c Q nL D cl ca ad shs A res (pc + 3) lv st (stI σ k j v) t) : G p l e R s m args below meth c Q nL D cl ca ad shs A res pc lv (.int (oi v) :: .ref (ad k) :: st) σ t := by
  intro h hR H locs ls hv hP hD hS
  have hl : j < (fds ad σ k 0 fl).length := by rw [fds_len]; exact (List.getElem?_eq_some_iff.mp hd).1
  refine va_put X.1 X.2.1 X.2.2.2.2.1 hin ty0 hty hnm X.2.2.2.1 X.2.2.2.2.2 hP hD hS k (wl_get hs) hc j hj (X.2.2.2.2.1 _ hw) (fun _ h9 => h9) hfin hdt rfl rfl hl d (fun H1 locs1 hP1 hD1 hS1 => ?_)
  rw [wl_stI_fld hs hd] at hP1 hD1
  exact K h (hR.stI hv1) H1 locs1 ls hv hP1 hD1 hS1
theorem q_putZ (X : Cx p s m args c cc nL own Ts D cl ca) {C : String} {T : u_T} {N ci k idx z : Nat} {fl : List (Nat × Nat)} (hin : ∀ w ∈ u_ws C T N, w ∈ Ts) (hs : shs[k]? = some (0, ci, fl)) (hc : cl[ci]? = some (C, T, N)) (j : Nat) (hj : j < N) (ty0 : Nat → FieldType) (hty : ∀ k, k < N → parseFieldDescriptor (T k).2.2.1 = some (ty0 k)) (hnm : ∀ a, a < N → ∀ b, b < N → a ≠ b → (T a).2.1 ≠ (T b).2.1) (hfin : (T j).2.2.2 = false) (hd : fl[j]? = some (0, z)) (hw : Cond.fieldLink own idx (T j).1 (T j).2.1 (T j).2.2.1 ∈ Ts) {v : Int} (hv0 : v = 0 ∨ v = 1) (hdt : parseFieldDescriptor (T j).2.2.1 = some .boolean) (d : decode cc pc = .ok (.putfield idx, 3)) (K : G p l e R s m args below meth c Q nL D cl ca ad shs A res (pc + 3) lv st (stI σ k j v) t) : G p l e R s m args below meth c Q nL D cl ca ad shs A res pc lv (.int (oi v) :: .ref (ad k) :: st) σ t := by
  intro h hR H locs ls hv hP hD hS
  have hl : j < (fds ad σ k 0 fl).length := by rw [fds_len]; exact (List.getElem?_eq_some_iff.mp hd).1
  refine va_put X.1 X.2.1 X.2.2.2.2.1 hin ty0 hty hnm X.2.2.2.1 X.2.2.2.2.2 hP hD hS k (wl_get hs) hc j hj (X.2.2.2.2.1 _ hw) (fun _ h9 => h9) hfin hdt (nar_z hv0).1 (nar_z hv0).2.2 hl d (fun H1 locs1 hP1 hD1 hS1 => ?_)
  rw [wl_stI_fld hs hd] at hP1 hD1
  exact K h (hR.stI (by omega)) H1 locs1 ls hv hP1 hD1 hS1
theorem q_putL (X : Cx p s m args c cc nL own Ts D cl ca) {C : String} {T : u_T} {N ci k idx z : Nat} {fl : List (Nat × Nat)} (hin : ∀ w ∈ u_ws C T N, w ∈ Ts) (hs : shs[k]? = some (0, ci, fl)) (hc : cl[ci]? = some (C, T, N)) (j : Nat) (hj : j < N) (ty0 : Nat → FieldType) (hty : ∀ k, k < N → parseFieldDescriptor (T k).2.2.1 = some (ty0 k)) (hnm : ∀ a, a < N → ∀ b, b < N → a ≠ b → (T a).2.1 ≠ (T b).2.1) (hfin : (T j).2.2.2 = false) (hd : fl[j]? = some (1, z)) (hw : Cond.fieldLink own idx (T j).1 (T j).2.1 (T j).2.2.1 ∈ Ts) {v : Int64} (hdt : parseFieldDescriptor (T j).2.2.1 = some .long) (d : decode cc pc = .ok (.putfield idx, 3)) (K : G p l e R s m args below meth c Q nL D cl ca ad shs A res (pc + 3) lv st (stL σ k j v) t) : G p l e R s m args below meth c Q nL D cl ca ad shs A res pc lv (.long v :: .ref (ad k) :: st) σ t := by
  intro h hR H locs ls hv hP hD hS
  have hl : j < (fds ad σ k 0 fl).length := by rw [fds_len]; exact (List.getElem?_eq_some_iff.mp hd).1
  refine va_put X.1 X.2.1 X.2.2.2.2.1 hin ty0 hty hnm X.2.2.2.1 X.2.2.2.2.2 hP hD hS k (wl_get hs) hc j hj (X.2.2.2.2.1 _ hw) (fun _ h9 => h9) hfin hdt rfl rfl hl d (fun H1 locs1 hP1 hD1 hS1 => ?_)
  rw [wl_stL_fld hs hd] at hP1 hD1
  exact K h hR.stL H1 locs1 ls hv hP1 hD1 hS1
end RULES2
end
section
/-! CONTRACTS over my worlds -/
def Aw (ad : Nat → Nat) (n sz : Nat) : Nat → Prop := fun q => (∃ k, k < n ∧ q = ad k) ∨ sz ≤ q
def NOK (N : State → Prop) : Prop := (∀ u U : State, u.WarmedH U.vm → N u → N U) ∧ ∀ (U : State) (g : JFrame) (mk : MethodId) (a : Array Value), N U → N (U.calling g mk a)
def Wd (D : va_G) (cl : List vw_C) (ca : Nat → ClassId) (ad : Nat → Nat) (shs : List Sh) (N : State → Prop) (σ : Mm) (U : State) : Prop := va_P D cl (wl ca ad shs σ) U.heap ∧ va_K D cl (tysA ca) U ∧ va_D (fun _ => True) (wl ca ad shs σ) ∧ N U
def Bw (D : va_G) (cl : List vw_C) (ca : Nat → ClassId) (ad : Nat → Nat) (shs : List Sh) (sz : Nat) (u : Mm) (t : State) : Prop := va_P D cl (wl ca ad shs u) t.heap ∧ va_D (Aw ad shs.length sz) (wl ca ad shs u)
def PcW (D : va_G) (cl : List vw_C) (ca : Nat → ClassId) (ad : Nat → Nat) (shs : List Sh) (N : State → Prop) (as : List Value) (σ : Mm) (sz : Nat) : Array Value → State → Prop := va_Pc as (fun U => U.heap.size = sz ∧ Wd D cl ca ad shs N σ U)
def QcI (D : va_G) (cl : List vw_C) (ca : Nat → ClassId) (ad : Nat → Nat) (shs : List Sh) (sz : Nat) (r : Int × Mm) : Array Value → State → Outcome → State → Prop := va_Qi (fun (v : Int32) (u : Mm) => v = oi r.1 ∧ u = r.2 ∧ inR r.1 ∧ Rg r.2) (Bw D cl ca ad shs sz) (Aw ad shs.length sz)
def QcL (D : va_G) (cl : List vw_C) (ca : Nat → ClassId) (ad : Nat → Nat) (shs : List Sh) (sz : Nat) (r : Int64 × Mm) : Array Value → State → Outcome → State → Prop := va_Ql (fun (v : Int64) (u : Mm) => v = r.1 ∧ u = r.2 ∧ Rg r.2) (Bw D cl ca ad shs sz) (Aw ad shs.length sz)
def QcV (D : va_G) (cl : List vw_C) (ca : Nat → ClassId) (ad : Nat → Nat) (shs : List Sh) (sz : Nat) (r : Mm) : Array Value → State → Outcome → State → Prop := va_Qv (fun (u : Mm) => u = r ∧ Rg r) (Bw D cl ca ad shs sz) (Aw ad shs.length sz)
theorem wl_addr {ca : Nat → ClassId} {ad : Nat → Nat} {shs : List Sh} {σ : Mm} {k : Nat} {q : Nat × va_E} (h : (wl ca ad shs σ)[k]? = some q) : k < shs.length ∧ q.1 = ad k := by
  have hk : k < shs.length := by
    have := (List.getElem?_eq_some_iff.mp h).1
    rwa [wl_len] at this
  obtain ⟨sh, hsh⟩ : ∃ sh, shs[k]? = some sh := ⟨_, List.getElem?_eq_getElem hk⟩
  rw [wl_get hsh] at h
  cases h
  exact ⟨hk, rfl⟩
theorem wl_D {ca : Nat → ClassId} {ad : Nat → Nat} {shs : List Sh} {σ : Mm} {B : Nat → Prop} {sz : Nat} (h : va_D B (wl ca ad shs σ)) : va_D (Aw ad shs.length sz) (wl ca ad shs σ) :=
  h.weaken (fun k q hk _ => Or.inl ⟨k, wl_addr hk⟩)
theorem wl_A {ca : Nat → ClassId} {ad : Nat → Nat} {shs : List Sh} {σ : Mm} {A : Nat → Prop} (h : va_D A (wl ca ad shs σ)) {k : Nat} (hk : k < shs.length) : A (ad k) :=
  h.2 k _ (wl_get (List.getElem?_eq_getElem hk))

def CtI (l : Launch) (D : va_G) (cl : List vw_C) (ca : Nat → ClassId) (ad : Nat → Nat) (shs : List Sh) (N : State → Prop) (y : MethodName) (ws : List Cond) (rm : Room) (as : List Value) (σ : Mm) (x : Option (Int × Mm)) : Prop :=
  ∀ r, x = some r → Rg σ → ∀ sz, Met l y ws rm (PcW D cl ca ad shs N as σ sz) (QcI D cl ca ad shs sz r) 0 0 (Aw ad shs.length sz)
def CtL (l : Launch) (D : va_G) (cl : List vw_C) (ca : Nat → ClassId) (ad : Nat → Nat) (shs : List Sh) (N : State → Prop) (y : MethodName) (ws : List Cond) (rm : Room) (as : List Value) (σ : Mm) (x : Option (Int64 × Mm)) : Prop :=
  ∀ r, x = some r → Rg σ → ∀ sz, Met l y ws rm (PcW D cl ca ad shs N as σ sz) (QcL D cl ca ad shs sz r) 0 0 (Aw ad shs.length sz)
def CtV (l : Launch) (D : va_G) (cl : List vw_C) (ca : Nat → ClassId) (ad : Nat → Nat) (shs : List Sh) (N : State → Prop) (y : MethodName) (ws : List Cond) (rm : Room) (as : List Value) (σ : Mm) (x : Option (Mm)) : Prop :=
  ∀ r, x = some r → Rg σ → ∀ sz, Met l y ws rm (PcW D cl ca ad shs N as σ sz) (QcV D cl ca ad shs sz r) 0 0 (Aw ad shs.length sz)
section CALLS
variable {p : Program} {l : Launch} {e : Env} {R : Room} {s : State} {m : MethodId} {args : Array Value} {below : List Frame} {meth : Method} {c : Code} {Q : State → Prop} {nL : Nat} {D : va_G} {cl : List vw_C} {ca : Nat → ClassId} {ad : Nat → Nat} {shs : List Sh} {A : Nat → Prop} {ρ : Type} {res : ρ}
variable {cc : ByteArray} {own : String} {Ts : List Cond} {pc : Nat} {lv : List (Nat × Value)} {st : List Value} {σ : Mm} {t t1 t2 : Option ρ} {N : State → Prop}
theorem ct_I {y : MethodName} {ws ws' : List Cond} {rm : Room} {as : List Value} {x : Option (Int × Mm)} {ret : Option FieldType} (own : String) (ho : y.cls = own) (hy : plainName y.cls = true) (hw : ws = Cond.code y cc nL ret :: ws') (hlen : (lg_sl as).length ≤ nL)
    (body : ∀ (p : Program) (e : Env) (s : State) (m : MethodId) (below : List Frame) (meth : Method) (c : Code) (r : Int × Mm), Cx p s m as.toArray c cc nL own ws D cl ca → N s → meth.sig.returnType = ret → meth.locks = false → G p l e rm s m as.toArray below meth c (MQ below (QcI D cl ca ad shs s.heap.size r) as.toArray s 0 0 (Aw ad shs.length s.heap.size)) nL D cl ca ad shs (Aw ad shs.length s.heap.size) r 0 (lv_args 0 as) [] σ x) : CtI l D cl ca ad shs N y ws rm as σ x := by
  intro r hx hR sz
  refine Met.ofW (cc := cc) (maxL := nL) (ret := ret) hy hw ?_
  intro p e s m args below meth c s₁ B hml hv
  obtain ⟨rfl, hsz, hP, hK, hD0, hN⟩ := hv
  subst hsz
  have hl := lv_entry as hlen
  rw [lg_entry_eq]
  exact body p e s m below meth c r ⟨B.exec, B.bytes, hml, by rw [← ho]; exact findClass_of_methodNamed B.named, atoms_spec (ws := ws) B.pre, hK⟩ hN B.returns B.notSynchronized hx hR s.heap [] _ hl hP (wl_D hD0) va_S.rf
theorem ct_L {y : MethodName} {ws ws' : List Cond} {rm : Room} {as : List Value} {x : Option (Int64 × Mm)} {ret : Option FieldType} (own : String) (ho : y.cls = own) (hy : plainName y.cls = true) (hw : ws = Cond.code y cc nL ret :: ws') (hlen : (lg_sl as).length ≤ nL)
    (body : ∀ (p : Program) (e : Env) (s : State) (m : MethodId) (below : List Frame) (meth : Method) (c : Code) (r : Int64 × Mm), Cx p s m as.toArray c cc nL own ws D cl ca → N s → meth.sig.returnType = ret → meth.locks = false → G p l e rm s m as.toArray below meth c (MQ below (QcL D cl ca ad shs s.heap.size r) as.toArray s 0 0 (Aw ad shs.length s.heap.size)) nL D cl ca ad shs (Aw ad shs.length s.heap.size) r 0 (lv_args 0 as) [] σ x) : CtL l D cl ca ad shs N y ws rm as σ x := by
  intro r hx hR sz
  refine Met.ofW (cc := cc) (maxL := nL) (ret := ret) hy hw ?_
  intro p e s m args below meth c s₁ B hml hv
  obtain ⟨rfl, hsz, hP, hK, hD0, hN⟩ := hv
  subst hsz
  have hl := lv_entry as hlen
  rw [lg_entry_eq]
  exact body p e s m below meth c r ⟨B.exec, B.bytes, hml, by rw [← ho]; exact findClass_of_methodNamed B.named, atoms_spec (ws := ws) B.pre, hK⟩ hN B.returns B.notSynchronized hx hR s.heap [] _ hl hP (wl_D hD0) va_S.rf
theorem ct_V {y : MethodName} {ws ws' : List Cond} {rm : Room} {as : List Value} {x : Option (Mm)} {ret : Option FieldType} (own : String) (ho : y.cls = own) (hy : plainName y.cls = true) (hw : ws = Cond.code y cc nL ret :: ws') (hlen : (lg_sl as).length ≤ nL)
    (body : ∀ (p : Program) (e : Env) (s : State) (m : MethodId) (below : List Frame) (meth : Method) (c : Code) (r : Mm), Cx p s m as.toArray c cc nL own ws D cl ca → N s → meth.sig.returnType = ret → meth.locks = false → G p l e rm s m as.toArray below meth c (MQ below (QcV D cl ca ad shs s.heap.size r) as.toArray s 0 0 (Aw ad shs.length s.heap.size)) nL D cl ca ad shs (Aw ad shs.length s.heap.size) r 0 (lv_args 0 as) [] σ x) : CtV l D cl ca ad shs N y ws rm as σ x := by
  intro r hx hR sz
  refine Met.ofW (cc := cc) (maxL := nL) (ret := ret) hy hw ?_
  intro p e s m args below meth c s₁ B hml hv
  obtain ⟨rfl, hsz, hP, hK, hD0, hN⟩ := hv
  subst hsz
  have hl := lv_entry as hlen
  rw [lg_entry_eq]
  exact body p e s m below meth c r ⟨B.exec, B.bytes, hml, by rw [← ho]; exact findClass_of_methodNamed B.named, atoms_spec (ws := ws) B.pre, hK⟩ hN B.returns B.notSynchronized hx hR s.heap [] _ hl hP (wl_D hD0) va_S.rf
theorem ct_Ip {y : MethodName} {ws ws' : List Cond} {rm : Room} {as : List Value} {x : Option Int} {ret : Option FieldType} (own : String) (ho : y.cls = own) (hy : plainName y.cls = true) (hw : ws = Cond.code y cc nL ret :: ws') (hlen : (lg_sl as).length ≤ nL)
    (body : ∀ (p : Program) (e : Env) (s : State) (m : MethodId) (below : List Frame) (meth : Method) (c : Code) (r : Int), Cx p s m as.toArray c cc nL own ws D cl ca → N s → meth.sig.returnType = ret → meth.locks = false → G p l e rm s m as.toArray below meth c (MQ below (QcI D cl ca ad shs s.heap.size (r, σ)) as.toArray s 0 0 (Aw ad shs.length s.heap.size)) nL D cl ca ad shs (Aw ad shs.length s.heap.size) r 0 (lv_args 0 as) [] σ x) : CtI l D cl ca ad shs N y ws rm as σ (x.map (fun r => (r, σ))) := by
  intro r hx hR sz
  obtain ⟨r0, hx0, rfl⟩ := Option.map_eq_some_iff.mp hx
  refine Met.ofW (cc := cc) (maxL := nL) (ret := ret) hy hw ?_
  intro p e s m args below meth c s₁ B hml hv
  obtain ⟨rfl, hsz, hP, hK, hD0, hN⟩ := hv
  subst hsz
  have hl := lv_entry as hlen
  rw [lg_entry_eq]
  exact body p e s m below meth c r0 ⟨B.exec, B.bytes, hml, by rw [← ho]; exact findClass_of_methodNamed B.named, atoms_spec (ws := ws) B.pre, hK⟩ hN B.returns B.notSynchronized hx0 hR s.heap [] _ hl hP (wl_D hD0) va_S.rf
theorem ct_Lp {y : MethodName} {ws ws' : List Cond} {rm : Room} {as : List Value} {x : Option Int64} {ret : Option FieldType} (own : String) (ho : y.cls = own) (hy : plainName y.cls = true) (hw : ws = Cond.code y cc nL ret :: ws') (hlen : (lg_sl as).length ≤ nL)
    (body : ∀ (p : Program) (e : Env) (s : State) (m : MethodId) (below : List Frame) (meth : Method) (c : Code) (r : Int64), Cx p s m as.toArray c cc nL own ws D cl ca → N s → meth.sig.returnType = ret → meth.locks = false → G p l e rm s m as.toArray below meth c (MQ below (QcL D cl ca ad shs s.heap.size (r, σ)) as.toArray s 0 0 (Aw ad shs.length s.heap.size)) nL D cl ca ad shs (Aw ad shs.length s.heap.size) r 0 (lv_args 0 as) [] σ x) : CtL l D cl ca ad shs N y ws rm as σ (x.map (fun r => (r, σ))) := by
  intro r hx hR sz
  obtain ⟨r0, hx0, rfl⟩ := Option.map_eq_some_iff.mp hx
  refine Met.ofW (cc := cc) (maxL := nL) (ret := ret) hy hw ?_
  intro p e s m args below meth c s₁ B hml hv
  obtain ⟨rfl, hsz, hP, hK, hD0, hN⟩ := hv
  subst hsz
  have hl := lv_entry as hlen
  rw [lg_entry_eq]
  exact body p e s m below meth c r0 ⟨B.exec, B.bytes, hml, by rw [← ho]; exact findClass_of_methodNamed B.named, atoms_spec (ws := ws) B.pre, hK⟩ hN B.returns B.notSynchronized hx0 hR s.heap [] _ hl hP (wl_D hD0) va_S.rf
theorem inR_z {r : Int} (h : r = 0 ∨ r = 1) : inR r := by rcases h with rfl | rfl <;> decide
theorem q_iret (X : Cx p s m args c cc nL own Ts D cl ca) {r : Int} (hx : inR r) {res : Int × Mm} (hr : meth.sig.returnType = some .int) (hlk : meth.locks = false) (d : decode cc pc = .ok (.ireturn, 1)) : G p l e R s m args below meth c (MQ below (QcI D cl ca ad shs s.heap.size res) args s 0 0 (Aw ad shs.length s.heap.size)) nL D cl ca ad shs (Aw ad shs.length s.heap.size) res pc lv [.int (oi r)] σ (some (r, σ)) := by
  intro h hR H locs ls hv hP hD hS
  cases h
  exact W.iret X.1 X.2.1 hr (fun t ht hW => ⟨⟨oi r, σ, rfl, ⟨rfl, rfl, hx, hR⟩, by rw [ht]; exact hP, hD⟩, hS.F ht⟩) hS.2.2 d (hlocks := hlk)
theorem q_iretp (X : Cx p s m args c cc nL own Ts D cl ca) {r : Int} (hx : inR r) {res : Int} (hr : meth.sig.returnType = some .int) (hlk : meth.locks = false) (d : decode cc pc = .ok (.ireturn, 1)) : G p l e R s m args below meth c (MQ below (QcI D cl ca ad shs s.heap.size (res, σ)) args s 0 0 (Aw ad shs.length s.heap.size)) nL D cl ca ad shs (Aw ad shs.length s.heap.size) res pc lv [.int (oi r)] σ (some r) := by
  intro h hR H locs ls hv hP hD hS
  cases h
  exact W.iret X.1 X.2.1 hr (fun t ht hW => ⟨⟨oi r, σ, rfl, ⟨rfl, rfl, hx, hR⟩, by rw [ht]; exact hP, hD⟩, hS.F ht⟩) hS.2.2 d (hlocks := hlk)
theorem q_zret (X : Cx p s m args c cc nL own Ts D cl ca) {r : Int} (hx : r = 0 ∨ r = 1) {res : Int × Mm} (hr : meth.sig.returnType = some .boolean) (hlk : meth.locks = false) (d : decode cc pc = .ok (.ireturn, 1)) : G p l e R s m args below meth c (MQ below (QcI D cl ca ad shs s.heap.size res) args s 0 0 (Aw ad shs.length s.heap.size)) nL D cl ca ad shs (Aw ad shs.length s.heap.size) res pc lv [.int (oi r)] σ (some (r, σ)) := by
  intro h hR H locs ls hv hP hD hS
  cases h
  exact W.zret X.1 X.2.1 hr (nar_z hx).1 (fun t ht hW => ⟨⟨oi r, σ, rfl, ⟨rfl, rfl, inR_z hx, hR⟩, by rw [ht]; exact hP, hD⟩, hS.F ht⟩) hS.2.2 d (hlocks := hlk)
theorem q_zretp (X : Cx p s m args c cc nL own Ts D cl ca) {r : Int} (hx : r = 0 ∨ r = 1) {res : Int} (hr : meth.sig.returnType = some .boolean) (hlk : meth.locks = false) (d : decode cc pc = .ok (.ireturn, 1)) : G p l e R s m args below meth c (MQ below (QcI D cl ca ad shs s.heap.size (res, σ)) args s 0 0 (Aw ad shs.length s.heap.size)) nL D cl ca ad shs (Aw ad shs.length s.heap.size) res pc lv [.int (oi r)] σ (some r) := by
  intro h hR H locs ls hv hP hD hS
  cases h
  exact W.zret X.1 X.2.1 hr (nar_z hx).1 (fun t ht hW => ⟨⟨oi r, σ, rfl, ⟨rfl, rfl, inR_z hx, hR⟩, by rw [ht]; exact hP, hD⟩, hS.F ht⟩) hS.2.2 d (hlocks := hlk)
theorem q_lret (X : Cx p s m args c cc nL own Ts D cl ca) {r : Int64} {res : Int64 × Mm} (hr : meth.sig.returnType = some .long) (hlk : meth.locks = false) (d : decode cc pc = .ok (.lreturn, 1)) : G p l e R s m args below meth c (MQ below (QcL D cl ca ad shs s.heap.size res) args s 0 0 (Aw ad shs.length s.heap.size)) nL D cl ca ad shs (Aw ad shs.length s.heap.size) res pc lv [.long r] σ (some (r, σ)) := by
  intro h hR H locs ls hv hP hD hS
  cases h
  exact W.lret X.1 X.2.1 hr (fun t ht hW => ⟨⟨r, σ, rfl, ⟨rfl, rfl, hR⟩, by rw [ht]; exact hP, hD⟩, hS.F ht⟩) hS.2.2 d (hlocks := hlk)
theorem q_lretp (X : Cx p s m args c cc nL own Ts D cl ca) {r : Int64} {res : Int64} (hr : meth.sig.returnType = some .long) (hlk : meth.locks = false) (d : decode cc pc = .ok (.lreturn, 1)) : G p l e R s m args below meth c (MQ below (QcL D cl ca ad shs s.heap.size (res, σ)) args s 0 0 (Aw ad shs.length s.heap.size)) nL D cl ca ad shs (Aw ad shs.length s.heap.size) res pc lv [.long r] σ (some r) := by
  intro h hR H locs ls hv hP hD hS
  cases h
  exact W.lret X.1 X.2.1 hr (fun t ht hW => ⟨⟨r, σ, rfl, ⟨rfl, rfl, hR⟩, by rw [ht]; exact hP, hD⟩, hS.F ht⟩) hS.2.2 d (hlocks := hlk)
theorem q_vret (X : Cx p s m args c cc nL own Ts D cl ca)  {res : Mm} (hr : meth.sig.returnType = none) (hlk : meth.locks = false) (d : decode cc pc = .ok (.return_, 1)) : G p l e R s m args below meth c (MQ below (QcV D cl ca ad shs s.heap.size res) args s 0 0 (Aw ad shs.length s.heap.size)) nL D cl ca ad shs (Aw ad shs.length s.heap.size) res pc lv [] σ (some σ) := by
  intro h hR H locs ls hv hP hD hS
  cases h
  exact W.vret X.1 X.2.1 hr (fun t ht hW => ⟨⟨σ, rfl, ⟨rfl, hR⟩, by rw [ht]; exact hP, hD⟩, hS.F ht⟩) hS.2.2 d (hlocks := hlk)
def Rn (p : Program) (l : Launch) (e : Env) (R : Room) (s : State) (m : MethodId) (args : Array Value) (below : List Frame) (meth : Method) (c : Code) (nL : Nat) (D : va_G) (cl : List vw_C) (ca : Nat → ClassId) (ad : Nat → Nat) (shs : List Sh) (y : MethodName) (ws : List Cond) (rm : Room) (as st st0 : List Value) (pc : Nat) : Prop :=
  ∀ (σ : Mm) (Pc : Array Value → State → Prop) (Qc : Array Value → State → Outcome → State → Prop) (free : Addr → Prop) (H : Heap) (locs : List Loc) (ls : Array Slot), ls.size = nL → va_P D cl (wl ca ad shs σ) H → Met l y ws rm Pc Qc 0 0 free → FrameBlind Pc → (∀ U : State, U.heap = H → s.WarmedH U.vm → Pc as.toArray U) → va_Run p l e R s m args below meth c H locs 0 0 0 0 (F0 m pc ls st0) st (Qc as.toArray) free
theorem rn_V (X : Cx p s m args c cc nL own Ts D cl ca) {y : MethodName} {bytes : ByteArray} {maxL n idx kk ci nT : Nat} {ret : Option FieldType} {ws : List Cond} {rm : Room} {C : String} {T : u_T} {fl : List (Nat × Nat)} {as st0 : List Value} (cw : CallW R s args own C idx y bytes maxL ret ws rm 0 0 n) (hs : shs[kk]? = some (0, ci, fl)) (hcl : cl[ci]? = some (C, T, nT)) (hn : as.length = n) (hst : st0 = as.reverse ++ .ref (ad kk) :: st) (hcat : (st.map fun v => v.category).sum ≤ 8) (d : decode cc pc = .ok (.invokevirtual idx, 3)) : Rn p l e R s m args below meth c nL D cl ca ad shs y ws rm (.ref (ad kk) :: as) st st0 pc :=
  fun _ _ _ _ _ _ _ hz hP hM hB hU => va_runV (As := as) (rest := st) ⟨X.1, X.2.1, X.2.2.1, X.2.2.2.1, X.2.2.2.2.1⟩ hM cw ⟨hB, va_recv X.2.2.2.2.2 hP hcl (wl_get hs), hU⟩ rfl hn hz hst (lv_room hcat) d ⟨Nat.zero_le _, Nat.zero_le _⟩
theorem rn_S (X : Cx p s m args c cc nL own Ts D cl ca) {y : MethodName} {bytes : ByteArray} {maxL n idx : Nat} {ret : Option FieldType} {ws : List Cond} {rm : Room} {as st0 : List Value} (cw : CallB R s args own idx y bytes maxL ret ws rm 0 0 n ∧ (Cond.static y).before args s = true) (hn : as.length = n) (hst : st0 = as.reverse ++ st) (hcat : (st.map fun v => v.category).sum ≤ 8) (d : decode cc pc = .ok (.invokestatic idx, 3)) : Rn p l e R s m args below meth c nL D cl ca ad shs y ws rm as st st0 pc :=
  fun _ _ _ _ _ _ _ hz _ hM hB hU => va_runS (As := as) (rest := st) ⟨X.1, X.2.1, X.2.2.1, X.2.2.2.1, X.2.2.2.2.1⟩ hM cw ⟨hB, hU⟩ rfl hn hz hst (lv_room hcat) d ⟨Nat.zero_le _, Nat.zero_le _⟩
theorem rn_SN (X : Cx p s m args c cc nL own Ts D cl ca) {y : MethodName} {bytes : ByteArray} {maxL n idx : Nat} {ret : Option FieldType} {ws : List Cond} {rm : Room} {host : String} {as st0 : List Value} (cw : va_CN R s args own idx y host bytes maxL ret ws rm 0 0 n ∧ (Cond.static y).before args s = true ∧ True) (hn : as.length = n) (hst : st0 = as.reverse ++ st) (hcat : (st.map fun v => v.category).sum ≤ 8) (d : decode cc pc = .ok (.invokestatic idx, 3)) : Rn p l e R s m args below meth c nL D cl ca ad shs y ws rm as st st0 pc :=
  fun _ _ _ _ _ _ _ hz _ hM hB hU => va_runSN (As := as) (rest := st) ⟨X.1, X.2.1, X.2.2.1, X.2.2.2.1, X.2.2.2.2.1⟩ hM cw ⟨hB, hU⟩ rfl hn hz hst (lv_room hcat) d ⟨Nat.zero_le _, Nat.zero_le _⟩
theorem pc_blind (NK : NOK N) {as : List Value} {sz : Nat} : FrameBlind (PcW D cl ca ad shs N as σ sz) := by
  intro a U g mk q
  obtain ⟨q0, q1, qP, qK, qD, qN⟩ := q
  exact ⟨q0, q1, qP, va_K.moved (u := U) (U := U.calling g mk a) (Vm.Alike.refl U.vm) qK, qD, NK.2 U g mk a qN⟩
theorem pc_pre (X : Cx p s m args c cc nL own Ts D cl ca) (NK : NOK N) (hN : N s) {as : List Value} {H : Heap} (hP : va_P D cl (wl ca ad shs σ) H) (hD : va_D A (wl ca ad shs σ)) : ∀ U : State, U.heap = H → s.WarmedH U.vm → PcW D cl ca ad shs N as σ H.size as.toArray U :=
  fun U hU hW => ⟨rfl, by rw [hU], by rw [hU]; exact hP, va_K.moved hW.alike X.2.2.2.2.2, hD.weaken (fun _ _ _ _ => trivial), NK.1 s U hW hN⟩
theorem Aw_in (hA : ∀ q, s.heap.size ≤ q → A q) {H : Heap} {locs : List Loc} (hD : va_D A (wl ca ad shs σ)) (hS : va_S A s.heap H locs) : ∀ q, Aw ad shs.length H.size q → A q := by
  intro q h
  rcases h with ⟨k, hk, rfl⟩ | h
  · exact wl_A hD hk
  · exact hA q (Nat.le_trans hS.1 h)
theorem Aw_new {n sz : Nat} : ∀ q, sz ≤ q → Aw ad n sz q := fun _ h => Or.inr h
theorem q_callI (X : Cx p s m args c cc nL own Ts D cl ca) (NK : NOK N) (hN : N s) (hA : ∀ q, s.heap.size ≤ q → A q) {y : MethodName} {ws : List Cond} {rm : Room} {as st0 : List Value} {x : Option (Int × Mm)} {kf : Int × Mm → Option ρ} (hc : CtI l D cl ca ad shs N y ws rm as σ x) (hr : Rn p l e R s m args below meth c nL D cl ca ad shs y ws rm as st st0 pc) (K : ∀ r, x = some r → inR r.1 → G p l e R s m args below meth c Q nL D cl ca ad shs A res (pc + 3) lv (.int (oi r.1) :: st) r.2 (kf r)) : G p l e R s m args below meth c Q nL D cl ca ad shs A res pc lv st0 σ (x.bind kf) := by
  intro h hR H locs ls hv hP hD hS
  obtain ⟨r, hx, hk⟩ := Option.bind_eq_some_iff.mp h
  have hF := Aw_in hA hD hS
  refine va_calli (hr σ _ _ _ H locs ls hv.1 hP (hc r hx hR H.size) (pc_blind NK) (pc_pre X NK hN hP hD)) hS (fun q _ h => hF q h) hF (fun v u t H1 locs1 ht hvm hp hB hz1 hk1 hS1 => ?_)
  obtain ⟨rfl, rfl, hr1, hr2⟩ := hp
  obtain ⟨hP1, hD1⟩ := hB
  rw [ht] at hP1
  exact K r hx hr1 hk hr2 H1 locs1 ls hv hP1 (hD1.weaken (fun _ _ _ h => hF _ h)) hS1
theorem q_callL (X : Cx p s m args c cc nL own Ts D cl ca) (NK : NOK N) (hN : N s) (hA : ∀ q, s.heap.size ≤ q → A q) {y : MethodName} {ws : List Cond} {rm : Room} {as st0 : List Value} {x : Option (Int64 × Mm)} {kf : Int64 × Mm → Option ρ} (hc : CtL l D cl ca ad shs N y ws rm as σ x) (hr : Rn p l e R s m args below meth c nL D cl ca ad shs y ws rm as st st0 pc) (K : ∀ r, x = some r → G p l e R s m args below meth c Q nL D cl ca ad shs A res (pc + 3) lv (.long r.1 :: st) r.2 (kf r)) : G p l e R s m args below meth c Q nL D cl ca ad shs A res pc lv st0 σ (x.bind kf) := by
  intro h hR H locs ls hv hP hD hS
  obtain ⟨r, hx, hk⟩ := Option.bind_eq_some_iff.mp h
  have hF := Aw_in hA hD hS
  refine va_calll (hr σ _ _ _ H locs ls hv.1 hP (hc r hx hR H.size) (pc_blind NK) (pc_pre X NK hN hP hD)) hS (fun q _ h => hF q h) hF (fun v u t H1 locs1 ht hvm hp hB hz1 hk1 hS1 => ?_)
  obtain ⟨rfl, rfl, hr2⟩ := hp
  obtain ⟨hP1, hD1⟩ := hB
  rw [ht] at hP1
  exact K r hx hk hr2 H1 locs1 ls hv hP1 (hD1.weaken (fun _ _ _ h => hF _ h)) hS1
theorem q_callV (X : Cx p s m args c cc nL own Ts D cl ca) (NK : NOK N) (hN : N s) (hA : ∀ q, s.heap.size ≤ q → A q) {y : MethodName} {ws : List Cond} {rm : Room} {as st0 : List Value} {x : Option Mm} {kf : Mm → Option ρ} (hc : CtV l D cl ca ad shs N y ws rm as σ x) (hr : Rn p l e R s m args below meth c nL D cl ca ad shs y ws rm as st st0 pc) (K : ∀ r, x = some r → G p l e R s m args below meth c Q nL D cl ca ad shs A res (pc + 3) lv st r (kf r)) : G p l e R s m args below meth c Q nL D cl ca ad shs A res pc lv st0 σ (x.bind kf) := by
  intro h hR H locs ls hv hP hD hS
  obtain ⟨r, hx, hk⟩ := Option.bind_eq_some_iff.mp h
  have hF := Aw_in hA hD hS
  refine va_callv (hr σ _ _ _ H locs ls hv.1 hP (hc r hx hR H.size) (pc_blind NK) (pc_pre X NK hN hP hD)) hS (fun q _ h => hF q h) hF (fun u t H1 locs1 ht hvm hp hB hz1 hk1 hS1 => ?_)
  obtain ⟨rfl, hr2⟩ := hp
  obtain ⟨hP1, hD1⟩ := hB
  rw [ht] at hP1
  exact K _ hx hk hr2 H1 locs1 ls hv hP1 (hD1.weaken (fun _ _ _ h => hF _ h)) hS1
theorem q_callIp (X : Cx p s m args c cc nL own Ts D cl ca) (NK : NOK N) (hN : N s) (hA : ∀ q, s.heap.size ≤ q → A q) {y : MethodName} {ws : List Cond} {rm : Room} {as st0 : List Value} {x : Option Int} {kf : Int → Option ρ} (hc : CtI l D cl ca ad shs N y ws rm as σ (x.map (fun r => (r, σ)))) (hr : Rn p l e R s m args below meth c nL D cl ca ad shs y ws rm as st st0 pc) (K : ∀ r, x = some r → inR r → G p l e R s m args below meth c Q nL D cl ca ad shs A res (pc + 3) lv (.int (oi r) :: st) σ (kf r)) : G p l e R s m args below meth c Q nL D cl ca ad shs A res pc lv st0 σ (x.bind kf) := by
  have h := q_callI (x := x.map (fun r => (r, σ))) (kf := fun r => kf r.1) X NK hN hA hc hr (fun r hx hr1 => by
    obtain ⟨r0, hx0, rfl⟩ := Option.map_eq_some_iff.mp hx
    exact K r0 hx0 hr1)
  rwa [Option.bind_map] at h
theorem q_callLp (X : Cx p s m args c cc nL own Ts D cl ca) (NK : NOK N) (hN : N s) (hA : ∀ q, s.heap.size ≤ q → A q) {y : MethodName} {ws : List Cond} {rm : Room} {as st0 : List Value} {x : Option Int64} {kf : Int64 → Option ρ} (hc : CtL l D cl ca ad shs N y ws rm as σ (x.map (fun r => (r, σ)))) (hr : Rn p l e R s m args below meth c nL D cl ca ad shs y ws rm as st st0 pc) (K : ∀ r, x = some r → G p l e R s m args below meth c Q nL D cl ca ad shs A res (pc + 3) lv (.long r :: st) σ (kf r)) : G p l e R s m args below meth c Q nL D cl ca ad shs A res pc lv st0 σ (x.bind kf) := by
  have h := q_callL (x := x.map (fun r => (r, σ))) (kf := fun r => kf r.1) X NK hN hA hc hr (fun r hx => by
    obtain ⟨r0, hx0, rfl⟩ := Option.map_eq_some_iff.mp hx
    exact K r0 hx0)
  rwa [Option.bind_map] at h
end CALLS
/-! the words: one list for all methods -/
def tbG : List Cond := lw_tbl.filter goodWord
theorem tbG_mem {w : Cond} (h : w ∈ lw_tbl) (hg : goodWord w = true) : w ∈ tbG := List.mem_filter.mpr ⟨h, hg⟩
theorem tbG_good (c0 : Cond) {ws : List Cond} (h : ∀ w ∈ ws, w ∈ tbG) : GoodIn (c0 :: tbG) ws := fun w hw => ⟨List.mem_cons_of_mem _ (h w hw), good_of_word (List.mem_filter.mp (h w hw)).2⟩
theorem tbG_cons {c1 : Cond} (h : c1 ∈ tbG) : ∀ w ∈ c1 :: tbG, w ∈ tbG := fun w hw => (List.mem_cons.mp hw).elim (fun e => e ▸ h) id
theorem tbG_V {own C : String} {idx : Nat} {y : MethodName} {c1 : Cond} (h1 : Cond.methodLink own idx y ∈ tbG) (h2 : Cond.instanceMethod y ∈ tbG) (h3 : Cond.selects C y y ∈ tbG) (h4 : Cond.initialized C ∈ tbG) (h5 : c1 ∈ tbG) : ∀ w ∈ wsV own idx C y (c1 :: tbG), w ∈ tbG := by
  intro w hw
  simp only [wsV, List.cons_append, List.nil_append, List.mem_cons] at hw
  rcases hw with rfl | rfl | rfl | rfl | rfl | hw
  · exact h1
  · exact h2
  · exact h3
  · exact h4
  · exact h5
  · exact hw
theorem tbG_S {own : String} {idx : Nat} {y : MethodName} {c1 : Cond} (h1 : Cond.methodLink own idx y ∈ tbG) (h2 : Cond.static y ∈ tbG) (h4 : Cond.initialized y.cls ∈ tbG) (h5 : c1 ∈ tbG) : ∀ w ∈ va_wsS own idx y (c1 :: tbG), w ∈ tbG := by
  intro w hw
  simp only [va_wsS, List.cons_append, List.nil_append, List.mem_cons] at hw
  rcases hw with rfl | rfl | rfl | rfl | hw
  · exact h1
  · exact h2
  · exact h4
  · exact h5
  · exact hw
end
