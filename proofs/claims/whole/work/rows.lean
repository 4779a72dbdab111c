section
-- ===== PART A: goes FIRST, ahead of the names: the tables' words, and 'selects' of the private methods out of them =====
/-- a private method of a class that the tables say can be made, by its rows of tables_1 -/
def lw_okq (q : MethodName × Nat) : Prop := (q.1.cls ≠ "java/lang/invoke/MethodHandle" ∧ q.1.cls ≠ "java/lang/invoke/VarHandle") ∧ Cond.instantiable q.1.cls q.2 ∈ tables_1 ∧ Cond.privateMethod q.1 ∈ tables_1 ∧ Cond.instanceMethod q.1 ∈ tables_1
theorem lw_p0 : lw_okq (⟨"SlotFile", "settle", "()V"⟩, 4) := ⟨⟨by decide +kernel, by decide +kernel⟩, List.mem_of_getElem? (i := 14) (by decide +kernel), List.mem_of_getElem? (i := 171) (by decide +kernel), List.mem_of_getElem? (i := 172) (by decide +kernel)⟩
theorem lw_p1 : lw_okq (⟨"java/lang/Throwable", "fillInStackTrace", "(I)Ljava/lang/Throwable;"⟩, 6) := ⟨⟨by decide +kernel, by decide +kernel⟩, List.mem_of_getElem? (i := 234) (by decide +kernel), List.mem_of_getElem? (i := 232) (by decide +kernel), List.mem_of_getElem? (i := 233) (by decide +kernel)⟩
theorem lw_p2 : lw_okq (⟨"SlotFile$Store", "hasPagesForChain", "(I)Z"⟩, 1) := ⟨⟨by decide +kernel, by decide +kernel⟩, List.mem_of_getElem? (i := 22) (by decide +kernel), List.mem_of_getElem? (i := 268) (by decide +kernel), List.mem_of_getElem? (i := 269) (by decide +kernel)⟩
theorem lw_p3 : lw_okq (⟨"SlotFile$Store", "takeChain", "(I)I"⟩, 1) := ⟨⟨by decide +kernel, by decide +kernel⟩, List.mem_of_getElem? (i := 22) (by decide +kernel), List.mem_of_getElem? (i := 279) (by decide +kernel), List.mem_of_getElem? (i := 280) (by decide +kernel)⟩
theorem lw_p4 : lw_okq (⟨"SlotFile$Store", "leastFreePage", "(I)I"⟩, 1) := ⟨⟨by decide +kernel, by decide +kernel⟩, List.mem_of_getElem? (i := 22) (by decide +kernel), List.mem_of_getElem? (i := 283) (by decide +kernel), List.mem_of_getElem? (i := 284) (by decide +kernel)⟩
theorem lw_p5 : lw_okq (⟨"SlotFile$Store", "placeFor", "(III)I"⟩, 1) := ⟨⟨by decide +kernel, by decide +kernel⟩, List.mem_of_getElem? (i := 22) (by decide +kernel), List.mem_of_getElem? (i := 297) (by decide +kernel), List.mem_of_getElem? (i := 298) (by decide +kernel)⟩
theorem lw_p6 : lw_okq (⟨"SlotFile$Store", "leastClassPage", "(III)I"⟩, 1) := ⟨⟨by decide +kernel, by decide +kernel⟩, List.mem_of_getElem? (i := 22) (by decide +kernel), List.mem_of_getElem? (i := 301) (by decide +kernel), List.mem_of_getElem? (i := 302) (by decide +kernel)⟩
theorem lw_p7 : lw_okq (⟨"SlotFile$Store", "firstPageWithRoom", "(III)I"⟩, 1) := ⟨⟨by decide +kernel, by decide +kernel⟩, List.mem_of_getElem? (i := 22) (by decide +kernel), List.mem_of_getElem? (i := 313) (by decide +kernel), List.mem_of_getElem? (i := 314) (by decide +kernel)⟩
theorem lw_p8 : lw_okq (⟨"SlotFile$Store", "freeChain", "(I)V"⟩, 1) := ⟨⟨by decide +kernel, by decide +kernel⟩, List.mem_of_getElem? (i := 22) (by decide +kernel), List.mem_of_getElem? (i := 317) (by decide +kernel), List.mem_of_getElem? (i := 318) (by decide +kernel)⟩
theorem lw_p9 : lw_okq (⟨"SlotFile$Page", "leastEmptySlot", "()I"⟩, 13) := ⟨⟨by decide +kernel, by decide +kernel⟩, List.mem_of_getElem? (i := 29) (by decide +kernel), List.mem_of_getElem? (i := 329) (by decide +kernel), List.mem_of_getElem? (i := 330) (by decide +kernel)⟩
theorem lw_p10 : lw_okq (⟨"SlotFile$Page", "claimEnd", "(II)V"⟩, 13) := ⟨⟨by decide +kernel, by decide +kernel⟩, List.mem_of_getElem? (i := 29) (by decide +kernel), List.mem_of_getElem? (i := 334) (by decide +kernel), List.mem_of_getElem? (i := 335) (by decide +kernel)⟩
theorem lw_p11 : lw_okq (⟨"SlotFile$Page", "write", "(IIIII)V"⟩, 13) := ⟨⟨by decide +kernel, by decide +kernel⟩, List.mem_of_getElem? (i := 29) (by decide +kernel), List.mem_of_getElem? (i := 338) (by decide +kernel), List.mem_of_getElem? (i := 339) (by decide +kernel)⟩
theorem lw_p12 : lw_okq (⟨"SlotFile", "noteChange", "(III)V"⟩, 4) := ⟨⟨by decide +kernel, by decide +kernel⟩, List.mem_of_getElem? (i := 14) (by decide +kernel), List.mem_of_getElem? (i := 342) (by decide +kernel), List.mem_of_getElem? (i := 343) (by decide +kernel)⟩
theorem lw_p13 : lw_okq (⟨"SlotFile", "checkRecord", "(I)V"⟩, 4) := ⟨⟨by decide +kernel, by decide +kernel⟩, List.mem_of_getElem? (i := 14) (by decide +kernel), List.mem_of_getElem? (i := 358) (by decide +kernel), List.mem_of_getElem? (i := 359) (by decide +kernel)⟩
theorem lw_p14 : lw_okq (⟨"SlotFile$Store", "changeAtHome", "(IIII)Z"⟩, 1) := ⟨⟨by decide +kernel, by decide +kernel⟩, List.mem_of_getElem? (i := 22) (by decide +kernel), List.mem_of_getElem? (i := 386) (by decide +kernel), List.mem_of_getElem? (i := 387) (by decide +kernel)⟩
theorem lw_p15 : lw_okq (⟨"SlotFile$Page", "bytesAt", "(I)I"⟩, 13) := ⟨⟨by decide +kernel, by decide +kernel⟩, List.mem_of_getElem? (i := 29) (by decide +kernel), List.mem_of_getElem? (i := 395) (by decide +kernel), List.mem_of_getElem? (i := 396) (by decide +kernel)⟩
def lw_privs_1 : List (MethodName × Nat) := [(⟨"SlotFile", "settle", "()V"⟩, 4), (⟨"java/lang/Throwable", "fillInStackTrace", "(I)Ljava/lang/Throwable;"⟩, 6), (⟨"SlotFile$Store", "hasPagesForChain", "(I)Z"⟩, 1), (⟨"SlotFile$Store", "takeChain", "(I)I"⟩, 1), (⟨"SlotFile$Store", "leastFreePage", "(I)I"⟩, 1), (⟨"SlotFile$Store", "placeFor", "(III)I"⟩, 1), (⟨"SlotFile$Store", "leastClassPage", "(III)I"⟩, 1), (⟨"SlotFile$Store", "firstPageWithRoom", "(III)I"⟩, 1), (⟨"SlotFile$Store", "freeChain", "(I)V"⟩, 1), (⟨"SlotFile$Page", "leastEmptySlot", "()I"⟩, 13), (⟨"SlotFile$Page", "claimEnd", "(II)V"⟩, 13), (⟨"SlotFile$Page", "write", "(IIIII)V"⟩, 13), (⟨"SlotFile", "noteChange", "(III)V"⟩, 4), (⟨"SlotFile", "checkRecord", "(I)V"⟩, 4), (⟨"SlotFile$Store", "changeAtHome", "(IIII)Z"⟩, 1), (⟨"SlotFile$Page", "bytesAt", "(I)I"⟩, 13)]
theorem lw_r1 : ∀ q ∈ lw_privs_1, lw_okq q := List.forall_mem_cons.mpr ⟨lw_p0, List.forall_mem_cons.mpr ⟨lw_p1, List.forall_mem_cons.mpr ⟨lw_p2, List.forall_mem_cons.mpr ⟨lw_p3, List.forall_mem_cons.mpr ⟨lw_p4, List.forall_mem_cons.mpr ⟨lw_p5, List.forall_mem_cons.mpr ⟨lw_p6, List.forall_mem_cons.mpr ⟨lw_p7, List.forall_mem_cons.mpr ⟨lw_p8, List.forall_mem_cons.mpr ⟨lw_p9, List.forall_mem_cons.mpr ⟨lw_p10, List.forall_mem_cons.mpr ⟨lw_p11, List.forall_mem_cons.mpr ⟨lw_p12, List.forall_mem_cons.mpr ⟨lw_p13, List.forall_mem_cons.mpr ⟨lw_p14, List.forall_mem_cons.mpr ⟨lw_p15, fun _ h => absurd h List.not_mem_nil⟩⟩⟩⟩⟩⟩⟩⟩⟩⟩⟩⟩⟩⟩⟩⟩
theorem lw_p16 : lw_okq (⟨"SlotFile$Page", "erase", "(I)V"⟩, 13) := ⟨⟨by decide +kernel, by decide +kernel⟩, List.mem_of_getElem? (i := 29) (by decide +kernel), List.mem_of_getElem? (i := 403) (by decide +kernel), List.mem_of_getElem? (i := 404) (by decide +kernel)⟩
theorem lw_p17 : lw_okq (⟨"SlotFile$Store", "changeAway", "(IIII)Z"⟩, 1) := ⟨⟨by decide +kernel, by decide +kernel⟩, List.mem_of_getElem? (i := 22) (by decide +kernel), List.mem_of_getElem? (i := 407) (by decide +kernel), List.mem_of_getElem? (i := 408) (by decide +kernel)⟩
theorem lw_p18 : lw_okq (⟨"SlotFileModel", "fails", "(ZI)Z"⟩, 8) := ⟨⟨by decide +kernel, by decide +kernel⟩, List.mem_of_getElem? (i := 506) (by decide +kernel), List.mem_of_getElem? (i := 551) (by decide +kernel), List.mem_of_getElem? (i := 552) (by decide +kernel)⟩
theorem lw_p19 : lw_okq (⟨"SlotFileModel", "inserts", "(II)I"⟩, 8) := ⟨⟨by decide +kernel, by decide +kernel⟩, List.mem_of_getElem? (i := 506) (by decide +kernel), List.mem_of_getElem? (i := 555) (by decide +kernel), List.mem_of_getElem? (i := 556) (by decide +kernel)⟩
theorem lw_p20 : lw_okq (⟨"SlotFileModel", "freePages", "()I"⟩, 8) := ⟨⟨by decide +kernel, by decide +kernel⟩, List.mem_of_getElem? (i := 506) (by decide +kernel), List.mem_of_getElem? (i := 562) (by decide +kernel), List.mem_of_getElem? (i := 563) (by decide +kernel)⟩
theorem lw_p21 : lw_okq (⟨"SlotFileModel", "takeChain", "(I)I"⟩, 8) := ⟨⟨by decide +kernel, by decide +kernel⟩, List.mem_of_getElem? (i := 506) (by decide +kernel), List.mem_of_getElem? (i := 566) (by decide +kernel), List.mem_of_getElem? (i := 567) (by decide +kernel)⟩
theorem lw_p22 : lw_okq (⟨"SlotFileModel", "firstFree", "()I"⟩, 8) := ⟨⟨by decide +kernel, by decide +kernel⟩, List.mem_of_getElem? (i := 506) (by decide +kernel), List.mem_of_getElem? (i := 570) (by decide +kernel), List.mem_of_getElem? (i := 571) (by decide +kernel)⟩
theorem lw_p23 : lw_okq (⟨"SlotFileModel", "placeFor", "(III)I"⟩, 8) := ⟨⟨by decide +kernel, by decide +kernel⟩, List.mem_of_getElem? (i := 506) (by decide +kernel), List.mem_of_getElem? (i := 577) (by decide +kernel), List.mem_of_getElem? (i := 578) (by decide +kernel)⟩
theorem lw_p24 : lw_okq (⟨"SlotFileModel", "cells", "(I)I"⟩, 8) := ⟨⟨by decide +kernel, by decide +kernel⟩, List.mem_of_getElem? (i := 506) (by decide +kernel), List.mem_of_getElem? (i := 581) (by decide +kernel), List.mem_of_getElem? (i := 582) (by decide +kernel)⟩
theorem lw_p25 : lw_okq (⟨"SlotFileModel", "sizeOf", "(II)I"⟩, 8) := ⟨⟨by decide +kernel, by decide +kernel⟩, List.mem_of_getElem? (i := 506) (by decide +kernel), List.mem_of_getElem? (i := 585) (by decide +kernel), List.mem_of_getElem? (i := 586) (by decide +kernel)⟩
theorem lw_p26 : lw_okq (⟨"SlotFileModel", "room", "(I)I"⟩, 8) := ⟨⟨by decide +kernel, by decide +kernel⟩, List.mem_of_getElem? (i := 506) (by decide +kernel), List.mem_of_getElem? (i := 589) (by decide +kernel), List.mem_of_getElem? (i := 590) (by decide +kernel)⟩
theorem lw_p27 : lw_okq (⟨"SlotFileModel", "slots", "(I)I"⟩, 8) := ⟨⟨by decide +kernel, by decide +kernel⟩, List.mem_of_getElem? (i := 506) (by decide +kernel), List.mem_of_getElem? (i := 593) (by decide +kernel), List.mem_of_getElem? (i := 594) (by decide +kernel)⟩
theorem lw_p28 : lw_okq (⟨"SlotFileModel", "taken", "(I)I"⟩, 8) := ⟨⟨by decide +kernel, by decide +kernel⟩, List.mem_of_getElem? (i := 506) (by decide +kernel), List.mem_of_getElem? (i := 597) (by decide +kernel), List.mem_of_getElem? (i := 598) (by decide +kernel)⟩
theorem lw_p29 : lw_okq (⟨"SlotFileModel", "freeChain", "(I)V"⟩, 8) := ⟨⟨by decide +kernel, by decide +kernel⟩, List.mem_of_getElem? (i := 506) (by decide +kernel), List.mem_of_getElem? (i := 601) (by decide +kernel), List.mem_of_getElem? (i := 602) (by decide +kernel)⟩
theorem lw_p30 : lw_okq (⟨"SlotFileModel", "slotIn", "(I)I"⟩, 8) := ⟨⟨by decide +kernel, by decide +kernel⟩, List.mem_of_getElem? (i := 506) (by decide +kernel), List.mem_of_getElem? (i := 605) (by decide +kernel), List.mem_of_getElem? (i := 606) (by decide +kernel)⟩
theorem lw_p31 : lw_okq (⟨"SlotFileModel", "putCell", "(IIII)V"⟩, 8) := ⟨⟨by decide +kernel, by decide +kernel⟩, List.mem_of_getElem? (i := 506) (by decide +kernel), List.mem_of_getElem? (i := 609) (by decide +kernel), List.mem_of_getElem? (i := 610) (by decide +kernel)⟩
def lw_privs_2 : List (MethodName × Nat) := [(⟨"SlotFile$Page", "erase", "(I)V"⟩, 13), (⟨"SlotFile$Store", "changeAway", "(IIII)Z"⟩, 1), (⟨"SlotFileModel", "fails", "(ZI)Z"⟩, 8), (⟨"SlotFileModel", "inserts", "(II)I"⟩, 8), (⟨"SlotFileModel", "freePages", "()I"⟩, 8), (⟨"SlotFileModel", "takeChain", "(I)I"⟩, 8), (⟨"SlotFileModel", "firstFree", "()I"⟩, 8), (⟨"SlotFileModel", "placeFor", "(III)I"⟩, 8), (⟨"SlotFileModel", "cells", "(I)I"⟩, 8), (⟨"SlotFileModel", "sizeOf", "(II)I"⟩, 8), (⟨"SlotFileModel", "room", "(I)I"⟩, 8), (⟨"SlotFileModel", "slots", "(I)I"⟩, 8), (⟨"SlotFileModel", "taken", "(I)I"⟩, 8), (⟨"SlotFileModel", "freeChain", "(I)V"⟩, 8), (⟨"SlotFileModel", "slotIn", "(I)I"⟩, 8), (⟨"SlotFileModel", "putCell", "(IIII)V"⟩, 8)]
theorem lw_r2 : ∀ q ∈ lw_privs_2, lw_okq q := List.forall_mem_cons.mpr ⟨lw_p16, List.forall_mem_cons.mpr ⟨lw_p17, List.forall_mem_cons.mpr ⟨lw_p18, List.forall_mem_cons.mpr ⟨lw_p19, List.forall_mem_cons.mpr ⟨lw_p20, List.forall_mem_cons.mpr ⟨lw_p21, List.forall_mem_cons.mpr ⟨lw_p22, List.forall_mem_cons.mpr ⟨lw_p23, List.forall_mem_cons.mpr ⟨lw_p24, List.forall_mem_cons.mpr ⟨lw_p25, List.forall_mem_cons.mpr ⟨lw_p26, List.forall_mem_cons.mpr ⟨lw_p27, List.forall_mem_cons.mpr ⟨lw_p28, List.forall_mem_cons.mpr ⟨lw_p29, List.forall_mem_cons.mpr ⟨lw_p30, List.forall_mem_cons.mpr ⟨lw_p31, fun _ h => absurd h List.not_mem_nil⟩⟩⟩⟩⟩⟩⟩⟩⟩⟩⟩⟩⟩⟩⟩⟩
theorem lw_p32 : lw_okq (⟨"SlotFileModel", "keep", "(IIIII)V"⟩, 8) := ⟨⟨by decide +kernel, by decide +kernel⟩, List.mem_of_getElem? (i := 506) (by decide +kernel), List.mem_of_getElem? (i := 613) (by decide +kernel), List.mem_of_getElem? (i := 614) (by decide +kernel)⟩
theorem lw_p33 : lw_okq (⟨"SlotFileModel", "note", "(IIII)V"⟩, 8) := ⟨⟨by decide +kernel, by decide +kernel⟩, List.mem_of_getElem? (i := 506) (by decide +kernel), List.mem_of_getElem? (i := 617) (by decide +kernel), List.mem_of_getElem? (i := 618) (by decide +kernel)⟩
theorem lw_p34 : lw_okq (⟨"SlotFileModel", "isRecord", "(I)Z"⟩, 8) := ⟨⟨by decide +kernel, by decide +kernel⟩, List.mem_of_getElem? (i := 506) (by decide +kernel), List.mem_of_getElem? (i := 625) (by decide +kernel), List.mem_of_getElem? (i := 626) (by decide +kernel)⟩
theorem lw_p35 : lw_okq (⟨"SlotFileModel", "updates", "(III)Z"⟩, 8) := ⟨⟨by decide +kernel, by decide +kernel⟩, List.mem_of_getElem? (i := 506) (by decide +kernel), List.mem_of_getElem? (i := 629) (by decide +kernel), List.mem_of_getElem? (i := 630) (by decide +kernel)⟩
theorem lw_p36 : lw_okq (⟨"SlotFileModel", "fits", "(III)Z"⟩, 8) := ⟨⟨by decide +kernel, by decide +kernel⟩, List.mem_of_getElem? (i := 506) (by decide +kernel), List.mem_of_getElem? (i := 633) (by decide +kernel), List.mem_of_getElem? (i := 634) (by decide +kernel)⟩
theorem lw_p37 : lw_okq (⟨"SlotFileModel", "takeCell", "(II)V"⟩, 8) := ⟨⟨by decide +kernel, by decide +kernel⟩, List.mem_of_getElem? (i := 506) (by decide +kernel), List.mem_of_getElem? (i := 637) (by decide +kernel), List.mem_of_getElem? (i := 638) (by decide +kernel)⟩
theorem lw_p38 : lw_okq (⟨"SlotFileModel", "deletes", "(I)V"⟩, 8) := ⟨⟨by decide +kernel, by decide +kernel⟩, List.mem_of_getElem? (i := 506) (by decide +kernel), List.mem_of_getElem? (i := 645) (by decide +kernel), List.mem_of_getElem? (i := 646) (by decide +kernel)⟩
theorem lw_p39 : lw_okq (⟨"SlotFileModel", "stubs", "(I)I"⟩, 8) := ⟨⟨by decide +kernel, by decide +kernel⟩, List.mem_of_getElem? (i := 506) (by decide +kernel), List.mem_of_getElem? (i := 669) (by decide +kernel), List.mem_of_getElem? (i := 670) (by decide +kernel)⟩
theorem lw_p40 : lw_okq (⟨"SlotFileModel", "kindOf", "(II)I"⟩, 8) := ⟨⟨by decide +kernel, by decide +kernel⟩, List.mem_of_getElem? (i := 506) (by decide +kernel), List.mem_of_getElem? (i := 673) (by decide +kernel), List.mem_of_getElem? (i := 674) (by decide +kernel)⟩
theorem lw_p41 : lw_okq (⟨"SlotFileModel", "records", "(Z)I"⟩, 8) := ⟨⟨by decide +kernel, by decide +kernel⟩, List.mem_of_getElem? (i := 506) (by decide +kernel), List.mem_of_getElem? (i := 694) (by decide +kernel), List.mem_of_getElem? (i := 695) (by decide +kernel)⟩
theorem lw_p42 : lw_okq (⟨"SlotFileModel", "pagesOf", "(I)I"⟩, 8) := ⟨⟨by decide +kernel, by decide +kernel⟩, List.mem_of_getElem? (i := 506) (by decide +kernel), List.mem_of_getElem? (i := 698) (by decide +kernel), List.mem_of_getElem? (i := 699) (by decide +kernel)⟩
def lw_privs_3 : List (MethodName × Nat) := [(⟨"SlotFileModel", "keep", "(IIIII)V"⟩, 8), (⟨"SlotFileModel", "note", "(IIII)V"⟩, 8), (⟨"SlotFileModel", "isRecord", "(I)Z"⟩, 8), (⟨"SlotFileModel", "updates", "(III)Z"⟩, 8), (⟨"SlotFileModel", "fits", "(III)Z"⟩, 8), (⟨"SlotFileModel", "takeCell", "(II)V"⟩, 8), (⟨"SlotFileModel", "deletes", "(I)V"⟩, 8), (⟨"SlotFileModel", "stubs", "(I)I"⟩, 8), (⟨"SlotFileModel", "kindOf", "(II)I"⟩, 8), (⟨"SlotFileModel", "records", "(Z)I"⟩, 8), (⟨"SlotFileModel", "pagesOf", "(I)I"⟩, 8)]
theorem lw_r3 : ∀ q ∈ lw_privs_3, lw_okq q := List.forall_mem_cons.mpr ⟨lw_p32, List.forall_mem_cons.mpr ⟨lw_p33, List.forall_mem_cons.mpr ⟨lw_p34, List.forall_mem_cons.mpr ⟨lw_p35, List.forall_mem_cons.mpr ⟨lw_p36, List.forall_mem_cons.mpr ⟨lw_p37, List.forall_mem_cons.mpr ⟨lw_p38, List.forall_mem_cons.mpr ⟨lw_p39, List.forall_mem_cons.mpr ⟨lw_p40, List.forall_mem_cons.mpr ⟨lw_p41, List.forall_mem_cons.mpr ⟨lw_p42, fun _ h => absurd h List.not_mem_nil⟩⟩⟩⟩⟩⟩⟩⟩⟩⟩⟩
def lw_privs : List (MethodName × Nat) := lw_privs_1 ++ (lw_privs_2 ++ (lw_privs_3))
def lw_tbl : List Cond := k2_sels lw_privs ++ tables_1
theorem lw_privs_ok : ∀ q ∈ lw_privs, lw_okq q := by
  show ∀ q ∈ lw_privs_1 ++ (lw_privs_2 ++ (lw_privs_3)), lw_okq q
  exact List.forall_mem_append.mpr ⟨lw_r1, List.forall_mem_append.mpr ⟨lw_r2, lw_r3⟩⟩
end
section
def RX0 : String := "SlotFile$Log"
def TX0 : u_T := fun k => match k with
  | 0 => ("SlotFile$Log", "records", "[I", true)
  | 1 => ("SlotFile$Log", "lengths", "[I", true)
  | 2 => ("SlotFile$Log", "seeds", "[I", true)
  | _ => ("SlotFile$Log", "size", "I", false)
def tyX0 : Nat → FieldType := fun k => match k with
  | 0 => .array .int
  | 1 => .array .int
  | 2 => .array .int
  | _ => .int
abbrev wsX00 : List Cond := u_ws RX0 TX0 4
theorem nmX0 : ∀ a, a < 4 → ∀ b, b < 4 → a ≠ b → (TX0 a).2.1 ≠ (TX0 b).2.1 := by decide +kernel
theorem tyX0_ok : ∀ k, k < 4 → parseFieldDescriptor (TX0 k).2.2.1 = some (tyX0 k) := by decide +kernel
abbrev cX0_init : ByteArray := prog_2_method_1_code
def yX0_init : MethodName := ⟨RX0, "<init>", "()V"⟩
abbrev cX0_add : ByteArray := prog_2_method_2_code
def yX0_add : MethodName := ⟨RX0, "add", "(III)V"⟩
abbrev cX0_redo : ByteArray := prog_2_method_3_code
def yX0_redo : MethodName := ⟨RX0, "redo", "(LSlotFile$Store;I)V"⟩
def RX1 : String := "SlotFile$Page"
def TX1 : u_T := fun k => match k with
  | 0 => ("SlotFile$Page", "kind", "I", false)
  | 1 => ("SlotFile$Page", "slots", "I", false)
  | 2 => ("SlotFile$Page", "cells", "I", false)
  | 3 => ("SlotFile$Page", "stubs", "I", false)
  | 4 => ("SlotFile$Page", "used", "I", false)
  | 5 => ("SlotFile$Page", "end", "I", false)
  | 6 => ("SlotFile$Page", "chainNext", "I", false)
  | 7 => ("SlotFile$Page", "chainBytes", "I", false)
  | 8 => ("SlotFile$Page", "compactings", "I", false)
  | 9 => ("SlotFile$Page", "kinds", "[I", true)
  | 10 => ("SlotFile$Page", "lengths", "[I", true)
  | 11 => ("SlotFile$Page", "seeds", "[I", true)
  | _ => ("SlotFile$Page", "links", "[I", true)
def tyX1 : Nat → FieldType := fun k => match k with
  | 0 => .int
  | 1 => .int
  | 2 => .int
  | 3 => .int
  | 4 => .int
  | 5 => .int
  | 6 => .int
  | 7 => .int
  | 8 => .int
  | 9 => .array .int
  | 10 => .array .int
  | 11 => .array .int
  | _ => .array .int
abbrev wsX10 : List Cond := u_ws RX1 TX1 13
theorem nmX1 : ∀ a, a < 13 → ∀ b, b < 13 → a ≠ b → (TX1 a).2.1 ≠ (TX1 b).2.1 := by decide +kernel
theorem tyX1_ok : ∀ k, k < 13 → parseFieldDescriptor (TX1 k).2.2.1 = some (tyX1 k) := by decide +kernel
abbrev cX1_init : ByteArray := prog_3_method_1_code
def yX1_init : MethodName := ⟨RX1, "<init>", "()V"⟩
abbrev cX1_copyFrom : ByteArray := prog_3_method_2_code
def yX1_copyFrom : MethodName := ⟨RX1, "copyFrom", "(LSlotFile$Page;)V"⟩
abbrev cX1_room : ByteArray := prog_3_method_3_code
def yX1_room : MethodName := ⟨RX1, "room", "()I"⟩
abbrev cX1_takesNewCells : ByteArray := prog_3_method_4_code
def yX1_takesNewCells : MethodName := ⟨RX1, "takesNewCells", "()Z"⟩
abbrev cX1_hasRoomInstead : ByteArray := prog_3_method_5_code
def yX1_hasRoomInstead : MethodName := ⟨RX1, "hasRoomInstead", "(II)Z"⟩
abbrev cX1_hasHome : ByteArray := prog_3_method_6_code
def yX1_hasHome : MethodName := ⟨RX1, "hasHome", "(I)Z"⟩
abbrev cX1_firstHomeFrom : ByteArray := prog_3_method_7_code
def yX1_firstHomeFrom : MethodName := ⟨RX1, "firstHomeFrom", "(I)I"⟩
abbrev cX1_put : ByteArray := prog_3_method_8_code
def yX1_put : MethodName := ⟨RX1, "put", "(IIII)I"⟩
abbrev cX1_change : ByteArray := prog_3_method_9_code
def yX1_change : MethodName := ⟨RX1, "change", "(IIIII)V"⟩
abbrev cX1_remove : ByteArray := prog_3_method_10_code
def yX1_remove : MethodName := ⟨RX1, "remove", "(I)V"⟩
abbrev cX1_becomeChain : ByteArray := prog_3_method_11_code
def yX1_becomeChain : MethodName := ⟨RX1, "becomeChain", "(I)V"⟩
abbrev cX1_becomeFree : ByteArray := prog_3_method_12_code
def yX1_becomeFree : MethodName := ⟨RX1, "becomeFree", "()V"⟩
abbrev cX1_bytesAt : ByteArray := prog_3_method_13_code
def yX1_bytesAt : MethodName := ⟨RX1, "bytesAt", "(I)I"⟩
abbrev cX1_leastEmptySlot : ByteArray := prog_3_method_14_code
def yX1_leastEmptySlot : MethodName := ⟨RX1, "leastEmptySlot", "()I"⟩
abbrev cX1_claimEnd : ByteArray := prog_3_method_15_code
def yX1_claimEnd : MethodName := ⟨RX1, "claimEnd", "(II)V"⟩
abbrev cX1_erase : ByteArray := prog_3_method_16_code
def yX1_erase : MethodName := ⟨RX1, "erase", "(I)V"⟩
abbrev cX1_write : ByteArray := prog_3_method_17_code
def yX1_write : MethodName := ⟨RX1, "write", "(IIIII)V"⟩
def RX2 : String := "SlotFile$Store"
def TX2 : u_T := fun k => match k with
  | _ => ("SlotFile$Store", "pages", "[LSlotFile$Page;", true)
def tyX2 : Nat → FieldType := fun k => match k with
  | _ => .array (.object "SlotFile$Page")
abbrev wsX20 : List Cond := u_ws RX2 TX2 1
theorem nmX2 : ∀ a, a < 1 → ∀ b, b < 1 → a ≠ b → (TX2 a).2.1 ≠ (TX2 b).2.1 := by decide +kernel
theorem tyX2_ok : ∀ k, k < 1 → parseFieldDescriptor (TX2 k).2.2.1 = some (tyX2 k) := by decide +kernel
abbrev cX2_init : ByteArray := prog_4_method_1_code
def yX2_init : MethodName := ⟨RX2, "<init>", "()V"⟩
abbrev cX2_copyFrom : ByteArray := prog_4_method_2_code
def yX2_copyFrom : MethodName := ⟨RX2, "copyFrom", "(LSlotFile$Store;)V"⟩
abbrev cX2_hasRecord : ByteArray := prog_4_method_3_code
def yX2_hasRecord : MethodName := ⟨RX2, "hasRecord", "(I)Z"⟩
abbrev cX2_firstRecordFrom : ByteArray := prog_4_method_4_code
def yX2_firstRecordFrom : MethodName := ⟨RX2, "firstRecordFrom", "(I)I"⟩
abbrev cX2_valueCell : ByteArray := prog_4_method_5_code
def yX2_valueCell : MethodName := ⟨RX2, "valueCell", "(I)I"⟩
abbrev cX2_lengthOf : ByteArray := prog_4_method_6_code
def yX2_lengthOf : MethodName := ⟨RX2, "lengthOf", "(I)I"⟩
abbrev cX2_seedOf : ByteArray := prog_4_method_7_code
def yX2_seedOf : MethodName := ⟨RX2, "seedOf", "(I)I"⟩
abbrev cX2_chainOf : ByteArray := prog_4_method_8_code
def yX2_chainOf : MethodName := ⟨RX2, "chainOf", "(I)I"⟩
abbrev cX2_addRecord : ByteArray := prog_4_method_9_code
def yX2_addRecord : MethodName := ⟨RX2, "addRecord", "(II)I"⟩
abbrev cX2_changeRecord : ByteArray := prog_4_method_10_code
def yX2_changeRecord : MethodName := ⟨RX2, "changeRecord", "(III)Z"⟩
abbrev cX2_removeRecord : ByteArray := prog_4_method_11_code
def yX2_removeRecord : MethodName := ⟨RX2, "removeRecord", "(I)V"⟩
abbrev cX2_changeAtHome : ByteArray := prog_4_method_12_code
def yX2_changeAtHome : MethodName := ⟨RX2, "changeAtHome", "(IIII)Z"⟩
abbrev cX2_changeAway : ByteArray := prog_4_method_13_code
def yX2_changeAway : MethodName := ⟨RX2, "changeAway", "(IIII)Z"⟩
abbrev cX2_placeFor : ByteArray := prog_4_method_14_code
def yX2_placeFor : MethodName := ⟨RX2, "placeFor", "(III)I"⟩
abbrev cX2_leastClassPage : ByteArray := prog_4_method_15_code
def yX2_leastClassPage : MethodName := ⟨RX2, "leastClassPage", "(III)I"⟩
abbrev cX2_firstPageWithRoom : ByteArray := prog_4_method_16_code
def yX2_firstPageWithRoom : MethodName := ⟨RX2, "firstPageWithRoom", "(III)I"⟩
abbrev cX2_leastFreePage : ByteArray := prog_4_method_17_code
def yX2_leastFreePage : MethodName := ⟨RX2, "leastFreePage", "(I)I"⟩
abbrev cX2_hasPagesForChain : ByteArray := prog_4_method_18_code
def yX2_hasPagesForChain : MethodName := ⟨RX2, "hasPagesForChain", "(I)Z"⟩
abbrev cX2_takeChain : ByteArray := prog_4_method_19_code
def yX2_takeChain : MethodName := ⟨RX2, "takeChain", "(I)I"⟩
abbrev cX2_freeChain : ByteArray := prog_4_method_20_code
def yX2_freeChain : MethodName := ⟨RX2, "freeChain", "(I)V"⟩
abbrev cX2_pagesThatAre : ByteArray := prog_4_method_21_code
def yX2_pagesThatAre : MethodName := ⟨RX2, "pagesThatAre", "(I)I"⟩
abbrev cX2_cellCount : ByteArray := prog_4_method_22_code
def yX2_cellCount : MethodName := ⟨RX2, "cellCount", "()I"⟩
abbrev cX2_stubCount : ByteArray := prog_4_method_23_code
def yX2_stubCount : MethodName := ⟨RX2, "stubCount", "()I"⟩
abbrev cX2_compactingCount : ByteArray := prog_4_method_24_code
def yX2_compactingCount : MethodName := ⟨RX2, "compactingCount", "()I"⟩
def RX3 : String := "SlotFile"
def TX3 : u_T := fun k => match k with
  | 0 => ("SlotFile", "live", "LSlotFile$Store;", true)
  | 1 => ("SlotFile", "synced", "LSlotFile$Store;", true)
  | 2 => ("SlotFile", "log", "LSlotFile$Log;", true)
  | _ => ("SlotFile", "crashes", "I", false)
def tyX3 : Nat → FieldType := fun k => match k with
  | 0 => .object "SlotFile$Store"
  | 1 => .object "SlotFile$Store"
  | 2 => .object "SlotFile$Log"
  | _ => .int
abbrev wsX30 : List Cond := u_ws RX3 TX3 4
theorem nmX3 : ∀ a, a < 4 → ∀ b, b < 4 → a ≠ b → (TX3 a).2.1 ≠ (TX3 b).2.1 := by decide +kernel
theorem tyX3_ok : ∀ k, k < 4 → parseFieldDescriptor (TX3 k).2.2.1 = some (tyX3 k) := by decide +kernel
abbrev cX3_init : ByteArray := prog_1_method_1_code
def yX3_init : MethodName := ⟨RX3, "<init>", "()V"⟩
abbrev cX3_insert : ByteArray := prog_1_method_2_code
def yX3_insert : MethodName := ⟨RX3, "insert", "(II)I"⟩
abbrev cX3_update : ByteArray := prog_1_method_3_code
def yX3_update : MethodName := ⟨RX3, "update", "(III)Z"⟩
abbrev cX3_delete : ByteArray := prog_1_method_4_code
def yX3_delete : MethodName := ⟨RX3, "delete", "(I)I"⟩
abbrev cX3_length : ByteArray := prog_1_method_5_code
def yX3_length : MethodName := ⟨RX3, "length", "(I)I"⟩
abbrev cX3_byteAt : ByteArray := prog_1_method_6_code
def yX3_byteAt : MethodName := ⟨RX3, "byteAt", "(II)I"⟩
abbrev cX3_where : ByteArray := prog_1_method_7_code
def yX3_where : MethodName := ⟨RX3, "where", "(II)I"⟩
abbrev cX3_next : ByteArray := prog_1_method_8_code
def yX3_next : MethodName := ⟨RX3, "next", "(I)I"⟩
abbrev cX3_page : ByteArray := prog_1_method_9_code
def yX3_page : MethodName := ⟨RX3, "page", "(II)I"⟩
abbrev cX3_slot : ByteArray := prog_1_method_10_code
def yX3_slot : MethodName := ⟨RX3, "slot", "(II)I"⟩
abbrev cX3_sync : ByteArray := prog_1_method_11_code
def yX3_sync : MethodName := ⟨RX3, "sync", "()I"⟩
abbrev cX3_crash : ByteArray := prog_1_method_12_code
def yX3_crash : MethodName := ⟨RX3, "crash", "(I)I"⟩
abbrev cX3_total : ByteArray := prog_1_method_13_code
def yX3_total : MethodName := ⟨RX3, "total", "(I)I"⟩
abbrev cX3_noteChange : ByteArray := prog_1_method_14_code
def yX3_noteChange : MethodName := ⟨RX3, "noteChange", "(III)V"⟩
abbrev cX3_settle : ByteArray := prog_1_method_15_code
def yX3_settle : MethodName := ⟨RX3, "settle", "()V"⟩
abbrev cX3_checkRecord : ByteArray := prog_1_method_16_code
def yX3_checkRecord : MethodName := ⟨RX3, "checkRecord", "(I)V"⟩
abbrev cX3_checkValue : ByteArray := prog_1_method_17_code
def yX3_checkValue : MethodName := ⟨RX3, "checkValue", "(II)V"⟩
abbrev cX3_checkPage : ByteArray := prog_1_method_18_code
def yX3_checkPage : MethodName := ⟨RX3, "checkPage", "(I)V"⟩
abbrev cX3_cellBytes : ByteArray := prog_1_method_19_code
def yX3_cellBytes : MethodName := ⟨RX3, "cellBytes", "(II)I"⟩
abbrev cX3_chainPages : ByteArray := prog_1_method_20_code
def yX3_chainPages : MethodName := ⟨RX3, "chainPages", "(I)I"⟩
def RX4 : String := "SlotFileModel"
def TX4 : u_T := fun k => match k with
  | 0 => ("SlotFileModel", "d", "[I", true)
  | 1 => ("SlotFileModel", "synced", "[I", true)
  | 2 => ("SlotFileModel", "changes", "[I", true)
  | 3 => ("SlotFileModel", "changeCount", "I", false)
  | 4 => ("SlotFileModel", "compacted", "I", false)
  | 5 => ("SlotFileModel", "crashes", "I", false)
  | 6 => ("SlotFileModel", "again", "Z", false)
  | _ => ("SlotFileModel", "thrown", "I", false)
def tyX4 : Nat → FieldType := fun k => match k with
  | 0 => .array .int
  | 1 => .array .int
  | 2 => .array .int
  | 3 => .int
  | 4 => .int
  | 5 => .int
  | 6 => .boolean
  | _ => .int
abbrev wsX40 : List Cond := u_ws RX4 TX4 8
theorem nmX4 : ∀ a, a < 8 → ∀ b, b < 8 → a ≠ b → (TX4 a).2.1 ≠ (TX4 b).2.1 := by decide +kernel
theorem tyX4_ok : ∀ k, k < 8 → parseFieldDescriptor (TX4 k).2.2.1 = some (tyX4 k) := by decide +kernel
abbrev cX4_init : ByteArray := prog_6_method_1_code
def yX4_init : MethodName := ⟨RX4, "<init>", "()V"⟩
abbrev cX4_thrown : ByteArray := prog_6_method_2_code
def yX4_thrown : MethodName := ⟨RX4, "thrown", "()I"⟩
abbrev cX4_fails : ByteArray := prog_6_method_3_code
def yX4_fails : MethodName := ⟨RX4, "fails", "(ZI)Z"⟩
abbrev cX4_copy : ByteArray := prog_6_method_4_code
def yX4_copy : MethodName := ⟨RX4, "copy", "([I[I)V"⟩
abbrev cX4_sizeOf : ByteArray := prog_6_method_5_code
def yX4_sizeOf : MethodName := ⟨RX4, "sizeOf", "(II)I"⟩
abbrev cX4_slots : ByteArray := prog_6_method_6_code
def yX4_slots : MethodName := ⟨RX4, "slots", "(I)I"⟩
abbrev cX4_cells : ByteArray := prog_6_method_7_code
def yX4_cells : MethodName := ⟨RX4, "cells", "(I)I"⟩
abbrev cX4_taken : ByteArray := prog_6_method_8_code
def yX4_taken : MethodName := ⟨RX4, "taken", "(I)I"⟩
abbrev cX4_room : ByteArray := prog_6_method_9_code
def yX4_room : MethodName := ⟨RX4, "room", "(I)I"⟩
abbrev cX4_putCell : ByteArray := prog_6_method_10_code
def yX4_putCell : MethodName := ⟨RX4, "putCell", "(IIII)V"⟩
abbrev cX4_takeCell : ByteArray := prog_6_method_11_code
def yX4_takeCell : MethodName := ⟨RX4, "takeCell", "(II)V"⟩
abbrev cX4_firstFree : ByteArray := prog_6_method_12_code
def yX4_firstFree : MethodName := ⟨RX4, "firstFree", "()I"⟩
abbrev cX4_freePages : ByteArray := prog_6_method_13_code
def yX4_freePages : MethodName := ⟨RX4, "freePages", "()I"⟩
abbrev cX4_placeFor : ByteArray := prog_6_method_14_code
def yX4_placeFor : MethodName := ⟨RX4, "placeFor", "(III)I"⟩
abbrev cX4_slotIn : ByteArray := prog_6_method_15_code
def yX4_slotIn : MethodName := ⟨RX4, "slotIn", "(I)I"⟩
abbrev cX4_cellSize : ByteArray := prog_6_method_16_code
def yX4_cellSize : MethodName := ⟨RX4, "cellSize", "(IZ)I"⟩
abbrev cX4_chainSize : ByteArray := prog_6_method_17_code
def yX4_chainSize : MethodName := ⟨RX4, "chainSize", "(I)I"⟩
abbrev cX4_takeChain : ByteArray := prog_6_method_18_code
def yX4_takeChain : MethodName := ⟨RX4, "takeChain", "(I)I"⟩
abbrev cX4_freeChain : ByteArray := prog_6_method_19_code
def yX4_freeChain : MethodName := ⟨RX4, "freeChain", "(I)V"⟩
abbrev cX4_isRecord : ByteArray := prog_6_method_20_code
def yX4_isRecord : MethodName := ⟨RX4, "isRecord", "(I)Z"⟩
abbrev cX4_keep : ByteArray := prog_6_method_21_code
def yX4_keep : MethodName := ⟨RX4, "keep", "(IIIII)V"⟩
abbrev cX4_inserts : ByteArray := prog_6_method_22_code
def yX4_inserts : MethodName := ⟨RX4, "inserts", "(II)I"⟩
abbrev cX4_fits : ByteArray := prog_6_method_23_code
def yX4_fits : MethodName := ⟨RX4, "fits", "(III)Z"⟩
abbrev cX4_updates : ByteArray := prog_6_method_24_code
def yX4_updates : MethodName := ⟨RX4, "updates", "(III)Z"⟩
abbrev cX4_deletes : ByteArray := prog_6_method_25_code
def yX4_deletes : MethodName := ⟨RX4, "deletes", "(I)V"⟩
abbrev cX4_note : ByteArray := prog_6_method_26_code
def yX4_note : MethodName := ⟨RX4, "note", "(IIII)V"⟩
abbrev cX4_isValue : ByteArray := prog_6_method_27_code
def yX4_isValue : MethodName := ⟨RX4, "isValue", "(II)Z"⟩
abbrev cX4_insert : ByteArray := prog_6_method_28_code
def yX4_insert : MethodName := ⟨RX4, "insert", "(II)I"⟩
abbrev cX4_update : ByteArray := prog_6_method_29_code
def yX4_update : MethodName := ⟨RX4, "update", "(III)Z"⟩
abbrev cX4_delete : ByteArray := prog_6_method_30_code
def yX4_delete : MethodName := ⟨RX4, "delete", "(I)I"⟩
abbrev cX4_length : ByteArray := prog_6_method_31_code
def yX4_length : MethodName := ⟨RX4, "length", "(I)I"⟩
abbrev cX4_byteAt : ByteArray := prog_6_method_32_code
def yX4_byteAt : MethodName := ⟨RX4, "byteAt", "(II)I"⟩
abbrev cX4_where : ByteArray := prog_6_method_33_code
def yX4_where : MethodName := ⟨RX4, "where", "(II)I"⟩
abbrev cX4_next : ByteArray := prog_6_method_34_code
def yX4_next : MethodName := ⟨RX4, "next", "(I)I"⟩
abbrev cX4_kindOf : ByteArray := prog_6_method_35_code
def yX4_kindOf : MethodName := ⟨RX4, "kindOf", "(II)I"⟩
abbrev cX4_stubs : ByteArray := prog_6_method_36_code
def yX4_stubs : MethodName := ⟨RX4, "stubs", "(I)I"⟩
abbrev cX4_page : ByteArray := prog_6_method_37_code
def yX4_page : MethodName := ⟨RX4, "page", "(II)I"⟩
abbrev cX4_slot : ByteArray := prog_6_method_38_code
def yX4_slot : MethodName := ⟨RX4, "slot", "(II)I"⟩
abbrev cX4_sync : ByteArray := prog_6_method_39_code
def yX4_sync : MethodName := ⟨RX4, "sync", "()I"⟩
abbrev cX4_crash : ByteArray := prog_6_method_40_code
def yX4_crash : MethodName := ⟨RX4, "crash", "(I)I"⟩
abbrev cX4_pagesOf : ByteArray := prog_6_method_41_code
def yX4_pagesOf : MethodName := ⟨RX4, "pagesOf", "(I)I"⟩
abbrev cX4_records : ByteArray := prog_6_method_42_code
def yX4_records : MethodName := ⟨RX4, "records", "(Z)I"⟩
abbrev cX4_total : ByteArray := prog_6_method_43_code
def yX4_total : MethodName := ⟨RX4, "total", "(I)I"⟩
def RJx145de : String := "java/io/Serializable"
def TJx145de : u_T := fun k => match k with
  | _ => ("", "", "", false)
def tyJx145de : Nat → FieldType := fun k => match k with
  | _ => .int
abbrev wsJx145de0 : List Cond := u_ws RJx145de TJx145de 0
theorem nmJx145de : ∀ a, a < 0 → ∀ b, b < 0 → a ≠ b → (TJx145de a).2.1 ≠ (TJx145de b).2.1 := by decide +kernel
theorem tyJx145de_ok : ∀ k, k < 0 → parseFieldDescriptor (TJx145de k).2.2.1 = some (tyJx145de k) := by decide +kernel
def RJ9 : String := "java/lang/Math"
def TJ9 : u_T := fun k => match k with
  | _ => ("", "", "", false)
def tyJ9 : Nat → FieldType := fun k => match k with
  | _ => .int
abbrev wsJ90 : List Cond := u_ws RJ9 TJ9 0
theorem nmJ9 : ∀ a, a < 0 → ∀ b, b < 0 → a ≠ b → (TJ9 a).2.1 ≠ (TJ9 b).2.1 := by decide +kernel
theorem tyJ9_ok : ∀ k, k < 0 → parseFieldDescriptor (TJ9 k).2.2.1 = some (tyJ9 k) := by decide +kernel
abbrev cJ9_max_7cf53 : ByteArray := prog_10_method_65_code
def yJ9_max_7cf53 : MethodName := ⟨RJ9, "max", "(II)I"⟩
abbrev cJ9_min_7cf53 : ByteArray := prog_10_method_69_code
def yJ9_min_7cf53 : MethodName := ⟨RJ9, "min", "(II)I"⟩
def RJ0 : String := "java/lang/String"
def TJ0 : u_T := fun k => match k with
  | _ => ("", "", "", false)
def tyJ0 : Nat → FieldType := fun k => match k with
  | _ => .int
abbrev wsJ00 : List Cond := u_ws RJ0 TJ0 0
theorem nmJ0 : ∀ a, a < 0 → ∀ b, b < 0 → a ≠ b → (TJ0 a).2.1 ≠ (TJ0 b).2.1 := by decide +kernel
theorem tyJ0_ok : ∀ k, k < 0 → parseFieldDescriptor (TJ0 k).2.2.1 = some (tyJ0 k) := by decide +kernel
def RJ10 : String := "java/lang/System"
def TJ10 : u_T := fun k => match k with
  | _ => ("", "", "", false)
def tyJ10 : Nat → FieldType := fun k => match k with
  | _ => .int
abbrev wsJ100 : List Cond := u_ws RJ10 TJ10 0
theorem nmJ10 : ∀ a, a < 0 → ∀ b, b < 0 → a ≠ b → (TJ10 a).2.1 ≠ (TJ10 b).2.1 := by decide +kernel
theorem tyJ10_ok : ∀ k, k < 0 → parseFieldDescriptor (TJ10 k).2.2.1 = some (tyJ10 k) := by decide +kernel
def RL : String := "SlotFileLaw"
abbrev cL_insert : ByteArray := method_3_code
def yL_insert : MethodName := ⟨RL, "insert", "(LSlotFile;II[J)I"⟩
abbrev cL_update : ByteArray := method_4_code
def yL_update : MethodName := ⟨RL, "update", "(LSlotFile;III[J)I"⟩
abbrev cL_delete : ByteArray := method_5_code
def yL_delete : MethodName := ⟨RL, "delete", "(LSlotFile;I[J)I"⟩
abbrev cL_byteAt : ByteArray := method_6_code
def yL_byteAt : MethodName := ⟨RL, "byteAt", "(LSlotFile;II[J)I"⟩
abbrev cL_where : ByteArray := method_7_code
def yL_where : MethodName := ⟨RL, "where", "(LSlotFile;II[J)I"⟩
abbrev cL_page : ByteArray := method_8_code
def yL_page : MethodName := ⟨RL, "page", "(LSlotFile;II[J)I"⟩
abbrev cL_slot : ByteArray := method_9_code
def yL_slot : MethodName := ⟨RL, "slot", "(LSlotFile;II[J)I"⟩
abbrev cL_crash : ByteArray := method_10_code
def yL_crash : MethodName := ⟨RL, "crash", "(LSlotFile;I[J)I"⟩
abbrev cL_total : ByteArray := method_11_code
def yL_total : MethodName := ⟨RL, "total", "(LSlotFile;I[J)I"⟩
abbrev cL_law : ByteArray := code
def yL_law : MethodName := ⟨RL, "law", "([I)Z"⟩
abbrev vwCl : List vw_C := [(RX0, TX0, 4), (RX1, TX1, 13), (RX2, TX2, 1), (RX3, TX3, 4), (RX4, TX4, 8)]
end
section
theorem dX0_init_0 : decode cX0_init 0 = .ok (.aload_n 0, 1) := by decide +kernel
theorem dX0_init_1 : decode cX0_init 1 = .ok (.invokespecial 3, 3) := by decide +kernel
theorem dX0_init_4 : decode cX0_init 4 = .ok (.aload_n 0, 1) := by decide +kernel
theorem dX0_init_5 : decode cX0_init 5 = .ok (.sipush 512, 3) := by decide +kernel
theorem dX0_init_8 : decode cX0_init 8 = .ok (.newarray .int, 2) := by decide +kernel
theorem dX0_init_10 : decode cX0_init 10 = .ok (.putfield 9, 3) := by decide +kernel
theorem dX0_init_13 : decode cX0_init 13 = .ok (.aload_n 0, 1) := by decide +kernel
theorem dX0_init_14 : decode cX0_init 14 = .ok (.sipush 512, 3) := by decide +kernel
theorem dX0_init_17 : decode cX0_init 17 = .ok (.newarray .int, 2) := by decide +kernel
theorem dX0_init_19 : decode cX0_init 19 = .ok (.putfield 15, 3) := by decide +kernel
theorem dX0_init_22 : decode cX0_init 22 = .ok (.aload_n 0, 1) := by decide +kernel
theorem dX0_init_23 : decode cX0_init 23 = .ok (.sipush 512, 3) := by decide +kernel
theorem dX0_init_26 : decode cX0_init 26 = .ok (.newarray .int, 2) := by decide +kernel
theorem dX0_init_28 : decode cX0_init 28 = .ok (.putfield 18, 3) := by decide +kernel
theorem dX0_init_31 : decode cX0_init 31 = .ok (.aload_n 0, 1) := by decide +kernel
theorem dX0_init_32 : decode cX0_init 32 = .ok (.iconst 0, 1) := by decide +kernel
theorem dX0_init_33 : decode cX0_init 33 = .ok (.putfield 21, 3) := by decide +kernel
theorem dX0_init_36 : decode cX0_init 36 = .ok (.return_, 1) := by decide +kernel
theorem dX0_add_0 : decode cX0_add 0 = .ok (.aload_n 0, 1) := by decide +kernel
theorem dX0_add_1 : decode cX0_add 1 = .ok (.getfield 9, 3) := by decide +kernel
theorem dX0_add_4 : decode cX0_add 4 = .ok (.aload_n 0, 1) := by decide +kernel
theorem dX0_add_5 : decode cX0_add 5 = .ok (.getfield 21, 3) := by decide +kernel
theorem dX0_add_8 : decode cX0_add 8 = .ok (.iload_n 1, 1) := by decide +kernel
theorem dX0_add_9 : decode cX0_add 9 = .ok (.iastore, 1) := by decide +kernel
theorem dX0_add_10 : decode cX0_add 10 = .ok (.aload_n 0, 1) := by decide +kernel
theorem dX0_add_11 : decode cX0_add 11 = .ok (.getfield 15, 3) := by decide +kernel
theorem dX0_add_14 : decode cX0_add 14 = .ok (.aload_n 0, 1) := by decide +kernel
theorem dX0_add_15 : decode cX0_add 15 = .ok (.getfield 21, 3) := by decide +kernel
theorem dX0_add_18 : decode cX0_add 18 = .ok (.iload_n 2, 1) := by decide +kernel
theorem dX0_add_19 : decode cX0_add 19 = .ok (.iastore, 1) := by decide +kernel
theorem dX0_add_20 : decode cX0_add 20 = .ok (.aload_n 0, 1) := by decide +kernel
theorem dX0_add_21 : decode cX0_add 21 = .ok (.getfield 18, 3) := by decide +kernel
theorem dX0_add_24 : decode cX0_add 24 = .ok (.aload_n 0, 1) := by decide +kernel
theorem dX0_add_25 : decode cX0_add 25 = .ok (.getfield 21, 3) := by decide +kernel
theorem dX0_add_28 : decode cX0_add 28 = .ok (.iload_n 3, 1) := by decide +kernel
theorem dX0_add_29 : decode cX0_add 29 = .ok (.iastore, 1) := by decide +kernel
theorem dX0_add_30 : decode cX0_add 30 = .ok (.aload_n 0, 1) := by decide +kernel
theorem dX0_add_31 : decode cX0_add 31 = .ok (.dup, 1) := by decide +kernel
theorem dX0_add_32 : decode cX0_add 32 = .ok (.getfield 21, 3) := by decide +kernel
theorem dX0_add_35 : decode cX0_add 35 = .ok (.iconst 1, 1) := by decide +kernel
theorem dX0_add_36 : decode cX0_add 36 = .ok (.iadd, 1) := by decide +kernel
theorem dX0_add_37 : decode cX0_add 37 = .ok (.putfield 21, 3) := by decide +kernel
theorem dX0_add_40 : decode cX0_add 40 = .ok (.return_, 1) := by decide +kernel
theorem dX0_redo_0 : decode cX0_redo 0 = .ok (.iconst 0, 1) := by decide +kernel
theorem dX0_redo_1 : decode cX0_redo 1 = .ok (.istore_n 3, 1) := by decide +kernel
theorem dX0_redo_2 : decode cX0_redo 2 = .ok (.iload_n 3, 1) := by decide +kernel
theorem dX0_redo_3 : decode cX0_redo 3 = .ok (.iload_n 2, 1) := by decide +kernel
theorem dX0_redo_4 : decode cX0_redo 4 = .ok (.if_icmp .ge 85, 3) := by decide +kernel
theorem dX0_redo_7 : decode cX0_redo 7 = .ok (.aload_n 0, 1) := by decide +kernel
theorem dX0_redo_8 : decode cX0_redo 8 = .ok (.getfield 9, 3) := by decide +kernel
theorem dX0_redo_11 : decode cX0_redo 11 = .ok (.iload_n 3, 1) := by decide +kernel
theorem dX0_redo_12 : decode cX0_redo 12 = .ok (.iaload, 1) := by decide +kernel
theorem dX0_redo_13 : decode cX0_redo 13 = .ok (.iconst (-1), 1) := by decide +kernel
theorem dX0_redo_14 : decode cX0_redo 14 = .ok (.if_icmp .ne 23, 3) := by decide +kernel
theorem dX0_redo_17 : decode cX0_redo 17 = .ok (.aload_n 1, 1) := by decide +kernel
theorem dX0_redo_18 : decode cX0_redo 18 = .ok (.aload_n 0, 1) := by decide +kernel
theorem dX0_redo_19 : decode cX0_redo 19 = .ok (.getfield 15, 3) := by decide +kernel
theorem dX0_redo_22 : decode cX0_redo 22 = .ok (.iload_n 3, 1) := by decide +kernel
theorem dX0_redo_23 : decode cX0_redo 23 = .ok (.iaload, 1) := by decide +kernel
theorem dX0_redo_24 : decode cX0_redo 24 = .ok (.aload_n 0, 1) := by decide +kernel
theorem dX0_redo_25 : decode cX0_redo 25 = .ok (.getfield 18, 3) := by decide +kernel
theorem dX0_redo_28 : decode cX0_redo 28 = .ok (.iload_n 3, 1) := by decide +kernel
theorem dX0_redo_29 : decode cX0_redo 29 = .ok (.iaload, 1) := by decide +kernel
theorem dX0_redo_30 : decode cX0_redo 30 = .ok (.invokevirtual 25, 3) := by decide +kernel
theorem dX0_redo_33 : decode cX0_redo 33 = .ok (.pop, 1) := by decide +kernel
theorem dX0_redo_34 : decode cX0_redo 34 = .ok (.goto 49, 3) := by decide +kernel
theorem dX0_redo_37 : decode cX0_redo 37 = .ok (.aload_n 0, 1) := by decide +kernel
theorem dX0_redo_38 : decode cX0_redo 38 = .ok (.getfield 15, 3) := by decide +kernel
theorem dX0_redo_41 : decode cX0_redo 41 = .ok (.iload_n 3, 1) := by decide +kernel
theorem dX0_redo_42 : decode cX0_redo 42 = .ok (.iaload, 1) := by decide +kernel
theorem dX0_redo_43 : decode cX0_redo 43 = .ok (.iconst (-1), 1) := by decide +kernel
theorem dX0_redo_44 : decode cX0_redo 44 = .ok (.if_icmp .ne 16, 3) := by decide +kernel
theorem dX0_redo_47 : decode cX0_redo 47 = .ok (.aload_n 1, 1) := by decide +kernel
theorem dX0_redo_48 : decode cX0_redo 48 = .ok (.aload_n 0, 1) := by decide +kernel
theorem dX0_redo_49 : decode cX0_redo 49 = .ok (.getfield 9, 3) := by decide +kernel
theorem dX0_redo_52 : decode cX0_redo 52 = .ok (.iload_n 3, 1) := by decide +kernel
theorem dX0_redo_53 : decode cX0_redo 53 = .ok (.iaload, 1) := by decide +kernel
theorem dX0_redo_54 : decode cX0_redo 54 = .ok (.invokevirtual 31, 3) := by decide +kernel
theorem dX0_redo_57 : decode cX0_redo 57 = .ok (.goto 26, 3) := by decide +kernel
theorem dX0_redo_60 : decode cX0_redo 60 = .ok (.aload_n 1, 1) := by decide +kernel
theorem dX0_redo_61 : decode cX0_redo 61 = .ok (.aload_n 0, 1) := by decide +kernel
theorem dX0_redo_62 : decode cX0_redo 62 = .ok (.getfield 9, 3) := by decide +kernel
theorem dX0_redo_65 : decode cX0_redo 65 = .ok (.iload_n 3, 1) := by decide +kernel
theorem dX0_redo_66 : decode cX0_redo 66 = .ok (.iaload, 1) := by decide +kernel
theorem dX0_redo_67 : decode cX0_redo 67 = .ok (.aload_n 0, 1) := by decide +kernel
theorem dX0_redo_68 : decode cX0_redo 68 = .ok (.getfield 15, 3) := by decide +kernel
theorem dX0_redo_71 : decode cX0_redo 71 = .ok (.iload_n 3, 1) := by decide +kernel
theorem dX0_redo_72 : decode cX0_redo 72 = .ok (.iaload, 1) := by decide +kernel
theorem dX0_redo_73 : decode cX0_redo 73 = .ok (.aload_n 0, 1) := by decide +kernel
theorem dX0_redo_74 : decode cX0_redo 74 = .ok (.getfield 18, 3) := by decide +kernel
theorem dX0_redo_77 : decode cX0_redo 77 = .ok (.iload_n 3, 1) := by decide +kernel
theorem dX0_redo_78 : decode cX0_redo 78 = .ok (.iaload, 1) := by decide +kernel
theorem dX0_redo_79 : decode cX0_redo 79 = .ok (.invokevirtual 35, 3) := by decide +kernel
theorem dX0_redo_82 : decode cX0_redo 82 = .ok (.pop, 1) := by decide +kernel
theorem dX0_redo_83 : decode cX0_redo 83 = .ok (.iinc 3 1, 3) := by decide +kernel
theorem dX0_redo_86 : decode cX0_redo 86 = .ok (.goto (-84), 3) := by decide +kernel
theorem dX0_redo_89 : decode cX0_redo 89 = .ok (.return_, 1) := by decide +kernel
theorem dX1_init_0 : decode cX1_init 0 = .ok (.aload_n 0, 1) := by decide +kernel
theorem dX1_init_1 : decode cX1_init 1 = .ok (.invokespecial 3, 3) := by decide +kernel
theorem dX1_init_4 : decode cX1_init 4 = .ok (.aload_n 0, 1) := by decide +kernel
theorem dX1_init_5 : decode cX1_init 5 = .ok (.iconst 0, 1) := by decide +kernel
theorem dX1_init_6 : decode cX1_init 6 = .ok (.putfield 9, 3) := by decide +kernel
theorem dX1_init_9 : decode cX1_init 9 = .ok (.aload_n 0, 1) := by decide +kernel
theorem dX1_init_10 : decode cX1_init 10 = .ok (.iconst 0, 1) := by decide +kernel
theorem dX1_init_11 : decode cX1_init 11 = .ok (.putfield 15, 3) := by decide +kernel
theorem dX1_init_14 : decode cX1_init 14 = .ok (.aload_n 0, 1) := by decide +kernel
theorem dX1_init_15 : decode cX1_init 15 = .ok (.iconst 0, 1) := by decide +kernel
theorem dX1_init_16 : decode cX1_init 16 = .ok (.putfield 18, 3) := by decide +kernel
theorem dX1_init_19 : decode cX1_init 19 = .ok (.aload_n 0, 1) := by decide +kernel
theorem dX1_init_20 : decode cX1_init 20 = .ok (.iconst 0, 1) := by decide +kernel
theorem dX1_init_21 : decode cX1_init 21 = .ok (.putfield 21, 3) := by decide +kernel
theorem dX1_init_24 : decode cX1_init 24 = .ok (.aload_n 0, 1) := by decide +kernel
theorem dX1_init_25 : decode cX1_init 25 = .ok (.iconst 0, 1) := by decide +kernel
theorem dX1_init_26 : decode cX1_init 26 = .ok (.putfield 24, 3) := by decide +kernel
theorem dX1_init_29 : decode cX1_init 29 = .ok (.aload_n 0, 1) := by decide +kernel
theorem dX1_init_30 : decode cX1_init 30 = .ok (.iconst 0, 1) := by decide +kernel
theorem dX1_init_31 : decode cX1_init 31 = .ok (.putfield 27, 3) := by decide +kernel
theorem dX1_init_34 : decode cX1_init 34 = .ok (.aload_n 0, 1) := by decide +kernel
theorem dX1_init_35 : decode cX1_init 35 = .ok (.iconst (-1), 1) := by decide +kernel
theorem dX1_init_36 : decode cX1_init 36 = .ok (.putfield 30, 3) := by decide +kernel
theorem dX1_init_39 : decode cX1_init 39 = .ok (.aload_n 0, 1) := by decide +kernel
theorem dX1_init_40 : decode cX1_init 40 = .ok (.iconst 0, 1) := by decide +kernel
theorem dX1_init_41 : decode cX1_init 41 = .ok (.putfield 33, 3) := by decide +kernel
theorem dX1_init_44 : decode cX1_init 44 = .ok (.aload_n 0, 1) := by decide +kernel
theorem dX1_init_45 : decode cX1_init 45 = .ok (.iconst 0, 1) := by decide +kernel
theorem dX1_init_46 : decode cX1_init 46 = .ok (.putfield 36, 3) := by decide +kernel
theorem dX1_init_49 : decode cX1_init 49 = .ok (.aload_n 0, 1) := by decide +kernel
theorem dX1_init_50 : decode cX1_init 50 = .ok (.bipush 32, 2) := by decide +kernel
theorem dX1_init_52 : decode cX1_init 52 = .ok (.newarray .int, 2) := by decide +kernel
theorem dX1_init_54 : decode cX1_init 54 = .ok (.putfield 39, 3) := by decide +kernel
theorem dX1_init_57 : decode cX1_init 57 = .ok (.aload_n 0, 1) := by decide +kernel
theorem dX1_init_58 : decode cX1_init 58 = .ok (.bipush 32, 2) := by decide +kernel
theorem dX1_init_60 : decode cX1_init 60 = .ok (.newarray .int, 2) := by decide +kernel
theorem dX1_init_62 : decode cX1_init 62 = .ok (.putfield 43, 3) := by decide +kernel
theorem dX1_init_65 : decode cX1_init 65 = .ok (.aload_n 0, 1) := by decide +kernel
theorem dX1_init_66 : decode cX1_init 66 = .ok (.bipush 32, 2) := by decide +kernel
theorem dX1_init_68 : decode cX1_init 68 = .ok (.newarray .int, 2) := by decide +kernel
theorem dX1_init_70 : decode cX1_init 70 = .ok (.putfield 46, 3) := by decide +kernel
theorem dX1_init_73 : decode cX1_init 73 = .ok (.aload_n 0, 1) := by decide +kernel
theorem dX1_init_74 : decode cX1_init 74 = .ok (.bipush 32, 2) := by decide +kernel
theorem dX1_init_76 : decode cX1_init 76 = .ok (.newarray .int, 2) := by decide +kernel
theorem dX1_init_78 : decode cX1_init 78 = .ok (.putfield 49, 3) := by decide +kernel
theorem dX1_init_81 : decode cX1_init 81 = .ok (.return_, 1) := by decide +kernel
theorem dX1_copyFrom_0 : decode cX1_copyFrom 0 = .ok (.aload_n 0, 1) := by decide +kernel
theorem dX1_copyFrom_1 : decode cX1_copyFrom 1 = .ok (.aload_n 1, 1) := by decide +kernel
theorem dX1_copyFrom_2 : decode cX1_copyFrom 2 = .ok (.getfield 9, 3) := by decide +kernel
theorem dX1_copyFrom_5 : decode cX1_copyFrom 5 = .ok (.putfield 9, 3) := by decide +kernel
theorem dX1_copyFrom_8 : decode cX1_copyFrom 8 = .ok (.aload_n 0, 1) := by decide +kernel
theorem dX1_copyFrom_9 : decode cX1_copyFrom 9 = .ok (.aload_n 1, 1) := by decide +kernel
theorem dX1_copyFrom_10 : decode cX1_copyFrom 10 = .ok (.getfield 15, 3) := by decide +kernel
theorem dX1_copyFrom_13 : decode cX1_copyFrom 13 = .ok (.putfield 15, 3) := by decide +kernel
theorem dX1_copyFrom_16 : decode cX1_copyFrom 16 = .ok (.aload_n 0, 1) := by decide +kernel
theorem dX1_copyFrom_17 : decode cX1_copyFrom 17 = .ok (.aload_n 1, 1) := by decide +kernel
theorem dX1_copyFrom_18 : decode cX1_copyFrom 18 = .ok (.getfield 18, 3) := by decide +kernel
theorem dX1_copyFrom_21 : decode cX1_copyFrom 21 = .ok (.putfield 18, 3) := by decide +kernel
theorem dX1_copyFrom_24 : decode cX1_copyFrom 24 = .ok (.aload_n 0, 1) := by decide +kernel
theorem dX1_copyFrom_25 : decode cX1_copyFrom 25 = .ok (.aload_n 1, 1) := by decide +kernel
theorem dX1_copyFrom_26 : decode cX1_copyFrom 26 = .ok (.getfield 21, 3) := by decide +kernel
theorem dX1_copyFrom_29 : decode cX1_copyFrom 29 = .ok (.putfield 21, 3) := by decide +kernel
theorem dX1_copyFrom_32 : decode cX1_copyFrom 32 = .ok (.aload_n 0, 1) := by decide +kernel
theorem dX1_copyFrom_33 : decode cX1_copyFrom 33 = .ok (.aload_n 1, 1) := by decide +kernel
theorem dX1_copyFrom_34 : decode cX1_copyFrom 34 = .ok (.getfield 24, 3) := by decide +kernel
theorem dX1_copyFrom_37 : decode cX1_copyFrom 37 = .ok (.putfield 24, 3) := by decide +kernel
theorem dX1_copyFrom_40 : decode cX1_copyFrom 40 = .ok (.aload_n 0, 1) := by decide +kernel
theorem dX1_copyFrom_41 : decode cX1_copyFrom 41 = .ok (.aload_n 1, 1) := by decide +kernel
theorem dX1_copyFrom_42 : decode cX1_copyFrom 42 = .ok (.getfield 27, 3) := by decide +kernel
theorem dX1_copyFrom_45 : decode cX1_copyFrom 45 = .ok (.putfield 27, 3) := by decide +kernel
theorem dX1_copyFrom_48 : decode cX1_copyFrom 48 = .ok (.aload_n 0, 1) := by decide +kernel
theorem dX1_copyFrom_49 : decode cX1_copyFrom 49 = .ok (.aload_n 1, 1) := by decide +kernel
theorem dX1_copyFrom_50 : decode cX1_copyFrom 50 = .ok (.getfield 30, 3) := by decide +kernel
theorem dX1_copyFrom_53 : decode cX1_copyFrom 53 = .ok (.putfield 30, 3) := by decide +kernel
theorem dX1_copyFrom_56 : decode cX1_copyFrom 56 = .ok (.aload_n 0, 1) := by decide +kernel
theorem dX1_copyFrom_57 : decode cX1_copyFrom 57 = .ok (.aload_n 1, 1) := by decide +kernel
theorem dX1_copyFrom_58 : decode cX1_copyFrom 58 = .ok (.getfield 33, 3) := by decide +kernel
theorem dX1_copyFrom_61 : decode cX1_copyFrom 61 = .ok (.putfield 33, 3) := by decide +kernel
theorem dX1_copyFrom_64 : decode cX1_copyFrom 64 = .ok (.aload_n 1, 1) := by decide +kernel
theorem dX1_copyFrom_65 : decode cX1_copyFrom 65 = .ok (.getfield 39, 3) := by decide +kernel
theorem dX1_copyFrom_68 : decode cX1_copyFrom 68 = .ok (.iconst 0, 1) := by decide +kernel
theorem dX1_copyFrom_69 : decode cX1_copyFrom 69 = .ok (.aload_n 0, 1) := by decide +kernel
theorem dX1_copyFrom_70 : decode cX1_copyFrom 70 = .ok (.getfield 39, 3) := by decide +kernel
theorem dX1_copyFrom_73 : decode cX1_copyFrom 73 = .ok (.iconst 0, 1) := by decide +kernel
theorem dX1_copyFrom_74 : decode cX1_copyFrom 74 = .ok (.bipush 32, 2) := by decide +kernel
theorem dX1_copyFrom_76 : decode cX1_copyFrom 76 = .ok (.invokestatic 52, 3) := by decide +kernel
theorem dX1_copyFrom_79 : decode cX1_copyFrom 79 = .ok (.aload_n 1, 1) := by decide +kernel
theorem dX1_copyFrom_80 : decode cX1_copyFrom 80 = .ok (.getfield 43, 3) := by decide +kernel
theorem dX1_copyFrom_83 : decode cX1_copyFrom 83 = .ok (.iconst 0, 1) := by decide +kernel
theorem dX1_copyFrom_84 : decode cX1_copyFrom 84 = .ok (.aload_n 0, 1) := by decide +kernel
theorem dX1_copyFrom_85 : decode cX1_copyFrom 85 = .ok (.getfield 43, 3) := by decide +kernel
theorem dX1_copyFrom_88 : decode cX1_copyFrom 88 = .ok (.iconst 0, 1) := by decide +kernel
theorem dX1_copyFrom_89 : decode cX1_copyFrom 89 = .ok (.bipush 32, 2) := by decide +kernel
theorem dX1_copyFrom_91 : decode cX1_copyFrom 91 = .ok (.invokestatic 52, 3) := by decide +kernel
theorem dX1_copyFrom_94 : decode cX1_copyFrom 94 = .ok (.aload_n 1, 1) := by decide +kernel
theorem dX1_copyFrom_95 : decode cX1_copyFrom 95 = .ok (.getfield 46, 3) := by decide +kernel
theorem dX1_copyFrom_98 : decode cX1_copyFrom 98 = .ok (.iconst 0, 1) := by decide +kernel
theorem dX1_copyFrom_99 : decode cX1_copyFrom 99 = .ok (.aload_n 0, 1) := by decide +kernel
theorem dX1_copyFrom_100 : decode cX1_copyFrom 100 = .ok (.getfield 46, 3) := by decide +kernel
theorem dX1_copyFrom_103 : decode cX1_copyFrom 103 = .ok (.iconst 0, 1) := by decide +kernel
theorem dX1_copyFrom_104 : decode cX1_copyFrom 104 = .ok (.bipush 32, 2) := by decide +kernel
theorem dX1_copyFrom_106 : decode cX1_copyFrom 106 = .ok (.invokestatic 52, 3) := by decide +kernel
theorem dX1_copyFrom_109 : decode cX1_copyFrom 109 = .ok (.aload_n 1, 1) := by decide +kernel
theorem dX1_copyFrom_110 : decode cX1_copyFrom 110 = .ok (.getfield 49, 3) := by decide +kernel
theorem dX1_copyFrom_113 : decode cX1_copyFrom 113 = .ok (.iconst 0, 1) := by decide +kernel
theorem dX1_copyFrom_114 : decode cX1_copyFrom 114 = .ok (.aload_n 0, 1) := by decide +kernel
theorem dX1_copyFrom_115 : decode cX1_copyFrom 115 = .ok (.getfield 49, 3) := by decide +kernel
theorem dX1_copyFrom_118 : decode cX1_copyFrom 118 = .ok (.iconst 0, 1) := by decide +kernel
theorem dX1_copyFrom_119 : decode cX1_copyFrom 119 = .ok (.bipush 32, 2) := by decide +kernel
theorem dX1_copyFrom_121 : decode cX1_copyFrom 121 = .ok (.invokestatic 52, 3) := by decide +kernel
theorem dX1_copyFrom_124 : decode cX1_copyFrom 124 = .ok (.return_, 1) := by decide +kernel
theorem dX1_room_0 : decode cX1_room 0 = .ok (.sipush 248, 3) := by decide +kernel
theorem dX1_room_3 : decode cX1_room 3 = .ok (.iconst 4, 1) := by decide +kernel
theorem dX1_room_4 : decode cX1_room 4 = .ok (.aload_n 0, 1) := by decide +kernel
theorem dX1_room_5 : decode cX1_room 5 = .ok (.getfield 15, 3) := by decide +kernel
theorem dX1_room_8 : decode cX1_room 8 = .ok (.imul, 1) := by decide +kernel
theorem dX1_room_9 : decode cX1_room 9 = .ok (.isub, 1) := by decide +kernel
theorem dX1_room_10 : decode cX1_room 10 = .ok (.aload_n 0, 1) := by decide +kernel
theorem dX1_room_11 : decode cX1_room 11 = .ok (.getfield 24, 3) := by decide +kernel
theorem dX1_room_14 : decode cX1_room 14 = .ok (.isub, 1) := by decide +kernel
theorem dX1_room_15 : decode cX1_room 15 = .ok (.ireturn, 1) := by decide +kernel
theorem dX1_takesNewCells_0 : decode cX1_takesNewCells 0 = .ok (.aload_n 0, 1) := by decide +kernel
theorem dX1_takesNewCells_1 : decode cX1_takesNewCells 1 = .ok (.getfield 9, 3) := by decide +kernel
theorem dX1_takesNewCells_4 : decode cX1_takesNewCells 4 = .ok (.iconst 1, 1) := by decide +kernel
theorem dX1_takesNewCells_5 : decode cX1_takesNewCells 5 = .ok (.if_icmp .ne 16, 3) := by decide +kernel
theorem dX1_takesNewCells_8 : decode cX1_takesNewCells 8 = .ok (.aload_n 0, 1) := by decide +kernel
theorem dX1_takesNewCells_9 : decode cX1_takesNewCells 9 = .ok (.getfield 18, 3) := by decide +kernel
theorem dX1_takesNewCells_12 : decode cX1_takesNewCells 12 = .ok (.bipush 32, 2) := by decide +kernel
theorem dX1_takesNewCells_14 : decode cX1_takesNewCells 14 = .ok (.if_icmp .ge 7, 3) := by decide +kernel
theorem dX1_takesNewCells_17 : decode cX1_takesNewCells 17 = .ok (.iconst 1, 1) := by decide +kernel
theorem dX1_takesNewCells_18 : decode cX1_takesNewCells 18 = .ok (.goto 4, 3) := by decide +kernel
theorem dX1_takesNewCells_21 : decode cX1_takesNewCells 21 = .ok (.iconst 0, 1) := by decide +kernel
theorem dX1_takesNewCells_22 : decode cX1_takesNewCells 22 = .ok (.ireturn, 1) := by decide +kernel
theorem dX1_hasRoomInstead_0 : decode cX1_hasRoomInstead 0 = .ok (.aload_n 0, 1) := by decide +kernel
theorem dX1_hasRoomInstead_1 : decode cX1_hasRoomInstead 1 = .ok (.invokevirtual 58, 3) := by decide +kernel
theorem dX1_hasRoomInstead_4 : decode cX1_hasRoomInstead 4 = .ok (.aload_n 0, 1) := by decide +kernel
theorem dX1_hasRoomInstead_5 : decode cX1_hasRoomInstead 5 = .ok (.iload_n 1, 1) := by decide +kernel
theorem dX1_hasRoomInstead_6 : decode cX1_hasRoomInstead 6 = .ok (.invokevirtual 62, 3) := by decide +kernel
theorem dX1_hasRoomInstead_9 : decode cX1_hasRoomInstead 9 = .ok (.iadd, 1) := by decide +kernel
theorem dX1_hasRoomInstead_10 : decode cX1_hasRoomInstead 10 = .ok (.iload_n 2, 1) := by decide +kernel
theorem dX1_hasRoomInstead_11 : decode cX1_hasRoomInstead 11 = .ok (.if_icmp .lt 7, 3) := by decide +kernel
theorem dX1_hasRoomInstead_14 : decode cX1_hasRoomInstead 14 = .ok (.iconst 1, 1) := by decide +kernel
theorem dX1_hasRoomInstead_15 : decode cX1_hasRoomInstead 15 = .ok (.goto 4, 3) := by decide +kernel
theorem dX1_hasRoomInstead_18 : decode cX1_hasRoomInstead 18 = .ok (.iconst 0, 1) := by decide +kernel
theorem dX1_hasRoomInstead_19 : decode cX1_hasRoomInstead 19 = .ok (.ireturn, 1) := by decide +kernel
theorem dX1_hasHome_0 : decode cX1_hasHome 0 = .ok (.aload_n 0, 1) := by decide +kernel
theorem dX1_hasHome_1 : decode cX1_hasHome 1 = .ok (.getfield 39, 3) := by decide +kernel
theorem dX1_hasHome_4 : decode cX1_hasHome 4 = .ok (.iload_n 1, 1) := by decide +kernel
theorem dX1_hasHome_5 : decode cX1_hasHome 5 = .ok (.iaload, 1) := by decide +kernel
theorem dX1_hasHome_6 : decode cX1_hasHome 6 = .ok (.iconst 1, 1) := by decide +kernel
theorem dX1_hasHome_7 : decode cX1_hasHome 7 = .ok (.if_icmp .eq 13, 3) := by decide +kernel
theorem dX1_hasHome_10 : decode cX1_hasHome 10 = .ok (.aload_n 0, 1) := by decide +kernel
theorem dX1_hasHome_11 : decode cX1_hasHome 11 = .ok (.getfield 39, 3) := by decide +kernel
theorem dX1_hasHome_14 : decode cX1_hasHome 14 = .ok (.iload_n 1, 1) := by decide +kernel
theorem dX1_hasHome_15 : decode cX1_hasHome 15 = .ok (.iaload, 1) := by decide +kernel
theorem dX1_hasHome_16 : decode cX1_hasHome 16 = .ok (.iconst 2, 1) := by decide +kernel
theorem dX1_hasHome_17 : decode cX1_hasHome 17 = .ok (.if_icmp .ne 7, 3) := by decide +kernel
theorem dX1_hasHome_20 : decode cX1_hasHome 20 = .ok (.iconst 1, 1) := by decide +kernel
theorem dX1_hasHome_21 : decode cX1_hasHome 21 = .ok (.goto 4, 3) := by decide +kernel
theorem dX1_hasHome_24 : decode cX1_hasHome 24 = .ok (.iconst 0, 1) := by decide +kernel
theorem dX1_hasHome_25 : decode cX1_hasHome 25 = .ok (.ireturn, 1) := by decide +kernel
theorem dX1_firstHomeFrom_0 : decode cX1_firstHomeFrom 0 = .ok (.iload_n 1, 1) := by decide +kernel
theorem dX1_firstHomeFrom_1 : decode cX1_firstHomeFrom 1 = .ok (.istore_n 2, 1) := by decide +kernel
theorem dX1_firstHomeFrom_2 : decode cX1_firstHomeFrom 2 = .ok (.iload_n 2, 1) := by decide +kernel
theorem dX1_firstHomeFrom_3 : decode cX1_firstHomeFrom 3 = .ok (.aload_n 0, 1) := by decide +kernel
theorem dX1_firstHomeFrom_4 : decode cX1_firstHomeFrom 4 = .ok (.getfield 15, 3) := by decide +kernel
theorem dX1_firstHomeFrom_7 : decode cX1_firstHomeFrom 7 = .ok (.if_icmp .ge 19, 3) := by decide +kernel
theorem dX1_firstHomeFrom_10 : decode cX1_firstHomeFrom 10 = .ok (.aload_n 0, 1) := by decide +kernel
theorem dX1_firstHomeFrom_11 : decode cX1_firstHomeFrom 11 = .ok (.iload_n 2, 1) := by decide +kernel
theorem dX1_firstHomeFrom_12 : decode cX1_firstHomeFrom 12 = .ok (.invokevirtual 66, 3) := by decide +kernel
theorem dX1_firstHomeFrom_15 : decode cX1_firstHomeFrom 15 = .ok (.ifCond .eq 5, 3) := by decide +kernel
theorem dX1_firstHomeFrom_18 : decode cX1_firstHomeFrom 18 = .ok (.iload_n 2, 1) := by decide +kernel
theorem dX1_firstHomeFrom_19 : decode cX1_firstHomeFrom 19 = .ok (.ireturn, 1) := by decide +kernel
theorem dX1_firstHomeFrom_20 : decode cX1_firstHomeFrom 20 = .ok (.iinc 2 1, 3) := by decide +kernel
theorem dX1_firstHomeFrom_23 : decode cX1_firstHomeFrom 23 = .ok (.goto (-21), 3) := by decide +kernel
theorem dX1_firstHomeFrom_26 : decode cX1_firstHomeFrom 26 = .ok (.iconst (-1), 1) := by decide +kernel
theorem dX1_firstHomeFrom_27 : decode cX1_firstHomeFrom 27 = .ok (.ireturn, 1) := by decide +kernel
theorem dX1_put_0 : decode cX1_put 0 = .ok (.aload_n 0, 1) := by decide +kernel
theorem dX1_put_1 : decode cX1_put 1 = .ok (.iconst 1, 1) := by decide +kernel
theorem dX1_put_2 : decode cX1_put 2 = .ok (.putfield 9, 3) := by decide +kernel
theorem dX1_put_5 : decode cX1_put 5 = .ok (.aload_n 0, 1) := by decide +kernel
theorem dX1_put_6 : decode cX1_put 6 = .ok (.invokevirtual 70, 3) := by decide +kernel
theorem dX1_put_9 : decode cX1_put 9 = .ok (.istore 5, 2) := by decide +kernel
theorem dX1_put_11 : decode cX1_put 11 = .ok (.iload_n 1, 1) := by decide +kernel
theorem dX1_put_12 : decode cX1_put 12 = .ok (.iload_n 2, 1) := by decide +kernel
theorem dX1_put_13 : decode cX1_put 13 = .ok (.invokestatic 73, 3) := by decide +kernel
theorem dX1_put_16 : decode cX1_put 16 = .ok (.istore 6, 2) := by decide +kernel
theorem dX1_put_18 : decode cX1_put 18 = .ok (.iload 5, 2) := by decide +kernel
theorem dX1_put_20 : decode cX1_put 20 = .ok (.aload_n 0, 1) := by decide +kernel
theorem dX1_put_21 : decode cX1_put 21 = .ok (.getfield 15, 3) := by decide +kernel
theorem dX1_put_24 : decode cX1_put 24 = .ok (.if_icmp .ge 13, 3) := by decide +kernel
theorem dX1_put_27 : decode cX1_put 27 = .ok (.aload_n 0, 1) := by decide +kernel
theorem dX1_put_28 : decode cX1_put 28 = .ok (.iload 6, 2) := by decide +kernel
theorem dX1_put_30 : decode cX1_put 30 = .ok (.iconst 0, 1) := by decide +kernel
theorem dX1_put_31 : decode cX1_put 31 = .ok (.invokevirtual 77, 3) := by decide +kernel
theorem dX1_put_34 : decode cX1_put 34 = .ok (.goto 18, 3) := by decide +kernel
theorem dX1_put_37 : decode cX1_put 37 = .ok (.aload_n 0, 1) := by decide +kernel
theorem dX1_put_38 : decode cX1_put 38 = .ok (.iload 6, 2) := by decide +kernel
theorem dX1_put_40 : decode cX1_put 40 = .ok (.iconst 4, 1) := by decide +kernel
theorem dX1_put_41 : decode cX1_put 41 = .ok (.invokevirtual 77, 3) := by decide +kernel
theorem dX1_put_44 : decode cX1_put 44 = .ok (.aload_n 0, 1) := by decide +kernel
theorem dX1_put_45 : decode cX1_put 45 = .ok (.iload 5, 2) := by decide +kernel
theorem dX1_put_47 : decode cX1_put 47 = .ok (.iconst 1, 1) := by decide +kernel
theorem dX1_put_48 : decode cX1_put 48 = .ok (.iadd, 1) := by decide +kernel
theorem dX1_put_49 : decode cX1_put 49 = .ok (.putfield 15, 3) := by decide +kernel
theorem dX1_put_52 : decode cX1_put 52 = .ok (.aload_n 0, 1) := by decide +kernel
theorem dX1_put_53 : decode cX1_put 53 = .ok (.dup, 1) := by decide +kernel
theorem dX1_put_54 : decode cX1_put 54 = .ok (.getfield 18, 3) := by decide +kernel
theorem dX1_put_57 : decode cX1_put 57 = .ok (.iconst 1, 1) := by decide +kernel
theorem dX1_put_58 : decode cX1_put 58 = .ok (.iadd, 1) := by decide +kernel
theorem dX1_put_59 : decode cX1_put 59 = .ok (.putfield 18, 3) := by decide +kernel
theorem dX1_put_62 : decode cX1_put 62 = .ok (.aload_n 0, 1) := by decide +kernel
theorem dX1_put_63 : decode cX1_put 63 = .ok (.iload 5, 2) := by decide +kernel
theorem dX1_put_65 : decode cX1_put 65 = .ok (.iload_n 1, 1) := by decide +kernel
theorem dX1_put_66 : decode cX1_put 66 = .ok (.iload_n 2, 1) := by decide +kernel
theorem dX1_put_67 : decode cX1_put 67 = .ok (.iload_n 3, 1) := by decide +kernel
theorem dX1_put_68 : decode cX1_put 68 = .ok (.iload 4, 2) := by decide +kernel
theorem dX1_put_70 : decode cX1_put 70 = .ok (.invokevirtual 81, 3) := by decide +kernel
theorem dX1_put_73 : decode cX1_put 73 = .ok (.iload 5, 2) := by decide +kernel
theorem dX1_put_75 : decode cX1_put 75 = .ok (.ireturn, 1) := by decide +kernel
theorem dX1_change_0 : decode cX1_change 0 = .ok (.aload_n 0, 1) := by decide +kernel
theorem dX1_change_1 : decode cX1_change 1 = .ok (.iload_n 1, 1) := by decide +kernel
theorem dX1_change_2 : decode cX1_change 2 = .ok (.invokevirtual 62, 3) := by decide +kernel
theorem dX1_change_5 : decode cX1_change 5 = .ok (.istore 6, 2) := by decide +kernel
theorem dX1_change_7 : decode cX1_change 7 = .ok (.iload_n 2, 1) := by decide +kernel
theorem dX1_change_8 : decode cX1_change 8 = .ok (.iload_n 3, 1) := by decide +kernel
theorem dX1_change_9 : decode cX1_change 9 = .ok (.invokestatic 73, 3) := by decide +kernel
theorem dX1_change_12 : decode cX1_change 12 = .ok (.istore 7, 2) := by decide +kernel
theorem dX1_change_14 : decode cX1_change 14 = .ok (.aload_n 0, 1) := by decide +kernel
theorem dX1_change_15 : decode cX1_change 15 = .ok (.iload_n 1, 1) := by decide +kernel
theorem dX1_change_16 : decode cX1_change 16 = .ok (.invokevirtual 85, 3) := by decide +kernel
theorem dX1_change_19 : decode cX1_change 19 = .ok (.iload 7, 2) := by decide +kernel
theorem dX1_change_21 : decode cX1_change 21 = .ok (.iload 6, 2) := by decide +kernel
theorem dX1_change_23 : decode cX1_change 23 = .ok (.if_icmp .le 10, 3) := by decide +kernel
theorem dX1_change_26 : decode cX1_change 26 = .ok (.aload_n 0, 1) := by decide +kernel
theorem dX1_change_27 : decode cX1_change 27 = .ok (.iload 7, 2) := by decide +kernel
theorem dX1_change_29 : decode cX1_change 29 = .ok (.iconst 0, 1) := by decide +kernel
theorem dX1_change_30 : decode cX1_change 30 = .ok (.invokevirtual 77, 3) := by decide +kernel
theorem dX1_change_33 : decode cX1_change 33 = .ok (.aload_n 0, 1) := by decide +kernel
theorem dX1_change_34 : decode cX1_change 34 = .ok (.iload_n 1, 1) := by decide +kernel
theorem dX1_change_35 : decode cX1_change 35 = .ok (.iload_n 2, 1) := by decide +kernel
theorem dX1_change_36 : decode cX1_change 36 = .ok (.iload_n 3, 1) := by decide +kernel
theorem dX1_change_37 : decode cX1_change 37 = .ok (.iload 4, 2) := by decide +kernel
theorem dX1_change_39 : decode cX1_change 39 = .ok (.iload 5, 2) := by decide +kernel
theorem dX1_change_41 : decode cX1_change 41 = .ok (.invokevirtual 81, 3) := by decide +kernel
theorem dX1_change_44 : decode cX1_change 44 = .ok (.return_, 1) := by decide +kernel
theorem dX1_remove_0 : decode cX1_remove 0 = .ok (.aload_n 0, 1) := by decide +kernel
theorem dX1_remove_1 : decode cX1_remove 1 = .ok (.iload_n 1, 1) := by decide +kernel
theorem dX1_remove_2 : decode cX1_remove 2 = .ok (.invokevirtual 85, 3) := by decide +kernel
theorem dX1_remove_5 : decode cX1_remove 5 = .ok (.aload_n 0, 1) := by decide +kernel
theorem dX1_remove_6 : decode cX1_remove 6 = .ok (.dup, 1) := by decide +kernel
theorem dX1_remove_7 : decode cX1_remove 7 = .ok (.getfield 18, 3) := by decide +kernel
theorem dX1_remove_10 : decode cX1_remove 10 = .ok (.iconst 1, 1) := by decide +kernel
theorem dX1_remove_11 : decode cX1_remove 11 = .ok (.isub, 1) := by decide +kernel
theorem dX1_remove_12 : decode cX1_remove 12 = .ok (.putfield 18, 3) := by decide +kernel
theorem dX1_remove_15 : decode cX1_remove 15 = .ok (.aload_n 0, 1) := by decide +kernel
theorem dX1_remove_16 : decode cX1_remove 16 = .ok (.getfield 15, 3) := by decide +kernel
theorem dX1_remove_19 : decode cX1_remove 19 = .ok (.ifCond .le 30, 3) := by decide +kernel
theorem dX1_remove_22 : decode cX1_remove 22 = .ok (.aload_n 0, 1) := by decide +kernel
theorem dX1_remove_23 : decode cX1_remove 23 = .ok (.getfield 39, 3) := by decide +kernel
theorem dX1_remove_26 : decode cX1_remove 26 = .ok (.aload_n 0, 1) := by decide +kernel
theorem dX1_remove_27 : decode cX1_remove 27 = .ok (.getfield 15, 3) := by decide +kernel
theorem dX1_remove_30 : decode cX1_remove 30 = .ok (.iconst 1, 1) := by decide +kernel
theorem dX1_remove_31 : decode cX1_remove 31 = .ok (.isub, 1) := by decide +kernel
theorem dX1_remove_32 : decode cX1_remove 32 = .ok (.iaload, 1) := by decide +kernel
theorem dX1_remove_33 : decode cX1_remove 33 = .ok (.ifCond .ne 16, 3) := by decide +kernel
theorem dX1_remove_36 : decode cX1_remove 36 = .ok (.aload_n 0, 1) := by decide +kernel
theorem dX1_remove_37 : decode cX1_remove 37 = .ok (.dup, 1) := by decide +kernel
theorem dX1_remove_38 : decode cX1_remove 38 = .ok (.getfield 15, 3) := by decide +kernel
theorem dX1_remove_41 : decode cX1_remove 41 = .ok (.iconst 1, 1) := by decide +kernel
theorem dX1_remove_42 : decode cX1_remove 42 = .ok (.isub, 1) := by decide +kernel
theorem dX1_remove_43 : decode cX1_remove 43 = .ok (.putfield 15, 3) := by decide +kernel
theorem dX1_remove_46 : decode cX1_remove 46 = .ok (.goto (-31), 3) := by decide +kernel
theorem dX1_remove_49 : decode cX1_remove 49 = .ok (.aload_n 0, 1) := by decide +kernel
theorem dX1_remove_50 : decode cX1_remove 50 = .ok (.getfield 18, 3) := by decide +kernel
theorem dX1_remove_53 : decode cX1_remove 53 = .ok (.ifCond .ne 7, 3) := by decide +kernel
theorem dX1_remove_56 : decode cX1_remove 56 = .ok (.aload_n 0, 1) := by decide +kernel
theorem dX1_remove_57 : decode cX1_remove 57 = .ok (.invokevirtual 89, 3) := by decide +kernel
theorem dX1_remove_60 : decode cX1_remove 60 = .ok (.return_, 1) := by decide +kernel
theorem dX1_becomeChain_0 : decode cX1_becomeChain 0 = .ok (.aload_n 0, 1) := by decide +kernel
theorem dX1_becomeChain_1 : decode cX1_becomeChain 1 = .ok (.iconst 2, 1) := by decide +kernel
theorem dX1_becomeChain_2 : decode cX1_becomeChain 2 = .ok (.putfield 9, 3) := by decide +kernel
theorem dX1_becomeChain_5 : decode cX1_becomeChain 5 = .ok (.aload_n 0, 1) := by decide +kernel
theorem dX1_becomeChain_6 : decode cX1_becomeChain 6 = .ok (.iconst (-1), 1) := by decide +kernel
theorem dX1_becomeChain_7 : decode cX1_becomeChain 7 = .ok (.putfield 30, 3) := by decide +kernel
theorem dX1_becomeChain_10 : decode cX1_becomeChain 10 = .ok (.aload_n 0, 1) := by decide +kernel
theorem dX1_becomeChain_11 : decode cX1_becomeChain 11 = .ok (.iload_n 1, 1) := by decide +kernel
theorem dX1_becomeChain_12 : decode cX1_becomeChain 12 = .ok (.putfield 33, 3) := by decide +kernel
theorem dX1_becomeChain_15 : decode cX1_becomeChain 15 = .ok (.return_, 1) := by decide +kernel
theorem dX1_becomeFree_0 : decode cX1_becomeFree 0 = .ok (.aload_n 0, 1) := by decide +kernel
theorem dX1_becomeFree_1 : decode cX1_becomeFree 1 = .ok (.iconst 0, 1) := by decide +kernel
theorem dX1_becomeFree_2 : decode cX1_becomeFree 2 = .ok (.putfield 9, 3) := by decide +kernel
theorem dX1_becomeFree_5 : decode cX1_becomeFree 5 = .ok (.aload_n 0, 1) := by decide +kernel
theorem dX1_becomeFree_6 : decode cX1_becomeFree 6 = .ok (.iconst 0, 1) := by decide +kernel
theorem dX1_becomeFree_7 : decode cX1_becomeFree 7 = .ok (.putfield 27, 3) := by decide +kernel
theorem dX1_becomeFree_10 : decode cX1_becomeFree 10 = .ok (.return_, 1) := by decide +kernel
theorem dX1_bytesAt_0 : decode cX1_bytesAt 0 = .ok (.aload_n 0, 1) := by decide +kernel
theorem dX1_bytesAt_1 : decode cX1_bytesAt 1 = .ok (.getfield 39, 3) := by decide +kernel
theorem dX1_bytesAt_4 : decode cX1_bytesAt 4 = .ok (.iload_n 1, 1) := by decide +kernel
theorem dX1_bytesAt_5 : decode cX1_bytesAt 5 = .ok (.iaload, 1) := by decide +kernel
theorem dX1_bytesAt_6 : decode cX1_bytesAt 6 = .ok (.aload_n 0, 1) := by decide +kernel
theorem dX1_bytesAt_7 : decode cX1_bytesAt 7 = .ok (.getfield 43, 3) := by decide +kernel
theorem dX1_bytesAt_10 : decode cX1_bytesAt 10 = .ok (.iload_n 1, 1) := by decide +kernel
theorem dX1_bytesAt_11 : decode cX1_bytesAt 11 = .ok (.iaload, 1) := by decide +kernel
theorem dX1_bytesAt_12 : decode cX1_bytesAt 12 = .ok (.invokestatic 73, 3) := by decide +kernel
theorem dX1_bytesAt_15 : decode cX1_bytesAt 15 = .ok (.ireturn, 1) := by decide +kernel
theorem dX1_leastEmptySlot_0 : decode cX1_leastEmptySlot 0 = .ok (.iconst 0, 1) := by decide +kernel
theorem dX1_leastEmptySlot_1 : decode cX1_leastEmptySlot 1 = .ok (.istore_n 1, 1) := by decide +kernel
theorem dX1_leastEmptySlot_2 : decode cX1_leastEmptySlot 2 = .ok (.iload_n 1, 1) := by decide +kernel
theorem dX1_leastEmptySlot_3 : decode cX1_leastEmptySlot 3 = .ok (.aload_n 0, 1) := by decide +kernel
theorem dX1_leastEmptySlot_4 : decode cX1_leastEmptySlot 4 = .ok (.getfield 15, 3) := by decide +kernel
theorem dX1_leastEmptySlot_7 : decode cX1_leastEmptySlot 7 = .ok (.if_icmp .ge 20, 3) := by decide +kernel
theorem dX1_leastEmptySlot_10 : decode cX1_leastEmptySlot 10 = .ok (.aload_n 0, 1) := by decide +kernel
theorem dX1_leastEmptySlot_11 : decode cX1_leastEmptySlot 11 = .ok (.getfield 39, 3) := by decide +kernel
theorem dX1_leastEmptySlot_14 : decode cX1_leastEmptySlot 14 = .ok (.iload_n 1, 1) := by decide +kernel
theorem dX1_leastEmptySlot_15 : decode cX1_leastEmptySlot 15 = .ok (.iaload, 1) := by decide +kernel
theorem dX1_leastEmptySlot_16 : decode cX1_leastEmptySlot 16 = .ok (.ifCond .ne 5, 3) := by decide +kernel
theorem dX1_leastEmptySlot_19 : decode cX1_leastEmptySlot 19 = .ok (.iload_n 1, 1) := by decide +kernel
theorem dX1_leastEmptySlot_20 : decode cX1_leastEmptySlot 20 = .ok (.ireturn, 1) := by decide +kernel
theorem dX1_leastEmptySlot_21 : decode cX1_leastEmptySlot 21 = .ok (.iinc 1 1, 3) := by decide +kernel
theorem dX1_leastEmptySlot_24 : decode cX1_leastEmptySlot 24 = .ok (.goto (-22), 3) := by decide +kernel
theorem dX1_leastEmptySlot_27 : decode cX1_leastEmptySlot 27 = .ok (.aload_n 0, 1) := by decide +kernel
theorem dX1_leastEmptySlot_28 : decode cX1_leastEmptySlot 28 = .ok (.getfield 15, 3) := by decide +kernel
theorem dX1_leastEmptySlot_31 : decode cX1_leastEmptySlot 31 = .ok (.ireturn, 1) := by decide +kernel
theorem dX1_claimEnd_0 : decode cX1_claimEnd 0 = .ok (.aload_n 0, 1) := by decide +kernel
theorem dX1_claimEnd_1 : decode cX1_claimEnd 1 = .ok (.getfield 27, 3) := by decide +kernel
theorem dX1_claimEnd_4 : decode cX1_claimEnd 4 = .ok (.iload_n 1, 1) := by decide +kernel
theorem dX1_claimEnd_5 : decode cX1_claimEnd 5 = .ok (.iadd, 1) := by decide +kernel
theorem dX1_claimEnd_6 : decode cX1_claimEnd 6 = .ok (.iload_n 2, 1) := by decide +kernel
theorem dX1_claimEnd_7 : decode cX1_claimEnd 7 = .ok (.iadd, 1) := by decide +kernel
theorem dX1_claimEnd_8 : decode cX1_claimEnd 8 = .ok (.sipush 248, 3) := by decide +kernel
theorem dX1_claimEnd_11 : decode cX1_claimEnd 11 = .ok (.iconst 4, 1) := by decide +kernel
theorem dX1_claimEnd_12 : decode cX1_claimEnd 12 = .ok (.aload_n 0, 1) := by decide +kernel
theorem dX1_claimEnd_13 : decode cX1_claimEnd 13 = .ok (.getfield 15, 3) := by decide +kernel
theorem dX1_claimEnd_16 : decode cX1_claimEnd 16 = .ok (.imul, 1) := by decide +kernel
theorem dX1_claimEnd_17 : decode cX1_claimEnd 17 = .ok (.isub, 1) := by decide +kernel
theorem dX1_claimEnd_18 : decode cX1_claimEnd 18 = .ok (.if_icmp .le 21, 3) := by decide +kernel
theorem dX1_claimEnd_21 : decode cX1_claimEnd 21 = .ok (.aload_n 0, 1) := by decide +kernel
theorem dX1_claimEnd_22 : decode cX1_claimEnd 22 = .ok (.aload_n 0, 1) := by decide +kernel
theorem dX1_claimEnd_23 : decode cX1_claimEnd 23 = .ok (.getfield 24, 3) := by decide +kernel
theorem dX1_claimEnd_26 : decode cX1_claimEnd 26 = .ok (.putfield 27, 3) := by decide +kernel
theorem dX1_claimEnd_29 : decode cX1_claimEnd 29 = .ok (.aload_n 0, 1) := by decide +kernel
theorem dX1_claimEnd_30 : decode cX1_claimEnd 30 = .ok (.dup, 1) := by decide +kernel
theorem dX1_claimEnd_31 : decode cX1_claimEnd 31 = .ok (.getfield 36, 3) := by decide +kernel
theorem dX1_claimEnd_34 : decode cX1_claimEnd 34 = .ok (.iconst 1, 1) := by decide +kernel
theorem dX1_claimEnd_35 : decode cX1_claimEnd 35 = .ok (.iadd, 1) := by decide +kernel
theorem dX1_claimEnd_36 : decode cX1_claimEnd 36 = .ok (.putfield 36, 3) := by decide +kernel
theorem dX1_claimEnd_39 : decode cX1_claimEnd 39 = .ok (.aload_n 0, 1) := by decide +kernel
theorem dX1_claimEnd_40 : decode cX1_claimEnd 40 = .ok (.dup, 1) := by decide +kernel
theorem dX1_claimEnd_41 : decode cX1_claimEnd 41 = .ok (.getfield 27, 3) := by decide +kernel
theorem dX1_claimEnd_44 : decode cX1_claimEnd 44 = .ok (.iload_n 1, 1) := by decide +kernel
theorem dX1_claimEnd_45 : decode cX1_claimEnd 45 = .ok (.iadd, 1) := by decide +kernel
theorem dX1_claimEnd_46 : decode cX1_claimEnd 46 = .ok (.putfield 27, 3) := by decide +kernel
theorem dX1_claimEnd_49 : decode cX1_claimEnd 49 = .ok (.return_, 1) := by decide +kernel
theorem dX1_erase_0 : decode cX1_erase 0 = .ok (.aload_n 0, 1) := by decide +kernel
theorem dX1_erase_1 : decode cX1_erase 1 = .ok (.dup, 1) := by decide +kernel
theorem dX1_erase_2 : decode cX1_erase 2 = .ok (.getfield 24, 3) := by decide +kernel
theorem dX1_erase_5 : decode cX1_erase 5 = .ok (.aload_n 0, 1) := by decide +kernel
theorem dX1_erase_6 : decode cX1_erase 6 = .ok (.getfield 39, 3) := by decide +kernel
theorem dX1_erase_9 : decode cX1_erase 9 = .ok (.iload_n 1, 1) := by decide +kernel
theorem dX1_erase_10 : decode cX1_erase 10 = .ok (.iaload, 1) := by decide +kernel
theorem dX1_erase_11 : decode cX1_erase 11 = .ok (.aload_n 0, 1) := by decide +kernel
theorem dX1_erase_12 : decode cX1_erase 12 = .ok (.getfield 43, 3) := by decide +kernel
theorem dX1_erase_15 : decode cX1_erase 15 = .ok (.iload_n 1, 1) := by decide +kernel
theorem dX1_erase_16 : decode cX1_erase 16 = .ok (.iaload, 1) := by decide +kernel
theorem dX1_erase_17 : decode cX1_erase 17 = .ok (.invokestatic 73, 3) := by decide +kernel
theorem dX1_erase_20 : decode cX1_erase 20 = .ok (.isub, 1) := by decide +kernel
theorem dX1_erase_21 : decode cX1_erase 21 = .ok (.putfield 24, 3) := by decide +kernel
theorem dX1_erase_24 : decode cX1_erase 24 = .ok (.aload_n 0, 1) := by decide +kernel
theorem dX1_erase_25 : decode cX1_erase 25 = .ok (.getfield 39, 3) := by decide +kernel
theorem dX1_erase_28 : decode cX1_erase 28 = .ok (.iload_n 1, 1) := by decide +kernel
theorem dX1_erase_29 : decode cX1_erase 29 = .ok (.iaload, 1) := by decide +kernel
theorem dX1_erase_30 : decode cX1_erase 30 = .ok (.iconst 2, 1) := by decide +kernel
theorem dX1_erase_31 : decode cX1_erase 31 = .ok (.if_icmp .ne 13, 3) := by decide +kernel
theorem dX1_erase_34 : decode cX1_erase 34 = .ok (.aload_n 0, 1) := by decide +kernel
theorem dX1_erase_35 : decode cX1_erase 35 = .ok (.dup, 1) := by decide +kernel
theorem dX1_erase_36 : decode cX1_erase 36 = .ok (.getfield 21, 3) := by decide +kernel
theorem dX1_erase_39 : decode cX1_erase 39 = .ok (.iconst 1, 1) := by decide +kernel
theorem dX1_erase_40 : decode cX1_erase 40 = .ok (.isub, 1) := by decide +kernel
theorem dX1_erase_41 : decode cX1_erase 41 = .ok (.putfield 21, 3) := by decide +kernel
theorem dX1_erase_44 : decode cX1_erase 44 = .ok (.aload_n 0, 1) := by decide +kernel
theorem dX1_erase_45 : decode cX1_erase 45 = .ok (.getfield 39, 3) := by decide +kernel
theorem dX1_erase_48 : decode cX1_erase 48 = .ok (.iload_n 1, 1) := by decide +kernel
theorem dX1_erase_49 : decode cX1_erase 49 = .ok (.iconst 0, 1) := by decide +kernel
theorem dX1_erase_50 : decode cX1_erase 50 = .ok (.iastore, 1) := by decide +kernel
theorem dX1_erase_51 : decode cX1_erase 51 = .ok (.return_, 1) := by decide +kernel
theorem dX1_write_0 : decode cX1_write 0 = .ok (.aload_n 0, 1) := by decide +kernel
theorem dX1_write_1 : decode cX1_write 1 = .ok (.getfield 39, 3) := by decide +kernel
theorem dX1_write_4 : decode cX1_write 4 = .ok (.iload_n 1, 1) := by decide +kernel
theorem dX1_write_5 : decode cX1_write 5 = .ok (.iload_n 2, 1) := by decide +kernel
theorem dX1_write_6 : decode cX1_write 6 = .ok (.iastore, 1) := by decide +kernel
theorem dX1_write_7 : decode cX1_write 7 = .ok (.aload_n 0, 1) := by decide +kernel
theorem dX1_write_8 : decode cX1_write 8 = .ok (.getfield 43, 3) := by decide +kernel
theorem dX1_write_11 : decode cX1_write 11 = .ok (.iload_n 1, 1) := by decide +kernel
theorem dX1_write_12 : decode cX1_write 12 = .ok (.iload_n 3, 1) := by decide +kernel
theorem dX1_write_13 : decode cX1_write 13 = .ok (.iastore, 1) := by decide +kernel
theorem dX1_write_14 : decode cX1_write 14 = .ok (.aload_n 0, 1) := by decide +kernel
theorem dX1_write_15 : decode cX1_write 15 = .ok (.getfield 46, 3) := by decide +kernel
theorem dX1_write_18 : decode cX1_write 18 = .ok (.iload_n 1, 1) := by decide +kernel
theorem dX1_write_19 : decode cX1_write 19 = .ok (.iload 4, 2) := by decide +kernel
theorem dX1_write_21 : decode cX1_write 21 = .ok (.iastore, 1) := by decide +kernel
theorem dX1_write_22 : decode cX1_write 22 = .ok (.aload_n 0, 1) := by decide +kernel
theorem dX1_write_23 : decode cX1_write 23 = .ok (.getfield 49, 3) := by decide +kernel
theorem dX1_write_26 : decode cX1_write 26 = .ok (.iload_n 1, 1) := by decide +kernel
theorem dX1_write_27 : decode cX1_write 27 = .ok (.iload 5, 2) := by decide +kernel
theorem dX1_write_29 : decode cX1_write 29 = .ok (.iastore, 1) := by decide +kernel
theorem dX1_write_30 : decode cX1_write 30 = .ok (.aload_n 0, 1) := by decide +kernel
theorem dX1_write_31 : decode cX1_write 31 = .ok (.dup, 1) := by decide +kernel
theorem dX1_write_32 : decode cX1_write 32 = .ok (.getfield 24, 3) := by decide +kernel
theorem dX1_write_35 : decode cX1_write 35 = .ok (.iload_n 2, 1) := by decide +kernel
theorem dX1_write_36 : decode cX1_write 36 = .ok (.iload_n 3, 1) := by decide +kernel
theorem dX1_write_37 : decode cX1_write 37 = .ok (.invokestatic 73, 3) := by decide +kernel
theorem dX1_write_40 : decode cX1_write 40 = .ok (.iadd, 1) := by decide +kernel
theorem dX1_write_41 : decode cX1_write 41 = .ok (.putfield 24, 3) := by decide +kernel
theorem dX1_write_44 : decode cX1_write 44 = .ok (.iload_n 2, 1) := by decide +kernel
theorem dX1_write_45 : decode cX1_write 45 = .ok (.iconst 2, 1) := by decide +kernel
theorem dX1_write_46 : decode cX1_write 46 = .ok (.if_icmp .ne 13, 3) := by decide +kernel
theorem dX1_write_49 : decode cX1_write 49 = .ok (.aload_n 0, 1) := by decide +kernel
theorem dX1_write_50 : decode cX1_write 50 = .ok (.dup, 1) := by decide +kernel
theorem dX1_write_51 : decode cX1_write 51 = .ok (.getfield 21, 3) := by decide +kernel
theorem dX1_write_54 : decode cX1_write 54 = .ok (.iconst 1, 1) := by decide +kernel
theorem dX1_write_55 : decode cX1_write 55 = .ok (.iadd, 1) := by decide +kernel
theorem dX1_write_56 : decode cX1_write 56 = .ok (.putfield 21, 3) := by decide +kernel
theorem dX1_write_59 : decode cX1_write 59 = .ok (.return_, 1) := by decide +kernel
theorem dX2_init_0 : decode cX2_init 0 = .ok (.aload_n 0, 1) := by decide +kernel
theorem dX2_init_1 : decode cX2_init 1 = .ok (.invokespecial 3, 3) := by decide +kernel
theorem dX2_init_4 : decode cX2_init 4 = .ok (.aload_n 0, 1) := by decide +kernel
theorem dX2_init_5 : decode cX2_init 5 = .ok (.bipush 96, 2) := by decide +kernel
theorem dX2_init_7 : decode cX2_init 7 = .ok (.anewarray 9, 3) := by decide +kernel
theorem dX2_init_10 : decode cX2_init 10 = .ok (.putfield 11, 3) := by decide +kernel
theorem dX2_init_13 : decode cX2_init 13 = .ok (.iconst 0, 1) := by decide +kernel
theorem dX2_init_14 : decode cX2_init 14 = .ok (.istore_n 1, 1) := by decide +kernel
theorem dX2_init_15 : decode cX2_init 15 = .ok (.iload_n 1, 1) := by decide +kernel
theorem dX2_init_16 : decode cX2_init 16 = .ok (.bipush 96, 2) := by decide +kernel
theorem dX2_init_18 : decode cX2_init 18 = .ok (.if_icmp .ge 22, 3) := by decide +kernel
theorem dX2_init_21 : decode cX2_init 21 = .ok (.aload_n 0, 1) := by decide +kernel
theorem dX2_init_22 : decode cX2_init 22 = .ok (.getfield 11, 3) := by decide +kernel
theorem dX2_init_25 : decode cX2_init 25 = .ok (.iload_n 1, 1) := by decide +kernel
theorem dX2_init_26 : decode cX2_init 26 = .ok (.new 9, 3) := by decide +kernel
theorem dX2_init_29 : decode cX2_init 29 = .ok (.dup, 1) := by decide +kernel
theorem dX2_init_30 : decode cX2_init 30 = .ok (.invokespecial 17, 3) := by decide +kernel
theorem dX2_init_33 : decode cX2_init 33 = .ok (.aastore, 1) := by decide +kernel
theorem dX2_init_34 : decode cX2_init 34 = .ok (.iinc 1 1, 3) := by decide +kernel
theorem dX2_init_37 : decode cX2_init 37 = .ok (.goto (-22), 3) := by decide +kernel
theorem dX2_init_40 : decode cX2_init 40 = .ok (.return_, 1) := by decide +kernel
theorem dX2_copyFrom_0 : decode cX2_copyFrom 0 = .ok (.iconst 0, 1) := by decide +kernel
theorem dX2_copyFrom_1 : decode cX2_copyFrom 1 = .ok (.istore_n 2, 1) := by decide +kernel
theorem dX2_copyFrom_2 : decode cX2_copyFrom 2 = .ok (.iload_n 2, 1) := by decide +kernel
theorem dX2_copyFrom_3 : decode cX2_copyFrom 3 = .ok (.bipush 96, 2) := by decide +kernel
theorem dX2_copyFrom_5 : decode cX2_copyFrom 5 = .ok (.if_icmp .ge 24, 3) := by decide +kernel
theorem dX2_copyFrom_8 : decode cX2_copyFrom 8 = .ok (.aload_n 0, 1) := by decide +kernel
theorem dX2_copyFrom_9 : decode cX2_copyFrom 9 = .ok (.getfield 11, 3) := by decide +kernel
theorem dX2_copyFrom_12 : decode cX2_copyFrom 12 = .ok (.iload_n 2, 1) := by decide +kernel
theorem dX2_copyFrom_13 : decode cX2_copyFrom 13 = .ok (.aaload, 1) := by decide +kernel
theorem dX2_copyFrom_14 : decode cX2_copyFrom 14 = .ok (.aload_n 1, 1) := by decide +kernel
theorem dX2_copyFrom_15 : decode cX2_copyFrom 15 = .ok (.getfield 11, 3) := by decide +kernel
theorem dX2_copyFrom_18 : decode cX2_copyFrom 18 = .ok (.iload_n 2, 1) := by decide +kernel
theorem dX2_copyFrom_19 : decode cX2_copyFrom 19 = .ok (.aaload, 1) := by decide +kernel
theorem dX2_copyFrom_20 : decode cX2_copyFrom 20 = .ok (.invokevirtual 18, 3) := by decide +kernel
theorem dX2_copyFrom_23 : decode cX2_copyFrom 23 = .ok (.iinc 2 1, 3) := by decide +kernel
theorem dX2_copyFrom_26 : decode cX2_copyFrom 26 = .ok (.goto (-24), 3) := by decide +kernel
theorem dX2_copyFrom_29 : decode cX2_copyFrom 29 = .ok (.return_, 1) := by decide +kernel
theorem dX2_hasRecord_0 : decode cX2_hasRecord 0 = .ok (.iload_n 1, 1) := by decide +kernel
theorem dX2_hasRecord_1 : decode cX2_hasRecord 1 = .ok (.ifCond .lt 33, 3) := by decide +kernel
theorem dX2_hasRecord_4 : decode cX2_hasRecord 4 = .ok (.iload_n 1, 1) := by decide +kernel
theorem dX2_hasRecord_5 : decode cX2_hasRecord 5 = .ok (.sipush 3072, 3) := by decide +kernel
theorem dX2_hasRecord_8 : decode cX2_hasRecord 8 = .ok (.if_icmp .ge 26, 3) := by decide +kernel
theorem dX2_hasRecord_11 : decode cX2_hasRecord 11 = .ok (.aload_n 0, 1) := by decide +kernel
theorem dX2_hasRecord_12 : decode cX2_hasRecord 12 = .ok (.getfield 11, 3) := by decide +kernel
theorem dX2_hasRecord_15 : decode cX2_hasRecord 15 = .ok (.iload_n 1, 1) := by decide +kernel
theorem dX2_hasRecord_16 : decode cX2_hasRecord 16 = .ok (.bipush 32, 2) := by decide +kernel
theorem dX2_hasRecord_18 : decode cX2_hasRecord 18 = .ok (.idiv, 1) := by decide +kernel
theorem dX2_hasRecord_19 : decode cX2_hasRecord 19 = .ok (.aaload, 1) := by decide +kernel
theorem dX2_hasRecord_20 : decode cX2_hasRecord 20 = .ok (.iload_n 1, 1) := by decide +kernel
theorem dX2_hasRecord_21 : decode cX2_hasRecord 21 = .ok (.bipush 32, 2) := by decide +kernel
theorem dX2_hasRecord_23 : decode cX2_hasRecord 23 = .ok (.irem, 1) := by decide +kernel
theorem dX2_hasRecord_24 : decode cX2_hasRecord 24 = .ok (.invokevirtual 22, 3) := by decide +kernel
theorem dX2_hasRecord_27 : decode cX2_hasRecord 27 = .ok (.ifCond .eq 7, 3) := by decide +kernel
theorem dX2_hasRecord_30 : decode cX2_hasRecord 30 = .ok (.iconst 1, 1) := by decide +kernel
theorem dX2_hasRecord_31 : decode cX2_hasRecord 31 = .ok (.goto 4, 3) := by decide +kernel
theorem dX2_hasRecord_34 : decode cX2_hasRecord 34 = .ok (.iconst 0, 1) := by decide +kernel
theorem dX2_hasRecord_35 : decode cX2_hasRecord 35 = .ok (.ireturn, 1) := by decide +kernel
theorem dX2_firstRecordFrom_0 : decode cX2_firstRecordFrom 0 = .ok (.iload_n 1, 1) := by decide +kernel
theorem dX2_firstRecordFrom_1 : decode cX2_firstRecordFrom 1 = .ok (.bipush 32, 2) := by decide +kernel
theorem dX2_firstRecordFrom_3 : decode cX2_firstRecordFrom 3 = .ok (.irem, 1) := by decide +kernel
theorem dX2_firstRecordFrom_4 : decode cX2_firstRecordFrom 4 = .ok (.istore_n 2, 1) := by decide +kernel
theorem dX2_firstRecordFrom_5 : decode cX2_firstRecordFrom 5 = .ok (.iload_n 1, 1) := by decide +kernel
theorem dX2_firstRecordFrom_6 : decode cX2_firstRecordFrom 6 = .ok (.bipush 32, 2) := by decide +kernel
theorem dX2_firstRecordFrom_8 : decode cX2_firstRecordFrom 8 = .ok (.idiv, 1) := by decide +kernel
theorem dX2_firstRecordFrom_9 : decode cX2_firstRecordFrom 9 = .ok (.istore_n 3, 1) := by decide +kernel
theorem dX2_firstRecordFrom_10 : decode cX2_firstRecordFrom 10 = .ok (.iload_n 3, 1) := by decide +kernel
theorem dX2_firstRecordFrom_11 : decode cX2_firstRecordFrom 11 = .ok (.bipush 96, 2) := by decide +kernel
theorem dX2_firstRecordFrom_13 : decode cX2_firstRecordFrom 13 = .ok (.if_icmp .ge 37, 3) := by decide +kernel
theorem dX2_firstRecordFrom_16 : decode cX2_firstRecordFrom 16 = .ok (.aload_n 0, 1) := by decide +kernel
theorem dX2_firstRecordFrom_17 : decode cX2_firstRecordFrom 17 = .ok (.getfield 11, 3) := by decide +kernel
theorem dX2_firstRecordFrom_20 : decode cX2_firstRecordFrom 20 = .ok (.iload_n 3, 1) := by decide +kernel
theorem dX2_firstRecordFrom_21 : decode cX2_firstRecordFrom 21 = .ok (.aaload, 1) := by decide +kernel
theorem dX2_firstRecordFrom_22 : decode cX2_firstRecordFrom 22 = .ok (.iload_n 2, 1) := by decide +kernel
theorem dX2_firstRecordFrom_23 : decode cX2_firstRecordFrom 23 = .ok (.invokevirtual 26, 3) := by decide +kernel
theorem dX2_firstRecordFrom_26 : decode cX2_firstRecordFrom 26 = .ok (.istore 4, 2) := by decide +kernel
theorem dX2_firstRecordFrom_28 : decode cX2_firstRecordFrom 28 = .ok (.iload 4, 2) := by decide +kernel
theorem dX2_firstRecordFrom_30 : decode cX2_firstRecordFrom 30 = .ok (.iconst (-1), 1) := by decide +kernel
theorem dX2_firstRecordFrom_31 : decode cX2_firstRecordFrom 31 = .ok (.if_icmp .eq 11, 3) := by decide +kernel
theorem dX2_firstRecordFrom_34 : decode cX2_firstRecordFrom 34 = .ok (.iload_n 3, 1) := by decide +kernel
theorem dX2_firstRecordFrom_35 : decode cX2_firstRecordFrom 35 = .ok (.bipush 32, 2) := by decide +kernel
theorem dX2_firstRecordFrom_37 : decode cX2_firstRecordFrom 37 = .ok (.imul, 1) := by decide +kernel
theorem dX2_firstRecordFrom_38 : decode cX2_firstRecordFrom 38 = .ok (.iload 4, 2) := by decide +kernel
theorem dX2_firstRecordFrom_40 : decode cX2_firstRecordFrom 40 = .ok (.iadd, 1) := by decide +kernel
theorem dX2_firstRecordFrom_41 : decode cX2_firstRecordFrom 41 = .ok (.ireturn, 1) := by decide +kernel
theorem dX2_firstRecordFrom_42 : decode cX2_firstRecordFrom 42 = .ok (.iconst 0, 1) := by decide +kernel
theorem dX2_firstRecordFrom_43 : decode cX2_firstRecordFrom 43 = .ok (.istore_n 2, 1) := by decide +kernel
theorem dX2_firstRecordFrom_44 : decode cX2_firstRecordFrom 44 = .ok (.iinc 3 1, 3) := by decide +kernel
theorem dX2_firstRecordFrom_47 : decode cX2_firstRecordFrom 47 = .ok (.goto (-37), 3) := by decide +kernel
theorem dX2_firstRecordFrom_50 : decode cX2_firstRecordFrom 50 = .ok (.iconst (-1), 1) := by decide +kernel
theorem dX2_firstRecordFrom_51 : decode cX2_firstRecordFrom 51 = .ok (.ireturn, 1) := by decide +kernel
theorem dX2_valueCell_0 : decode cX2_valueCell 0 = .ok (.aload_n 0, 1) := by decide +kernel
theorem dX2_valueCell_1 : decode cX2_valueCell 1 = .ok (.getfield 11, 3) := by decide +kernel
theorem dX2_valueCell_4 : decode cX2_valueCell 4 = .ok (.iload_n 1, 1) := by decide +kernel
theorem dX2_valueCell_5 : decode cX2_valueCell 5 = .ok (.bipush 32, 2) := by decide +kernel
theorem dX2_valueCell_7 : decode cX2_valueCell 7 = .ok (.idiv, 1) := by decide +kernel
theorem dX2_valueCell_8 : decode cX2_valueCell 8 = .ok (.aaload, 1) := by decide +kernel
theorem dX2_valueCell_9 : decode cX2_valueCell 9 = .ok (.astore_n 2, 1) := by decide +kernel
theorem dX2_valueCell_10 : decode cX2_valueCell 10 = .ok (.iload_n 1, 1) := by decide +kernel
theorem dX2_valueCell_11 : decode cX2_valueCell 11 = .ok (.bipush 32, 2) := by decide +kernel
theorem dX2_valueCell_13 : decode cX2_valueCell 13 = .ok (.irem, 1) := by decide +kernel
theorem dX2_valueCell_14 : decode cX2_valueCell 14 = .ok (.istore_n 3, 1) := by decide +kernel
theorem dX2_valueCell_15 : decode cX2_valueCell 15 = .ok (.aload_n 2, 1) := by decide +kernel
theorem dX2_valueCell_16 : decode cX2_valueCell 16 = .ok (.getfield 30, 3) := by decide +kernel
theorem dX2_valueCell_19 : decode cX2_valueCell 19 = .ok (.iload_n 3, 1) := by decide +kernel
theorem dX2_valueCell_20 : decode cX2_valueCell 20 = .ok (.iaload, 1) := by decide +kernel
theorem dX2_valueCell_21 : decode cX2_valueCell 21 = .ok (.iconst 2, 1) := by decide +kernel
theorem dX2_valueCell_22 : decode cX2_valueCell 22 = .ok (.if_icmp .ne 12, 3) := by decide +kernel
theorem dX2_valueCell_25 : decode cX2_valueCell 25 = .ok (.aload_n 2, 1) := by decide +kernel
theorem dX2_valueCell_26 : decode cX2_valueCell 26 = .ok (.getfield 34, 3) := by decide +kernel
theorem dX2_valueCell_29 : decode cX2_valueCell 29 = .ok (.iload_n 3, 1) := by decide +kernel
theorem dX2_valueCell_30 : decode cX2_valueCell 30 = .ok (.iaload, 1) := by decide +kernel
theorem dX2_valueCell_31 : decode cX2_valueCell 31 = .ok (.goto 4, 3) := by decide +kernel
theorem dX2_valueCell_34 : decode cX2_valueCell 34 = .ok (.iload_n 1, 1) := by decide +kernel
theorem dX2_valueCell_35 : decode cX2_valueCell 35 = .ok (.ireturn, 1) := by decide +kernel
theorem dX2_lengthOf_0 : decode cX2_lengthOf 0 = .ok (.aload_n 0, 1) := by decide +kernel
theorem dX2_lengthOf_1 : decode cX2_lengthOf 1 = .ok (.iload_n 1, 1) := by decide +kernel
theorem dX2_lengthOf_2 : decode cX2_lengthOf 2 = .ok (.invokevirtual 37, 3) := by decide +kernel
theorem dX2_lengthOf_5 : decode cX2_lengthOf 5 = .ok (.istore_n 2, 1) := by decide +kernel
theorem dX2_lengthOf_6 : decode cX2_lengthOf 6 = .ok (.aload_n 0, 1) := by decide +kernel
theorem dX2_lengthOf_7 : decode cX2_lengthOf 7 = .ok (.getfield 11, 3) := by decide +kernel
theorem dX2_lengthOf_10 : decode cX2_lengthOf 10 = .ok (.iload_n 2, 1) := by decide +kernel
theorem dX2_lengthOf_11 : decode cX2_lengthOf 11 = .ok (.bipush 32, 2) := by decide +kernel
theorem dX2_lengthOf_13 : decode cX2_lengthOf 13 = .ok (.idiv, 1) := by decide +kernel
theorem dX2_lengthOf_14 : decode cX2_lengthOf 14 = .ok (.aaload, 1) := by decide +kernel
theorem dX2_lengthOf_15 : decode cX2_lengthOf 15 = .ok (.getfield 40, 3) := by decide +kernel
theorem dX2_lengthOf_18 : decode cX2_lengthOf 18 = .ok (.iload_n 2, 1) := by decide +kernel
theorem dX2_lengthOf_19 : decode cX2_lengthOf 19 = .ok (.bipush 32, 2) := by decide +kernel
theorem dX2_lengthOf_21 : decode cX2_lengthOf 21 = .ok (.irem, 1) := by decide +kernel
theorem dX2_lengthOf_22 : decode cX2_lengthOf 22 = .ok (.iaload, 1) := by decide +kernel
theorem dX2_lengthOf_23 : decode cX2_lengthOf 23 = .ok (.ireturn, 1) := by decide +kernel
theorem dX2_seedOf_0 : decode cX2_seedOf 0 = .ok (.aload_n 0, 1) := by decide +kernel
theorem dX2_seedOf_1 : decode cX2_seedOf 1 = .ok (.iload_n 1, 1) := by decide +kernel
theorem dX2_seedOf_2 : decode cX2_seedOf 2 = .ok (.invokevirtual 37, 3) := by decide +kernel
theorem dX2_seedOf_5 : decode cX2_seedOf 5 = .ok (.istore_n 2, 1) := by decide +kernel
theorem dX2_seedOf_6 : decode cX2_seedOf 6 = .ok (.aload_n 0, 1) := by decide +kernel
theorem dX2_seedOf_7 : decode cX2_seedOf 7 = .ok (.getfield 11, 3) := by decide +kernel
theorem dX2_seedOf_10 : decode cX2_seedOf 10 = .ok (.iload_n 2, 1) := by decide +kernel
theorem dX2_seedOf_11 : decode cX2_seedOf 11 = .ok (.bipush 32, 2) := by decide +kernel
theorem dX2_seedOf_13 : decode cX2_seedOf 13 = .ok (.idiv, 1) := by decide +kernel
theorem dX2_seedOf_14 : decode cX2_seedOf 14 = .ok (.aaload, 1) := by decide +kernel
theorem dX2_seedOf_15 : decode cX2_seedOf 15 = .ok (.getfield 43, 3) := by decide +kernel
theorem dX2_seedOf_18 : decode cX2_seedOf 18 = .ok (.iload_n 2, 1) := by decide +kernel
theorem dX2_seedOf_19 : decode cX2_seedOf 19 = .ok (.bipush 32, 2) := by decide +kernel
theorem dX2_seedOf_21 : decode cX2_seedOf 21 = .ok (.irem, 1) := by decide +kernel
theorem dX2_seedOf_22 : decode cX2_seedOf 22 = .ok (.iaload, 1) := by decide +kernel
theorem dX2_seedOf_23 : decode cX2_seedOf 23 = .ok (.ireturn, 1) := by decide +kernel
theorem dX2_chainOf_0 : decode cX2_chainOf 0 = .ok (.aload_n 0, 1) := by decide +kernel
theorem dX2_chainOf_1 : decode cX2_chainOf 1 = .ok (.iload_n 1, 1) := by decide +kernel
theorem dX2_chainOf_2 : decode cX2_chainOf 2 = .ok (.invokevirtual 37, 3) := by decide +kernel
theorem dX2_chainOf_5 : decode cX2_chainOf 5 = .ok (.istore_n 2, 1) := by decide +kernel
theorem dX2_chainOf_6 : decode cX2_chainOf 6 = .ok (.aload_n 0, 1) := by decide +kernel
theorem dX2_chainOf_7 : decode cX2_chainOf 7 = .ok (.getfield 11, 3) := by decide +kernel
theorem dX2_chainOf_10 : decode cX2_chainOf 10 = .ok (.iload_n 2, 1) := by decide +kernel
theorem dX2_chainOf_11 : decode cX2_chainOf 11 = .ok (.bipush 32, 2) := by decide +kernel
theorem dX2_chainOf_13 : decode cX2_chainOf 13 = .ok (.idiv, 1) := by decide +kernel
theorem dX2_chainOf_14 : decode cX2_chainOf 14 = .ok (.aaload, 1) := by decide +kernel
theorem dX2_chainOf_15 : decode cX2_chainOf 15 = .ok (.getfield 34, 3) := by decide +kernel
theorem dX2_chainOf_18 : decode cX2_chainOf 18 = .ok (.iload_n 2, 1) := by decide +kernel
theorem dX2_chainOf_19 : decode cX2_chainOf 19 = .ok (.bipush 32, 2) := by decide +kernel
theorem dX2_chainOf_21 : decode cX2_chainOf 21 = .ok (.irem, 1) := by decide +kernel
theorem dX2_chainOf_22 : decode cX2_chainOf 22 = .ok (.iaload, 1) := by decide +kernel
theorem dX2_chainOf_23 : decode cX2_chainOf 23 = .ok (.ireturn, 1) := by decide +kernel
theorem dX2_addRecord_0 : decode cX2_addRecord 0 = .ok (.aload_n 0, 1) := by decide +kernel
theorem dX2_addRecord_1 : decode cX2_addRecord 1 = .ok (.iload_n 1, 1) := by decide +kernel
theorem dX2_addRecord_2 : decode cX2_addRecord 2 = .ok (.invokevirtual 46, 3) := by decide +kernel
theorem dX2_addRecord_5 : decode cX2_addRecord 5 = .ok (.ifCond .ne 5, 3) := by decide +kernel
theorem dX2_addRecord_8 : decode cX2_addRecord 8 = .ok (.iconst (-1), 1) := by decide +kernel
theorem dX2_addRecord_9 : decode cX2_addRecord 9 = .ok (.ireturn, 1) := by decide +kernel
theorem dX2_addRecord_10 : decode cX2_addRecord 10 = .ok (.aload_n 0, 1) := by decide +kernel
theorem dX2_addRecord_11 : decode cX2_addRecord 11 = .ok (.iload_n 1, 1) := by decide +kernel
theorem dX2_addRecord_12 : decode cX2_addRecord 12 = .ok (.invokevirtual 49, 3) := by decide +kernel
theorem dX2_addRecord_15 : decode cX2_addRecord 15 = .ok (.istore_n 3, 1) := by decide +kernel
theorem dX2_addRecord_16 : decode cX2_addRecord 16 = .ok (.aload_n 0, 1) := by decide +kernel
theorem dX2_addRecord_17 : decode cX2_addRecord 17 = .ok (.iconst 1, 1) := by decide +kernel
theorem dX2_addRecord_18 : decode cX2_addRecord 18 = .ok (.iload_n 1, 1) := by decide +kernel
theorem dX2_addRecord_19 : decode cX2_addRecord 19 = .ok (.invokestatic 52, 3) := by decide +kernel
theorem dX2_addRecord_22 : decode cX2_addRecord 22 = .ok (.iconst (-1), 1) := by decide +kernel
theorem dX2_addRecord_23 : decode cX2_addRecord 23 = .ok (.iconst (-1), 1) := by decide +kernel
theorem dX2_addRecord_24 : decode cX2_addRecord 24 = .ok (.invokevirtual 56, 3) := by decide +kernel
theorem dX2_addRecord_27 : decode cX2_addRecord 27 = .ok (.istore 4, 2) := by decide +kernel
theorem dX2_addRecord_29 : decode cX2_addRecord 29 = .ok (.iload 4, 2) := by decide +kernel
theorem dX2_addRecord_31 : decode cX2_addRecord 31 = .ok (.iconst (-1), 1) := by decide +kernel
theorem dX2_addRecord_32 : decode cX2_addRecord 32 = .ok (.if_icmp .ne 10, 3) := by decide +kernel
theorem dX2_addRecord_35 : decode cX2_addRecord 35 = .ok (.aload_n 0, 1) := by decide +kernel
theorem dX2_addRecord_36 : decode cX2_addRecord 36 = .ok (.iload_n 3, 1) := by decide +kernel
theorem dX2_addRecord_37 : decode cX2_addRecord 37 = .ok (.invokevirtual 60, 3) := by decide +kernel
theorem dX2_addRecord_40 : decode cX2_addRecord 40 = .ok (.iconst (-1), 1) := by decide +kernel
theorem dX2_addRecord_41 : decode cX2_addRecord 41 = .ok (.ireturn, 1) := by decide +kernel
theorem dX2_addRecord_42 : decode cX2_addRecord 42 = .ok (.iload 4, 2) := by decide +kernel
theorem dX2_addRecord_44 : decode cX2_addRecord 44 = .ok (.bipush 32, 2) := by decide +kernel
theorem dX2_addRecord_46 : decode cX2_addRecord 46 = .ok (.imul, 1) := by decide +kernel
theorem dX2_addRecord_47 : decode cX2_addRecord 47 = .ok (.aload_n 0, 1) := by decide +kernel
theorem dX2_addRecord_48 : decode cX2_addRecord 48 = .ok (.getfield 11, 3) := by decide +kernel
theorem dX2_addRecord_51 : decode cX2_addRecord 51 = .ok (.iload 4, 2) := by decide +kernel
theorem dX2_addRecord_53 : decode cX2_addRecord 53 = .ok (.aaload, 1) := by decide +kernel
theorem dX2_addRecord_54 : decode cX2_addRecord 54 = .ok (.iconst 1, 1) := by decide +kernel
theorem dX2_addRecord_55 : decode cX2_addRecord 55 = .ok (.iload_n 1, 1) := by decide +kernel
theorem dX2_addRecord_56 : decode cX2_addRecord 56 = .ok (.iload_n 2, 1) := by decide +kernel
theorem dX2_addRecord_57 : decode cX2_addRecord 57 = .ok (.iload_n 3, 1) := by decide +kernel
theorem dX2_addRecord_58 : decode cX2_addRecord 58 = .ok (.invokevirtual 64, 3) := by decide +kernel
theorem dX2_addRecord_61 : decode cX2_addRecord 61 = .ok (.iadd, 1) := by decide +kernel
theorem dX2_addRecord_62 : decode cX2_addRecord 62 = .ok (.ireturn, 1) := by decide +kernel
theorem dX2_changeRecord_0 : decode cX2_changeRecord 0 = .ok (.aload_n 0, 1) := by decide +kernel
theorem dX2_changeRecord_1 : decode cX2_changeRecord 1 = .ok (.iload_n 2, 1) := by decide +kernel
theorem dX2_changeRecord_2 : decode cX2_changeRecord 2 = .ok (.invokevirtual 46, 3) := by decide +kernel
theorem dX2_changeRecord_5 : decode cX2_changeRecord 5 = .ok (.ifCond .ne 5, 3) := by decide +kernel
theorem dX2_changeRecord_8 : decode cX2_changeRecord 8 = .ok (.iconst 0, 1) := by decide +kernel
theorem dX2_changeRecord_9 : decode cX2_changeRecord 9 = .ok (.ireturn, 1) := by decide +kernel
theorem dX2_changeRecord_10 : decode cX2_changeRecord 10 = .ok (.aload_n 0, 1) := by decide +kernel
theorem dX2_changeRecord_11 : decode cX2_changeRecord 11 = .ok (.iload_n 1, 1) := by decide +kernel
theorem dX2_changeRecord_12 : decode cX2_changeRecord 12 = .ok (.invokevirtual 68, 3) := by decide +kernel
theorem dX2_changeRecord_15 : decode cX2_changeRecord 15 = .ok (.istore 4, 2) := by decide +kernel
theorem dX2_changeRecord_17 : decode cX2_changeRecord 17 = .ok (.aload_n 0, 1) := by decide +kernel
theorem dX2_changeRecord_18 : decode cX2_changeRecord 18 = .ok (.iload_n 2, 1) := by decide +kernel
theorem dX2_changeRecord_19 : decode cX2_changeRecord 19 = .ok (.invokevirtual 49, 3) := by decide +kernel
theorem dX2_changeRecord_22 : decode cX2_changeRecord 22 = .ok (.istore 5, 2) := by decide +kernel
theorem dX2_changeRecord_24 : decode cX2_changeRecord 24 = .ok (.aload_n 0, 1) := by decide +kernel
theorem dX2_changeRecord_25 : decode cX2_changeRecord 25 = .ok (.iload_n 1, 1) := by decide +kernel
theorem dX2_changeRecord_26 : decode cX2_changeRecord 26 = .ok (.invokevirtual 37, 3) := by decide +kernel
theorem dX2_changeRecord_29 : decode cX2_changeRecord 29 = .ok (.iload_n 1, 1) := by decide +kernel
theorem dX2_changeRecord_30 : decode cX2_changeRecord 30 = .ok (.if_icmp .ne 15, 3) := by decide +kernel
theorem dX2_changeRecord_33 : decode cX2_changeRecord 33 = .ok (.aload_n 0, 1) := by decide +kernel
theorem dX2_changeRecord_34 : decode cX2_changeRecord 34 = .ok (.iload_n 1, 1) := by decide +kernel
theorem dX2_changeRecord_35 : decode cX2_changeRecord 35 = .ok (.iload_n 2, 1) := by decide +kernel
theorem dX2_changeRecord_36 : decode cX2_changeRecord 36 = .ok (.iload_n 3, 1) := by decide +kernel
theorem dX2_changeRecord_37 : decode cX2_changeRecord 37 = .ok (.iload 5, 2) := by decide +kernel
theorem dX2_changeRecord_39 : decode cX2_changeRecord 39 = .ok (.invokevirtual 71, 3) := by decide +kernel
theorem dX2_changeRecord_42 : decode cX2_changeRecord 42 = .ok (.goto 12, 3) := by decide +kernel
theorem dX2_changeRecord_45 : decode cX2_changeRecord 45 = .ok (.aload_n 0, 1) := by decide +kernel
theorem dX2_changeRecord_46 : decode cX2_changeRecord 46 = .ok (.iload_n 1, 1) := by decide +kernel
theorem dX2_changeRecord_47 : decode cX2_changeRecord 47 = .ok (.iload_n 2, 1) := by decide +kernel
theorem dX2_changeRecord_48 : decode cX2_changeRecord 48 = .ok (.iload_n 3, 1) := by decide +kernel
theorem dX2_changeRecord_49 : decode cX2_changeRecord 49 = .ok (.iload 5, 2) := by decide +kernel
theorem dX2_changeRecord_51 : decode cX2_changeRecord 51 = .ok (.invokevirtual 75, 3) := by decide +kernel
theorem dX2_changeRecord_54 : decode cX2_changeRecord 54 = .ok (.istore 6, 2) := by decide +kernel
theorem dX2_changeRecord_56 : decode cX2_changeRecord 56 = .ok (.aload_n 0, 1) := by decide +kernel
theorem dX2_changeRecord_57 : decode cX2_changeRecord 57 = .ok (.iload 6, 2) := by decide +kernel
theorem dX2_changeRecord_59 : decode cX2_changeRecord 59 = .ok (.ifCond .eq 8, 3) := by decide +kernel
theorem dX2_changeRecord_62 : decode cX2_changeRecord 62 = .ok (.iload 4, 2) := by decide +kernel
theorem dX2_changeRecord_64 : decode cX2_changeRecord 64 = .ok (.goto 5, 3) := by decide +kernel
theorem dX2_changeRecord_67 : decode cX2_changeRecord 67 = .ok (.iload 5, 2) := by decide +kernel
theorem dX2_changeRecord_69 : decode cX2_changeRecord 69 = .ok (.invokevirtual 60, 3) := by decide +kernel
theorem dX2_changeRecord_72 : decode cX2_changeRecord 72 = .ok (.iload 6, 2) := by decide +kernel
theorem dX2_changeRecord_74 : decode cX2_changeRecord 74 = .ok (.ireturn, 1) := by decide +kernel
theorem dX2_removeRecord_0 : decode cX2_removeRecord 0 = .ok (.aload_n 0, 1) := by decide +kernel
theorem dX2_removeRecord_1 : decode cX2_removeRecord 1 = .ok (.iload_n 1, 1) := by decide +kernel
theorem dX2_removeRecord_2 : decode cX2_removeRecord 2 = .ok (.invokevirtual 37, 3) := by decide +kernel
theorem dX2_removeRecord_5 : decode cX2_removeRecord 5 = .ok (.istore_n 2, 1) := by decide +kernel
theorem dX2_removeRecord_6 : decode cX2_removeRecord 6 = .ok (.aload_n 0, 1) := by decide +kernel
theorem dX2_removeRecord_7 : decode cX2_removeRecord 7 = .ok (.aload_n 0, 1) := by decide +kernel
theorem dX2_removeRecord_8 : decode cX2_removeRecord 8 = .ok (.iload_n 1, 1) := by decide +kernel
theorem dX2_removeRecord_9 : decode cX2_removeRecord 9 = .ok (.invokevirtual 68, 3) := by decide +kernel
theorem dX2_removeRecord_12 : decode cX2_removeRecord 12 = .ok (.invokevirtual 60, 3) := by decide +kernel
theorem dX2_removeRecord_15 : decode cX2_removeRecord 15 = .ok (.iload_n 2, 1) := by decide +kernel
theorem dX2_removeRecord_16 : decode cX2_removeRecord 16 = .ok (.iload_n 1, 1) := by decide +kernel
theorem dX2_removeRecord_17 : decode cX2_removeRecord 17 = .ok (.if_icmp .eq 19, 3) := by decide +kernel
theorem dX2_removeRecord_20 : decode cX2_removeRecord 20 = .ok (.aload_n 0, 1) := by decide +kernel
theorem dX2_removeRecord_21 : decode cX2_removeRecord 21 = .ok (.getfield 11, 3) := by decide +kernel
theorem dX2_removeRecord_24 : decode cX2_removeRecord 24 = .ok (.iload_n 2, 1) := by decide +kernel
theorem dX2_removeRecord_25 : decode cX2_removeRecord 25 = .ok (.bipush 32, 2) := by decide +kernel
theorem dX2_removeRecord_27 : decode cX2_removeRecord 27 = .ok (.idiv, 1) := by decide +kernel
theorem dX2_removeRecord_28 : decode cX2_removeRecord 28 = .ok (.aaload, 1) := by decide +kernel
theorem dX2_removeRecord_29 : decode cX2_removeRecord 29 = .ok (.iload_n 2, 1) := by decide +kernel
theorem dX2_removeRecord_30 : decode cX2_removeRecord 30 = .ok (.bipush 32, 2) := by decide +kernel
theorem dX2_removeRecord_32 : decode cX2_removeRecord 32 = .ok (.irem, 1) := by decide +kernel
theorem dX2_removeRecord_33 : decode cX2_removeRecord 33 = .ok (.invokevirtual 78, 3) := by decide +kernel
theorem dX2_removeRecord_36 : decode cX2_removeRecord 36 = .ok (.aload_n 0, 1) := by decide +kernel
theorem dX2_removeRecord_37 : decode cX2_removeRecord 37 = .ok (.getfield 11, 3) := by decide +kernel
theorem dX2_removeRecord_40 : decode cX2_removeRecord 40 = .ok (.iload_n 1, 1) := by decide +kernel
theorem dX2_removeRecord_41 : decode cX2_removeRecord 41 = .ok (.bipush 32, 2) := by decide +kernel
theorem dX2_removeRecord_43 : decode cX2_removeRecord 43 = .ok (.idiv, 1) := by decide +kernel
theorem dX2_removeRecord_44 : decode cX2_removeRecord 44 = .ok (.aaload, 1) := by decide +kernel
theorem dX2_removeRecord_45 : decode cX2_removeRecord 45 = .ok (.iload_n 1, 1) := by decide +kernel
theorem dX2_removeRecord_46 : decode cX2_removeRecord 46 = .ok (.bipush 32, 2) := by decide +kernel
theorem dX2_removeRecord_48 : decode cX2_removeRecord 48 = .ok (.irem, 1) := by decide +kernel
theorem dX2_removeRecord_49 : decode cX2_removeRecord 49 = .ok (.invokevirtual 78, 3) := by decide +kernel
theorem dX2_removeRecord_52 : decode cX2_removeRecord 52 = .ok (.return_, 1) := by decide +kernel
theorem dX2_changeAtHome_0 : decode cX2_changeAtHome 0 = .ok (.aload_n 0, 1) := by decide +kernel
theorem dX2_changeAtHome_1 : decode cX2_changeAtHome 1 = .ok (.getfield 11, 3) := by decide +kernel
theorem dX2_changeAtHome_4 : decode cX2_changeAtHome 4 = .ok (.iload_n 1, 1) := by decide +kernel
theorem dX2_changeAtHome_5 : decode cX2_changeAtHome 5 = .ok (.bipush 32, 2) := by decide +kernel
theorem dX2_changeAtHome_7 : decode cX2_changeAtHome 7 = .ok (.idiv, 1) := by decide +kernel
theorem dX2_changeAtHome_8 : decode cX2_changeAtHome 8 = .ok (.aaload, 1) := by decide +kernel
theorem dX2_changeAtHome_9 : decode cX2_changeAtHome 9 = .ok (.astore 5, 2) := by decide +kernel
theorem dX2_changeAtHome_11 : decode cX2_changeAtHome 11 = .ok (.iload_n 1, 1) := by decide +kernel
theorem dX2_changeAtHome_12 : decode cX2_changeAtHome 12 = .ok (.bipush 32, 2) := by decide +kernel
theorem dX2_changeAtHome_14 : decode cX2_changeAtHome 14 = .ok (.irem, 1) := by decide +kernel
theorem dX2_changeAtHome_15 : decode cX2_changeAtHome 15 = .ok (.istore 6, 2) := by decide +kernel
theorem dX2_changeAtHome_17 : decode cX2_changeAtHome 17 = .ok (.aload 5, 2) := by decide +kernel
theorem dX2_changeAtHome_19 : decode cX2_changeAtHome 19 = .ok (.iload 6, 2) := by decide +kernel
theorem dX2_changeAtHome_21 : decode cX2_changeAtHome 21 = .ok (.iconst 1, 1) := by decide +kernel
theorem dX2_changeAtHome_22 : decode cX2_changeAtHome 22 = .ok (.iload_n 2, 1) := by decide +kernel
theorem dX2_changeAtHome_23 : decode cX2_changeAtHome 23 = .ok (.invokestatic 52, 3) := by decide +kernel
theorem dX2_changeAtHome_26 : decode cX2_changeAtHome 26 = .ok (.invokevirtual 81, 3) := by decide +kernel
theorem dX2_changeAtHome_29 : decode cX2_changeAtHome 29 = .ok (.ifCond .eq 17, 3) := by decide +kernel
theorem dX2_changeAtHome_32 : decode cX2_changeAtHome 32 = .ok (.aload 5, 2) := by decide +kernel
theorem dX2_changeAtHome_34 : decode cX2_changeAtHome 34 = .ok (.iload 6, 2) := by decide +kernel
theorem dX2_changeAtHome_36 : decode cX2_changeAtHome 36 = .ok (.iconst 1, 1) := by decide +kernel
theorem dX2_changeAtHome_37 : decode cX2_changeAtHome 37 = .ok (.iload_n 2, 1) := by decide +kernel
theorem dX2_changeAtHome_38 : decode cX2_changeAtHome 38 = .ok (.iload_n 3, 1) := by decide +kernel
theorem dX2_changeAtHome_39 : decode cX2_changeAtHome 39 = .ok (.iload 4, 2) := by decide +kernel
theorem dX2_changeAtHome_41 : decode cX2_changeAtHome 41 = .ok (.invokevirtual 85, 3) := by decide +kernel
theorem dX2_changeAtHome_44 : decode cX2_changeAtHome 44 = .ok (.iconst 1, 1) := by decide +kernel
theorem dX2_changeAtHome_45 : decode cX2_changeAtHome 45 = .ok (.ireturn, 1) := by decide +kernel
theorem dX2_changeAtHome_46 : decode cX2_changeAtHome 46 = .ok (.aload_n 0, 1) := by decide +kernel
theorem dX2_changeAtHome_47 : decode cX2_changeAtHome 47 = .ok (.iconst 3, 1) := by decide +kernel
theorem dX2_changeAtHome_48 : decode cX2_changeAtHome 48 = .ok (.iload_n 2, 1) := by decide +kernel
theorem dX2_changeAtHome_49 : decode cX2_changeAtHome 49 = .ok (.invokestatic 52, 3) := by decide +kernel
theorem dX2_changeAtHome_52 : decode cX2_changeAtHome 52 = .ok (.iload_n 1, 1) := by decide +kernel
theorem dX2_changeAtHome_53 : decode cX2_changeAtHome 53 = .ok (.bipush 32, 2) := by decide +kernel
theorem dX2_changeAtHome_55 : decode cX2_changeAtHome 55 = .ok (.idiv, 1) := by decide +kernel
theorem dX2_changeAtHome_56 : decode cX2_changeAtHome 56 = .ok (.iconst (-1), 1) := by decide +kernel
theorem dX2_changeAtHome_57 : decode cX2_changeAtHome 57 = .ok (.invokevirtual 56, 3) := by decide +kernel
theorem dX2_changeAtHome_60 : decode cX2_changeAtHome 60 = .ok (.istore 7, 2) := by decide +kernel
theorem dX2_changeAtHome_62 : decode cX2_changeAtHome 62 = .ok (.iload 7, 2) := by decide +kernel
theorem dX2_changeAtHome_64 : decode cX2_changeAtHome 64 = .ok (.iconst (-1), 1) := by decide +kernel
theorem dX2_changeAtHome_65 : decode cX2_changeAtHome 65 = .ok (.if_icmp .ne 5, 3) := by decide +kernel
theorem dX2_changeAtHome_68 : decode cX2_changeAtHome 68 = .ok (.iconst 0, 1) := by decide +kernel
theorem dX2_changeAtHome_69 : decode cX2_changeAtHome 69 = .ok (.ireturn, 1) := by decide +kernel
theorem dX2_changeAtHome_70 : decode cX2_changeAtHome 70 = .ok (.iload 7, 2) := by decide +kernel
theorem dX2_changeAtHome_72 : decode cX2_changeAtHome 72 = .ok (.bipush 32, 2) := by decide +kernel
theorem dX2_changeAtHome_74 : decode cX2_changeAtHome 74 = .ok (.imul, 1) := by decide +kernel
theorem dX2_changeAtHome_75 : decode cX2_changeAtHome 75 = .ok (.aload_n 0, 1) := by decide +kernel
theorem dX2_changeAtHome_76 : decode cX2_changeAtHome 76 = .ok (.getfield 11, 3) := by decide +kernel
theorem dX2_changeAtHome_79 : decode cX2_changeAtHome 79 = .ok (.iload 7, 2) := by decide +kernel
theorem dX2_changeAtHome_81 : decode cX2_changeAtHome 81 = .ok (.aaload, 1) := by decide +kernel
theorem dX2_changeAtHome_82 : decode cX2_changeAtHome 82 = .ok (.iconst 3, 1) := by decide +kernel
theorem dX2_changeAtHome_83 : decode cX2_changeAtHome 83 = .ok (.iload_n 2, 1) := by decide +kernel
theorem dX2_changeAtHome_84 : decode cX2_changeAtHome 84 = .ok (.iload_n 3, 1) := by decide +kernel
theorem dX2_changeAtHome_85 : decode cX2_changeAtHome 85 = .ok (.iload 4, 2) := by decide +kernel
theorem dX2_changeAtHome_87 : decode cX2_changeAtHome 87 = .ok (.invokevirtual 64, 3) := by decide +kernel
theorem dX2_changeAtHome_90 : decode cX2_changeAtHome 90 = .ok (.iadd, 1) := by decide +kernel
theorem dX2_changeAtHome_91 : decode cX2_changeAtHome 91 = .ok (.istore 8, 2) := by decide +kernel
theorem dX2_changeAtHome_93 : decode cX2_changeAtHome 93 = .ok (.aload 5, 2) := by decide +kernel
theorem dX2_changeAtHome_95 : decode cX2_changeAtHome 95 = .ok (.iload 6, 2) := by decide +kernel
theorem dX2_changeAtHome_97 : decode cX2_changeAtHome 97 = .ok (.iconst 2, 1) := by decide +kernel
theorem dX2_changeAtHome_98 : decode cX2_changeAtHome 98 = .ok (.iconst (-1), 1) := by decide +kernel
theorem dX2_changeAtHome_99 : decode cX2_changeAtHome 99 = .ok (.iconst (-1), 1) := by decide +kernel
theorem dX2_changeAtHome_100 : decode cX2_changeAtHome 100 = .ok (.iload 8, 2) := by decide +kernel
theorem dX2_changeAtHome_102 : decode cX2_changeAtHome 102 = .ok (.invokevirtual 85, 3) := by decide +kernel
theorem dX2_changeAtHome_105 : decode cX2_changeAtHome 105 = .ok (.iconst 1, 1) := by decide +kernel
theorem dX2_changeAtHome_106 : decode cX2_changeAtHome 106 = .ok (.ireturn, 1) := by decide +kernel
theorem dX2_changeAway_0 : decode cX2_changeAway 0 = .ok (.aload_n 0, 1) := by decide +kernel
theorem dX2_changeAway_1 : decode cX2_changeAway 1 = .ok (.getfield 11, 3) := by decide +kernel
theorem dX2_changeAway_4 : decode cX2_changeAway 4 = .ok (.iload_n 1, 1) := by decide +kernel
theorem dX2_changeAway_5 : decode cX2_changeAway 5 = .ok (.bipush 32, 2) := by decide +kernel
theorem dX2_changeAway_7 : decode cX2_changeAway 7 = .ok (.idiv, 1) := by decide +kernel
theorem dX2_changeAway_8 : decode cX2_changeAway 8 = .ok (.aaload, 1) := by decide +kernel
theorem dX2_changeAway_9 : decode cX2_changeAway 9 = .ok (.astore 5, 2) := by decide +kernel
theorem dX2_changeAway_11 : decode cX2_changeAway 11 = .ok (.iload_n 1, 1) := by decide +kernel
theorem dX2_changeAway_12 : decode cX2_changeAway 12 = .ok (.bipush 32, 2) := by decide +kernel
theorem dX2_changeAway_14 : decode cX2_changeAway 14 = .ok (.irem, 1) := by decide +kernel
theorem dX2_changeAway_15 : decode cX2_changeAway 15 = .ok (.istore 6, 2) := by decide +kernel
theorem dX2_changeAway_17 : decode cX2_changeAway 17 = .ok (.aload 5, 2) := by decide +kernel
theorem dX2_changeAway_19 : decode cX2_changeAway 19 = .ok (.getfield 34, 3) := by decide +kernel
theorem dX2_changeAway_22 : decode cX2_changeAway 22 = .ok (.iload 6, 2) := by decide +kernel
theorem dX2_changeAway_24 : decode cX2_changeAway 24 = .ok (.iaload, 1) := by decide +kernel
theorem dX2_changeAway_25 : decode cX2_changeAway 25 = .ok (.istore 7, 2) := by decide +kernel
theorem dX2_changeAway_27 : decode cX2_changeAway 27 = .ok (.aload_n 0, 1) := by decide +kernel
theorem dX2_changeAway_28 : decode cX2_changeAway 28 = .ok (.getfield 11, 3) := by decide +kernel
theorem dX2_changeAway_31 : decode cX2_changeAway 31 = .ok (.iload 7, 2) := by decide +kernel
theorem dX2_changeAway_33 : decode cX2_changeAway 33 = .ok (.bipush 32, 2) := by decide +kernel
theorem dX2_changeAway_35 : decode cX2_changeAway 35 = .ok (.idiv, 1) := by decide +kernel
theorem dX2_changeAway_36 : decode cX2_changeAway 36 = .ok (.aaload, 1) := by decide +kernel
theorem dX2_changeAway_37 : decode cX2_changeAway 37 = .ok (.astore 8, 2) := by decide +kernel
theorem dX2_changeAway_39 : decode cX2_changeAway 39 = .ok (.iload 7, 2) := by decide +kernel
theorem dX2_changeAway_41 : decode cX2_changeAway 41 = .ok (.bipush 32, 2) := by decide +kernel
theorem dX2_changeAway_43 : decode cX2_changeAway 43 = .ok (.irem, 1) := by decide +kernel
theorem dX2_changeAway_44 : decode cX2_changeAway 44 = .ok (.istore 9, 2) := by decide +kernel
theorem dX2_changeAway_46 : decode cX2_changeAway 46 = .ok (.aload 5, 2) := by decide +kernel
theorem dX2_changeAway_48 : decode cX2_changeAway 48 = .ok (.iload 6, 2) := by decide +kernel
theorem dX2_changeAway_50 : decode cX2_changeAway 50 = .ok (.iconst 1, 1) := by decide +kernel
theorem dX2_changeAway_51 : decode cX2_changeAway 51 = .ok (.iload_n 2, 1) := by decide +kernel
theorem dX2_changeAway_52 : decode cX2_changeAway 52 = .ok (.invokestatic 52, 3) := by decide +kernel
theorem dX2_changeAway_55 : decode cX2_changeAway 55 = .ok (.invokevirtual 81, 3) := by decide +kernel
theorem dX2_changeAway_58 : decode cX2_changeAway 58 = .ok (.ifCond .eq 24, 3) := by decide +kernel
theorem dX2_changeAway_61 : decode cX2_changeAway 61 = .ok (.aload 5, 2) := by decide +kernel
theorem dX2_changeAway_63 : decode cX2_changeAway 63 = .ok (.iload 6, 2) := by decide +kernel
theorem dX2_changeAway_65 : decode cX2_changeAway 65 = .ok (.iconst 1, 1) := by decide +kernel
theorem dX2_changeAway_66 : decode cX2_changeAway 66 = .ok (.iload_n 2, 1) := by decide +kernel
theorem dX2_changeAway_67 : decode cX2_changeAway 67 = .ok (.iload_n 3, 1) := by decide +kernel
theorem dX2_changeAway_68 : decode cX2_changeAway 68 = .ok (.iload 4, 2) := by decide +kernel
theorem dX2_changeAway_70 : decode cX2_changeAway 70 = .ok (.invokevirtual 85, 3) := by decide +kernel
theorem dX2_changeAway_73 : decode cX2_changeAway 73 = .ok (.aload 8, 2) := by decide +kernel
theorem dX2_changeAway_75 : decode cX2_changeAway 75 = .ok (.iload 9, 2) := by decide +kernel
theorem dX2_changeAway_77 : decode cX2_changeAway 77 = .ok (.invokevirtual 78, 3) := by decide +kernel
theorem dX2_changeAway_80 : decode cX2_changeAway 80 = .ok (.iconst 1, 1) := by decide +kernel
theorem dX2_changeAway_81 : decode cX2_changeAway 81 = .ok (.ireturn, 1) := by decide +kernel
theorem dX2_changeAway_82 : decode cX2_changeAway 82 = .ok (.aload 8, 2) := by decide +kernel
theorem dX2_changeAway_84 : decode cX2_changeAway 84 = .ok (.iload 9, 2) := by decide +kernel
theorem dX2_changeAway_86 : decode cX2_changeAway 86 = .ok (.iconst 3, 1) := by decide +kernel
theorem dX2_changeAway_87 : decode cX2_changeAway 87 = .ok (.iload_n 2, 1) := by decide +kernel
theorem dX2_changeAway_88 : decode cX2_changeAway 88 = .ok (.invokestatic 52, 3) := by decide +kernel
theorem dX2_changeAway_91 : decode cX2_changeAway 91 = .ok (.invokevirtual 81, 3) := by decide +kernel
theorem dX2_changeAway_94 : decode cX2_changeAway 94 = .ok (.ifCond .eq 17, 3) := by decide +kernel
theorem dX2_changeAway_97 : decode cX2_changeAway 97 = .ok (.aload 8, 2) := by decide +kernel
theorem dX2_changeAway_99 : decode cX2_changeAway 99 = .ok (.iload 9, 2) := by decide +kernel
theorem dX2_changeAway_101 : decode cX2_changeAway 101 = .ok (.iconst 3, 1) := by decide +kernel
theorem dX2_changeAway_102 : decode cX2_changeAway 102 = .ok (.iload_n 2, 1) := by decide +kernel
theorem dX2_changeAway_103 : decode cX2_changeAway 103 = .ok (.iload_n 3, 1) := by decide +kernel
theorem dX2_changeAway_104 : decode cX2_changeAway 104 = .ok (.iload 4, 2) := by decide +kernel
theorem dX2_changeAway_106 : decode cX2_changeAway 106 = .ok (.invokevirtual 85, 3) := by decide +kernel
theorem dX2_changeAway_109 : decode cX2_changeAway 109 = .ok (.iconst 1, 1) := by decide +kernel
theorem dX2_changeAway_110 : decode cX2_changeAway 110 = .ok (.ireturn, 1) := by decide +kernel
theorem dX2_changeAway_111 : decode cX2_changeAway 111 = .ok (.aload_n 0, 1) := by decide +kernel
theorem dX2_changeAway_112 : decode cX2_changeAway 112 = .ok (.iconst 3, 1) := by decide +kernel
theorem dX2_changeAway_113 : decode cX2_changeAway 113 = .ok (.iload_n 2, 1) := by decide +kernel
theorem dX2_changeAway_114 : decode cX2_changeAway 114 = .ok (.invokestatic 52, 3) := by decide +kernel
theorem dX2_changeAway_117 : decode cX2_changeAway 117 = .ok (.iload_n 1, 1) := by decide +kernel
theorem dX2_changeAway_118 : decode cX2_changeAway 118 = .ok (.bipush 32, 2) := by decide +kernel
theorem dX2_changeAway_120 : decode cX2_changeAway 120 = .ok (.idiv, 1) := by decide +kernel
theorem dX2_changeAway_121 : decode cX2_changeAway 121 = .ok (.iload 7, 2) := by decide +kernel
theorem dX2_changeAway_123 : decode cX2_changeAway 123 = .ok (.bipush 32, 2) := by decide +kernel
theorem dX2_changeAway_125 : decode cX2_changeAway 125 = .ok (.idiv, 1) := by decide +kernel
theorem dX2_changeAway_126 : decode cX2_changeAway 126 = .ok (.invokevirtual 56, 3) := by decide +kernel
theorem dX2_changeAway_129 : decode cX2_changeAway 129 = .ok (.istore 10, 2) := by decide +kernel
theorem dX2_changeAway_131 : decode cX2_changeAway 131 = .ok (.iload 10, 2) := by decide +kernel
theorem dX2_changeAway_133 : decode cX2_changeAway 133 = .ok (.iconst (-1), 1) := by decide +kernel
theorem dX2_changeAway_134 : decode cX2_changeAway 134 = .ok (.if_icmp .ne 5, 3) := by decide +kernel
theorem dX2_changeAway_137 : decode cX2_changeAway 137 = .ok (.iconst 0, 1) := by decide +kernel
theorem dX2_changeAway_138 : decode cX2_changeAway 138 = .ok (.ireturn, 1) := by decide +kernel
theorem dX2_changeAway_139 : decode cX2_changeAway 139 = .ok (.iload 10, 2) := by decide +kernel
theorem dX2_changeAway_141 : decode cX2_changeAway 141 = .ok (.bipush 32, 2) := by decide +kernel
theorem dX2_changeAway_143 : decode cX2_changeAway 143 = .ok (.imul, 1) := by decide +kernel
theorem dX2_changeAway_144 : decode cX2_changeAway 144 = .ok (.aload_n 0, 1) := by decide +kernel
theorem dX2_changeAway_145 : decode cX2_changeAway 145 = .ok (.getfield 11, 3) := by decide +kernel
theorem dX2_changeAway_148 : decode cX2_changeAway 148 = .ok (.iload 10, 2) := by decide +kernel
theorem dX2_changeAway_150 : decode cX2_changeAway 150 = .ok (.aaload, 1) := by decide +kernel
theorem dX2_changeAway_151 : decode cX2_changeAway 151 = .ok (.iconst 3, 1) := by decide +kernel
theorem dX2_changeAway_152 : decode cX2_changeAway 152 = .ok (.iload_n 2, 1) := by decide +kernel
theorem dX2_changeAway_153 : decode cX2_changeAway 153 = .ok (.iload_n 3, 1) := by decide +kernel
theorem dX2_changeAway_154 : decode cX2_changeAway 154 = .ok (.iload 4, 2) := by decide +kernel
theorem dX2_changeAway_156 : decode cX2_changeAway 156 = .ok (.invokevirtual 64, 3) := by decide +kernel
theorem dX2_changeAway_159 : decode cX2_changeAway 159 = .ok (.iadd, 1) := by decide +kernel
theorem dX2_changeAway_160 : decode cX2_changeAway 160 = .ok (.istore 11, 2) := by decide +kernel
theorem dX2_changeAway_162 : decode cX2_changeAway 162 = .ok (.aload 8, 2) := by decide +kernel
theorem dX2_changeAway_164 : decode cX2_changeAway 164 = .ok (.iload 9, 2) := by decide +kernel
theorem dX2_changeAway_166 : decode cX2_changeAway 166 = .ok (.invokevirtual 78, 3) := by decide +kernel
theorem dX2_changeAway_169 : decode cX2_changeAway 169 = .ok (.aload 5, 2) := by decide +kernel
theorem dX2_changeAway_171 : decode cX2_changeAway 171 = .ok (.iload 6, 2) := by decide +kernel
theorem dX2_changeAway_173 : decode cX2_changeAway 173 = .ok (.iconst 2, 1) := by decide +kernel
theorem dX2_changeAway_174 : decode cX2_changeAway 174 = .ok (.iconst (-1), 1) := by decide +kernel
theorem dX2_changeAway_175 : decode cX2_changeAway 175 = .ok (.iconst (-1), 1) := by decide +kernel
theorem dX2_changeAway_176 : decode cX2_changeAway 176 = .ok (.iload 11, 2) := by decide +kernel
theorem dX2_changeAway_178 : decode cX2_changeAway 178 = .ok (.invokevirtual 85, 3) := by decide +kernel
theorem dX2_changeAway_181 : decode cX2_changeAway 181 = .ok (.iconst 1, 1) := by decide +kernel
theorem dX2_changeAway_182 : decode cX2_changeAway 182 = .ok (.ireturn, 1) := by decide +kernel
theorem dX2_placeFor_0 : decode cX2_placeFor 0 = .ok (.iload_n 1, 1) := by decide +kernel
theorem dX2_placeFor_1 : decode cX2_placeFor 1 = .ok (.iconst 4, 1) := by decide +kernel
theorem dX2_placeFor_2 : decode cX2_placeFor 2 = .ok (.iadd, 1) := by decide +kernel
theorem dX2_placeFor_3 : decode cX2_placeFor 3 = .ok (.istore 4, 2) := by decide +kernel
theorem dX2_placeFor_5 : decode cX2_placeFor 5 = .ok (.aload_n 0, 1) := by decide +kernel
theorem dX2_placeFor_6 : decode cX2_placeFor 6 = .ok (.iload 4, 2) := by decide +kernel
theorem dX2_placeFor_8 : decode cX2_placeFor 8 = .ok (.iload_n 2, 1) := by decide +kernel
theorem dX2_placeFor_9 : decode cX2_placeFor 9 = .ok (.iload_n 3, 1) := by decide +kernel
theorem dX2_placeFor_10 : decode cX2_placeFor 10 = .ok (.invokevirtual 89, 3) := by decide +kernel
theorem dX2_placeFor_13 : decode cX2_placeFor 13 = .ok (.istore 5, 2) := by decide +kernel
theorem dX2_placeFor_15 : decode cX2_placeFor 15 = .ok (.iload 5, 2) := by decide +kernel
theorem dX2_placeFor_17 : decode cX2_placeFor 17 = .ok (.iconst (-1), 1) := by decide +kernel
theorem dX2_placeFor_18 : decode cX2_placeFor 18 = .ok (.if_icmp .ne 13, 3) := by decide +kernel
theorem dX2_placeFor_21 : decode cX2_placeFor 21 = .ok (.aload_n 0, 1) := by decide +kernel
theorem dX2_placeFor_22 : decode cX2_placeFor 22 = .ok (.iload 4, 2) := by decide +kernel
theorem dX2_placeFor_24 : decode cX2_placeFor 24 = .ok (.iload_n 2, 1) := by decide +kernel
theorem dX2_placeFor_25 : decode cX2_placeFor 25 = .ok (.iload_n 3, 1) := by decide +kernel
theorem dX2_placeFor_26 : decode cX2_placeFor 26 = .ok (.invokevirtual 92, 3) := by decide +kernel
theorem dX2_placeFor_29 : decode cX2_placeFor 29 = .ok (.istore 5, 2) := by decide +kernel
theorem dX2_placeFor_31 : decode cX2_placeFor 31 = .ok (.iload 5, 2) := by decide +kernel
theorem dX2_placeFor_33 : decode cX2_placeFor 33 = .ok (.iconst (-1), 1) := by decide +kernel
theorem dX2_placeFor_34 : decode cX2_placeFor 34 = .ok (.if_icmp .ne 11, 3) := by decide +kernel
theorem dX2_placeFor_37 : decode cX2_placeFor 37 = .ok (.aload_n 0, 1) := by decide +kernel
theorem dX2_placeFor_38 : decode cX2_placeFor 38 = .ok (.iconst 0, 1) := by decide +kernel
theorem dX2_placeFor_39 : decode cX2_placeFor 39 = .ok (.invokevirtual 95, 3) := by decide +kernel
theorem dX2_placeFor_42 : decode cX2_placeFor 42 = .ok (.goto 5, 3) := by decide +kernel
theorem dX2_placeFor_45 : decode cX2_placeFor 45 = .ok (.iload 5, 2) := by decide +kernel
theorem dX2_placeFor_47 : decode cX2_placeFor 47 = .ok (.ireturn, 1) := by decide +kernel
theorem dX2_leastClassPage_0 : decode cX2_leastClassPage 0 = .ok (.iconst (-1), 1) := by decide +kernel
theorem dX2_leastClassPage_1 : decode cX2_leastClassPage 1 = .ok (.istore 4, 2) := by decide +kernel
theorem dX2_leastClassPage_3 : decode cX2_leastClassPage 3 = .ok (.bipush 9, 2) := by decide +kernel
theorem dX2_leastClassPage_5 : decode cX2_leastClassPage 5 = .ok (.istore 5, 2) := by decide +kernel
theorem dX2_leastClassPage_7 : decode cX2_leastClassPage 7 = .ok (.iconst 0, 1) := by decide +kernel
theorem dX2_leastClassPage_8 : decode cX2_leastClassPage 8 = .ok (.istore 6, 2) := by decide +kernel
theorem dX2_leastClassPage_10 : decode cX2_leastClassPage 10 = .ok (.iload 6, 2) := by decide +kernel
theorem dX2_leastClassPage_12 : decode cX2_leastClassPage 12 = .ok (.bipush 96, 2) := by decide +kernel
theorem dX2_leastClassPage_14 : decode cX2_leastClassPage 14 = .ok (.if_icmp .ge 76, 3) := by decide +kernel
theorem dX2_leastClassPage_17 : decode cX2_leastClassPage 17 = .ok (.iload 6, 2) := by decide +kernel
theorem dX2_leastClassPage_19 : decode cX2_leastClassPage 19 = .ok (.iload_n 2, 1) := by decide +kernel
theorem dX2_leastClassPage_20 : decode cX2_leastClassPage 20 = .ok (.if_icmp .eq 64, 3) := by decide +kernel
theorem dX2_leastClassPage_23 : decode cX2_leastClassPage 23 = .ok (.iload 6, 2) := by decide +kernel
theorem dX2_leastClassPage_25 : decode cX2_leastClassPage 25 = .ok (.iload_n 3, 1) := by decide +kernel
theorem dX2_leastClassPage_26 : decode cX2_leastClassPage 26 = .ok (.if_icmp .eq 58, 3) := by decide +kernel
theorem dX2_leastClassPage_29 : decode cX2_leastClassPage 29 = .ok (.aload_n 0, 1) := by decide +kernel
theorem dX2_leastClassPage_30 : decode cX2_leastClassPage 30 = .ok (.getfield 11, 3) := by decide +kernel
theorem dX2_leastClassPage_33 : decode cX2_leastClassPage 33 = .ok (.iload 6, 2) := by decide +kernel
theorem dX2_leastClassPage_35 : decode cX2_leastClassPage 35 = .ok (.aaload, 1) := by decide +kernel
theorem dX2_leastClassPage_36 : decode cX2_leastClassPage 36 = .ok (.invokevirtual 98, 3) := by decide +kernel
theorem dX2_leastClassPage_39 : decode cX2_leastClassPage 39 = .ok (.ifCond .ne 6, 3) := by decide +kernel
theorem dX2_leastClassPage_42 : decode cX2_leastClassPage 42 = .ok (.goto 42, 3) := by decide +kernel
theorem dX2_leastClassPage_45 : decode cX2_leastClassPage 45 = .ok (.aload_n 0, 1) := by decide +kernel
theorem dX2_leastClassPage_46 : decode cX2_leastClassPage 46 = .ok (.getfield 11, 3) := by decide +kernel
theorem dX2_leastClassPage_49 : decode cX2_leastClassPage 49 = .ok (.iload 6, 2) := by decide +kernel
theorem dX2_leastClassPage_51 : decode cX2_leastClassPage 51 = .ok (.aaload, 1) := by decide +kernel
theorem dX2_leastClassPage_52 : decode cX2_leastClassPage 52 = .ok (.invokevirtual 102, 3) := by decide +kernel
theorem dX2_leastClassPage_55 : decode cX2_leastClassPage 55 = .ok (.bipush 31, 2) := by decide +kernel
theorem dX2_leastClassPage_57 : decode cX2_leastClassPage 57 = .ok (.idiv, 1) := by decide +kernel
theorem dX2_leastClassPage_58 : decode cX2_leastClassPage 58 = .ok (.istore 7, 2) := by decide +kernel
theorem dX2_leastClassPage_60 : decode cX2_leastClassPage 60 = .ok (.iload 7, 2) := by decide +kernel
theorem dX2_leastClassPage_62 : decode cX2_leastClassPage 62 = .ok (.bipush 31, 2) := by decide +kernel
theorem dX2_leastClassPage_64 : decode cX2_leastClassPage 64 = .ok (.imul, 1) := by decide +kernel
theorem dX2_leastClassPage_65 : decode cX2_leastClassPage 65 = .ok (.iload_n 1, 1) := by decide +kernel
theorem dX2_leastClassPage_66 : decode cX2_leastClassPage 66 = .ok (.if_icmp .lt 18, 3) := by decide +kernel
theorem dX2_leastClassPage_69 : decode cX2_leastClassPage 69 = .ok (.iload 7, 2) := by decide +kernel
theorem dX2_leastClassPage_71 : decode cX2_leastClassPage 71 = .ok (.iload 5, 2) := by decide +kernel
theorem dX2_leastClassPage_73 : decode cX2_leastClassPage 73 = .ok (.if_icmp .ge 11, 3) := by decide +kernel
theorem dX2_leastClassPage_76 : decode cX2_leastClassPage 76 = .ok (.iload 6, 2) := by decide +kernel
theorem dX2_leastClassPage_78 : decode cX2_leastClassPage 78 = .ok (.istore 4, 2) := by decide +kernel
theorem dX2_leastClassPage_80 : decode cX2_leastClassPage 80 = .ok (.iload 7, 2) := by decide +kernel
theorem dX2_leastClassPage_82 : decode cX2_leastClassPage 82 = .ok (.istore 5, 2) := by decide +kernel
theorem dX2_leastClassPage_84 : decode cX2_leastClassPage 84 = .ok (.iinc 6 1, 3) := by decide +kernel
theorem dX2_leastClassPage_87 : decode cX2_leastClassPage 87 = .ok (.goto (-77), 3) := by decide +kernel
theorem dX2_leastClassPage_90 : decode cX2_leastClassPage 90 = .ok (.iload 4, 2) := by decide +kernel
theorem dX2_leastClassPage_92 : decode cX2_leastClassPage 92 = .ok (.ireturn, 1) := by decide +kernel
theorem dX2_firstPageWithRoom_0 : decode cX2_firstPageWithRoom 0 = .ok (.iconst 0, 1) := by decide +kernel
theorem dX2_firstPageWithRoom_1 : decode cX2_firstPageWithRoom 1 = .ok (.istore 4, 2) := by decide +kernel
theorem dX2_firstPageWithRoom_3 : decode cX2_firstPageWithRoom 3 = .ok (.iload 4, 2) := by decide +kernel
theorem dX2_firstPageWithRoom_5 : decode cX2_firstPageWithRoom 5 = .ok (.bipush 96, 2) := by decide +kernel
theorem dX2_firstPageWithRoom_7 : decode cX2_firstPageWithRoom 7 = .ok (.if_icmp .ge 51, 3) := by decide +kernel
theorem dX2_firstPageWithRoom_10 : decode cX2_firstPageWithRoom 10 = .ok (.iload 4, 2) := by decide +kernel
theorem dX2_firstPageWithRoom_12 : decode cX2_firstPageWithRoom 12 = .ok (.iload_n 2, 1) := by decide +kernel
theorem dX2_firstPageWithRoom_13 : decode cX2_firstPageWithRoom 13 = .ok (.if_icmp .eq 39, 3) := by decide +kernel
theorem dX2_firstPageWithRoom_16 : decode cX2_firstPageWithRoom 16 = .ok (.iload 4, 2) := by decide +kernel
theorem dX2_firstPageWithRoom_18 : decode cX2_firstPageWithRoom 18 = .ok (.iload_n 3, 1) := by decide +kernel
theorem dX2_firstPageWithRoom_19 : decode cX2_firstPageWithRoom 19 = .ok (.if_icmp .eq 33, 3) := by decide +kernel
theorem dX2_firstPageWithRoom_22 : decode cX2_firstPageWithRoom 22 = .ok (.aload_n 0, 1) := by decide +kernel
theorem dX2_firstPageWithRoom_23 : decode cX2_firstPageWithRoom 23 = .ok (.getfield 11, 3) := by decide +kernel
theorem dX2_firstPageWithRoom_26 : decode cX2_firstPageWithRoom 26 = .ok (.iload 4, 2) := by decide +kernel
theorem dX2_firstPageWithRoom_28 : decode cX2_firstPageWithRoom 28 = .ok (.aaload, 1) := by decide +kernel
theorem dX2_firstPageWithRoom_29 : decode cX2_firstPageWithRoom 29 = .ok (.invokevirtual 98, 3) := by decide +kernel
theorem dX2_firstPageWithRoom_32 : decode cX2_firstPageWithRoom 32 = .ok (.ifCond .eq 20, 3) := by decide +kernel
theorem dX2_firstPageWithRoom_35 : decode cX2_firstPageWithRoom 35 = .ok (.aload_n 0, 1) := by decide +kernel
theorem dX2_firstPageWithRoom_36 : decode cX2_firstPageWithRoom 36 = .ok (.getfield 11, 3) := by decide +kernel
theorem dX2_firstPageWithRoom_39 : decode cX2_firstPageWithRoom 39 = .ok (.iload 4, 2) := by decide +kernel
theorem dX2_firstPageWithRoom_41 : decode cX2_firstPageWithRoom 41 = .ok (.aaload, 1) := by decide +kernel
theorem dX2_firstPageWithRoom_42 : decode cX2_firstPageWithRoom 42 = .ok (.invokevirtual 102, 3) := by decide +kernel
theorem dX2_firstPageWithRoom_45 : decode cX2_firstPageWithRoom 45 = .ok (.iload_n 1, 1) := by decide +kernel
theorem dX2_firstPageWithRoom_46 : decode cX2_firstPageWithRoom 46 = .ok (.if_icmp .lt 6, 3) := by decide +kernel
theorem dX2_firstPageWithRoom_49 : decode cX2_firstPageWithRoom 49 = .ok (.iload 4, 2) := by decide +kernel
theorem dX2_firstPageWithRoom_51 : decode cX2_firstPageWithRoom 51 = .ok (.ireturn, 1) := by decide +kernel
theorem dX2_firstPageWithRoom_52 : decode cX2_firstPageWithRoom 52 = .ok (.iinc 4 1, 3) := by decide +kernel
theorem dX2_firstPageWithRoom_55 : decode cX2_firstPageWithRoom 55 = .ok (.goto (-52), 3) := by decide +kernel
theorem dX2_firstPageWithRoom_58 : decode cX2_firstPageWithRoom 58 = .ok (.iconst (-1), 1) := by decide +kernel
theorem dX2_firstPageWithRoom_59 : decode cX2_firstPageWithRoom 59 = .ok (.ireturn, 1) := by decide +kernel
theorem dX2_leastFreePage_0 : decode cX2_leastFreePage 0 = .ok (.iload_n 1, 1) := by decide +kernel
theorem dX2_leastFreePage_1 : decode cX2_leastFreePage 1 = .ok (.istore_n 2, 1) := by decide +kernel
theorem dX2_leastFreePage_2 : decode cX2_leastFreePage 2 = .ok (.iload_n 2, 1) := by decide +kernel
theorem dX2_leastFreePage_3 : decode cX2_leastFreePage 3 = .ok (.bipush 96, 2) := by decide +kernel
theorem dX2_leastFreePage_5 : decode cX2_leastFreePage 5 = .ok (.if_icmp .ge 23, 3) := by decide +kernel
theorem dX2_leastFreePage_8 : decode cX2_leastFreePage 8 = .ok (.aload_n 0, 1) := by decide +kernel
theorem dX2_leastFreePage_9 : decode cX2_leastFreePage 9 = .ok (.getfield 11, 3) := by decide +kernel
theorem dX2_leastFreePage_12 : decode cX2_leastFreePage 12 = .ok (.iload_n 2, 1) := by decide +kernel
theorem dX2_leastFreePage_13 : decode cX2_leastFreePage 13 = .ok (.aaload, 1) := by decide +kernel
theorem dX2_leastFreePage_14 : decode cX2_leastFreePage 14 = .ok (.getfield 106, 3) := by decide +kernel
theorem dX2_leastFreePage_17 : decode cX2_leastFreePage 17 = .ok (.ifCond .ne 5, 3) := by decide +kernel
theorem dX2_leastFreePage_20 : decode cX2_leastFreePage 20 = .ok (.iload_n 2, 1) := by decide +kernel
theorem dX2_leastFreePage_21 : decode cX2_leastFreePage 21 = .ok (.ireturn, 1) := by decide +kernel
theorem dX2_leastFreePage_22 : decode cX2_leastFreePage 22 = .ok (.iinc 2 1, 3) := by decide +kernel
theorem dX2_leastFreePage_25 : decode cX2_leastFreePage 25 = .ok (.goto (-23), 3) := by decide +kernel
theorem dX2_leastFreePage_28 : decode cX2_leastFreePage 28 = .ok (.iconst (-1), 1) := by decide +kernel
theorem dX2_leastFreePage_29 : decode cX2_leastFreePage 29 = .ok (.ireturn, 1) := by decide +kernel
theorem dX2_hasPagesForChain_0 : decode cX2_hasPagesForChain 0 = .ok (.iload_n 1, 1) := by decide +kernel
theorem dX2_hasPagesForChain_1 : decode cX2_hasPagesForChain 1 = .ok (.invokestatic 110, 3) := by decide +kernel
theorem dX2_hasPagesForChain_4 : decode cX2_hasPagesForChain 4 = .ok (.istore_n 2, 1) := by decide +kernel
theorem dX2_hasPagesForChain_5 : decode cX2_hasPagesForChain 5 = .ok (.iload_n 2, 1) := by decide +kernel
theorem dX2_hasPagesForChain_6 : decode cX2_hasPagesForChain 6 = .ok (.ifCond .eq 12, 3) := by decide +kernel
theorem dX2_hasPagesForChain_9 : decode cX2_hasPagesForChain 9 = .ok (.iload_n 2, 1) := by decide +kernel
theorem dX2_hasPagesForChain_10 : decode cX2_hasPagesForChain 10 = .ok (.aload_n 0, 1) := by decide +kernel
theorem dX2_hasPagesForChain_11 : decode cX2_hasPagesForChain 11 = .ok (.iconst 0, 1) := by decide +kernel
theorem dX2_hasPagesForChain_12 : decode cX2_hasPagesForChain 12 = .ok (.invokevirtual 113, 3) := by decide +kernel
theorem dX2_hasPagesForChain_15 : decode cX2_hasPagesForChain 15 = .ok (.if_icmp .gt 7, 3) := by decide +kernel
theorem dX2_hasPagesForChain_18 : decode cX2_hasPagesForChain 18 = .ok (.iconst 1, 1) := by decide +kernel
theorem dX2_hasPagesForChain_19 : decode cX2_hasPagesForChain 19 = .ok (.goto 4, 3) := by decide +kernel
theorem dX2_hasPagesForChain_22 : decode cX2_hasPagesForChain 22 = .ok (.iconst 0, 1) := by decide +kernel
theorem dX2_hasPagesForChain_23 : decode cX2_hasPagesForChain 23 = .ok (.ireturn, 1) := by decide +kernel
theorem dX2_takeChain_0 : decode cX2_takeChain 0 = .ok (.iload_n 1, 1) := by decide +kernel
theorem dX2_takeChain_1 : decode cX2_takeChain 1 = .ok (.invokestatic 110, 3) := by decide +kernel
theorem dX2_takeChain_4 : decode cX2_takeChain 4 = .ok (.istore_n 2, 1) := by decide +kernel
theorem dX2_takeChain_5 : decode cX2_takeChain 5 = .ok (.iconst (-1), 1) := by decide +kernel
theorem dX2_takeChain_6 : decode cX2_takeChain 6 = .ok (.istore_n 3, 1) := by decide +kernel
theorem dX2_takeChain_7 : decode cX2_takeChain 7 = .ok (.iconst (-1), 1) := by decide +kernel
theorem dX2_takeChain_8 : decode cX2_takeChain 8 = .ok (.istore 4, 2) := by decide +kernel
theorem dX2_takeChain_10 : decode cX2_takeChain 10 = .ok (.iload_n 1, 1) := by decide +kernel
theorem dX2_takeChain_11 : decode cX2_takeChain 11 = .ok (.istore 5, 2) := by decide +kernel
theorem dX2_takeChain_13 : decode cX2_takeChain 13 = .ok (.iconst 0, 1) := by decide +kernel
theorem dX2_takeChain_14 : decode cX2_takeChain 14 = .ok (.istore 6, 2) := by decide +kernel
theorem dX2_takeChain_16 : decode cX2_takeChain 16 = .ok (.iload 6, 2) := by decide +kernel
theorem dX2_takeChain_18 : decode cX2_takeChain 18 = .ok (.iload_n 2, 1) := by decide +kernel
theorem dX2_takeChain_19 : decode cX2_takeChain 19 = .ok (.if_icmp .ge 80, 3) := by decide +kernel
theorem dX2_takeChain_22 : decode cX2_takeChain 22 = .ok (.aload_n 0, 1) := by decide +kernel
theorem dX2_takeChain_23 : decode cX2_takeChain 23 = .ok (.iload 4, 2) := by decide +kernel
theorem dX2_takeChain_25 : decode cX2_takeChain 25 = .ok (.iconst 1, 1) := by decide +kernel
theorem dX2_takeChain_26 : decode cX2_takeChain 26 = .ok (.iadd, 1) := by decide +kernel
theorem dX2_takeChain_27 : decode cX2_takeChain 27 = .ok (.invokevirtual 95, 3) := by decide +kernel
theorem dX2_takeChain_30 : decode cX2_takeChain 30 = .ok (.istore 7, 2) := by decide +kernel
theorem dX2_takeChain_32 : decode cX2_takeChain 32 = .ok (.iload 7, 2) := by decide +kernel
theorem dX2_takeChain_34 : decode cX2_takeChain 34 = .ok (.iconst (-1), 1) := by decide +kernel
theorem dX2_takeChain_35 : decode cX2_takeChain 35 = .ok (.if_icmp .ne 6, 3) := by decide +kernel
theorem dX2_takeChain_38 : decode cX2_takeChain 38 = .ok (.goto 61, 3) := by decide +kernel
theorem dX2_takeChain_41 : decode cX2_takeChain 41 = .ok (.aload_n 0, 1) := by decide +kernel
theorem dX2_takeChain_42 : decode cX2_takeChain 42 = .ok (.getfield 11, 3) := by decide +kernel
theorem dX2_takeChain_45 : decode cX2_takeChain 45 = .ok (.iload 7, 2) := by decide +kernel
theorem dX2_takeChain_47 : decode cX2_takeChain 47 = .ok (.aaload, 1) := by decide +kernel
theorem dX2_takeChain_48 : decode cX2_takeChain 48 = .ok (.iload 5, 2) := by decide +kernel
theorem dX2_takeChain_50 : decode cX2_takeChain 50 = .ok (.sipush 240, 3) := by decide +kernel
theorem dX2_takeChain_53 : decode cX2_takeChain 53 = .ok (.invokestatic 116, 3) := by decide +kernel
theorem dX2_takeChain_56 : decode cX2_takeChain 56 = .ok (.invokevirtual 121, 3) := by decide +kernel
theorem dX2_takeChain_59 : decode cX2_takeChain 59 = .ok (.iinc 5 (-240), 6) := by decide +kernel
theorem dX2_takeChain_65 : decode cX2_takeChain 65 = .ok (.iload 4, 2) := by decide +kernel
theorem dX2_takeChain_67 : decode cX2_takeChain 67 = .ok (.iconst (-1), 1) := by decide +kernel
theorem dX2_takeChain_68 : decode cX2_takeChain 68 = .ok (.if_icmp .ne 9, 3) := by decide +kernel
theorem dX2_takeChain_71 : decode cX2_takeChain 71 = .ok (.iload 7, 2) := by decide +kernel
theorem dX2_takeChain_73 : decode cX2_takeChain 73 = .ok (.istore_n 3, 1) := by decide +kernel
theorem dX2_takeChain_74 : decode cX2_takeChain 74 = .ok (.goto 15, 3) := by decide +kernel
theorem dX2_takeChain_77 : decode cX2_takeChain 77 = .ok (.aload_n 0, 1) := by decide +kernel
theorem dX2_takeChain_78 : decode cX2_takeChain 78 = .ok (.getfield 11, 3) := by decide +kernel
theorem dX2_takeChain_81 : decode cX2_takeChain 81 = .ok (.iload 4, 2) := by decide +kernel
theorem dX2_takeChain_83 : decode cX2_takeChain 83 = .ok (.aaload, 1) := by decide +kernel
theorem dX2_takeChain_84 : decode cX2_takeChain 84 = .ok (.iload 7, 2) := by decide +kernel
theorem dX2_takeChain_86 : decode cX2_takeChain 86 = .ok (.putfield 124, 3) := by decide +kernel
theorem dX2_takeChain_89 : decode cX2_takeChain 89 = .ok (.iload 7, 2) := by decide +kernel
theorem dX2_takeChain_91 : decode cX2_takeChain 91 = .ok (.istore 4, 2) := by decide +kernel
theorem dX2_takeChain_93 : decode cX2_takeChain 93 = .ok (.iinc 6 1, 3) := by decide +kernel
theorem dX2_takeChain_96 : decode cX2_takeChain 96 = .ok (.goto (-80), 3) := by decide +kernel
theorem dX2_takeChain_99 : decode cX2_takeChain 99 = .ok (.iload_n 3, 1) := by decide +kernel
theorem dX2_takeChain_100 : decode cX2_takeChain 100 = .ok (.ireturn, 1) := by decide +kernel
theorem dX2_freeChain_0 : decode cX2_freeChain 0 = .ok (.iload_n 1, 1) := by decide +kernel
theorem dX2_freeChain_1 : decode cX2_freeChain 1 = .ok (.istore_n 2, 1) := by decide +kernel
theorem dX2_freeChain_2 : decode cX2_freeChain 2 = .ok (.iconst 0, 1) := by decide +kernel
theorem dX2_freeChain_3 : decode cX2_freeChain 3 = .ok (.istore_n 3, 1) := by decide +kernel
theorem dX2_freeChain_4 : decode cX2_freeChain 4 = .ok (.iload_n 3, 1) := by decide +kernel
theorem dX2_freeChain_5 : decode cX2_freeChain 5 = .ok (.bipush 96, 2) := by decide +kernel
theorem dX2_freeChain_7 : decode cX2_freeChain 7 = .ok (.if_icmp .ge 37, 3) := by decide +kernel
theorem dX2_freeChain_10 : decode cX2_freeChain 10 = .ok (.iload_n 2, 1) := by decide +kernel
theorem dX2_freeChain_11 : decode cX2_freeChain 11 = .ok (.iconst (-1), 1) := by decide +kernel
theorem dX2_freeChain_12 : decode cX2_freeChain 12 = .ok (.if_icmp .eq 32, 3) := by decide +kernel
theorem dX2_freeChain_15 : decode cX2_freeChain 15 = .ok (.aload_n 0, 1) := by decide +kernel
theorem dX2_freeChain_16 : decode cX2_freeChain 16 = .ok (.getfield 11, 3) := by decide +kernel
theorem dX2_freeChain_19 : decode cX2_freeChain 19 = .ok (.iload_n 2, 1) := by decide +kernel
theorem dX2_freeChain_20 : decode cX2_freeChain 20 = .ok (.aaload, 1) := by decide +kernel
theorem dX2_freeChain_21 : decode cX2_freeChain 21 = .ok (.getfield 124, 3) := by decide +kernel
theorem dX2_freeChain_24 : decode cX2_freeChain 24 = .ok (.istore 4, 2) := by decide +kernel
theorem dX2_freeChain_26 : decode cX2_freeChain 26 = .ok (.aload_n 0, 1) := by decide +kernel
theorem dX2_freeChain_27 : decode cX2_freeChain 27 = .ok (.getfield 11, 3) := by decide +kernel
theorem dX2_freeChain_30 : decode cX2_freeChain 30 = .ok (.iload_n 2, 1) := by decide +kernel
theorem dX2_freeChain_31 : decode cX2_freeChain 31 = .ok (.aaload, 1) := by decide +kernel
theorem dX2_freeChain_32 : decode cX2_freeChain 32 = .ok (.invokevirtual 127, 3) := by decide +kernel
theorem dX2_freeChain_35 : decode cX2_freeChain 35 = .ok (.iload 4, 2) := by decide +kernel
theorem dX2_freeChain_37 : decode cX2_freeChain 37 = .ok (.istore_n 2, 1) := by decide +kernel
theorem dX2_freeChain_38 : decode cX2_freeChain 38 = .ok (.iinc 3 1, 3) := by decide +kernel
theorem dX2_freeChain_41 : decode cX2_freeChain 41 = .ok (.goto (-37), 3) := by decide +kernel
theorem dX2_freeChain_44 : decode cX2_freeChain 44 = .ok (.return_, 1) := by decide +kernel
theorem dX2_pagesThatAre_0 : decode cX2_pagesThatAre 0 = .ok (.iconst 0, 1) := by decide +kernel
theorem dX2_pagesThatAre_1 : decode cX2_pagesThatAre 1 = .ok (.istore_n 2, 1) := by decide +kernel
theorem dX2_pagesThatAre_2 : decode cX2_pagesThatAre 2 = .ok (.iconst 0, 1) := by decide +kernel
theorem dX2_pagesThatAre_3 : decode cX2_pagesThatAre 3 = .ok (.istore_n 3, 1) := by decide +kernel
theorem dX2_pagesThatAre_4 : decode cX2_pagesThatAre 4 = .ok (.iload_n 3, 1) := by decide +kernel
theorem dX2_pagesThatAre_5 : decode cX2_pagesThatAre 5 = .ok (.bipush 96, 2) := by decide +kernel
theorem dX2_pagesThatAre_7 : decode cX2_pagesThatAre 7 = .ok (.if_icmp .ge 25, 3) := by decide +kernel
theorem dX2_pagesThatAre_10 : decode cX2_pagesThatAre 10 = .ok (.aload_n 0, 1) := by decide +kernel
theorem dX2_pagesThatAre_11 : decode cX2_pagesThatAre 11 = .ok (.getfield 11, 3) := by decide +kernel
theorem dX2_pagesThatAre_14 : decode cX2_pagesThatAre 14 = .ok (.iload_n 3, 1) := by decide +kernel
theorem dX2_pagesThatAre_15 : decode cX2_pagesThatAre 15 = .ok (.aaload, 1) := by decide +kernel
theorem dX2_pagesThatAre_16 : decode cX2_pagesThatAre 16 = .ok (.getfield 106, 3) := by decide +kernel
theorem dX2_pagesThatAre_19 : decode cX2_pagesThatAre 19 = .ok (.iload_n 1, 1) := by decide +kernel
theorem dX2_pagesThatAre_20 : decode cX2_pagesThatAre 20 = .ok (.if_icmp .ne 6, 3) := by decide +kernel
theorem dX2_pagesThatAre_23 : decode cX2_pagesThatAre 23 = .ok (.iinc 2 1, 3) := by decide +kernel
theorem dX2_pagesThatAre_26 : decode cX2_pagesThatAre 26 = .ok (.iinc 3 1, 3) := by decide +kernel
theorem dX2_pagesThatAre_29 : decode cX2_pagesThatAre 29 = .ok (.goto (-25), 3) := by decide +kernel
theorem dX2_pagesThatAre_32 : decode cX2_pagesThatAre 32 = .ok (.iload_n 2, 1) := by decide +kernel
theorem dX2_pagesThatAre_33 : decode cX2_pagesThatAre 33 = .ok (.ireturn, 1) := by decide +kernel
theorem dX2_cellCount_0 : decode cX2_cellCount 0 = .ok (.iconst 0, 1) := by decide +kernel
theorem dX2_cellCount_1 : decode cX2_cellCount 1 = .ok (.istore_n 1, 1) := by decide +kernel
theorem dX2_cellCount_2 : decode cX2_cellCount 2 = .ok (.iconst 0, 1) := by decide +kernel
theorem dX2_cellCount_3 : decode cX2_cellCount 3 = .ok (.istore_n 2, 1) := by decide +kernel
theorem dX2_cellCount_4 : decode cX2_cellCount 4 = .ok (.iload_n 2, 1) := by decide +kernel
theorem dX2_cellCount_5 : decode cX2_cellCount 5 = .ok (.bipush 96, 2) := by decide +kernel
theorem dX2_cellCount_7 : decode cX2_cellCount 7 = .ok (.if_icmp .ge 21, 3) := by decide +kernel
theorem dX2_cellCount_10 : decode cX2_cellCount 10 = .ok (.iload_n 1, 1) := by decide +kernel
theorem dX2_cellCount_11 : decode cX2_cellCount 11 = .ok (.aload_n 0, 1) := by decide +kernel
theorem dX2_cellCount_12 : decode cX2_cellCount 12 = .ok (.getfield 11, 3) := by decide +kernel
theorem dX2_cellCount_15 : decode cX2_cellCount 15 = .ok (.iload_n 2, 1) := by decide +kernel
theorem dX2_cellCount_16 : decode cX2_cellCount 16 = .ok (.aaload, 1) := by decide +kernel
theorem dX2_cellCount_17 : decode cX2_cellCount 17 = .ok (.getfield 130, 3) := by decide +kernel
theorem dX2_cellCount_20 : decode cX2_cellCount 20 = .ok (.iadd, 1) := by decide +kernel
theorem dX2_cellCount_21 : decode cX2_cellCount 21 = .ok (.istore_n 1, 1) := by decide +kernel
theorem dX2_cellCount_22 : decode cX2_cellCount 22 = .ok (.iinc 2 1, 3) := by decide +kernel
theorem dX2_cellCount_25 : decode cX2_cellCount 25 = .ok (.goto (-21), 3) := by decide +kernel
theorem dX2_cellCount_28 : decode cX2_cellCount 28 = .ok (.iload_n 1, 1) := by decide +kernel
theorem dX2_cellCount_29 : decode cX2_cellCount 29 = .ok (.ireturn, 1) := by decide +kernel
theorem dX2_stubCount_0 : decode cX2_stubCount 0 = .ok (.iconst 0, 1) := by decide +kernel
theorem dX2_stubCount_1 : decode cX2_stubCount 1 = .ok (.istore_n 1, 1) := by decide +kernel
theorem dX2_stubCount_2 : decode cX2_stubCount 2 = .ok (.iconst 0, 1) := by decide +kernel
theorem dX2_stubCount_3 : decode cX2_stubCount 3 = .ok (.istore_n 2, 1) := by decide +kernel
theorem dX2_stubCount_4 : decode cX2_stubCount 4 = .ok (.iload_n 2, 1) := by decide +kernel
theorem dX2_stubCount_5 : decode cX2_stubCount 5 = .ok (.bipush 96, 2) := by decide +kernel
theorem dX2_stubCount_7 : decode cX2_stubCount 7 = .ok (.if_icmp .ge 21, 3) := by decide +kernel
theorem dX2_stubCount_10 : decode cX2_stubCount 10 = .ok (.iload_n 1, 1) := by decide +kernel
theorem dX2_stubCount_11 : decode cX2_stubCount 11 = .ok (.aload_n 0, 1) := by decide +kernel
theorem dX2_stubCount_12 : decode cX2_stubCount 12 = .ok (.getfield 11, 3) := by decide +kernel
theorem dX2_stubCount_15 : decode cX2_stubCount 15 = .ok (.iload_n 2, 1) := by decide +kernel
theorem dX2_stubCount_16 : decode cX2_stubCount 16 = .ok (.aaload, 1) := by decide +kernel
theorem dX2_stubCount_17 : decode cX2_stubCount 17 = .ok (.getfield 133, 3) := by decide +kernel
theorem dX2_stubCount_20 : decode cX2_stubCount 20 = .ok (.iadd, 1) := by decide +kernel
theorem dX2_stubCount_21 : decode cX2_stubCount 21 = .ok (.istore_n 1, 1) := by decide +kernel
theorem dX2_stubCount_22 : decode cX2_stubCount 22 = .ok (.iinc 2 1, 3) := by decide +kernel
theorem dX2_stubCount_25 : decode cX2_stubCount 25 = .ok (.goto (-21), 3) := by decide +kernel
theorem dX2_stubCount_28 : decode cX2_stubCount 28 = .ok (.iload_n 1, 1) := by decide +kernel
theorem dX2_stubCount_29 : decode cX2_stubCount 29 = .ok (.ireturn, 1) := by decide +kernel
theorem dX2_compactingCount_0 : decode cX2_compactingCount 0 = .ok (.iconst 0, 1) := by decide +kernel
theorem dX2_compactingCount_1 : decode cX2_compactingCount 1 = .ok (.istore_n 1, 1) := by decide +kernel
theorem dX2_compactingCount_2 : decode cX2_compactingCount 2 = .ok (.iconst 0, 1) := by decide +kernel
theorem dX2_compactingCount_3 : decode cX2_compactingCount 3 = .ok (.istore_n 2, 1) := by decide +kernel
theorem dX2_compactingCount_4 : decode cX2_compactingCount 4 = .ok (.iload_n 2, 1) := by decide +kernel
theorem dX2_compactingCount_5 : decode cX2_compactingCount 5 = .ok (.bipush 96, 2) := by decide +kernel
theorem dX2_compactingCount_7 : decode cX2_compactingCount 7 = .ok (.if_icmp .ge 21, 3) := by decide +kernel
theorem dX2_compactingCount_10 : decode cX2_compactingCount 10 = .ok (.iload_n 1, 1) := by decide +kernel
theorem dX2_compactingCount_11 : decode cX2_compactingCount 11 = .ok (.aload_n 0, 1) := by decide +kernel
theorem dX2_compactingCount_12 : decode cX2_compactingCount 12 = .ok (.getfield 11, 3) := by decide +kernel
theorem dX2_compactingCount_15 : decode cX2_compactingCount 15 = .ok (.iload_n 2, 1) := by decide +kernel
theorem dX2_compactingCount_16 : decode cX2_compactingCount 16 = .ok (.aaload, 1) := by decide +kernel
theorem dX2_compactingCount_17 : decode cX2_compactingCount 17 = .ok (.getfield 136, 3) := by decide +kernel
theorem dX2_compactingCount_20 : decode cX2_compactingCount 20 = .ok (.iadd, 1) := by decide +kernel
theorem dX2_compactingCount_21 : decode cX2_compactingCount 21 = .ok (.istore_n 1, 1) := by decide +kernel
theorem dX2_compactingCount_22 : decode cX2_compactingCount 22 = .ok (.iinc 2 1, 3) := by decide +kernel
theorem dX2_compactingCount_25 : decode cX2_compactingCount 25 = .ok (.goto (-21), 3) := by decide +kernel
theorem dX2_compactingCount_28 : decode cX2_compactingCount 28 = .ok (.iload_n 1, 1) := by decide +kernel
theorem dX2_compactingCount_29 : decode cX2_compactingCount 29 = .ok (.ireturn, 1) := by decide +kernel
theorem dX3_init_0 : decode cX3_init 0 = .ok (.aload_n 0, 1) := by decide +kernel
theorem dX3_init_1 : decode cX3_init 1 = .ok (.invokespecial 3, 3) := by decide +kernel
theorem dX3_init_4 : decode cX3_init 4 = .ok (.aload_n 0, 1) := by decide +kernel
theorem dX3_init_5 : decode cX3_init 5 = .ok (.new 9, 3) := by decide +kernel
theorem dX3_init_8 : decode cX3_init 8 = .ok (.dup, 1) := by decide +kernel
theorem dX3_init_9 : decode cX3_init 9 = .ok (.invokespecial 11, 3) := by decide +kernel
theorem dX3_init_12 : decode cX3_init 12 = .ok (.putfield 12, 3) := by decide +kernel
theorem dX3_init_15 : decode cX3_init 15 = .ok (.aload_n 0, 1) := by decide +kernel
theorem dX3_init_16 : decode cX3_init 16 = .ok (.new 9, 3) := by decide +kernel
theorem dX3_init_19 : decode cX3_init 19 = .ok (.dup, 1) := by decide +kernel
theorem dX3_init_20 : decode cX3_init 20 = .ok (.invokespecial 11, 3) := by decide +kernel
theorem dX3_init_23 : decode cX3_init 23 = .ok (.putfield 16, 3) := by decide +kernel
theorem dX3_init_26 : decode cX3_init 26 = .ok (.aload_n 0, 1) := by decide +kernel
theorem dX3_init_27 : decode cX3_init 27 = .ok (.new 19, 3) := by decide +kernel
theorem dX3_init_30 : decode cX3_init 30 = .ok (.dup, 1) := by decide +kernel
theorem dX3_init_31 : decode cX3_init 31 = .ok (.invokespecial 21, 3) := by decide +kernel
theorem dX3_init_34 : decode cX3_init 34 = .ok (.putfield 22, 3) := by decide +kernel
theorem dX3_init_37 : decode cX3_init 37 = .ok (.aload_n 0, 1) := by decide +kernel
theorem dX3_init_38 : decode cX3_init 38 = .ok (.iconst 0, 1) := by decide +kernel
theorem dX3_init_39 : decode cX3_init 39 = .ok (.putfield 26, 3) := by decide +kernel
theorem dX3_init_42 : decode cX3_init 42 = .ok (.return_, 1) := by decide +kernel
theorem dX3_insert_0 : decode cX3_insert 0 = .ok (.iload_n 1, 1) := by decide +kernel
theorem dX3_insert_1 : decode cX3_insert 1 = .ok (.iload_n 2, 1) := by decide +kernel
theorem dX3_insert_2 : decode cX3_insert 2 = .ok (.invokestatic 30, 3) := by decide +kernel
theorem dX3_insert_5 : decode cX3_insert 5 = .ok (.aload_n 0, 1) := by decide +kernel
theorem dX3_insert_6 : decode cX3_insert 6 = .ok (.getfield 12, 3) := by decide +kernel
theorem dX3_insert_9 : decode cX3_insert 9 = .ok (.iload_n 1, 1) := by decide +kernel
theorem dX3_insert_10 : decode cX3_insert 10 = .ok (.iload_n 2, 1) := by decide +kernel
theorem dX3_insert_11 : decode cX3_insert 11 = .ok (.invokevirtual 34, 3) := by decide +kernel
theorem dX3_insert_14 : decode cX3_insert 14 = .ok (.istore_n 3, 1) := by decide +kernel
theorem dX3_insert_15 : decode cX3_insert 15 = .ok (.iload_n 3, 1) := by decide +kernel
theorem dX3_insert_16 : decode cX3_insert 16 = .ok (.iconst (-1), 1) := by decide +kernel
theorem dX3_insert_17 : decode cX3_insert 17 = .ok (.if_icmp .eq 10, 3) := by decide +kernel
theorem dX3_insert_20 : decode cX3_insert 20 = .ok (.aload_n 0, 1) := by decide +kernel
theorem dX3_insert_21 : decode cX3_insert 21 = .ok (.iconst (-1), 1) := by decide +kernel
theorem dX3_insert_22 : decode cX3_insert 22 = .ok (.iload_n 1, 1) := by decide +kernel
theorem dX3_insert_23 : decode cX3_insert 23 = .ok (.iload_n 2, 1) := by decide +kernel
theorem dX3_insert_24 : decode cX3_insert 24 = .ok (.invokevirtual 38, 3) := by decide +kernel
theorem dX3_insert_27 : decode cX3_insert 27 = .ok (.iload_n 3, 1) := by decide +kernel
theorem dX3_insert_28 : decode cX3_insert 28 = .ok (.ireturn, 1) := by decide +kernel
theorem dX3_update_0 : decode cX3_update 0 = .ok (.aload_n 0, 1) := by decide +kernel
theorem dX3_update_1 : decode cX3_update 1 = .ok (.iload_n 1, 1) := by decide +kernel
theorem dX3_update_2 : decode cX3_update 2 = .ok (.invokevirtual 42, 3) := by decide +kernel
theorem dX3_update_5 : decode cX3_update 5 = .ok (.iload_n 2, 1) := by decide +kernel
theorem dX3_update_6 : decode cX3_update 6 = .ok (.iload_n 3, 1) := by decide +kernel
theorem dX3_update_7 : decode cX3_update 7 = .ok (.invokestatic 30, 3) := by decide +kernel
theorem dX3_update_10 : decode cX3_update 10 = .ok (.aload_n 0, 1) := by decide +kernel
theorem dX3_update_11 : decode cX3_update 11 = .ok (.getfield 12, 3) := by decide +kernel
theorem dX3_update_14 : decode cX3_update 14 = .ok (.iload_n 1, 1) := by decide +kernel
theorem dX3_update_15 : decode cX3_update 15 = .ok (.iload_n 2, 1) := by decide +kernel
theorem dX3_update_16 : decode cX3_update 16 = .ok (.iload_n 3, 1) := by decide +kernel
theorem dX3_update_17 : decode cX3_update 17 = .ok (.invokevirtual 46, 3) := by decide +kernel
theorem dX3_update_20 : decode cX3_update 20 = .ok (.istore 4, 2) := by decide +kernel
theorem dX3_update_22 : decode cX3_update 22 = .ok (.iload 4, 2) := by decide +kernel
theorem dX3_update_24 : decode cX3_update 24 = .ok (.ifCond .eq 10, 3) := by decide +kernel
theorem dX3_update_27 : decode cX3_update 27 = .ok (.aload_n 0, 1) := by decide +kernel
theorem dX3_update_28 : decode cX3_update 28 = .ok (.iload_n 1, 1) := by decide +kernel
theorem dX3_update_29 : decode cX3_update 29 = .ok (.iload_n 2, 1) := by decide +kernel
theorem dX3_update_30 : decode cX3_update 30 = .ok (.iload_n 3, 1) := by decide +kernel
theorem dX3_update_31 : decode cX3_update 31 = .ok (.invokevirtual 38, 3) := by decide +kernel
theorem dX3_update_34 : decode cX3_update 34 = .ok (.iload 4, 2) := by decide +kernel
theorem dX3_update_36 : decode cX3_update 36 = .ok (.ireturn, 1) := by decide +kernel
theorem dX3_delete_0 : decode cX3_delete 0 = .ok (.aload_n 0, 1) := by decide +kernel
theorem dX3_delete_1 : decode cX3_delete 1 = .ok (.iload_n 1, 1) := by decide +kernel
theorem dX3_delete_2 : decode cX3_delete 2 = .ok (.invokevirtual 42, 3) := by decide +kernel
theorem dX3_delete_5 : decode cX3_delete 5 = .ok (.aload_n 0, 1) := by decide +kernel
theorem dX3_delete_6 : decode cX3_delete 6 = .ok (.getfield 12, 3) := by decide +kernel
theorem dX3_delete_9 : decode cX3_delete 9 = .ok (.iload_n 1, 1) := by decide +kernel
theorem dX3_delete_10 : decode cX3_delete 10 = .ok (.invokevirtual 50, 3) := by decide +kernel
theorem dX3_delete_13 : decode cX3_delete 13 = .ok (.istore_n 2, 1) := by decide +kernel
theorem dX3_delete_14 : decode cX3_delete 14 = .ok (.aload_n 0, 1) := by decide +kernel
theorem dX3_delete_15 : decode cX3_delete 15 = .ok (.getfield 12, 3) := by decide +kernel
theorem dX3_delete_18 : decode cX3_delete 18 = .ok (.iload_n 1, 1) := by decide +kernel
theorem dX3_delete_19 : decode cX3_delete 19 = .ok (.invokevirtual 54, 3) := by decide +kernel
theorem dX3_delete_22 : decode cX3_delete 22 = .ok (.aload_n 0, 1) := by decide +kernel
theorem dX3_delete_23 : decode cX3_delete 23 = .ok (.iload_n 1, 1) := by decide +kernel
theorem dX3_delete_24 : decode cX3_delete 24 = .ok (.iconst (-1), 1) := by decide +kernel
theorem dX3_delete_25 : decode cX3_delete 25 = .ok (.iconst (-1), 1) := by decide +kernel
theorem dX3_delete_26 : decode cX3_delete 26 = .ok (.invokevirtual 38, 3) := by decide +kernel
theorem dX3_delete_29 : decode cX3_delete 29 = .ok (.iload_n 2, 1) := by decide +kernel
theorem dX3_delete_30 : decode cX3_delete 30 = .ok (.ireturn, 1) := by decide +kernel
theorem dX3_length_0 : decode cX3_length 0 = .ok (.aload_n 0, 1) := by decide +kernel
theorem dX3_length_1 : decode cX3_length 1 = .ok (.getfield 12, 3) := by decide +kernel
theorem dX3_length_4 : decode cX3_length 4 = .ok (.iload_n 1, 1) := by decide +kernel
theorem dX3_length_5 : decode cX3_length 5 = .ok (.invokevirtual 57, 3) := by decide +kernel
theorem dX3_length_8 : decode cX3_length 8 = .ok (.ifCond .eq 14, 3) := by decide +kernel
theorem dX3_length_11 : decode cX3_length 11 = .ok (.aload_n 0, 1) := by decide +kernel
theorem dX3_length_12 : decode cX3_length 12 = .ok (.getfield 12, 3) := by decide +kernel
theorem dX3_length_15 : decode cX3_length 15 = .ok (.iload_n 1, 1) := by decide +kernel
theorem dX3_length_16 : decode cX3_length 16 = .ok (.invokevirtual 50, 3) := by decide +kernel
theorem dX3_length_19 : decode cX3_length 19 = .ok (.goto 4, 3) := by decide +kernel
theorem dX3_length_22 : decode cX3_length 22 = .ok (.iconst (-1), 1) := by decide +kernel
theorem dX3_length_23 : decode cX3_length 23 = .ok (.ireturn, 1) := by decide +kernel
theorem dX3_byteAt_0 : decode cX3_byteAt 0 = .ok (.aload_n 0, 1) := by decide +kernel
theorem dX3_byteAt_1 : decode cX3_byteAt 1 = .ok (.iload_n 1, 1) := by decide +kernel
theorem dX3_byteAt_2 : decode cX3_byteAt 2 = .ok (.invokevirtual 42, 3) := by decide +kernel
theorem dX3_byteAt_5 : decode cX3_byteAt 5 = .ok (.iload_n 2, 1) := by decide +kernel
theorem dX3_byteAt_6 : decode cX3_byteAt 6 = .ok (.ifCond .lt 15, 3) := by decide +kernel
theorem dX3_byteAt_9 : decode cX3_byteAt 9 = .ok (.iload_n 2, 1) := by decide +kernel
theorem dX3_byteAt_10 : decode cX3_byteAt 10 = .ok (.aload_n 0, 1) := by decide +kernel
theorem dX3_byteAt_11 : decode cX3_byteAt 11 = .ok (.getfield 12, 3) := by decide +kernel
theorem dX3_byteAt_14 : decode cX3_byteAt 14 = .ok (.iload_n 1, 1) := by decide +kernel
theorem dX3_byteAt_15 : decode cX3_byteAt 15 = .ok (.invokevirtual 50, 3) := by decide +kernel
theorem dX3_byteAt_18 : decode cX3_byteAt 18 = .ok (.if_icmp .lt 5, 3) := by decide +kernel
theorem dX3_byteAt_21 : decode cX3_byteAt 21 = .ok (.iconst (-1), 1) := by decide +kernel
theorem dX3_byteAt_22 : decode cX3_byteAt 22 = .ok (.ireturn, 1) := by decide +kernel
theorem dX3_byteAt_23 : decode cX3_byteAt 23 = .ok (.aload_n 0, 1) := by decide +kernel
theorem dX3_byteAt_24 : decode cX3_byteAt 24 = .ok (.getfield 12, 3) := by decide +kernel
theorem dX3_byteAt_27 : decode cX3_byteAt 27 = .ok (.iload_n 1, 1) := by decide +kernel
theorem dX3_byteAt_28 : decode cX3_byteAt 28 = .ok (.invokevirtual 61, 3) := by decide +kernel
theorem dX3_byteAt_31 : decode cX3_byteAt 31 = .ok (.bipush 7, 2) := by decide +kernel
theorem dX3_byteAt_33 : decode cX3_byteAt 33 = .ok (.iload_n 2, 1) := by decide +kernel
theorem dX3_byteAt_34 : decode cX3_byteAt 34 = .ok (.imul, 1) := by decide +kernel
theorem dX3_byteAt_35 : decode cX3_byteAt 35 = .ok (.iadd, 1) := by decide +kernel
theorem dX3_byteAt_36 : decode cX3_byteAt 36 = .ok (.iload_n 2, 1) := by decide +kernel
theorem dX3_byteAt_37 : decode cX3_byteAt 37 = .ok (.bipush 16, 2) := by decide +kernel
theorem dX3_byteAt_39 : decode cX3_byteAt 39 = .ok (.idiv, 1) := by decide +kernel
theorem dX3_byteAt_40 : decode cX3_byteAt 40 = .ok (.iadd, 1) := by decide +kernel
theorem dX3_byteAt_41 : decode cX3_byteAt 41 = .ok (.sipush 256, 3) := by decide +kernel
theorem dX3_byteAt_44 : decode cX3_byteAt 44 = .ok (.irem, 1) := by decide +kernel
theorem dX3_byteAt_45 : decode cX3_byteAt 45 = .ok (.ireturn, 1) := by decide +kernel
theorem dX3_where_0 : decode cX3_where 0 = .ok (.aload_n 0, 1) := by decide +kernel
theorem dX3_where_1 : decode cX3_where 1 = .ok (.iload_n 1, 1) := by decide +kernel
theorem dX3_where_2 : decode cX3_where 2 = .ok (.invokevirtual 42, 3) := by decide +kernel
theorem dX3_where_5 : decode cX3_where 5 = .ok (.iload_n 2, 1) := by decide +kernel
theorem dX3_where_6 : decode cX3_where 6 = .ok (.tableswitch 75 0 3 #[30, 42, 54, 66], 30) := by decide +kernel
theorem dX3_where_36 : decode cX3_where 36 = .ok (.aload_n 0, 1) := by decide +kernel
theorem dX3_where_37 : decode cX3_where 37 = .ok (.getfield 12, 3) := by decide +kernel
theorem dX3_where_40 : decode cX3_where 40 = .ok (.iload_n 1, 1) := by decide +kernel
theorem dX3_where_41 : decode cX3_where 41 = .ok (.invokevirtual 64, 3) := by decide +kernel
theorem dX3_where_44 : decode cX3_where 44 = .ok (.bipush 32, 2) := by decide +kernel
theorem dX3_where_46 : decode cX3_where 46 = .ok (.idiv, 1) := by decide +kernel
theorem dX3_where_47 : decode cX3_where 47 = .ok (.ireturn, 1) := by decide +kernel
theorem dX3_where_48 : decode cX3_where 48 = .ok (.aload_n 0, 1) := by decide +kernel
theorem dX3_where_49 : decode cX3_where 49 = .ok (.getfield 12, 3) := by decide +kernel
theorem dX3_where_52 : decode cX3_where 52 = .ok (.iload_n 1, 1) := by decide +kernel
theorem dX3_where_53 : decode cX3_where 53 = .ok (.invokevirtual 64, 3) := by decide +kernel
theorem dX3_where_56 : decode cX3_where 56 = .ok (.bipush 32, 2) := by decide +kernel
theorem dX3_where_58 : decode cX3_where 58 = .ok (.irem, 1) := by decide +kernel
theorem dX3_where_59 : decode cX3_where 59 = .ok (.ireturn, 1) := by decide +kernel
theorem dX3_where_60 : decode cX3_where 60 = .ok (.aload_n 0, 1) := by decide +kernel
theorem dX3_where_61 : decode cX3_where 61 = .ok (.getfield 12, 3) := by decide +kernel
theorem dX3_where_64 : decode cX3_where 64 = .ok (.iload_n 1, 1) := by decide +kernel
theorem dX3_where_65 : decode cX3_where 65 = .ok (.invokevirtual 50, 3) := by decide +kernel
theorem dX3_where_68 : decode cX3_where 68 = .ok (.invokestatic 67, 3) := by decide +kernel
theorem dX3_where_71 : decode cX3_where 71 = .ok (.ireturn, 1) := by decide +kernel
theorem dX3_where_72 : decode cX3_where 72 = .ok (.aload_n 0, 1) := by decide +kernel
theorem dX3_where_73 : decode cX3_where 73 = .ok (.getfield 12, 3) := by decide +kernel
theorem dX3_where_76 : decode cX3_where 76 = .ok (.iload_n 1, 1) := by decide +kernel
theorem dX3_where_77 : decode cX3_where 77 = .ok (.invokevirtual 70, 3) := by decide +kernel
theorem dX3_where_80 : decode cX3_where 80 = .ok (.ireturn, 1) := by decide +kernel
theorem dX3_where_81 : decode cX3_where 81 = .ok (.new 73, 3) := by decide +kernel
theorem dX3_where_84 : decode cX3_where 84 = .ok (.dup, 1) := by decide +kernel
theorem dX3_where_85 : decode cX3_where 85 = .ok (.ldc 75, 2) := by decide +kernel
theorem dX3_where_87 : decode cX3_where 87 = .ok (.invokespecial 77, 3) := by decide +kernel
theorem dX3_where_90 : decode cX3_where 90 = .ok (.athrow, 1) := by decide +kernel
theorem dX3_next_0 : decode cX3_next 0 = .ok (.iload_n 1, 1) := by decide +kernel
theorem dX3_next_1 : decode cX3_next 1 = .ok (.sipush 3072, 3) := by decide +kernel
theorem dX3_next_4 : decode cX3_next 4 = .ok (.if_icmp .lt 7, 3) := by decide +kernel
theorem dX3_next_7 : decode cX3_next 7 = .ok (.iconst (-1), 1) := by decide +kernel
theorem dX3_next_8 : decode cX3_next 8 = .ok (.goto 17, 3) := by decide +kernel
theorem dX3_next_11 : decode cX3_next 11 = .ok (.aload_n 0, 1) := by decide +kernel
theorem dX3_next_12 : decode cX3_next 12 = .ok (.getfield 12, 3) := by decide +kernel
theorem dX3_next_15 : decode cX3_next 15 = .ok (.iload_n 1, 1) := by decide +kernel
theorem dX3_next_16 : decode cX3_next 16 = .ok (.iconst (-1), 1) := by decide +kernel
theorem dX3_next_17 : decode cX3_next 17 = .ok (.invokestatic 80, 3) := by decide +kernel
theorem dX3_next_20 : decode cX3_next 20 = .ok (.iconst 1, 1) := by decide +kernel
theorem dX3_next_21 : decode cX3_next 21 = .ok (.iadd, 1) := by decide +kernel
theorem dX3_next_22 : decode cX3_next 22 = .ok (.invokevirtual 85, 3) := by decide +kernel
theorem dX3_next_25 : decode cX3_next 25 = .ok (.ireturn, 1) := by decide +kernel
theorem dX3_page_0 : decode cX3_page 0 = .ok (.iload_n 1, 1) := by decide +kernel
theorem dX3_page_1 : decode cX3_page 1 = .ok (.invokestatic 88, 3) := by decide +kernel
theorem dX3_page_4 : decode cX3_page 4 = .ok (.aload_n 0, 1) := by decide +kernel
theorem dX3_page_5 : decode cX3_page 5 = .ok (.getfield 12, 3) := by decide +kernel
theorem dX3_page_8 : decode cX3_page 8 = .ok (.getfield 91, 3) := by decide +kernel
theorem dX3_page_11 : decode cX3_page 11 = .ok (.iload_n 1, 1) := by decide +kernel
theorem dX3_page_12 : decode cX3_page 12 = .ok (.aaload, 1) := by decide +kernel
theorem dX3_page_13 : decode cX3_page 13 = .ok (.astore_n 3, 1) := by decide +kernel
theorem dX3_page_14 : decode cX3_page 14 = .ok (.iload_n 2, 1) := by decide +kernel
theorem dX3_page_15 : decode cX3_page 15 = .ok (.tableswitch 193 0 8 #[49, 54, 71, 88, 105, 122, 142, 159, 176], 49) := by decide +kernel
theorem dX3_page_64 : decode cX3_page 64 = .ok (.aload_n 3, 1) := by decide +kernel
theorem dX3_page_65 : decode cX3_page 65 = .ok (.getfield 95, 3) := by decide +kernel
theorem dX3_page_68 : decode cX3_page 68 = .ok (.ireturn, 1) := by decide +kernel
theorem dX3_page_69 : decode cX3_page 69 = .ok (.aload_n 3, 1) := by decide +kernel
theorem dX3_page_70 : decode cX3_page 70 = .ok (.getfield 95, 3) := by decide +kernel
theorem dX3_page_73 : decode cX3_page 73 = .ok (.iconst 1, 1) := by decide +kernel
theorem dX3_page_74 : decode cX3_page 74 = .ok (.if_icmp .ne 10, 3) := by decide +kernel
theorem dX3_page_77 : decode cX3_page 77 = .ok (.aload_n 3, 1) := by decide +kernel
theorem dX3_page_78 : decode cX3_page 78 = .ok (.getfield 100, 3) := by decide +kernel
theorem dX3_page_81 : decode cX3_page 81 = .ok (.goto 4, 3) := by decide +kernel
theorem dX3_page_84 : decode cX3_page 84 = .ok (.iconst (-1), 1) := by decide +kernel
theorem dX3_page_85 : decode cX3_page 85 = .ok (.ireturn, 1) := by decide +kernel
theorem dX3_page_86 : decode cX3_page 86 = .ok (.aload_n 3, 1) := by decide +kernel
theorem dX3_page_87 : decode cX3_page 87 = .ok (.getfield 95, 3) := by decide +kernel
theorem dX3_page_90 : decode cX3_page 90 = .ok (.iconst 1, 1) := by decide +kernel
theorem dX3_page_91 : decode cX3_page 91 = .ok (.if_icmp .ne 10, 3) := by decide +kernel
theorem dX3_page_94 : decode cX3_page 94 = .ok (.aload_n 3, 1) := by decide +kernel
theorem dX3_page_95 : decode cX3_page 95 = .ok (.getfield 103, 3) := by decide +kernel
theorem dX3_page_98 : decode cX3_page 98 = .ok (.goto 4, 3) := by decide +kernel
theorem dX3_page_101 : decode cX3_page 101 = .ok (.iconst (-1), 1) := by decide +kernel
theorem dX3_page_102 : decode cX3_page 102 = .ok (.ireturn, 1) := by decide +kernel
theorem dX3_page_103 : decode cX3_page 103 = .ok (.aload_n 3, 1) := by decide +kernel
theorem dX3_page_104 : decode cX3_page 104 = .ok (.getfield 95, 3) := by decide +kernel
theorem dX3_page_107 : decode cX3_page 107 = .ok (.iconst 1, 1) := by decide +kernel
theorem dX3_page_108 : decode cX3_page 108 = .ok (.if_icmp .ne 10, 3) := by decide +kernel
theorem dX3_page_111 : decode cX3_page 111 = .ok (.aload_n 3, 1) := by decide +kernel
theorem dX3_page_112 : decode cX3_page 112 = .ok (.invokevirtual 106, 3) := by decide +kernel
theorem dX3_page_115 : decode cX3_page 115 = .ok (.goto 4, 3) := by decide +kernel
theorem dX3_page_118 : decode cX3_page 118 = .ok (.iconst (-1), 1) := by decide +kernel
theorem dX3_page_119 : decode cX3_page 119 = .ok (.ireturn, 1) := by decide +kernel
theorem dX3_page_120 : decode cX3_page 120 = .ok (.aload_n 3, 1) := by decide +kernel
theorem dX3_page_121 : decode cX3_page 121 = .ok (.getfield 95, 3) := by decide +kernel
theorem dX3_page_124 : decode cX3_page 124 = .ok (.iconst 1, 1) := by decide +kernel
theorem dX3_page_125 : decode cX3_page 125 = .ok (.if_icmp .ne 10, 3) := by decide +kernel
theorem dX3_page_128 : decode cX3_page 128 = .ok (.aload_n 3, 1) := by decide +kernel
theorem dX3_page_129 : decode cX3_page 129 = .ok (.getfield 110, 3) := by decide +kernel
theorem dX3_page_132 : decode cX3_page 132 = .ok (.goto 4, 3) := by decide +kernel
theorem dX3_page_135 : decode cX3_page 135 = .ok (.iconst (-1), 1) := by decide +kernel
theorem dX3_page_136 : decode cX3_page 136 = .ok (.ireturn, 1) := by decide +kernel
theorem dX3_page_137 : decode cX3_page 137 = .ok (.aload_n 3, 1) := by decide +kernel
theorem dX3_page_138 : decode cX3_page 138 = .ok (.getfield 95, 3) := by decide +kernel
theorem dX3_page_141 : decode cX3_page 141 = .ok (.iconst 1, 1) := by decide +kernel
theorem dX3_page_142 : decode cX3_page 142 = .ok (.if_icmp .ne 13, 3) := by decide +kernel
theorem dX3_page_145 : decode cX3_page 145 = .ok (.aload_n 3, 1) := by decide +kernel
theorem dX3_page_146 : decode cX3_page 146 = .ok (.invokevirtual 106, 3) := by decide +kernel
theorem dX3_page_149 : decode cX3_page 149 = .ok (.bipush 31, 2) := by decide +kernel
theorem dX3_page_151 : decode cX3_page 151 = .ok (.idiv, 1) := by decide +kernel
theorem dX3_page_152 : decode cX3_page 152 = .ok (.goto 4, 3) := by decide +kernel
theorem dX3_page_155 : decode cX3_page 155 = .ok (.iconst (-1), 1) := by decide +kernel
theorem dX3_page_156 : decode cX3_page 156 = .ok (.ireturn, 1) := by decide +kernel
theorem dX3_page_157 : decode cX3_page 157 = .ok (.aload_n 3, 1) := by decide +kernel
theorem dX3_page_158 : decode cX3_page 158 = .ok (.getfield 95, 3) := by decide +kernel
theorem dX3_page_161 : decode cX3_page 161 = .ok (.iconst 1, 1) := by decide +kernel
theorem dX3_page_162 : decode cX3_page 162 = .ok (.if_icmp .ne 10, 3) := by decide +kernel
theorem dX3_page_165 : decode cX3_page 165 = .ok (.aload_n 3, 1) := by decide +kernel
theorem dX3_page_166 : decode cX3_page 166 = .ok (.getfield 113, 3) := by decide +kernel
theorem dX3_page_169 : decode cX3_page 169 = .ok (.goto 4, 3) := by decide +kernel
theorem dX3_page_172 : decode cX3_page 172 = .ok (.iconst (-1), 1) := by decide +kernel
theorem dX3_page_173 : decode cX3_page 173 = .ok (.ireturn, 1) := by decide +kernel
theorem dX3_page_174 : decode cX3_page 174 = .ok (.aload_n 3, 1) := by decide +kernel
theorem dX3_page_175 : decode cX3_page 175 = .ok (.getfield 95, 3) := by decide +kernel
theorem dX3_page_178 : decode cX3_page 178 = .ok (.iconst 2, 1) := by decide +kernel
theorem dX3_page_179 : decode cX3_page 179 = .ok (.if_icmp .ne 10, 3) := by decide +kernel
theorem dX3_page_182 : decode cX3_page 182 = .ok (.aload_n 3, 1) := by decide +kernel
theorem dX3_page_183 : decode cX3_page 183 = .ok (.getfield 116, 3) := by decide +kernel
theorem dX3_page_186 : decode cX3_page 186 = .ok (.goto 4, 3) := by decide +kernel
theorem dX3_page_189 : decode cX3_page 189 = .ok (.iconst (-1), 1) := by decide +kernel
theorem dX3_page_190 : decode cX3_page 190 = .ok (.ireturn, 1) := by decide +kernel
theorem dX3_page_191 : decode cX3_page 191 = .ok (.aload_n 3, 1) := by decide +kernel
theorem dX3_page_192 : decode cX3_page 192 = .ok (.getfield 95, 3) := by decide +kernel
theorem dX3_page_195 : decode cX3_page 195 = .ok (.iconst 2, 1) := by decide +kernel
theorem dX3_page_196 : decode cX3_page 196 = .ok (.if_icmp .ne 10, 3) := by decide +kernel
theorem dX3_page_199 : decode cX3_page 199 = .ok (.aload_n 3, 1) := by decide +kernel
theorem dX3_page_200 : decode cX3_page 200 = .ok (.getfield 119, 3) := by decide +kernel
theorem dX3_page_203 : decode cX3_page 203 = .ok (.goto 4, 3) := by decide +kernel
theorem dX3_page_206 : decode cX3_page 206 = .ok (.iconst (-1), 1) := by decide +kernel
theorem dX3_page_207 : decode cX3_page 207 = .ok (.ireturn, 1) := by decide +kernel
theorem dX3_page_208 : decode cX3_page 208 = .ok (.new 73, 3) := by decide +kernel
theorem dX3_page_211 : decode cX3_page 211 = .ok (.dup, 1) := by decide +kernel
theorem dX3_page_212 : decode cX3_page 212 = .ok (.ldc 122, 2) := by decide +kernel
theorem dX3_page_214 : decode cX3_page 214 = .ok (.invokespecial 77, 3) := by decide +kernel
theorem dX3_page_217 : decode cX3_page 217 = .ok (.athrow, 1) := by decide +kernel
theorem dX3_slot_0 : decode cX3_slot 0 = .ok (.iload_n 1, 1) := by decide +kernel
theorem dX3_slot_1 : decode cX3_slot 1 = .ok (.invokestatic 88, 3) := by decide +kernel
theorem dX3_slot_4 : decode cX3_slot 4 = .ok (.iload_n 2, 1) := by decide +kernel
theorem dX3_slot_5 : decode cX3_slot 5 = .ok (.ifCond .ge 13, 3) := by decide +kernel
theorem dX3_slot_8 : decode cX3_slot 8 = .ok (.new 73, 3) := by decide +kernel
theorem dX3_slot_11 : decode cX3_slot 11 = .ok (.dup, 1) := by decide +kernel
theorem dX3_slot_12 : decode cX3_slot 12 = .ok (.ldc 124, 2) := by decide +kernel
theorem dX3_slot_14 : decode cX3_slot 14 = .ok (.invokespecial 77, 3) := by decide +kernel
theorem dX3_slot_17 : decode cX3_slot 17 = .ok (.athrow, 1) := by decide +kernel
theorem dX3_slot_18 : decode cX3_slot 18 = .ok (.aload_n 0, 1) := by decide +kernel
theorem dX3_slot_19 : decode cX3_slot 19 = .ok (.getfield 12, 3) := by decide +kernel
theorem dX3_slot_22 : decode cX3_slot 22 = .ok (.getfield 91, 3) := by decide +kernel
theorem dX3_slot_25 : decode cX3_slot 25 = .ok (.iload_n 1, 1) := by decide +kernel
theorem dX3_slot_26 : decode cX3_slot 26 = .ok (.aaload, 1) := by decide +kernel
theorem dX3_slot_27 : decode cX3_slot 27 = .ok (.astore_n 3, 1) := by decide +kernel
theorem dX3_slot_28 : decode cX3_slot 28 = .ok (.iload_n 2, 1) := by decide +kernel
theorem dX3_slot_29 : decode cX3_slot 29 = .ok (.aload_n 3, 1) := by decide +kernel
theorem dX3_slot_30 : decode cX3_slot 30 = .ok (.getfield 100, 3) := by decide +kernel
theorem dX3_slot_33 : decode cX3_slot 33 = .ok (.if_icmp .ge 12, 3) := by decide +kernel
theorem dX3_slot_36 : decode cX3_slot 36 = .ok (.aload_n 3, 1) := by decide +kernel
theorem dX3_slot_37 : decode cX3_slot 37 = .ok (.getfield 126, 3) := by decide +kernel
theorem dX3_slot_40 : decode cX3_slot 40 = .ok (.iload_n 2, 1) := by decide +kernel
theorem dX3_slot_41 : decode cX3_slot 41 = .ok (.iaload, 1) := by decide +kernel
theorem dX3_slot_42 : decode cX3_slot 42 = .ok (.goto 4, 3) := by decide +kernel
theorem dX3_slot_45 : decode cX3_slot 45 = .ok (.iconst (-1), 1) := by decide +kernel
theorem dX3_slot_46 : decode cX3_slot 46 = .ok (.ireturn, 1) := by decide +kernel
theorem dX3_sync_0 : decode cX3_sync 0 = .ok (.aload_n 0, 1) := by decide +kernel
theorem dX3_sync_1 : decode cX3_sync 1 = .ok (.getfield 22, 3) := by decide +kernel
theorem dX3_sync_4 : decode cX3_sync 4 = .ok (.getfield 130, 3) := by decide +kernel
theorem dX3_sync_7 : decode cX3_sync 7 = .ok (.istore_n 1, 1) := by decide +kernel
theorem dX3_sync_8 : decode cX3_sync 8 = .ok (.aload_n 0, 1) := by decide +kernel
theorem dX3_sync_9 : decode cX3_sync 9 = .ok (.invokevirtual 133, 3) := by decide +kernel
theorem dX3_sync_12 : decode cX3_sync 12 = .ok (.iload_n 1, 1) := by decide +kernel
theorem dX3_sync_13 : decode cX3_sync 13 = .ok (.ireturn, 1) := by decide +kernel
theorem dX3_crash_0 : decode cX3_crash 0 = .ok (.iload_n 1, 1) := by decide +kernel
theorem dX3_crash_1 : decode cX3_crash 1 = .ok (.ifCond .lt 14, 3) := by decide +kernel
theorem dX3_crash_4 : decode cX3_crash 4 = .ok (.iload_n 1, 1) := by decide +kernel
theorem dX3_crash_5 : decode cX3_crash 5 = .ok (.aload_n 0, 1) := by decide +kernel
theorem dX3_crash_6 : decode cX3_crash 6 = .ok (.getfield 22, 3) := by decide +kernel
theorem dX3_crash_9 : decode cX3_crash 9 = .ok (.getfield 130, 3) := by decide +kernel
theorem dX3_crash_12 : decode cX3_crash 12 = .ok (.if_icmp .le 13, 3) := by decide +kernel
theorem dX3_crash_15 : decode cX3_crash 15 = .ok (.new 73, 3) := by decide +kernel
theorem dX3_crash_18 : decode cX3_crash 18 = .ok (.dup, 1) := by decide +kernel
theorem dX3_crash_19 : decode cX3_crash 19 = .ok (.ldc 136, 2) := by decide +kernel
theorem dX3_crash_21 : decode cX3_crash 21 = .ok (.invokespecial 77, 3) := by decide +kernel
theorem dX3_crash_24 : decode cX3_crash 24 = .ok (.athrow, 1) := by decide +kernel
theorem dX3_crash_25 : decode cX3_crash 25 = .ok (.aload_n 0, 1) := by decide +kernel
theorem dX3_crash_26 : decode cX3_crash 26 = .ok (.getfield 22, 3) := by decide +kernel
theorem dX3_crash_29 : decode cX3_crash 29 = .ok (.getfield 130, 3) := by decide +kernel
theorem dX3_crash_32 : decode cX3_crash 32 = .ok (.iload_n 1, 1) := by decide +kernel
theorem dX3_crash_33 : decode cX3_crash 33 = .ok (.isub, 1) := by decide +kernel
theorem dX3_crash_34 : decode cX3_crash 34 = .ok (.istore_n 2, 1) := by decide +kernel
theorem dX3_crash_35 : decode cX3_crash 35 = .ok (.aload_n 0, 1) := by decide +kernel
theorem dX3_crash_36 : decode cX3_crash 36 = .ok (.getfield 22, 3) := by decide +kernel
theorem dX3_crash_39 : decode cX3_crash 39 = .ok (.aload_n 0, 1) := by decide +kernel
theorem dX3_crash_40 : decode cX3_crash 40 = .ok (.getfield 16, 3) := by decide +kernel
theorem dX3_crash_43 : decode cX3_crash 43 = .ok (.iload_n 1, 1) := by decide +kernel
theorem dX3_crash_44 : decode cX3_crash 44 = .ok (.invokevirtual 138, 3) := by decide +kernel
theorem dX3_crash_47 : decode cX3_crash 47 = .ok (.aload_n 0, 1) := by decide +kernel
theorem dX3_crash_48 : decode cX3_crash 48 = .ok (.getfield 12, 3) := by decide +kernel
theorem dX3_crash_51 : decode cX3_crash 51 = .ok (.aload_n 0, 1) := by decide +kernel
theorem dX3_crash_52 : decode cX3_crash 52 = .ok (.getfield 16, 3) := by decide +kernel
theorem dX3_crash_55 : decode cX3_crash 55 = .ok (.invokevirtual 142, 3) := by decide +kernel
theorem dX3_crash_58 : decode cX3_crash 58 = .ok (.aload_n 0, 1) := by decide +kernel
theorem dX3_crash_59 : decode cX3_crash 59 = .ok (.getfield 22, 3) := by decide +kernel
theorem dX3_crash_62 : decode cX3_crash 62 = .ok (.iconst 0, 1) := by decide +kernel
theorem dX3_crash_63 : decode cX3_crash 63 = .ok (.putfield 130, 3) := by decide +kernel
theorem dX3_crash_66 : decode cX3_crash 66 = .ok (.aload_n 0, 1) := by decide +kernel
theorem dX3_crash_67 : decode cX3_crash 67 = .ok (.dup, 1) := by decide +kernel
theorem dX3_crash_68 : decode cX3_crash 68 = .ok (.getfield 26, 3) := by decide +kernel
theorem dX3_crash_71 : decode cX3_crash 71 = .ok (.iconst 1, 1) := by decide +kernel
theorem dX3_crash_72 : decode cX3_crash 72 = .ok (.iadd, 1) := by decide +kernel
theorem dX3_crash_73 : decode cX3_crash 73 = .ok (.putfield 26, 3) := by decide +kernel
theorem dX3_crash_76 : decode cX3_crash 76 = .ok (.iload_n 2, 1) := by decide +kernel
theorem dX3_crash_77 : decode cX3_crash 77 = .ok (.ireturn, 1) := by decide +kernel
theorem dX3_total_0 : decode cX3_total 0 = .ok (.iload_n 1, 1) := by decide +kernel
theorem dX3_total_1 : decode cX3_total 1 = .ok (.tableswitch 119 0 7 #[47, 63, 72, 81, 90, 98, 106, 114], 47) := by decide +kernel
theorem dX3_total_48 : decode cX3_total 48 = .ok (.aload_n 0, 1) := by decide +kernel
theorem dX3_total_49 : decode cX3_total 49 = .ok (.getfield 12, 3) := by decide +kernel
theorem dX3_total_52 : decode cX3_total 52 = .ok (.invokevirtual 146, 3) := by decide +kernel
theorem dX3_total_55 : decode cX3_total 55 = .ok (.aload_n 0, 1) := by decide +kernel
theorem dX3_total_56 : decode cX3_total 56 = .ok (.getfield 12, 3) := by decide +kernel
theorem dX3_total_59 : decode cX3_total 59 = .ok (.invokevirtual 149, 3) := by decide +kernel
theorem dX3_total_62 : decode cX3_total 62 = .ok (.isub, 1) := by decide +kernel
theorem dX3_total_63 : decode cX3_total 63 = .ok (.ireturn, 1) := by decide +kernel
theorem dX3_total_64 : decode cX3_total 64 = .ok (.aload_n 0, 1) := by decide +kernel
theorem dX3_total_65 : decode cX3_total 65 = .ok (.getfield 12, 3) := by decide +kernel
theorem dX3_total_68 : decode cX3_total 68 = .ok (.iconst 0, 1) := by decide +kernel
theorem dX3_total_69 : decode cX3_total 69 = .ok (.invokevirtual 152, 3) := by decide +kernel
theorem dX3_total_72 : decode cX3_total 72 = .ok (.ireturn, 1) := by decide +kernel
theorem dX3_total_73 : decode cX3_total 73 = .ok (.aload_n 0, 1) := by decide +kernel
theorem dX3_total_74 : decode cX3_total 74 = .ok (.getfield 12, 3) := by decide +kernel
theorem dX3_total_77 : decode cX3_total 77 = .ok (.iconst 1, 1) := by decide +kernel
theorem dX3_total_78 : decode cX3_total 78 = .ok (.invokevirtual 152, 3) := by decide +kernel
theorem dX3_total_81 : decode cX3_total 81 = .ok (.ireturn, 1) := by decide +kernel
theorem dX3_total_82 : decode cX3_total 82 = .ok (.aload_n 0, 1) := by decide +kernel
theorem dX3_total_83 : decode cX3_total 83 = .ok (.getfield 12, 3) := by decide +kernel
theorem dX3_total_86 : decode cX3_total 86 = .ok (.iconst 2, 1) := by decide +kernel
theorem dX3_total_87 : decode cX3_total 87 = .ok (.invokevirtual 152, 3) := by decide +kernel
theorem dX3_total_90 : decode cX3_total 90 = .ok (.ireturn, 1) := by decide +kernel
theorem dX3_total_91 : decode cX3_total 91 = .ok (.aload_n 0, 1) := by decide +kernel
theorem dX3_total_92 : decode cX3_total 92 = .ok (.getfield 12, 3) := by decide +kernel
theorem dX3_total_95 : decode cX3_total 95 = .ok (.invokevirtual 149, 3) := by decide +kernel
theorem dX3_total_98 : decode cX3_total 98 = .ok (.ireturn, 1) := by decide +kernel
theorem dX3_total_99 : decode cX3_total 99 = .ok (.aload_n 0, 1) := by decide +kernel
theorem dX3_total_100 : decode cX3_total 100 = .ok (.getfield 22, 3) := by decide +kernel
theorem dX3_total_103 : decode cX3_total 103 = .ok (.getfield 130, 3) := by decide +kernel
theorem dX3_total_106 : decode cX3_total 106 = .ok (.ireturn, 1) := by decide +kernel
theorem dX3_total_107 : decode cX3_total 107 = .ok (.aload_n 0, 1) := by decide +kernel
theorem dX3_total_108 : decode cX3_total 108 = .ok (.getfield 12, 3) := by decide +kernel
theorem dX3_total_111 : decode cX3_total 111 = .ok (.invokevirtual 155, 3) := by decide +kernel
theorem dX3_total_114 : decode cX3_total 114 = .ok (.ireturn, 1) := by decide +kernel
theorem dX3_total_115 : decode cX3_total 115 = .ok (.aload_n 0, 1) := by decide +kernel
theorem dX3_total_116 : decode cX3_total 116 = .ok (.getfield 26, 3) := by decide +kernel
theorem dX3_total_119 : decode cX3_total 119 = .ok (.ireturn, 1) := by decide +kernel
theorem dX3_total_120 : decode cX3_total 120 = .ok (.new 73, 3) := by decide +kernel
theorem dX3_total_123 : decode cX3_total 123 = .ok (.dup, 1) := by decide +kernel
theorem dX3_total_124 : decode cX3_total 124 = .ok (.ldc 158, 2) := by decide +kernel
theorem dX3_total_126 : decode cX3_total 126 = .ok (.invokespecial 77, 3) := by decide +kernel
theorem dX3_total_129 : decode cX3_total 129 = .ok (.athrow, 1) := by decide +kernel
theorem dX3_noteChange_0 : decode cX3_noteChange 0 = .ok (.aload_n 0, 1) := by decide +kernel
theorem dX3_noteChange_1 : decode cX3_noteChange 1 = .ok (.getfield 22, 3) := by decide +kernel
theorem dX3_noteChange_4 : decode cX3_noteChange 4 = .ok (.getfield 130, 3) := by decide +kernel
theorem dX3_noteChange_7 : decode cX3_noteChange 7 = .ok (.sipush 512, 3) := by decide +kernel
theorem dX3_noteChange_10 : decode cX3_noteChange 10 = .ok (.if_icmp .ge 16, 3) := by decide +kernel
theorem dX3_noteChange_13 : decode cX3_noteChange 13 = .ok (.aload_n 0, 1) := by decide +kernel
theorem dX3_noteChange_14 : decode cX3_noteChange 14 = .ok (.getfield 22, 3) := by decide +kernel
theorem dX3_noteChange_17 : decode cX3_noteChange 17 = .ok (.iload_n 1, 1) := by decide +kernel
theorem dX3_noteChange_18 : decode cX3_noteChange 18 = .ok (.iload_n 2, 1) := by decide +kernel
theorem dX3_noteChange_19 : decode cX3_noteChange 19 = .ok (.iload_n 3, 1) := by decide +kernel
theorem dX3_noteChange_20 : decode cX3_noteChange 20 = .ok (.invokevirtual 160, 3) := by decide +kernel
theorem dX3_noteChange_23 : decode cX3_noteChange 23 = .ok (.goto 7, 3) := by decide +kernel
theorem dX3_noteChange_26 : decode cX3_noteChange 26 = .ok (.aload_n 0, 1) := by decide +kernel
theorem dX3_noteChange_27 : decode cX3_noteChange 27 = .ok (.invokevirtual 133, 3) := by decide +kernel
theorem dX3_noteChange_30 : decode cX3_noteChange 30 = .ok (.return_, 1) := by decide +kernel
theorem dX3_settle_0 : decode cX3_settle 0 = .ok (.aload_n 0, 1) := by decide +kernel
theorem dX3_settle_1 : decode cX3_settle 1 = .ok (.getfield 16, 3) := by decide +kernel
theorem dX3_settle_4 : decode cX3_settle 4 = .ok (.aload_n 0, 1) := by decide +kernel
theorem dX3_settle_5 : decode cX3_settle 5 = .ok (.getfield 12, 3) := by decide +kernel
theorem dX3_settle_8 : decode cX3_settle 8 = .ok (.invokevirtual 142, 3) := by decide +kernel
theorem dX3_settle_11 : decode cX3_settle 11 = .ok (.aload_n 0, 1) := by decide +kernel
theorem dX3_settle_12 : decode cX3_settle 12 = .ok (.getfield 22, 3) := by decide +kernel
theorem dX3_settle_15 : decode cX3_settle 15 = .ok (.iconst 0, 1) := by decide +kernel
theorem dX3_settle_16 : decode cX3_settle 16 = .ok (.putfield 130, 3) := by decide +kernel
theorem dX3_settle_19 : decode cX3_settle 19 = .ok (.return_, 1) := by decide +kernel
theorem dX3_checkRecord_0 : decode cX3_checkRecord 0 = .ok (.aload_n 0, 1) := by decide +kernel
theorem dX3_checkRecord_1 : decode cX3_checkRecord 1 = .ok (.getfield 12, 3) := by decide +kernel
theorem dX3_checkRecord_4 : decode cX3_checkRecord 4 = .ok (.iload_n 1, 1) := by decide +kernel
theorem dX3_checkRecord_5 : decode cX3_checkRecord 5 = .ok (.invokevirtual 57, 3) := by decide +kernel
theorem dX3_checkRecord_8 : decode cX3_checkRecord 8 = .ok (.ifCond .ne 13, 3) := by decide +kernel
theorem dX3_checkRecord_11 : decode cX3_checkRecord 11 = .ok (.new 163, 3) := by decide +kernel
theorem dX3_checkRecord_14 : decode cX3_checkRecord 14 = .ok (.dup, 1) := by decide +kernel
theorem dX3_checkRecord_15 : decode cX3_checkRecord 15 = .ok (.ldc 165, 2) := by decide +kernel
theorem dX3_checkRecord_17 : decode cX3_checkRecord 17 = .ok (.invokespecial 167, 3) := by decide +kernel
theorem dX3_checkRecord_20 : decode cX3_checkRecord 20 = .ok (.athrow, 1) := by decide +kernel
theorem dX3_checkRecord_21 : decode cX3_checkRecord 21 = .ok (.return_, 1) := by decide +kernel
theorem dX3_checkValue_0 : decode cX3_checkValue 0 = .ok (.iload_n 0, 1) := by decide +kernel
theorem dX3_checkValue_1 : decode cX3_checkValue 1 = .ok (.ifCond .lt 21, 3) := by decide +kernel
theorem dX3_checkValue_4 : decode cX3_checkValue 4 = .ok (.iload_n 0, 1) := by decide +kernel
theorem dX3_checkValue_5 : decode cX3_checkValue 5 = .ok (.sipush 1200, 3) := by decide +kernel
theorem dX3_checkValue_8 : decode cX3_checkValue 8 = .ok (.if_icmp .gt 14, 3) := by decide +kernel
theorem dX3_checkValue_11 : decode cX3_checkValue 11 = .ok (.iload_n 1, 1) := by decide +kernel
theorem dX3_checkValue_12 : decode cX3_checkValue 12 = .ok (.ifCond .lt 10, 3) := by decide +kernel
theorem dX3_checkValue_15 : decode cX3_checkValue 15 = .ok (.iload_n 1, 1) := by decide +kernel
theorem dX3_checkValue_16 : decode cX3_checkValue 16 = .ok (.sipush 255, 3) := by decide +kernel
theorem dX3_checkValue_19 : decode cX3_checkValue 19 = .ok (.if_icmp .le 13, 3) := by decide +kernel
theorem dX3_checkValue_22 : decode cX3_checkValue 22 = .ok (.new 73, 3) := by decide +kernel
theorem dX3_checkValue_25 : decode cX3_checkValue 25 = .ok (.dup, 1) := by decide +kernel
theorem dX3_checkValue_26 : decode cX3_checkValue 26 = .ok (.ldc 168, 2) := by decide +kernel
theorem dX3_checkValue_28 : decode cX3_checkValue 28 = .ok (.invokespecial 77, 3) := by decide +kernel
theorem dX3_checkValue_31 : decode cX3_checkValue 31 = .ok (.athrow, 1) := by decide +kernel
theorem dX3_checkValue_32 : decode cX3_checkValue 32 = .ok (.return_, 1) := by decide +kernel
theorem dX3_checkPage_0 : decode cX3_checkPage 0 = .ok (.iload_n 0, 1) := by decide +kernel
theorem dX3_checkPage_1 : decode cX3_checkPage 1 = .ok (.ifCond .lt 9, 3) := by decide +kernel
theorem dX3_checkPage_4 : decode cX3_checkPage 4 = .ok (.iload_n 0, 1) := by decide +kernel
theorem dX3_checkPage_5 : decode cX3_checkPage 5 = .ok (.bipush 96, 2) := by decide +kernel
theorem dX3_checkPage_7 : decode cX3_checkPage 7 = .ok (.if_icmp .lt 13, 3) := by decide +kernel
theorem dX3_checkPage_10 : decode cX3_checkPage 10 = .ok (.new 73, 3) := by decide +kernel
theorem dX3_checkPage_13 : decode cX3_checkPage 13 = .ok (.dup, 1) := by decide +kernel
theorem dX3_checkPage_14 : decode cX3_checkPage 14 = .ok (.ldc 170, 2) := by decide +kernel
theorem dX3_checkPage_16 : decode cX3_checkPage 16 = .ok (.invokespecial 77, 3) := by decide +kernel
theorem dX3_checkPage_19 : decode cX3_checkPage 19 = .ok (.athrow, 1) := by decide +kernel
theorem dX3_checkPage_20 : decode cX3_checkPage 20 = .ok (.return_, 1) := by decide +kernel
theorem dX3_cellBytes_0 : decode cX3_cellBytes 0 = .ok (.iload_n 0, 1) := by decide +kernel
theorem dX3_cellBytes_1 : decode cX3_cellBytes 1 = .ok (.iconst 2, 1) := by decide +kernel
theorem dX3_cellBytes_2 : decode cX3_cellBytes 2 = .ok (.if_icmp .ne 5, 3) := by decide +kernel
theorem dX3_cellBytes_5 : decode cX3_cellBytes 5 = .ok (.iconst 5, 1) := by decide +kernel
theorem dX3_cellBytes_6 : decode cX3_cellBytes 6 = .ok (.ireturn, 1) := by decide +kernel
theorem dX3_cellBytes_7 : decode cX3_cellBytes 7 = .ok (.iload_n 1, 1) := by decide +kernel
theorem dX3_cellBytes_8 : decode cX3_cellBytes 8 = .ok (.bipush 100, 2) := by decide +kernel
theorem dX3_cellBytes_10 : decode cX3_cellBytes 10 = .ok (.if_icmp .le 8, 3) := by decide +kernel
theorem dX3_cellBytes_13 : decode cX3_cellBytes 13 = .ok (.bipush 9, 2) := by decide +kernel
theorem dX3_cellBytes_15 : decode cX3_cellBytes 15 = .ok (.goto 6, 3) := by decide +kernel
theorem dX3_cellBytes_18 : decode cX3_cellBytes 18 = .ok (.iload_n 1, 1) := by decide +kernel
theorem dX3_cellBytes_19 : decode cX3_cellBytes 19 = .ok (.iconst 1, 1) := by decide +kernel
theorem dX3_cellBytes_20 : decode cX3_cellBytes 20 = .ok (.iadd, 1) := by decide +kernel
theorem dX3_cellBytes_21 : decode cX3_cellBytes 21 = .ok (.istore_n 2, 1) := by decide +kernel
theorem dX3_cellBytes_22 : decode cX3_cellBytes 22 = .ok (.iload_n 0, 1) := by decide +kernel
theorem dX3_cellBytes_23 : decode cX3_cellBytes 23 = .ok (.iconst 3, 1) := by decide +kernel
theorem dX3_cellBytes_24 : decode cX3_cellBytes 24 = .ok (.if_icmp .ne 9, 3) := by decide +kernel
theorem dX3_cellBytes_27 : decode cX3_cellBytes 27 = .ok (.iload_n 2, 1) := by decide +kernel
theorem dX3_cellBytes_28 : decode cX3_cellBytes 28 = .ok (.iconst 4, 1) := by decide +kernel
theorem dX3_cellBytes_29 : decode cX3_cellBytes 29 = .ok (.iadd, 1) := by decide +kernel
theorem dX3_cellBytes_30 : decode cX3_cellBytes 30 = .ok (.goto 4, 3) := by decide +kernel
theorem dX3_cellBytes_33 : decode cX3_cellBytes 33 = .ok (.iload_n 2, 1) := by decide +kernel
theorem dX3_cellBytes_34 : decode cX3_cellBytes 34 = .ok (.istore_n 3, 1) := by decide +kernel
theorem dX3_cellBytes_35 : decode cX3_cellBytes 35 = .ok (.iload_n 3, 1) := by decide +kernel
theorem dX3_cellBytes_36 : decode cX3_cellBytes 36 = .ok (.iconst 5, 1) := by decide +kernel
theorem dX3_cellBytes_37 : decode cX3_cellBytes 37 = .ok (.if_icmp .ge 7, 3) := by decide +kernel
theorem dX3_cellBytes_40 : decode cX3_cellBytes 40 = .ok (.iconst 5, 1) := by decide +kernel
theorem dX3_cellBytes_41 : decode cX3_cellBytes 41 = .ok (.goto 4, 3) := by decide +kernel
theorem dX3_cellBytes_44 : decode cX3_cellBytes 44 = .ok (.iload_n 3, 1) := by decide +kernel
theorem dX3_cellBytes_45 : decode cX3_cellBytes 45 = .ok (.ireturn, 1) := by decide +kernel
theorem dX3_chainPages_0 : decode cX3_chainPages 0 = .ok (.iload_n 0, 1) := by decide +kernel
theorem dX3_chainPages_1 : decode cX3_chainPages 1 = .ok (.bipush 100, 2) := by decide +kernel
theorem dX3_chainPages_3 : decode cX3_chainPages 3 = .ok (.if_icmp .le 17, 3) := by decide +kernel
theorem dX3_chainPages_6 : decode cX3_chainPages 6 = .ok (.iload_n 0, 1) := by decide +kernel
theorem dX3_chainPages_7 : decode cX3_chainPages 7 = .ok (.sipush 240, 3) := by decide +kernel
theorem dX3_chainPages_10 : decode cX3_chainPages 10 = .ok (.iadd, 1) := by decide +kernel
theorem dX3_chainPages_11 : decode cX3_chainPages 11 = .ok (.iconst 1, 1) := by decide +kernel
theorem dX3_chainPages_12 : decode cX3_chainPages 12 = .ok (.isub, 1) := by decide +kernel
theorem dX3_chainPages_13 : decode cX3_chainPages 13 = .ok (.sipush 240, 3) := by decide +kernel
theorem dX3_chainPages_16 : decode cX3_chainPages 16 = .ok (.idiv, 1) := by decide +kernel
theorem dX3_chainPages_17 : decode cX3_chainPages 17 = .ok (.goto 4, 3) := by decide +kernel
theorem dX3_chainPages_20 : decode cX3_chainPages 20 = .ok (.iconst 0, 1) := by decide +kernel
theorem dX3_chainPages_21 : decode cX3_chainPages 21 = .ok (.ireturn, 1) := by decide +kernel
theorem dX4_init_0 : decode cX4_init 0 = .ok (.aload_n 0, 1) := by decide +kernel
theorem dX4_init_1 : decode cX4_init 1 = .ok (.invokespecial 1, 3) := by decide +kernel
theorem dX4_init_4 : decode cX4_init 4 = .ok (.aload_n 0, 1) := by decide +kernel
theorem dX4_init_5 : decode cX4_init 5 = .ok (.sipush 18816, 3) := by decide +kernel
theorem dX4_init_8 : decode cX4_init 8 = .ok (.newarray .int, 2) := by decide +kernel
theorem dX4_init_10 : decode cX4_init 10 = .ok (.putfield 7, 3) := by decide +kernel
theorem dX4_init_13 : decode cX4_init 13 = .ok (.aload_n 0, 1) := by decide +kernel
theorem dX4_init_14 : decode cX4_init 14 = .ok (.sipush 18816, 3) := by decide +kernel
theorem dX4_init_17 : decode cX4_init 17 = .ok (.newarray .int, 2) := by decide +kernel
theorem dX4_init_19 : decode cX4_init 19 = .ok (.putfield 13, 3) := by decide +kernel
theorem dX4_init_22 : decode cX4_init 22 = .ok (.aload_n 0, 1) := by decide +kernel
theorem dX4_init_23 : decode cX4_init 23 = .ok (.sipush 16000, 3) := by decide +kernel
theorem dX4_init_26 : decode cX4_init 26 = .ok (.newarray .int, 2) := by decide +kernel
theorem dX4_init_28 : decode cX4_init 28 = .ok (.putfield 16, 3) := by decide +kernel
theorem dX4_init_31 : decode cX4_init 31 = .ok (.iconst 0, 1) := by decide +kernel
theorem dX4_init_32 : decode cX4_init 32 = .ok (.istore_n 1, 1) := by decide +kernel
theorem dX4_init_33 : decode cX4_init 33 = .ok (.iload_n 1, 1) := by decide +kernel
theorem dX4_init_34 : decode cX4_init 34 = .ok (.bipush 96, 2) := by decide +kernel
theorem dX4_init_36 : decode cX4_init 36 = .ok (.if_icmp .ge 20, 3) := by decide +kernel
theorem dX4_init_39 : decode cX4_init 39 = .ok (.aload_n 0, 1) := by decide +kernel
theorem dX4_init_40 : decode cX4_init 40 = .ok (.getfield 7, 3) := by decide +kernel
theorem dX4_init_43 : decode cX4_init 43 = .ok (.sipush 192, 3) := by decide +kernel
theorem dX4_init_46 : decode cX4_init 46 = .ok (.iload_n 1, 1) := by decide +kernel
theorem dX4_init_47 : decode cX4_init 47 = .ok (.iadd, 1) := by decide +kernel
theorem dX4_init_48 : decode cX4_init 48 = .ok (.iconst (-1), 1) := by decide +kernel
theorem dX4_init_49 : decode cX4_init 49 = .ok (.iastore, 1) := by decide +kernel
theorem dX4_init_50 : decode cX4_init 50 = .ok (.iinc 1 1, 3) := by decide +kernel
theorem dX4_init_53 : decode cX4_init 53 = .ok (.goto (-20), 3) := by decide +kernel
theorem dX4_init_56 : decode cX4_init 56 = .ok (.iconst 0, 1) := by decide +kernel
theorem dX4_init_57 : decode cX4_init 57 = .ok (.istore_n 1, 1) := by decide +kernel
theorem dX4_init_58 : decode cX4_init 58 = .ok (.iload_n 1, 1) := by decide +kernel
theorem dX4_init_59 : decode cX4_init 59 = .ok (.sipush 3072, 3) := by decide +kernel
theorem dX4_init_62 : decode cX4_init 62 = .ok (.if_icmp .ge 31, 3) := by decide +kernel
theorem dX4_init_65 : decode cX4_init 65 = .ok (.aload_n 0, 1) := by decide +kernel
theorem dX4_init_66 : decode cX4_init 66 = .ok (.getfield 7, 3) := by decide +kernel
theorem dX4_init_69 : decode cX4_init 69 = .ok (.sipush 6528, 3) := by decide +kernel
theorem dX4_init_72 : decode cX4_init 72 = .ok (.iload_n 1, 1) := by decide +kernel
theorem dX4_init_73 : decode cX4_init 73 = .ok (.iadd, 1) := by decide +kernel
theorem dX4_init_74 : decode cX4_init 74 = .ok (.iconst (-1), 1) := by decide +kernel
theorem dX4_init_75 : decode cX4_init 75 = .ok (.iastore, 1) := by decide +kernel
theorem dX4_init_76 : decode cX4_init 76 = .ok (.aload_n 0, 1) := by decide +kernel
theorem dX4_init_77 : decode cX4_init 77 = .ok (.getfield 7, 3) := by decide +kernel
theorem dX4_init_80 : decode cX4_init 80 = .ok (.sipush 15744, 3) := by decide +kernel
theorem dX4_init_83 : decode cX4_init 83 = .ok (.iload_n 1, 1) := by decide +kernel
theorem dX4_init_84 : decode cX4_init 84 = .ok (.iadd, 1) := by decide +kernel
theorem dX4_init_85 : decode cX4_init 85 = .ok (.iconst (-1), 1) := by decide +kernel
theorem dX4_init_86 : decode cX4_init 86 = .ok (.iastore, 1) := by decide +kernel
theorem dX4_init_87 : decode cX4_init 87 = .ok (.iinc 1 1, 3) := by decide +kernel
theorem dX4_init_90 : decode cX4_init 90 = .ok (.goto (-32), 3) := by decide +kernel
theorem dX4_init_93 : decode cX4_init 93 = .ok (.aload_n 0, 1) := by decide +kernel
theorem dX4_init_94 : decode cX4_init 94 = .ok (.getfield 7, 3) := by decide +kernel
theorem dX4_init_97 : decode cX4_init 97 = .ok (.aload_n 0, 1) := by decide +kernel
theorem dX4_init_98 : decode cX4_init 98 = .ok (.getfield 13, 3) := by decide +kernel
theorem dX4_init_101 : decode cX4_init 101 = .ok (.invokestatic 19, 3) := by decide +kernel
theorem dX4_init_104 : decode cX4_init 104 = .ok (.return_, 1) := by decide +kernel
theorem dX4_thrown_0 : decode cX4_thrown 0 = .ok (.aload_n 0, 1) := by decide +kernel
theorem dX4_thrown_1 : decode cX4_thrown 1 = .ok (.getfield 23, 3) := by decide +kernel
theorem dX4_thrown_4 : decode cX4_thrown 4 = .ok (.ireturn, 1) := by decide +kernel
theorem dX4_fails_0 : decode cX4_fails 0 = .ok (.aload_n 0, 1) := by decide +kernel
theorem dX4_fails_1 : decode cX4_fails 1 = .ok (.iload_n 1, 1) := by decide +kernel
theorem dX4_fails_2 : decode cX4_fails 2 = .ok (.ifCond .eq 7, 3) := by decide +kernel
theorem dX4_fails_5 : decode cX4_fails 5 = .ok (.iload_n 2, 1) := by decide +kernel
theorem dX4_fails_6 : decode cX4_fails 6 = .ok (.goto 4, 3) := by decide +kernel
theorem dX4_fails_9 : decode cX4_fails 9 = .ok (.iconst 0, 1) := by decide +kernel
theorem dX4_fails_10 : decode cX4_fails 10 = .ok (.putfield 23, 3) := by decide +kernel
theorem dX4_fails_13 : decode cX4_fails 13 = .ok (.iload_n 1, 1) := by decide +kernel
theorem dX4_fails_14 : decode cX4_fails 14 = .ok (.ireturn, 1) := by decide +kernel
theorem dX4_copy_0 : decode cX4_copy 0 = .ok (.iconst 0, 1) := by decide +kernel
theorem dX4_copy_1 : decode cX4_copy 1 = .ok (.istore_n 2, 1) := by decide +kernel
theorem dX4_copy_2 : decode cX4_copy 2 = .ok (.iload_n 2, 1) := by decide +kernel
theorem dX4_copy_3 : decode cX4_copy 3 = .ok (.sipush 18816, 3) := by decide +kernel
theorem dX4_copy_6 : decode cX4_copy 6 = .ok (.if_icmp .ge 15, 3) := by decide +kernel
theorem dX4_copy_9 : decode cX4_copy 9 = .ok (.aload_n 1, 1) := by decide +kernel
theorem dX4_copy_10 : decode cX4_copy 10 = .ok (.iload_n 2, 1) := by decide +kernel
theorem dX4_copy_11 : decode cX4_copy 11 = .ok (.aload_n 0, 1) := by decide +kernel
theorem dX4_copy_12 : decode cX4_copy 12 = .ok (.iload_n 2, 1) := by decide +kernel
theorem dX4_copy_13 : decode cX4_copy 13 = .ok (.iaload, 1) := by decide +kernel
theorem dX4_copy_14 : decode cX4_copy 14 = .ok (.iastore, 1) := by decide +kernel
theorem dX4_copy_15 : decode cX4_copy 15 = .ok (.iinc 2 1, 3) := by decide +kernel
theorem dX4_copy_18 : decode cX4_copy 18 = .ok (.goto (-16), 3) := by decide +kernel
theorem dX4_copy_21 : decode cX4_copy 21 = .ok (.return_, 1) := by decide +kernel
theorem dX4_sizeOf_0 : decode cX4_sizeOf 0 = .ok (.aload_n 0, 1) := by decide +kernel
theorem dX4_sizeOf_1 : decode cX4_sizeOf 1 = .ok (.getfield 7, 3) := by decide +kernel
theorem dX4_sizeOf_4 : decode cX4_sizeOf 4 = .ok (.sipush 384, 3) := by decide +kernel
theorem dX4_sizeOf_7 : decode cX4_sizeOf 7 = .ok (.bipush 32, 2) := by decide +kernel
theorem dX4_sizeOf_9 : decode cX4_sizeOf 9 = .ok (.iload_n 1, 1) := by decide +kernel
theorem dX4_sizeOf_10 : decode cX4_sizeOf 10 = .ok (.imul, 1) := by decide +kernel
theorem dX4_sizeOf_11 : decode cX4_sizeOf 11 = .ok (.iadd, 1) := by decide +kernel
theorem dX4_sizeOf_12 : decode cX4_sizeOf 12 = .ok (.iload_n 2, 1) := by decide +kernel
theorem dX4_sizeOf_13 : decode cX4_sizeOf 13 = .ok (.iadd, 1) := by decide +kernel
theorem dX4_sizeOf_14 : decode cX4_sizeOf 14 = .ok (.iaload, 1) := by decide +kernel
theorem dX4_sizeOf_15 : decode cX4_sizeOf 15 = .ok (.ireturn, 1) := by decide +kernel
theorem dX4_slots_0 : decode cX4_slots 0 = .ok (.iconst 0, 1) := by decide +kernel
theorem dX4_slots_1 : decode cX4_slots 1 = .ok (.istore_n 2, 1) := by decide +kernel
theorem dX4_slots_2 : decode cX4_slots 2 = .ok (.iconst 0, 1) := by decide +kernel
theorem dX4_slots_3 : decode cX4_slots 3 = .ok (.istore_n 3, 1) := by decide +kernel
theorem dX4_slots_4 : decode cX4_slots 4 = .ok (.iload_n 3, 1) := by decide +kernel
theorem dX4_slots_5 : decode cX4_slots 5 = .ok (.bipush 32, 2) := by decide +kernel
theorem dX4_slots_7 : decode cX4_slots 7 = .ok (.if_icmp .ge 22, 3) := by decide +kernel
theorem dX4_slots_10 : decode cX4_slots 10 = .ok (.aload_n 0, 1) := by decide +kernel
theorem dX4_slots_11 : decode cX4_slots 11 = .ok (.iload_n 1, 1) := by decide +kernel
theorem dX4_slots_12 : decode cX4_slots 12 = .ok (.iload_n 3, 1) := by decide +kernel
theorem dX4_slots_13 : decode cX4_slots 13 = .ok (.invokevirtual 27, 3) := by decide +kernel
theorem dX4_slots_16 : decode cX4_slots 16 = .ok (.ifCond .le 7, 3) := by decide +kernel
theorem dX4_slots_19 : decode cX4_slots 19 = .ok (.iload_n 3, 1) := by decide +kernel
theorem dX4_slots_20 : decode cX4_slots 20 = .ok (.iconst 1, 1) := by decide +kernel
theorem dX4_slots_21 : decode cX4_slots 21 = .ok (.iadd, 1) := by decide +kernel
theorem dX4_slots_22 : decode cX4_slots 22 = .ok (.istore_n 2, 1) := by decide +kernel
theorem dX4_slots_23 : decode cX4_slots 23 = .ok (.iinc 3 1, 3) := by decide +kernel
theorem dX4_slots_26 : decode cX4_slots 26 = .ok (.goto (-22), 3) := by decide +kernel
theorem dX4_slots_29 : decode cX4_slots 29 = .ok (.iload_n 2, 1) := by decide +kernel
theorem dX4_slots_30 : decode cX4_slots 30 = .ok (.ireturn, 1) := by decide +kernel
theorem dX4_cells_0 : decode cX4_cells 0 = .ok (.iconst 0, 1) := by decide +kernel
theorem dX4_cells_1 : decode cX4_cells 1 = .ok (.istore_n 2, 1) := by decide +kernel
theorem dX4_cells_2 : decode cX4_cells 2 = .ok (.iconst 0, 1) := by decide +kernel
theorem dX4_cells_3 : decode cX4_cells 3 = .ok (.istore_n 3, 1) := by decide +kernel
theorem dX4_cells_4 : decode cX4_cells 4 = .ok (.iload_n 3, 1) := by decide +kernel
theorem dX4_cells_5 : decode cX4_cells 5 = .ok (.bipush 32, 2) := by decide +kernel
theorem dX4_cells_7 : decode cX4_cells 7 = .ok (.if_icmp .ge 26, 3) := by decide +kernel
theorem dX4_cells_10 : decode cX4_cells 10 = .ok (.iload_n 2, 1) := by decide +kernel
theorem dX4_cells_11 : decode cX4_cells 11 = .ok (.aload_n 0, 1) := by decide +kernel
theorem dX4_cells_12 : decode cX4_cells 12 = .ok (.iload_n 1, 1) := by decide +kernel
theorem dX4_cells_13 : decode cX4_cells 13 = .ok (.iload_n 3, 1) := by decide +kernel
theorem dX4_cells_14 : decode cX4_cells 14 = .ok (.invokevirtual 27, 3) := by decide +kernel
theorem dX4_cells_17 : decode cX4_cells 17 = .ok (.ifCond .le 7, 3) := by decide +kernel
theorem dX4_cells_20 : decode cX4_cells 20 = .ok (.iconst 1, 1) := by decide +kernel
theorem dX4_cells_21 : decode cX4_cells 21 = .ok (.goto 4, 3) := by decide +kernel
theorem dX4_cells_24 : decode cX4_cells 24 = .ok (.iconst 0, 1) := by decide +kernel
theorem dX4_cells_25 : decode cX4_cells 25 = .ok (.iadd, 1) := by decide +kernel
theorem dX4_cells_26 : decode cX4_cells 26 = .ok (.istore_n 2, 1) := by decide +kernel
theorem dX4_cells_27 : decode cX4_cells 27 = .ok (.iinc 3 1, 3) := by decide +kernel
theorem dX4_cells_30 : decode cX4_cells 30 = .ok (.goto (-26), 3) := by decide +kernel
theorem dX4_cells_33 : decode cX4_cells 33 = .ok (.iload_n 2, 1) := by decide +kernel
theorem dX4_cells_34 : decode cX4_cells 34 = .ok (.ireturn, 1) := by decide +kernel
theorem dX4_taken_0 : decode cX4_taken 0 = .ok (.iconst 0, 1) := by decide +kernel
theorem dX4_taken_1 : decode cX4_taken 1 = .ok (.istore_n 2, 1) := by decide +kernel
theorem dX4_taken_2 : decode cX4_taken 2 = .ok (.iconst 0, 1) := by decide +kernel
theorem dX4_taken_3 : decode cX4_taken 3 = .ok (.istore_n 3, 1) := by decide +kernel
theorem dX4_taken_4 : decode cX4_taken 4 = .ok (.iload_n 3, 1) := by decide +kernel
theorem dX4_taken_5 : decode cX4_taken 5 = .ok (.bipush 32, 2) := by decide +kernel
theorem dX4_taken_7 : decode cX4_taken 7 = .ok (.if_icmp .ge 18, 3) := by decide +kernel
theorem dX4_taken_10 : decode cX4_taken 10 = .ok (.iload_n 2, 1) := by decide +kernel
theorem dX4_taken_11 : decode cX4_taken 11 = .ok (.aload_n 0, 1) := by decide +kernel
theorem dX4_taken_12 : decode cX4_taken 12 = .ok (.iload_n 1, 1) := by decide +kernel
theorem dX4_taken_13 : decode cX4_taken 13 = .ok (.iload_n 3, 1) := by decide +kernel
theorem dX4_taken_14 : decode cX4_taken 14 = .ok (.invokevirtual 27, 3) := by decide +kernel
theorem dX4_taken_17 : decode cX4_taken 17 = .ok (.iadd, 1) := by decide +kernel
theorem dX4_taken_18 : decode cX4_taken 18 = .ok (.istore_n 2, 1) := by decide +kernel
theorem dX4_taken_19 : decode cX4_taken 19 = .ok (.iinc 3 1, 3) := by decide +kernel
theorem dX4_taken_22 : decode cX4_taken 22 = .ok (.goto (-18), 3) := by decide +kernel
theorem dX4_taken_25 : decode cX4_taken 25 = .ok (.iload_n 2, 1) := by decide +kernel
theorem dX4_taken_26 : decode cX4_taken 26 = .ok (.ireturn, 1) := by decide +kernel
theorem dX4_room_0 : decode cX4_room 0 = .ok (.sipush 248, 3) := by decide +kernel
theorem dX4_room_3 : decode cX4_room 3 = .ok (.iconst 4, 1) := by decide +kernel
theorem dX4_room_4 : decode cX4_room 4 = .ok (.aload_n 0, 1) := by decide +kernel
theorem dX4_room_5 : decode cX4_room 5 = .ok (.iload_n 1, 1) := by decide +kernel
theorem dX4_room_6 : decode cX4_room 6 = .ok (.invokevirtual 31, 3) := by decide +kernel
theorem dX4_room_9 : decode cX4_room 9 = .ok (.imul, 1) := by decide +kernel
theorem dX4_room_10 : decode cX4_room 10 = .ok (.isub, 1) := by decide +kernel
theorem dX4_room_11 : decode cX4_room 11 = .ok (.aload_n 0, 1) := by decide +kernel
theorem dX4_room_12 : decode cX4_room 12 = .ok (.iload_n 1, 1) := by decide +kernel
theorem dX4_room_13 : decode cX4_room 13 = .ok (.invokevirtual 35, 3) := by decide +kernel
theorem dX4_room_16 : decode cX4_room 16 = .ok (.isub, 1) := by decide +kernel
theorem dX4_room_17 : decode cX4_room 17 = .ok (.ireturn, 1) := by decide +kernel
theorem dX4_putCell_0 : decode cX4_putCell 0 = .ok (.aload_n 0, 1) := by decide +kernel
theorem dX4_putCell_1 : decode cX4_putCell 1 = .ok (.iload_n 1, 1) := by decide +kernel
theorem dX4_putCell_2 : decode cX4_putCell 2 = .ok (.iload_n 2, 1) := by decide +kernel
theorem dX4_putCell_3 : decode cX4_putCell 3 = .ok (.invokevirtual 27, 3) := by decide +kernel
theorem dX4_putCell_6 : decode cX4_putCell 6 = .ok (.istore 5, 2) := by decide +kernel
theorem dX4_putCell_8 : decode cX4_putCell 8 = .ok (.aload_n 0, 1) := by decide +kernel
theorem dX4_putCell_9 : decode cX4_putCell 9 = .ok (.getfield 7, 3) := by decide +kernel
theorem dX4_putCell_12 : decode cX4_putCell 12 = .ok (.bipush 96, 2) := by decide +kernel
theorem dX4_putCell_14 : decode cX4_putCell 14 = .ok (.iload_n 1, 1) := by decide +kernel
theorem dX4_putCell_15 : decode cX4_putCell 15 = .ok (.iadd, 1) := by decide +kernel
theorem dX4_putCell_16 : decode cX4_putCell 16 = .ok (.iaload, 1) := by decide +kernel
theorem dX4_putCell_17 : decode cX4_putCell 17 = .ok (.istore 6, 2) := by decide +kernel
theorem dX4_putCell_19 : decode cX4_putCell 19 = .ok (.aload_n 0, 1) := by decide +kernel
theorem dX4_putCell_20 : decode cX4_putCell 20 = .ok (.getfield 7, 3) := by decide +kernel
theorem dX4_putCell_23 : decode cX4_putCell 23 = .ok (.iload_n 1, 1) := by decide +kernel
theorem dX4_putCell_24 : decode cX4_putCell 24 = .ok (.iaload, 1) := by decide +kernel
theorem dX4_putCell_25 : decode cX4_putCell 25 = .ok (.iconst 1, 1) := by decide +kernel
theorem dX4_putCell_26 : decode cX4_putCell 26 = .ok (.if_icmp .eq 13, 3) := by decide +kernel
theorem dX4_putCell_29 : decode cX4_putCell 29 = .ok (.aload_n 0, 1) := by decide +kernel
theorem dX4_putCell_30 : decode cX4_putCell 30 = .ok (.getfield 7, 3) := by decide +kernel
theorem dX4_putCell_33 : decode cX4_putCell 33 = .ok (.iload_n 1, 1) := by decide +kernel
theorem dX4_putCell_34 : decode cX4_putCell 34 = .ok (.iconst 1, 1) := by decide +kernel
theorem dX4_putCell_35 : decode cX4_putCell 35 = .ok (.iastore, 1) := by decide +kernel
theorem dX4_putCell_36 : decode cX4_putCell 36 = .ok (.iconst 0, 1) := by decide +kernel
theorem dX4_putCell_37 : decode cX4_putCell 37 = .ok (.istore 6, 2) := by decide +kernel
theorem dX4_putCell_39 : decode cX4_putCell 39 = .ok (.iload 5, 2) := by decide +kernel
theorem dX4_putCell_41 : decode cX4_putCell 41 = .ok (.ifCond .eq 9, 3) := by decide +kernel
theorem dX4_putCell_44 : decode cX4_putCell 44 = .ok (.iload_n 3, 1) := by decide +kernel
theorem dX4_putCell_45 : decode cX4_putCell 45 = .ok (.iload 5, 2) := by decide +kernel
theorem dX4_putCell_47 : decode cX4_putCell 47 = .ok (.if_icmp .le 77, 3) := by decide +kernel
theorem dX4_putCell_50 : decode cX4_putCell 50 = .ok (.aload_n 0, 1) := by decide +kernel
theorem dX4_putCell_51 : decode cX4_putCell 51 = .ok (.iload_n 1, 1) := by decide +kernel
theorem dX4_putCell_52 : decode cX4_putCell 52 = .ok (.invokevirtual 31, 3) := by decide +kernel
theorem dX4_putCell_55 : decode cX4_putCell 55 = .ok (.iload_n 2, 1) := by decide +kernel
theorem dX4_putCell_56 : decode cX4_putCell 56 = .ok (.if_icmp .le 11, 3) := by decide +kernel
theorem dX4_putCell_59 : decode cX4_putCell 59 = .ok (.aload_n 0, 1) := by decide +kernel
theorem dX4_putCell_60 : decode cX4_putCell 60 = .ok (.iload_n 1, 1) := by decide +kernel
theorem dX4_putCell_61 : decode cX4_putCell 61 = .ok (.invokevirtual 31, 3) := by decide +kernel
theorem dX4_putCell_64 : decode cX4_putCell 64 = .ok (.goto 6, 3) := by decide +kernel
theorem dX4_putCell_67 : decode cX4_putCell 67 = .ok (.iload_n 2, 1) := by decide +kernel
theorem dX4_putCell_68 : decode cX4_putCell 68 = .ok (.iconst 1, 1) := by decide +kernel
theorem dX4_putCell_69 : decode cX4_putCell 69 = .ok (.iadd, 1) := by decide +kernel
theorem dX4_putCell_70 : decode cX4_putCell 70 = .ok (.istore 7, 2) := by decide +kernel
theorem dX4_putCell_72 : decode cX4_putCell 72 = .ok (.sipush 248, 3) := by decide +kernel
theorem dX4_putCell_75 : decode cX4_putCell 75 = .ok (.iconst 4, 1) := by decide +kernel
theorem dX4_putCell_76 : decode cX4_putCell 76 = .ok (.iload 7, 2) := by decide +kernel
theorem dX4_putCell_78 : decode cX4_putCell 78 = .ok (.imul, 1) := by decide +kernel
theorem dX4_putCell_79 : decode cX4_putCell 79 = .ok (.isub, 1) := by decide +kernel
theorem dX4_putCell_80 : decode cX4_putCell 80 = .ok (.iload 6, 2) := by decide +kernel
theorem dX4_putCell_82 : decode cX4_putCell 82 = .ok (.isub, 1) := by decide +kernel
theorem dX4_putCell_83 : decode cX4_putCell 83 = .ok (.iload_n 3, 1) := by decide +kernel
theorem dX4_putCell_84 : decode cX4_putCell 84 = .ok (.if_icmp .ge 34, 3) := by decide +kernel
theorem dX4_putCell_87 : decode cX4_putCell 87 = .ok (.aload_n 0, 1) := by decide +kernel
theorem dX4_putCell_88 : decode cX4_putCell 88 = .ok (.iload_n 1, 1) := by decide +kernel
theorem dX4_putCell_89 : decode cX4_putCell 89 = .ok (.invokevirtual 35, 3) := by decide +kernel
theorem dX4_putCell_92 : decode cX4_putCell 92 = .ok (.iload 5, 2) := by decide +kernel
theorem dX4_putCell_94 : decode cX4_putCell 94 = .ok (.isub, 1) := by decide +kernel
theorem dX4_putCell_95 : decode cX4_putCell 95 = .ok (.istore 6, 2) := by decide +kernel
theorem dX4_putCell_97 : decode cX4_putCell 97 = .ok (.aload_n 0, 1) := by decide +kernel
theorem dX4_putCell_98 : decode cX4_putCell 98 = .ok (.dup, 1) := by decide +kernel
theorem dX4_putCell_99 : decode cX4_putCell 99 = .ok (.getfield 38, 3) := by decide +kernel
theorem dX4_putCell_102 : decode cX4_putCell 102 = .ok (.aload_n 0, 1) := by decide +kernel
theorem dX4_putCell_103 : decode cX4_putCell 103 = .ok (.getfield 41, 3) := by decide +kernel
theorem dX4_putCell_106 : decode cX4_putCell 106 = .ok (.ifCond .eq 7, 3) := by decide +kernel
theorem dX4_putCell_109 : decode cX4_putCell 109 = .ok (.iconst 0, 1) := by decide +kernel
theorem dX4_putCell_110 : decode cX4_putCell 110 = .ok (.goto 4, 3) := by decide +kernel
theorem dX4_putCell_113 : decode cX4_putCell 113 = .ok (.iconst 1, 1) := by decide +kernel
theorem dX4_putCell_114 : decode cX4_putCell 114 = .ok (.iadd, 1) := by decide +kernel
theorem dX4_putCell_115 : decode cX4_putCell 115 = .ok (.putfield 38, 3) := by decide +kernel
theorem dX4_putCell_118 : decode cX4_putCell 118 = .ok (.iload 6, 2) := by decide +kernel
theorem dX4_putCell_120 : decode cX4_putCell 120 = .ok (.iload_n 3, 1) := by decide +kernel
theorem dX4_putCell_121 : decode cX4_putCell 121 = .ok (.iadd, 1) := by decide +kernel
theorem dX4_putCell_122 : decode cX4_putCell 122 = .ok (.istore 6, 2) := by decide +kernel
theorem dX4_putCell_124 : decode cX4_putCell 124 = .ok (.aload_n 0, 1) := by decide +kernel
theorem dX4_putCell_125 : decode cX4_putCell 125 = .ok (.getfield 7, 3) := by decide +kernel
theorem dX4_putCell_128 : decode cX4_putCell 128 = .ok (.bipush 96, 2) := by decide +kernel
theorem dX4_putCell_130 : decode cX4_putCell 130 = .ok (.iload_n 1, 1) := by decide +kernel
theorem dX4_putCell_131 : decode cX4_putCell 131 = .ok (.iadd, 1) := by decide +kernel
theorem dX4_putCell_132 : decode cX4_putCell 132 = .ok (.iload 6, 2) := by decide +kernel
theorem dX4_putCell_134 : decode cX4_putCell 134 = .ok (.iastore, 1) := by decide +kernel
theorem dX4_putCell_135 : decode cX4_putCell 135 = .ok (.aload_n 0, 1) := by decide +kernel
theorem dX4_putCell_136 : decode cX4_putCell 136 = .ok (.getfield 7, 3) := by decide +kernel
theorem dX4_putCell_139 : decode cX4_putCell 139 = .ok (.sipush 384, 3) := by decide +kernel
theorem dX4_putCell_142 : decode cX4_putCell 142 = .ok (.bipush 32, 2) := by decide +kernel
theorem dX4_putCell_144 : decode cX4_putCell 144 = .ok (.iload_n 1, 1) := by decide +kernel
theorem dX4_putCell_145 : decode cX4_putCell 145 = .ok (.imul, 1) := by decide +kernel
theorem dX4_putCell_146 : decode cX4_putCell 146 = .ok (.iadd, 1) := by decide +kernel
theorem dX4_putCell_147 : decode cX4_putCell 147 = .ok (.iload_n 2, 1) := by decide +kernel
theorem dX4_putCell_148 : decode cX4_putCell 148 = .ok (.iadd, 1) := by decide +kernel
theorem dX4_putCell_149 : decode cX4_putCell 149 = .ok (.iload_n 3, 1) := by decide +kernel
theorem dX4_putCell_150 : decode cX4_putCell 150 = .ok (.iastore, 1) := by decide +kernel
theorem dX4_putCell_151 : decode cX4_putCell 151 = .ok (.aload_n 0, 1) := by decide +kernel
theorem dX4_putCell_152 : decode cX4_putCell 152 = .ok (.getfield 7, 3) := by decide +kernel
theorem dX4_putCell_155 : decode cX4_putCell 155 = .ok (.sipush 3456, 3) := by decide +kernel
theorem dX4_putCell_158 : decode cX4_putCell 158 = .ok (.bipush 32, 2) := by decide +kernel
theorem dX4_putCell_160 : decode cX4_putCell 160 = .ok (.iload_n 1, 1) := by decide +kernel
theorem dX4_putCell_161 : decode cX4_putCell 161 = .ok (.imul, 1) := by decide +kernel
theorem dX4_putCell_162 : decode cX4_putCell 162 = .ok (.iadd, 1) := by decide +kernel
theorem dX4_putCell_163 : decode cX4_putCell 163 = .ok (.iload_n 2, 1) := by decide +kernel
theorem dX4_putCell_164 : decode cX4_putCell 164 = .ok (.iadd, 1) := by decide +kernel
theorem dX4_putCell_165 : decode cX4_putCell 165 = .ok (.iload 4, 2) := by decide +kernel
theorem dX4_putCell_167 : decode cX4_putCell 167 = .ok (.iastore, 1) := by decide +kernel
theorem dX4_putCell_168 : decode cX4_putCell 168 = .ok (.return_, 1) := by decide +kernel
theorem dX4_takeCell_0 : decode cX4_takeCell 0 = .ok (.aload_n 0, 1) := by decide +kernel
theorem dX4_takeCell_1 : decode cX4_takeCell 1 = .ok (.getfield 7, 3) := by decide +kernel
theorem dX4_takeCell_4 : decode cX4_takeCell 4 = .ok (.sipush 384, 3) := by decide +kernel
theorem dX4_takeCell_7 : decode cX4_takeCell 7 = .ok (.bipush 32, 2) := by decide +kernel
theorem dX4_takeCell_9 : decode cX4_takeCell 9 = .ok (.iload_n 1, 1) := by decide +kernel
theorem dX4_takeCell_10 : decode cX4_takeCell 10 = .ok (.imul, 1) := by decide +kernel
theorem dX4_takeCell_11 : decode cX4_takeCell 11 = .ok (.iadd, 1) := by decide +kernel
theorem dX4_takeCell_12 : decode cX4_takeCell 12 = .ok (.iload_n 2, 1) := by decide +kernel
theorem dX4_takeCell_13 : decode cX4_takeCell 13 = .ok (.iadd, 1) := by decide +kernel
theorem dX4_takeCell_14 : decode cX4_takeCell 14 = .ok (.iconst 0, 1) := by decide +kernel
theorem dX4_takeCell_15 : decode cX4_takeCell 15 = .ok (.iastore, 1) := by decide +kernel
theorem dX4_takeCell_16 : decode cX4_takeCell 16 = .ok (.aload_n 0, 1) := by decide +kernel
theorem dX4_takeCell_17 : decode cX4_takeCell 17 = .ok (.iload_n 1, 1) := by decide +kernel
theorem dX4_takeCell_18 : decode cX4_takeCell 18 = .ok (.invokevirtual 45, 3) := by decide +kernel
theorem dX4_takeCell_21 : decode cX4_takeCell 21 = .ok (.ifCond .ne 20, 3) := by decide +kernel
theorem dX4_takeCell_24 : decode cX4_takeCell 24 = .ok (.aload_n 0, 1) := by decide +kernel
theorem dX4_takeCell_25 : decode cX4_takeCell 25 = .ok (.getfield 7, 3) := by decide +kernel
theorem dX4_takeCell_28 : decode cX4_takeCell 28 = .ok (.iload_n 1, 1) := by decide +kernel
theorem dX4_takeCell_29 : decode cX4_takeCell 29 = .ok (.iconst 0, 1) := by decide +kernel
theorem dX4_takeCell_30 : decode cX4_takeCell 30 = .ok (.iastore, 1) := by decide +kernel
theorem dX4_takeCell_31 : decode cX4_takeCell 31 = .ok (.aload_n 0, 1) := by decide +kernel
theorem dX4_takeCell_32 : decode cX4_takeCell 32 = .ok (.getfield 7, 3) := by decide +kernel
theorem dX4_takeCell_35 : decode cX4_takeCell 35 = .ok (.bipush 96, 2) := by decide +kernel
theorem dX4_takeCell_37 : decode cX4_takeCell 37 = .ok (.iload_n 1, 1) := by decide +kernel
theorem dX4_takeCell_38 : decode cX4_takeCell 38 = .ok (.iadd, 1) := by decide +kernel
theorem dX4_takeCell_39 : decode cX4_takeCell 39 = .ok (.iconst 0, 1) := by decide +kernel
theorem dX4_takeCell_40 : decode cX4_takeCell 40 = .ok (.iastore, 1) := by decide +kernel
theorem dX4_takeCell_41 : decode cX4_takeCell 41 = .ok (.return_, 1) := by decide +kernel
theorem dX4_firstFree_0 : decode cX4_firstFree 0 = .ok (.iconst 0, 1) := by decide +kernel
theorem dX4_firstFree_1 : decode cX4_firstFree 1 = .ok (.istore_n 1, 1) := by decide +kernel
theorem dX4_firstFree_2 : decode cX4_firstFree 2 = .ok (.iload_n 1, 1) := by decide +kernel
theorem dX4_firstFree_3 : decode cX4_firstFree 3 = .ok (.bipush 96, 2) := by decide +kernel
theorem dX4_firstFree_5 : decode cX4_firstFree 5 = .ok (.if_icmp .ge 20, 3) := by decide +kernel
theorem dX4_firstFree_8 : decode cX4_firstFree 8 = .ok (.aload_n 0, 1) := by decide +kernel
theorem dX4_firstFree_9 : decode cX4_firstFree 9 = .ok (.getfield 7, 3) := by decide +kernel
theorem dX4_firstFree_12 : decode cX4_firstFree 12 = .ok (.iload_n 1, 1) := by decide +kernel
theorem dX4_firstFree_13 : decode cX4_firstFree 13 = .ok (.iaload, 1) := by decide +kernel
theorem dX4_firstFree_14 : decode cX4_firstFree 14 = .ok (.ifCond .ne 5, 3) := by decide +kernel
theorem dX4_firstFree_17 : decode cX4_firstFree 17 = .ok (.iload_n 1, 1) := by decide +kernel
theorem dX4_firstFree_18 : decode cX4_firstFree 18 = .ok (.ireturn, 1) := by decide +kernel
theorem dX4_firstFree_19 : decode cX4_firstFree 19 = .ok (.iinc 1 1, 3) := by decide +kernel
theorem dX4_firstFree_22 : decode cX4_firstFree 22 = .ok (.goto (-20), 3) := by decide +kernel
theorem dX4_firstFree_25 : decode cX4_firstFree 25 = .ok (.iconst (-1), 1) := by decide +kernel
theorem dX4_firstFree_26 : decode cX4_firstFree 26 = .ok (.ireturn, 1) := by decide +kernel
theorem dX4_freePages_0 : decode cX4_freePages 0 = .ok (.iconst 0, 1) := by decide +kernel
theorem dX4_freePages_1 : decode cX4_freePages 1 = .ok (.istore_n 1, 1) := by decide +kernel
theorem dX4_freePages_2 : decode cX4_freePages 2 = .ok (.iconst 0, 1) := by decide +kernel
theorem dX4_freePages_3 : decode cX4_freePages 3 = .ok (.istore_n 2, 1) := by decide +kernel
theorem dX4_freePages_4 : decode cX4_freePages 4 = .ok (.iload_n 2, 1) := by decide +kernel
theorem dX4_freePages_5 : decode cX4_freePages 5 = .ok (.bipush 96, 2) := by decide +kernel
theorem dX4_freePages_7 : decode cX4_freePages 7 = .ok (.if_icmp .ge 26, 3) := by decide +kernel
theorem dX4_freePages_10 : decode cX4_freePages 10 = .ok (.iload_n 1, 1) := by decide +kernel
theorem dX4_freePages_11 : decode cX4_freePages 11 = .ok (.aload_n 0, 1) := by decide +kernel
theorem dX4_freePages_12 : decode cX4_freePages 12 = .ok (.getfield 7, 3) := by decide +kernel
theorem dX4_freePages_15 : decode cX4_freePages 15 = .ok (.iload_n 2, 1) := by decide +kernel
theorem dX4_freePages_16 : decode cX4_freePages 16 = .ok (.iaload, 1) := by decide +kernel
theorem dX4_freePages_17 : decode cX4_freePages 17 = .ok (.ifCond .ne 7, 3) := by decide +kernel
theorem dX4_freePages_20 : decode cX4_freePages 20 = .ok (.iconst 1, 1) := by decide +kernel
theorem dX4_freePages_21 : decode cX4_freePages 21 = .ok (.goto 4, 3) := by decide +kernel
theorem dX4_freePages_24 : decode cX4_freePages 24 = .ok (.iconst 0, 1) := by decide +kernel
theorem dX4_freePages_25 : decode cX4_freePages 25 = .ok (.iadd, 1) := by decide +kernel
theorem dX4_freePages_26 : decode cX4_freePages 26 = .ok (.istore_n 1, 1) := by decide +kernel
theorem dX4_freePages_27 : decode cX4_freePages 27 = .ok (.iinc 2 1, 3) := by decide +kernel
theorem dX4_freePages_30 : decode cX4_freePages 30 = .ok (.goto (-26), 3) := by decide +kernel
theorem dX4_freePages_33 : decode cX4_freePages 33 = .ok (.iload_n 1, 1) := by decide +kernel
theorem dX4_freePages_34 : decode cX4_freePages 34 = .ok (.ireturn, 1) := by decide +kernel
theorem dX4_placeFor_0 : decode cX4_placeFor 0 = .ok (.iload_n 1, 1) := by decide +kernel
theorem dX4_placeFor_1 : decode cX4_placeFor 1 = .ok (.iconst 4, 1) := by decide +kernel
theorem dX4_placeFor_2 : decode cX4_placeFor 2 = .ok (.iadd, 1) := by decide +kernel
theorem dX4_placeFor_3 : decode cX4_placeFor 3 = .ok (.istore 4, 2) := by decide +kernel
theorem dX4_placeFor_5 : decode cX4_placeFor 5 = .ok (.iconst (-1), 1) := by decide +kernel
theorem dX4_placeFor_6 : decode cX4_placeFor 6 = .ok (.istore 5, 2) := by decide +kernel
theorem dX4_placeFor_8 : decode cX4_placeFor 8 = .ok (.iconst (-1), 1) := by decide +kernel
theorem dX4_placeFor_9 : decode cX4_placeFor 9 = .ok (.istore 6, 2) := by decide +kernel
theorem dX4_placeFor_11 : decode cX4_placeFor 11 = .ok (.bipush 95, 2) := by decide +kernel
theorem dX4_placeFor_13 : decode cX4_placeFor 13 = .ok (.istore 7, 2) := by decide +kernel
theorem dX4_placeFor_15 : decode cX4_placeFor 15 = .ok (.iload 7, 2) := by decide +kernel
theorem dX4_placeFor_17 : decode cX4_placeFor 17 = .ok (.ifCond .lt 106, 3) := by decide +kernel
theorem dX4_placeFor_20 : decode cX4_placeFor 20 = .ok (.aload_n 0, 1) := by decide +kernel
theorem dX4_placeFor_21 : decode cX4_placeFor 21 = .ok (.getfield 7, 3) := by decide +kernel
theorem dX4_placeFor_24 : decode cX4_placeFor 24 = .ok (.iload 7, 2) := by decide +kernel
theorem dX4_placeFor_26 : decode cX4_placeFor 26 = .ok (.iaload, 1) := by decide +kernel
theorem dX4_placeFor_27 : decode cX4_placeFor 27 = .ok (.iconst 1, 1) := by decide +kernel
theorem dX4_placeFor_28 : decode cX4_placeFor 28 = .ok (.if_icmp .ne 89, 3) := by decide +kernel
theorem dX4_placeFor_31 : decode cX4_placeFor 31 = .ok (.iload 7, 2) := by decide +kernel
theorem dX4_placeFor_33 : decode cX4_placeFor 33 = .ok (.iload_n 2, 1) := by decide +kernel
theorem dX4_placeFor_34 : decode cX4_placeFor 34 = .ok (.if_icmp .eq 83, 3) := by decide +kernel
theorem dX4_placeFor_37 : decode cX4_placeFor 37 = .ok (.iload 7, 2) := by decide +kernel
theorem dX4_placeFor_39 : decode cX4_placeFor 39 = .ok (.iload_n 3, 1) := by decide +kernel
theorem dX4_placeFor_40 : decode cX4_placeFor 40 = .ok (.if_icmp .eq 77, 3) := by decide +kernel
theorem dX4_placeFor_43 : decode cX4_placeFor 43 = .ok (.aload_n 0, 1) := by decide +kernel
theorem dX4_placeFor_44 : decode cX4_placeFor 44 = .ok (.iload 7, 2) := by decide +kernel
theorem dX4_placeFor_46 : decode cX4_placeFor 46 = .ok (.invokevirtual 45, 3) := by decide +kernel
theorem dX4_placeFor_49 : decode cX4_placeFor 49 = .ok (.bipush 32, 2) := by decide +kernel
theorem dX4_placeFor_51 : decode cX4_placeFor 51 = .ok (.if_icmp .ne 6, 3) := by decide +kernel
theorem dX4_placeFor_54 : decode cX4_placeFor 54 = .ok (.goto 63, 3) := by decide +kernel
theorem dX4_placeFor_57 : decode cX4_placeFor 57 = .ok (.aload_n 0, 1) := by decide +kernel
theorem dX4_placeFor_58 : decode cX4_placeFor 58 = .ok (.iload 7, 2) := by decide +kernel
theorem dX4_placeFor_60 : decode cX4_placeFor 60 = .ok (.invokevirtual 48, 3) := by decide +kernel
theorem dX4_placeFor_63 : decode cX4_placeFor 63 = .ok (.bipush 31, 2) := by decide +kernel
theorem dX4_placeFor_65 : decode cX4_placeFor 65 = .ok (.idiv, 1) := by decide +kernel
theorem dX4_placeFor_66 : decode cX4_placeFor 66 = .ok (.istore 8, 2) := by decide +kernel
theorem dX4_placeFor_68 : decode cX4_placeFor 68 = .ok (.bipush 31, 2) := by decide +kernel
theorem dX4_placeFor_70 : decode cX4_placeFor 70 = .ok (.iload 8, 2) := by decide +kernel
theorem dX4_placeFor_72 : decode cX4_placeFor 72 = .ok (.imul, 1) := by decide +kernel
theorem dX4_placeFor_73 : decode cX4_placeFor 73 = .ok (.iload 4, 2) := by decide +kernel
theorem dX4_placeFor_75 : decode cX4_placeFor 75 = .ok (.if_icmp .lt 27, 3) := by decide +kernel
theorem dX4_placeFor_78 : decode cX4_placeFor 78 = .ok (.iload 5, 2) := by decide +kernel
theorem dX4_placeFor_80 : decode cX4_placeFor 80 = .ok (.iconst (-1), 1) := by decide +kernel
theorem dX4_placeFor_81 : decode cX4_placeFor 81 = .ok (.if_icmp .eq 17, 3) := by decide +kernel
theorem dX4_placeFor_84 : decode cX4_placeFor 84 = .ok (.iload 8, 2) := by decide +kernel
theorem dX4_placeFor_86 : decode cX4_placeFor 86 = .ok (.aload_n 0, 1) := by decide +kernel
theorem dX4_placeFor_87 : decode cX4_placeFor 87 = .ok (.iload 5, 2) := by decide +kernel
theorem dX4_placeFor_89 : decode cX4_placeFor 89 = .ok (.invokevirtual 48, 3) := by decide +kernel
theorem dX4_placeFor_92 : decode cX4_placeFor 92 = .ok (.bipush 31, 2) := by decide +kernel
theorem dX4_placeFor_94 : decode cX4_placeFor 94 = .ok (.idiv, 1) := by decide +kernel
theorem dX4_placeFor_95 : decode cX4_placeFor 95 = .ok (.if_icmp .gt 7, 3) := by decide +kernel
theorem dX4_placeFor_98 : decode cX4_placeFor 98 = .ok (.iload 7, 2) := by decide +kernel
theorem dX4_placeFor_100 : decode cX4_placeFor 100 = .ok (.istore 5, 2) := by decide +kernel
theorem dX4_placeFor_102 : decode cX4_placeFor 102 = .ok (.aload_n 0, 1) := by decide +kernel
theorem dX4_placeFor_103 : decode cX4_placeFor 103 = .ok (.iload 7, 2) := by decide +kernel
theorem dX4_placeFor_105 : decode cX4_placeFor 105 = .ok (.invokevirtual 48, 3) := by decide +kernel
theorem dX4_placeFor_108 : decode cX4_placeFor 108 = .ok (.iload 4, 2) := by decide +kernel
theorem dX4_placeFor_110 : decode cX4_placeFor 110 = .ok (.if_icmp .lt 7, 3) := by decide +kernel
theorem dX4_placeFor_113 : decode cX4_placeFor 113 = .ok (.iload 7, 2) := by decide +kernel
theorem dX4_placeFor_115 : decode cX4_placeFor 115 = .ok (.istore 6, 2) := by decide +kernel
theorem dX4_placeFor_117 : decode cX4_placeFor 117 = .ok (.iinc 7 (-1), 3) := by decide +kernel
theorem dX4_placeFor_120 : decode cX4_placeFor 120 = .ok (.goto (-105), 3) := by decide +kernel
theorem dX4_placeFor_123 : decode cX4_placeFor 123 = .ok (.iload 5, 2) := by decide +kernel
theorem dX4_placeFor_125 : decode cX4_placeFor 125 = .ok (.iconst (-1), 1) := by decide +kernel
theorem dX4_placeFor_126 : decode cX4_placeFor 126 = .ok (.if_icmp .eq 8, 3) := by decide +kernel
theorem dX4_placeFor_129 : decode cX4_placeFor 129 = .ok (.iload 5, 2) := by decide +kernel
theorem dX4_placeFor_131 : decode cX4_placeFor 131 = .ok (.goto 18, 3) := by decide +kernel
theorem dX4_placeFor_134 : decode cX4_placeFor 134 = .ok (.iload 6, 2) := by decide +kernel
theorem dX4_placeFor_136 : decode cX4_placeFor 136 = .ok (.iconst (-1), 1) := by decide +kernel
theorem dX4_placeFor_137 : decode cX4_placeFor 137 = .ok (.if_icmp .eq 8, 3) := by decide +kernel
theorem dX4_placeFor_140 : decode cX4_placeFor 140 = .ok (.iload 6, 2) := by decide +kernel
theorem dX4_placeFor_142 : decode cX4_placeFor 142 = .ok (.goto 7, 3) := by decide +kernel
theorem dX4_placeFor_145 : decode cX4_placeFor 145 = .ok (.aload_n 0, 1) := by decide +kernel
theorem dX4_placeFor_146 : decode cX4_placeFor 146 = .ok (.invokevirtual 51, 3) := by decide +kernel
theorem dX4_placeFor_149 : decode cX4_placeFor 149 = .ok (.ireturn, 1) := by decide +kernel
theorem dX4_slotIn_0 : decode cX4_slotIn 0 = .ok (.iconst 0, 1) := by decide +kernel
theorem dX4_slotIn_1 : decode cX4_slotIn 1 = .ok (.istore_n 2, 1) := by decide +kernel
theorem dX4_slotIn_2 : decode cX4_slotIn 2 = .ok (.aload_n 0, 1) := by decide +kernel
theorem dX4_slotIn_3 : decode cX4_slotIn 3 = .ok (.iload_n 1, 1) := by decide +kernel
theorem dX4_slotIn_4 : decode cX4_slotIn 4 = .ok (.iload_n 2, 1) := by decide +kernel
theorem dX4_slotIn_5 : decode cX4_slotIn 5 = .ok (.invokevirtual 27, 3) := by decide +kernel
theorem dX4_slotIn_8 : decode cX4_slotIn 8 = .ok (.ifCond .le 9, 3) := by decide +kernel
theorem dX4_slotIn_11 : decode cX4_slotIn 11 = .ok (.iinc 2 1, 3) := by decide +kernel
theorem dX4_slotIn_14 : decode cX4_slotIn 14 = .ok (.goto (-12), 3) := by decide +kernel
theorem dX4_slotIn_17 : decode cX4_slotIn 17 = .ok (.iload_n 2, 1) := by decide +kernel
theorem dX4_slotIn_18 : decode cX4_slotIn 18 = .ok (.ireturn, 1) := by decide +kernel
theorem dX4_cellSize_0 : decode cX4_cellSize 0 = .ok (.iload_n 0, 1) := by decide +kernel
theorem dX4_cellSize_1 : decode cX4_cellSize 1 = .ok (.bipush 100, 2) := by decide +kernel
theorem dX4_cellSize_3 : decode cX4_cellSize 3 = .ok (.if_icmp .le 8, 3) := by decide +kernel
theorem dX4_cellSize_6 : decode cX4_cellSize 6 = .ok (.bipush 9, 2) := by decide +kernel
theorem dX4_cellSize_8 : decode cX4_cellSize 8 = .ok (.goto 6, 3) := by decide +kernel
theorem dX4_cellSize_11 : decode cX4_cellSize 11 = .ok (.iload_n 0, 1) := by decide +kernel
theorem dX4_cellSize_12 : decode cX4_cellSize 12 = .ok (.iconst 1, 1) := by decide +kernel
theorem dX4_cellSize_13 : decode cX4_cellSize 13 = .ok (.iadd, 1) := by decide +kernel
theorem dX4_cellSize_14 : decode cX4_cellSize 14 = .ok (.iload_n 1, 1) := by decide +kernel
theorem dX4_cellSize_15 : decode cX4_cellSize 15 = .ok (.ifCond .eq 7, 3) := by decide +kernel
theorem dX4_cellSize_18 : decode cX4_cellSize 18 = .ok (.iconst 4, 1) := by decide +kernel
theorem dX4_cellSize_19 : decode cX4_cellSize 19 = .ok (.goto 4, 3) := by decide +kernel
theorem dX4_cellSize_22 : decode cX4_cellSize 22 = .ok (.iconst 0, 1) := by decide +kernel
theorem dX4_cellSize_23 : decode cX4_cellSize 23 = .ok (.iadd, 1) := by decide +kernel
theorem dX4_cellSize_24 : decode cX4_cellSize 24 = .ok (.istore_n 2, 1) := by decide +kernel
theorem dX4_cellSize_25 : decode cX4_cellSize 25 = .ok (.iload_n 2, 1) := by decide +kernel
theorem dX4_cellSize_26 : decode cX4_cellSize 26 = .ok (.iconst 5, 1) := by decide +kernel
theorem dX4_cellSize_27 : decode cX4_cellSize 27 = .ok (.if_icmp .ge 7, 3) := by decide +kernel
theorem dX4_cellSize_30 : decode cX4_cellSize 30 = .ok (.iconst 5, 1) := by decide +kernel
theorem dX4_cellSize_31 : decode cX4_cellSize 31 = .ok (.goto 4, 3) := by decide +kernel
theorem dX4_cellSize_34 : decode cX4_cellSize 34 = .ok (.iload_n 2, 1) := by decide +kernel
theorem dX4_cellSize_35 : decode cX4_cellSize 35 = .ok (.ireturn, 1) := by decide +kernel
theorem dX4_chainSize_0 : decode cX4_chainSize 0 = .ok (.iload_n 0, 1) := by decide +kernel
theorem dX4_chainSize_1 : decode cX4_chainSize 1 = .ok (.bipush 100, 2) := by decide +kernel
theorem dX4_chainSize_3 : decode cX4_chainSize 3 = .ok (.if_icmp .le 17, 3) := by decide +kernel
theorem dX4_chainSize_6 : decode cX4_chainSize 6 = .ok (.iload_n 0, 1) := by decide +kernel
theorem dX4_chainSize_7 : decode cX4_chainSize 7 = .ok (.sipush 240, 3) := by decide +kernel
theorem dX4_chainSize_10 : decode cX4_chainSize 10 = .ok (.iadd, 1) := by decide +kernel
theorem dX4_chainSize_11 : decode cX4_chainSize 11 = .ok (.iconst 1, 1) := by decide +kernel
theorem dX4_chainSize_12 : decode cX4_chainSize 12 = .ok (.isub, 1) := by decide +kernel
theorem dX4_chainSize_13 : decode cX4_chainSize 13 = .ok (.sipush 240, 3) := by decide +kernel
theorem dX4_chainSize_16 : decode cX4_chainSize 16 = .ok (.idiv, 1) := by decide +kernel
theorem dX4_chainSize_17 : decode cX4_chainSize 17 = .ok (.goto 4, 3) := by decide +kernel
theorem dX4_chainSize_20 : decode cX4_chainSize 20 = .ok (.iconst 0, 1) := by decide +kernel
theorem dX4_chainSize_21 : decode cX4_chainSize 21 = .ok (.ireturn, 1) := by decide +kernel
theorem dX4_takeChain_0 : decode cX4_takeChain 0 = .ok (.iconst (-1), 1) := by decide +kernel
theorem dX4_takeChain_1 : decode cX4_takeChain 1 = .ok (.istore_n 2, 1) := by decide +kernel
theorem dX4_takeChain_2 : decode cX4_takeChain 2 = .ok (.iconst (-1), 1) := by decide +kernel
theorem dX4_takeChain_3 : decode cX4_takeChain 3 = .ok (.istore_n 3, 1) := by decide +kernel
theorem dX4_takeChain_4 : decode cX4_takeChain 4 = .ok (.iconst 0, 1) := by decide +kernel
theorem dX4_takeChain_5 : decode cX4_takeChain 5 = .ok (.istore 4, 2) := by decide +kernel
theorem dX4_takeChain_7 : decode cX4_takeChain 7 = .ok (.iload 4, 2) := by decide +kernel
theorem dX4_takeChain_9 : decode cX4_takeChain 9 = .ok (.iload_n 1, 1) := by decide +kernel
theorem dX4_takeChain_10 : decode cX4_takeChain 10 = .ok (.invokestatic 55, 3) := by decide +kernel
theorem dX4_takeChain_13 : decode cX4_takeChain 13 = .ok (.if_icmp .ge 98, 3) := by decide +kernel
theorem dX4_takeChain_16 : decode cX4_takeChain 16 = .ok (.aload_n 0, 1) := by decide +kernel
theorem dX4_takeChain_17 : decode cX4_takeChain 17 = .ok (.invokevirtual 51, 3) := by decide +kernel
theorem dX4_takeChain_20 : decode cX4_takeChain 20 = .ok (.istore 5, 2) := by decide +kernel
theorem dX4_takeChain_22 : decode cX4_takeChain 22 = .ok (.aload_n 0, 1) := by decide +kernel
theorem dX4_takeChain_23 : decode cX4_takeChain 23 = .ok (.getfield 7, 3) := by decide +kernel
theorem dX4_takeChain_26 : decode cX4_takeChain 26 = .ok (.iload 5, 2) := by decide +kernel
theorem dX4_takeChain_28 : decode cX4_takeChain 28 = .ok (.iconst 2, 1) := by decide +kernel
theorem dX4_takeChain_29 : decode cX4_takeChain 29 = .ok (.iastore, 1) := by decide +kernel
theorem dX4_takeChain_30 : decode cX4_takeChain 30 = .ok (.aload_n 0, 1) := by decide +kernel
theorem dX4_takeChain_31 : decode cX4_takeChain 31 = .ok (.getfield 7, 3) := by decide +kernel
theorem dX4_takeChain_34 : decode cX4_takeChain 34 = .ok (.sipush 192, 3) := by decide +kernel
theorem dX4_takeChain_37 : decode cX4_takeChain 37 = .ok (.iload 5, 2) := by decide +kernel
theorem dX4_takeChain_39 : decode cX4_takeChain 39 = .ok (.iadd, 1) := by decide +kernel
theorem dX4_takeChain_40 : decode cX4_takeChain 40 = .ok (.iconst (-1), 1) := by decide +kernel
theorem dX4_takeChain_41 : decode cX4_takeChain 41 = .ok (.iastore, 1) := by decide +kernel
theorem dX4_takeChain_42 : decode cX4_takeChain 42 = .ok (.iload_n 1, 1) := by decide +kernel
theorem dX4_takeChain_43 : decode cX4_takeChain 43 = .ok (.sipush 240, 3) := by decide +kernel
theorem dX4_takeChain_46 : decode cX4_takeChain 46 = .ok (.iload 4, 2) := by decide +kernel
theorem dX4_takeChain_48 : decode cX4_takeChain 48 = .ok (.imul, 1) := by decide +kernel
theorem dX4_takeChain_49 : decode cX4_takeChain 49 = .ok (.isub, 1) := by decide +kernel
theorem dX4_takeChain_50 : decode cX4_takeChain 50 = .ok (.istore 6, 2) := by decide +kernel
theorem dX4_takeChain_52 : decode cX4_takeChain 52 = .ok (.aload_n 0, 1) := by decide +kernel
theorem dX4_takeChain_53 : decode cX4_takeChain 53 = .ok (.getfield 7, 3) := by decide +kernel
theorem dX4_takeChain_56 : decode cX4_takeChain 56 = .ok (.sipush 288, 3) := by decide +kernel
theorem dX4_takeChain_59 : decode cX4_takeChain 59 = .ok (.iload 5, 2) := by decide +kernel
theorem dX4_takeChain_61 : decode cX4_takeChain 61 = .ok (.iadd, 1) := by decide +kernel
theorem dX4_takeChain_62 : decode cX4_takeChain 62 = .ok (.iload 6, 2) := by decide +kernel
theorem dX4_takeChain_64 : decode cX4_takeChain 64 = .ok (.sipush 240, 3) := by decide +kernel
theorem dX4_takeChain_67 : decode cX4_takeChain 67 = .ok (.if_icmp .ge 8, 3) := by decide +kernel
theorem dX4_takeChain_70 : decode cX4_takeChain 70 = .ok (.iload 6, 2) := by decide +kernel
theorem dX4_takeChain_72 : decode cX4_takeChain 72 = .ok (.goto 6, 3) := by decide +kernel
theorem dX4_takeChain_75 : decode cX4_takeChain 75 = .ok (.sipush 240, 3) := by decide +kernel
theorem dX4_takeChain_78 : decode cX4_takeChain 78 = .ok (.iastore, 1) := by decide +kernel
theorem dX4_takeChain_79 : decode cX4_takeChain 79 = .ok (.iload_n 3, 1) := by decide +kernel
theorem dX4_takeChain_80 : decode cX4_takeChain 80 = .ok (.iconst (-1), 1) := by decide +kernel
theorem dX4_takeChain_81 : decode cX4_takeChain 81 = .ok (.if_icmp .ne 9, 3) := by decide +kernel
theorem dX4_takeChain_84 : decode cX4_takeChain 84 = .ok (.iload 5, 2) := by decide +kernel
theorem dX4_takeChain_86 : decode cX4_takeChain 86 = .ok (.istore_n 2, 1) := by decide +kernel
theorem dX4_takeChain_87 : decode cX4_takeChain 87 = .ok (.goto 15, 3) := by decide +kernel
theorem dX4_takeChain_90 : decode cX4_takeChain 90 = .ok (.aload_n 0, 1) := by decide +kernel
theorem dX4_takeChain_91 : decode cX4_takeChain 91 = .ok (.getfield 7, 3) := by decide +kernel
theorem dX4_takeChain_94 : decode cX4_takeChain 94 = .ok (.sipush 192, 3) := by decide +kernel
theorem dX4_takeChain_97 : decode cX4_takeChain 97 = .ok (.iload_n 3, 1) := by decide +kernel
theorem dX4_takeChain_98 : decode cX4_takeChain 98 = .ok (.iadd, 1) := by decide +kernel
theorem dX4_takeChain_99 : decode cX4_takeChain 99 = .ok (.iload 5, 2) := by decide +kernel
theorem dX4_takeChain_101 : decode cX4_takeChain 101 = .ok (.iastore, 1) := by decide +kernel
theorem dX4_takeChain_102 : decode cX4_takeChain 102 = .ok (.iload 5, 2) := by decide +kernel
theorem dX4_takeChain_104 : decode cX4_takeChain 104 = .ok (.istore_n 3, 1) := by decide +kernel
theorem dX4_takeChain_105 : decode cX4_takeChain 105 = .ok (.iinc 4 1, 3) := by decide +kernel
theorem dX4_takeChain_108 : decode cX4_takeChain 108 = .ok (.goto (-101), 3) := by decide +kernel
theorem dX4_takeChain_111 : decode cX4_takeChain 111 = .ok (.iload_n 2, 1) := by decide +kernel
theorem dX4_takeChain_112 : decode cX4_takeChain 112 = .ok (.ireturn, 1) := by decide +kernel
theorem dX4_freeChain_0 : decode cX4_freeChain 0 = .ok (.iload_n 1, 1) := by decide +kernel
theorem dX4_freeChain_1 : decode cX4_freeChain 1 = .ok (.istore_n 2, 1) := by decide +kernel
theorem dX4_freeChain_2 : decode cX4_freeChain 2 = .ok (.iload_n 2, 1) := by decide +kernel
theorem dX4_freeChain_3 : decode cX4_freeChain 3 = .ok (.iconst (-1), 1) := by decide +kernel
theorem dX4_freeChain_4 : decode cX4_freeChain 4 = .ok (.if_icmp .eq 24, 3) := by decide +kernel
theorem dX4_freeChain_7 : decode cX4_freeChain 7 = .ok (.aload_n 0, 1) := by decide +kernel
theorem dX4_freeChain_8 : decode cX4_freeChain 8 = .ok (.getfield 7, 3) := by decide +kernel
theorem dX4_freeChain_11 : decode cX4_freeChain 11 = .ok (.iload_n 2, 1) := by decide +kernel
theorem dX4_freeChain_12 : decode cX4_freeChain 12 = .ok (.iconst 0, 1) := by decide +kernel
theorem dX4_freeChain_13 : decode cX4_freeChain 13 = .ok (.iastore, 1) := by decide +kernel
theorem dX4_freeChain_14 : decode cX4_freeChain 14 = .ok (.aload_n 0, 1) := by decide +kernel
theorem dX4_freeChain_15 : decode cX4_freeChain 15 = .ok (.getfield 7, 3) := by decide +kernel
theorem dX4_freeChain_18 : decode cX4_freeChain 18 = .ok (.sipush 192, 3) := by decide +kernel
theorem dX4_freeChain_21 : decode cX4_freeChain 21 = .ok (.iload_n 2, 1) := by decide +kernel
theorem dX4_freeChain_22 : decode cX4_freeChain 22 = .ok (.iadd, 1) := by decide +kernel
theorem dX4_freeChain_23 : decode cX4_freeChain 23 = .ok (.iaload, 1) := by decide +kernel
theorem dX4_freeChain_24 : decode cX4_freeChain 24 = .ok (.istore_n 2, 1) := by decide +kernel
theorem dX4_freeChain_25 : decode cX4_freeChain 25 = .ok (.goto (-23), 3) := by decide +kernel
theorem dX4_freeChain_28 : decode cX4_freeChain 28 = .ok (.return_, 1) := by decide +kernel
theorem dX4_isRecord_0 : decode cX4_isRecord 0 = .ok (.iload_n 1, 1) := by decide +kernel
theorem dX4_isRecord_1 : decode cX4_isRecord 1 = .ok (.ifCond .lt 28, 3) := by decide +kernel
theorem dX4_isRecord_4 : decode cX4_isRecord 4 = .ok (.iload_n 1, 1) := by decide +kernel
theorem dX4_isRecord_5 : decode cX4_isRecord 5 = .ok (.sipush 3072, 3) := by decide +kernel
theorem dX4_isRecord_8 : decode cX4_isRecord 8 = .ok (.if_icmp .ge 21, 3) := by decide +kernel
theorem dX4_isRecord_11 : decode cX4_isRecord 11 = .ok (.aload_n 0, 1) := by decide +kernel
theorem dX4_isRecord_12 : decode cX4_isRecord 12 = .ok (.getfield 7, 3) := by decide +kernel
theorem dX4_isRecord_15 : decode cX4_isRecord 15 = .ok (.sipush 6528, 3) := by decide +kernel
theorem dX4_isRecord_18 : decode cX4_isRecord 18 = .ok (.iload_n 1, 1) := by decide +kernel
theorem dX4_isRecord_19 : decode cX4_isRecord 19 = .ok (.iadd, 1) := by decide +kernel
theorem dX4_isRecord_20 : decode cX4_isRecord 20 = .ok (.iaload, 1) := by decide +kernel
theorem dX4_isRecord_21 : decode cX4_isRecord 21 = .ok (.iconst (-1), 1) := by decide +kernel
theorem dX4_isRecord_22 : decode cX4_isRecord 22 = .ok (.if_icmp .eq 7, 3) := by decide +kernel
theorem dX4_isRecord_25 : decode cX4_isRecord 25 = .ok (.iconst 1, 1) := by decide +kernel
theorem dX4_isRecord_26 : decode cX4_isRecord 26 = .ok (.goto 4, 3) := by decide +kernel
theorem dX4_isRecord_29 : decode cX4_isRecord 29 = .ok (.iconst 0, 1) := by decide +kernel
theorem dX4_isRecord_30 : decode cX4_isRecord 30 = .ok (.ireturn, 1) := by decide +kernel
theorem dX4_keep_0 : decode cX4_keep 0 = .ok (.aload_n 0, 1) := by decide +kernel
theorem dX4_keep_1 : decode cX4_keep 1 = .ok (.getfield 7, 3) := by decide +kernel
theorem dX4_keep_4 : decode cX4_keep 4 = .ok (.sipush 6528, 3) := by decide +kernel
theorem dX4_keep_7 : decode cX4_keep 7 = .ok (.iload_n 1, 1) := by decide +kernel
theorem dX4_keep_8 : decode cX4_keep 8 = .ok (.iadd, 1) := by decide +kernel
theorem dX4_keep_9 : decode cX4_keep 9 = .ok (.iload_n 2, 1) := by decide +kernel
theorem dX4_keep_10 : decode cX4_keep 10 = .ok (.iastore, 1) := by decide +kernel
theorem dX4_keep_11 : decode cX4_keep 11 = .ok (.aload_n 0, 1) := by decide +kernel
theorem dX4_keep_12 : decode cX4_keep 12 = .ok (.getfield 7, 3) := by decide +kernel
theorem dX4_keep_15 : decode cX4_keep 15 = .ok (.sipush 9600, 3) := by decide +kernel
theorem dX4_keep_18 : decode cX4_keep 18 = .ok (.iload_n 1, 1) := by decide +kernel
theorem dX4_keep_19 : decode cX4_keep 19 = .ok (.iadd, 1) := by decide +kernel
theorem dX4_keep_20 : decode cX4_keep 20 = .ok (.iload_n 3, 1) := by decide +kernel
theorem dX4_keep_21 : decode cX4_keep 21 = .ok (.iastore, 1) := by decide +kernel
theorem dX4_keep_22 : decode cX4_keep 22 = .ok (.aload_n 0, 1) := by decide +kernel
theorem dX4_keep_23 : decode cX4_keep 23 = .ok (.getfield 7, 3) := by decide +kernel
theorem dX4_keep_26 : decode cX4_keep 26 = .ok (.sipush 12672, 3) := by decide +kernel
theorem dX4_keep_29 : decode cX4_keep 29 = .ok (.iload_n 1, 1) := by decide +kernel
theorem dX4_keep_30 : decode cX4_keep 30 = .ok (.iadd, 1) := by decide +kernel
theorem dX4_keep_31 : decode cX4_keep 31 = .ok (.iload 4, 2) := by decide +kernel
theorem dX4_keep_33 : decode cX4_keep 33 = .ok (.iastore, 1) := by decide +kernel
theorem dX4_keep_34 : decode cX4_keep 34 = .ok (.aload_n 0, 1) := by decide +kernel
theorem dX4_keep_35 : decode cX4_keep 35 = .ok (.getfield 7, 3) := by decide +kernel
theorem dX4_keep_38 : decode cX4_keep 38 = .ok (.sipush 15744, 3) := by decide +kernel
theorem dX4_keep_41 : decode cX4_keep 41 = .ok (.iload_n 1, 1) := by decide +kernel
theorem dX4_keep_42 : decode cX4_keep 42 = .ok (.iadd, 1) := by decide +kernel
theorem dX4_keep_43 : decode cX4_keep 43 = .ok (.iload 5, 2) := by decide +kernel
theorem dX4_keep_45 : decode cX4_keep 45 = .ok (.iastore, 1) := by decide +kernel
theorem dX4_keep_46 : decode cX4_keep 46 = .ok (.return_, 1) := by decide +kernel
theorem dX4_inserts_0 : decode cX4_inserts 0 = .ok (.iload_n 1, 1) := by decide +kernel
theorem dX4_inserts_1 : decode cX4_inserts 1 = .ok (.invokestatic 55, 3) := by decide +kernel
theorem dX4_inserts_4 : decode cX4_inserts 4 = .ok (.aload_n 0, 1) := by decide +kernel
theorem dX4_inserts_5 : decode cX4_inserts 5 = .ok (.invokevirtual 58, 3) := by decide +kernel
theorem dX4_inserts_8 : decode cX4_inserts 8 = .ok (.if_icmp .le 5, 3) := by decide +kernel
theorem dX4_inserts_11 : decode cX4_inserts 11 = .ok (.iconst (-1), 1) := by decide +kernel
theorem dX4_inserts_12 : decode cX4_inserts 12 = .ok (.ireturn, 1) := by decide +kernel
theorem dX4_inserts_13 : decode cX4_inserts 13 = .ok (.aload_n 0, 1) := by decide +kernel
theorem dX4_inserts_14 : decode cX4_inserts 14 = .ok (.iload_n 1, 1) := by decide +kernel
theorem dX4_inserts_15 : decode cX4_inserts 15 = .ok (.invokevirtual 61, 3) := by decide +kernel
theorem dX4_inserts_18 : decode cX4_inserts 18 = .ok (.istore_n 3, 1) := by decide +kernel
theorem dX4_inserts_19 : decode cX4_inserts 19 = .ok (.iload_n 1, 1) := by decide +kernel
theorem dX4_inserts_20 : decode cX4_inserts 20 = .ok (.iconst 0, 1) := by decide +kernel
theorem dX4_inserts_21 : decode cX4_inserts 21 = .ok (.invokestatic 64, 3) := by decide +kernel
theorem dX4_inserts_24 : decode cX4_inserts 24 = .ok (.istore 4, 2) := by decide +kernel
theorem dX4_inserts_26 : decode cX4_inserts 26 = .ok (.aload_n 0, 1) := by decide +kernel
theorem dX4_inserts_27 : decode cX4_inserts 27 = .ok (.iload 4, 2) := by decide +kernel
theorem dX4_inserts_29 : decode cX4_inserts 29 = .ok (.iconst (-1), 1) := by decide +kernel
theorem dX4_inserts_30 : decode cX4_inserts 30 = .ok (.iconst (-1), 1) := by decide +kernel
theorem dX4_inserts_31 : decode cX4_inserts 31 = .ok (.invokevirtual 68, 3) := by decide +kernel
theorem dX4_inserts_34 : decode cX4_inserts 34 = .ok (.istore 5, 2) := by decide +kernel
theorem dX4_inserts_36 : decode cX4_inserts 36 = .ok (.iload 5, 2) := by decide +kernel
theorem dX4_inserts_38 : decode cX4_inserts 38 = .ok (.iconst (-1), 1) := by decide +kernel
theorem dX4_inserts_39 : decode cX4_inserts 39 = .ok (.if_icmp .ne 10, 3) := by decide +kernel
theorem dX4_inserts_42 : decode cX4_inserts 42 = .ok (.aload_n 0, 1) := by decide +kernel
theorem dX4_inserts_43 : decode cX4_inserts 43 = .ok (.iload_n 3, 1) := by decide +kernel
theorem dX4_inserts_44 : decode cX4_inserts 44 = .ok (.invokevirtual 72, 3) := by decide +kernel
theorem dX4_inserts_47 : decode cX4_inserts 47 = .ok (.iconst (-1), 1) := by decide +kernel
theorem dX4_inserts_48 : decode cX4_inserts 48 = .ok (.ireturn, 1) := by decide +kernel
theorem dX4_inserts_49 : decode cX4_inserts 49 = .ok (.aload_n 0, 1) := by decide +kernel
theorem dX4_inserts_50 : decode cX4_inserts 50 = .ok (.getfield 7, 3) := by decide +kernel
theorem dX4_inserts_53 : decode cX4_inserts 53 = .ok (.iload 5, 2) := by decide +kernel
theorem dX4_inserts_55 : decode cX4_inserts 55 = .ok (.iaload, 1) := by decide +kernel
theorem dX4_inserts_56 : decode cX4_inserts 56 = .ok (.ifCond .ne 7, 3) := by decide +kernel
theorem dX4_inserts_59 : decode cX4_inserts 59 = .ok (.iconst 0, 1) := by decide +kernel
theorem dX4_inserts_60 : decode cX4_inserts 60 = .ok (.goto 9, 3) := by decide +kernel
theorem dX4_inserts_63 : decode cX4_inserts 63 = .ok (.aload_n 0, 1) := by decide +kernel
theorem dX4_inserts_64 : decode cX4_inserts 64 = .ok (.iload 5, 2) := by decide +kernel
theorem dX4_inserts_66 : decode cX4_inserts 66 = .ok (.invokevirtual 76, 3) := by decide +kernel
theorem dX4_inserts_69 : decode cX4_inserts 69 = .ok (.istore 6, 2) := by decide +kernel
theorem dX4_inserts_71 : decode cX4_inserts 71 = .ok (.bipush 32, 2) := by decide +kernel
theorem dX4_inserts_73 : decode cX4_inserts 73 = .ok (.iload 5, 2) := by decide +kernel
theorem dX4_inserts_75 : decode cX4_inserts 75 = .ok (.imul, 1) := by decide +kernel
theorem dX4_inserts_76 : decode cX4_inserts 76 = .ok (.iload 6, 2) := by decide +kernel
theorem dX4_inserts_78 : decode cX4_inserts 78 = .ok (.iadd, 1) := by decide +kernel
theorem dX4_inserts_79 : decode cX4_inserts 79 = .ok (.istore 7, 2) := by decide +kernel
theorem dX4_inserts_81 : decode cX4_inserts 81 = .ok (.aload_n 0, 1) := by decide +kernel
theorem dX4_inserts_82 : decode cX4_inserts 82 = .ok (.iload 5, 2) := by decide +kernel
theorem dX4_inserts_84 : decode cX4_inserts 84 = .ok (.iload 6, 2) := by decide +kernel
theorem dX4_inserts_86 : decode cX4_inserts 86 = .ok (.iload 4, 2) := by decide +kernel
theorem dX4_inserts_88 : decode cX4_inserts 88 = .ok (.iload 7, 2) := by decide +kernel
theorem dX4_inserts_90 : decode cX4_inserts 90 = .ok (.invokevirtual 79, 3) := by decide +kernel
theorem dX4_inserts_93 : decode cX4_inserts 93 = .ok (.aload_n 0, 1) := by decide +kernel
theorem dX4_inserts_94 : decode cX4_inserts 94 = .ok (.iload 7, 2) := by decide +kernel
theorem dX4_inserts_96 : decode cX4_inserts 96 = .ok (.iload 7, 2) := by decide +kernel
theorem dX4_inserts_98 : decode cX4_inserts 98 = .ok (.iload_n 1, 1) := by decide +kernel
theorem dX4_inserts_99 : decode cX4_inserts 99 = .ok (.iload_n 2, 1) := by decide +kernel
theorem dX4_inserts_100 : decode cX4_inserts 100 = .ok (.iload_n 3, 1) := by decide +kernel
theorem dX4_inserts_101 : decode cX4_inserts 101 = .ok (.invokevirtual 83, 3) := by decide +kernel
theorem dX4_inserts_104 : decode cX4_inserts 104 = .ok (.iload 7, 2) := by decide +kernel
theorem dX4_inserts_106 : decode cX4_inserts 106 = .ok (.ireturn, 1) := by decide +kernel
theorem dX4_fits_0 : decode cX4_fits 0 = .ok (.aload_n 0, 1) := by decide +kernel
theorem dX4_fits_1 : decode cX4_fits 1 = .ok (.iload_n 1, 1) := by decide +kernel
theorem dX4_fits_2 : decode cX4_fits 2 = .ok (.invokevirtual 48, 3) := by decide +kernel
theorem dX4_fits_5 : decode cX4_fits 5 = .ok (.aload_n 0, 1) := by decide +kernel
theorem dX4_fits_6 : decode cX4_fits 6 = .ok (.iload_n 1, 1) := by decide +kernel
theorem dX4_fits_7 : decode cX4_fits 7 = .ok (.iload_n 2, 1) := by decide +kernel
theorem dX4_fits_8 : decode cX4_fits 8 = .ok (.invokevirtual 27, 3) := by decide +kernel
theorem dX4_fits_11 : decode cX4_fits 11 = .ok (.iadd, 1) := by decide +kernel
theorem dX4_fits_12 : decode cX4_fits 12 = .ok (.iload_n 3, 1) := by decide +kernel
theorem dX4_fits_13 : decode cX4_fits 13 = .ok (.if_icmp .lt 7, 3) := by decide +kernel
theorem dX4_fits_16 : decode cX4_fits 16 = .ok (.iconst 1, 1) := by decide +kernel
theorem dX4_fits_17 : decode cX4_fits 17 = .ok (.goto 4, 3) := by decide +kernel
theorem dX4_fits_20 : decode cX4_fits 20 = .ok (.iconst 0, 1) := by decide +kernel
theorem dX4_fits_21 : decode cX4_fits 21 = .ok (.ireturn, 1) := by decide +kernel
theorem dX4_updates_0 : decode cX4_updates 0 = .ok (.iload_n 2, 1) := by decide +kernel
theorem dX4_updates_1 : decode cX4_updates 1 = .ok (.invokestatic 55, 3) := by decide +kernel
theorem dX4_updates_4 : decode cX4_updates 4 = .ok (.aload_n 0, 1) := by decide +kernel
theorem dX4_updates_5 : decode cX4_updates 5 = .ok (.invokevirtual 58, 3) := by decide +kernel
theorem dX4_updates_8 : decode cX4_updates 8 = .ok (.if_icmp .le 5, 3) := by decide +kernel
theorem dX4_updates_11 : decode cX4_updates 11 = .ok (.iconst 0, 1) := by decide +kernel
theorem dX4_updates_12 : decode cX4_updates 12 = .ok (.ireturn, 1) := by decide +kernel
theorem dX4_updates_13 : decode cX4_updates 13 = .ok (.aload_n 0, 1) := by decide +kernel
theorem dX4_updates_14 : decode cX4_updates 14 = .ok (.iload_n 2, 1) := by decide +kernel
theorem dX4_updates_15 : decode cX4_updates 15 = .ok (.invokevirtual 61, 3) := by decide +kernel
theorem dX4_updates_18 : decode cX4_updates 18 = .ok (.istore 4, 2) := by decide +kernel
theorem dX4_updates_20 : decode cX4_updates 20 = .ok (.aload_n 0, 1) := by decide +kernel
theorem dX4_updates_21 : decode cX4_updates 21 = .ok (.getfield 7, 3) := by decide +kernel
theorem dX4_updates_24 : decode cX4_updates 24 = .ok (.sipush 15744, 3) := by decide +kernel
theorem dX4_updates_27 : decode cX4_updates 27 = .ok (.iload_n 1, 1) := by decide +kernel
theorem dX4_updates_28 : decode cX4_updates 28 = .ok (.iadd, 1) := by decide +kernel
theorem dX4_updates_29 : decode cX4_updates 29 = .ok (.iaload, 1) := by decide +kernel
theorem dX4_updates_30 : decode cX4_updates 30 = .ok (.istore 5, 2) := by decide +kernel
theorem dX4_updates_32 : decode cX4_updates 32 = .ok (.iload_n 1, 1) := by decide +kernel
theorem dX4_updates_33 : decode cX4_updates 33 = .ok (.bipush 32, 2) := by decide +kernel
theorem dX4_updates_35 : decode cX4_updates 35 = .ok (.idiv, 1) := by decide +kernel
theorem dX4_updates_36 : decode cX4_updates 36 = .ok (.istore 6, 2) := by decide +kernel
theorem dX4_updates_38 : decode cX4_updates 38 = .ok (.aload_n 0, 1) := by decide +kernel
theorem dX4_updates_39 : decode cX4_updates 39 = .ok (.getfield 7, 3) := by decide +kernel
theorem dX4_updates_42 : decode cX4_updates 42 = .ok (.sipush 6528, 3) := by decide +kernel
theorem dX4_updates_45 : decode cX4_updates 45 = .ok (.iload_n 1, 1) := by decide +kernel
theorem dX4_updates_46 : decode cX4_updates 46 = .ok (.iadd, 1) := by decide +kernel
theorem dX4_updates_47 : decode cX4_updates 47 = .ok (.iaload, 1) := by decide +kernel
theorem dX4_updates_48 : decode cX4_updates 48 = .ok (.istore 7, 2) := by decide +kernel
theorem dX4_updates_50 : decode cX4_updates 50 = .ok (.iload 7, 2) := by decide +kernel
theorem dX4_updates_52 : decode cX4_updates 52 = .ok (.bipush 32, 2) := by decide +kernel
theorem dX4_updates_54 : decode cX4_updates 54 = .ok (.idiv, 1) := by decide +kernel
theorem dX4_updates_55 : decode cX4_updates 55 = .ok (.istore 8, 2) := by decide +kernel
theorem dX4_updates_57 : decode cX4_updates 57 = .ok (.iload 7, 2) := by decide +kernel
theorem dX4_updates_59 : decode cX4_updates 59 = .ok (.iload_n 1, 1) := by decide +kernel
theorem dX4_updates_60 : decode cX4_updates 60 = .ok (.if_icmp .eq 7, 3) := by decide +kernel
theorem dX4_updates_63 : decode cX4_updates 63 = .ok (.iconst 1, 1) := by decide +kernel
theorem dX4_updates_64 : decode cX4_updates 64 = .ok (.goto 4, 3) := by decide +kernel
theorem dX4_updates_67 : decode cX4_updates 67 = .ok (.iconst 0, 1) := by decide +kernel
theorem dX4_updates_68 : decode cX4_updates 68 = .ok (.istore 9, 2) := by decide +kernel
theorem dX4_updates_70 : decode cX4_updates 70 = .ok (.iload_n 2, 1) := by decide +kernel
theorem dX4_updates_71 : decode cX4_updates 71 = .ok (.iconst 0, 1) := by decide +kernel
theorem dX4_updates_72 : decode cX4_updates 72 = .ok (.invokestatic 64, 3) := by decide +kernel
theorem dX4_updates_75 : decode cX4_updates 75 = .ok (.istore 10, 2) := by decide +kernel
theorem dX4_updates_77 : decode cX4_updates 77 = .ok (.iload_n 2, 1) := by decide +kernel
theorem dX4_updates_78 : decode cX4_updates 78 = .ok (.iconst 1, 1) := by decide +kernel
theorem dX4_updates_79 : decode cX4_updates 79 = .ok (.invokestatic 64, 3) := by decide +kernel
theorem dX4_updates_82 : decode cX4_updates 82 = .ok (.istore 11, 2) := by decide +kernel
theorem dX4_updates_84 : decode cX4_updates 84 = .ok (.aload_n 0, 1) := by decide +kernel
theorem dX4_updates_85 : decode cX4_updates 85 = .ok (.iload 6, 2) := by decide +kernel
theorem dX4_updates_87 : decode cX4_updates 87 = .ok (.iload_n 1, 1) := by decide +kernel
theorem dX4_updates_88 : decode cX4_updates 88 = .ok (.bipush 32, 2) := by decide +kernel
theorem dX4_updates_90 : decode cX4_updates 90 = .ok (.irem, 1) := by decide +kernel
theorem dX4_updates_91 : decode cX4_updates 91 = .ok (.iload 10, 2) := by decide +kernel
theorem dX4_updates_93 : decode cX4_updates 93 = .ok (.invokevirtual 87, 3) := by decide +kernel
theorem dX4_updates_96 : decode cX4_updates 96 = .ok (.ifCond .eq 45, 3) := by decide +kernel
theorem dX4_updates_99 : decode cX4_updates 99 = .ok (.aload_n 0, 1) := by decide +kernel
theorem dX4_updates_100 : decode cX4_updates 100 = .ok (.iload 6, 2) := by decide +kernel
theorem dX4_updates_102 : decode cX4_updates 102 = .ok (.iload_n 1, 1) := by decide +kernel
theorem dX4_updates_103 : decode cX4_updates 103 = .ok (.bipush 32, 2) := by decide +kernel
theorem dX4_updates_105 : decode cX4_updates 105 = .ok (.irem, 1) := by decide +kernel
theorem dX4_updates_106 : decode cX4_updates 106 = .ok (.iload 10, 2) := by decide +kernel
theorem dX4_updates_108 : decode cX4_updates 108 = .ok (.iload_n 1, 1) := by decide +kernel
theorem dX4_updates_109 : decode cX4_updates 109 = .ok (.invokevirtual 79, 3) := by decide +kernel
theorem dX4_updates_112 : decode cX4_updates 112 = .ok (.iload 9, 2) := by decide +kernel
theorem dX4_updates_114 : decode cX4_updates 114 = .ok (.ifCond .eq 14, 3) := by decide +kernel
theorem dX4_updates_117 : decode cX4_updates 117 = .ok (.aload_n 0, 1) := by decide +kernel
theorem dX4_updates_118 : decode cX4_updates 118 = .ok (.iload 8, 2) := by decide +kernel
theorem dX4_updates_120 : decode cX4_updates 120 = .ok (.iload 7, 2) := by decide +kernel
theorem dX4_updates_122 : decode cX4_updates 122 = .ok (.bipush 32, 2) := by decide +kernel
theorem dX4_updates_124 : decode cX4_updates 124 = .ok (.irem, 1) := by decide +kernel
theorem dX4_updates_125 : decode cX4_updates 125 = .ok (.invokevirtual 91, 3) := by decide +kernel
theorem dX4_updates_128 : decode cX4_updates 128 = .ok (.aload_n 0, 1) := by decide +kernel
theorem dX4_updates_129 : decode cX4_updates 129 = .ok (.iload_n 1, 1) := by decide +kernel
theorem dX4_updates_130 : decode cX4_updates 130 = .ok (.iload_n 1, 1) := by decide +kernel
theorem dX4_updates_131 : decode cX4_updates 131 = .ok (.iload_n 2, 1) := by decide +kernel
theorem dX4_updates_132 : decode cX4_updates 132 = .ok (.iload_n 3, 1) := by decide +kernel
theorem dX4_updates_133 : decode cX4_updates 133 = .ok (.iload 4, 2) := by decide +kernel
theorem dX4_updates_135 : decode cX4_updates 135 = .ok (.invokevirtual 83, 3) := by decide +kernel
theorem dX4_updates_138 : decode cX4_updates 138 = .ok (.goto 159, 3) := by decide +kernel
theorem dX4_updates_141 : decode cX4_updates 141 = .ok (.iload 9, 2) := by decide +kernel
theorem dX4_updates_143 : decode cX4_updates 143 = .ok (.ifCond .eq 47, 3) := by decide +kernel
theorem dX4_updates_146 : decode cX4_updates 146 = .ok (.aload_n 0, 1) := by decide +kernel
theorem dX4_updates_147 : decode cX4_updates 147 = .ok (.iload 8, 2) := by decide +kernel
theorem dX4_updates_149 : decode cX4_updates 149 = .ok (.iload 7, 2) := by decide +kernel
theorem dX4_updates_151 : decode cX4_updates 151 = .ok (.bipush 32, 2) := by decide +kernel
theorem dX4_updates_153 : decode cX4_updates 153 = .ok (.irem, 1) := by decide +kernel
theorem dX4_updates_154 : decode cX4_updates 154 = .ok (.iload 11, 2) := by decide +kernel
theorem dX4_updates_156 : decode cX4_updates 156 = .ok (.invokevirtual 87, 3) := by decide +kernel
theorem dX4_updates_159 : decode cX4_updates 159 = .ok (.ifCond .eq 31, 3) := by decide +kernel
theorem dX4_updates_162 : decode cX4_updates 162 = .ok (.aload_n 0, 1) := by decide +kernel
theorem dX4_updates_163 : decode cX4_updates 163 = .ok (.iload 8, 2) := by decide +kernel
theorem dX4_updates_165 : decode cX4_updates 165 = .ok (.iload 7, 2) := by decide +kernel
theorem dX4_updates_167 : decode cX4_updates 167 = .ok (.bipush 32, 2) := by decide +kernel
theorem dX4_updates_169 : decode cX4_updates 169 = .ok (.irem, 1) := by decide +kernel
theorem dX4_updates_170 : decode cX4_updates 170 = .ok (.iload 11, 2) := by decide +kernel
theorem dX4_updates_172 : decode cX4_updates 172 = .ok (.iload_n 1, 1) := by decide +kernel
theorem dX4_updates_173 : decode cX4_updates 173 = .ok (.invokevirtual 79, 3) := by decide +kernel
theorem dX4_updates_176 : decode cX4_updates 176 = .ok (.aload_n 0, 1) := by decide +kernel
theorem dX4_updates_177 : decode cX4_updates 177 = .ok (.iload_n 1, 1) := by decide +kernel
theorem dX4_updates_178 : decode cX4_updates 178 = .ok (.iload 7, 2) := by decide +kernel
theorem dX4_updates_180 : decode cX4_updates 180 = .ok (.iload_n 2, 1) := by decide +kernel
theorem dX4_updates_181 : decode cX4_updates 181 = .ok (.iload_n 3, 1) := by decide +kernel
theorem dX4_updates_182 : decode cX4_updates 182 = .ok (.iload 4, 2) := by decide +kernel
theorem dX4_updates_184 : decode cX4_updates 184 = .ok (.invokevirtual 83, 3) := by decide +kernel
theorem dX4_updates_187 : decode cX4_updates 187 = .ok (.goto 110, 3) := by decide +kernel
theorem dX4_updates_190 : decode cX4_updates 190 = .ok (.aload_n 0, 1) := by decide +kernel
theorem dX4_updates_191 : decode cX4_updates 191 = .ok (.iload 11, 2) := by decide +kernel
theorem dX4_updates_193 : decode cX4_updates 193 = .ok (.iload 6, 2) := by decide +kernel
theorem dX4_updates_195 : decode cX4_updates 195 = .ok (.iload 8, 2) := by decide +kernel
theorem dX4_updates_197 : decode cX4_updates 197 = .ok (.invokevirtual 68, 3) := by decide +kernel
theorem dX4_updates_200 : decode cX4_updates 200 = .ok (.istore 12, 2) := by decide +kernel
theorem dX4_updates_202 : decode cX4_updates 202 = .ok (.iload 12, 2) := by decide +kernel
theorem dX4_updates_204 : decode cX4_updates 204 = .ok (.iconst (-1), 1) := by decide +kernel
theorem dX4_updates_205 : decode cX4_updates 205 = .ok (.if_icmp .ne 11, 3) := by decide +kernel
theorem dX4_updates_208 : decode cX4_updates 208 = .ok (.aload_n 0, 1) := by decide +kernel
theorem dX4_updates_209 : decode cX4_updates 209 = .ok (.iload 4, 2) := by decide +kernel
theorem dX4_updates_211 : decode cX4_updates 211 = .ok (.invokevirtual 72, 3) := by decide +kernel
theorem dX4_updates_214 : decode cX4_updates 214 = .ok (.iconst 0, 1) := by decide +kernel
theorem dX4_updates_215 : decode cX4_updates 215 = .ok (.ireturn, 1) := by decide +kernel
theorem dX4_updates_216 : decode cX4_updates 216 = .ok (.aload_n 0, 1) := by decide +kernel
theorem dX4_updates_217 : decode cX4_updates 217 = .ok (.getfield 7, 3) := by decide +kernel
theorem dX4_updates_220 : decode cX4_updates 220 = .ok (.iload 12, 2) := by decide +kernel
theorem dX4_updates_222 : decode cX4_updates 222 = .ok (.iaload, 1) := by decide +kernel
theorem dX4_updates_223 : decode cX4_updates 223 = .ok (.ifCond .ne 7, 3) := by decide +kernel
theorem dX4_updates_226 : decode cX4_updates 226 = .ok (.iconst 0, 1) := by decide +kernel
theorem dX4_updates_227 : decode cX4_updates 227 = .ok (.goto 9, 3) := by decide +kernel
theorem dX4_updates_230 : decode cX4_updates 230 = .ok (.aload_n 0, 1) := by decide +kernel
theorem dX4_updates_231 : decode cX4_updates 231 = .ok (.iload 12, 2) := by decide +kernel
theorem dX4_updates_233 : decode cX4_updates 233 = .ok (.invokevirtual 76, 3) := by decide +kernel
theorem dX4_updates_236 : decode cX4_updates 236 = .ok (.istore 13, 2) := by decide +kernel
theorem dX4_updates_238 : decode cX4_updates 238 = .ok (.aload_n 0, 1) := by decide +kernel
theorem dX4_updates_239 : decode cX4_updates 239 = .ok (.iload 12, 2) := by decide +kernel
theorem dX4_updates_241 : decode cX4_updates 241 = .ok (.iload 13, 2) := by decide +kernel
theorem dX4_updates_243 : decode cX4_updates 243 = .ok (.iload 11, 2) := by decide +kernel
theorem dX4_updates_245 : decode cX4_updates 245 = .ok (.iload_n 1, 1) := by decide +kernel
theorem dX4_updates_246 : decode cX4_updates 246 = .ok (.invokevirtual 79, 3) := by decide +kernel
theorem dX4_updates_249 : decode cX4_updates 249 = .ok (.iload 9, 2) := by decide +kernel
theorem dX4_updates_251 : decode cX4_updates 251 = .ok (.ifCond .eq 17, 3) := by decide +kernel
theorem dX4_updates_254 : decode cX4_updates 254 = .ok (.aload_n 0, 1) := by decide +kernel
theorem dX4_updates_255 : decode cX4_updates 255 = .ok (.iload 8, 2) := by decide +kernel
theorem dX4_updates_257 : decode cX4_updates 257 = .ok (.iload 7, 2) := by decide +kernel
theorem dX4_updates_259 : decode cX4_updates 259 = .ok (.bipush 32, 2) := by decide +kernel
theorem dX4_updates_261 : decode cX4_updates 261 = .ok (.irem, 1) := by decide +kernel
theorem dX4_updates_262 : decode cX4_updates 262 = .ok (.invokevirtual 91, 3) := by decide +kernel
theorem dX4_updates_265 : decode cX4_updates 265 = .ok (.goto 15, 3) := by decide +kernel
theorem dX4_updates_268 : decode cX4_updates 268 = .ok (.aload_n 0, 1) := by decide +kernel
theorem dX4_updates_269 : decode cX4_updates 269 = .ok (.iload 6, 2) := by decide +kernel
theorem dX4_updates_271 : decode cX4_updates 271 = .ok (.iload_n 1, 1) := by decide +kernel
theorem dX4_updates_272 : decode cX4_updates 272 = .ok (.bipush 32, 2) := by decide +kernel
theorem dX4_updates_274 : decode cX4_updates 274 = .ok (.irem, 1) := by decide +kernel
theorem dX4_updates_275 : decode cX4_updates 275 = .ok (.iconst 5, 1) := by decide +kernel
theorem dX4_updates_276 : decode cX4_updates 276 = .ok (.iload_n 1, 1) := by decide +kernel
theorem dX4_updates_277 : decode cX4_updates 277 = .ok (.invokevirtual 79, 3) := by decide +kernel
theorem dX4_updates_280 : decode cX4_updates 280 = .ok (.aload_n 0, 1) := by decide +kernel
theorem dX4_updates_281 : decode cX4_updates 281 = .ok (.iload_n 1, 1) := by decide +kernel
theorem dX4_updates_282 : decode cX4_updates 282 = .ok (.bipush 32, 2) := by decide +kernel
theorem dX4_updates_284 : decode cX4_updates 284 = .ok (.iload 12, 2) := by decide +kernel
theorem dX4_updates_286 : decode cX4_updates 286 = .ok (.imul, 1) := by decide +kernel
theorem dX4_updates_287 : decode cX4_updates 287 = .ok (.iload 13, 2) := by decide +kernel
theorem dX4_updates_289 : decode cX4_updates 289 = .ok (.iadd, 1) := by decide +kernel
theorem dX4_updates_290 : decode cX4_updates 290 = .ok (.iload_n 2, 1) := by decide +kernel
theorem dX4_updates_291 : decode cX4_updates 291 = .ok (.iload_n 3, 1) := by decide +kernel
theorem dX4_updates_292 : decode cX4_updates 292 = .ok (.iload 4, 2) := by decide +kernel
theorem dX4_updates_294 : decode cX4_updates 294 = .ok (.invokevirtual 83, 3) := by decide +kernel
theorem dX4_updates_297 : decode cX4_updates 297 = .ok (.aload_n 0, 1) := by decide +kernel
theorem dX4_updates_298 : decode cX4_updates 298 = .ok (.iload 5, 2) := by decide +kernel
theorem dX4_updates_300 : decode cX4_updates 300 = .ok (.invokevirtual 72, 3) := by decide +kernel
theorem dX4_updates_303 : decode cX4_updates 303 = .ok (.iconst 1, 1) := by decide +kernel
theorem dX4_updates_304 : decode cX4_updates 304 = .ok (.ireturn, 1) := by decide +kernel
theorem dX4_deletes_0 : decode cX4_deletes 0 = .ok (.aload_n 0, 1) := by decide +kernel
theorem dX4_deletes_1 : decode cX4_deletes 1 = .ok (.getfield 7, 3) := by decide +kernel
theorem dX4_deletes_4 : decode cX4_deletes 4 = .ok (.sipush 6528, 3) := by decide +kernel
theorem dX4_deletes_7 : decode cX4_deletes 7 = .ok (.iload_n 1, 1) := by decide +kernel
theorem dX4_deletes_8 : decode cX4_deletes 8 = .ok (.iadd, 1) := by decide +kernel
theorem dX4_deletes_9 : decode cX4_deletes 9 = .ok (.iaload, 1) := by decide +kernel
theorem dX4_deletes_10 : decode cX4_deletes 10 = .ok (.istore_n 2, 1) := by decide +kernel
theorem dX4_deletes_11 : decode cX4_deletes 11 = .ok (.aload_n 0, 1) := by decide +kernel
theorem dX4_deletes_12 : decode cX4_deletes 12 = .ok (.iload_n 2, 1) := by decide +kernel
theorem dX4_deletes_13 : decode cX4_deletes 13 = .ok (.bipush 32, 2) := by decide +kernel
theorem dX4_deletes_15 : decode cX4_deletes 15 = .ok (.idiv, 1) := by decide +kernel
theorem dX4_deletes_16 : decode cX4_deletes 16 = .ok (.iload_n 2, 1) := by decide +kernel
theorem dX4_deletes_17 : decode cX4_deletes 17 = .ok (.bipush 32, 2) := by decide +kernel
theorem dX4_deletes_19 : decode cX4_deletes 19 = .ok (.irem, 1) := by decide +kernel
theorem dX4_deletes_20 : decode cX4_deletes 20 = .ok (.invokevirtual 91, 3) := by decide +kernel
theorem dX4_deletes_23 : decode cX4_deletes 23 = .ok (.iload_n 2, 1) := by decide +kernel
theorem dX4_deletes_24 : decode cX4_deletes 24 = .ok (.iload_n 1, 1) := by decide +kernel
theorem dX4_deletes_25 : decode cX4_deletes 25 = .ok (.if_icmp .eq 15, 3) := by decide +kernel
theorem dX4_deletes_28 : decode cX4_deletes 28 = .ok (.aload_n 0, 1) := by decide +kernel
theorem dX4_deletes_29 : decode cX4_deletes 29 = .ok (.iload_n 1, 1) := by decide +kernel
theorem dX4_deletes_30 : decode cX4_deletes 30 = .ok (.bipush 32, 2) := by decide +kernel
theorem dX4_deletes_32 : decode cX4_deletes 32 = .ok (.idiv, 1) := by decide +kernel
theorem dX4_deletes_33 : decode cX4_deletes 33 = .ok (.iload_n 1, 1) := by decide +kernel
theorem dX4_deletes_34 : decode cX4_deletes 34 = .ok (.bipush 32, 2) := by decide +kernel
theorem dX4_deletes_36 : decode cX4_deletes 36 = .ok (.irem, 1) := by decide +kernel
theorem dX4_deletes_37 : decode cX4_deletes 37 = .ok (.invokevirtual 91, 3) := by decide +kernel
theorem dX4_deletes_40 : decode cX4_deletes 40 = .ok (.aload_n 0, 1) := by decide +kernel
theorem dX4_deletes_41 : decode cX4_deletes 41 = .ok (.aload_n 0, 1) := by decide +kernel
theorem dX4_deletes_42 : decode cX4_deletes 42 = .ok (.getfield 7, 3) := by decide +kernel
theorem dX4_deletes_45 : decode cX4_deletes 45 = .ok (.sipush 15744, 3) := by decide +kernel
theorem dX4_deletes_48 : decode cX4_deletes 48 = .ok (.iload_n 1, 1) := by decide +kernel
theorem dX4_deletes_49 : decode cX4_deletes 49 = .ok (.iadd, 1) := by decide +kernel
theorem dX4_deletes_50 : decode cX4_deletes 50 = .ok (.iaload, 1) := by decide +kernel
theorem dX4_deletes_51 : decode cX4_deletes 51 = .ok (.invokevirtual 72, 3) := by decide +kernel
theorem dX4_deletes_54 : decode cX4_deletes 54 = .ok (.aload_n 0, 1) := by decide +kernel
theorem dX4_deletes_55 : decode cX4_deletes 55 = .ok (.getfield 7, 3) := by decide +kernel
theorem dX4_deletes_58 : decode cX4_deletes 58 = .ok (.sipush 6528, 3) := by decide +kernel
theorem dX4_deletes_61 : decode cX4_deletes 61 = .ok (.iload_n 1, 1) := by decide +kernel
theorem dX4_deletes_62 : decode cX4_deletes 62 = .ok (.iadd, 1) := by decide +kernel
theorem dX4_deletes_63 : decode cX4_deletes 63 = .ok (.iconst (-1), 1) := by decide +kernel
theorem dX4_deletes_64 : decode cX4_deletes 64 = .ok (.iastore, 1) := by decide +kernel
theorem dX4_deletes_65 : decode cX4_deletes 65 = .ok (.aload_n 0, 1) := by decide +kernel
theorem dX4_deletes_66 : decode cX4_deletes 66 = .ok (.getfield 7, 3) := by decide +kernel
theorem dX4_deletes_69 : decode cX4_deletes 69 = .ok (.sipush 15744, 3) := by decide +kernel
theorem dX4_deletes_72 : decode cX4_deletes 72 = .ok (.iload_n 1, 1) := by decide +kernel
theorem dX4_deletes_73 : decode cX4_deletes 73 = .ok (.iadd, 1) := by decide +kernel
theorem dX4_deletes_74 : decode cX4_deletes 74 = .ok (.iconst (-1), 1) := by decide +kernel
theorem dX4_deletes_75 : decode cX4_deletes 75 = .ok (.iastore, 1) := by decide +kernel
theorem dX4_deletes_76 : decode cX4_deletes 76 = .ok (.return_, 1) := by decide +kernel
theorem dX4_note_0 : decode cX4_note 0 = .ok (.iconst 4, 1) := by decide +kernel
theorem dX4_note_1 : decode cX4_note 1 = .ok (.aload_n 0, 1) := by decide +kernel
theorem dX4_note_2 : decode cX4_note 2 = .ok (.getfield 95, 3) := by decide +kernel
theorem dX4_note_5 : decode cX4_note 5 = .ok (.imul, 1) := by decide +kernel
theorem dX4_note_6 : decode cX4_note 6 = .ok (.istore 5, 2) := by decide +kernel
theorem dX4_note_8 : decode cX4_note 8 = .ok (.aload_n 0, 1) := by decide +kernel
theorem dX4_note_9 : decode cX4_note 9 = .ok (.getfield 16, 3) := by decide +kernel
theorem dX4_note_12 : decode cX4_note 12 = .ok (.iload 5, 2) := by decide +kernel
theorem dX4_note_14 : decode cX4_note 14 = .ok (.iload_n 1, 1) := by decide +kernel
theorem dX4_note_15 : decode cX4_note 15 = .ok (.iastore, 1) := by decide +kernel
theorem dX4_note_16 : decode cX4_note 16 = .ok (.aload_n 0, 1) := by decide +kernel
theorem dX4_note_17 : decode cX4_note 17 = .ok (.getfield 16, 3) := by decide +kernel
theorem dX4_note_20 : decode cX4_note 20 = .ok (.iload 5, 2) := by decide +kernel
theorem dX4_note_22 : decode cX4_note 22 = .ok (.iconst 1, 1) := by decide +kernel
theorem dX4_note_23 : decode cX4_note 23 = .ok (.iadd, 1) := by decide +kernel
theorem dX4_note_24 : decode cX4_note 24 = .ok (.iload_n 2, 1) := by decide +kernel
theorem dX4_note_25 : decode cX4_note 25 = .ok (.iastore, 1) := by decide +kernel
theorem dX4_note_26 : decode cX4_note 26 = .ok (.aload_n 0, 1) := by decide +kernel
theorem dX4_note_27 : decode cX4_note 27 = .ok (.getfield 16, 3) := by decide +kernel
theorem dX4_note_30 : decode cX4_note 30 = .ok (.iload 5, 2) := by decide +kernel
theorem dX4_note_32 : decode cX4_note 32 = .ok (.iconst 2, 1) := by decide +kernel
theorem dX4_note_33 : decode cX4_note 33 = .ok (.iadd, 1) := by decide +kernel
theorem dX4_note_34 : decode cX4_note 34 = .ok (.iload_n 3, 1) := by decide +kernel
theorem dX4_note_35 : decode cX4_note 35 = .ok (.iastore, 1) := by decide +kernel
theorem dX4_note_36 : decode cX4_note 36 = .ok (.aload_n 0, 1) := by decide +kernel
theorem dX4_note_37 : decode cX4_note 37 = .ok (.getfield 16, 3) := by decide +kernel
theorem dX4_note_40 : decode cX4_note 40 = .ok (.iload 5, 2) := by decide +kernel
theorem dX4_note_42 : decode cX4_note 42 = .ok (.iconst 3, 1) := by decide +kernel
theorem dX4_note_43 : decode cX4_note 43 = .ok (.iadd, 1) := by decide +kernel
theorem dX4_note_44 : decode cX4_note 44 = .ok (.iload 4, 2) := by decide +kernel
theorem dX4_note_46 : decode cX4_note 46 = .ok (.iastore, 1) := by decide +kernel
theorem dX4_note_47 : decode cX4_note 47 = .ok (.aload_n 0, 1) := by decide +kernel
theorem dX4_note_48 : decode cX4_note 48 = .ok (.dup, 1) := by decide +kernel
theorem dX4_note_49 : decode cX4_note 49 = .ok (.getfield 95, 3) := by decide +kernel
theorem dX4_note_52 : decode cX4_note 52 = .ok (.iconst 1, 1) := by decide +kernel
theorem dX4_note_53 : decode cX4_note 53 = .ok (.iadd, 1) := by decide +kernel
theorem dX4_note_54 : decode cX4_note 54 = .ok (.putfield 95, 3) := by decide +kernel
theorem dX4_note_57 : decode cX4_note 57 = .ok (.return_, 1) := by decide +kernel
theorem dX4_isValue_0 : decode cX4_isValue 0 = .ok (.iload_n 0, 1) := by decide +kernel
theorem dX4_isValue_1 : decode cX4_isValue 1 = .ok (.ifCond .lt 25, 3) := by decide +kernel
theorem dX4_isValue_4 : decode cX4_isValue 4 = .ok (.iload_n 0, 1) := by decide +kernel
theorem dX4_isValue_5 : decode cX4_isValue 5 = .ok (.sipush 1200, 3) := by decide +kernel
theorem dX4_isValue_8 : decode cX4_isValue 8 = .ok (.if_icmp .gt 18, 3) := by decide +kernel
theorem dX4_isValue_11 : decode cX4_isValue 11 = .ok (.iload_n 1, 1) := by decide +kernel
theorem dX4_isValue_12 : decode cX4_isValue 12 = .ok (.ifCond .lt 14, 3) := by decide +kernel
theorem dX4_isValue_15 : decode cX4_isValue 15 = .ok (.iload_n 1, 1) := by decide +kernel
theorem dX4_isValue_16 : decode cX4_isValue 16 = .ok (.sipush 255, 3) := by decide +kernel
theorem dX4_isValue_19 : decode cX4_isValue 19 = .ok (.if_icmp .gt 7, 3) := by decide +kernel
theorem dX4_isValue_22 : decode cX4_isValue 22 = .ok (.iconst 1, 1) := by decide +kernel
theorem dX4_isValue_23 : decode cX4_isValue 23 = .ok (.goto 4, 3) := by decide +kernel
theorem dX4_isValue_26 : decode cX4_isValue 26 = .ok (.iconst 0, 1) := by decide +kernel
theorem dX4_isValue_27 : decode cX4_isValue 27 = .ok (.ireturn, 1) := by decide +kernel
theorem dX4_insert_0 : decode cX4_insert 0 = .ok (.aload_n 0, 1) := by decide +kernel
theorem dX4_insert_1 : decode cX4_insert 1 = .ok (.iload_n 1, 1) := by decide +kernel
theorem dX4_insert_2 : decode cX4_insert 2 = .ok (.iload_n 2, 1) := by decide +kernel
theorem dX4_insert_3 : decode cX4_insert 3 = .ok (.invokestatic 98, 3) := by decide +kernel
theorem dX4_insert_6 : decode cX4_insert 6 = .ok (.ifCond .ne 7, 3) := by decide +kernel
theorem dX4_insert_9 : decode cX4_insert 9 = .ok (.iconst 1, 1) := by decide +kernel
theorem dX4_insert_10 : decode cX4_insert 10 = .ok (.goto 4, 3) := by decide +kernel
theorem dX4_insert_13 : decode cX4_insert 13 = .ok (.iconst 0, 1) := by decide +kernel
theorem dX4_insert_14 : decode cX4_insert 14 = .ok (.iconst 1, 1) := by decide +kernel
theorem dX4_insert_15 : decode cX4_insert 15 = .ok (.invokevirtual 102, 3) := by decide +kernel
theorem dX4_insert_18 : decode cX4_insert 18 = .ok (.ifCond .eq 5, 3) := by decide +kernel
theorem dX4_insert_21 : decode cX4_insert 21 = .ok (.iconst 0, 1) := by decide +kernel
theorem dX4_insert_22 : decode cX4_insert 22 = .ok (.ireturn, 1) := by decide +kernel
theorem dX4_insert_23 : decode cX4_insert 23 = .ok (.aload_n 0, 1) := by decide +kernel
theorem dX4_insert_24 : decode cX4_insert 24 = .ok (.iload_n 1, 1) := by decide +kernel
theorem dX4_insert_25 : decode cX4_insert 25 = .ok (.iload_n 2, 1) := by decide +kernel
theorem dX4_insert_26 : decode cX4_insert 26 = .ok (.invokevirtual 106, 3) := by decide +kernel
theorem dX4_insert_29 : decode cX4_insert 29 = .ok (.istore_n 3, 1) := by decide +kernel
theorem dX4_insert_30 : decode cX4_insert 30 = .ok (.iload_n 3, 1) := by decide +kernel
theorem dX4_insert_31 : decode cX4_insert 31 = .ok (.iconst (-1), 1) := by decide +kernel
theorem dX4_insert_32 : decode cX4_insert 32 = .ok (.if_icmp .eq 11, 3) := by decide +kernel
theorem dX4_insert_35 : decode cX4_insert 35 = .ok (.aload_n 0, 1) := by decide +kernel
theorem dX4_insert_36 : decode cX4_insert 36 = .ok (.iconst 0, 1) := by decide +kernel
theorem dX4_insert_37 : decode cX4_insert 37 = .ok (.iload_n 3, 1) := by decide +kernel
theorem dX4_insert_38 : decode cX4_insert 38 = .ok (.iload_n 1, 1) := by decide +kernel
theorem dX4_insert_39 : decode cX4_insert 39 = .ok (.iload_n 2, 1) := by decide +kernel
theorem dX4_insert_40 : decode cX4_insert 40 = .ok (.invokevirtual 109, 3) := by decide +kernel
theorem dX4_insert_43 : decode cX4_insert 43 = .ok (.iload_n 3, 1) := by decide +kernel
theorem dX4_insert_44 : decode cX4_insert 44 = .ok (.ireturn, 1) := by decide +kernel
theorem dX4_update_0 : decode cX4_update 0 = .ok (.aload_n 0, 1) := by decide +kernel
theorem dX4_update_1 : decode cX4_update 1 = .ok (.aload_n 0, 1) := by decide +kernel
theorem dX4_update_2 : decode cX4_update 2 = .ok (.iload_n 1, 1) := by decide +kernel
theorem dX4_update_3 : decode cX4_update 3 = .ok (.invokevirtual 112, 3) := by decide +kernel
theorem dX4_update_6 : decode cX4_update 6 = .ok (.ifCond .ne 7, 3) := by decide +kernel
theorem dX4_update_9 : decode cX4_update 9 = .ok (.iconst 1, 1) := by decide +kernel
theorem dX4_update_10 : decode cX4_update 10 = .ok (.goto 4, 3) := by decide +kernel
theorem dX4_update_13 : decode cX4_update 13 = .ok (.iconst 0, 1) := by decide +kernel
theorem dX4_update_14 : decode cX4_update 14 = .ok (.iconst 1, 1) := by decide +kernel
theorem dX4_update_15 : decode cX4_update 15 = .ok (.invokevirtual 102, 3) := by decide +kernel
theorem dX4_update_18 : decode cX4_update 18 = .ok (.ifCond .ne 24, 3) := by decide +kernel
theorem dX4_update_21 : decode cX4_update 21 = .ok (.aload_n 0, 1) := by decide +kernel
theorem dX4_update_22 : decode cX4_update 22 = .ok (.iload_n 2, 1) := by decide +kernel
theorem dX4_update_23 : decode cX4_update 23 = .ok (.iload_n 3, 1) := by decide +kernel
theorem dX4_update_24 : decode cX4_update 24 = .ok (.invokestatic 98, 3) := by decide +kernel
theorem dX4_update_27 : decode cX4_update 27 = .ok (.ifCond .ne 7, 3) := by decide +kernel
theorem dX4_update_30 : decode cX4_update 30 = .ok (.iconst 1, 1) := by decide +kernel
theorem dX4_update_31 : decode cX4_update 31 = .ok (.goto 4, 3) := by decide +kernel
theorem dX4_update_34 : decode cX4_update 34 = .ok (.iconst 0, 1) := by decide +kernel
theorem dX4_update_35 : decode cX4_update 35 = .ok (.iconst 2, 1) := by decide +kernel
theorem dX4_update_36 : decode cX4_update 36 = .ok (.invokevirtual 102, 3) := by decide +kernel
theorem dX4_update_39 : decode cX4_update 39 = .ok (.ifCond .eq 5, 3) := by decide +kernel
theorem dX4_update_42 : decode cX4_update 42 = .ok (.iconst 0, 1) := by decide +kernel
theorem dX4_update_43 : decode cX4_update 43 = .ok (.ireturn, 1) := by decide +kernel
theorem dX4_update_44 : decode cX4_update 44 = .ok (.aload_n 0, 1) := by decide +kernel
theorem dX4_update_45 : decode cX4_update 45 = .ok (.iload_n 1, 1) := by decide +kernel
theorem dX4_update_46 : decode cX4_update 46 = .ok (.iload_n 2, 1) := by decide +kernel
theorem dX4_update_47 : decode cX4_update 47 = .ok (.iload_n 3, 1) := by decide +kernel
theorem dX4_update_48 : decode cX4_update 48 = .ok (.invokevirtual 116, 3) := by decide +kernel
theorem dX4_update_51 : decode cX4_update 51 = .ok (.istore 4, 2) := by decide +kernel
theorem dX4_update_53 : decode cX4_update 53 = .ok (.iload 4, 2) := by decide +kernel
theorem dX4_update_55 : decode cX4_update 55 = .ok (.ifCond .eq 11, 3) := by decide +kernel
theorem dX4_update_58 : decode cX4_update 58 = .ok (.aload_n 0, 1) := by decide +kernel
theorem dX4_update_59 : decode cX4_update 59 = .ok (.iconst 1, 1) := by decide +kernel
theorem dX4_update_60 : decode cX4_update 60 = .ok (.iload_n 1, 1) := by decide +kernel
theorem dX4_update_61 : decode cX4_update 61 = .ok (.iload_n 2, 1) := by decide +kernel
theorem dX4_update_62 : decode cX4_update 62 = .ok (.iload_n 3, 1) := by decide +kernel
theorem dX4_update_63 : decode cX4_update 63 = .ok (.invokevirtual 109, 3) := by decide +kernel
theorem dX4_update_66 : decode cX4_update 66 = .ok (.iload 4, 2) := by decide +kernel
theorem dX4_update_68 : decode cX4_update 68 = .ok (.ireturn, 1) := by decide +kernel
theorem dX4_delete_0 : decode cX4_delete 0 = .ok (.aload_n 0, 1) := by decide +kernel
theorem dX4_delete_1 : decode cX4_delete 1 = .ok (.aload_n 0, 1) := by decide +kernel
theorem dX4_delete_2 : decode cX4_delete 2 = .ok (.iload_n 1, 1) := by decide +kernel
theorem dX4_delete_3 : decode cX4_delete 3 = .ok (.invokevirtual 112, 3) := by decide +kernel
theorem dX4_delete_6 : decode cX4_delete 6 = .ok (.ifCond .ne 7, 3) := by decide +kernel
theorem dX4_delete_9 : decode cX4_delete 9 = .ok (.iconst 1, 1) := by decide +kernel
theorem dX4_delete_10 : decode cX4_delete 10 = .ok (.goto 4, 3) := by decide +kernel
theorem dX4_delete_13 : decode cX4_delete 13 = .ok (.iconst 0, 1) := by decide +kernel
theorem dX4_delete_14 : decode cX4_delete 14 = .ok (.iconst 1, 1) := by decide +kernel
theorem dX4_delete_15 : decode cX4_delete 15 = .ok (.invokevirtual 102, 3) := by decide +kernel
theorem dX4_delete_18 : decode cX4_delete 18 = .ok (.ifCond .eq 5, 3) := by decide +kernel
theorem dX4_delete_21 : decode cX4_delete 21 = .ok (.iconst 0, 1) := by decide +kernel
theorem dX4_delete_22 : decode cX4_delete 22 = .ok (.ireturn, 1) := by decide +kernel
theorem dX4_delete_23 : decode cX4_delete 23 = .ok (.aload_n 0, 1) := by decide +kernel
theorem dX4_delete_24 : decode cX4_delete 24 = .ok (.getfield 7, 3) := by decide +kernel
theorem dX4_delete_27 : decode cX4_delete 27 = .ok (.sipush 9600, 3) := by decide +kernel
theorem dX4_delete_30 : decode cX4_delete 30 = .ok (.iload_n 1, 1) := by decide +kernel
theorem dX4_delete_31 : decode cX4_delete 31 = .ok (.iadd, 1) := by decide +kernel
theorem dX4_delete_32 : decode cX4_delete 32 = .ok (.iaload, 1) := by decide +kernel
theorem dX4_delete_33 : decode cX4_delete 33 = .ok (.istore_n 2, 1) := by decide +kernel
theorem dX4_delete_34 : decode cX4_delete 34 = .ok (.aload_n 0, 1) := by decide +kernel
theorem dX4_delete_35 : decode cX4_delete 35 = .ok (.iload_n 1, 1) := by decide +kernel
theorem dX4_delete_36 : decode cX4_delete 36 = .ok (.invokevirtual 119, 3) := by decide +kernel
theorem dX4_delete_39 : decode cX4_delete 39 = .ok (.aload_n 0, 1) := by decide +kernel
theorem dX4_delete_40 : decode cX4_delete 40 = .ok (.iconst 2, 1) := by decide +kernel
theorem dX4_delete_41 : decode cX4_delete 41 = .ok (.iload_n 1, 1) := by decide +kernel
theorem dX4_delete_42 : decode cX4_delete 42 = .ok (.iconst 0, 1) := by decide +kernel
theorem dX4_delete_43 : decode cX4_delete 43 = .ok (.iconst 0, 1) := by decide +kernel
theorem dX4_delete_44 : decode cX4_delete 44 = .ok (.invokevirtual 109, 3) := by decide +kernel
theorem dX4_delete_47 : decode cX4_delete 47 = .ok (.iload_n 2, 1) := by decide +kernel
theorem dX4_delete_48 : decode cX4_delete 48 = .ok (.ireturn, 1) := by decide +kernel
theorem dX4_length_0 : decode cX4_length 0 = .ok (.aload_n 0, 1) := by decide +kernel
theorem dX4_length_1 : decode cX4_length 1 = .ok (.iconst 0, 1) := by decide +kernel
theorem dX4_length_2 : decode cX4_length 2 = .ok (.putfield 23, 3) := by decide +kernel
theorem dX4_length_5 : decode cX4_length 5 = .ok (.aload_n 0, 1) := by decide +kernel
theorem dX4_length_6 : decode cX4_length 6 = .ok (.iload_n 1, 1) := by decide +kernel
theorem dX4_length_7 : decode cX4_length 7 = .ok (.invokevirtual 112, 3) := by decide +kernel
theorem dX4_length_10 : decode cX4_length 10 = .ok (.ifCond .eq 16, 3) := by decide +kernel
theorem dX4_length_13 : decode cX4_length 13 = .ok (.aload_n 0, 1) := by decide +kernel
theorem dX4_length_14 : decode cX4_length 14 = .ok (.getfield 7, 3) := by decide +kernel
theorem dX4_length_17 : decode cX4_length 17 = .ok (.sipush 9600, 3) := by decide +kernel
theorem dX4_length_20 : decode cX4_length 20 = .ok (.iload_n 1, 1) := by decide +kernel
theorem dX4_length_21 : decode cX4_length 21 = .ok (.iadd, 1) := by decide +kernel
theorem dX4_length_22 : decode cX4_length 22 = .ok (.iaload, 1) := by decide +kernel
theorem dX4_length_23 : decode cX4_length 23 = .ok (.goto 4, 3) := by decide +kernel
theorem dX4_length_26 : decode cX4_length 26 = .ok (.iconst (-1), 1) := by decide +kernel
theorem dX4_length_27 : decode cX4_length 27 = .ok (.ireturn, 1) := by decide +kernel
theorem dX4_byteAt_0 : decode cX4_byteAt 0 = .ok (.aload_n 0, 1) := by decide +kernel
theorem dX4_byteAt_1 : decode cX4_byteAt 1 = .ok (.aload_n 0, 1) := by decide +kernel
theorem dX4_byteAt_2 : decode cX4_byteAt 2 = .ok (.iload_n 1, 1) := by decide +kernel
theorem dX4_byteAt_3 : decode cX4_byteAt 3 = .ok (.invokevirtual 112, 3) := by decide +kernel
theorem dX4_byteAt_6 : decode cX4_byteAt 6 = .ok (.ifCond .ne 7, 3) := by decide +kernel
theorem dX4_byteAt_9 : decode cX4_byteAt 9 = .ok (.iconst 1, 1) := by decide +kernel
theorem dX4_byteAt_10 : decode cX4_byteAt 10 = .ok (.goto 4, 3) := by decide +kernel
theorem dX4_byteAt_13 : decode cX4_byteAt 13 = .ok (.iconst 0, 1) := by decide +kernel
theorem dX4_byteAt_14 : decode cX4_byteAt 14 = .ok (.iconst 1, 1) := by decide +kernel
theorem dX4_byteAt_15 : decode cX4_byteAt 15 = .ok (.invokevirtual 102, 3) := by decide +kernel
theorem dX4_byteAt_18 : decode cX4_byteAt 18 = .ok (.ifCond .eq 5, 3) := by decide +kernel
theorem dX4_byteAt_21 : decode cX4_byteAt 21 = .ok (.iconst 0, 1) := by decide +kernel
theorem dX4_byteAt_22 : decode cX4_byteAt 22 = .ok (.ireturn, 1) := by decide +kernel
theorem dX4_byteAt_23 : decode cX4_byteAt 23 = .ok (.iload_n 2, 1) := by decide +kernel
theorem dX4_byteAt_24 : decode cX4_byteAt 24 = .ok (.ifCond .lt 44, 3) := by decide +kernel
theorem dX4_byteAt_27 : decode cX4_byteAt 27 = .ok (.iload_n 2, 1) := by decide +kernel
theorem dX4_byteAt_28 : decode cX4_byteAt 28 = .ok (.aload_n 0, 1) := by decide +kernel
theorem dX4_byteAt_29 : decode cX4_byteAt 29 = .ok (.getfield 7, 3) := by decide +kernel
theorem dX4_byteAt_32 : decode cX4_byteAt 32 = .ok (.sipush 9600, 3) := by decide +kernel
theorem dX4_byteAt_35 : decode cX4_byteAt 35 = .ok (.iload_n 1, 1) := by decide +kernel
theorem dX4_byteAt_36 : decode cX4_byteAt 36 = .ok (.iadd, 1) := by decide +kernel
theorem dX4_byteAt_37 : decode cX4_byteAt 37 = .ok (.iaload, 1) := by decide +kernel
theorem dX4_byteAt_38 : decode cX4_byteAt 38 = .ok (.if_icmp .ge 30, 3) := by decide +kernel
theorem dX4_byteAt_41 : decode cX4_byteAt 41 = .ok (.aload_n 0, 1) := by decide +kernel
theorem dX4_byteAt_42 : decode cX4_byteAt 42 = .ok (.getfield 7, 3) := by decide +kernel
theorem dX4_byteAt_45 : decode cX4_byteAt 45 = .ok (.sipush 12672, 3) := by decide +kernel
theorem dX4_byteAt_48 : decode cX4_byteAt 48 = .ok (.iload_n 1, 1) := by decide +kernel
theorem dX4_byteAt_49 : decode cX4_byteAt 49 = .ok (.iadd, 1) := by decide +kernel
theorem dX4_byteAt_50 : decode cX4_byteAt 50 = .ok (.iaload, 1) := by decide +kernel
theorem dX4_byteAt_51 : decode cX4_byteAt 51 = .ok (.bipush 7, 2) := by decide +kernel
theorem dX4_byteAt_53 : decode cX4_byteAt 53 = .ok (.iload_n 2, 1) := by decide +kernel
theorem dX4_byteAt_54 : decode cX4_byteAt 54 = .ok (.imul, 1) := by decide +kernel
theorem dX4_byteAt_55 : decode cX4_byteAt 55 = .ok (.iadd, 1) := by decide +kernel
theorem dX4_byteAt_56 : decode cX4_byteAt 56 = .ok (.iload_n 2, 1) := by decide +kernel
theorem dX4_byteAt_57 : decode cX4_byteAt 57 = .ok (.bipush 16, 2) := by decide +kernel
theorem dX4_byteAt_59 : decode cX4_byteAt 59 = .ok (.idiv, 1) := by decide +kernel
theorem dX4_byteAt_60 : decode cX4_byteAt 60 = .ok (.iadd, 1) := by decide +kernel
theorem dX4_byteAt_61 : decode cX4_byteAt 61 = .ok (.sipush 256, 3) := by decide +kernel
theorem dX4_byteAt_64 : decode cX4_byteAt 64 = .ok (.irem, 1) := by decide +kernel
theorem dX4_byteAt_65 : decode cX4_byteAt 65 = .ok (.goto 4, 3) := by decide +kernel
theorem dX4_byteAt_68 : decode cX4_byteAt 68 = .ok (.iconst (-1), 1) := by decide +kernel
theorem dX4_byteAt_69 : decode cX4_byteAt 69 = .ok (.ireturn, 1) := by decide +kernel
theorem dX4_where_0 : decode cX4_where 0 = .ok (.aload_n 0, 1) := by decide +kernel
theorem dX4_where_1 : decode cX4_where 1 = .ok (.aload_n 0, 1) := by decide +kernel
theorem dX4_where_2 : decode cX4_where 2 = .ok (.iload_n 1, 1) := by decide +kernel
theorem dX4_where_3 : decode cX4_where 3 = .ok (.invokevirtual 112, 3) := by decide +kernel
theorem dX4_where_6 : decode cX4_where 6 = .ok (.ifCond .ne 7, 3) := by decide +kernel
theorem dX4_where_9 : decode cX4_where 9 = .ok (.iconst 1, 1) := by decide +kernel
theorem dX4_where_10 : decode cX4_where 10 = .ok (.goto 4, 3) := by decide +kernel
theorem dX4_where_13 : decode cX4_where 13 = .ok (.iconst 0, 1) := by decide +kernel
theorem dX4_where_14 : decode cX4_where 14 = .ok (.iconst 1, 1) := by decide +kernel
theorem dX4_where_15 : decode cX4_where 15 = .ok (.invokevirtual 102, 3) := by decide +kernel
theorem dX4_where_18 : decode cX4_where 18 = .ok (.ifCond .ne 25, 3) := by decide +kernel
theorem dX4_where_21 : decode cX4_where 21 = .ok (.aload_n 0, 1) := by decide +kernel
theorem dX4_where_22 : decode cX4_where 22 = .ok (.iload_n 2, 1) := by decide +kernel
theorem dX4_where_23 : decode cX4_where 23 = .ok (.ifCond .lt 8, 3) := by decide +kernel
theorem dX4_where_26 : decode cX4_where 26 = .ok (.iload_n 2, 1) := by decide +kernel
theorem dX4_where_27 : decode cX4_where 27 = .ok (.iconst 3, 1) := by decide +kernel
theorem dX4_where_28 : decode cX4_where 28 = .ok (.if_icmp .le 7, 3) := by decide +kernel
theorem dX4_where_31 : decode cX4_where 31 = .ok (.iconst 1, 1) := by decide +kernel
theorem dX4_where_32 : decode cX4_where 32 = .ok (.goto 4, 3) := by decide +kernel
theorem dX4_where_35 : decode cX4_where 35 = .ok (.iconst 0, 1) := by decide +kernel
theorem dX4_where_36 : decode cX4_where 36 = .ok (.iconst 2, 1) := by decide +kernel
theorem dX4_where_37 : decode cX4_where 37 = .ok (.invokevirtual 102, 3) := by decide +kernel
theorem dX4_where_40 : decode cX4_where 40 = .ok (.ifCond .eq 5, 3) := by decide +kernel
theorem dX4_where_43 : decode cX4_where 43 = .ok (.iconst 0, 1) := by decide +kernel
theorem dX4_where_44 : decode cX4_where 44 = .ok (.ireturn, 1) := by decide +kernel
theorem dX4_where_45 : decode cX4_where 45 = .ok (.aload_n 0, 1) := by decide +kernel
theorem dX4_where_46 : decode cX4_where 46 = .ok (.getfield 7, 3) := by decide +kernel
theorem dX4_where_49 : decode cX4_where 49 = .ok (.sipush 6528, 3) := by decide +kernel
theorem dX4_where_52 : decode cX4_where 52 = .ok (.iload_n 1, 1) := by decide +kernel
theorem dX4_where_53 : decode cX4_where 53 = .ok (.iadd, 1) := by decide +kernel
theorem dX4_where_54 : decode cX4_where 54 = .ok (.iaload, 1) := by decide +kernel
theorem dX4_where_55 : decode cX4_where 55 = .ok (.istore_n 3, 1) := by decide +kernel
theorem dX4_where_56 : decode cX4_where 56 = .ok (.iload_n 2, 1) := by decide +kernel
theorem dX4_where_57 : decode cX4_where 57 = .ok (.ifCond .ne 10, 3) := by decide +kernel
theorem dX4_where_60 : decode cX4_where 60 = .ok (.iload_n 3, 1) := by decide +kernel
theorem dX4_where_61 : decode cX4_where 61 = .ok (.bipush 32, 2) := by decide +kernel
theorem dX4_where_63 : decode cX4_where 63 = .ok (.idiv, 1) := by decide +kernel
theorem dX4_where_64 : decode cX4_where 64 = .ok (.goto 46, 3) := by decide +kernel
theorem dX4_where_67 : decode cX4_where 67 = .ok (.iload_n 2, 1) := by decide +kernel
theorem dX4_where_68 : decode cX4_where 68 = .ok (.iconst 1, 1) := by decide +kernel
theorem dX4_where_69 : decode cX4_where 69 = .ok (.if_icmp .ne 10, 3) := by decide +kernel
theorem dX4_where_72 : decode cX4_where 72 = .ok (.iload_n 3, 1) := by decide +kernel
theorem dX4_where_73 : decode cX4_where 73 = .ok (.bipush 32, 2) := by decide +kernel
theorem dX4_where_75 : decode cX4_where 75 = .ok (.irem, 1) := by decide +kernel
theorem dX4_where_76 : decode cX4_where 76 = .ok (.goto 34, 3) := by decide +kernel
theorem dX4_where_79 : decode cX4_where 79 = .ok (.iload_n 2, 1) := by decide +kernel
theorem dX4_where_80 : decode cX4_where 80 = .ok (.iconst 2, 1) := by decide +kernel
theorem dX4_where_81 : decode cX4_where 81 = .ok (.if_icmp .ne 19, 3) := by decide +kernel
theorem dX4_where_84 : decode cX4_where 84 = .ok (.aload_n 0, 1) := by decide +kernel
theorem dX4_where_85 : decode cX4_where 85 = .ok (.getfield 7, 3) := by decide +kernel
theorem dX4_where_88 : decode cX4_where 88 = .ok (.sipush 9600, 3) := by decide +kernel
theorem dX4_where_91 : decode cX4_where 91 = .ok (.iload_n 1, 1) := by decide +kernel
theorem dX4_where_92 : decode cX4_where 92 = .ok (.iadd, 1) := by decide +kernel
theorem dX4_where_93 : decode cX4_where 93 = .ok (.iaload, 1) := by decide +kernel
theorem dX4_where_94 : decode cX4_where 94 = .ok (.invokestatic 55, 3) := by decide +kernel
theorem dX4_where_97 : decode cX4_where 97 = .ok (.goto 13, 3) := by decide +kernel
theorem dX4_where_100 : decode cX4_where 100 = .ok (.aload_n 0, 1) := by decide +kernel
theorem dX4_where_101 : decode cX4_where 101 = .ok (.getfield 7, 3) := by decide +kernel
theorem dX4_where_104 : decode cX4_where 104 = .ok (.sipush 15744, 3) := by decide +kernel
theorem dX4_where_107 : decode cX4_where 107 = .ok (.iload_n 1, 1) := by decide +kernel
theorem dX4_where_108 : decode cX4_where 108 = .ok (.iadd, 1) := by decide +kernel
theorem dX4_where_109 : decode cX4_where 109 = .ok (.iaload, 1) := by decide +kernel
theorem dX4_where_110 : decode cX4_where 110 = .ok (.ireturn, 1) := by decide +kernel
theorem dX4_next_0 : decode cX4_next 0 = .ok (.aload_n 0, 1) := by decide +kernel
theorem dX4_next_1 : decode cX4_next 1 = .ok (.iconst 0, 1) := by decide +kernel
theorem dX4_next_2 : decode cX4_next 2 = .ok (.putfield 23, 3) := by decide +kernel
theorem dX4_next_5 : decode cX4_next 5 = .ok (.iconst 0, 1) := by decide +kernel
theorem dX4_next_6 : decode cX4_next 6 = .ok (.istore_n 2, 1) := by decide +kernel
theorem dX4_next_7 : decode cX4_next 7 = .ok (.iload_n 2, 1) := by decide +kernel
theorem dX4_next_8 : decode cX4_next 8 = .ok (.sipush 3072, 3) := by decide +kernel
theorem dX4_next_11 : decode cX4_next 11 = .ok (.if_icmp .ge 24, 3) := by decide +kernel
theorem dX4_next_14 : decode cX4_next 14 = .ok (.iload_n 2, 1) := by decide +kernel
theorem dX4_next_15 : decode cX4_next 15 = .ok (.iload_n 1, 1) := by decide +kernel
theorem dX4_next_16 : decode cX4_next 16 = .ok (.if_icmp .le 13, 3) := by decide +kernel
theorem dX4_next_19 : decode cX4_next 19 = .ok (.aload_n 0, 1) := by decide +kernel
theorem dX4_next_20 : decode cX4_next 20 = .ok (.iload_n 2, 1) := by decide +kernel
theorem dX4_next_21 : decode cX4_next 21 = .ok (.invokevirtual 112, 3) := by decide +kernel
theorem dX4_next_24 : decode cX4_next 24 = .ok (.ifCond .eq 5, 3) := by decide +kernel
theorem dX4_next_27 : decode cX4_next 27 = .ok (.iload_n 2, 1) := by decide +kernel
theorem dX4_next_28 : decode cX4_next 28 = .ok (.ireturn, 1) := by decide +kernel
theorem dX4_next_29 : decode cX4_next 29 = .ok (.iinc 2 1, 3) := by decide +kernel
theorem dX4_next_32 : decode cX4_next 32 = .ok (.goto (-25), 3) := by decide +kernel
theorem dX4_next_35 : decode cX4_next 35 = .ok (.iconst (-1), 1) := by decide +kernel
theorem dX4_next_36 : decode cX4_next 36 = .ok (.ireturn, 1) := by decide +kernel
theorem dX4_kindOf_0 : decode cX4_kindOf 0 = .ok (.aload_n 0, 1) := by decide +kernel
theorem dX4_kindOf_1 : decode cX4_kindOf 1 = .ok (.iload_n 1, 1) := by decide +kernel
theorem dX4_kindOf_2 : decode cX4_kindOf 2 = .ok (.iload_n 2, 1) := by decide +kernel
theorem dX4_kindOf_3 : decode cX4_kindOf 3 = .ok (.invokevirtual 27, 3) := by decide +kernel
theorem dX4_kindOf_6 : decode cX4_kindOf 6 = .ok (.ifCond .ne 5, 3) := by decide +kernel
theorem dX4_kindOf_9 : decode cX4_kindOf 9 = .ok (.iconst 0, 1) := by decide +kernel
theorem dX4_kindOf_10 : decode cX4_kindOf 10 = .ok (.ireturn, 1) := by decide +kernel
theorem dX4_kindOf_11 : decode cX4_kindOf 11 = .ok (.aload_n 0, 1) := by decide +kernel
theorem dX4_kindOf_12 : decode cX4_kindOf 12 = .ok (.getfield 7, 3) := by decide +kernel
theorem dX4_kindOf_15 : decode cX4_kindOf 15 = .ok (.sipush 3456, 3) := by decide +kernel
theorem dX4_kindOf_18 : decode cX4_kindOf 18 = .ok (.bipush 32, 2) := by decide +kernel
theorem dX4_kindOf_20 : decode cX4_kindOf 20 = .ok (.iload_n 1, 1) := by decide +kernel
theorem dX4_kindOf_21 : decode cX4_kindOf 21 = .ok (.imul, 1) := by decide +kernel
theorem dX4_kindOf_22 : decode cX4_kindOf 22 = .ok (.iadd, 1) := by decide +kernel
theorem dX4_kindOf_23 : decode cX4_kindOf 23 = .ok (.iload_n 2, 1) := by decide +kernel
theorem dX4_kindOf_24 : decode cX4_kindOf 24 = .ok (.iadd, 1) := by decide +kernel
theorem dX4_kindOf_25 : decode cX4_kindOf 25 = .ok (.iaload, 1) := by decide +kernel
theorem dX4_kindOf_26 : decode cX4_kindOf 26 = .ok (.istore_n 3, 1) := by decide +kernel
theorem dX4_kindOf_27 : decode cX4_kindOf 27 = .ok (.bipush 32, 2) := by decide +kernel
theorem dX4_kindOf_29 : decode cX4_kindOf 29 = .ok (.iload_n 1, 1) := by decide +kernel
theorem dX4_kindOf_30 : decode cX4_kindOf 30 = .ok (.imul, 1) := by decide +kernel
theorem dX4_kindOf_31 : decode cX4_kindOf 31 = .ok (.iload_n 2, 1) := by decide +kernel
theorem dX4_kindOf_32 : decode cX4_kindOf 32 = .ok (.iadd, 1) := by decide +kernel
theorem dX4_kindOf_33 : decode cX4_kindOf 33 = .ok (.istore 4, 2) := by decide +kernel
theorem dX4_kindOf_35 : decode cX4_kindOf 35 = .ok (.iload_n 3, 1) := by decide +kernel
theorem dX4_kindOf_36 : decode cX4_kindOf 36 = .ok (.iload 4, 2) := by decide +kernel
theorem dX4_kindOf_38 : decode cX4_kindOf 38 = .ok (.if_icmp .eq 7, 3) := by decide +kernel
theorem dX4_kindOf_41 : decode cX4_kindOf 41 = .ok (.iconst 3, 1) := by decide +kernel
theorem dX4_kindOf_42 : decode cX4_kindOf 42 = .ok (.goto 23, 3) := by decide +kernel
theorem dX4_kindOf_45 : decode cX4_kindOf 45 = .ok (.aload_n 0, 1) := by decide +kernel
theorem dX4_kindOf_46 : decode cX4_kindOf 46 = .ok (.getfield 7, 3) := by decide +kernel
theorem dX4_kindOf_49 : decode cX4_kindOf 49 = .ok (.sipush 6528, 3) := by decide +kernel
theorem dX4_kindOf_52 : decode cX4_kindOf 52 = .ok (.iload_n 3, 1) := by decide +kernel
theorem dX4_kindOf_53 : decode cX4_kindOf 53 = .ok (.iadd, 1) := by decide +kernel
theorem dX4_kindOf_54 : decode cX4_kindOf 54 = .ok (.iaload, 1) := by decide +kernel
theorem dX4_kindOf_55 : decode cX4_kindOf 55 = .ok (.iload 4, 2) := by decide +kernel
theorem dX4_kindOf_57 : decode cX4_kindOf 57 = .ok (.if_icmp .ne 7, 3) := by decide +kernel
theorem dX4_kindOf_60 : decode cX4_kindOf 60 = .ok (.iconst 1, 1) := by decide +kernel
theorem dX4_kindOf_61 : decode cX4_kindOf 61 = .ok (.goto 4, 3) := by decide +kernel
theorem dX4_kindOf_64 : decode cX4_kindOf 64 = .ok (.iconst 2, 1) := by decide +kernel
theorem dX4_kindOf_65 : decode cX4_kindOf 65 = .ok (.ireturn, 1) := by decide +kernel
theorem dX4_stubs_0 : decode cX4_stubs 0 = .ok (.iconst 0, 1) := by decide +kernel
theorem dX4_stubs_1 : decode cX4_stubs 1 = .ok (.istore_n 2, 1) := by decide +kernel
theorem dX4_stubs_2 : decode cX4_stubs 2 = .ok (.iconst 0, 1) := by decide +kernel
theorem dX4_stubs_3 : decode cX4_stubs 3 = .ok (.istore_n 3, 1) := by decide +kernel
theorem dX4_stubs_4 : decode cX4_stubs 4 = .ok (.iload_n 3, 1) := by decide +kernel
theorem dX4_stubs_5 : decode cX4_stubs 5 = .ok (.bipush 32, 2) := by decide +kernel
theorem dX4_stubs_7 : decode cX4_stubs 7 = .ok (.if_icmp .ge 27, 3) := by decide +kernel
theorem dX4_stubs_10 : decode cX4_stubs 10 = .ok (.iload_n 2, 1) := by decide +kernel
theorem dX4_stubs_11 : decode cX4_stubs 11 = .ok (.aload_n 0, 1) := by decide +kernel
theorem dX4_stubs_12 : decode cX4_stubs 12 = .ok (.iload_n 1, 1) := by decide +kernel
theorem dX4_stubs_13 : decode cX4_stubs 13 = .ok (.iload_n 3, 1) := by decide +kernel
theorem dX4_stubs_14 : decode cX4_stubs 14 = .ok (.invokevirtual 122, 3) := by decide +kernel
theorem dX4_stubs_17 : decode cX4_stubs 17 = .ok (.iconst 2, 1) := by decide +kernel
theorem dX4_stubs_18 : decode cX4_stubs 18 = .ok (.if_icmp .ne 7, 3) := by decide +kernel
theorem dX4_stubs_21 : decode cX4_stubs 21 = .ok (.iconst 1, 1) := by decide +kernel
theorem dX4_stubs_22 : decode cX4_stubs 22 = .ok (.goto 4, 3) := by decide +kernel
theorem dX4_stubs_25 : decode cX4_stubs 25 = .ok (.iconst 0, 1) := by decide +kernel
theorem dX4_stubs_26 : decode cX4_stubs 26 = .ok (.iadd, 1) := by decide +kernel
theorem dX4_stubs_27 : decode cX4_stubs 27 = .ok (.istore_n 2, 1) := by decide +kernel
theorem dX4_stubs_28 : decode cX4_stubs 28 = .ok (.iinc 3 1, 3) := by decide +kernel
theorem dX4_stubs_31 : decode cX4_stubs 31 = .ok (.goto (-27), 3) := by decide +kernel
theorem dX4_stubs_34 : decode cX4_stubs 34 = .ok (.iload_n 2, 1) := by decide +kernel
theorem dX4_stubs_35 : decode cX4_stubs 35 = .ok (.ireturn, 1) := by decide +kernel
theorem dX4_page_0 : decode cX4_page 0 = .ok (.aload_n 0, 1) := by decide +kernel
theorem dX4_page_1 : decode cX4_page 1 = .ok (.iload_n 1, 1) := by decide +kernel
theorem dX4_page_2 : decode cX4_page 2 = .ok (.ifCond .lt 19, 3) := by decide +kernel
theorem dX4_page_5 : decode cX4_page 5 = .ok (.iload_n 1, 1) := by decide +kernel
theorem dX4_page_6 : decode cX4_page 6 = .ok (.bipush 96, 2) := by decide +kernel
theorem dX4_page_8 : decode cX4_page 8 = .ok (.if_icmp .ge 13, 3) := by decide +kernel
theorem dX4_page_11 : decode cX4_page 11 = .ok (.iload_n 2, 1) := by decide +kernel
theorem dX4_page_12 : decode cX4_page 12 = .ok (.ifCond .lt 9, 3) := by decide +kernel
theorem dX4_page_15 : decode cX4_page 15 = .ok (.iload_n 2, 1) := by decide +kernel
theorem dX4_page_16 : decode cX4_page 16 = .ok (.bipush 8, 2) := by decide +kernel
theorem dX4_page_18 : decode cX4_page 18 = .ok (.if_icmp .le 7, 3) := by decide +kernel
theorem dX4_page_21 : decode cX4_page 21 = .ok (.iconst 1, 1) := by decide +kernel
theorem dX4_page_22 : decode cX4_page 22 = .ok (.goto 4, 3) := by decide +kernel
theorem dX4_page_25 : decode cX4_page 25 = .ok (.iconst 0, 1) := by decide +kernel
theorem dX4_page_26 : decode cX4_page 26 = .ok (.iconst 1, 1) := by decide +kernel
theorem dX4_page_27 : decode cX4_page 27 = .ok (.invokevirtual 102, 3) := by decide +kernel
theorem dX4_page_30 : decode cX4_page 30 = .ok (.ifCond .eq 5, 3) := by decide +kernel
theorem dX4_page_33 : decode cX4_page 33 = .ok (.iconst 0, 1) := by decide +kernel
theorem dX4_page_34 : decode cX4_page 34 = .ok (.ireturn, 1) := by decide +kernel
theorem dX4_page_35 : decode cX4_page 35 = .ok (.iload_n 2, 1) := by decide +kernel
theorem dX4_page_36 : decode cX4_page 36 = .ok (.ifCond .ne 10, 3) := by decide +kernel
theorem dX4_page_39 : decode cX4_page 39 = .ok (.aload_n 0, 1) := by decide +kernel
theorem dX4_page_40 : decode cX4_page 40 = .ok (.getfield 7, 3) := by decide +kernel
theorem dX4_page_43 : decode cX4_page 43 = .ok (.iload_n 1, 1) := by decide +kernel
theorem dX4_page_44 : decode cX4_page 44 = .ok (.iaload, 1) := by decide +kernel
theorem dX4_page_45 : decode cX4_page 45 = .ok (.ireturn, 1) := by decide +kernel
theorem dX4_page_46 : decode cX4_page 46 = .ok (.aload_n 0, 1) := by decide +kernel
theorem dX4_page_47 : decode cX4_page 47 = .ok (.getfield 7, 3) := by decide +kernel
theorem dX4_page_50 : decode cX4_page 50 = .ok (.iload_n 1, 1) := by decide +kernel
theorem dX4_page_51 : decode cX4_page 51 = .ok (.iaload, 1) := by decide +kernel
theorem dX4_page_52 : decode cX4_page 52 = .ok (.iload_n 2, 1) := by decide +kernel
theorem dX4_page_53 : decode cX4_page 53 = .ok (.bipush 7, 2) := by decide +kernel
theorem dX4_page_55 : decode cX4_page 55 = .ok (.if_icmp .ge 7, 3) := by decide +kernel
theorem dX4_page_58 : decode cX4_page 58 = .ok (.iconst 1, 1) := by decide +kernel
theorem dX4_page_59 : decode cX4_page 59 = .ok (.goto 4, 3) := by decide +kernel
theorem dX4_page_62 : decode cX4_page 62 = .ok (.iconst 2, 1) := by decide +kernel
theorem dX4_page_63 : decode cX4_page 63 = .ok (.if_icmp .eq 5, 3) := by decide +kernel
theorem dX4_page_66 : decode cX4_page 66 = .ok (.iconst (-1), 1) := by decide +kernel
theorem dX4_page_67 : decode cX4_page 67 = .ok (.ireturn, 1) := by decide +kernel
theorem dX4_page_68 : decode cX4_page 68 = .ok (.iload_n 2, 1) := by decide +kernel
theorem dX4_page_69 : decode cX4_page 69 = .ok (.tableswitch 97 1 7 #[43, 49, 55, 61, 71, 80, 86], 43) := by decide +kernel
theorem dX4_page_112 : decode cX4_page 112 = .ok (.aload_n 0, 1) := by decide +kernel
theorem dX4_page_113 : decode cX4_page 113 = .ok (.iload_n 1, 1) := by decide +kernel
theorem dX4_page_114 : decode cX4_page 114 = .ok (.invokevirtual 31, 3) := by decide +kernel
theorem dX4_page_117 : decode cX4_page 117 = .ok (.ireturn, 1) := by decide +kernel
theorem dX4_page_118 : decode cX4_page 118 = .ok (.aload_n 0, 1) := by decide +kernel
theorem dX4_page_119 : decode cX4_page 119 = .ok (.iload_n 1, 1) := by decide +kernel
theorem dX4_page_120 : decode cX4_page 120 = .ok (.invokevirtual 45, 3) := by decide +kernel
theorem dX4_page_123 : decode cX4_page 123 = .ok (.ireturn, 1) := by decide +kernel
theorem dX4_page_124 : decode cX4_page 124 = .ok (.aload_n 0, 1) := by decide +kernel
theorem dX4_page_125 : decode cX4_page 125 = .ok (.iload_n 1, 1) := by decide +kernel
theorem dX4_page_126 : decode cX4_page 126 = .ok (.invokevirtual 48, 3) := by decide +kernel
theorem dX4_page_129 : decode cX4_page 129 = .ok (.ireturn, 1) := by decide +kernel
theorem dX4_page_130 : decode cX4_page 130 = .ok (.aload_n 0, 1) := by decide +kernel
theorem dX4_page_131 : decode cX4_page 131 = .ok (.getfield 7, 3) := by decide +kernel
theorem dX4_page_134 : decode cX4_page 134 = .ok (.bipush 96, 2) := by decide +kernel
theorem dX4_page_136 : decode cX4_page 136 = .ok (.iload_n 1, 1) := by decide +kernel
theorem dX4_page_137 : decode cX4_page 137 = .ok (.iadd, 1) := by decide +kernel
theorem dX4_page_138 : decode cX4_page 138 = .ok (.iaload, 1) := by decide +kernel
theorem dX4_page_139 : decode cX4_page 139 = .ok (.ireturn, 1) := by decide +kernel
theorem dX4_page_140 : decode cX4_page 140 = .ok (.aload_n 0, 1) := by decide +kernel
theorem dX4_page_141 : decode cX4_page 141 = .ok (.iload_n 1, 1) := by decide +kernel
theorem dX4_page_142 : decode cX4_page 142 = .ok (.invokevirtual 48, 3) := by decide +kernel
theorem dX4_page_145 : decode cX4_page 145 = .ok (.bipush 31, 2) := by decide +kernel
theorem dX4_page_147 : decode cX4_page 147 = .ok (.idiv, 1) := by decide +kernel
theorem dX4_page_148 : decode cX4_page 148 = .ok (.ireturn, 1) := by decide +kernel
theorem dX4_page_149 : decode cX4_page 149 = .ok (.aload_n 0, 1) := by decide +kernel
theorem dX4_page_150 : decode cX4_page 150 = .ok (.iload_n 1, 1) := by decide +kernel
theorem dX4_page_151 : decode cX4_page 151 = .ok (.invokevirtual 125, 3) := by decide +kernel
theorem dX4_page_154 : decode cX4_page 154 = .ok (.ireturn, 1) := by decide +kernel
theorem dX4_page_155 : decode cX4_page 155 = .ok (.aload_n 0, 1) := by decide +kernel
theorem dX4_page_156 : decode cX4_page 156 = .ok (.getfield 7, 3) := by decide +kernel
theorem dX4_page_159 : decode cX4_page 159 = .ok (.sipush 192, 3) := by decide +kernel
theorem dX4_page_162 : decode cX4_page 162 = .ok (.iload_n 1, 1) := by decide +kernel
theorem dX4_page_163 : decode cX4_page 163 = .ok (.iadd, 1) := by decide +kernel
theorem dX4_page_164 : decode cX4_page 164 = .ok (.iaload, 1) := by decide +kernel
theorem dX4_page_165 : decode cX4_page 165 = .ok (.ireturn, 1) := by decide +kernel
theorem dX4_page_166 : decode cX4_page 166 = .ok (.aload_n 0, 1) := by decide +kernel
theorem dX4_page_167 : decode cX4_page 167 = .ok (.getfield 7, 3) := by decide +kernel
theorem dX4_page_170 : decode cX4_page 170 = .ok (.sipush 288, 3) := by decide +kernel
theorem dX4_page_173 : decode cX4_page 173 = .ok (.iload_n 1, 1) := by decide +kernel
theorem dX4_page_174 : decode cX4_page 174 = .ok (.iadd, 1) := by decide +kernel
theorem dX4_page_175 : decode cX4_page 175 = .ok (.iaload, 1) := by decide +kernel
theorem dX4_page_176 : decode cX4_page 176 = .ok (.ireturn, 1) := by decide +kernel
theorem dX4_slot_0 : decode cX4_slot 0 = .ok (.aload_n 0, 1) := by decide +kernel
theorem dX4_slot_1 : decode cX4_slot 1 = .ok (.iload_n 1, 1) := by decide +kernel
theorem dX4_slot_2 : decode cX4_slot 2 = .ok (.ifCond .lt 13, 3) := by decide +kernel
theorem dX4_slot_5 : decode cX4_slot 5 = .ok (.iload_n 1, 1) := by decide +kernel
theorem dX4_slot_6 : decode cX4_slot 6 = .ok (.bipush 96, 2) := by decide +kernel
theorem dX4_slot_8 : decode cX4_slot 8 = .ok (.if_icmp .ge 7, 3) := by decide +kernel
theorem dX4_slot_11 : decode cX4_slot 11 = .ok (.iload_n 2, 1) := by decide +kernel
theorem dX4_slot_12 : decode cX4_slot 12 = .ok (.ifCond .ge 7, 3) := by decide +kernel
theorem dX4_slot_15 : decode cX4_slot 15 = .ok (.iconst 1, 1) := by decide +kernel
theorem dX4_slot_16 : decode cX4_slot 16 = .ok (.goto 4, 3) := by decide +kernel
theorem dX4_slot_19 : decode cX4_slot 19 = .ok (.iconst 0, 1) := by decide +kernel
theorem dX4_slot_20 : decode cX4_slot 20 = .ok (.iconst 1, 1) := by decide +kernel
theorem dX4_slot_21 : decode cX4_slot 21 = .ok (.invokevirtual 102, 3) := by decide +kernel
theorem dX4_slot_24 : decode cX4_slot 24 = .ok (.ifCond .eq 5, 3) := by decide +kernel
theorem dX4_slot_27 : decode cX4_slot 27 = .ok (.iconst 0, 1) := by decide +kernel
theorem dX4_slot_28 : decode cX4_slot 28 = .ok (.ireturn, 1) := by decide +kernel
theorem dX4_slot_29 : decode cX4_slot 29 = .ok (.aload_n 0, 1) := by decide +kernel
theorem dX4_slot_30 : decode cX4_slot 30 = .ok (.getfield 7, 3) := by decide +kernel
theorem dX4_slot_33 : decode cX4_slot 33 = .ok (.iload_n 1, 1) := by decide +kernel
theorem dX4_slot_34 : decode cX4_slot 34 = .ok (.iaload, 1) := by decide +kernel
theorem dX4_slot_35 : decode cX4_slot 35 = .ok (.iconst 1, 1) := by decide +kernel
theorem dX4_slot_36 : decode cX4_slot 36 = .ok (.if_icmp .ne 12, 3) := by decide +kernel
theorem dX4_slot_39 : decode cX4_slot 39 = .ok (.iload_n 2, 1) := by decide +kernel
theorem dX4_slot_40 : decode cX4_slot 40 = .ok (.aload_n 0, 1) := by decide +kernel
theorem dX4_slot_41 : decode cX4_slot 41 = .ok (.iload_n 1, 1) := by decide +kernel
theorem dX4_slot_42 : decode cX4_slot 42 = .ok (.invokevirtual 31, 3) := by decide +kernel
theorem dX4_slot_45 : decode cX4_slot 45 = .ok (.if_icmp .lt 7, 3) := by decide +kernel
theorem dX4_slot_48 : decode cX4_slot 48 = .ok (.iconst (-1), 1) := by decide +kernel
theorem dX4_slot_49 : decode cX4_slot 49 = .ok (.goto 9, 3) := by decide +kernel
theorem dX4_slot_52 : decode cX4_slot 52 = .ok (.aload_n 0, 1) := by decide +kernel
theorem dX4_slot_53 : decode cX4_slot 53 = .ok (.iload_n 1, 1) := by decide +kernel
theorem dX4_slot_54 : decode cX4_slot 54 = .ok (.iload_n 2, 1) := by decide +kernel
theorem dX4_slot_55 : decode cX4_slot 55 = .ok (.invokevirtual 122, 3) := by decide +kernel
theorem dX4_slot_58 : decode cX4_slot 58 = .ok (.ireturn, 1) := by decide +kernel
theorem dX4_sync_0 : decode cX4_sync 0 = .ok (.aload_n 0, 1) := by decide +kernel
theorem dX4_sync_1 : decode cX4_sync 1 = .ok (.iconst 0, 1) := by decide +kernel
theorem dX4_sync_2 : decode cX4_sync 2 = .ok (.putfield 23, 3) := by decide +kernel
theorem dX4_sync_5 : decode cX4_sync 5 = .ok (.aload_n 0, 1) := by decide +kernel
theorem dX4_sync_6 : decode cX4_sync 6 = .ok (.getfield 95, 3) := by decide +kernel
theorem dX4_sync_9 : decode cX4_sync 9 = .ok (.istore_n 1, 1) := by decide +kernel
theorem dX4_sync_10 : decode cX4_sync 10 = .ok (.aload_n 0, 1) := by decide +kernel
theorem dX4_sync_11 : decode cX4_sync 11 = .ok (.getfield 7, 3) := by decide +kernel
theorem dX4_sync_14 : decode cX4_sync 14 = .ok (.aload_n 0, 1) := by decide +kernel
theorem dX4_sync_15 : decode cX4_sync 15 = .ok (.getfield 13, 3) := by decide +kernel
theorem dX4_sync_18 : decode cX4_sync 18 = .ok (.invokestatic 19, 3) := by decide +kernel
theorem dX4_sync_21 : decode cX4_sync 21 = .ok (.aload_n 0, 1) := by decide +kernel
theorem dX4_sync_22 : decode cX4_sync 22 = .ok (.iconst 0, 1) := by decide +kernel
theorem dX4_sync_23 : decode cX4_sync 23 = .ok (.putfield 95, 3) := by decide +kernel
theorem dX4_sync_26 : decode cX4_sync 26 = .ok (.iload_n 1, 1) := by decide +kernel
theorem dX4_sync_27 : decode cX4_sync 27 = .ok (.ireturn, 1) := by decide +kernel
theorem dX4_crash_0 : decode cX4_crash 0 = .ok (.aload_n 0, 1) := by decide +kernel
theorem dX4_crash_1 : decode cX4_crash 1 = .ok (.iload_n 1, 1) := by decide +kernel
theorem dX4_crash_2 : decode cX4_crash 2 = .ok (.ifCond .lt 11, 3) := by decide +kernel
theorem dX4_crash_5 : decode cX4_crash 5 = .ok (.iload_n 1, 1) := by decide +kernel
theorem dX4_crash_6 : decode cX4_crash 6 = .ok (.aload_n 0, 1) := by decide +kernel
theorem dX4_crash_7 : decode cX4_crash 7 = .ok (.getfield 95, 3) := by decide +kernel
theorem dX4_crash_10 : decode cX4_crash 10 = .ok (.if_icmp .le 7, 3) := by decide +kernel
theorem dX4_crash_13 : decode cX4_crash 13 = .ok (.iconst 1, 1) := by decide +kernel
theorem dX4_crash_14 : decode cX4_crash 14 = .ok (.goto 4, 3) := by decide +kernel
theorem dX4_crash_17 : decode cX4_crash 17 = .ok (.iconst 0, 1) := by decide +kernel
theorem dX4_crash_18 : decode cX4_crash 18 = .ok (.iconst 1, 1) := by decide +kernel
theorem dX4_crash_19 : decode cX4_crash 19 = .ok (.invokevirtual 102, 3) := by decide +kernel
theorem dX4_crash_22 : decode cX4_crash 22 = .ok (.ifCond .eq 5, 3) := by decide +kernel
theorem dX4_crash_25 : decode cX4_crash 25 = .ok (.iconst 0, 1) := by decide +kernel
theorem dX4_crash_26 : decode cX4_crash 26 = .ok (.ireturn, 1) := by decide +kernel
theorem dX4_crash_27 : decode cX4_crash 27 = .ok (.aload_n 0, 1) := by decide +kernel
theorem dX4_crash_28 : decode cX4_crash 28 = .ok (.getfield 95, 3) := by decide +kernel
theorem dX4_crash_31 : decode cX4_crash 31 = .ok (.iload_n 1, 1) := by decide +kernel
theorem dX4_crash_32 : decode cX4_crash 32 = .ok (.isub, 1) := by decide +kernel
theorem dX4_crash_33 : decode cX4_crash 33 = .ok (.istore_n 2, 1) := by decide +kernel
theorem dX4_crash_34 : decode cX4_crash 34 = .ok (.aload_n 0, 1) := by decide +kernel
theorem dX4_crash_35 : decode cX4_crash 35 = .ok (.getfield 13, 3) := by decide +kernel
theorem dX4_crash_38 : decode cX4_crash 38 = .ok (.aload_n 0, 1) := by decide +kernel
theorem dX4_crash_39 : decode cX4_crash 39 = .ok (.getfield 7, 3) := by decide +kernel
theorem dX4_crash_42 : decode cX4_crash 42 = .ok (.invokestatic 19, 3) := by decide +kernel
theorem dX4_crash_45 : decode cX4_crash 45 = .ok (.aload_n 0, 1) := by decide +kernel
theorem dX4_crash_46 : decode cX4_crash 46 = .ok (.iconst 1, 1) := by decide +kernel
theorem dX4_crash_47 : decode cX4_crash 47 = .ok (.putfield 41, 3) := by decide +kernel
theorem dX4_crash_50 : decode cX4_crash 50 = .ok (.iconst 0, 1) := by decide +kernel
theorem dX4_crash_51 : decode cX4_crash 51 = .ok (.istore_n 3, 1) := by decide +kernel
theorem dX4_crash_52 : decode cX4_crash 52 = .ok (.iload_n 3, 1) := by decide +kernel
theorem dX4_crash_53 : decode cX4_crash 53 = .ok (.iload_n 1, 1) := by decide +kernel
theorem dX4_crash_54 : decode cX4_crash 54 = .ok (.if_icmp .ge 108, 3) := by decide +kernel
theorem dX4_crash_57 : decode cX4_crash 57 = .ok (.aload_n 0, 1) := by decide +kernel
theorem dX4_crash_58 : decode cX4_crash 58 = .ok (.getfield 16, 3) := by decide +kernel
theorem dX4_crash_61 : decode cX4_crash 61 = .ok (.iconst 4, 1) := by decide +kernel
theorem dX4_crash_62 : decode cX4_crash 62 = .ok (.iload_n 3, 1) := by decide +kernel
theorem dX4_crash_63 : decode cX4_crash 63 = .ok (.imul, 1) := by decide +kernel
theorem dX4_crash_64 : decode cX4_crash 64 = .ok (.iconst 1, 1) := by decide +kernel
theorem dX4_crash_65 : decode cX4_crash 65 = .ok (.iadd, 1) := by decide +kernel
theorem dX4_crash_66 : decode cX4_crash 66 = .ok (.iaload, 1) := by decide +kernel
theorem dX4_crash_67 : decode cX4_crash 67 = .ok (.istore 4, 2) := by decide +kernel
theorem dX4_crash_69 : decode cX4_crash 69 = .ok (.aload_n 0, 1) := by decide +kernel
theorem dX4_crash_70 : decode cX4_crash 70 = .ok (.getfield 16, 3) := by decide +kernel
theorem dX4_crash_73 : decode cX4_crash 73 = .ok (.iconst 4, 1) := by decide +kernel
theorem dX4_crash_74 : decode cX4_crash 74 = .ok (.iload_n 3, 1) := by decide +kernel
theorem dX4_crash_75 : decode cX4_crash 75 = .ok (.imul, 1) := by decide +kernel
theorem dX4_crash_76 : decode cX4_crash 76 = .ok (.iaload, 1) := by decide +kernel
theorem dX4_crash_77 : decode cX4_crash 77 = .ok (.ifCond .ne 31, 3) := by decide +kernel
theorem dX4_crash_80 : decode cX4_crash 80 = .ok (.aload_n 0, 1) := by decide +kernel
theorem dX4_crash_81 : decode cX4_crash 81 = .ok (.aload_n 0, 1) := by decide +kernel
theorem dX4_crash_82 : decode cX4_crash 82 = .ok (.getfield 16, 3) := by decide +kernel
theorem dX4_crash_85 : decode cX4_crash 85 = .ok (.iconst 4, 1) := by decide +kernel
theorem dX4_crash_86 : decode cX4_crash 86 = .ok (.iload_n 3, 1) := by decide +kernel
theorem dX4_crash_87 : decode cX4_crash 87 = .ok (.imul, 1) := by decide +kernel
theorem dX4_crash_88 : decode cX4_crash 88 = .ok (.iconst 2, 1) := by decide +kernel
theorem dX4_crash_89 : decode cX4_crash 89 = .ok (.iadd, 1) := by decide +kernel
theorem dX4_crash_90 : decode cX4_crash 90 = .ok (.iaload, 1) := by decide +kernel
theorem dX4_crash_91 : decode cX4_crash 91 = .ok (.aload_n 0, 1) := by decide +kernel
theorem dX4_crash_92 : decode cX4_crash 92 = .ok (.getfield 16, 3) := by decide +kernel
theorem dX4_crash_95 : decode cX4_crash 95 = .ok (.iconst 4, 1) := by decide +kernel
theorem dX4_crash_96 : decode cX4_crash 96 = .ok (.iload_n 3, 1) := by decide +kernel
theorem dX4_crash_97 : decode cX4_crash 97 = .ok (.imul, 1) := by decide +kernel
theorem dX4_crash_98 : decode cX4_crash 98 = .ok (.iconst 3, 1) := by decide +kernel
theorem dX4_crash_99 : decode cX4_crash 99 = .ok (.iadd, 1) := by decide +kernel
theorem dX4_crash_100 : decode cX4_crash 100 = .ok (.iaload, 1) := by decide +kernel
theorem dX4_crash_101 : decode cX4_crash 101 = .ok (.invokevirtual 106, 3) := by decide +kernel
theorem dX4_crash_104 : decode cX4_crash 104 = .ok (.pop, 1) := by decide +kernel
theorem dX4_crash_105 : decode cX4_crash 105 = .ok (.goto 51, 3) := by decide +kernel
theorem dX4_crash_108 : decode cX4_crash 108 = .ok (.aload_n 0, 1) := by decide +kernel
theorem dX4_crash_109 : decode cX4_crash 109 = .ok (.getfield 16, 3) := by decide +kernel
theorem dX4_crash_112 : decode cX4_crash 112 = .ok (.iconst 4, 1) := by decide +kernel
theorem dX4_crash_113 : decode cX4_crash 113 = .ok (.iload_n 3, 1) := by decide +kernel
theorem dX4_crash_114 : decode cX4_crash 114 = .ok (.imul, 1) := by decide +kernel
theorem dX4_crash_115 : decode cX4_crash 115 = .ok (.iaload, 1) := by decide +kernel
theorem dX4_crash_116 : decode cX4_crash 116 = .ok (.iconst 1, 1) := by decide +kernel
theorem dX4_crash_117 : decode cX4_crash 117 = .ok (.if_icmp .ne 33, 3) := by decide +kernel
theorem dX4_crash_120 : decode cX4_crash 120 = .ok (.aload_n 0, 1) := by decide +kernel
theorem dX4_crash_121 : decode cX4_crash 121 = .ok (.iload 4, 2) := by decide +kernel
theorem dX4_crash_123 : decode cX4_crash 123 = .ok (.aload_n 0, 1) := by decide +kernel
theorem dX4_crash_124 : decode cX4_crash 124 = .ok (.getfield 16, 3) := by decide +kernel
theorem dX4_crash_127 : decode cX4_crash 127 = .ok (.iconst 4, 1) := by decide +kernel
theorem dX4_crash_128 : decode cX4_crash 128 = .ok (.iload_n 3, 1) := by decide +kernel
theorem dX4_crash_129 : decode cX4_crash 129 = .ok (.imul, 1) := by decide +kernel
theorem dX4_crash_130 : decode cX4_crash 130 = .ok (.iconst 2, 1) := by decide +kernel
theorem dX4_crash_131 : decode cX4_crash 131 = .ok (.iadd, 1) := by decide +kernel
theorem dX4_crash_132 : decode cX4_crash 132 = .ok (.iaload, 1) := by decide +kernel
theorem dX4_crash_133 : decode cX4_crash 133 = .ok (.aload_n 0, 1) := by decide +kernel
theorem dX4_crash_134 : decode cX4_crash 134 = .ok (.getfield 16, 3) := by decide +kernel
theorem dX4_crash_137 : decode cX4_crash 137 = .ok (.iconst 4, 1) := by decide +kernel
theorem dX4_crash_138 : decode cX4_crash 138 = .ok (.iload_n 3, 1) := by decide +kernel
theorem dX4_crash_139 : decode cX4_crash 139 = .ok (.imul, 1) := by decide +kernel
theorem dX4_crash_140 : decode cX4_crash 140 = .ok (.iconst 3, 1) := by decide +kernel
theorem dX4_crash_141 : decode cX4_crash 141 = .ok (.iadd, 1) := by decide +kernel
theorem dX4_crash_142 : decode cX4_crash 142 = .ok (.iaload, 1) := by decide +kernel
theorem dX4_crash_143 : decode cX4_crash 143 = .ok (.invokevirtual 116, 3) := by decide +kernel
theorem dX4_crash_146 : decode cX4_crash 146 = .ok (.pop, 1) := by decide +kernel
theorem dX4_crash_147 : decode cX4_crash 147 = .ok (.goto 9, 3) := by decide +kernel
theorem dX4_crash_150 : decode cX4_crash 150 = .ok (.aload_n 0, 1) := by decide +kernel
theorem dX4_crash_151 : decode cX4_crash 151 = .ok (.iload 4, 2) := by decide +kernel
theorem dX4_crash_153 : decode cX4_crash 153 = .ok (.invokevirtual 119, 3) := by decide +kernel
theorem dX4_crash_156 : decode cX4_crash 156 = .ok (.iinc 3 1, 3) := by decide +kernel
theorem dX4_crash_159 : decode cX4_crash 159 = .ok (.goto (-107), 3) := by decide +kernel
theorem dX4_crash_162 : decode cX4_crash 162 = .ok (.aload_n 0, 1) := by decide +kernel
theorem dX4_crash_163 : decode cX4_crash 163 = .ok (.iconst 0, 1) := by decide +kernel
theorem dX4_crash_164 : decode cX4_crash 164 = .ok (.putfield 41, 3) := by decide +kernel
theorem dX4_crash_167 : decode cX4_crash 167 = .ok (.aload_n 0, 1) := by decide +kernel
theorem dX4_crash_168 : decode cX4_crash 168 = .ok (.dup, 1) := by decide +kernel
theorem dX4_crash_169 : decode cX4_crash 169 = .ok (.getfield 128, 3) := by decide +kernel
theorem dX4_crash_172 : decode cX4_crash 172 = .ok (.iconst 1, 1) := by decide +kernel
theorem dX4_crash_173 : decode cX4_crash 173 = .ok (.iadd, 1) := by decide +kernel
theorem dX4_crash_174 : decode cX4_crash 174 = .ok (.putfield 128, 3) := by decide +kernel
theorem dX4_crash_177 : decode cX4_crash 177 = .ok (.aload_n 0, 1) := by decide +kernel
theorem dX4_crash_178 : decode cX4_crash 178 = .ok (.invokevirtual 131, 3) := by decide +kernel
theorem dX4_crash_181 : decode cX4_crash 181 = .ok (.pop, 1) := by decide +kernel
theorem dX4_crash_182 : decode cX4_crash 182 = .ok (.iload_n 2, 1) := by decide +kernel
theorem dX4_crash_183 : decode cX4_crash 183 = .ok (.ireturn, 1) := by decide +kernel
theorem dX4_pagesOf_0 : decode cX4_pagesOf 0 = .ok (.iconst 0, 1) := by decide +kernel
theorem dX4_pagesOf_1 : decode cX4_pagesOf 1 = .ok (.istore_n 2, 1) := by decide +kernel
theorem dX4_pagesOf_2 : decode cX4_pagesOf 2 = .ok (.iconst 0, 1) := by decide +kernel
theorem dX4_pagesOf_3 : decode cX4_pagesOf 3 = .ok (.istore_n 3, 1) := by decide +kernel
theorem dX4_pagesOf_4 : decode cX4_pagesOf 4 = .ok (.iload_n 3, 1) := by decide +kernel
theorem dX4_pagesOf_5 : decode cX4_pagesOf 5 = .ok (.bipush 96, 2) := by decide +kernel
theorem dX4_pagesOf_7 : decode cX4_pagesOf 7 = .ok (.if_icmp .ge 27, 3) := by decide +kernel
theorem dX4_pagesOf_10 : decode cX4_pagesOf 10 = .ok (.iload_n 2, 1) := by decide +kernel
theorem dX4_pagesOf_11 : decode cX4_pagesOf 11 = .ok (.aload_n 0, 1) := by decide +kernel
theorem dX4_pagesOf_12 : decode cX4_pagesOf 12 = .ok (.getfield 7, 3) := by decide +kernel
theorem dX4_pagesOf_15 : decode cX4_pagesOf 15 = .ok (.iload_n 3, 1) := by decide +kernel
theorem dX4_pagesOf_16 : decode cX4_pagesOf 16 = .ok (.iaload, 1) := by decide +kernel
theorem dX4_pagesOf_17 : decode cX4_pagesOf 17 = .ok (.iload_n 1, 1) := by decide +kernel
theorem dX4_pagesOf_18 : decode cX4_pagesOf 18 = .ok (.if_icmp .ne 7, 3) := by decide +kernel
theorem dX4_pagesOf_21 : decode cX4_pagesOf 21 = .ok (.iconst 1, 1) := by decide +kernel
theorem dX4_pagesOf_22 : decode cX4_pagesOf 22 = .ok (.goto 4, 3) := by decide +kernel
theorem dX4_pagesOf_25 : decode cX4_pagesOf 25 = .ok (.iconst 0, 1) := by decide +kernel
theorem dX4_pagesOf_26 : decode cX4_pagesOf 26 = .ok (.iadd, 1) := by decide +kernel
theorem dX4_pagesOf_27 : decode cX4_pagesOf 27 = .ok (.istore_n 2, 1) := by decide +kernel
theorem dX4_pagesOf_28 : decode cX4_pagesOf 28 = .ok (.iinc 3 1, 3) := by decide +kernel
theorem dX4_pagesOf_31 : decode cX4_pagesOf 31 = .ok (.goto (-27), 3) := by decide +kernel
theorem dX4_pagesOf_34 : decode cX4_pagesOf 34 = .ok (.iload_n 2, 1) := by decide +kernel
theorem dX4_pagesOf_35 : decode cX4_pagesOf 35 = .ok (.ireturn, 1) := by decide +kernel
theorem dX4_records_0 : decode cX4_records 0 = .ok (.iconst 0, 1) := by decide +kernel
theorem dX4_records_1 : decode cX4_records 1 = .ok (.istore_n 2, 1) := by decide +kernel
theorem dX4_records_2 : decode cX4_records 2 = .ok (.iconst 0, 1) := by decide +kernel
theorem dX4_records_3 : decode cX4_records 3 = .ok (.istore_n 3, 1) := by decide +kernel
theorem dX4_records_4 : decode cX4_records 4 = .ok (.iload_n 3, 1) := by decide +kernel
theorem dX4_records_5 : decode cX4_records 5 = .ok (.sipush 3072, 3) := by decide +kernel
theorem dX4_records_8 : decode cX4_records 8 = .ok (.if_icmp .ge 43, 3) := by decide +kernel
theorem dX4_records_11 : decode cX4_records 11 = .ok (.iload_n 2, 1) := by decide +kernel
theorem dX4_records_12 : decode cX4_records 12 = .ok (.aload_n 0, 1) := by decide +kernel
theorem dX4_records_13 : decode cX4_records 13 = .ok (.iload_n 3, 1) := by decide +kernel
theorem dX4_records_14 : decode cX4_records 14 = .ok (.invokevirtual 112, 3) := by decide +kernel
theorem dX4_records_17 : decode cX4_records 17 = .ok (.ifCond .eq 25, 3) := by decide +kernel
theorem dX4_records_20 : decode cX4_records 20 = .ok (.iload_n 1, 1) := by decide +kernel
theorem dX4_records_21 : decode cX4_records 21 = .ok (.ifCond .eq 17, 3) := by decide +kernel
theorem dX4_records_24 : decode cX4_records 24 = .ok (.aload_n 0, 1) := by decide +kernel
theorem dX4_records_25 : decode cX4_records 25 = .ok (.getfield 7, 3) := by decide +kernel
theorem dX4_records_28 : decode cX4_records 28 = .ok (.sipush 6528, 3) := by decide +kernel
theorem dX4_records_31 : decode cX4_records 31 = .ok (.iload_n 3, 1) := by decide +kernel
theorem dX4_records_32 : decode cX4_records 32 = .ok (.iadd, 1) := by decide +kernel
theorem dX4_records_33 : decode cX4_records 33 = .ok (.iaload, 1) := by decide +kernel
theorem dX4_records_34 : decode cX4_records 34 = .ok (.iload_n 3, 1) := by decide +kernel
theorem dX4_records_35 : decode cX4_records 35 = .ok (.if_icmp .eq 7, 3) := by decide +kernel
theorem dX4_records_38 : decode cX4_records 38 = .ok (.iconst 1, 1) := by decide +kernel
theorem dX4_records_39 : decode cX4_records 39 = .ok (.goto 4, 3) := by decide +kernel
theorem dX4_records_42 : decode cX4_records 42 = .ok (.iconst 0, 1) := by decide +kernel
theorem dX4_records_43 : decode cX4_records 43 = .ok (.iadd, 1) := by decide +kernel
theorem dX4_records_44 : decode cX4_records 44 = .ok (.istore_n 2, 1) := by decide +kernel
theorem dX4_records_45 : decode cX4_records 45 = .ok (.iinc 3 1, 3) := by decide +kernel
theorem dX4_records_48 : decode cX4_records 48 = .ok (.goto (-44), 3) := by decide +kernel
theorem dX4_records_51 : decode cX4_records 51 = .ok (.iload_n 2, 1) := by decide +kernel
theorem dX4_records_52 : decode cX4_records 52 = .ok (.ireturn, 1) := by decide +kernel
theorem dX4_total_0 : decode cX4_total 0 = .ok (.aload_n 0, 1) := by decide +kernel
theorem dX4_total_1 : decode cX4_total 1 = .ok (.iload_n 1, 1) := by decide +kernel
theorem dX4_total_2 : decode cX4_total 2 = .ok (.ifCond .lt 9, 3) := by decide +kernel
theorem dX4_total_5 : decode cX4_total 5 = .ok (.iload_n 1, 1) := by decide +kernel
theorem dX4_total_6 : decode cX4_total 6 = .ok (.bipush 7, 2) := by decide +kernel
theorem dX4_total_8 : decode cX4_total 8 = .ok (.if_icmp .le 7, 3) := by decide +kernel
theorem dX4_total_11 : decode cX4_total 11 = .ok (.iconst 1, 1) := by decide +kernel
theorem dX4_total_12 : decode cX4_total 12 = .ok (.goto 4, 3) := by decide +kernel
theorem dX4_total_15 : decode cX4_total 15 = .ok (.iconst 0, 1) := by decide +kernel
theorem dX4_total_16 : decode cX4_total 16 = .ok (.iconst 1, 1) := by decide +kernel
theorem dX4_total_17 : decode cX4_total 17 = .ok (.invokevirtual 102, 3) := by decide +kernel
theorem dX4_total_20 : decode cX4_total 20 = .ok (.ifCond .eq 5, 3) := by decide +kernel
theorem dX4_total_23 : decode cX4_total 23 = .ok (.iconst 0, 1) := by decide +kernel
theorem dX4_total_24 : decode cX4_total 24 = .ok (.ireturn, 1) := by decide +kernel
theorem dX4_total_25 : decode cX4_total 25 = .ok (.iload_n 1, 1) := by decide +kernel
theorem dX4_total_26 : decode cX4_total 26 = .ok (.tableswitch 82 0 6 #[42, 48, 54, 60, 66, 72, 77], 42) := by decide +kernel
theorem dX4_total_68 : decode cX4_total 68 = .ok (.aload_n 0, 1) := by decide +kernel
theorem dX4_total_69 : decode cX4_total 69 = .ok (.iconst 0, 1) := by decide +kernel
theorem dX4_total_70 : decode cX4_total 70 = .ok (.invokevirtual 134, 3) := by decide +kernel
theorem dX4_total_73 : decode cX4_total 73 = .ok (.ireturn, 1) := by decide +kernel
theorem dX4_total_74 : decode cX4_total 74 = .ok (.aload_n 0, 1) := by decide +kernel
theorem dX4_total_75 : decode cX4_total 75 = .ok (.iconst 0, 1) := by decide +kernel
theorem dX4_total_76 : decode cX4_total 76 = .ok (.invokevirtual 138, 3) := by decide +kernel
theorem dX4_total_79 : decode cX4_total 79 = .ok (.ireturn, 1) := by decide +kernel
theorem dX4_total_80 : decode cX4_total 80 = .ok (.aload_n 0, 1) := by decide +kernel
theorem dX4_total_81 : decode cX4_total 81 = .ok (.iconst 1, 1) := by decide +kernel
theorem dX4_total_82 : decode cX4_total 82 = .ok (.invokevirtual 138, 3) := by decide +kernel
theorem dX4_total_85 : decode cX4_total 85 = .ok (.ireturn, 1) := by decide +kernel
theorem dX4_total_86 : decode cX4_total 86 = .ok (.aload_n 0, 1) := by decide +kernel
theorem dX4_total_87 : decode cX4_total 87 = .ok (.iconst 2, 1) := by decide +kernel
theorem dX4_total_88 : decode cX4_total 88 = .ok (.invokevirtual 138, 3) := by decide +kernel
theorem dX4_total_91 : decode cX4_total 91 = .ok (.ireturn, 1) := by decide +kernel
theorem dX4_total_92 : decode cX4_total 92 = .ok (.aload_n 0, 1) := by decide +kernel
theorem dX4_total_93 : decode cX4_total 93 = .ok (.iconst 1, 1) := by decide +kernel
theorem dX4_total_94 : decode cX4_total 94 = .ok (.invokevirtual 134, 3) := by decide +kernel
theorem dX4_total_97 : decode cX4_total 97 = .ok (.ireturn, 1) := by decide +kernel
theorem dX4_total_98 : decode cX4_total 98 = .ok (.aload_n 0, 1) := by decide +kernel
theorem dX4_total_99 : decode cX4_total 99 = .ok (.getfield 95, 3) := by decide +kernel
theorem dX4_total_102 : decode cX4_total 102 = .ok (.ireturn, 1) := by decide +kernel
theorem dX4_total_103 : decode cX4_total 103 = .ok (.aload_n 0, 1) := by decide +kernel
theorem dX4_total_104 : decode cX4_total 104 = .ok (.getfield 38, 3) := by decide +kernel
theorem dX4_total_107 : decode cX4_total 107 = .ok (.ireturn, 1) := by decide +kernel
theorem dX4_total_108 : decode cX4_total 108 = .ok (.aload_n 0, 1) := by decide +kernel
theorem dX4_total_109 : decode cX4_total 109 = .ok (.getfield 128, 3) := by decide +kernel
theorem dX4_total_112 : decode cX4_total 112 = .ok (.ireturn, 1) := by decide +kernel
theorem dJ9_max_7cf53_0 : decode cJ9_max_7cf53 0 = .ok (.iload_n 0, 1) := by decide +kernel
theorem dJ9_max_7cf53_1 : decode cJ9_max_7cf53 1 = .ok (.iload_n 1, 1) := by decide +kernel
theorem dJ9_max_7cf53_2 : decode cJ9_max_7cf53 2 = .ok (.if_icmp .lt 7, 3) := by decide +kernel
theorem dJ9_max_7cf53_5 : decode cJ9_max_7cf53 5 = .ok (.iload_n 0, 1) := by decide +kernel
theorem dJ9_max_7cf53_6 : decode cJ9_max_7cf53 6 = .ok (.goto 4, 3) := by decide +kernel
theorem dJ9_max_7cf53_9 : decode cJ9_max_7cf53 9 = .ok (.iload_n 1, 1) := by decide +kernel
theorem dJ9_max_7cf53_10 : decode cJ9_max_7cf53 10 = .ok (.ireturn, 1) := by decide +kernel
theorem dJ9_min_7cf53_0 : decode cJ9_min_7cf53 0 = .ok (.iload_n 0, 1) := by decide +kernel
theorem dJ9_min_7cf53_1 : decode cJ9_min_7cf53 1 = .ok (.iload_n 1, 1) := by decide +kernel
theorem dJ9_min_7cf53_2 : decode cJ9_min_7cf53 2 = .ok (.if_icmp .gt 7, 3) := by decide +kernel
theorem dJ9_min_7cf53_5 : decode cJ9_min_7cf53 5 = .ok (.iload_n 0, 1) := by decide +kernel
theorem dJ9_min_7cf53_6 : decode cJ9_min_7cf53 6 = .ok (.goto 4, 3) := by decide +kernel
theorem dJ9_min_7cf53_9 : decode cJ9_min_7cf53 9 = .ok (.iload_n 1, 1) := by decide +kernel
theorem dJ9_min_7cf53_10 : decode cJ9_min_7cf53 10 = .ok (.ireturn, 1) := by decide +kernel
theorem dL_insert_0 : decode cL_insert 0 = .ok (.aload_n 3, 1) := by decide +kernel
theorem dL_insert_1 : decode cL_insert 1 = .ok (.iconst 0, 1) := by decide +kernel
theorem dL_insert_2 : decode cL_insert 2 = .ok (.aload_n 0, 1) := by decide +kernel
theorem dL_insert_3 : decode cL_insert 3 = .ok (.iload_n 1, 1) := by decide +kernel
theorem dL_insert_4 : decode cL_insert 4 = .ok (.iload_n 2, 1) := by decide +kernel
theorem dL_insert_5 : decode cL_insert 5 = .ok (.invokevirtual 7, 3) := by decide +kernel
theorem dL_insert_8 : decode cL_insert 8 = .ok (.i2l, 1) := by decide +kernel
theorem dL_insert_9 : decode cL_insert 9 = .ok (.lastore, 1) := by decide +kernel
theorem dL_insert_10 : decode cL_insert 10 = .ok (.goto 7, 3) := by decide +kernel
theorem dL_insert_13 : decode cL_insert 13 = .ok (.astore 4, 2) := by decide +kernel
theorem dL_insert_15 : decode cL_insert 15 = .ok (.iconst 1, 1) := by decide +kernel
theorem dL_insert_16 : decode cL_insert 16 = .ok (.ireturn, 1) := by decide +kernel
theorem dL_insert_17 : decode cL_insert 17 = .ok (.iconst 0, 1) := by decide +kernel
theorem dL_insert_18 : decode cL_insert 18 = .ok (.ireturn, 1) := by decide +kernel
theorem dL_update_0 : decode cL_update 0 = .ok (.aload 4, 2) := by decide +kernel
theorem dL_update_2 : decode cL_update 2 = .ok (.iconst 0, 1) := by decide +kernel
theorem dL_update_3 : decode cL_update 3 = .ok (.aload_n 0, 1) := by decide +kernel
theorem dL_update_4 : decode cL_update 4 = .ok (.iload_n 1, 1) := by decide +kernel
theorem dL_update_5 : decode cL_update 5 = .ok (.iload_n 2, 1) := by decide +kernel
theorem dL_update_6 : decode cL_update 6 = .ok (.iload_n 3, 1) := by decide +kernel
theorem dL_update_7 : decode cL_update 7 = .ok (.invokevirtual 15, 3) := by decide +kernel
theorem dL_update_10 : decode cL_update 10 = .ok (.ifCond .eq 7, 3) := by decide +kernel
theorem dL_update_13 : decode cL_update 13 = .ok (.lconst 1, 1) := by decide +kernel
theorem dL_update_14 : decode cL_update 14 = .ok (.goto 4, 3) := by decide +kernel
theorem dL_update_17 : decode cL_update 17 = .ok (.lconst 0, 1) := by decide +kernel
theorem dL_update_18 : decode cL_update 18 = .ok (.lastore, 1) := by decide +kernel
theorem dL_update_19 : decode cL_update 19 = .ok (.goto 11, 3) := by decide +kernel
theorem dL_update_22 : decode cL_update 22 = .ok (.astore 5, 2) := by decide +kernel
theorem dL_update_24 : decode cL_update 24 = .ok (.iconst 1, 1) := by decide +kernel
theorem dL_update_25 : decode cL_update 25 = .ok (.ireturn, 1) := by decide +kernel
theorem dL_update_26 : decode cL_update 26 = .ok (.astore 5, 2) := by decide +kernel
theorem dL_update_28 : decode cL_update 28 = .ok (.iconst 2, 1) := by decide +kernel
theorem dL_update_29 : decode cL_update 29 = .ok (.ireturn, 1) := by decide +kernel
theorem dL_update_30 : decode cL_update 30 = .ok (.iconst 0, 1) := by decide +kernel
theorem dL_update_31 : decode cL_update 31 = .ok (.ireturn, 1) := by decide +kernel
theorem dL_delete_0 : decode cL_delete 0 = .ok (.aload_n 2, 1) := by decide +kernel
theorem dL_delete_1 : decode cL_delete 1 = .ok (.iconst 0, 1) := by decide +kernel
theorem dL_delete_2 : decode cL_delete 2 = .ok (.aload_n 0, 1) := by decide +kernel
theorem dL_delete_3 : decode cL_delete 3 = .ok (.iload_n 1, 1) := by decide +kernel
theorem dL_delete_4 : decode cL_delete 4 = .ok (.invokevirtual 21, 3) := by decide +kernel
theorem dL_delete_7 : decode cL_delete 7 = .ok (.i2l, 1) := by decide +kernel
theorem dL_delete_8 : decode cL_delete 8 = .ok (.lastore, 1) := by decide +kernel
theorem dL_delete_9 : decode cL_delete 9 = .ok (.goto 6, 3) := by decide +kernel
theorem dL_delete_12 : decode cL_delete 12 = .ok (.astore_n 3, 1) := by decide +kernel
theorem dL_delete_13 : decode cL_delete 13 = .ok (.iconst 1, 1) := by decide +kernel
theorem dL_delete_14 : decode cL_delete 14 = .ok (.ireturn, 1) := by decide +kernel
theorem dL_delete_15 : decode cL_delete 15 = .ok (.iconst 0, 1) := by decide +kernel
theorem dL_delete_16 : decode cL_delete 16 = .ok (.ireturn, 1) := by decide +kernel
theorem dL_byteAt_0 : decode cL_byteAt 0 = .ok (.aload_n 3, 1) := by decide +kernel
theorem dL_byteAt_1 : decode cL_byteAt 1 = .ok (.iconst 0, 1) := by decide +kernel
theorem dL_byteAt_2 : decode cL_byteAt 2 = .ok (.aload_n 0, 1) := by decide +kernel
theorem dL_byteAt_3 : decode cL_byteAt 3 = .ok (.iload_n 1, 1) := by decide +kernel
theorem dL_byteAt_4 : decode cL_byteAt 4 = .ok (.iload_n 2, 1) := by decide +kernel
theorem dL_byteAt_5 : decode cL_byteAt 5 = .ok (.invokevirtual 25, 3) := by decide +kernel
theorem dL_byteAt_8 : decode cL_byteAt 8 = .ok (.i2l, 1) := by decide +kernel
theorem dL_byteAt_9 : decode cL_byteAt 9 = .ok (.lastore, 1) := by decide +kernel
theorem dL_byteAt_10 : decode cL_byteAt 10 = .ok (.goto 7, 3) := by decide +kernel
theorem dL_byteAt_13 : decode cL_byteAt 13 = .ok (.astore 4, 2) := by decide +kernel
theorem dL_byteAt_15 : decode cL_byteAt 15 = .ok (.iconst 1, 1) := by decide +kernel
theorem dL_byteAt_16 : decode cL_byteAt 16 = .ok (.ireturn, 1) := by decide +kernel
theorem dL_byteAt_17 : decode cL_byteAt 17 = .ok (.iconst 0, 1) := by decide +kernel
theorem dL_byteAt_18 : decode cL_byteAt 18 = .ok (.ireturn, 1) := by decide +kernel
theorem dL_where_0 : decode cL_where 0 = .ok (.aload_n 3, 1) := by decide +kernel
theorem dL_where_1 : decode cL_where 1 = .ok (.iconst 0, 1) := by decide +kernel
theorem dL_where_2 : decode cL_where 2 = .ok (.aload_n 0, 1) := by decide +kernel
theorem dL_where_3 : decode cL_where 3 = .ok (.iload_n 1, 1) := by decide +kernel
theorem dL_where_4 : decode cL_where 4 = .ok (.iload_n 2, 1) := by decide +kernel
theorem dL_where_5 : decode cL_where 5 = .ok (.invokevirtual 28, 3) := by decide +kernel
theorem dL_where_8 : decode cL_where 8 = .ok (.i2l, 1) := by decide +kernel
theorem dL_where_9 : decode cL_where 9 = .ok (.lastore, 1) := by decide +kernel
theorem dL_where_10 : decode cL_where 10 = .ok (.goto 11, 3) := by decide +kernel
theorem dL_where_13 : decode cL_where 13 = .ok (.astore 4, 2) := by decide +kernel
theorem dL_where_15 : decode cL_where 15 = .ok (.iconst 1, 1) := by decide +kernel
theorem dL_where_16 : decode cL_where 16 = .ok (.ireturn, 1) := by decide +kernel
theorem dL_where_17 : decode cL_where 17 = .ok (.astore 4, 2) := by decide +kernel
theorem dL_where_19 : decode cL_where 19 = .ok (.iconst 2, 1) := by decide +kernel
theorem dL_where_20 : decode cL_where 20 = .ok (.ireturn, 1) := by decide +kernel
theorem dL_where_21 : decode cL_where 21 = .ok (.iconst 0, 1) := by decide +kernel
theorem dL_where_22 : decode cL_where 22 = .ok (.ireturn, 1) := by decide +kernel
theorem dL_page_0 : decode cL_page 0 = .ok (.aload_n 3, 1) := by decide +kernel
theorem dL_page_1 : decode cL_page 1 = .ok (.iconst 0, 1) := by decide +kernel
theorem dL_page_2 : decode cL_page 2 = .ok (.aload_n 0, 1) := by decide +kernel
theorem dL_page_3 : decode cL_page 3 = .ok (.iload_n 1, 1) := by decide +kernel
theorem dL_page_4 : decode cL_page 4 = .ok (.iload_n 2, 1) := by decide +kernel
theorem dL_page_5 : decode cL_page 5 = .ok (.invokevirtual 31, 3) := by decide +kernel
theorem dL_page_8 : decode cL_page 8 = .ok (.i2l, 1) := by decide +kernel
theorem dL_page_9 : decode cL_page 9 = .ok (.lastore, 1) := by decide +kernel
theorem dL_page_10 : decode cL_page 10 = .ok (.goto 7, 3) := by decide +kernel
theorem dL_page_13 : decode cL_page 13 = .ok (.astore 4, 2) := by decide +kernel
theorem dL_page_15 : decode cL_page 15 = .ok (.iconst 1, 1) := by decide +kernel
theorem dL_page_16 : decode cL_page 16 = .ok (.ireturn, 1) := by decide +kernel
theorem dL_page_17 : decode cL_page 17 = .ok (.iconst 0, 1) := by decide +kernel
theorem dL_page_18 : decode cL_page 18 = .ok (.ireturn, 1) := by decide +kernel
theorem dL_slot_0 : decode cL_slot 0 = .ok (.aload_n 3, 1) := by decide +kernel
theorem dL_slot_1 : decode cL_slot 1 = .ok (.iconst 0, 1) := by decide +kernel
theorem dL_slot_2 : decode cL_slot 2 = .ok (.aload_n 0, 1) := by decide +kernel
theorem dL_slot_3 : decode cL_slot 3 = .ok (.iload_n 1, 1) := by decide +kernel
theorem dL_slot_4 : decode cL_slot 4 = .ok (.iload_n 2, 1) := by decide +kernel
theorem dL_slot_5 : decode cL_slot 5 = .ok (.invokevirtual 34, 3) := by decide +kernel
theorem dL_slot_8 : decode cL_slot 8 = .ok (.i2l, 1) := by decide +kernel
theorem dL_slot_9 : decode cL_slot 9 = .ok (.lastore, 1) := by decide +kernel
theorem dL_slot_10 : decode cL_slot 10 = .ok (.goto 7, 3) := by decide +kernel
theorem dL_slot_13 : decode cL_slot 13 = .ok (.astore 4, 2) := by decide +kernel
theorem dL_slot_15 : decode cL_slot 15 = .ok (.iconst 1, 1) := by decide +kernel
theorem dL_slot_16 : decode cL_slot 16 = .ok (.ireturn, 1) := by decide +kernel
theorem dL_slot_17 : decode cL_slot 17 = .ok (.iconst 0, 1) := by decide +kernel
theorem dL_slot_18 : decode cL_slot 18 = .ok (.ireturn, 1) := by decide +kernel
theorem dL_crash_0 : decode cL_crash 0 = .ok (.aload_n 2, 1) := by decide +kernel
theorem dL_crash_1 : decode cL_crash 1 = .ok (.iconst 0, 1) := by decide +kernel
theorem dL_crash_2 : decode cL_crash 2 = .ok (.aload_n 0, 1) := by decide +kernel
theorem dL_crash_3 : decode cL_crash 3 = .ok (.iload_n 1, 1) := by decide +kernel
theorem dL_crash_4 : decode cL_crash 4 = .ok (.invokevirtual 37, 3) := by decide +kernel
theorem dL_crash_7 : decode cL_crash 7 = .ok (.i2l, 1) := by decide +kernel
theorem dL_crash_8 : decode cL_crash 8 = .ok (.lastore, 1) := by decide +kernel
theorem dL_crash_9 : decode cL_crash 9 = .ok (.goto 6, 3) := by decide +kernel
theorem dL_crash_12 : decode cL_crash 12 = .ok (.astore_n 3, 1) := by decide +kernel
theorem dL_crash_13 : decode cL_crash 13 = .ok (.iconst 1, 1) := by decide +kernel
theorem dL_crash_14 : decode cL_crash 14 = .ok (.ireturn, 1) := by decide +kernel
theorem dL_crash_15 : decode cL_crash 15 = .ok (.iconst 0, 1) := by decide +kernel
theorem dL_crash_16 : decode cL_crash 16 = .ok (.ireturn, 1) := by decide +kernel
theorem dL_total_0 : decode cL_total 0 = .ok (.aload_n 2, 1) := by decide +kernel
theorem dL_total_1 : decode cL_total 1 = .ok (.iconst 0, 1) := by decide +kernel
theorem dL_total_2 : decode cL_total 2 = .ok (.aload_n 0, 1) := by decide +kernel
theorem dL_total_3 : decode cL_total 3 = .ok (.iload_n 1, 1) := by decide +kernel
theorem dL_total_4 : decode cL_total 4 = .ok (.invokevirtual 40, 3) := by decide +kernel
theorem dL_total_7 : decode cL_total 7 = .ok (.i2l, 1) := by decide +kernel
theorem dL_total_8 : decode cL_total 8 = .ok (.lastore, 1) := by decide +kernel
theorem dL_total_9 : decode cL_total 9 = .ok (.goto 6, 3) := by decide +kernel
theorem dL_total_12 : decode cL_total 12 = .ok (.astore_n 3, 1) := by decide +kernel
theorem dL_total_13 : decode cL_total 13 = .ok (.iconst 1, 1) := by decide +kernel
theorem dL_total_14 : decode cL_total 14 = .ok (.ireturn, 1) := by decide +kernel
theorem dL_total_15 : decode cL_total 15 = .ok (.iconst 0, 1) := by decide +kernel
theorem dL_total_16 : decode cL_total 16 = .ok (.ireturn, 1) := by decide +kernel
theorem dL_law_0 : decode cL_law 0 = .ok (.new 8, 3) := by decide +kernel
theorem dL_law_3 : decode cL_law 3 = .ok (.dup, 1) := by decide +kernel
theorem dL_law_4 : decode cL_law 4 = .ok (.invokespecial 43, 3) := by decide +kernel
theorem dL_law_7 : decode cL_law 7 = .ok (.astore_n 1, 1) := by decide +kernel
theorem dL_law_8 : decode cL_law 8 = .ok (.new 44, 3) := by decide +kernel
theorem dL_law_11 : decode cL_law 11 = .ok (.dup, 1) := by decide +kernel
theorem dL_law_12 : decode cL_law 12 = .ok (.invokespecial 46, 3) := by decide +kernel
theorem dL_law_15 : decode cL_law 15 = .ok (.astore_n 2, 1) := by decide +kernel
theorem dL_law_16 : decode cL_law 16 = .ok (.iconst 1, 1) := by decide +kernel
theorem dL_law_17 : decode cL_law 17 = .ok (.newarray .long, 2) := by decide +kernel
theorem dL_law_19 : decode cL_law 19 = .ok (.astore_n 3, 1) := by decide +kernel
theorem dL_law_20 : decode cL_law 20 = .ok (.iconst 0, 1) := by decide +kernel
theorem dL_law_21 : decode cL_law 21 = .ok (.istore 4, 2) := by decide +kernel
theorem dL_law_23 : decode cL_law 23 = .ok (.iload 4, 2) := by decide +kernel
theorem dL_law_25 : decode cL_law 25 = .ok (.aload_n 0, 1) := by decide +kernel
theorem dL_law_26 : decode cL_law 26 = .ok (.arraylength, 1) := by decide +kernel
theorem dL_law_27 : decode cL_law 27 = .ok (.iconst 4, 1) := by decide +kernel
theorem dL_law_28 : decode cL_law 28 = .ok (.isub, 1) := by decide +kernel
theorem dL_law_29 : decode cL_law 29 = .ok (.if_icmp .gt 735, 3) := by decide +kernel
theorem dL_law_32 : decode cL_law 32 = .ok (.aload_n 0, 1) := by decide +kernel
theorem dL_law_33 : decode cL_law 33 = .ok (.iload 4, 2) := by decide +kernel
theorem dL_law_35 : decode cL_law 35 = .ok (.iaload, 1) := by decide +kernel
theorem dL_law_36 : decode cL_law 36 = .ok (.bipush 15, 2) := by decide +kernel
theorem dL_law_38 : decode cL_law 38 = .ok (.iand, 1) := by decide +kernel
theorem dL_law_39 : decode cL_law 39 = .ok (.tableswitch 719 0 11 #[61, 129, 216, 272, 297, 365, 433, 458, 526, 594, 607, 663], 61) := by decide +kernel
theorem dL_law_100 : decode cL_law 100 = .ok (.aload_n 1, 1) := by decide +kernel
theorem dL_law_101 : decode cL_law 101 = .ok (.aload_n 0, 1) := by decide +kernel
theorem dL_law_102 : decode cL_law 102 = .ok (.iload 4, 2) := by decide +kernel
theorem dL_law_104 : decode cL_law 104 = .ok (.iconst 1, 1) := by decide +kernel
theorem dL_law_105 : decode cL_law 105 = .ok (.iadd, 1) := by decide +kernel
theorem dL_law_106 : decode cL_law 106 = .ok (.iaload, 1) := by decide +kernel
theorem dL_law_107 : decode cL_law 107 = .ok (.aload_n 0, 1) := by decide +kernel
theorem dL_law_108 : decode cL_law 108 = .ok (.iload 4, 2) := by decide +kernel
theorem dL_law_110 : decode cL_law 110 = .ok (.iconst 2, 1) := by decide +kernel
theorem dL_law_111 : decode cL_law 111 = .ok (.iadd, 1) := by decide +kernel
theorem dL_law_112 : decode cL_law 112 = .ok (.iaload, 1) := by decide +kernel
theorem dL_law_113 : decode cL_law 113 = .ok (.aload_n 3, 1) := by decide +kernel
theorem dL_law_114 : decode cL_law 114 = .ok (.invokestatic 47, 3) := by decide +kernel
theorem dL_law_117 : decode cL_law 117 = .ok (.istore 5, 2) := by decide +kernel
theorem dL_law_119 : decode cL_law 119 = .ok (.aload_n 2, 1) := by decide +kernel
theorem dL_law_120 : decode cL_law 120 = .ok (.aload_n 0, 1) := by decide +kernel
theorem dL_law_121 : decode cL_law 121 = .ok (.iload 4, 2) := by decide +kernel
theorem dL_law_123 : decode cL_law 123 = .ok (.iconst 1, 1) := by decide +kernel
theorem dL_law_124 : decode cL_law 124 = .ok (.iadd, 1) := by decide +kernel
theorem dL_law_125 : decode cL_law 125 = .ok (.iaload, 1) := by decide +kernel
theorem dL_law_126 : decode cL_law 126 = .ok (.aload_n 0, 1) := by decide +kernel
theorem dL_law_127 : decode cL_law 127 = .ok (.iload 4, 2) := by decide +kernel
theorem dL_law_129 : decode cL_law 129 = .ok (.iconst 2, 1) := by decide +kernel
theorem dL_law_130 : decode cL_law 130 = .ok (.iadd, 1) := by decide +kernel
theorem dL_law_131 : decode cL_law 131 = .ok (.iaload, 1) := by decide +kernel
theorem dL_law_132 : decode cL_law 132 = .ok (.invokevirtual 52, 3) := by decide +kernel
theorem dL_law_135 : decode cL_law 135 = .ok (.istore 6, 2) := by decide +kernel
theorem dL_law_137 : decode cL_law 137 = .ok (.aload_n 2, 1) := by decide +kernel
theorem dL_law_138 : decode cL_law 138 = .ok (.invokevirtual 53, 3) := by decide +kernel
theorem dL_law_141 : decode cL_law 141 = .ok (.iload 5, 2) := by decide +kernel
theorem dL_law_143 : decode cL_law 143 = .ok (.if_icmp .eq 5, 3) := by decide +kernel
theorem dL_law_146 : decode cL_law 146 = .ok (.iconst 0, 1) := by decide +kernel
theorem dL_law_147 : decode cL_law 147 = .ok (.ireturn, 1) := by decide +kernel
theorem dL_law_148 : decode cL_law 148 = .ok (.iload 5, 2) := by decide +kernel
theorem dL_law_150 : decode cL_law 150 = .ok (.ifCond .ne 15, 3) := by decide +kernel
theorem dL_law_153 : decode cL_law 153 = .ok (.aload_n 3, 1) := by decide +kernel
theorem dL_law_154 : decode cL_law 154 = .ok (.iconst 0, 1) := by decide +kernel
theorem dL_law_155 : decode cL_law 155 = .ok (.laload, 1) := by decide +kernel
theorem dL_law_156 : decode cL_law 156 = .ok (.iload 6, 2) := by decide +kernel
theorem dL_law_158 : decode cL_law 158 = .ok (.i2l, 1) := by decide +kernel
theorem dL_law_159 : decode cL_law 159 = .ok (.lcmp, 1) := by decide +kernel
theorem dL_law_160 : decode cL_law 160 = .ok (.ifCond .eq 5, 3) := by decide +kernel
theorem dL_law_163 : decode cL_law 163 = .ok (.iconst 0, 1) := by decide +kernel
theorem dL_law_164 : decode cL_law 164 = .ok (.ireturn, 1) := by decide +kernel
theorem dL_law_165 : decode cL_law 165 = .ok (.goto 593, 3) := by decide +kernel
theorem dL_law_168 : decode cL_law 168 = .ok (.aload_n 1, 1) := by decide +kernel
theorem dL_law_169 : decode cL_law 169 = .ok (.aload_n 0, 1) := by decide +kernel
theorem dL_law_170 : decode cL_law 170 = .ok (.iload 4, 2) := by decide +kernel
theorem dL_law_172 : decode cL_law 172 = .ok (.iconst 1, 1) := by decide +kernel
theorem dL_law_173 : decode cL_law 173 = .ok (.iadd, 1) := by decide +kernel
theorem dL_law_174 : decode cL_law 174 = .ok (.iaload, 1) := by decide +kernel
theorem dL_law_175 : decode cL_law 175 = .ok (.aload_n 0, 1) := by decide +kernel
theorem dL_law_176 : decode cL_law 176 = .ok (.iload 4, 2) := by decide +kernel
theorem dL_law_178 : decode cL_law 178 = .ok (.iconst 2, 1) := by decide +kernel
theorem dL_law_179 : decode cL_law 179 = .ok (.iadd, 1) := by decide +kernel
theorem dL_law_180 : decode cL_law 180 = .ok (.iaload, 1) := by decide +kernel
theorem dL_law_181 : decode cL_law 181 = .ok (.aload_n 0, 1) := by decide +kernel
theorem dL_law_182 : decode cL_law 182 = .ok (.iload 4, 2) := by decide +kernel
theorem dL_law_184 : decode cL_law 184 = .ok (.iconst 3, 1) := by decide +kernel
theorem dL_law_185 : decode cL_law 185 = .ok (.iadd, 1) := by decide +kernel
theorem dL_law_186 : decode cL_law 186 = .ok (.iaload, 1) := by decide +kernel
theorem dL_law_187 : decode cL_law 187 = .ok (.aload_n 3, 1) := by decide +kernel
theorem dL_law_188 : decode cL_law 188 = .ok (.invokestatic 57, 3) := by decide +kernel
theorem dL_law_191 : decode cL_law 191 = .ok (.istore 5, 2) := by decide +kernel
theorem dL_law_193 : decode cL_law 193 = .ok (.aload_n 2, 1) := by decide +kernel
theorem dL_law_194 : decode cL_law 194 = .ok (.aload_n 0, 1) := by decide +kernel
theorem dL_law_195 : decode cL_law 195 = .ok (.iload 4, 2) := by decide +kernel
theorem dL_law_197 : decode cL_law 197 = .ok (.iconst 1, 1) := by decide +kernel
theorem dL_law_198 : decode cL_law 198 = .ok (.iadd, 1) := by decide +kernel
theorem dL_law_199 : decode cL_law 199 = .ok (.iaload, 1) := by decide +kernel
theorem dL_law_200 : decode cL_law 200 = .ok (.aload_n 0, 1) := by decide +kernel
theorem dL_law_201 : decode cL_law 201 = .ok (.iload 4, 2) := by decide +kernel
theorem dL_law_203 : decode cL_law 203 = .ok (.iconst 2, 1) := by decide +kernel
theorem dL_law_204 : decode cL_law 204 = .ok (.iadd, 1) := by decide +kernel
theorem dL_law_205 : decode cL_law 205 = .ok (.iaload, 1) := by decide +kernel
theorem dL_law_206 : decode cL_law 206 = .ok (.aload_n 0, 1) := by decide +kernel
theorem dL_law_207 : decode cL_law 207 = .ok (.iload 4, 2) := by decide +kernel
theorem dL_law_209 : decode cL_law 209 = .ok (.iconst 3, 1) := by decide +kernel
theorem dL_law_210 : decode cL_law 210 = .ok (.iadd, 1) := by decide +kernel
theorem dL_law_211 : decode cL_law 211 = .ok (.iaload, 1) := by decide +kernel
theorem dL_law_212 : decode cL_law 212 = .ok (.invokevirtual 60, 3) := by decide +kernel
theorem dL_law_215 : decode cL_law 215 = .ok (.istore 6, 2) := by decide +kernel
theorem dL_law_217 : decode cL_law 217 = .ok (.aload_n 2, 1) := by decide +kernel
theorem dL_law_218 : decode cL_law 218 = .ok (.invokevirtual 53, 3) := by decide +kernel
theorem dL_law_221 : decode cL_law 221 = .ok (.iload 5, 2) := by decide +kernel
theorem dL_law_223 : decode cL_law 223 = .ok (.if_icmp .eq 5, 3) := by decide +kernel
theorem dL_law_226 : decode cL_law 226 = .ok (.iconst 0, 1) := by decide +kernel
theorem dL_law_227 : decode cL_law 227 = .ok (.ireturn, 1) := by decide +kernel
theorem dL_law_228 : decode cL_law 228 = .ok (.iload 5, 2) := by decide +kernel
theorem dL_law_230 : decode cL_law 230 = .ok (.ifCond .ne 22, 3) := by decide +kernel
theorem dL_law_233 : decode cL_law 233 = .ok (.aload_n 3, 1) := by decide +kernel
theorem dL_law_234 : decode cL_law 234 = .ok (.iconst 0, 1) := by decide +kernel
theorem dL_law_235 : decode cL_law 235 = .ok (.laload, 1) := by decide +kernel
theorem dL_law_236 : decode cL_law 236 = .ok (.iload 6, 2) := by decide +kernel
theorem dL_law_238 : decode cL_law 238 = .ok (.ifCond .eq 7, 3) := by decide +kernel
theorem dL_law_241 : decode cL_law 241 = .ok (.lconst 1, 1) := by decide +kernel
theorem dL_law_242 : decode cL_law 242 = .ok (.goto 4, 3) := by decide +kernel
theorem dL_law_245 : decode cL_law 245 = .ok (.lconst 0, 1) := by decide +kernel
theorem dL_law_246 : decode cL_law 246 = .ok (.lcmp, 1) := by decide +kernel
theorem dL_law_247 : decode cL_law 247 = .ok (.ifCond .eq 5, 3) := by decide +kernel
theorem dL_law_250 : decode cL_law 250 = .ok (.iconst 0, 1) := by decide +kernel
theorem dL_law_251 : decode cL_law 251 = .ok (.ireturn, 1) := by decide +kernel
theorem dL_law_252 : decode cL_law 252 = .ok (.goto 506, 3) := by decide +kernel
theorem dL_law_255 : decode cL_law 255 = .ok (.aload_n 1, 1) := by decide +kernel
theorem dL_law_256 : decode cL_law 256 = .ok (.aload_n 0, 1) := by decide +kernel
theorem dL_law_257 : decode cL_law 257 = .ok (.iload 4, 2) := by decide +kernel
theorem dL_law_259 : decode cL_law 259 = .ok (.iconst 1, 1) := by decide +kernel
theorem dL_law_260 : decode cL_law 260 = .ok (.iadd, 1) := by decide +kernel
theorem dL_law_261 : decode cL_law 261 = .ok (.iaload, 1) := by decide +kernel
theorem dL_law_262 : decode cL_law 262 = .ok (.aload_n 3, 1) := by decide +kernel
theorem dL_law_263 : decode cL_law 263 = .ok (.invokestatic 61, 3) := by decide +kernel
theorem dL_law_266 : decode cL_law 266 = .ok (.istore 5, 2) := by decide +kernel
theorem dL_law_268 : decode cL_law 268 = .ok (.aload_n 2, 1) := by decide +kernel
theorem dL_law_269 : decode cL_law 269 = .ok (.aload_n 0, 1) := by decide +kernel
theorem dL_law_270 : decode cL_law 270 = .ok (.iload 4, 2) := by decide +kernel
theorem dL_law_272 : decode cL_law 272 = .ok (.iconst 1, 1) := by decide +kernel
theorem dL_law_273 : decode cL_law 273 = .ok (.iadd, 1) := by decide +kernel
theorem dL_law_274 : decode cL_law 274 = .ok (.iaload, 1) := by decide +kernel
theorem dL_law_275 : decode cL_law 275 = .ok (.invokevirtual 64, 3) := by decide +kernel
theorem dL_law_278 : decode cL_law 278 = .ok (.istore 6, 2) := by decide +kernel
theorem dL_law_280 : decode cL_law 280 = .ok (.aload_n 2, 1) := by decide +kernel
theorem dL_law_281 : decode cL_law 281 = .ok (.invokevirtual 53, 3) := by decide +kernel
theorem dL_law_284 : decode cL_law 284 = .ok (.iload 5, 2) := by decide +kernel
theorem dL_law_286 : decode cL_law 286 = .ok (.if_icmp .eq 5, 3) := by decide +kernel
theorem dL_law_289 : decode cL_law 289 = .ok (.iconst 0, 1) := by decide +kernel
theorem dL_law_290 : decode cL_law 290 = .ok (.ireturn, 1) := by decide +kernel
theorem dL_law_291 : decode cL_law 291 = .ok (.iload 5, 2) := by decide +kernel
theorem dL_law_293 : decode cL_law 293 = .ok (.ifCond .ne 15, 3) := by decide +kernel
theorem dL_law_296 : decode cL_law 296 = .ok (.aload_n 3, 1) := by decide +kernel
theorem dL_law_297 : decode cL_law 297 = .ok (.iconst 0, 1) := by decide +kernel
theorem dL_law_298 : decode cL_law 298 = .ok (.laload, 1) := by decide +kernel
theorem dL_law_299 : decode cL_law 299 = .ok (.iload 6, 2) := by decide +kernel
theorem dL_law_301 : decode cL_law 301 = .ok (.i2l, 1) := by decide +kernel
theorem dL_law_302 : decode cL_law 302 = .ok (.lcmp, 1) := by decide +kernel
theorem dL_law_303 : decode cL_law 303 = .ok (.ifCond .eq 5, 3) := by decide +kernel
theorem dL_law_306 : decode cL_law 306 = .ok (.iconst 0, 1) := by decide +kernel
theorem dL_law_307 : decode cL_law 307 = .ok (.ireturn, 1) := by decide +kernel
theorem dL_law_308 : decode cL_law 308 = .ok (.goto 450, 3) := by decide +kernel
theorem dL_law_311 : decode cL_law 311 = .ok (.aload_n 1, 1) := by decide +kernel
theorem dL_law_312 : decode cL_law 312 = .ok (.aload_n 0, 1) := by decide +kernel
theorem dL_law_313 : decode cL_law 313 = .ok (.iload 4, 2) := by decide +kernel
theorem dL_law_315 : decode cL_law 315 = .ok (.iconst 1, 1) := by decide +kernel
theorem dL_law_316 : decode cL_law 316 = .ok (.iadd, 1) := by decide +kernel
theorem dL_law_317 : decode cL_law 317 = .ok (.iaload, 1) := by decide +kernel
theorem dL_law_318 : decode cL_law 318 = .ok (.invokevirtual 65, 3) := by decide +kernel
theorem dL_law_321 : decode cL_law 321 = .ok (.aload_n 2, 1) := by decide +kernel
theorem dL_law_322 : decode cL_law 322 = .ok (.aload_n 0, 1) := by decide +kernel
theorem dL_law_323 : decode cL_law 323 = .ok (.iload 4, 2) := by decide +kernel
theorem dL_law_325 : decode cL_law 325 = .ok (.iconst 1, 1) := by decide +kernel
theorem dL_law_326 : decode cL_law 326 = .ok (.iadd, 1) := by decide +kernel
theorem dL_law_327 : decode cL_law 327 = .ok (.iaload, 1) := by decide +kernel
theorem dL_law_328 : decode cL_law 328 = .ok (.invokevirtual 68, 3) := by decide +kernel
theorem dL_law_331 : decode cL_law 331 = .ok (.if_icmp .eq 427, 3) := by decide +kernel
theorem dL_law_334 : decode cL_law 334 = .ok (.iconst 0, 1) := by decide +kernel
theorem dL_law_335 : decode cL_law 335 = .ok (.ireturn, 1) := by decide +kernel
theorem dL_law_336 : decode cL_law 336 = .ok (.aload_n 1, 1) := by decide +kernel
theorem dL_law_337 : decode cL_law 337 = .ok (.aload_n 0, 1) := by decide +kernel
theorem dL_law_338 : decode cL_law 338 = .ok (.iload 4, 2) := by decide +kernel
theorem dL_law_340 : decode cL_law 340 = .ok (.iconst 1, 1) := by decide +kernel
theorem dL_law_341 : decode cL_law 341 = .ok (.iadd, 1) := by decide +kernel
theorem dL_law_342 : decode cL_law 342 = .ok (.iaload, 1) := by decide +kernel
theorem dL_law_343 : decode cL_law 343 = .ok (.aload_n 0, 1) := by decide +kernel
theorem dL_law_344 : decode cL_law 344 = .ok (.iload 4, 2) := by decide +kernel
theorem dL_law_346 : decode cL_law 346 = .ok (.iconst 2, 1) := by decide +kernel
theorem dL_law_347 : decode cL_law 347 = .ok (.iadd, 1) := by decide +kernel
theorem dL_law_348 : decode cL_law 348 = .ok (.iaload, 1) := by decide +kernel
theorem dL_law_349 : decode cL_law 349 = .ok (.aload_n 3, 1) := by decide +kernel
theorem dL_law_350 : decode cL_law 350 = .ok (.invokestatic 69, 3) := by decide +kernel
theorem dL_law_353 : decode cL_law 353 = .ok (.istore 5, 2) := by decide +kernel
theorem dL_law_355 : decode cL_law 355 = .ok (.aload_n 2, 1) := by decide +kernel
theorem dL_law_356 : decode cL_law 356 = .ok (.aload_n 0, 1) := by decide +kernel
theorem dL_law_357 : decode cL_law 357 = .ok (.iload 4, 2) := by decide +kernel
theorem dL_law_359 : decode cL_law 359 = .ok (.iconst 1, 1) := by decide +kernel
theorem dL_law_360 : decode cL_law 360 = .ok (.iadd, 1) := by decide +kernel
theorem dL_law_361 : decode cL_law 361 = .ok (.iaload, 1) := by decide +kernel
theorem dL_law_362 : decode cL_law 362 = .ok (.aload_n 0, 1) := by decide +kernel
theorem dL_law_363 : decode cL_law 363 = .ok (.iload 4, 2) := by decide +kernel
theorem dL_law_365 : decode cL_law 365 = .ok (.iconst 2, 1) := by decide +kernel
theorem dL_law_366 : decode cL_law 366 = .ok (.iadd, 1) := by decide +kernel
theorem dL_law_367 : decode cL_law 367 = .ok (.iaload, 1) := by decide +kernel
theorem dL_law_368 : decode cL_law 368 = .ok (.invokevirtual 71, 3) := by decide +kernel
theorem dL_law_371 : decode cL_law 371 = .ok (.istore 6, 2) := by decide +kernel
theorem dL_law_373 : decode cL_law 373 = .ok (.aload_n 2, 1) := by decide +kernel
theorem dL_law_374 : decode cL_law 374 = .ok (.invokevirtual 53, 3) := by decide +kernel
theorem dL_law_377 : decode cL_law 377 = .ok (.iload 5, 2) := by decide +kernel
theorem dL_law_379 : decode cL_law 379 = .ok (.if_icmp .eq 5, 3) := by decide +kernel
theorem dL_law_382 : decode cL_law 382 = .ok (.iconst 0, 1) := by decide +kernel
theorem dL_law_383 : decode cL_law 383 = .ok (.ireturn, 1) := by decide +kernel
theorem dL_law_384 : decode cL_law 384 = .ok (.iload 5, 2) := by decide +kernel
theorem dL_law_386 : decode cL_law 386 = .ok (.ifCond .ne 15, 3) := by decide +kernel
theorem dL_law_389 : decode cL_law 389 = .ok (.aload_n 3, 1) := by decide +kernel
theorem dL_law_390 : decode cL_law 390 = .ok (.iconst 0, 1) := by decide +kernel
theorem dL_law_391 : decode cL_law 391 = .ok (.laload, 1) := by decide +kernel
theorem dL_law_392 : decode cL_law 392 = .ok (.iload 6, 2) := by decide +kernel
theorem dL_law_394 : decode cL_law 394 = .ok (.i2l, 1) := by decide +kernel
theorem dL_law_395 : decode cL_law 395 = .ok (.lcmp, 1) := by decide +kernel
theorem dL_law_396 : decode cL_law 396 = .ok (.ifCond .eq 5, 3) := by decide +kernel
theorem dL_law_399 : decode cL_law 399 = .ok (.iconst 0, 1) := by decide +kernel
theorem dL_law_400 : decode cL_law 400 = .ok (.ireturn, 1) := by decide +kernel
theorem dL_law_401 : decode cL_law 401 = .ok (.goto 357, 3) := by decide +kernel
theorem dL_law_404 : decode cL_law 404 = .ok (.aload_n 1, 1) := by decide +kernel
theorem dL_law_405 : decode cL_law 405 = .ok (.aload_n 0, 1) := by decide +kernel
theorem dL_law_406 : decode cL_law 406 = .ok (.iload 4, 2) := by decide +kernel
theorem dL_law_408 : decode cL_law 408 = .ok (.iconst 1, 1) := by decide +kernel
theorem dL_law_409 : decode cL_law 409 = .ok (.iadd, 1) := by decide +kernel
theorem dL_law_410 : decode cL_law 410 = .ok (.iaload, 1) := by decide +kernel
theorem dL_law_411 : decode cL_law 411 = .ok (.aload_n 0, 1) := by decide +kernel
theorem dL_law_412 : decode cL_law 412 = .ok (.iload 4, 2) := by decide +kernel
theorem dL_law_414 : decode cL_law 414 = .ok (.iconst 2, 1) := by decide +kernel
theorem dL_law_415 : decode cL_law 415 = .ok (.iadd, 1) := by decide +kernel
theorem dL_law_416 : decode cL_law 416 = .ok (.iaload, 1) := by decide +kernel
theorem dL_law_417 : decode cL_law 417 = .ok (.aload_n 3, 1) := by decide +kernel
theorem dL_law_418 : decode cL_law 418 = .ok (.invokestatic 72, 3) := by decide +kernel
theorem dL_law_421 : decode cL_law 421 = .ok (.istore 5, 2) := by decide +kernel
theorem dL_law_423 : decode cL_law 423 = .ok (.aload_n 2, 1) := by decide +kernel
theorem dL_law_424 : decode cL_law 424 = .ok (.aload_n 0, 1) := by decide +kernel
theorem dL_law_425 : decode cL_law 425 = .ok (.iload 4, 2) := by decide +kernel
theorem dL_law_427 : decode cL_law 427 = .ok (.iconst 1, 1) := by decide +kernel
theorem dL_law_428 : decode cL_law 428 = .ok (.iadd, 1) := by decide +kernel
theorem dL_law_429 : decode cL_law 429 = .ok (.iaload, 1) := by decide +kernel
theorem dL_law_430 : decode cL_law 430 = .ok (.aload_n 0, 1) := by decide +kernel
theorem dL_law_431 : decode cL_law 431 = .ok (.iload 4, 2) := by decide +kernel
theorem dL_law_433 : decode cL_law 433 = .ok (.iconst 2, 1) := by decide +kernel
theorem dL_law_434 : decode cL_law 434 = .ok (.iadd, 1) := by decide +kernel
theorem dL_law_435 : decode cL_law 435 = .ok (.iaload, 1) := by decide +kernel
theorem dL_law_436 : decode cL_law 436 = .ok (.invokevirtual 74, 3) := by decide +kernel
theorem dL_law_439 : decode cL_law 439 = .ok (.istore 6, 2) := by decide +kernel
theorem dL_law_441 : decode cL_law 441 = .ok (.aload_n 2, 1) := by decide +kernel
theorem dL_law_442 : decode cL_law 442 = .ok (.invokevirtual 53, 3) := by decide +kernel
theorem dL_law_445 : decode cL_law 445 = .ok (.iload 5, 2) := by decide +kernel
theorem dL_law_447 : decode cL_law 447 = .ok (.if_icmp .eq 5, 3) := by decide +kernel
theorem dL_law_450 : decode cL_law 450 = .ok (.iconst 0, 1) := by decide +kernel
theorem dL_law_451 : decode cL_law 451 = .ok (.ireturn, 1) := by decide +kernel
theorem dL_law_452 : decode cL_law 452 = .ok (.iload 5, 2) := by decide +kernel
theorem dL_law_454 : decode cL_law 454 = .ok (.ifCond .ne 15, 3) := by decide +kernel
theorem dL_law_457 : decode cL_law 457 = .ok (.aload_n 3, 1) := by decide +kernel
theorem dL_law_458 : decode cL_law 458 = .ok (.iconst 0, 1) := by decide +kernel
theorem dL_law_459 : decode cL_law 459 = .ok (.laload, 1) := by decide +kernel
theorem dL_law_460 : decode cL_law 460 = .ok (.iload 6, 2) := by decide +kernel
theorem dL_law_462 : decode cL_law 462 = .ok (.i2l, 1) := by decide +kernel
theorem dL_law_463 : decode cL_law 463 = .ok (.lcmp, 1) := by decide +kernel
theorem dL_law_464 : decode cL_law 464 = .ok (.ifCond .eq 5, 3) := by decide +kernel
theorem dL_law_467 : decode cL_law 467 = .ok (.iconst 0, 1) := by decide +kernel
theorem dL_law_468 : decode cL_law 468 = .ok (.ireturn, 1) := by decide +kernel
theorem dL_law_469 : decode cL_law 469 = .ok (.goto 289, 3) := by decide +kernel
theorem dL_law_472 : decode cL_law 472 = .ok (.aload_n 1, 1) := by decide +kernel
theorem dL_law_473 : decode cL_law 473 = .ok (.aload_n 0, 1) := by decide +kernel
theorem dL_law_474 : decode cL_law 474 = .ok (.iload 4, 2) := by decide +kernel
theorem dL_law_476 : decode cL_law 476 = .ok (.iconst 1, 1) := by decide +kernel
theorem dL_law_477 : decode cL_law 477 = .ok (.iadd, 1) := by decide +kernel
theorem dL_law_478 : decode cL_law 478 = .ok (.iaload, 1) := by decide +kernel
theorem dL_law_479 : decode cL_law 479 = .ok (.invokevirtual 75, 3) := by decide +kernel
theorem dL_law_482 : decode cL_law 482 = .ok (.aload_n 2, 1) := by decide +kernel
theorem dL_law_483 : decode cL_law 483 = .ok (.aload_n 0, 1) := by decide +kernel
theorem dL_law_484 : decode cL_law 484 = .ok (.iload 4, 2) := by decide +kernel
theorem dL_law_486 : decode cL_law 486 = .ok (.iconst 1, 1) := by decide +kernel
theorem dL_law_487 : decode cL_law 487 = .ok (.iadd, 1) := by decide +kernel
theorem dL_law_488 : decode cL_law 488 = .ok (.iaload, 1) := by decide +kernel
theorem dL_law_489 : decode cL_law 489 = .ok (.invokevirtual 78, 3) := by decide +kernel
theorem dL_law_492 : decode cL_law 492 = .ok (.if_icmp .eq 266, 3) := by decide +kernel
theorem dL_law_495 : decode cL_law 495 = .ok (.iconst 0, 1) := by decide +kernel
theorem dL_law_496 : decode cL_law 496 = .ok (.ireturn, 1) := by decide +kernel
theorem dL_law_497 : decode cL_law 497 = .ok (.aload_n 1, 1) := by decide +kernel
theorem dL_law_498 : decode cL_law 498 = .ok (.aload_n 0, 1) := by decide +kernel
theorem dL_law_499 : decode cL_law 499 = .ok (.iload 4, 2) := by decide +kernel
theorem dL_law_501 : decode cL_law 501 = .ok (.iconst 1, 1) := by decide +kernel
theorem dL_law_502 : decode cL_law 502 = .ok (.iadd, 1) := by decide +kernel
theorem dL_law_503 : decode cL_law 503 = .ok (.iaload, 1) := by decide +kernel
theorem dL_law_504 : decode cL_law 504 = .ok (.aload_n 0, 1) := by decide +kernel
theorem dL_law_505 : decode cL_law 505 = .ok (.iload 4, 2) := by decide +kernel
theorem dL_law_507 : decode cL_law 507 = .ok (.iconst 2, 1) := by decide +kernel
theorem dL_law_508 : decode cL_law 508 = .ok (.iadd, 1) := by decide +kernel
theorem dL_law_509 : decode cL_law 509 = .ok (.iaload, 1) := by decide +kernel
theorem dL_law_510 : decode cL_law 510 = .ok (.aload_n 3, 1) := by decide +kernel
theorem dL_law_511 : decode cL_law 511 = .ok (.invokestatic 79, 3) := by decide +kernel
theorem dL_law_514 : decode cL_law 514 = .ok (.istore 5, 2) := by decide +kernel
theorem dL_law_516 : decode cL_law 516 = .ok (.aload_n 2, 1) := by decide +kernel
theorem dL_law_517 : decode cL_law 517 = .ok (.aload_n 0, 1) := by decide +kernel
theorem dL_law_518 : decode cL_law 518 = .ok (.iload 4, 2) := by decide +kernel
theorem dL_law_520 : decode cL_law 520 = .ok (.iconst 1, 1) := by decide +kernel
theorem dL_law_521 : decode cL_law 521 = .ok (.iadd, 1) := by decide +kernel
theorem dL_law_522 : decode cL_law 522 = .ok (.iaload, 1) := by decide +kernel
theorem dL_law_523 : decode cL_law 523 = .ok (.aload_n 0, 1) := by decide +kernel
theorem dL_law_524 : decode cL_law 524 = .ok (.iload 4, 2) := by decide +kernel
theorem dL_law_526 : decode cL_law 526 = .ok (.iconst 2, 1) := by decide +kernel
theorem dL_law_527 : decode cL_law 527 = .ok (.iadd, 1) := by decide +kernel
theorem dL_law_528 : decode cL_law 528 = .ok (.iaload, 1) := by decide +kernel
theorem dL_law_529 : decode cL_law 529 = .ok (.invokevirtual 81, 3) := by decide +kernel
theorem dL_law_532 : decode cL_law 532 = .ok (.istore 6, 2) := by decide +kernel
theorem dL_law_534 : decode cL_law 534 = .ok (.aload_n 2, 1) := by decide +kernel
theorem dL_law_535 : decode cL_law 535 = .ok (.invokevirtual 53, 3) := by decide +kernel
theorem dL_law_538 : decode cL_law 538 = .ok (.iload 5, 2) := by decide +kernel
theorem dL_law_540 : decode cL_law 540 = .ok (.if_icmp .eq 5, 3) := by decide +kernel
theorem dL_law_543 : decode cL_law 543 = .ok (.iconst 0, 1) := by decide +kernel
theorem dL_law_544 : decode cL_law 544 = .ok (.ireturn, 1) := by decide +kernel
theorem dL_law_545 : decode cL_law 545 = .ok (.iload 5, 2) := by decide +kernel
theorem dL_law_547 : decode cL_law 547 = .ok (.ifCond .ne 15, 3) := by decide +kernel
theorem dL_law_550 : decode cL_law 550 = .ok (.aload_n 3, 1) := by decide +kernel
theorem dL_law_551 : decode cL_law 551 = .ok (.iconst 0, 1) := by decide +kernel
theorem dL_law_552 : decode cL_law 552 = .ok (.laload, 1) := by decide +kernel
theorem dL_law_553 : decode cL_law 553 = .ok (.iload 6, 2) := by decide +kernel
theorem dL_law_555 : decode cL_law 555 = .ok (.i2l, 1) := by decide +kernel
theorem dL_law_556 : decode cL_law 556 = .ok (.lcmp, 1) := by decide +kernel
theorem dL_law_557 : decode cL_law 557 = .ok (.ifCond .eq 5, 3) := by decide +kernel
theorem dL_law_560 : decode cL_law 560 = .ok (.iconst 0, 1) := by decide +kernel
theorem dL_law_561 : decode cL_law 561 = .ok (.ireturn, 1) := by decide +kernel
theorem dL_law_562 : decode cL_law 562 = .ok (.goto 196, 3) := by decide +kernel
theorem dL_law_565 : decode cL_law 565 = .ok (.aload_n 1, 1) := by decide +kernel
theorem dL_law_566 : decode cL_law 566 = .ok (.aload_n 0, 1) := by decide +kernel
theorem dL_law_567 : decode cL_law 567 = .ok (.iload 4, 2) := by decide +kernel
theorem dL_law_569 : decode cL_law 569 = .ok (.iconst 1, 1) := by decide +kernel
theorem dL_law_570 : decode cL_law 570 = .ok (.iadd, 1) := by decide +kernel
theorem dL_law_571 : decode cL_law 571 = .ok (.iaload, 1) := by decide +kernel
theorem dL_law_572 : decode cL_law 572 = .ok (.aload_n 0, 1) := by decide +kernel
theorem dL_law_573 : decode cL_law 573 = .ok (.iload 4, 2) := by decide +kernel
theorem dL_law_575 : decode cL_law 575 = .ok (.iconst 2, 1) := by decide +kernel
theorem dL_law_576 : decode cL_law 576 = .ok (.iadd, 1) := by decide +kernel
theorem dL_law_577 : decode cL_law 577 = .ok (.iaload, 1) := by decide +kernel
theorem dL_law_578 : decode cL_law 578 = .ok (.aload_n 3, 1) := by decide +kernel
theorem dL_law_579 : decode cL_law 579 = .ok (.invokestatic 82, 3) := by decide +kernel
theorem dL_law_582 : decode cL_law 582 = .ok (.istore 5, 2) := by decide +kernel
theorem dL_law_584 : decode cL_law 584 = .ok (.aload_n 2, 1) := by decide +kernel
theorem dL_law_585 : decode cL_law 585 = .ok (.aload_n 0, 1) := by decide +kernel
theorem dL_law_586 : decode cL_law 586 = .ok (.iload 4, 2) := by decide +kernel
theorem dL_law_588 : decode cL_law 588 = .ok (.iconst 1, 1) := by decide +kernel
theorem dL_law_589 : decode cL_law 589 = .ok (.iadd, 1) := by decide +kernel
theorem dL_law_590 : decode cL_law 590 = .ok (.iaload, 1) := by decide +kernel
theorem dL_law_591 : decode cL_law 591 = .ok (.aload_n 0, 1) := by decide +kernel
theorem dL_law_592 : decode cL_law 592 = .ok (.iload 4, 2) := by decide +kernel
theorem dL_law_594 : decode cL_law 594 = .ok (.iconst 2, 1) := by decide +kernel
theorem dL_law_595 : decode cL_law 595 = .ok (.iadd, 1) := by decide +kernel
theorem dL_law_596 : decode cL_law 596 = .ok (.iaload, 1) := by decide +kernel
theorem dL_law_597 : decode cL_law 597 = .ok (.invokevirtual 84, 3) := by decide +kernel
theorem dL_law_600 : decode cL_law 600 = .ok (.istore 6, 2) := by decide +kernel
theorem dL_law_602 : decode cL_law 602 = .ok (.aload_n 2, 1) := by decide +kernel
theorem dL_law_603 : decode cL_law 603 = .ok (.invokevirtual 53, 3) := by decide +kernel
theorem dL_law_606 : decode cL_law 606 = .ok (.iload 5, 2) := by decide +kernel
theorem dL_law_608 : decode cL_law 608 = .ok (.if_icmp .eq 5, 3) := by decide +kernel
theorem dL_law_611 : decode cL_law 611 = .ok (.iconst 0, 1) := by decide +kernel
theorem dL_law_612 : decode cL_law 612 = .ok (.ireturn, 1) := by decide +kernel
theorem dL_law_613 : decode cL_law 613 = .ok (.iload 5, 2) := by decide +kernel
theorem dL_law_615 : decode cL_law 615 = .ok (.ifCond .ne 15, 3) := by decide +kernel
theorem dL_law_618 : decode cL_law 618 = .ok (.aload_n 3, 1) := by decide +kernel
theorem dL_law_619 : decode cL_law 619 = .ok (.iconst 0, 1) := by decide +kernel
theorem dL_law_620 : decode cL_law 620 = .ok (.laload, 1) := by decide +kernel
theorem dL_law_621 : decode cL_law 621 = .ok (.iload 6, 2) := by decide +kernel
theorem dL_law_623 : decode cL_law 623 = .ok (.i2l, 1) := by decide +kernel
theorem dL_law_624 : decode cL_law 624 = .ok (.lcmp, 1) := by decide +kernel
theorem dL_law_625 : decode cL_law 625 = .ok (.ifCond .eq 5, 3) := by decide +kernel
theorem dL_law_628 : decode cL_law 628 = .ok (.iconst 0, 1) := by decide +kernel
theorem dL_law_629 : decode cL_law 629 = .ok (.ireturn, 1) := by decide +kernel
theorem dL_law_630 : decode cL_law 630 = .ok (.goto 128, 3) := by decide +kernel
theorem dL_law_633 : decode cL_law 633 = .ok (.aload_n 1, 1) := by decide +kernel
theorem dL_law_634 : decode cL_law 634 = .ok (.invokevirtual 85, 3) := by decide +kernel
theorem dL_law_637 : decode cL_law 637 = .ok (.aload_n 2, 1) := by decide +kernel
theorem dL_law_638 : decode cL_law 638 = .ok (.invokevirtual 88, 3) := by decide +kernel
theorem dL_law_641 : decode cL_law 641 = .ok (.if_icmp .eq 117, 3) := by decide +kernel
theorem dL_law_644 : decode cL_law 644 = .ok (.iconst 0, 1) := by decide +kernel
theorem dL_law_645 : decode cL_law 645 = .ok (.ireturn, 1) := by decide +kernel
theorem dL_law_646 : decode cL_law 646 = .ok (.aload_n 1, 1) := by decide +kernel
theorem dL_law_647 : decode cL_law 647 = .ok (.aload_n 0, 1) := by decide +kernel
theorem dL_law_648 : decode cL_law 648 = .ok (.iload 4, 2) := by decide +kernel
theorem dL_law_650 : decode cL_law 650 = .ok (.iconst 1, 1) := by decide +kernel
theorem dL_law_651 : decode cL_law 651 = .ok (.iadd, 1) := by decide +kernel
theorem dL_law_652 : decode cL_law 652 = .ok (.iaload, 1) := by decide +kernel
theorem dL_law_653 : decode cL_law 653 = .ok (.aload_n 3, 1) := by decide +kernel
theorem dL_law_654 : decode cL_law 654 = .ok (.invokestatic 89, 3) := by decide +kernel
theorem dL_law_657 : decode cL_law 657 = .ok (.istore 5, 2) := by decide +kernel
theorem dL_law_659 : decode cL_law 659 = .ok (.aload_n 2, 1) := by decide +kernel
theorem dL_law_660 : decode cL_law 660 = .ok (.aload_n 0, 1) := by decide +kernel
theorem dL_law_661 : decode cL_law 661 = .ok (.iload 4, 2) := by decide +kernel
theorem dL_law_663 : decode cL_law 663 = .ok (.iconst 1, 1) := by decide +kernel
theorem dL_law_664 : decode cL_law 664 = .ok (.iadd, 1) := by decide +kernel
theorem dL_law_665 : decode cL_law 665 = .ok (.iaload, 1) := by decide +kernel
theorem dL_law_666 : decode cL_law 666 = .ok (.invokevirtual 91, 3) := by decide +kernel
theorem dL_law_669 : decode cL_law 669 = .ok (.istore 6, 2) := by decide +kernel
theorem dL_law_671 : decode cL_law 671 = .ok (.aload_n 2, 1) := by decide +kernel
theorem dL_law_672 : decode cL_law 672 = .ok (.invokevirtual 53, 3) := by decide +kernel
theorem dL_law_675 : decode cL_law 675 = .ok (.iload 5, 2) := by decide +kernel
theorem dL_law_677 : decode cL_law 677 = .ok (.if_icmp .eq 5, 3) := by decide +kernel
theorem dL_law_680 : decode cL_law 680 = .ok (.iconst 0, 1) := by decide +kernel
theorem dL_law_681 : decode cL_law 681 = .ok (.ireturn, 1) := by decide +kernel
theorem dL_law_682 : decode cL_law 682 = .ok (.iload 5, 2) := by decide +kernel
theorem dL_law_684 : decode cL_law 684 = .ok (.ifCond .ne 15, 3) := by decide +kernel
theorem dL_law_687 : decode cL_law 687 = .ok (.aload_n 3, 1) := by decide +kernel
theorem dL_law_688 : decode cL_law 688 = .ok (.iconst 0, 1) := by decide +kernel
theorem dL_law_689 : decode cL_law 689 = .ok (.laload, 1) := by decide +kernel
theorem dL_law_690 : decode cL_law 690 = .ok (.iload 6, 2) := by decide +kernel
theorem dL_law_692 : decode cL_law 692 = .ok (.i2l, 1) := by decide +kernel
theorem dL_law_693 : decode cL_law 693 = .ok (.lcmp, 1) := by decide +kernel
theorem dL_law_694 : decode cL_law 694 = .ok (.ifCond .eq 5, 3) := by decide +kernel
theorem dL_law_697 : decode cL_law 697 = .ok (.iconst 0, 1) := by decide +kernel
theorem dL_law_698 : decode cL_law 698 = .ok (.ireturn, 1) := by decide +kernel
theorem dL_law_699 : decode cL_law 699 = .ok (.goto 59, 3) := by decide +kernel
theorem dL_law_702 : decode cL_law 702 = .ok (.aload_n 1, 1) := by decide +kernel
theorem dL_law_703 : decode cL_law 703 = .ok (.aload_n 0, 1) := by decide +kernel
theorem dL_law_704 : decode cL_law 704 = .ok (.iload 4, 2) := by decide +kernel
theorem dL_law_706 : decode cL_law 706 = .ok (.iconst 1, 1) := by decide +kernel
theorem dL_law_707 : decode cL_law 707 = .ok (.iadd, 1) := by decide +kernel
theorem dL_law_708 : decode cL_law 708 = .ok (.iaload, 1) := by decide +kernel
theorem dL_law_709 : decode cL_law 709 = .ok (.aload_n 3, 1) := by decide +kernel
theorem dL_law_710 : decode cL_law 710 = .ok (.invokestatic 92, 3) := by decide +kernel
theorem dL_law_713 : decode cL_law 713 = .ok (.istore 5, 2) := by decide +kernel
theorem dL_law_715 : decode cL_law 715 = .ok (.aload_n 2, 1) := by decide +kernel
theorem dL_law_716 : decode cL_law 716 = .ok (.aload_n 0, 1) := by decide +kernel
theorem dL_law_717 : decode cL_law 717 = .ok (.iload 4, 2) := by decide +kernel
theorem dL_law_719 : decode cL_law 719 = .ok (.iconst 1, 1) := by decide +kernel
theorem dL_law_720 : decode cL_law 720 = .ok (.iadd, 1) := by decide +kernel
theorem dL_law_721 : decode cL_law 721 = .ok (.iaload, 1) := by decide +kernel
theorem dL_law_722 : decode cL_law 722 = .ok (.invokevirtual 94, 3) := by decide +kernel
theorem dL_law_725 : decode cL_law 725 = .ok (.istore 6, 2) := by decide +kernel
theorem dL_law_727 : decode cL_law 727 = .ok (.aload_n 2, 1) := by decide +kernel
theorem dL_law_728 : decode cL_law 728 = .ok (.invokevirtual 53, 3) := by decide +kernel
theorem dL_law_731 : decode cL_law 731 = .ok (.iload 5, 2) := by decide +kernel
theorem dL_law_733 : decode cL_law 733 = .ok (.if_icmp .eq 5, 3) := by decide +kernel
theorem dL_law_736 : decode cL_law 736 = .ok (.iconst 0, 1) := by decide +kernel
theorem dL_law_737 : decode cL_law 737 = .ok (.ireturn, 1) := by decide +kernel
theorem dL_law_738 : decode cL_law 738 = .ok (.iload 5, 2) := by decide +kernel
theorem dL_law_740 : decode cL_law 740 = .ok (.ifCond .ne 15, 3) := by decide +kernel
theorem dL_law_743 : decode cL_law 743 = .ok (.aload_n 3, 1) := by decide +kernel
theorem dL_law_744 : decode cL_law 744 = .ok (.iconst 0, 1) := by decide +kernel
theorem dL_law_745 : decode cL_law 745 = .ok (.laload, 1) := by decide +kernel
theorem dL_law_746 : decode cL_law 746 = .ok (.iload 6, 2) := by decide +kernel
theorem dL_law_748 : decode cL_law 748 = .ok (.i2l, 1) := by decide +kernel
theorem dL_law_749 : decode cL_law 749 = .ok (.lcmp, 1) := by decide +kernel
theorem dL_law_750 : decode cL_law 750 = .ok (.ifCond .eq 5, 3) := by decide +kernel
theorem dL_law_753 : decode cL_law 753 = .ok (.iconst 0, 1) := by decide +kernel
theorem dL_law_754 : decode cL_law 754 = .ok (.ireturn, 1) := by decide +kernel
theorem dL_law_755 : decode cL_law 755 = .ok (.goto 3, 3) := by decide +kernel
theorem dL_law_758 : decode cL_law 758 = .ok (.iinc 4 4, 3) := by decide +kernel
theorem dL_law_761 : decode cL_law 761 = .ok (.goto (-738), 3) := by decide +kernel
theorem dL_law_764 : decode cL_law 764 = .ok (.iconst 1, 1) := by decide +kernel
theorem dL_law_765 : decode cL_law 765 = .ok (.ireturn, 1) := by decide +kernel
end
section
/-! words: all good words of the tables; nest words beside them -/
def wsG : List Cond := lw_tbl.filter goodWord
theorem wsG_of {w : Cond} (i : Nat) (h : lw_tbl[i]? = some w) (hg : goodWord w = true) : w ∈ wsG := List.mem_filter.mpr ⟨List.mem_of_getElem? h, hg⟩
theorem wsG_good {w : Cond} (h : w ∈ wsG) : (w.onTables && w.keeps) = true ∨ ∃ ty, w = .arrayClass ty := good_of_word (List.mem_filter.mp h).2
theorem wsG_GoodIn {x : Cond} {ws : List Cond} (h : ∀ w ∈ ws, w ∈ wsG) : GoodIn (x :: wsG) ws := fun w hw => ⟨List.mem_cons_of_mem _ (h w hw), wsG_good (h w hw)⟩
/-! numbers -/
def iI (x : Int) : Int32 := Int32.ofInt x
def vI (x : Int) : Value := .int (iI x)
def rng (x : Int) : Prop := -2147483648 ≤ x ∧ x < 2147483648
theorem iI_toInt {x : Int} (h : rng x) : (iI x).toInt = x := by
  unfold iI
  rw [Int32.toInt_ofInt, show Int32.size = 4294967296 from rfl]
  unfold rng at h
  exact Int.bmod_eq_of_le (by omega) (by omega)
theorem iI_of (v : Int32) : v = iI v.toInt := by
  unfold iI
  exact (Int32.ofInt_toInt v).symm
theorem rng_of (v : Int32) : rng v.toInt := ⟨by have := Int32.le_toInt v; omega, by have := Int32.toInt_lt v; omega⟩
theorem iI_add (x y : Int) : iI x + iI y = iI (x + y) := by unfold iI; rw [Int32.ofInt_add]
theorem iI_sub (x y : Int) : iI x - iI y = iI (x - y) := by unfold iI; rw [Int32.ofInt_sub]
theorem iI_mul (x y : Int) : iI x * iI y = iI (x * y) := by unfold iI; rw [Int32.ofInt_mul]
theorem iI_lt {x y : Int} (hx : rng x) (hy : rng y) : iI x < iI y ↔ x < y := by rw [Int32.lt_iff_toInt_lt, iI_toInt hx, iI_toInt hy]
theorem iI_le {x y : Int} (hx : rng x) (hy : rng y) : iI x ≤ iI y ↔ x ≤ y := by rw [Int32.le_iff_toInt_le, iI_toInt hx, iI_toInt hy]
theorem iI_eq {x y : Int} (hx : rng x) (hy : rng y) : iI x = iI y ↔ x = y := ⟨fun h => by have := congrArg Int32.toInt h; rwa [iI_toInt hx, iI_toInt hy] at this, fun h => by rw [h]⟩
theorem rng0 : rng 0 := ⟨by decide, by decide⟩
theorem iI_0 : iI 0 = 0 := rfl
theorem iI_div {x y : Int} (hx : rng x) (hy : rng y) (h0 : 0 ≤ x) (h1 : 0 < y) : iI x / iI y = iI (x / y) := by
  apply Int32.toInt_inj.mp
  have hd : 0 ≤ x / y := Int.ediv_nonneg h0 (by omega)
  have hd2 : x / y ≤ x := Int.ediv_le_self y h0
  rw [Int32.toInt_div, iI_toInt hx, iI_toInt hy, iI_toInt (by unfold rng at *; omega), Int.tdiv_eq_ediv_of_nonneg h0]
  unfold rng at *
  exact Int.bmod_eq_of_le (by omega) (by omega)
theorem iI_clamp {i : Int} (hi : 0 ≤ i) (h : rng i) : (iI i).toNatClampNeg = i.toNat := by
  unfold Int32.toNatClampNeg
  rw [iI_toInt h]
theorem iI_in {i : Int} {n : Nat} (h0 : 0 ≤ i) (h1 : i < n) (h : rng i) : vp_in (iI i) n := vp_in_iff.mpr (by rw [iI_toInt h]; exact ⟨h0, h1⟩)
/-! the pool -/
abbrev VT : Type := Int → Int → Int → Int
abbrev GT : Type := List Nat × (Nat → Nat) × (Nat → Nat → Option Nat) × (Nat → Nat) × (Nat → Int) × (Nat → Int)
abbrev gL (g : GT) : List Nat := g.1
abbrev gK (g : GT) : Nat → Nat := g.2.1
abbrev gR (g : GT) : Nat → Nat → Option Nat := g.2.2.1
abbrev gN (g : GT) : Nat → Nat := g.2.2.2.1
abbrev gO (g : GT) : Nat → Int := g.2.2.2.2.1
abbrev gT (g : GT) : Nat → Int := g.2.2.2.2.2
/-- what the cell at an address is -/
def pF (cy : ClassId × ClassId) (g : GT) (V : VT) (a : Nat) : va_E :=
  if gK g a = 0 then .inr (0, [va_rf (gR g a 0), va_rf (gR g a 1), va_rf (gR g a 2), vI (V (gO g a) (gT g a) 3)])
  else if gK g a = 1 then .inr (1, [vI (V (gO g a) (gT g a) 0), vI (V (gO g a) (gT g a) 1), vI (V (gO g a) (gT g a) 2), vI (V (gO g a) (gT g a) 3), vI (V (gO g a) (gT g a) 4), vI (V (gO g a) (gT g a) 5), vI (V (gO g a) (gT g a) 6), vI (V (gO g a) (gT g a) 7), vI (V (gO g a) (gT g a) 8), va_rf (gR g a 9), va_rf (gR g a 10), va_rf (gR g a 11), va_rf (gR g a 12)])
  else if gK g a = 2 then .inr (2, [va_rf (gR g a 0)])
  else if gK g a = 3 then .inr (3, [va_rf (gR g a 0), va_rf (gR g a 1), va_rf (gR g a 2), vI (V (gO g a) (gT g a) 3)])
  else if gK g a = 4 then .inr (4, [va_rf (gR g a 0), va_rf (gR g a 1), va_rf (gR g a 2), vI (V (gO g a) (gT g a) 3), vI (V (gO g a) (gT g a) 4), vI (V (gO g a) (gT g a) 5), vI (V (gO g a) (gT g a) 6), vI (V (gO g a) (gT g a) 7)])
  else if gK g a = 5 then .inl (cy.1, gN g a, .inl (fun k => iI (V (gO g a) (gT g a) k)))
  else .inl (cy.2, gN g a, .inr (.inr (.inr (.inr (gR g a)))))
def up (V : VT) (o t j v : Int) : VT := fun o' t' j' => if o' = o ∧ t' = t ∧ j' = j then v else V o' t' j'
theorem up_at (V : VT) (o t j v : Int) : up V o t j v o t j = v := by simp [up]
theorem up_j {V : VT} {o t j v o' t' j' : Int} (h : j' ≠ j) : up V o t j v o' t' j' = V o' t' j' := by simp [up, h]
theorem up_t {V : VT} {o t j v o' t' j' : Int} (h : t' ≠ t) : up V o t j v o' t' j' = V o' t' j' := by simp [up, h]
theorem up_o {V : VT} {o t j v o' t' j' : Int} (h : o' ≠ o) : up V o t j v o' t' j' = V o' t' j' := by simp [up, h]
def Apart (g : GT) : Prop := (gL g).Nodup ∧ ∀ a ∈ gL g, ∀ b ∈ gL g, gO g a = gO g b → gT g a = gT g b → a = b
abbrev pw (cy : ClassId × ClassId) (g : GT) (V : VT) : va_W := va_pl (gL g) (pF cy g V)
theorem pw_at {cy : ClassId × ClassId} {g : GT} {V : VT} {a : Nat} (h : a ∈ gL g) : ∃ k : Nat, (pw cy g V)[k]? = some (a, pF cy g V a) := by
  have := va_pl_get (X := []) (f := pF cy g V) h
  simpa using this
theorem pw_D {cy : ClassId × ClassId} {g : GT} {V : VT} {A : Nat → Prop} (hA : Apart g) (h : ∀ q ∈ gL g, A q) : va_D A (pw cy g V) := by
  refine ⟨fun i j x y hi hj hxy => ?_, fun k q hk => ?_⟩
  · simp only [pw, va_pl, List.getElem?_map, Option.map_eq_some_iff] at hi hj
    obtain ⟨a, ha, rfl⟩ := hi
    obtain ⟨b, hb, rfl⟩ := hj
    have hab : a = b := hxy
    subst hab
    obtain ⟨h1, h2⟩ := List.getElem?_eq_some_iff.mp ha
    obtain ⟨h3, h4⟩ := List.getElem?_eq_some_iff.mp hb
    exact (List.getElem_inj hA.1).mp (h2.trans h4.symm)
  · simp only [pw, va_pl, List.getElem?_map, Option.map_eq_some_iff] at hk
    obtain ⟨a, ha, rfl⟩ := hk
    exact h a (List.mem_of_getElem? ha)
theorem pF_other {cy : ClassId × ClassId} {g : GT} {V : VT} {a b : Nat} {j v : Int} (hA : Apart g) (ha : a ∈ gL g) (hb : b ∈ gL g) (hne : b ≠ a) : pF cy g (up V (gO g a) (gT g a) j v) b = pF cy g V b := by
  have : ∀ j', up V (gO g a) (gT g a) j v (gO g b) (gT g b) j' = V (gO g b) (gT g b) j' := by
    intro j'
    unfold up
    rw [if_neg]
    rintro ⟨h1, h2, -⟩
    exact hne (hA.2 b hb a ha h1 h2)
  unfold pF
  simp only [this]
theorem pw_set {cy : ClassId × ClassId} {g : GT} {V : VT} {A : Nat → Prop} {a k : Nat} {j v : Int} {e : va_E} (hA : Apart g) (hq : ∀ q ∈ gL g, A q) (ha : a ∈ gL g) (hk : (pw cy g V)[k]? = some (a, pF cy g V a)) (he : pF cy g (up V (gO g a) (gT g a) j v) a = e) : (pw cy g V).set k (a, e) = pw cy g (up V (gO g a) (gT g a) j v) := by
  have hD : va_D A ([] ++ pw cy g V) := pw_D hA hq
  have h1 := va_pl_set (X := []) (e := e) hD ha (by simpa using hk)
  simp only [List.nil_append] at h1
  rw [h1]
  unfold va_pl
  apply List.map_congr_left
  intro b hb
  by_cases hba : b = a
  · subst hba
    rw [va_up_self, he]
  · rw [va_up_ne _ _ hba, pF_other hA ha hb hba]
/-! the context of a method's walk, and its goal -/
abbrev tyc (cy : ClassId × ClassId) : List (ClassId × FieldType) := [(cy.1, .int), (cy.2, .object RX1)]
def rmd (d : Nat) : Room := { frames := d, cells := 0, slots := 0, locals := 33 * d }
def nestL : List Cond := [.methodLinkNest "SlotFile$Store" 17 ⟨"SlotFile$Page", "<init>", "()V"⟩ "SlotFile", .fieldLinkNest "SlotFile" 95 "SlotFile$Page" "kind" "I" "SlotFile", .fieldLinkNest "SlotFile$Store" 106 "SlotFile$Page" "kind" "I" "SlotFile", .fieldLinkNest "SlotFile" 100 "SlotFile$Page" "slots" "I" "SlotFile", .fieldLinkNest "SlotFile" 103 "SlotFile$Page" "cells" "I" "SlotFile", .fieldLinkNest "SlotFile$Store" 130 "SlotFile$Page" "cells" "I" "SlotFile", .fieldLinkNest "SlotFile" 113 "SlotFile$Page" "stubs" "I" "SlotFile", .fieldLinkNest "SlotFile$Store" 133 "SlotFile$Page" "stubs" "I" "SlotFile", .fieldLinkNest "SlotFile" 110 "SlotFile$Page" "end" "I" "SlotFile", .fieldLinkNest "SlotFile" 116 "SlotFile$Page" "chainNext" "I" "SlotFile", .fieldLinkNest "SlotFile$Store" 124 "SlotFile$Page" "chainNext" "I" "SlotFile", .fieldLinkNest "SlotFile" 119 "SlotFile$Page" "chainBytes" "I" "SlotFile", .fieldLinkNest "SlotFile$Store" 136 "SlotFile$Page" "compactings" "I" "SlotFile", .fieldLinkNest "SlotFile$Store" 30 "SlotFile$Page" "kinds" "[I" "SlotFile", .fieldLinkNest "SlotFile" 126 "SlotFile$Page" "kinds" "[I" "SlotFile", .fieldLinkNest "SlotFile$Store" 40 "SlotFile$Page" "lengths" "[I" "SlotFile", .fieldLinkNest "SlotFile$Store" 43 "SlotFile$Page" "seeds" "[I" "SlotFile", .fieldLinkNest "SlotFile$Store" 34 "SlotFile$Page" "links" "[I" "SlotFile", .fieldLinkNest "SlotFile" 91 "SlotFile$Store" "pages" "[LSlotFile$Page;" "SlotFile", .methodLinkNest "SlotFile" 21 ⟨"SlotFile$Log", "<init>", "()V"⟩ "SlotFile", .fieldLinkNest "SlotFile" 130 "SlotFile$Log" "size" "I" "SlotFile", .methodLinkNest "SlotFile$Store" 110 ⟨"SlotFile", "chainPages", "(I)I"⟩ "SlotFile", .methodLinkNest "SlotFile$Store" 52 ⟨"SlotFile", "cellBytes", "(II)I"⟩ "SlotFile", .methodLinkNest "SlotFile$Page" 73 ⟨"SlotFile", "cellBytes", "(II)I"⟩ "SlotFile"]
def NW (U : State) : Prop := ∀ w ∈ nestL, va_Nw w U
end
section
section
variable {p : Program} {l : Launch} {e : Env} {R : Room} {s : State} {m : MethodId} {args : Array Value} {below : List Frame} {meth : Method} {c : Code} {cells slots nL : Nat} {Q : State → Prop}
variable {cc : ByteArray} {own : String} {ret : Option FieldType} {D : va_G} {cy : ClassId × ClassId} {g : GT} {A : Nat → Prop} {H0 : Heap} {V : VT} {pc : Nat} {lv : List (Nat × Value)} {st : List Value}
def G (p : Program) (l : Launch) (e : Env) (R : Room) (s : State) (m : MethodId) (args : Array Value) (below : List Frame) (meth : Method) (c : Code) (nL cells slots : Nat) (Q : State → Prop) (D : va_G) (cy : ClassId × ClassId) (g : GT) (A : Nat → Prop) (H0 : Heap) (V : VT) (pc : Nat) (lv : List (Nat × Value)) (st : List Value) : Prop :=
  ∀ (H : Heap) (locs : List Loc) (ls : Array Slot), va_P D vwCl (pw cy g V) H → va_S A H0 H locs → lv_has ls nL lv → W p l e R s m args below meth c H locs cells slots Q (F0 m pc ls st)
def Cx (p : Program) (s : State) (m : MethodId) (args : Array Value) (meth : Method) (c : Code) (cc : ByteArray) (nL : Nat) (own : String) (ret : Option FieldType) (D : va_G) (cy : ClassId × ClassId) (g : GT) (A : Nat → Prop) : Prop :=
  CallFix p m c cc nL s args wsG own ∧ va_K D vwCl (tyc cy) s ∧ NW s ∧ Apart g ∧ (∀ q ∈ gL g, A q) ∧ meth.sig.returnType = ret ∧ meth.locks = false
theorem g_iadd (C : Cx p s m args meth c cc nL own ret D cy g A) {x y : Int} (hd : decode cc pc = .ok (.iadd, 1)) (k : G p l e R s m args below meth c nL cells slots Q D cy g A H0 V (pc + 1) lv (vI (x + y) :: st)) : G p l e R s m args below meth c nL cells slots Q D cy g A H0 V pc lv (vI y :: vI x :: st) := by
  intro H locs ls hP hS hl
  exact lv_iadd C.1.1 C.1.2.1 hd (by rw [iI_add]; exact k H locs ls hP hS hl)
theorem g_isub (C : Cx p s m args meth c cc nL own ret D cy g A) {x y : Int} (hd : decode cc pc = .ok (.isub, 1)) (k : G p l e R s m args below meth c nL cells slots Q D cy g A H0 V (pc + 1) lv (vI (x - y) :: st)) : G p l e R s m args below meth c nL cells slots Q D cy g A H0 V pc lv (vI y :: vI x :: st) := by
  intro H locs ls hP hS hl
  exact lv_isub C.1.1 C.1.2.1 hd (by rw [iI_sub]; exact k H locs ls hP hS hl)
theorem g_imul (C : Cx p s m args meth c cc nL own ret D cy g A) {x y : Int} (hd : decode cc pc = .ok (.imul, 1)) (k : G p l e R s m args below meth c nL cells slots Q D cy g A H0 V (pc + 1) lv (vI (x * y) :: st)) : G p l e R s m args below meth c nL cells slots Q D cy g A H0 V pc lv (vI y :: vI x :: st) := by
  intro H locs ls hP hS hl
  exact lv_imul C.1.1 C.1.2.1 hd (by rw [iI_mul]; exact k H locs ls hP hS hl)
theorem g_idiv (C : Cx p s m args meth c cc nL own ret D cy g A) {x y : Int} (hx : 0 ≤ x ∧ x < 2147483648) (hy : 0 < y ∧ y < 2147483648) (hd : decode cc pc = .ok (.idiv, 1)) (k : G p l e R s m args below meth c nL cells slots Q D cy g A H0 V (pc + 1) lv (vI (x / y) :: st)) : G p l e R s m args below meth c nL cells slots Q D cy g A H0 V pc lv (vI y :: vI x :: st) := by
  intro H locs ls hP hS hl
  have hry : rng y := ⟨by omega, by omega⟩
  have hrx : rng x := ⟨by omega, by omega⟩
  exact lv_idiv C.1.1 C.1.2.1 hd (fun h => by have := (iI_eq hry rng0).mp h; omega) (by rw [iI_div hrx hry hx.1 hy.1]; exact k H locs ls hP hS hl)
theorem g_irem (C : Cx p s m args meth c cc nL own ret D cy g A) {x y : Int} (hx : 0 ≤ x ∧ x < 2147483648) (hy : 0 < y ∧ y < 2147483648) (hd : decode cc pc = .ok (.irem, 1)) (k : G p l e R s m args below meth c nL cells slots Q D cy g A H0 V (pc + 1) lv (vI (x % y) :: st)) : G p l e R s m args below meth c nL cells slots Q D cy g A H0 V pc lv (vI y :: vI x :: st) := by
  intro H locs ls hP hS hl
  have hry : rng y := ⟨by omega, by omega⟩
  have hrx : rng x := ⟨by omega, by omega⟩
  have he : x - x / y * y = x % y := by have := Int.mul_ediv_add_emod x y; rw [Int.mul_comm] at this; omega
  exact lv_irem C.1.1 C.1.2.1 hd (fun h => by have := (iI_eq hry rng0).mp h; omega) (by rw [iI_div hrx hry hx.1 hy.1, iI_mul, iI_sub, he]; exact k H locs ls hP hS hl)
theorem g_iconst (C : Cx p s m args meth c cc nL own ret D cy g A) {n : Int} (x : Int) (hv : Int32.ofInt n = iI x) (hd : decode cc pc = .ok (.iconst n, 1)) (k : G p l e R s m args below meth c nL cells slots Q D cy g A H0 V (pc + 1) lv (vI x :: st)) : G p l e R s m args below meth c nL cells slots Q D cy g A H0 V pc lv (st) := by
  intro H locs ls hP hS hl
  exact lv_iconst C.1.1 C.1.2.1 hd hv (k H locs ls hP hS hl)
theorem g_bipush (C : Cx p s m args meth c cc nL own ret D cy g A) {n : Int} (x : Int) (hv : (Int8.ofInt n).toInt32 = iI x) (hd : decode cc pc = .ok (.bipush n, 2)) (k : G p l e R s m args below meth c nL cells slots Q D cy g A H0 V (pc + 2) lv (vI x :: st)) : G p l e R s m args below meth c nL cells slots Q D cy g A H0 V pc lv (st) := by
  intro H locs ls hP hS hl
  exact lv_bipush C.1.1 C.1.2.1 hd hv (k H locs ls hP hS hl)
theorem g_sipush (C : Cx p s m args meth c cc nL own ret D cy g A) {n : Int} (x : Int) (hv : (Int16.ofInt n).toInt32 = iI x) (hd : decode cc pc = .ok (.sipush n, 3)) (k : G p l e R s m args below meth c nL cells slots Q D cy g A H0 V (pc + 3) lv (vI x :: st)) : G p l e R s m args below meth c nL cells slots Q D cy g A H0 V pc lv (st) := by
  intro H locs ls hP hS hl
  exact lv_sipush C.1.1 C.1.2.1 hd hv (k H locs ls hP hS hl)
theorem g_dupI (C : Cx p s m args meth c cc nL own ret D cy g A) {x : Int} (hd : decode cc pc = .ok (.dup, 1)) (k : G p l e R s m args below meth c nL cells slots Q D cy g A H0 V (pc + 1) lv (vI x :: vI x :: st)) : G p l e R s m args below meth c nL cells slots Q D cy g A H0 V pc lv (vI x :: st) := by
  intro H locs ls hP hS hl
  exact lv_dup C.1.1 C.1.2.1 hd rfl (k H locs ls hP hS hl)
theorem g_dupR (C : Cx p s m args meth c cc nL own ret D cy g A) {x : Nat} (hd : decode cc pc = .ok (.dup, 1)) (k : G p l e R s m args below meth c nL cells slots Q D cy g A H0 V (pc + 1) lv (.ref x :: .ref x :: st)) : G p l e R s m args below meth c nL cells slots Q D cy g A H0 V pc lv (.ref x :: st) := by
  intro H locs ls hP hS hl
  exact lv_dup C.1.1 C.1.2.1 hd rfl (k H locs ls hP hS hl)
theorem g_popI (C : Cx p s m args meth c cc nL own ret D cy g A) {x : Int} (hd : decode cc pc = .ok (.pop, 1)) (k : G p l e R s m args below meth c nL cells slots Q D cy g A H0 V (pc + 1) lv (st)) : G p l e R s m args below meth c nL cells slots Q D cy g A H0 V pc lv (vI x :: st) := by
  intro H locs ls hP hS hl
  exact lv_pop C.1.1 C.1.2.1 hd rfl (k H locs ls hP hS hl)
theorem g_iload_n (C : Cx p s m args meth c cc nL own ret D cy g A) {k : Fin 4} {x : Int} (j : Nat) (hk : lv[j]? = some ((k : Nat), vI x)) (hd : decode cc pc = .ok (.iload_n k, 1)) (kk : G p l e R s m args below meth c nL cells slots Q D cy g A H0 V (pc + 1) lv (vI x :: st)) : G p l e R s m args below meth c nL cells slots Q D cy g A H0 V pc lv (st) := by
  intro H locs ls hP hS hl
  exact lv_iload_n C.1.1 C.1.2.1 hd rfl (lv_at hl j hk) (kk H locs ls hP hS hl)
theorem g_iload (C : Cx p s m args meth c cc nL own ret D cy g A) {i : Nat} {x : Int} (j : Nat) (hk : lv[j]? = some (i, vI x)) (hd : decode cc pc = .ok (.iload i, 2)) (k : G p l e R s m args below meth c nL cells slots Q D cy g A H0 V (pc + 2) lv (vI x :: st)) : G p l e R s m args below meth c nL cells slots Q D cy g A H0 V pc lv (st) := by
  intro H locs ls hP hS hl
  exact lv_iload C.1.1 C.1.2.1 hd (lv_at hl j hk) (k H locs ls hP hS hl)
theorem g_aload_n (C : Cx p s m args meth c cc nL own ret D cy g A) {k : Fin 4} {x : Nat} (j : Nat) (hk : lv[j]? = some ((k : Nat), .ref x)) (hd : decode cc pc = .ok (.aload_n k, 1)) (kk : G p l e R s m args below meth c nL cells slots Q D cy g A H0 V (pc + 1) lv (.ref x :: st)) : G p l e R s m args below meth c nL cells slots Q D cy g A H0 V pc lv (st) := by
  intro H locs ls hP hS hl
  exact lv_aload_n C.1.1 C.1.2.1 hd rfl (lv_at hl j hk) (kk H locs ls hP hS hl)
theorem g_aload (C : Cx p s m args meth c cc nL own ret D cy g A) {i : Nat} {x : Nat} (j : Nat) (hk : lv[j]? = some (i, .ref x)) (hd : decode cc pc = .ok (.aload i, 2)) (k : G p l e R s m args below meth c nL cells slots Q D cy g A H0 V (pc + 2) lv (.ref x :: st)) : G p l e R s m args below meth c nL cells slots Q D cy g A H0 V pc lv (st) := by
  intro H locs ls hP hS hl
  exact lv_aload C.1.1 C.1.2.1 hd (lv_at hl j hk) (k H locs ls hP hS hl)
theorem g_istore_n (C : Cx p s m args meth c cc nL own ret D cy g A) {k : Fin 4} {i : Nat} {x : Int} (lv' : List (Nat × Value)) (hd : decode cc pc = .ok (.istore_n k, 1)) (hi : (k : Nat) = i) (hn : i < nL) (hl' : (i, vI x) :: lv.filter (fun q => !(q.1 == i) && !(q.1 + 1 == i && q.2.category == 2)) = lv') (kk : G p l e R s m args below meth c nL cells slots Q D cy g A H0 V (pc + 1) lv' st) : G p l e R s m args below meth c nL cells slots Q D cy g A H0 V pc lv (vI x :: st) := by
  intro H locs ls hP hS hl
  exact lv_istore_n C.1.1 C.1.2.1 hd hi hl hn hl' (fun ls' hl2 => kk H locs ls' hP hS hl2)
theorem g_istore (C : Cx p s m args meth c cc nL own ret D cy g A) {i : Nat} {x : Int} (lv' : List (Nat × Value)) (hd : decode cc pc = .ok (.istore i, 2)) (hn : i < nL) (hl' : (i, vI x) :: lv.filter (fun q => !(q.1 == i) && !(q.1 + 1 == i && q.2.category == 2)) = lv') (kk : G p l e R s m args below meth c nL cells slots Q D cy g A H0 V (pc + 2) lv' st) : G p l e R s m args below meth c nL cells slots Q D cy g A H0 V pc lv (vI x :: st) := by
  intro H locs ls hP hS hl
  exact lv_istore C.1.1 C.1.2.1 hd hl hn hl' (fun ls' hl2 => kk H locs ls' hP hS hl2)
theorem g_astore_n (C : Cx p s m args meth c cc nL own ret D cy g A) {k : Fin 4} {i : Nat} {x : Nat} (lv' : List (Nat × Value)) (hd : decode cc pc = .ok (.astore_n k, 1)) (hi : (k : Nat) = i) (hn : i < nL) (hl' : (i, .ref x) :: lv.filter (fun q => !(q.1 == i) && !(q.1 + 1 == i && q.2.category == 2)) = lv') (kk : G p l e R s m args below meth c nL cells slots Q D cy g A H0 V (pc + 1) lv' st) : G p l e R s m args below meth c nL cells slots Q D cy g A H0 V pc lv (.ref x :: st) := by
  intro H locs ls hP hS hl
  exact lv_astore_n C.1.1 C.1.2.1 hd hi hl hn hl' (fun ls' hl2 => kk H locs ls' hP hS hl2)
theorem g_astore (C : Cx p s m args meth c cc nL own ret D cy g A) {i : Nat} {x : Nat} (lv' : List (Nat × Value)) (hd : decode cc pc = .ok (.astore i, 2)) (hn : i < nL) (hl' : (i, .ref x) :: lv.filter (fun q => !(q.1 == i) && !(q.1 + 1 == i && q.2.category == 2)) = lv') (kk : G p l e R s m args below meth c nL cells slots Q D cy g A H0 V (pc + 2) lv' st) : G p l e R s m args below meth c nL cells slots Q D cy g A H0 V pc lv (.ref x :: st) := by
  intro H locs ls hP hS hl
  exact lv_astore C.1.1 C.1.2.1 hd hl hn hl' (fun ls' hl2 => kk H locs ls' hP hS hl2)
theorem g_iinc (C : Cx p s m args meth c cc nL own ret D cy g A) {i : Nat} {n x : Int} (lv' : List (Nat × Value)) (j : Nat) (hk : lv[j]? = some (i, vI x)) (hd : decode cc pc = .ok (.iinc i n, 3)) (hn : i < nL) (hl' : (i, vI (x + n)) :: lv.filter (fun q => !(q.1 == i) && !(q.1 + 1 == i && q.2.category == 2)) = lv') (kk : G p l e R s m args below meth c nL cells slots Q D cy g A H0 V (pc + 3) lv' st) : G p l e R s m args below meth c nL cells slots Q D cy g A H0 V pc lv st := by
  intro H locs ls hP hS hl
  exact lv_iinc (x := iI x) (v := iI (x + n)) C.1.1 C.1.2.1 hd hl hk (iI_add x n) hn hl' (fun ls' hl2 => kk H locs ls' hP hS hl2)
theorem g_goto (C : Cx p s m args meth c cc nL own ret D cy g A) {off : Int} (tgt : Nat) (hd : decode cc pc = .ok (.goto off, 3)) (ht : (pc : Int) + off = (tgt : Int)) (k : G p l e R s m args below meth c nL cells slots Q D cy g A H0 V tgt lv st) : G p l e R s m args below meth c nL cells slots Q D cy g A H0 V pc lv st := by
  intro H locs ls hP hS hl
  exact lv_goto C.1.1 C.1.2.1 hd ht (k H locs ls hP hS hl)
theorem g_icmp_eq (C : Cx p s m args meth c cc nL own ret D cy g A) {x y : Int} (hx : rng x) (hy : rng y) {off : Int} (tgt : Nat) (hd : decode cc pc = .ok (.if_icmp .eq off, 3)) (ht : (pc : Int) + off = (tgt : Int)) (kt : x = y → G p l e R s m args below meth c nL cells slots Q D cy g A H0 V tgt lv st) (kf : ¬ x = y → G p l e R s m args below meth c nL cells slots Q D cy g A H0 V (pc + 3) lv st) : G p l e R s m args below meth c nL cells slots Q D cy g A H0 V pc lv (vI y :: vI x :: st) := by
  intro H locs ls hP hS hl
  exact lv_icmp_eq C.1.1 C.1.2.1 hd ht (fun h => kt ((iI_eq hx hy).mp h) H locs ls hP hS hl) (fun h => kf (fun q => h ((iI_eq hx hy).mpr q)) H locs ls hP hS hl)
theorem g_if_eq (C : Cx p s m args meth c cc nL own ret D cy g A) {x : Int} (hx : rng x) {off : Int} (tgt : Nat) (hd : decode cc pc = .ok (.ifCond .eq off, 3)) (ht : (pc : Int) + off = (tgt : Int)) (kt : x = 0 → G p l e R s m args below meth c nL cells slots Q D cy g A H0 V tgt lv st) (kf : ¬ x = 0 → G p l e R s m args below meth c nL cells slots Q D cy g A H0 V (pc + 3) lv st) : G p l e R s m args below meth c nL cells slots Q D cy g A H0 V pc lv (vI x :: st) := by
  intro H locs ls hP hS hl
  exact lv_if_eq C.1.1 C.1.2.1 hd ht (fun h => kt ((iI_eq hx rng0).mp h) H locs ls hP hS hl) (fun h => kf (fun q => h ((iI_eq hx rng0).mpr q)) H locs ls hP hS hl)
theorem g_icmp_ne (C : Cx p s m args meth c cc nL own ret D cy g A) {x y : Int} (hx : rng x) (hy : rng y) {off : Int} (tgt : Nat) (hd : decode cc pc = .ok (.if_icmp .ne off, 3)) (ht : (pc : Int) + off = (tgt : Int)) (kt : ¬ x = y → G p l e R s m args below meth c nL cells slots Q D cy g A H0 V tgt lv st) (kf : x = y → G p l e R s m args below meth c nL cells slots Q D cy g A H0 V (pc + 3) lv st) : G p l e R s m args below meth c nL cells slots Q D cy g A H0 V pc lv (vI y :: vI x :: st) := by
  intro H locs ls hP hS hl
  exact lv_icmp_ne C.1.1 C.1.2.1 hd ht (fun h => kt (fun q => h ((iI_eq hx hy).mpr q)) H locs ls hP hS hl) (fun h => kf (by first | exact (iI_eq hx hy).mp h | exact (iI_eq hx hy).mp (Classical.not_not.mp h)) H locs ls hP hS hl)
theorem g_if_ne (C : Cx p s m args meth c cc nL own ret D cy g A) {x : Int} (hx : rng x) {off : Int} (tgt : Nat) (hd : decode cc pc = .ok (.ifCond .ne off, 3)) (ht : (pc : Int) + off = (tgt : Int)) (kt : ¬ x = 0 → G p l e R s m args below meth c nL cells slots Q D cy g A H0 V tgt lv st) (kf : x = 0 → G p l e R s m args below meth c nL cells slots Q D cy g A H0 V (pc + 3) lv st) : G p l e R s m args below meth c nL cells slots Q D cy g A H0 V pc lv (vI x :: st) := by
  intro H locs ls hP hS hl
  exact lv_if_ne C.1.1 C.1.2.1 hd ht (fun h => kt (fun q => h ((iI_eq hx rng0).mpr q)) H locs ls hP hS hl) (fun h => kf (by first | exact (iI_eq hx rng0).mp h | exact (iI_eq hx rng0).mp (Classical.not_not.mp h)) H locs ls hP hS hl)
theorem g_icmp_lt (C : Cx p s m args meth c cc nL own ret D cy g A) {x y : Int} (hx : rng x) (hy : rng y) {off : Int} (tgt : Nat) (hd : decode cc pc = .ok (.if_icmp .lt off, 3)) (ht : (pc : Int) + off = (tgt : Int)) (kt : x < y → G p l e R s m args below meth c nL cells slots Q D cy g A H0 V tgt lv st) (kf : y ≤ x → G p l e R s m args below meth c nL cells slots Q D cy g A H0 V (pc + 3) lv st) : G p l e R s m args below meth c nL cells slots Q D cy g A H0 V pc lv (vI y :: vI x :: st) := by
  intro H locs ls hP hS hl
  exact lv_icmp_lt C.1.1 C.1.2.1 hd ht (fun h => kt ((iI_lt hx hy).mp h) H locs ls hP hS hl) (fun h => kf (Int.not_lt.mp (fun q => h ((iI_lt hx hy).mpr q))) H locs ls hP hS hl)
theorem g_if_lt (C : Cx p s m args meth c cc nL own ret D cy g A) {x : Int} (hx : rng x) {off : Int} (tgt : Nat) (hd : decode cc pc = .ok (.ifCond .lt off, 3)) (ht : (pc : Int) + off = (tgt : Int)) (kt : x < 0 → G p l e R s m args below meth c nL cells slots Q D cy g A H0 V tgt lv st) (kf : 0 ≤ x → G p l e R s m args below meth c nL cells slots Q D cy g A H0 V (pc + 3) lv st) : G p l e R s m args below meth c nL cells slots Q D cy g A H0 V pc lv (vI x :: st) := by
  intro H locs ls hP hS hl
  exact lv_if_lt C.1.1 C.1.2.1 hd ht (fun h => kt ((iI_lt hx rng0).mp h) H locs ls hP hS hl) (fun h => kf (Int.not_lt.mp (fun q => h ((iI_lt hx rng0).mpr q))) H locs ls hP hS hl)
theorem g_icmp_ge (C : Cx p s m args meth c cc nL own ret D cy g A) {x y : Int} (hx : rng x) (hy : rng y) {off : Int} (tgt : Nat) (hd : decode cc pc = .ok (.if_icmp .ge off, 3)) (ht : (pc : Int) + off = (tgt : Int)) (kt : y ≤ x → G p l e R s m args below meth c nL cells slots Q D cy g A H0 V tgt lv st) (kf : x < y → G p l e R s m args below meth c nL cells slots Q D cy g A H0 V (pc + 3) lv st) : G p l e R s m args below meth c nL cells slots Q D cy g A H0 V pc lv (vI y :: vI x :: st) := by
  intro H locs ls hP hS hl
  exact lv_icmp_ge C.1.1 C.1.2.1 hd ht (fun h => kt ((iI_le hy hx).mp h) H locs ls hP hS hl) (fun h => kf (Int.not_le.mp (fun q => h ((iI_le hy hx).mpr q))) H locs ls hP hS hl)
theorem g_if_ge (C : Cx p s m args meth c cc nL own ret D cy g A) {x : Int} (hx : rng x) {off : Int} (tgt : Nat) (hd : decode cc pc = .ok (.ifCond .ge off, 3)) (ht : (pc : Int) + off = (tgt : Int)) (kt : 0 ≤ x → G p l e R s m args below meth c nL cells slots Q D cy g A H0 V tgt lv st) (kf : x < 0 → G p l e R s m args below meth c nL cells slots Q D cy g A H0 V (pc + 3) lv st) : G p l e R s m args below meth c nL cells slots Q D cy g A H0 V pc lv (vI x :: st) := by
  intro H locs ls hP hS hl
  exact lv_if_ge C.1.1 C.1.2.1 hd ht (fun h => kt ((iI_le rng0 hx).mp h) H locs ls hP hS hl) (fun h => kf (Int.not_le.mp (fun q => h ((iI_le rng0 hx).mpr q))) H locs ls hP hS hl)
theorem g_icmp_gt (C : Cx p s m args meth c cc nL own ret D cy g A) {x y : Int} (hx : rng x) (hy : rng y) {off : Int} (tgt : Nat) (hd : decode cc pc = .ok (.if_icmp .gt off, 3)) (ht : (pc : Int) + off = (tgt : Int)) (kt : y < x → G p l e R s m args below meth c nL cells slots Q D cy g A H0 V tgt lv st) (kf : x ≤ y → G p l e R s m args below meth c nL cells slots Q D cy g A H0 V (pc + 3) lv st) : G p l e R s m args below meth c nL cells slots Q D cy g A H0 V pc lv (vI y :: vI x :: st) := by
  intro H locs ls hP hS hl
  exact lv_icmp_gt C.1.1 C.1.2.1 hd ht (fun h => kt ((iI_lt hy hx).mp h) H locs ls hP hS hl) (fun h => kf (Int.not_lt.mp (fun q => h ((iI_lt hy hx).mpr q))) H locs ls hP hS hl)
theorem g_if_gt (C : Cx p s m args meth c cc nL own ret D cy g A) {x : Int} (hx : rng x) {off : Int} (tgt : Nat) (hd : decode cc pc = .ok (.ifCond .gt off, 3)) (ht : (pc : Int) + off = (tgt : Int)) (kt : 0 < x → G p l e R s m args below meth c nL cells slots Q D cy g A H0 V tgt lv st) (kf : x ≤ 0 → G p l e R s m args below meth c nL cells slots Q D cy g A H0 V (pc + 3) lv st) : G p l e R s m args below meth c nL cells slots Q D cy g A H0 V pc lv (vI x :: st) := by
  intro H locs ls hP hS hl
  exact lv_if_gt C.1.1 C.1.2.1 hd ht (fun h => kt ((iI_lt rng0 hx).mp h) H locs ls hP hS hl) (fun h => kf (Int.not_lt.mp (fun q => h ((iI_lt rng0 hx).mpr q))) H locs ls hP hS hl)
theorem g_icmp_le (C : Cx p s m args meth c cc nL own ret D cy g A) {x y : Int} (hx : rng x) (hy : rng y) {off : Int} (tgt : Nat) (hd : decode cc pc = .ok (.if_icmp .le off, 3)) (ht : (pc : Int) + off = (tgt : Int)) (kt : x ≤ y → G p l e R s m args below meth c nL cells slots Q D cy g A H0 V tgt lv st) (kf : y < x → G p l e R s m args below meth c nL cells slots Q D cy g A H0 V (pc + 3) lv st) : G p l e R s m args below meth c nL cells slots Q D cy g A H0 V pc lv (vI y :: vI x :: st) := by
  intro H locs ls hP hS hl
  exact lv_icmp_le C.1.1 C.1.2.1 hd ht (fun h => kt ((iI_le hx hy).mp h) H locs ls hP hS hl) (fun h => kf (Int.not_le.mp (fun q => h ((iI_le hx hy).mpr q))) H locs ls hP hS hl)
theorem g_if_le (C : Cx p s m args meth c cc nL own ret D cy g A) {x : Int} (hx : rng x) {off : Int} (tgt : Nat) (hd : decode cc pc = .ok (.ifCond .le off, 3)) (ht : (pc : Int) + off = (tgt : Int)) (kt : x ≤ 0 → G p l e R s m args below meth c nL cells slots Q D cy g A H0 V tgt lv st) (kf : 0 < x → G p l e R s m args below meth c nL cells slots Q D cy g A H0 V (pc + 3) lv st) : G p l e R s m args below meth c nL cells slots Q D cy g A H0 V pc lv (vI x :: st) := by
  intro H locs ls hP hS hl
  exact lv_if_le C.1.1 C.1.2.1 hd ht (fun h => kt ((iI_le hx rng0).mp h) H locs ls hP hS hl) (fun h => kf (Int.not_le.mp (fun q => h ((iI_le hx rng0).mpr q))) H locs ls hP hS hl)
theorem g_sub {lv' : List (Nat × Value)} (ks : List Nat) (hk : lv_pick lv ks = lv') (k : G p l e R s m args below meth c nL cells slots Q D cy g A H0 V pc lv' st) : G p l e R s m args below meth c nL cells slots Q D cy g A H0 V pc lv st := by
  intro H locs ls hP hS hl
  exact k H locs ls hP hS (lv_sub hl ks hk)
theorem g_V {V' : VT} (h : V = V') (k : G p l e R s m args below meth c nL cells slots Q D cy g A H0 V' pc lv st) : G p l e R s m args below meth c nL cells slots Q D cy g A H0 V pc lv st := h ▸ k
theorem g_st {st' : List Value} (h : st = st') (k : G p l e R s m args below meth c nL cells slots Q D cy g A H0 V pc lv st') : G p l e R s m args below meth c nL cells slots Q D cy g A H0 V pc lv st := h ▸ k
theorem g_lv {lv' : List (Nat × Value)} (h : lv = lv') (k : G p l e R s m args below meth c nL cells slots Q D cy g A H0 V pc lv' st) : G p l e R s m args below meth c nL cells slots Q D cy g A H0 V pc lv st := h ▸ k
end
section
variable {p : Program} {l : Launch} {e : Env} {R : Room} {s : State} {m : MethodId} {args : Array Value} {below : List Frame} {meth : Method} {c : Code} {cells slots nL : Nat} {Q : State → Prop}
variable {cc : ByteArray} {own : String} {ret : Option FieldType} {D : va_G} {cy : ClassId × ClassId} {g : GT} {A : Nat → Prop} {H0 : Heap} {V : VT} {pc : Nat} {lv : List (Nat × Value)} {st : List Value}
theorem g_get (C : Cx p s m args meth c cc nL own ret D cy g A) {Cn : String} {T : u_T} {N ci index : Nat} (hin : ∀ w ∈ u_ws Cn T N, w ∈ wsG) (hc : vwCl[ci]? = some (Cn, T, N)) {a : Nat} (ha : a ∈ gL g) {fs : List Value} (he : pF cy g V a = .inr (ci, fs)) (k : Nat) (hk : k < N) (hlink : Cond.fieldLink own index (T k).1 (T k).2.1 (T k).2.2.1 ∈ wsG) {v : Value} (hv : fs[k]? = some v) (hd : decode cc pc = .ok (.getfield index, 3)) (kk : G p l e R s m args below meth c nL cells slots Q D cy g A H0 V (pc + 3) lv (v :: st)) : G p l e R s m args below meth c nL cells slots Q D cy g A H0 V pc lv (.ref a :: st) := by
  intro H locs ls hP hS hl
  obtain ⟨q0, hq0⟩ := pw_at (cy := cy) (V := V) ha
  rw [he] at hq0
  exact va_get C.1.1 C.1.2.1 C.1.2.2.2.2 hin C.1.2.2.2.1 C.2.1 hP q0 hq0 hc k hk (C.1.2.2.2.2 _ hlink) (fun _ h => h) hv hd (kk H locs ls hP hS hl)
theorem g_put (C : Cx p s m args meth c cc nL own ret D cy g A) {Cn : String} {T : u_T} {N ci index : Nat} (hin : ∀ w ∈ u_ws Cn T N, w ∈ wsG) (ty0 : Nat → FieldType) (hty : ∀ k, k < N → parseFieldDescriptor (T k).2.2.1 = some (ty0 k)) (hnm : ∀ a, a < N → ∀ b, b < N → a ≠ b → (T a).2.1 ≠ (T b).2.1) (hc : vwCl[ci]? = some (Cn, T, N)) {a : Nat} (ha : a ∈ gL g) {fs : List Value} (he : pF cy g V a = .inr (ci, fs)) (k : Nat) (hk : k < N) (hlink : Cond.fieldLink own index (T k).1 (T k).2.1 (T k).2.2.1 ∈ wsG) (hfin : (T k).2.2.2 = false) {ty : FieldType} {v j : Int} (hdty : parseFieldDescriptor (T k).2.2.1 = some ty) (hn : narrow ty (vI v) = vI v) (hfit : fits ty (vI v) = true) (hlen : k < fs.length) (he2 : pF cy g (up V (gO g a) (gT g a) j v) a = .inr (ci, fs.set k (vI v))) (hd : decode cc pc = .ok (.putfield index, 3)) (kk : G p l e R s m args below meth c nL cells slots Q D cy g A H0 (up V (gO g a) (gT g a) j v) (pc + 3) lv st) : G p l e R s m args below meth c nL cells slots Q D cy g A H0 V pc lv (vI v :: .ref a :: st) := by
  intro H locs ls hP hS hl
  obtain ⟨q0, hq0⟩ := pw_at (cy := cy) (V := V) ha
  have hset := pw_set (e := .inr (ci, fs.set k (vI v))) C.2.2.2.1 C.2.2.2.2.1 ha hq0 he2
  rw [he] at hq0
  refine va_put C.1.1 C.1.2.1 C.1.2.2.2.2 hin ty0 hty hnm C.1.2.2.2.1 C.2.1 hP (pw_D C.2.2.2.1 C.2.2.2.2.1) hS q0 hq0 hc k hk (C.1.2.2.2.2 _ hlink) (fun _ h => h) hfin hdty hn hfit hlen hd (fun H1 locs1 hP1 _ hS1 => ?_)
  rw [hset] at hP1
  exact kk H1 locs1 ls hP1 hS1 hl
theorem g_getN (C : Cx p s m args meth c cc nL own ret D cy g A) {Cn host : String} {T : u_T} {N ci index : Nat} (hin : ∀ w ∈ u_ws Cn T N, w ∈ wsG) (hc : vwCl[ci]? = some (Cn, T, N)) {a : Nat} (ha : a ∈ gL g) {fs : List Value} (he : pF cy g V a = .inr (ci, fs)) (k : Nat) (hk : k < N) (hlink : Cond.fieldLinkNest own index (T k).1 (T k).2.1 (T k).2.2.1 host ∈ nestL) {v : Value} (hv : fs[k]? = some v) (hd : decode cc pc = .ok (.getfield index, 3)) (kk : G p l e R s m args below meth c nL cells slots Q D cy g A H0 V (pc + 3) lv (v :: st)) : G p l e R s m args below meth c nL cells slots Q D cy g A H0 V pc lv (.ref a :: st) := by
  intro H locs ls hP hS hl
  obtain ⟨q0, hq0⟩ := pw_at (cy := cy) (V := V) ha
  rw [he] at hq0
  exact va_getN C.1.1 C.1.2.1 C.1.2.2.2.2 hin C.1.2.2.2.1 C.2.1 hP q0 hq0 hc k hk (va_Nw.use rfl (C.2.2.1 _ hlink)) (fun _ h => h) hv hd (kk H locs ls hP hS hl)
theorem g_putN (C : Cx p s m args meth c cc nL own ret D cy g A) {Cn host : String} {T : u_T} {N ci index : Nat} (hin : ∀ w ∈ u_ws Cn T N, w ∈ wsG) (ty0 : Nat → FieldType) (hty : ∀ k, k < N → parseFieldDescriptor (T k).2.2.1 = some (ty0 k)) (hnm : ∀ a, a < N → ∀ b, b < N → a ≠ b → (T a).2.1 ≠ (T b).2.1) (hc : vwCl[ci]? = some (Cn, T, N)) {a : Nat} (ha : a ∈ gL g) {fs : List Value} (he : pF cy g V a = .inr (ci, fs)) (k : Nat) (hk : k < N) (hlink : Cond.fieldLinkNest own index (T k).1 (T k).2.1 (T k).2.2.1 host ∈ nestL) (hfin : (T k).2.2.2 = false) {ty : FieldType} {v j : Int} (hdty : parseFieldDescriptor (T k).2.2.1 = some ty) (hn : narrow ty (vI v) = vI v) (hfit : fits ty (vI v) = true) (hlen : k < fs.length) (he2 : pF cy g (up V (gO g a) (gT g a) j v) a = .inr (ci, fs.set k (vI v))) (hd : decode cc pc = .ok (.putfield index, 3)) (kk : G p l e R s m args below meth c nL cells slots Q D cy g A H0 (up V (gO g a) (gT g a) j v) (pc + 3) lv st) : G p l e R s m args below meth c nL cells slots Q D cy g A H0 V pc lv (vI v :: .ref a :: st) := by
  intro H locs ls hP hS hl
  obtain ⟨q0, hq0⟩ := pw_at (cy := cy) (V := V) ha
  have hset := pw_set (e := .inr (ci, fs.set k (vI v))) C.2.2.2.1 C.2.2.2.2.1 ha hq0 he2
  rw [he] at hq0
  refine va_putN C.1.1 C.1.2.1 C.1.2.2.2.2 hin ty0 hty hnm C.1.2.2.2.1 C.2.1 hP (pw_D C.2.2.2.1 C.2.2.2.2.1) hS q0 hq0 hc k hk (va_Nw.use rfl (C.2.2.1 _ hlink)) (fun _ h => h) hfin hdty hn hfit hlen hd (fun H1 locs1 hP1 _ hS1 => ?_)
  rw [hset] at hP1
  exact kk H1 locs1 ls hP1 hS1 hl
def isO (g : GT) (ci a : Nat) (o : Int) : Prop := a ∈ gL g ∧ gK g a = ci ∧ gO g a = o ∧ gT g a = 0
def isA (g : GT) (a : Nat) (o t : Int) (n : Nat) : Prop := a ∈ gL g ∧ gK g a = 5 ∧ gO g a = o ∧ gT g a = t ∧ gN g a = n
def isQ (g : GT) (a : Nat) (n : Nat) : Prop := a ∈ gL g ∧ gK g a = 6 ∧ gN g a = n
theorem g_iald (C : Cx p s m args meth c cc nL own ret D cy g A) {a : Nat} {o t i : Int} {n : Nat} (ha : isA g a o t n) (hi : 0 ≤ i ∧ i < n) (hn : n < 2147483648) (hd : decode cc pc = .ok (.iaload, 1)) (kk : G p l e R s m args below meth c nL cells slots Q D cy g A H0 V (pc + 1) lv (vI (V o t i) :: st)) : G p l e R s m args below meth c nL cells slots Q D cy g A H0 V pc lv (vI i :: .ref a :: st) := by
  intro H locs ls hP hS hl
  obtain ⟨h1, h2, h3, h4, h5⟩ := ha
  have hr : rng i := ⟨by omega, by omega⟩
  obtain ⟨q0, hq0⟩ := pw_at (cy := cy) (V := V) h1
  have he : pF cy g V a = .inl (cy.1, n, .inl (fun k => iI (V o t k))) := by simp [pF, h2, h3, h4, h5]
  rw [he] at hq0
  refine va_iald C.1.1 C.1.2.1 C.2.1 hP q0 0 hq0 rfl (iI_in hi.1 hi.2 hr) hd ?_
  rw [iI_clamp hi.1 hr, Int.toNat_of_nonneg hi.1]
  exact kk H locs ls hP hS hl
theorem g_iast (C : Cx p s m args meth c cc nL own ret D cy g A) {a : Nat} {o t i v : Int} {n : Nat} (ha : isA g a o t n) (hi : 0 ≤ i ∧ i < n) (hn : n < 2147483648) (hd : decode cc pc = .ok (.iastore, 1)) (kk : G p l e R s m args below meth c nL cells slots Q D cy g A H0 (up V o t i v) (pc + 1) lv st) : G p l e R s m args below meth c nL cells slots Q D cy g A H0 V pc lv (vI v :: vI i :: .ref a :: st) := by
  intro H locs ls hP hS hl
  obtain ⟨h1, h2, h3, h4, h5⟩ := ha
  have hr : rng i := ⟨by omega, by omega⟩
  obtain ⟨q0, hq0⟩ := pw_at (cy := cy) (V := V) h1
  have he : pF cy g V a = .inl (cy.1, n, .inl (fun k => iI (V o t k))) := by simp [pF, h2, h3, h4, h5]
  have he2 : pF cy g (up V (gO g a) (gT g a) i v) a = .inl (cy.1, n, .inl (upd (fun k => iI (V o t k)) (iI i).toNatClampNeg (iI v))) := by
    rw [iI_clamp hi.1 hr]
    simp only [pF, h2, h3, h4, h5]
    simp only [if_neg (show ¬ (5 : Nat) = 0 by decide), if_neg (show ¬ (5 : Nat) = 1 by decide), if_neg (show ¬ (5 : Nat) = 2 by decide), if_neg (show ¬ (5 : Nat) = 3 by decide), if_neg (show ¬ (5 : Nat) = 4 by decide), if_true]
    congr 4
    funext k
    unfold upd up
    by_cases hk : k = i.toNat
    · rw [if_pos hk, if_pos ⟨rfl, rfl, by omega⟩]
    · rw [if_neg hk, if_neg (fun h => hk (by omega))]
  have hset := pw_set C.2.2.2.1 C.2.2.2.2.1 h1 hq0 he2
  rw [he] at hq0
  refine va_iast C.1.1 C.1.2.1 C.2.1 hP (pw_D C.2.2.2.1 C.2.2.2.2.1) hS q0 0 hq0 rfl (iI_in hi.1 hi.2 hr) hd (fun H1 locs1 hP1 _ hS1 => ?_)
  rw [hset, h3, h4] at hP1
  exact kk H1 locs1 ls hP1 hS1 hl
theorem g_aald (C : Cx p s m args meth c cc nL own ret D cy g A) {a b : Nat} {i : Int} {n : Nat} (ha : isQ g a n) (hi : 0 ≤ i ∧ i < n) (hn : n < 2147483648) (hb : gR g a i.toNat = some b) (hd : decode cc pc = .ok (.aaload, 1)) (kk : G p l e R s m args below meth c nL cells slots Q D cy g A H0 V (pc + 1) lv (.ref b :: st)) : G p l e R s m args below meth c nL cells slots Q D cy g A H0 V pc lv (vI i :: .ref a :: st) := by
  intro H locs ls hP hS hl
  obtain ⟨h1, h2, h5⟩ := ha
  have hr : rng i := ⟨by omega, by omega⟩
  obtain ⟨q0, hq0⟩ := pw_at (cy := cy) (V := V) h1
  have he : pF cy g V a = .inl (cy.2, n, .inr (.inr (.inr (.inr (gR g a))))) := by simp [pF, h2, h5]
  rw [he] at hq0
  refine va_aldq C.1.1 C.1.2.1 C.2.1 hP q0 1 hq0 rfl (iI_in hi.1 hi.2 hr) hd ?_
  rw [iI_clamp hi.1 hr, hb]
  exact kk H locs ls hP hS hl
theorem in_Log : ∀ w ∈ u_ws RX0 TX0 4, w ∈ wsG := by
  intro w hw
  refine List.mem_filter.mpr ⟨?_, ?_⟩
  · exact (show ∀ w ∈ u_ws RX0 TX0 4, w ∈ lw_tbl by decide +kernel) w hw
  · exact (show ∀ w ∈ u_ws RX0 TX0 4, goodWord w = true by decide +kernel) w hw
theorem pF_Log {a : Nat} {o : Int} (h : isO g 0 a o) (V : VT) : pF cy g V a = .inr (0, [va_rf (gR g a 0), va_rf (gR g a 1), va_rf (gR g a 2), vI (V o 0 3)]) := by
  obtain ⟨h1, h2, h3, h4⟩ := h
  simp [pF, h2, h3, h4]
theorem gf_Log_records (C : Cx p s m args meth c cc nL own ret D cy g A) {index a b : Nat} {o : Int} (h : isO g 0 a o) (hb : gR g a 0 = some b) (hlink : Cond.fieldLink own index "SlotFile$Log" "records" "[I" ∈ wsG) (hd : decode cc pc = .ok (.getfield index, 3)) (kk : G p l e R s m args below meth c nL cells slots Q D cy g A H0 V (pc + 3) lv (.ref b :: st)) : G p l e R s m args below meth c nL cells slots Q D cy g A H0 V pc lv (.ref a :: st) :=
  g_get (Cn := RX0) (T := TX0) (N := 4) C in_Log rfl h.1 (pF_Log h V) 0 (by decide) hlink (v := .ref b) (by simp [hb, va_rf]) hd kk
theorem gfN_Log_records (C : Cx p s m args meth c cc nL own ret D cy g A) {index a b : Nat} {o : Int} (h : isO g 0 a o) (hb : gR g a 0 = some b) (hlink : Cond.fieldLinkNest own index "SlotFile$Log" "records" "[I" "SlotFile" ∈ nestL) (hd : decode cc pc = .ok (.getfield index, 3)) (kk : G p l e R s m args below meth c nL cells slots Q D cy g A H0 V (pc + 3) lv (.ref b :: st)) : G p l e R s m args below meth c nL cells slots Q D cy g A H0 V pc lv (.ref a :: st) :=
  g_getN (Cn := RX0) (T := TX0) (N := 4) C in_Log rfl h.1 (pF_Log h V) 0 (by decide) hlink (v := .ref b) (by simp [hb, va_rf]) hd kk
theorem gf_Log_lengths (C : Cx p s m args meth c cc nL own ret D cy g A) {index a b : Nat} {o : Int} (h : isO g 0 a o) (hb : gR g a 1 = some b) (hlink : Cond.fieldLink own index "SlotFile$Log" "lengths" "[I" ∈ wsG) (hd : decode cc pc = .ok (.getfield index, 3)) (kk : G p l e R s m args below meth c nL cells slots Q D cy g A H0 V (pc + 3) lv (.ref b :: st)) : G p l e R s m args below meth c nL cells slots Q D cy g A H0 V pc lv (.ref a :: st) :=
  g_get (Cn := RX0) (T := TX0) (N := 4) C in_Log rfl h.1 (pF_Log h V) 1 (by decide) hlink (v := .ref b) (by simp [hb, va_rf]) hd kk
theorem gfN_Log_lengths (C : Cx p s m args meth c cc nL own ret D cy g A) {index a b : Nat} {o : Int} (h : isO g 0 a o) (hb : gR g a 1 = some b) (hlink : Cond.fieldLinkNest own index "SlotFile$Log" "lengths" "[I" "SlotFile" ∈ nestL) (hd : decode cc pc = .ok (.getfield index, 3)) (kk : G p l e R s m args below meth c nL cells slots Q D cy g A H0 V (pc + 3) lv (.ref b :: st)) : G p l e R s m args below meth c nL cells slots Q D cy g A H0 V pc lv (.ref a :: st) :=
  g_getN (Cn := RX0) (T := TX0) (N := 4) C in_Log rfl h.1 (pF_Log h V) 1 (by decide) hlink (v := .ref b) (by simp [hb, va_rf]) hd kk
theorem gf_Log_seeds (C : Cx p s m args meth c cc nL own ret D cy g A) {index a b : Nat} {o : Int} (h : isO g 0 a o) (hb : gR g a 2 = some b) (hlink : Cond.fieldLink own index "SlotFile$Log" "seeds" "[I" ∈ wsG) (hd : decode cc pc = .ok (.getfield index, 3)) (kk : G p l e R s m args below meth c nL cells slots Q D cy g A H0 V (pc + 3) lv (.ref b :: st)) : G p l e R s m args below meth c nL cells slots Q D cy g A H0 V pc lv (.ref a :: st) :=
  g_get (Cn := RX0) (T := TX0) (N := 4) C in_Log rfl h.1 (pF_Log h V) 2 (by decide) hlink (v := .ref b) (by simp [hb, va_rf]) hd kk
theorem gfN_Log_seeds (C : Cx p s m args meth c cc nL own ret D cy g A) {index a b : Nat} {o : Int} (h : isO g 0 a o) (hb : gR g a 2 = some b) (hlink : Cond.fieldLinkNest own index "SlotFile$Log" "seeds" "[I" "SlotFile" ∈ nestL) (hd : decode cc pc = .ok (.getfield index, 3)) (kk : G p l e R s m args below meth c nL cells slots Q D cy g A H0 V (pc + 3) lv (.ref b :: st)) : G p l e R s m args below meth c nL cells slots Q D cy g A H0 V pc lv (.ref a :: st) :=
  g_getN (Cn := RX0) (T := TX0) (N := 4) C in_Log rfl h.1 (pF_Log h V) 2 (by decide) hlink (v := .ref b) (by simp [hb, va_rf]) hd kk
theorem gf_Log_size (C : Cx p s m args meth c cc nL own ret D cy g A) {index a : Nat} {o : Int} (h : isO g 0 a o) (hlink : Cond.fieldLink own index "SlotFile$Log" "size" "I" ∈ wsG) (hd : decode cc pc = .ok (.getfield index, 3)) (kk : G p l e R s m args below meth c nL cells slots Q D cy g A H0 V (pc + 3) lv (vI (V o 0 3) :: st)) : G p l e R s m args below meth c nL cells slots Q D cy g A H0 V pc lv (.ref a :: st) :=
  g_get (Cn := RX0) (T := TX0) (N := 4) C in_Log rfl h.1 (pF_Log h V) 3 (by decide) hlink (v := vI (V o 0 3)) rfl hd kk
theorem gp_Log_size (C : Cx p s m args meth c cc nL own ret D cy g A) {index a : Nat} {o v : Int} (h : isO g 0 a o) (hlink : Cond.fieldLink own index "SlotFile$Log" "size" "I" ∈ wsG) (hd : decode cc pc = .ok (.putfield index, 3)) (kk : G p l e R s m args below meth c nL cells slots Q D cy g A H0 (up V o 0 3 v) (pc + 3) lv st) : G p l e R s m args below meth c nL cells slots Q D cy g A H0 V pc lv (vI v :: .ref a :: st) := by
  refine g_put (Cn := RX0) (T := TX0) (N := 4) (ty := .int) (j := 3) C in_Log tyX0 tyX0_ok nmX0 rfl h.1 (pF_Log h V) 3 (by decide) hlink rfl (by decide +kernel) rfl rfl (Nat.le_of_ble_eq_true rfl) ?_ hd ?_
  · rw [h.2.2.1, h.2.2.2, pF_Log h]
    simp [up, List.set]
  · rw [h.2.2.1, h.2.2.2]
    exact kk
theorem gfN_Log_size (C : Cx p s m args meth c cc nL own ret D cy g A) {index a : Nat} {o : Int} (h : isO g 0 a o) (hlink : Cond.fieldLinkNest own index "SlotFile$Log" "size" "I" "SlotFile" ∈ nestL) (hd : decode cc pc = .ok (.getfield index, 3)) (kk : G p l e R s m args below meth c nL cells slots Q D cy g A H0 V (pc + 3) lv (vI (V o 0 3) :: st)) : G p l e R s m args below meth c nL cells slots Q D cy g A H0 V pc lv (.ref a :: st) :=
  g_getN (Cn := RX0) (T := TX0) (N := 4) C in_Log rfl h.1 (pF_Log h V) 3 (by decide) hlink (v := vI (V o 0 3)) rfl hd kk
theorem gpN_Log_size (C : Cx p s m args meth c cc nL own ret D cy g A) {index a : Nat} {o v : Int} (h : isO g 0 a o) (hlink : Cond.fieldLinkNest own index "SlotFile$Log" "size" "I" "SlotFile" ∈ nestL) (hd : decode cc pc = .ok (.putfield index, 3)) (kk : G p l e R s m args below meth c nL cells slots Q D cy g A H0 (up V o 0 3 v) (pc + 3) lv st) : G p l e R s m args below meth c nL cells slots Q D cy g A H0 V pc lv (vI v :: .ref a :: st) := by
  refine g_putN (Cn := RX0) (T := TX0) (N := 4) (ty := .int) (j := 3) C in_Log tyX0 tyX0_ok nmX0 rfl h.1 (pF_Log h V) 3 (by decide) hlink rfl (by decide +kernel) rfl rfl (Nat.le_of_ble_eq_true rfl) ?_ hd ?_
  · rw [h.2.2.1, h.2.2.2, pF_Log h]
    simp [up, List.set]
  · rw [h.2.2.1, h.2.2.2]
    exact kk
theorem in_Page : ∀ w ∈ u_ws RX1 TX1 13, w ∈ wsG := by
  intro w hw
  refine List.mem_filter.mpr ⟨?_, ?_⟩
  · exact (show ∀ w ∈ u_ws RX1 TX1 13, w ∈ lw_tbl by decide +kernel) w hw
  · exact (show ∀ w ∈ u_ws RX1 TX1 13, goodWord w = true by decide +kernel) w hw
theorem pF_Page {a : Nat} {o : Int} (h : isO g 1 a o) (V : VT) : pF cy g V a = .inr (1, [vI (V o 0 0), vI (V o 0 1), vI (V o 0 2), vI (V o 0 3), vI (V o 0 4), vI (V o 0 5), vI (V o 0 6), vI (V o 0 7), vI (V o 0 8), va_rf (gR g a 9), va_rf (gR g a 10), va_rf (gR g a 11), va_rf (gR g a 12)]) := by
  obtain ⟨h1, h2, h3, h4⟩ := h
  simp [pF, h2, h3, h4]
theorem gf_Page_kind (C : Cx p s m args meth c cc nL own ret D cy g A) {index a : Nat} {o : Int} (h : isO g 1 a o) (hlink : Cond.fieldLink own index "SlotFile$Page" "kind" "I" ∈ wsG) (hd : decode cc pc = .ok (.getfield index, 3)) (kk : G p l e R s m args below meth c nL cells slots Q D cy g A H0 V (pc + 3) lv (vI (V o 0 0) :: st)) : G p l e R s m args below meth c nL cells slots Q D cy g A H0 V pc lv (.ref a :: st) :=
  g_get (Cn := RX1) (T := TX1) (N := 13) C in_Page rfl h.1 (pF_Page h V) 0 (by decide) hlink (v := vI (V o 0 0)) rfl hd kk
theorem gp_Page_kind (C : Cx p s m args meth c cc nL own ret D cy g A) {index a : Nat} {o v : Int} (h : isO g 1 a o) (hlink : Cond.fieldLink own index "SlotFile$Page" "kind" "I" ∈ wsG) (hd : decode cc pc = .ok (.putfield index, 3)) (kk : G p l e R s m args below meth c nL cells slots Q D cy g A H0 (up V o 0 0 v) (pc + 3) lv st) : G p l e R s m args below meth c nL cells slots Q D cy g A H0 V pc lv (vI v :: .ref a :: st) := by
  refine g_put (Cn := RX1) (T := TX1) (N := 13) (ty := .int) (j := 0) C in_Page tyX1 tyX1_ok nmX1 rfl h.1 (pF_Page h V) 0 (by decide) hlink rfl (by decide +kernel) rfl rfl (Nat.le_of_ble_eq_true rfl) ?_ hd ?_
  · rw [h.2.2.1, h.2.2.2, pF_Page h]
    simp [up, List.set]
  · rw [h.2.2.1, h.2.2.2]
    exact kk
theorem gfN_Page_kind (C : Cx p s m args meth c cc nL own ret D cy g A) {index a : Nat} {o : Int} (h : isO g 1 a o) (hlink : Cond.fieldLinkNest own index "SlotFile$Page" "kind" "I" "SlotFile" ∈ nestL) (hd : decode cc pc = .ok (.getfield index, 3)) (kk : G p l e R s m args below meth c nL cells slots Q D cy g A H0 V (pc + 3) lv (vI (V o 0 0) :: st)) : G p l e R s m args below meth c nL cells slots Q D cy g A H0 V pc lv (.ref a :: st) :=
  g_getN (Cn := RX1) (T := TX1) (N := 13) C in_Page rfl h.1 (pF_Page h V) 0 (by decide) hlink (v := vI (V o 0 0)) rfl hd kk
theorem gpN_Page_kind (C : Cx p s m args meth c cc nL own ret D cy g A) {index a : Nat} {o v : Int} (h : isO g 1 a o) (hlink : Cond.fieldLinkNest own index "SlotFile$Page" "kind" "I" "SlotFile" ∈ nestL) (hd : decode cc pc = .ok (.putfield index, 3)) (kk : G p l e R s m args below meth c nL cells slots Q D cy g A H0 (up V o 0 0 v) (pc + 3) lv st) : G p l e R s m args below meth c nL cells slots Q D cy g A H0 V pc lv (vI v :: .ref a :: st) := by
  refine g_putN (Cn := RX1) (T := TX1) (N := 13) (ty := .int) (j := 0) C in_Page tyX1 tyX1_ok nmX1 rfl h.1 (pF_Page h V) 0 (by decide) hlink rfl (by decide +kernel) rfl rfl (Nat.le_of_ble_eq_true rfl) ?_ hd ?_
  · rw [h.2.2.1, h.2.2.2, pF_Page h]
    simp [up, List.set]
  · rw [h.2.2.1, h.2.2.2]
    exact kk
theorem gf_Page_slots (C : Cx p s m args meth c cc nL own ret D cy g A) {index a : Nat} {o : Int} (h : isO g 1 a o) (hlink : Cond.fieldLink own index "SlotFile$Page" "slots" "I" ∈ wsG) (hd : decode cc pc = .ok (.getfield index, 3)) (kk : G p l e R s m args below meth c nL cells slots Q D cy g A H0 V (pc + 3) lv (vI (V o 0 1) :: st)) : G p l e R s m args below meth c nL cells slots Q D cy g A H0 V pc lv (.ref a :: st) :=
  g_get (Cn := RX1) (T := TX1) (N := 13) C in_Page rfl h.1 (pF_Page h V) 1 (by decide) hlink (v := vI (V o 0 1)) rfl hd kk
theorem gp_Page_slots (C : Cx p s m args meth c cc nL own ret D cy g A) {index a : Nat} {o v : Int} (h : isO g 1 a o) (hlink : Cond.fieldLink own index "SlotFile$Page" "slots" "I" ∈ wsG) (hd : decode cc pc = .ok (.putfield index, 3)) (kk : G p l e R s m args below meth c nL cells slots Q D cy g A H0 (up V o 0 1 v) (pc + 3) lv st) : G p l e R s m args below meth c nL cells slots Q D cy g A H0 V pc lv (vI v :: .ref a :: st) := by
  refine g_put (Cn := RX1) (T := TX1) (N := 13) (ty := .int) (j := 1) C in_Page tyX1 tyX1_ok nmX1 rfl h.1 (pF_Page h V) 1 (by decide) hlink rfl (by decide +kernel) rfl rfl (Nat.le_of_ble_eq_true rfl) ?_ hd ?_
  · rw [h.2.2.1, h.2.2.2, pF_Page h]
    simp [up, List.set]
  · rw [h.2.2.1, h.2.2.2]
    exact kk
theorem gfN_Page_slots (C : Cx p s m args meth c cc nL own ret D cy g A) {index a : Nat} {o : Int} (h : isO g 1 a o) (hlink : Cond.fieldLinkNest own index "SlotFile$Page" "slots" "I" "SlotFile" ∈ nestL) (hd : decode cc pc = .ok (.getfield index, 3)) (kk : G p l e R s m args below meth c nL cells slots Q D cy g A H0 V (pc + 3) lv (vI (V o 0 1) :: st)) : G p l e R s m args below meth c nL cells slots Q D cy g A H0 V pc lv (.ref a :: st) :=
  g_getN (Cn := RX1) (T := TX1) (N := 13) C in_Page rfl h.1 (pF_Page h V) 1 (by decide) hlink (v := vI (V o 0 1)) rfl hd kk
theorem gpN_Page_slots (C : Cx p s m args meth c cc nL own ret D cy g A) {index a : Nat} {o v : Int} (h : isO g 1 a o) (hlink : Cond.fieldLinkNest own index "SlotFile$Page" "slots" "I" "SlotFile" ∈ nestL) (hd : decode cc pc = .ok (.putfield index, 3)) (kk : G p l e R s m args below meth c nL cells slots Q D cy g A H0 (up V o 0 1 v) (pc + 3) lv st) : G p l e R s m args below meth c nL cells slots Q D cy g A H0 V pc lv (vI v :: .ref a :: st) := by
  refine g_putN (Cn := RX1) (T := TX1) (N := 13) (ty := .int) (j := 1) C in_Page tyX1 tyX1_ok nmX1 rfl h.1 (pF_Page h V) 1 (by decide) hlink rfl (by decide +kernel) rfl rfl (Nat.le_of_ble_eq_true rfl) ?_ hd ?_
  · rw [h.2.2.1, h.2.2.2, pF_Page h]
    simp [up, List.set]
  · rw [h.2.2.1, h.2.2.2]
    exact kk
theorem gf_Page_cells (C : Cx p s m args meth c cc nL own ret D cy g A) {index a : Nat} {o : Int} (h : isO g 1 a o) (hlink : Cond.fieldLink own index "SlotFile$Page" "cells" "I" ∈ wsG) (hd : decode cc pc = .ok (.getfield index, 3)) (kk : G p l e R s m args below meth c nL cells slots Q D cy g A H0 V (pc + 3) lv (vI (V o 0 2) :: st)) : G p l e R s m args below meth c nL cells slots Q D cy g A H0 V pc lv (.ref a :: st) :=
  g_get (Cn := RX1) (T := TX1) (N := 13) C in_Page rfl h.1 (pF_Page h V) 2 (by decide) hlink (v := vI (V o 0 2)) rfl hd kk
theorem gp_Page_cells (C : Cx p s m args meth c cc nL own ret D cy g A) {index a : Nat} {o v : Int} (h : isO g 1 a o) (hlink : Cond.fieldLink own index "SlotFile$Page" "cells" "I" ∈ wsG) (hd : decode cc pc = .ok (.putfield index, 3)) (kk : G p l e R s m args below meth c nL cells slots Q D cy g A H0 (up V o 0 2 v) (pc + 3) lv st) : G p l e R s m args below meth c nL cells slots Q D cy g A H0 V pc lv (vI v :: .ref a :: st) := by
  refine g_put (Cn := RX1) (T := TX1) (N := 13) (ty := .int) (j := 2) C in_Page tyX1 tyX1_ok nmX1 rfl h.1 (pF_Page h V) 2 (by decide) hlink rfl (by decide +kernel) rfl rfl (Nat.le_of_ble_eq_true rfl) ?_ hd ?_
  · rw [h.2.2.1, h.2.2.2, pF_Page h]
    simp [up, List.set]
  · rw [h.2.2.1, h.2.2.2]
    exact kk
theorem gfN_Page_cells (C : Cx p s m args meth c cc nL own ret D cy g A) {index a : Nat} {o : Int} (h : isO g 1 a o) (hlink : Cond.fieldLinkNest own index "SlotFile$Page" "cells" "I" "SlotFile" ∈ nestL) (hd : decode cc pc = .ok (.getfield index, 3)) (kk : G p l e R s m args below meth c nL cells slots Q D cy g A H0 V (pc + 3) lv (vI (V o 0 2) :: st)) : G p l e R s m args below meth c nL cells slots Q D cy g A H0 V pc lv (.ref a :: st) :=
  g_getN (Cn := RX1) (T := TX1) (N := 13) C in_Page rfl h.1 (pF_Page h V) 2 (by decide) hlink (v := vI (V o 0 2)) rfl hd kk
theorem gpN_Page_cells (C : Cx p s m args meth c cc nL own ret D cy g A) {index a : Nat} {o v : Int} (h : isO g 1 a o) (hlink : Cond.fieldLinkNest own index "SlotFile$Page" "cells" "I" "SlotFile" ∈ nestL) (hd : decode cc pc = .ok (.putfield index, 3)) (kk : G p l e R s m args below meth c nL cells slots Q D cy g A H0 (up V o 0 2 v) (pc + 3) lv st) : G p l e R s m args below meth c nL cells slots Q D cy g A H0 V pc lv (vI v :: .ref a :: st) := by
  refine g_putN (Cn := RX1) (T := TX1) (N := 13) (ty := .int) (j := 2) C in_Page tyX1 tyX1_ok nmX1 rfl h.1 (pF_Page h V) 2 (by decide) hlink rfl (by decide +kernel) rfl rfl (Nat.le_of_ble_eq_true rfl) ?_ hd ?_
  · rw [h.2.2.1, h.2.2.2, pF_Page h]
    simp [up, List.set]
  · rw [h.2.2.1, h.2.2.2]
    exact kk
theorem gf_Page_stubs (C : Cx p s m args meth c cc nL own ret D cy g A) {index a : Nat} {o : Int} (h : isO g 1 a o) (hlink : Cond.fieldLink own index "SlotFile$Page" "stubs" "I" ∈ wsG) (hd : decode cc pc = .ok (.getfield index, 3)) (kk : G p l e R s m args below meth c nL cells slots Q D cy g A H0 V (pc + 3) lv (vI (V o 0 3) :: st)) : G p l e R s m args below meth c nL cells slots Q D cy g A H0 V pc lv (.ref a :: st) :=
  g_get (Cn := RX1) (T := TX1) (N := 13) C in_Page rfl h.1 (pF_Page h V) 3 (by decide) hlink (v := vI (V o 0 3)) rfl hd kk
theorem gp_Page_stubs (C : Cx p s m args meth c cc nL own ret D cy g A) {index a : Nat} {o v : Int} (h : isO g 1 a o) (hlink : Cond.fieldLink own index "SlotFile$Page" "stubs" "I" ∈ wsG) (hd : decode cc pc = .ok (.putfield index, 3)) (kk : G p l e R s m args below meth c nL cells slots Q D cy g A H0 (up V o 0 3 v) (pc + 3) lv st) : G p l e R s m args below meth c nL cells slots Q D cy g A H0 V pc lv (vI v :: .ref a :: st) := by
  refine g_put (Cn := RX1) (T := TX1) (N := 13) (ty := .int) (j := 3) C in_Page tyX1 tyX1_ok nmX1 rfl h.1 (pF_Page h V) 3 (by decide) hlink rfl (by decide +kernel) rfl rfl (Nat.le_of_ble_eq_true rfl) ?_ hd ?_
  · rw [h.2.2.1, h.2.2.2, pF_Page h]
    simp [up, List.set]
  · rw [h.2.2.1, h.2.2.2]
    exact kk
theorem gfN_Page_stubs (C : Cx p s m args meth c cc nL own ret D cy g A) {index a : Nat} {o : Int} (h : isO g 1 a o) (hlink : Cond.fieldLinkNest own index "SlotFile$Page" "stubs" "I" "SlotFile" ∈ nestL) (hd : decode cc pc = .ok (.getfield index, 3)) (kk : G p l e R s m args below meth c nL cells slots Q D cy g A H0 V (pc + 3) lv (vI (V o 0 3) :: st)) : G p l e R s m args below meth c nL cells slots Q D cy g A H0 V pc lv (.ref a :: st) :=
  g_getN (Cn := RX1) (T := TX1) (N := 13) C in_Page rfl h.1 (pF_Page h V) 3 (by decide) hlink (v := vI (V o 0 3)) rfl hd kk
theorem gpN_Page_stubs (C : Cx p s m args meth c cc nL own ret D cy g A) {index a : Nat} {o v : Int} (h : isO g 1 a o) (hlink : Cond.fieldLinkNest own index "SlotFile$Page" "stubs" "I" "SlotFile" ∈ nestL) (hd : decode cc pc = .ok (.putfield index, 3)) (kk : G p l e R s m args below meth c nL cells slots Q D cy g A H0 (up V o 0 3 v) (pc + 3) lv st) : G p l e R s m args below meth c nL cells slots Q D cy g A H0 V pc lv (vI v :: .ref a :: st) := by
  refine g_putN (Cn := RX1) (T := TX1) (N := 13) (ty := .int) (j := 3) C in_Page tyX1 tyX1_ok nmX1 rfl h.1 (pF_Page h V) 3 (by decide) hlink rfl (by decide +kernel) rfl rfl (Nat.le_of_ble_eq_true rfl) ?_ hd ?_
  · rw [h.2.2.1, h.2.2.2, pF_Page h]
    simp [up, List.set]
  · rw [h.2.2.1, h.2.2.2]
    exact kk
theorem gf_Page_used (C : Cx p s m args meth c cc nL own ret D cy g A) {index a : Nat} {o : Int} (h : isO g 1 a o) (hlink : Cond.fieldLink own index "SlotFile$Page" "used" "I" ∈ wsG) (hd : decode cc pc = .ok (.getfield index, 3)) (kk : G p l e R s m args below meth c nL cells slots Q D cy g A H0 V (pc + 3) lv (vI (V o 0 4) :: st)) : G p l e R s m args below meth c nL cells slots Q D cy g A H0 V pc lv (.ref a :: st) :=
  g_get (Cn := RX1) (T := TX1) (N := 13) C in_Page rfl h.1 (pF_Page h V) 4 (by decide) hlink (v := vI (V o 0 4)) rfl hd kk
theorem gp_Page_used (C : Cx p s m args meth c cc nL own ret D cy g A) {index a : Nat} {o v : Int} (h : isO g 1 a o) (hlink : Cond.fieldLink own index "SlotFile$Page" "used" "I" ∈ wsG) (hd : decode cc pc = .ok (.putfield index, 3)) (kk : G p l e R s m args below meth c nL cells slots Q D cy g A H0 (up V o 0 4 v) (pc + 3) lv st) : G p l e R s m args below meth c nL cells slots Q D cy g A H0 V pc lv (vI v :: .ref a :: st) := by
  refine g_put (Cn := RX1) (T := TX1) (N := 13) (ty := .int) (j := 4) C in_Page tyX1 tyX1_ok nmX1 rfl h.1 (pF_Page h V) 4 (by decide) hlink rfl (by decide +kernel) rfl rfl (Nat.le_of_ble_eq_true rfl) ?_ hd ?_
  · rw [h.2.2.1, h.2.2.2, pF_Page h]
    simp [up, List.set]
  · rw [h.2.2.1, h.2.2.2]
    exact kk
theorem gfN_Page_used (C : Cx p s m args meth c cc nL own ret D cy g A) {index a : Nat} {o : Int} (h : isO g 1 a o) (hlink : Cond.fieldLinkNest own index "SlotFile$Page" "used" "I" "SlotFile" ∈ nestL) (hd : decode cc pc = .ok (.getfield index, 3)) (kk : G p l e R s m args below meth c nL cells slots Q D cy g A H0 V (pc + 3) lv (vI (V o 0 4) :: st)) : G p l e R s m args below meth c nL cells slots Q D cy g A H0 V pc lv (.ref a :: st) :=
  g_getN (Cn := RX1) (T := TX1) (N := 13) C in_Page rfl h.1 (pF_Page h V) 4 (by decide) hlink (v := vI (V o 0 4)) rfl hd kk
theorem gpN_Page_used (C : Cx p s m args meth c cc nL own ret D cy g A) {index a : Nat} {o v : Int} (h : isO g 1 a o) (hlink : Cond.fieldLinkNest own index "SlotFile$Page" "used" "I" "SlotFile" ∈ nestL) (hd : decode cc pc = .ok (.putfield index, 3)) (kk : G p l e R s m args below meth c nL cells slots Q D cy g A H0 (up V o 0 4 v) (pc + 3) lv st) : G p l e R s m args below meth c nL cells slots Q D cy g A H0 V pc lv (vI v :: .ref a :: st) := by
  refine g_putN (Cn := RX1) (T := TX1) (N := 13) (ty := .int) (j := 4) C in_Page tyX1 tyX1_ok nmX1 rfl h.1 (pF_Page h V) 4 (by decide) hlink rfl (by decide +kernel) rfl rfl (Nat.le_of_ble_eq_true rfl) ?_ hd ?_
  · rw [h.2.2.1, h.2.2.2, pF_Page h]
    simp [up, List.set]
  · rw [h.2.2.1, h.2.2.2]
    exact kk
theorem gf_Page_end (C : Cx p s m args meth c cc nL own ret D cy g A) {index a : Nat} {o : Int} (h : isO g 1 a o) (hlink : Cond.fieldLink own index "SlotFile$Page" "end" "I" ∈ wsG) (hd : decode cc pc = .ok (.getfield index, 3)) (kk : G p l e R s m args below meth c nL cells slots Q D cy g A H0 V (pc + 3) lv (vI (V o 0 5) :: st)) : G p l e R s m args below meth c nL cells slots Q D cy g A H0 V pc lv (.ref a :: st) :=
  g_get (Cn := RX1) (T := TX1) (N := 13) C in_Page rfl h.1 (pF_Page h V) 5 (by decide) hlink (v := vI (V o 0 5)) rfl hd kk
theorem gp_Page_end (C : Cx p s m args meth c cc nL own ret D cy g A) {index a : Nat} {o v : Int} (h : isO g 1 a o) (hlink : Cond.fieldLink own index "SlotFile$Page" "end" "I" ∈ wsG) (hd : decode cc pc = .ok (.putfield index, 3)) (kk : G p l e R s m args below meth c nL cells slots Q D cy g A H0 (up V o 0 5 v) (pc + 3) lv st) : G p l e R s m args below meth c nL cells slots Q D cy g A H0 V pc lv (vI v :: .ref a :: st) := by
  refine g_put (Cn := RX1) (T := TX1) (N := 13) (ty := .int) (j := 5) C in_Page tyX1 tyX1_ok nmX1 rfl h.1 (pF_Page h V) 5 (by decide) hlink rfl (by decide +kernel) rfl rfl (Nat.le_of_ble_eq_true rfl) ?_ hd ?_
  · rw [h.2.2.1, h.2.2.2, pF_Page h]
    simp [up, List.set]
  · rw [h.2.2.1, h.2.2.2]
    exact kk
theorem gfN_Page_end (C : Cx p s m args meth c cc nL own ret D cy g A) {index a : Nat} {o : Int} (h : isO g 1 a o) (hlink : Cond.fieldLinkNest own index "SlotFile$Page" "end" "I" "SlotFile" ∈ nestL) (hd : decode cc pc = .ok (.getfield index, 3)) (kk : G p l e R s m args below meth c nL cells slots Q D cy g A H0 V (pc + 3) lv (vI (V o 0 5) :: st)) : G p l e R s m args below meth c nL cells slots Q D cy g A H0 V pc lv (.ref a :: st) :=
  g_getN (Cn := RX1) (T := TX1) (N := 13) C in_Page rfl h.1 (pF_Page h V) 5 (by decide) hlink (v := vI (V o 0 5)) rfl hd kk
theorem gpN_Page_end (C : Cx p s m args meth c cc nL own ret D cy g A) {index a : Nat} {o v : Int} (h : isO g 1 a o) (hlink : Cond.fieldLinkNest own index "SlotFile$Page" "end" "I" "SlotFile" ∈ nestL) (hd : decode cc pc = .ok (.putfield index, 3)) (kk : G p l e R s m args below meth c nL cells slots Q D cy g A H0 (up V o 0 5 v) (pc + 3) lv st) : G p l e R s m args below meth c nL cells slots Q D cy g A H0 V pc lv (vI v :: .ref a :: st) := by
  refine g_putN (Cn := RX1) (T := TX1) (N := 13) (ty := .int) (j := 5) C in_Page tyX1 tyX1_ok nmX1 rfl h.1 (pF_Page h V) 5 (by decide) hlink rfl (by decide +kernel) rfl rfl (Nat.le_of_ble_eq_true rfl) ?_ hd ?_
  · rw [h.2.2.1, h.2.2.2, pF_Page h]
    simp [up, List.set]
  · rw [h.2.2.1, h.2.2.2]
    exact kk
theorem gf_Page_chainNext (C : Cx p s m args meth c cc nL own ret D cy g A) {index a : Nat} {o : Int} (h : isO g 1 a o) (hlink : Cond.fieldLink own index "SlotFile$Page" "chainNext" "I" ∈ wsG) (hd : decode cc pc = .ok (.getfield index, 3)) (kk : G p l e R s m args below meth c nL cells slots Q D cy g A H0 V (pc + 3) lv (vI (V o 0 6) :: st)) : G p l e R s m args below meth c nL cells slots Q D cy g A H0 V pc lv (.ref a :: st) :=
  g_get (Cn := RX1) (T := TX1) (N := 13) C in_Page rfl h.1 (pF_Page h V) 6 (by decide) hlink (v := vI (V o 0 6)) rfl hd kk
theorem gp_Page_chainNext (C : Cx p s m args meth c cc nL own ret D cy g A) {index a : Nat} {o v : Int} (h : isO g 1 a o) (hlink : Cond.fieldLink own index "SlotFile$Page" "chainNext" "I" ∈ wsG) (hd : decode cc pc = .ok (.putfield index, 3)) (kk : G p l e R s m args below meth c nL cells slots Q D cy g A H0 (up V o 0 6 v) (pc + 3) lv st) : G p l e R s m args below meth c nL cells slots Q D cy g A H0 V pc lv (vI v :: .ref a :: st) := by
  refine g_put (Cn := RX1) (T := TX1) (N := 13) (ty := .int) (j := 6) C in_Page tyX1 tyX1_ok nmX1 rfl h.1 (pF_Page h V) 6 (by decide) hlink rfl (by decide +kernel) rfl rfl (Nat.le_of_ble_eq_true rfl) ?_ hd ?_
  · rw [h.2.2.1, h.2.2.2, pF_Page h]
    simp [up, List.set]
  · rw [h.2.2.1, h.2.2.2]
    exact kk
theorem gfN_Page_chainNext (C : Cx p s m args meth c cc nL own ret D cy g A) {index a : Nat} {o : Int} (h : isO g 1 a o) (hlink : Cond.fieldLinkNest own index "SlotFile$Page" "chainNext" "I" "SlotFile" ∈ nestL) (hd : decode cc pc = .ok (.getfield index, 3)) (kk : G p l e R s m args below meth c nL cells slots Q D cy g A H0 V (pc + 3) lv (vI (V o 0 6) :: st)) : G p l e R s m args below meth c nL cells slots Q D cy g A H0 V pc lv (.ref a :: st) :=
  g_getN (Cn := RX1) (T := TX1) (N := 13) C in_Page rfl h.1 (pF_Page h V) 6 (by decide) hlink (v := vI (V o 0 6)) rfl hd kk
theorem gpN_Page_chainNext (C : Cx p s m args meth c cc nL own ret D cy g A) {index a : Nat} {o v : Int} (h : isO g 1 a o) (hlink : Cond.fieldLinkNest own index "SlotFile$Page" "chainNext" "I" "SlotFile" ∈ nestL) (hd : decode cc pc = .ok (.putfield index, 3)) (kk : G p l e R s m args below meth c nL cells slots Q D cy g A H0 (up V o 0 6 v) (pc + 3) lv st) : G p l e R s m args below meth c nL cells slots Q D cy g A H0 V pc lv (vI v :: .ref a :: st) := by
  refine g_putN (Cn := RX1) (T := TX1) (N := 13) (ty := .int) (j := 6) C in_Page tyX1 tyX1_ok nmX1 rfl h.1 (pF_Page h V) 6 (by decide) hlink rfl (by decide +kernel) rfl rfl (Nat.le_of_ble_eq_true rfl) ?_ hd ?_
  · rw [h.2.2.1, h.2.2.2, pF_Page h]
    simp [up, List.set]
  · rw [h.2.2.1, h.2.2.2]
    exact kk
theorem gf_Page_chainBytes (C : Cx p s m args meth c cc nL own ret D cy g A) {index a : Nat} {o : Int} (h : isO g 1 a o) (hlink : Cond.fieldLink own index "SlotFile$Page" "chainBytes" "I" ∈ wsG) (hd : decode cc pc = .ok (.getfield index, 3)) (kk : G p l e R s m args below meth c nL cells slots Q D cy g A H0 V (pc + 3) lv (vI (V o 0 7) :: st)) : G p l e R s m args below meth c nL cells slots Q D cy g A H0 V pc lv (.ref a :: st) :=
  g_get (Cn := RX1) (T := TX1) (N := 13) C in_Page rfl h.1 (pF_Page h V) 7 (by decide) hlink (v := vI (V o 0 7)) rfl hd kk
theorem gp_Page_chainBytes (C : Cx p s m args meth c cc nL own ret D cy g A) {index a : Nat} {o v : Int} (h : isO g 1 a o) (hlink : Cond.fieldLink own index "SlotFile$Page" "chainBytes" "I" ∈ wsG) (hd : decode cc pc = .ok (.putfield index, 3)) (kk : G p l e R s m args below meth c nL cells slots Q D cy g A H0 (up V o 0 7 v) (pc + 3) lv st) : G p l e R s m args below meth c nL cells slots Q D cy g A H0 V pc lv (vI v :: .ref a :: st) := by
  refine g_put (Cn := RX1) (T := TX1) (N := 13) (ty := .int) (j := 7) C in_Page tyX1 tyX1_ok nmX1 rfl h.1 (pF_Page h V) 7 (by decide) hlink rfl (by decide +kernel) rfl rfl (Nat.le_of_ble_eq_true rfl) ?_ hd ?_
  · rw [h.2.2.1, h.2.2.2, pF_Page h]
    simp [up, List.set]
  · rw [h.2.2.1, h.2.2.2]
    exact kk
theorem gfN_Page_chainBytes (C : Cx p s m args meth c cc nL own ret D cy g A) {index a : Nat} {o : Int} (h : isO g 1 a o) (hlink : Cond.fieldLinkNest own index "SlotFile$Page" "chainBytes" "I" "SlotFile" ∈ nestL) (hd : decode cc pc = .ok (.getfield index, 3)) (kk : G p l e R s m args below meth c nL cells slots Q D cy g A H0 V (pc + 3) lv (vI (V o 0 7) :: st)) : G p l e R s m args below meth c nL cells slots Q D cy g A H0 V pc lv (.ref a :: st) :=
  g_getN (Cn := RX1) (T := TX1) (N := 13) C in_Page rfl h.1 (pF_Page h V) 7 (by decide) hlink (v := vI (V o 0 7)) rfl hd kk
theorem gpN_Page_chainBytes (C : Cx p s m args meth c cc nL own ret D cy g A) {index a : Nat} {o v : Int} (h : isO g 1 a o) (hlink : Cond.fieldLinkNest own index "SlotFile$Page" "chainBytes" "I" "SlotFile" ∈ nestL) (hd : decode cc pc = .ok (.putfield index, 3)) (kk : G p l e R s m args below meth c nL cells slots Q D cy g A H0 (up V o 0 7 v) (pc + 3) lv st) : G p l e R s m args below meth c nL cells slots Q D cy g A H0 V pc lv (vI v :: .ref a :: st) := by
  refine g_putN (Cn := RX1) (T := TX1) (N := 13) (ty := .int) (j := 7) C in_Page tyX1 tyX1_ok nmX1 rfl h.1 (pF_Page h V) 7 (by decide) hlink rfl (by decide +kernel) rfl rfl (Nat.le_of_ble_eq_true rfl) ?_ hd ?_
  · rw [h.2.2.1, h.2.2.2, pF_Page h]
    simp [up, List.set]
  · rw [h.2.2.1, h.2.2.2]
    exact kk
theorem gf_Page_compactings (C : Cx p s m args meth c cc nL own ret D cy g A) {index a : Nat} {o : Int} (h : isO g 1 a o) (hlink : Cond.fieldLink own index "SlotFile$Page" "compactings" "I" ∈ wsG) (hd : decode cc pc = .ok (.getfield index, 3)) (kk : G p l e R s m args below meth c nL cells slots Q D cy g A H0 V (pc + 3) lv (vI (V o 0 8) :: st)) : G p l e R s m args below meth c nL cells slots Q D cy g A H0 V pc lv (.ref a :: st) :=
  g_get (Cn := RX1) (T := TX1) (N := 13) C in_Page rfl h.1 (pF_Page h V) 8 (by decide) hlink (v := vI (V o 0 8)) rfl hd kk
theorem gp_Page_compactings (C : Cx p s m args meth c cc nL own ret D cy g A) {index a : Nat} {o v : Int} (h : isO g 1 a o) (hlink : Cond.fieldLink own index "SlotFile$Page" "compactings" "I" ∈ wsG) (hd : decode cc pc = .ok (.putfield index, 3)) (kk : G p l e R s m args below meth c nL cells slots Q D cy g A H0 (up V o 0 8 v) (pc + 3) lv st) : G p l e R s m args below meth c nL cells slots Q D cy g A H0 V pc lv (vI v :: .ref a :: st) := by
  refine g_put (Cn := RX1) (T := TX1) (N := 13) (ty := .int) (j := 8) C in_Page tyX1 tyX1_ok nmX1 rfl h.1 (pF_Page h V) 8 (by decide) hlink rfl (by decide +kernel) rfl rfl (Nat.le_of_ble_eq_true rfl) ?_ hd ?_
  · rw [h.2.2.1, h.2.2.2, pF_Page h]
    simp [up, List.set]
  · rw [h.2.2.1, h.2.2.2]
    exact kk
theorem gfN_Page_compactings (C : Cx p s m args meth c cc nL own ret D cy g A) {index a : Nat} {o : Int} (h : isO g 1 a o) (hlink : Cond.fieldLinkNest own index "SlotFile$Page" "compactings" "I" "SlotFile" ∈ nestL) (hd : decode cc pc = .ok (.getfield index, 3)) (kk : G p l e R s m args below meth c nL cells slots Q D cy g A H0 V (pc + 3) lv (vI (V o 0 8) :: st)) : G p l e R s m args below meth c nL cells slots Q D cy g A H0 V pc lv (.ref a :: st) :=
  g_getN (Cn := RX1) (T := TX1) (N := 13) C in_Page rfl h.1 (pF_Page h V) 8 (by decide) hlink (v := vI (V o 0 8)) rfl hd kk
theorem gpN_Page_compactings (C : Cx p s m args meth c cc nL own ret D cy g A) {index a : Nat} {o v : Int} (h : isO g 1 a o) (hlink : Cond.fieldLinkNest own index "SlotFile$Page" "compactings" "I" "SlotFile" ∈ nestL) (hd : decode cc pc = .ok (.putfield index, 3)) (kk : G p l e R s m args below meth c nL cells slots Q D cy g A H0 (up V o 0 8 v) (pc + 3) lv st) : G p l e R s m args below meth c nL cells slots Q D cy g A H0 V pc lv (vI v :: .ref a :: st) := by
  refine g_putN (Cn := RX1) (T := TX1) (N := 13) (ty := .int) (j := 8) C in_Page tyX1 tyX1_ok nmX1 rfl h.1 (pF_Page h V) 8 (by decide) hlink rfl (by decide +kernel) rfl rfl (Nat.le_of_ble_eq_true rfl) ?_ hd ?_
  · rw [h.2.2.1, h.2.2.2, pF_Page h]
    simp [up, List.set]
  · rw [h.2.2.1, h.2.2.2]
    exact kk
theorem gf_Page_kinds (C : Cx p s m args meth c cc nL own ret D cy g A) {index a b : Nat} {o : Int} (h : isO g 1 a o) (hb : gR g a 9 = some b) (hlink : Cond.fieldLink own index "SlotFile$Page" "kinds" "[I" ∈ wsG) (hd : decode cc pc = .ok (.getfield index, 3)) (kk : G p l e R s m args below meth c nL cells slots Q D cy g A H0 V (pc + 3) lv (.ref b :: st)) : G p l e R s m args below meth c nL cells slots Q D cy g A H0 V pc lv (.ref a :: st) :=
  g_get (Cn := RX1) (T := TX1) (N := 13) C in_Page rfl h.1 (pF_Page h V) 9 (by decide) hlink (v := .ref b) (by simp [hb, va_rf]) hd kk
theorem gfN_Page_kinds (C : Cx p s m args meth c cc nL own ret D cy g A) {index a b : Nat} {o : Int} (h : isO g 1 a o) (hb : gR g a 9 = some b) (hlink : Cond.fieldLinkNest own index "SlotFile$Page" "kinds" "[I" "SlotFile" ∈ nestL) (hd : decode cc pc = .ok (.getfield index, 3)) (kk : G p l e R s m args below meth c nL cells slots Q D cy g A H0 V (pc + 3) lv (.ref b :: st)) : G p l e R s m args below meth c nL cells slots Q D cy g A H0 V pc lv (.ref a :: st) :=
  g_getN (Cn := RX1) (T := TX1) (N := 13) C in_Page rfl h.1 (pF_Page h V) 9 (by decide) hlink (v := .ref b) (by simp [hb, va_rf]) hd kk
theorem gf_Page_lengths (C : Cx p s m args meth c cc nL own ret D cy g A) {index a b : Nat} {o : Int} (h : isO g 1 a o) (hb : gR g a 10 = some b) (hlink : Cond.fieldLink own index "SlotFile$Page" "lengths" "[I" ∈ wsG) (hd : decode cc pc = .ok (.getfield index, 3)) (kk : G p l e R s m args below meth c nL cells slots Q D cy g A H0 V (pc + 3) lv (.ref b :: st)) : G p l e R s m args below meth c nL cells slots Q D cy g A H0 V pc lv (.ref a :: st) :=
  g_get (Cn := RX1) (T := TX1) (N := 13) C in_Page rfl h.1 (pF_Page h V) 10 (by decide) hlink (v := .ref b) (by simp [hb, va_rf]) hd kk
theorem gfN_Page_lengths (C : Cx p s m args meth c cc nL own ret D cy g A) {index a b : Nat} {o : Int} (h : isO g 1 a o) (hb : gR g a 10 = some b) (hlink : Cond.fieldLinkNest own index "SlotFile$Page" "lengths" "[I" "SlotFile" ∈ nestL) (hd : decode cc pc = .ok (.getfield index, 3)) (kk : G p l e R s m args below meth c nL cells slots Q D cy g A H0 V (pc + 3) lv (.ref b :: st)) : G p l e R s m args below meth c nL cells slots Q D cy g A H0 V pc lv (.ref a :: st) :=
  g_getN (Cn := RX1) (T := TX1) (N := 13) C in_Page rfl h.1 (pF_Page h V) 10 (by decide) hlink (v := .ref b) (by simp [hb, va_rf]) hd kk
theorem gf_Page_seeds (C : Cx p s m args meth c cc nL own ret D cy g A) {index a b : Nat} {o : Int} (h : isO g 1 a o) (hb : gR g a 11 = some b) (hlink : Cond.fieldLink own index "SlotFile$Page" "seeds" "[I" ∈ wsG) (hd : decode cc pc = .ok (.getfield index, 3)) (kk : G p l e R s m args below meth c nL cells slots Q D cy g A H0 V (pc + 3) lv (.ref b :: st)) : G p l e R s m args below meth c nL cells slots Q D cy g A H0 V pc lv (.ref a :: st) :=
  g_get (Cn := RX1) (T := TX1) (N := 13) C in_Page rfl h.1 (pF_Page h V) 11 (by decide) hlink (v := .ref b) (by simp [hb, va_rf]) hd kk
theorem gfN_Page_seeds (C : Cx p s m args meth c cc nL own ret D cy g A) {index a b : Nat} {o : Int} (h : isO g 1 a o) (hb : gR g a 11 = some b) (hlink : Cond.fieldLinkNest own index "SlotFile$Page" "seeds" "[I" "SlotFile" ∈ nestL) (hd : decode cc pc = .ok (.getfield index, 3)) (kk : G p l e R s m args below meth c nL cells slots Q D cy g A H0 V (pc + 3) lv (.ref b :: st)) : G p l e R s m args below meth c nL cells slots Q D cy g A H0 V pc lv (.ref a :: st) :=
  g_getN (Cn := RX1) (T := TX1) (N := 13) C in_Page rfl h.1 (pF_Page h V) 11 (by decide) hlink (v := .ref b) (by simp [hb, va_rf]) hd kk
theorem gf_Page_links (C : Cx p s m args meth c cc nL own ret D cy g A) {index a b : Nat} {o : Int} (h : isO g 1 a o) (hb : gR g a 12 = some b) (hlink : Cond.fieldLink own index "SlotFile$Page" "links" "[I" ∈ wsG) (hd : decode cc pc = .ok (.getfield index, 3)) (kk : G p l e R s m args below meth c nL cells slots Q D cy g A H0 V (pc + 3) lv (.ref b :: st)) : G p l e R s m args below meth c nL cells slots Q D cy g A H0 V pc lv (.ref a :: st) :=
  g_get (Cn := RX1) (T := TX1) (N := 13) C in_Page rfl h.1 (pF_Page h V) 12 (by decide) hlink (v := .ref b) (by simp [hb, va_rf]) hd kk
theorem gfN_Page_links (C : Cx p s m args meth c cc nL own ret D cy g A) {index a b : Nat} {o : Int} (h : isO g 1 a o) (hb : gR g a 12 = some b) (hlink : Cond.fieldLinkNest own index "SlotFile$Page" "links" "[I" "SlotFile" ∈ nestL) (hd : decode cc pc = .ok (.getfield index, 3)) (kk : G p l e R s m args below meth c nL cells slots Q D cy g A H0 V (pc + 3) lv (.ref b :: st)) : G p l e R s m args below meth c nL cells slots Q D cy g A H0 V pc lv (.ref a :: st) :=
  g_getN (Cn := RX1) (T := TX1) (N := 13) C in_Page rfl h.1 (pF_Page h V) 12 (by decide) hlink (v := .ref b) (by simp [hb, va_rf]) hd kk
theorem in_Store : ∀ w ∈ u_ws RX2 TX2 1, w ∈ wsG := by
  intro w hw
  refine List.mem_filter.mpr ⟨?_, ?_⟩
  · exact (show ∀ w ∈ u_ws RX2 TX2 1, w ∈ lw_tbl by decide +kernel) w hw
  · exact (show ∀ w ∈ u_ws RX2 TX2 1, goodWord w = true by decide +kernel) w hw
theorem pF_Store {a : Nat} {o : Int} (h : isO g 2 a o) (V : VT) : pF cy g V a = .inr (2, [va_rf (gR g a 0)]) := by
  obtain ⟨h1, h2, h3, h4⟩ := h
  simp [pF, h2, h3, h4]
theorem gf_Store_pages (C : Cx p s m args meth c cc nL own ret D cy g A) {index a b : Nat} {o : Int} (h : isO g 2 a o) (hb : gR g a 0 = some b) (hlink : Cond.fieldLink own index "SlotFile$Store" "pages" "[LSlotFile$Page;" ∈ wsG) (hd : decode cc pc = .ok (.getfield index, 3)) (kk : G p l e R s m args below meth c nL cells slots Q D cy g A H0 V (pc + 3) lv (.ref b :: st)) : G p l e R s m args below meth c nL cells slots Q D cy g A H0 V pc lv (.ref a :: st) :=
  g_get (Cn := RX2) (T := TX2) (N := 1) C in_Store rfl h.1 (pF_Store h V) 0 (by decide) hlink (v := .ref b) (by simp [hb, va_rf]) hd kk
theorem gfN_Store_pages (C : Cx p s m args meth c cc nL own ret D cy g A) {index a b : Nat} {o : Int} (h : isO g 2 a o) (hb : gR g a 0 = some b) (hlink : Cond.fieldLinkNest own index "SlotFile$Store" "pages" "[LSlotFile$Page;" "SlotFile" ∈ nestL) (hd : decode cc pc = .ok (.getfield index, 3)) (kk : G p l e R s m args below meth c nL cells slots Q D cy g A H0 V (pc + 3) lv (.ref b :: st)) : G p l e R s m args below meth c nL cells slots Q D cy g A H0 V pc lv (.ref a :: st) :=
  g_getN (Cn := RX2) (T := TX2) (N := 1) C in_Store rfl h.1 (pF_Store h V) 0 (by decide) hlink (v := .ref b) (by simp [hb, va_rf]) hd kk
theorem in_Sf : ∀ w ∈ u_ws RX3 TX3 4, w ∈ wsG := by
  intro w hw
  refine List.mem_filter.mpr ⟨?_, ?_⟩
  · exact (show ∀ w ∈ u_ws RX3 TX3 4, w ∈ lw_tbl by decide +kernel) w hw
  · exact (show ∀ w ∈ u_ws RX3 TX3 4, goodWord w = true by decide +kernel) w hw
theorem pF_Sf {a : Nat} {o : Int} (h : isO g 3 a o) (V : VT) : pF cy g V a = .inr (3, [va_rf (gR g a 0), va_rf (gR g a 1), va_rf (gR g a 2), vI (V o 0 3)]) := by
  obtain ⟨h1, h2, h3, h4⟩ := h
  simp [pF, h2, h3, h4]
theorem gf_Sf_live (C : Cx p s m args meth c cc nL own ret D cy g A) {index a b : Nat} {o : Int} (h : isO g 3 a o) (hb : gR g a 0 = some b) (hlink : Cond.fieldLink own index "SlotFile" "live" "LSlotFile$Store;" ∈ wsG) (hd : decode cc pc = .ok (.getfield index, 3)) (kk : G p l e R s m args below meth c nL cells slots Q D cy g A H0 V (pc + 3) lv (.ref b :: st)) : G p l e R s m args below meth c nL cells slots Q D cy g A H0 V pc lv (.ref a :: st) :=
  g_get (Cn := RX3) (T := TX3) (N := 4) C in_Sf rfl h.1 (pF_Sf h V) 0 (by decide) hlink (v := .ref b) (by simp [hb, va_rf]) hd kk
theorem gfN_Sf_live (C : Cx p s m args meth c cc nL own ret D cy g A) {index a b : Nat} {o : Int} (h : isO g 3 a o) (hb : gR g a 0 = some b) (hlink : Cond.fieldLinkNest own index "SlotFile" "live" "LSlotFile$Store;" "SlotFile" ∈ nestL) (hd : decode cc pc = .ok (.getfield index, 3)) (kk : G p l e R s m args below meth c nL cells slots Q D cy g A H0 V (pc + 3) lv (.ref b :: st)) : G p l e R s m args below meth c nL cells slots Q D cy g A H0 V pc lv (.ref a :: st) :=
  g_getN (Cn := RX3) (T := TX3) (N := 4) C in_Sf rfl h.1 (pF_Sf h V) 0 (by decide) hlink (v := .ref b) (by simp [hb, va_rf]) hd kk
theorem gf_Sf_synced (C : Cx p s m args meth c cc nL own ret D cy g A) {index a b : Nat} {o : Int} (h : isO g 3 a o) (hb : gR g a 1 = some b) (hlink : Cond.fieldLink own index "SlotFile" "synced" "LSlotFile$Store;" ∈ wsG) (hd : decode cc pc = .ok (.getfield index, 3)) (kk : G p l e R s m args below meth c nL cells slots Q D cy g A H0 V (pc + 3) lv (.ref b :: st)) : G p l e R s m args below meth c nL cells slots Q D cy g A H0 V pc lv (.ref a :: st) :=
  g_get (Cn := RX3) (T := TX3) (N := 4) C in_Sf rfl h.1 (pF_Sf h V) 1 (by decide) hlink (v := .ref b) (by simp [hb, va_rf]) hd kk
theorem gfN_Sf_synced (C : Cx p s m args meth c cc nL own ret D cy g A) {index a b : Nat} {o : Int} (h : isO g 3 a o) (hb : gR g a 1 = some b) (hlink : Cond.fieldLinkNest own index "SlotFile" "synced" "LSlotFile$Store;" "SlotFile" ∈ nestL) (hd : decode cc pc = .ok (.getfield index, 3)) (kk : G p l e R s m args below meth c nL cells slots Q D cy g A H0 V (pc + 3) lv (.ref b :: st)) : G p l e R s m args below meth c nL cells slots Q D cy g A H0 V pc lv (.ref a :: st) :=
  g_getN (Cn := RX3) (T := TX3) (N := 4) C in_Sf rfl h.1 (pF_Sf h V) 1 (by decide) hlink (v := .ref b) (by simp [hb, va_rf]) hd kk
theorem gf_Sf_log (C : Cx p s m args meth c cc nL own ret D cy g A) {index a b : Nat} {o : Int} (h : isO g 3 a o) (hb : gR g a 2 = some b) (hlink : Cond.fieldLink own index "SlotFile" "log" "LSlotFile$Log;" ∈ wsG) (hd : decode cc pc = .ok (.getfield index, 3)) (kk : G p l e R s m args below meth c nL cells slots Q D cy g A H0 V (pc + 3) lv (.ref b :: st)) : G p l e R s m args below meth c nL cells slots Q D cy g A H0 V pc lv (.ref a :: st) :=
  g_get (Cn := RX3) (T := TX3) (N := 4) C in_Sf rfl h.1 (pF_Sf h V) 2 (by decide) hlink (v := .ref b) (by simp [hb, va_rf]) hd kk
theorem gfN_Sf_log (C : Cx p s m args meth c cc nL own ret D cy g A) {index a b : Nat} {o : Int} (h : isO g 3 a o) (hb : gR g a 2 = some b) (hlink : Cond.fieldLinkNest own index "SlotFile" "log" "LSlotFile$Log;" "SlotFile" ∈ nestL) (hd : decode cc pc = .ok (.getfield index, 3)) (kk : G p l e R s m args below meth c nL cells slots Q D cy g A H0 V (pc + 3) lv (.ref b :: st)) : G p l e R s m args below meth c nL cells slots Q D cy g A H0 V pc lv (.ref a :: st) :=
  g_getN (Cn := RX3) (T := TX3) (N := 4) C in_Sf rfl h.1 (pF_Sf h V) 2 (by decide) hlink (v := .ref b) (by simp [hb, va_rf]) hd kk
theorem gf_Sf_crashes (C : Cx p s m args meth c cc nL own ret D cy g A) {index a : Nat} {o : Int} (h : isO g 3 a o) (hlink : Cond.fieldLink own index "SlotFile" "crashes" "I" ∈ wsG) (hd : decode cc pc = .ok (.getfield index, 3)) (kk : G p l e R s m args below meth c nL cells slots Q D cy g A H0 V (pc + 3) lv (vI (V o 0 3) :: st)) : G p l e R s m args below meth c nL cells slots Q D cy g A H0 V pc lv (.ref a :: st) :=
  g_get (Cn := RX3) (T := TX3) (N := 4) C in_Sf rfl h.1 (pF_Sf h V) 3 (by decide) hlink (v := vI (V o 0 3)) rfl hd kk
theorem gp_Sf_crashes (C : Cx p s m args meth c cc nL own ret D cy g A) {index a : Nat} {o v : Int} (h : isO g 3 a o) (hlink : Cond.fieldLink own index "SlotFile" "crashes" "I" ∈ wsG) (hd : decode cc pc = .ok (.putfield index, 3)) (kk : G p l e R s m args below meth c nL cells slots Q D cy g A H0 (up V o 0 3 v) (pc + 3) lv st) : G p l e R s m args below meth c nL cells slots Q D cy g A H0 V pc lv (vI v :: .ref a :: st) := by
  refine g_put (Cn := RX3) (T := TX3) (N := 4) (ty := .int) (j := 3) C in_Sf tyX3 tyX3_ok nmX3 rfl h.1 (pF_Sf h V) 3 (by decide) hlink rfl (by decide +kernel) rfl rfl (Nat.le_of_ble_eq_true rfl) ?_ hd ?_
  · rw [h.2.2.1, h.2.2.2, pF_Sf h]
    simp [up, List.set]
  · rw [h.2.2.1, h.2.2.2]
    exact kk
theorem gfN_Sf_crashes (C : Cx p s m args meth c cc nL own ret D cy g A) {index a : Nat} {o : Int} (h : isO g 3 a o) (hlink : Cond.fieldLinkNest own index "SlotFile" "crashes" "I" "SlotFile" ∈ nestL) (hd : decode cc pc = .ok (.getfield index, 3)) (kk : G p l e R s m args below meth c nL cells slots Q D cy g A H0 V (pc + 3) lv (vI (V o 0 3) :: st)) : G p l e R s m args below meth c nL cells slots Q D cy g A H0 V pc lv (.ref a :: st) :=
  g_getN (Cn := RX3) (T := TX3) (N := 4) C in_Sf rfl h.1 (pF_Sf h V) 3 (by decide) hlink (v := vI (V o 0 3)) rfl hd kk
theorem gpN_Sf_crashes (C : Cx p s m args meth c cc nL own ret D cy g A) {index a : Nat} {o v : Int} (h : isO g 3 a o) (hlink : Cond.fieldLinkNest own index "SlotFile" "crashes" "I" "SlotFile" ∈ nestL) (hd : decode cc pc = .ok (.putfield index, 3)) (kk : G p l e R s m args below meth c nL cells slots Q D cy g A H0 (up V o 0 3 v) (pc + 3) lv st) : G p l e R s m args below meth c nL cells slots Q D cy g A H0 V pc lv (vI v :: .ref a :: st) := by
  refine g_putN (Cn := RX3) (T := TX3) (N := 4) (ty := .int) (j := 3) C in_Sf tyX3 tyX3_ok nmX3 rfl h.1 (pF_Sf h V) 3 (by decide) hlink rfl (by decide +kernel) rfl rfl (Nat.le_of_ble_eq_true rfl) ?_ hd ?_
  · rw [h.2.2.1, h.2.2.2, pF_Sf h]
    simp [up, List.set]
  · rw [h.2.2.1, h.2.2.2]
    exact kk
theorem in_Mod : ∀ w ∈ u_ws RX4 TX4 8, w ∈ wsG := by
  intro w hw
  refine List.mem_filter.mpr ⟨?_, ?_⟩
  · exact (show ∀ w ∈ u_ws RX4 TX4 8, w ∈ lw_tbl by decide +kernel) w hw
  · exact (show ∀ w ∈ u_ws RX4 TX4 8, goodWord w = true by decide +kernel) w hw
theorem pF_Mod {a : Nat} {o : Int} (h : isO g 4 a o) (V : VT) : pF cy g V a = .inr (4, [va_rf (gR g a 0), va_rf (gR g a 1), va_rf (gR g a 2), vI (V o 0 3), vI (V o 0 4), vI (V o 0 5), vI (V o 0 6), vI (V o 0 7)]) := by
  obtain ⟨h1, h2, h3, h4⟩ := h
  simp [pF, h2, h3, h4]
theorem gf_Mod_d (C : Cx p s m args meth c cc nL own ret D cy g A) {index a b : Nat} {o : Int} (h : isO g 4 a o) (hb : gR g a 0 = some b) (hlink : Cond.fieldLink own index "SlotFileModel" "d" "[I" ∈ wsG) (hd : decode cc pc = .ok (.getfield index, 3)) (kk : G p l e R s m args below meth c nL cells slots Q D cy g A H0 V (pc + 3) lv (.ref b :: st)) : G p l e R s m args below meth c nL cells slots Q D cy g A H0 V pc lv (.ref a :: st) :=
  g_get (Cn := RX4) (T := TX4) (N := 8) C in_Mod rfl h.1 (pF_Mod h V) 0 (by decide) hlink (v := .ref b) (by simp [hb, va_rf]) hd kk
theorem gfN_Mod_d (C : Cx p s m args meth c cc nL own ret D cy g A) {index a b : Nat} {o : Int} (h : isO g 4 a o) (hb : gR g a 0 = some b) (hlink : Cond.fieldLinkNest own index "SlotFileModel" "d" "[I" "SlotFile" ∈ nestL) (hd : decode cc pc = .ok (.getfield index, 3)) (kk : G p l e R s m args below meth c nL cells slots Q D cy g A H0 V (pc + 3) lv (.ref b :: st)) : G p l e R s m args below meth c nL cells slots Q D cy g A H0 V pc lv (.ref a :: st) :=
  g_getN (Cn := RX4) (T := TX4) (N := 8) C in_Mod rfl h.1 (pF_Mod h V) 0 (by decide) hlink (v := .ref b) (by simp [hb, va_rf]) hd kk
theorem gf_Mod_synced (C : Cx p s m args meth c cc nL own ret D cy g A) {index a b : Nat} {o : Int} (h : isO g 4 a o) (hb : gR g a 1 = some b) (hlink : Cond.fieldLink own index "SlotFileModel" "synced" "[I" ∈ wsG) (hd : decode cc pc = .ok (.getfield index, 3)) (kk : G p l e R s m args below meth c nL cells slots Q D cy g A H0 V (pc + 3) lv (.ref b :: st)) : G p l e R s m args below meth c nL cells slots Q D cy g A H0 V pc lv (.ref a :: st) :=
  g_get (Cn := RX4) (T := TX4) (N := 8) C in_Mod rfl h.1 (pF_Mod h V) 1 (by decide) hlink (v := .ref b) (by simp [hb, va_rf]) hd kk
theorem gfN_Mod_synced (C : Cx p s m args meth c cc nL own ret D cy g A) {index a b : Nat} {o : Int} (h : isO g 4 a o) (hb : gR g a 1 = some b) (hlink : Cond.fieldLinkNest own index "SlotFileModel" "synced" "[I" "SlotFile" ∈ nestL) (hd : decode cc pc = .ok (.getfield index, 3)) (kk : G p l e R s m args below meth c nL cells slots Q D cy g A H0 V (pc + 3) lv (.ref b :: st)) : G p l e R s m args below meth c nL cells slots Q D cy g A H0 V pc lv (.ref a :: st) :=
  g_getN (Cn := RX4) (T := TX4) (N := 8) C in_Mod rfl h.1 (pF_Mod h V) 1 (by decide) hlink (v := .ref b) (by simp [hb, va_rf]) hd kk
theorem gf_Mod_changes (C : Cx p s m args meth c cc nL own ret D cy g A) {index a b : Nat} {o : Int} (h : isO g 4 a o) (hb : gR g a 2 = some b) (hlink : Cond.fieldLink own index "SlotFileModel" "changes" "[I" ∈ wsG) (hd : decode cc pc = .ok (.getfield index, 3)) (kk : G p l e R s m args below meth c nL cells slots Q D cy g A H0 V (pc + 3) lv (.ref b :: st)) : G p l e R s m args below meth c nL cells slots Q D cy g A H0 V pc lv (.ref a :: st) :=
  g_get (Cn := RX4) (T := TX4) (N := 8) C in_Mod rfl h.1 (pF_Mod h V) 2 (by decide) hlink (v := .ref b) (by simp [hb, va_rf]) hd kk
theorem gfN_Mod_changes (C : Cx p s m args meth c cc nL own ret D cy g A) {index a b : Nat} {o : Int} (h : isO g 4 a o) (hb : gR g a 2 = some b) (hlink : Cond.fieldLinkNest own index "SlotFileModel" "changes" "[I" "SlotFile" ∈ nestL) (hd : decode cc pc = .ok (.getfield index, 3)) (kk : G p l e R s m args below meth c nL cells slots Q D cy g A H0 V (pc + 3) lv (.ref b :: st)) : G p l e R s m args below meth c nL cells slots Q D cy g A H0 V pc lv (.ref a :: st) :=
  g_getN (Cn := RX4) (T := TX4) (N := 8) C in_Mod rfl h.1 (pF_Mod h V) 2 (by decide) hlink (v := .ref b) (by simp [hb, va_rf]) hd kk
theorem gf_Mod_changeCount (C : Cx p s m args meth c cc nL own ret D cy g A) {index a : Nat} {o : Int} (h : isO g 4 a o) (hlink : Cond.fieldLink own index "SlotFileModel" "changeCount" "I" ∈ wsG) (hd : decode cc pc = .ok (.getfield index, 3)) (kk : G p l e R s m args below meth c nL cells slots Q D cy g A H0 V (pc + 3) lv (vI (V o 0 3) :: st)) : G p l e R s m args below meth c nL cells slots Q D cy g A H0 V pc lv (.ref a :: st) :=
  g_get (Cn := RX4) (T := TX4) (N := 8) C in_Mod rfl h.1 (pF_Mod h V) 3 (by decide) hlink (v := vI (V o 0 3)) rfl hd kk
theorem gp_Mod_changeCount (C : Cx p s m args meth c cc nL own ret D cy g A) {index a : Nat} {o v : Int} (h : isO g 4 a o) (hlink : Cond.fieldLink own index "SlotFileModel" "changeCount" "I" ∈ wsG) (hd : decode cc pc = .ok (.putfield index, 3)) (kk : G p l e R s m args below meth c nL cells slots Q D cy g A H0 (up V o 0 3 v) (pc + 3) lv st) : G p l e R s m args below meth c nL cells slots Q D cy g A H0 V pc lv (vI v :: .ref a :: st) := by
  refine g_put (Cn := RX4) (T := TX4) (N := 8) (ty := .int) (j := 3) C in_Mod tyX4 tyX4_ok nmX4 rfl h.1 (pF_Mod h V) 3 (by decide) hlink rfl (by decide +kernel) rfl rfl (Nat.le_of_ble_eq_true rfl) ?_ hd ?_
  · rw [h.2.2.1, h.2.2.2, pF_Mod h]
    simp [up, List.set]
  · rw [h.2.2.1, h.2.2.2]
    exact kk
theorem gfN_Mod_changeCount (C : Cx p s m args meth c cc nL own ret D cy g A) {index a : Nat} {o : Int} (h : isO g 4 a o) (hlink : Cond.fieldLinkNest own index "SlotFileModel" "changeCount" "I" "SlotFile" ∈ nestL) (hd : decode cc pc = .ok (.getfield index, 3)) (kk : G p l e R s m args below meth c nL cells slots Q D cy g A H0 V (pc + 3) lv (vI (V o 0 3) :: st)) : G p l e R s m args below meth c nL cells slots Q D cy g A H0 V pc lv (.ref a :: st) :=
  g_getN (Cn := RX4) (T := TX4) (N := 8) C in_Mod rfl h.1 (pF_Mod h V) 3 (by decide) hlink (v := vI (V o 0 3)) rfl hd kk
theorem gpN_Mod_changeCount (C : Cx p s m args meth c cc nL own ret D cy g A) {index a : Nat} {o v : Int} (h : isO g 4 a o) (hlink : Cond.fieldLinkNest own index "SlotFileModel" "changeCount" "I" "SlotFile" ∈ nestL) (hd : decode cc pc = .ok (.putfield index, 3)) (kk : G p l e R s m args below meth c nL cells slots Q D cy g A H0 (up V o 0 3 v) (pc + 3) lv st) : G p l e R s m args below meth c nL cells slots Q D cy g A H0 V pc lv (vI v :: .ref a :: st) := by
  refine g_putN (Cn := RX4) (T := TX4) (N := 8) (ty := .int) (j := 3) C in_Mod tyX4 tyX4_ok nmX4 rfl h.1 (pF_Mod h V) 3 (by decide) hlink rfl (by decide +kernel) rfl rfl (Nat.le_of_ble_eq_true rfl) ?_ hd ?_
  · rw [h.2.2.1, h.2.2.2, pF_Mod h]
    simp [up, List.set]
  · rw [h.2.2.1, h.2.2.2]
    exact kk
theorem gf_Mod_compacted (C : Cx p s m args meth c cc nL own ret D cy g A) {index a : Nat} {o : Int} (h : isO g 4 a o) (hlink : Cond.fieldLink own index "SlotFileModel" "compacted" "I" ∈ wsG) (hd : decode cc pc = .ok (.getfield index, 3)) (kk : G p l e R s m args below meth c nL cells slots Q D cy g A H0 V (pc + 3) lv (vI (V o 0 4) :: st)) : G p l e R s m args below meth c nL cells slots Q D cy g A H0 V pc lv (.ref a :: st) :=
  g_get (Cn := RX4) (T := TX4) (N := 8) C in_Mod rfl h.1 (pF_Mod h V) 4 (by decide) hlink (v := vI (V o 0 4)) rfl hd kk
theorem gp_Mod_compacted (C : Cx p s m args meth c cc nL own ret D cy g A) {index a : Nat} {o v : Int} (h : isO g 4 a o) (hlink : Cond.fieldLink own index "SlotFileModel" "compacted" "I" ∈ wsG) (hd : decode cc pc = .ok (.putfield index, 3)) (kk : G p l e R s m args below meth c nL cells slots Q D cy g A H0 (up V o 0 4 v) (pc + 3) lv st) : G p l e R s m args below meth c nL cells slots Q D cy g A H0 V pc lv (vI v :: .ref a :: st) := by
  refine g_put (Cn := RX4) (T := TX4) (N := 8) (ty := .int) (j := 4) C in_Mod tyX4 tyX4_ok nmX4 rfl h.1 (pF_Mod h V) 4 (by decide) hlink rfl (by decide +kernel) rfl rfl (Nat.le_of_ble_eq_true rfl) ?_ hd ?_
  · rw [h.2.2.1, h.2.2.2, pF_Mod h]
    simp [up, List.set]
  · rw [h.2.2.1, h.2.2.2]
    exact kk
theorem gfN_Mod_compacted (C : Cx p s m args meth c cc nL own ret D cy g A) {index a : Nat} {o : Int} (h : isO g 4 a o) (hlink : Cond.fieldLinkNest own index "SlotFileModel" "compacted" "I" "SlotFile" ∈ nestL) (hd : decode cc pc = .ok (.getfield index, 3)) (kk : G p l e R s m args below meth c nL cells slots Q D cy g A H0 V (pc + 3) lv (vI (V o 0 4) :: st)) : G p l e R s m args below meth c nL cells slots Q D cy g A H0 V pc lv (.ref a :: st) :=
  g_getN (Cn := RX4) (T := TX4) (N := 8) C in_Mod rfl h.1 (pF_Mod h V) 4 (by decide) hlink (v := vI (V o 0 4)) rfl hd kk
theorem gpN_Mod_compacted (C : Cx p s m args meth c cc nL own ret D cy g A) {index a : Nat} {o v : Int} (h : isO g 4 a o) (hlink : Cond.fieldLinkNest own index "SlotFileModel" "compacted" "I" "SlotFile" ∈ nestL) (hd : decode cc pc = .ok (.putfield index, 3)) (kk : G p l e R s m args below meth c nL cells slots Q D cy g A H0 (up V o 0 4 v) (pc + 3) lv st) : G p l e R s m args below meth c nL cells slots Q D cy g A H0 V pc lv (vI v :: .ref a :: st) := by
  refine g_putN (Cn := RX4) (T := TX4) (N := 8) (ty := .int) (j := 4) C in_Mod tyX4 tyX4_ok nmX4 rfl h.1 (pF_Mod h V) 4 (by decide) hlink rfl (by decide +kernel) rfl rfl (Nat.le_of_ble_eq_true rfl) ?_ hd ?_
  · rw [h.2.2.1, h.2.2.2, pF_Mod h]
    simp [up, List.set]
  · rw [h.2.2.1, h.2.2.2]
    exact kk
theorem gf_Mod_crashes (C : Cx p s m args meth c cc nL own ret D cy g A) {index a : Nat} {o : Int} (h : isO g 4 a o) (hlink : Cond.fieldLink own index "SlotFileModel" "crashes" "I" ∈ wsG) (hd : decode cc pc = .ok (.getfield index, 3)) (kk : G p l e R s m args below meth c nL cells slots Q D cy g A H0 V (pc + 3) lv (vI (V o 0 5) :: st)) : G p l e R s m args below meth c nL cells slots Q D cy g A H0 V pc lv (.ref a :: st) :=
  g_get (Cn := RX4) (T := TX4) (N := 8) C in_Mod rfl h.1 (pF_Mod h V) 5 (by decide) hlink (v := vI (V o 0 5)) rfl hd kk
theorem gp_Mod_crashes (C : Cx p s m args meth c cc nL own ret D cy g A) {index a : Nat} {o v : Int} (h : isO g 4 a o) (hlink : Cond.fieldLink own index "SlotFileModel" "crashes" "I" ∈ wsG) (hd : decode cc pc = .ok (.putfield index, 3)) (kk : G p l e R s m args below meth c nL cells slots Q D cy g A H0 (up V o 0 5 v) (pc + 3) lv st) : G p l e R s m args below meth c nL cells slots Q D cy g A H0 V pc lv (vI v :: .ref a :: st) := by
  refine g_put (Cn := RX4) (T := TX4) (N := 8) (ty := .int) (j := 5) C in_Mod tyX4 tyX4_ok nmX4 rfl h.1 (pF_Mod h V) 5 (by decide) hlink rfl (by decide +kernel) rfl rfl (Nat.le_of_ble_eq_true rfl) ?_ hd ?_
  · rw [h.2.2.1, h.2.2.2, pF_Mod h]
    simp [up, List.set]
  · rw [h.2.2.1, h.2.2.2]
    exact kk
theorem gfN_Mod_crashes (C : Cx p s m args meth c cc nL own ret D cy g A) {index a : Nat} {o : Int} (h : isO g 4 a o) (hlink : Cond.fieldLinkNest own index "SlotFileModel" "crashes" "I" "SlotFile" ∈ nestL) (hd : decode cc pc = .ok (.getfield index, 3)) (kk : G p l e R s m args below meth c nL cells slots Q D cy g A H0 V (pc + 3) lv (vI (V o 0 5) :: st)) : G p l e R s m args below meth c nL cells slots Q D cy g A H0 V pc lv (.ref a :: st) :=
  g_getN (Cn := RX4) (T := TX4) (N := 8) C in_Mod rfl h.1 (pF_Mod h V) 5 (by decide) hlink (v := vI (V o 0 5)) rfl hd kk
theorem gpN_Mod_crashes (C : Cx p s m args meth c cc nL own ret D cy g A) {index a : Nat} {o v : Int} (h : isO g 4 a o) (hlink : Cond.fieldLinkNest own index "SlotFileModel" "crashes" "I" "SlotFile" ∈ nestL) (hd : decode cc pc = .ok (.putfield index, 3)) (kk : G p l e R s m args below meth c nL cells slots Q D cy g A H0 (up V o 0 5 v) (pc + 3) lv st) : G p l e R s m args below meth c nL cells slots Q D cy g A H0 V pc lv (vI v :: .ref a :: st) := by
  refine g_putN (Cn := RX4) (T := TX4) (N := 8) (ty := .int) (j := 5) C in_Mod tyX4 tyX4_ok nmX4 rfl h.1 (pF_Mod h V) 5 (by decide) hlink rfl (by decide +kernel) rfl rfl (Nat.le_of_ble_eq_true rfl) ?_ hd ?_
  · rw [h.2.2.1, h.2.2.2, pF_Mod h]
    simp [up, List.set]
  · rw [h.2.2.1, h.2.2.2]
    exact kk
theorem gf_Mod_again (C : Cx p s m args meth c cc nL own ret D cy g A) {index a : Nat} {o : Int} (h : isO g 4 a o) (hlink : Cond.fieldLink own index "SlotFileModel" "again" "Z" ∈ wsG) (hd : decode cc pc = .ok (.getfield index, 3)) (kk : G p l e R s m args below meth c nL cells slots Q D cy g A H0 V (pc + 3) lv (vI (V o 0 6) :: st)) : G p l e R s m args below meth c nL cells slots Q D cy g A H0 V pc lv (.ref a :: st) :=
  g_get (Cn := RX4) (T := TX4) (N := 8) C in_Mod rfl h.1 (pF_Mod h V) 6 (by decide) hlink (v := vI (V o 0 6)) rfl hd kk
theorem gp_Mod_again (C : Cx p s m args meth c cc nL own ret D cy g A) {index a : Nat} {o v : Int} (h : isO g 4 a o) (hz : v = 0 ∨ v = 1) (hlink : Cond.fieldLink own index "SlotFileModel" "again" "Z" ∈ wsG) (hd : decode cc pc = .ok (.putfield index, 3)) (kk : G p l e R s m args below meth c nL cells slots Q D cy g A H0 (up V o 0 6 v) (pc + 3) lv st) : G p l e R s m args below meth c nL cells slots Q D cy g A H0 V pc lv (vI v :: .ref a :: st) := by
  refine g_put (Cn := RX4) (T := TX4) (N := 8) (ty := .boolean) (j := 6) C in_Mod tyX4 tyX4_ok nmX4 rfl h.1 (pF_Mod h V) 6 (by decide) hlink rfl (by decide +kernel) (by rcases hz with rfl | rfl <;> rfl) (by rcases hz with rfl | rfl <;> rfl) (Nat.le_of_ble_eq_true rfl) ?_ hd ?_
  · rw [h.2.2.1, h.2.2.2, pF_Mod h]
    simp [up, List.set]
  · rw [h.2.2.1, h.2.2.2]
    exact kk
theorem gfN_Mod_again (C : Cx p s m args meth c cc nL own ret D cy g A) {index a : Nat} {o : Int} (h : isO g 4 a o) (hlink : Cond.fieldLinkNest own index "SlotFileModel" "again" "Z" "SlotFile" ∈ nestL) (hd : decode cc pc = .ok (.getfield index, 3)) (kk : G p l e R s m args below meth c nL cells slots Q D cy g A H0 V (pc + 3) lv (vI (V o 0 6) :: st)) : G p l e R s m args below meth c nL cells slots Q D cy g A H0 V pc lv (.ref a :: st) :=
  g_getN (Cn := RX4) (T := TX4) (N := 8) C in_Mod rfl h.1 (pF_Mod h V) 6 (by decide) hlink (v := vI (V o 0 6)) rfl hd kk
theorem gpN_Mod_again (C : Cx p s m args meth c cc nL own ret D cy g A) {index a : Nat} {o v : Int} (h : isO g 4 a o) (hz : v = 0 ∨ v = 1) (hlink : Cond.fieldLinkNest own index "SlotFileModel" "again" "Z" "SlotFile" ∈ nestL) (hd : decode cc pc = .ok (.putfield index, 3)) (kk : G p l e R s m args below meth c nL cells slots Q D cy g A H0 (up V o 0 6 v) (pc + 3) lv st) : G p l e R s m args below meth c nL cells slots Q D cy g A H0 V pc lv (vI v :: .ref a :: st) := by
  refine g_putN (Cn := RX4) (T := TX4) (N := 8) (ty := .boolean) (j := 6) C in_Mod tyX4 tyX4_ok nmX4 rfl h.1 (pF_Mod h V) 6 (by decide) hlink rfl (by decide +kernel) (by rcases hz with rfl | rfl <;> rfl) (by rcases hz with rfl | rfl <;> rfl) (Nat.le_of_ble_eq_true rfl) ?_ hd ?_
  · rw [h.2.2.1, h.2.2.2, pF_Mod h]
    simp [up, List.set]
  · rw [h.2.2.1, h.2.2.2]
    exact kk
theorem gf_Mod_thrown (C : Cx p s m args meth c cc nL own ret D cy g A) {index a : Nat} {o : Int} (h : isO g 4 a o) (hlink : Cond.fieldLink own index "SlotFileModel" "thrown" "I" ∈ wsG) (hd : decode cc pc = .ok (.getfield index, 3)) (kk : G p l e R s m args below meth c nL cells slots Q D cy g A H0 V (pc + 3) lv (vI (V o 0 7) :: st)) : G p l e R s m args below meth c nL cells slots Q D cy g A H0 V pc lv (.ref a :: st) :=
  g_get (Cn := RX4) (T := TX4) (N := 8) C in_Mod rfl h.1 (pF_Mod h V) 7 (by decide) hlink (v := vI (V o 0 7)) rfl hd kk
theorem gp_Mod_thrown (C : Cx p s m args meth c cc nL own ret D cy g A) {index a : Nat} {o v : Int} (h : isO g 4 a o) (hlink : Cond.fieldLink own index "SlotFileModel" "thrown" "I" ∈ wsG) (hd : decode cc pc = .ok (.putfield index, 3)) (kk : G p l e R s m args below meth c nL cells slots Q D cy g A H0 (up V o 0 7 v) (pc + 3) lv st) : G p l e R s m args below meth c nL cells slots Q D cy g A H0 V pc lv (vI v :: .ref a :: st) := by
  refine g_put (Cn := RX4) (T := TX4) (N := 8) (ty := .int) (j := 7) C in_Mod tyX4 tyX4_ok nmX4 rfl h.1 (pF_Mod h V) 7 (by decide) hlink rfl (by decide +kernel) rfl rfl (Nat.le_of_ble_eq_true rfl) ?_ hd ?_
  · rw [h.2.2.1, h.2.2.2, pF_Mod h]
    simp [up, List.set]
  · rw [h.2.2.1, h.2.2.2]
    exact kk
theorem gfN_Mod_thrown (C : Cx p s m args meth c cc nL own ret D cy g A) {index a : Nat} {o : Int} (h : isO g 4 a o) (hlink : Cond.fieldLinkNest own index "SlotFileModel" "thrown" "I" "SlotFile" ∈ nestL) (hd : decode cc pc = .ok (.getfield index, 3)) (kk : G p l e R s m args below meth c nL cells slots Q D cy g A H0 V (pc + 3) lv (vI (V o 0 7) :: st)) : G p l e R s m args below meth c nL cells slots Q D cy g A H0 V pc lv (.ref a :: st) :=
  g_getN (Cn := RX4) (T := TX4) (N := 8) C in_Mod rfl h.1 (pF_Mod h V) 7 (by decide) hlink (v := vI (V o 0 7)) rfl hd kk
theorem gpN_Mod_thrown (C : Cx p s m args meth c cc nL own ret D cy g A) {index a : Nat} {o v : Int} (h : isO g 4 a o) (hlink : Cond.fieldLinkNest own index "SlotFileModel" "thrown" "I" "SlotFile" ∈ nestL) (hd : decode cc pc = .ok (.putfield index, 3)) (kk : G p l e R s m args below meth c nL cells slots Q D cy g A H0 (up V o 0 7 v) (pc + 3) lv st) : G p l e R s m args below meth c nL cells slots Q D cy g A H0 V pc lv (vI v :: .ref a :: st) := by
  refine g_putN (Cn := RX4) (T := TX4) (N := 8) (ty := .int) (j := 7) C in_Mod tyX4 tyX4_ok nmX4 rfl h.1 (pF_Mod h V) 7 (by decide) hlink rfl (by decide +kernel) rfl rfl (Nat.le_of_ble_eq_true rfl) ?_ hd ?_
  · rw [h.2.2.1, h.2.2.2, pF_Mod h]
    simp [up, List.set]
  · rw [h.2.2.1, h.2.2.2]
    exact kk
end
end
section
/-! contracts over the pool: answers, and the new V -/
def PcV (D : va_G) (cy : ClassId × ClassId) (g : GT) (V : VT) (av : List Value) : Array Value → State → Prop :=
  va_Pc av (fun U => va_P D vwCl (pw cy g V) U.heap ∧ va_K D vwCl (tyc cy) U ∧ NW U)
def QcI (D : va_G) (cy : ClassId × ClassId) (g : GT) (post : Int → VT → Prop) : Array Value → State → Outcome → State → Prop :=
  va_Qi (S := Int × VT) (fun r u => r = iI u.1 ∧ post u.1 u.2) (fun u t => va_P D vwCl (pw cy g u.2) t.heap) (fun q => q ∈ gL g)
def QcV (D : va_G) (cy : ClassId × ClassId) (g : GT) (post : VT → Prop) : Array Value → State → Outcome → State → Prop :=
  va_Qv (S := VT) (fun u => post u) (fun u t => va_P D vwCl (pw cy g u) t.heap) (fun q => q ∈ gL g)
def MetI (l : Launch) (y : MethodName) (cc : ByteArray) (maxL : Nat) (ret : Option FieldType) (d : Nat) (D : va_G) (cy : ClassId × ClassId) (g : GT) (av : List Value) (V : VT) (post : Int → VT → Prop) : Prop :=
  Met l y (.code y cc maxL ret :: wsG) (rmd d) (PcV D cy g V av) (QcI D cy g post) 0 0 (fun q => q ∈ gL g)
def MetV (l : Launch) (y : MethodName) (cc : ByteArray) (maxL : Nat) (ret : Option FieldType) (d : Nat) (D : va_G) (cy : ClassId × ClassId) (g : GT) (av : List Value) (V : VT) (post : VT → Prop) : Prop :=
  Met l y (.code y cc maxL ret :: wsG) (rmd d) (PcV D cy g V av) (QcV D cy g post) 0 0 (fun q => q ∈ gL g)
theorem NW_same {u U : State} (h : u.vm = U.vm) (hn : NW u) : NW U := by
  intro w hw
  have ho : w.onTables = true := (show ∀ w ∈ nestL, w.onTables = true by decide +kernel) w hw
  exact va_Nw.same ho h (hn w hw)
theorem NW_warm {s U : State} (hW : s.WarmedH U.vm) (hn : NW s) : NW U := by
  intro w hw
  have ho := hn w hw
  have hf : (∃ a i b n d h, w = .fieldLinkNest a i b n d h) ∨ ∃ a i x h, w = .methodLinkNest a i x h := by
    unfold nestL at hw
    simp only [List.mem_cons, List.not_mem_nil, or_false] at hw
    rcases hw with h | h | h | h | h | h | h | h | h | h | h | h | h | h | h | h | h | h | h | h | h | h | h | h <;> subst h <;> first | exact Or.inl ⟨_, _, _, _, _, _, rfl⟩ | exact Or.inr ⟨_, _, _, _, rfl⟩
  rcases hf with ⟨a, i, b, n, d, h, rfl⟩ | ⟨a, i, x, h, rfl⟩
  · exact va_Nw.warmF hW ho
  · exact va_Nw.warmM hW ho
theorem PcV_blind {D : va_G} {cy : ClassId × ClassId} {g : GT} {V : VT} {av : List Value} : FrameBlind (PcV D cy g V av) := by
  rintro a U f mk ⟨h1, h2, h3, h4⟩
  exact ⟨h1, h2, va_K.moved (u := U) (U := U.calling f mk a) (Vm.Alike.refl U.vm) h3, NW_same (u := U) (U := U.calling f mk a) rfl h4⟩
section
variable {p : Program} {l : Launch} {e : Env} {R : Room} {s : State} {m : MethodId} {args : Array Value} {below : List Frame} {meth : Method} {c : Code} {cells slots nL : Nat} {Q : State → Prop}
variable {cc : ByteArray} {own : String} {ret : Option FieldType} {D : va_G} {cy : ClassId × ClassId} {g : GT} {A : Nat → Prop} {H0 : Heap} {V : VT} {pc : Nat} {lv : List (Nat × Value)} {st : List Value}
/-- from the body's walk to the contract -/
theorem MetI.of {y : MethodName} {maxL d : Nat} {av : List Value} {post : Int → VT → Prop} (hy : plainName y.cls = true) (hlen : (lg_sl av).length ≤ maxL) (hap : Apart g)
    (body : ∀ (p : Program) (e : Env) (s : State) (m : MethodId) (args : Array Value) (below : List Frame) (meth : Method) (c : Code), Cx p s m args meth c cc maxL y.cls ret D cy g (fun q => q ∈ gL g) →
      G p l e (rmd d) s m args below meth c maxL 0 0 (MQ below (QcI D cy g post) args s 0 0 (fun q => q ∈ gL g)) D cy g (fun q => q ∈ gL g) s.heap V 0 (lv_args 0 av) []) : MetI l y cc maxL ret d D cy g av V post := by
  refine Met.ofW (cc := cc) (maxL := maxL) (ret := ret) hy rfl ?_
  intro p e s m args below meth c s₁ B hml hv
  obtain ⟨rfl, hP, hK, hN⟩ := hv
  have hts := atoms_spec (ws := .code y cc maxL ret :: wsG) B.pre
  have hown : s.vm.findClass y.cls = some m.cls := findClass_of_methodNamed B.named
  have C : Cx p s m av.toArray meth c cc maxL y.cls ret D cy g (fun q => q ∈ gL g) := ⟨⟨B.exec, B.bytes, hml, hown, fun w hw => hts w (List.mem_cons_of_mem _ hw)⟩, hK, hN, hap, fun _ h => h, B.returns, B.notSynchronized⟩
  rw [lg_entry_eq]
  exact body p e s m av.toArray below meth c C s.heap [] _ hP va_S.rf (lv_entry av hlen)
theorem MetV.of {y : MethodName} {maxL d : Nat} {av : List Value} {post : VT → Prop} (hy : plainName y.cls = true) (hlen : (lg_sl av).length ≤ maxL) (hap : Apart g)
    (body : ∀ (p : Program) (e : Env) (s : State) (m : MethodId) (args : Array Value) (below : List Frame) (meth : Method) (c : Code), Cx p s m args meth c cc maxL y.cls ret D cy g (fun q => q ∈ gL g) →
      G p l e (rmd d) s m args below meth c maxL 0 0 (MQ below (QcV D cy g post) args s 0 0 (fun q => q ∈ gL g)) D cy g (fun q => q ∈ gL g) s.heap V 0 (lv_args 0 av) []) : MetV l y cc maxL ret d D cy g av V post := by
  refine Met.ofW (cc := cc) (maxL := maxL) (ret := ret) hy rfl ?_
  intro p e s m args below meth c s₁ B hml hv
  obtain ⟨rfl, hP, hK, hN⟩ := hv
  have hts := atoms_spec (ws := .code y cc maxL ret :: wsG) B.pre
  have hown : s.vm.findClass y.cls = some m.cls := findClass_of_methodNamed B.named
  have C : Cx p s m av.toArray meth c cc maxL y.cls ret D cy g (fun q => q ∈ gL g) := ⟨⟨B.exec, B.bytes, hml, hown, fun w hw => hts w (List.mem_cons_of_mem _ hw)⟩, hK, hN, hap, fun _ h => h, B.returns, B.notSynchronized⟩
  rw [lg_entry_eq]
  exact body p e s m av.toArray below meth c C s.heap [] _ hP va_S.rf (lv_entry av hlen)
/-- ends -/
theorem g_iret {post : Int → VT → Prop} {x : Int} (C : Cx p s m args meth c cc nL own (some .int) D cy g (fun q => q ∈ gL g)) (hd : decode cc pc = .ok (.ireturn, 1)) (hp : post x V) :
    G p l e R s m args below meth c nL cells slots (MQ below (QcI D cy g post) args s cells slots (fun q => q ∈ gL g)) D cy g (fun q => q ∈ gL g) s.heap V pc lv [vI x] := by
  intro H locs ls hP hS hl
  exact W.iret (v := iI x) C.1.1 C.1.2.1 C.2.2.2.2.2.1 (fun t ht hW => ⟨⟨iI x, (x, V), rfl, ⟨rfl, hp⟩, by show va_P D vwCl (pw cy g V) t.heap; rw [ht]; exact hP⟩, hS.F ht⟩) hS.2.2 hd C.2.2.2.2.2.2
theorem g_zret {post : Int → VT → Prop} {x : Int} (C : Cx p s m args meth c cc nL own (some .boolean) D cy g (fun q => q ∈ gL g)) (hz : x = 0 ∨ x = 1) (hd : decode cc pc = .ok (.ireturn, 1)) (hp : post x V) :
    G p l e R s m args below meth c nL cells slots (MQ below (QcI D cy g post) args s cells slots (fun q => q ∈ gL g)) D cy g (fun q => q ∈ gL g) s.heap V pc lv [vI x] := by
  intro H locs ls hP hS hl
  exact W.zret (v := iI x) (ty := .boolean) C.1.1 C.1.2.1 C.2.2.2.2.2.1 (by rcases hz with rfl | rfl <;> rfl) (fun t ht hW => ⟨⟨iI x, (x, V), rfl, ⟨rfl, hp⟩, by show va_P D vwCl (pw cy g V) t.heap; rw [ht]; exact hP⟩, hS.F ht⟩) hS.2.2 hd C.2.2.2.2.2.2
theorem g_vret {post : VT → Prop} (C : Cx p s m args meth c cc nL own none D cy g (fun q => q ∈ gL g)) (hd : decode cc pc = .ok (.return_, 1)) (hp : post V) :
    G p l e R s m args below meth c nL cells slots (MQ below (QcV D cy g post) args s cells slots (fun q => q ∈ gL g)) D cy g (fun q => q ∈ gL g) s.heap V pc lv [] := by
  intro H locs ls hP hS hl
  exact W.vret C.1.1 C.1.2.1 C.2.2.2.2.2.1 (fun t ht hW => ⟨⟨V, rfl, hp, by show va_P D vwCl (pw cy g V) t.heap; rw [ht]; exact hP⟩, hS.F ht⟩) hS.2.2 hd C.2.2.2.2.2.2
/-- links of calls -/
def LkV (own : String) (idx : Nat) (y : MethodName) (ccy : ByteArray) (maxL : Nat) (rety : Option FieldType) (n : Nat) : Prop :=
  (Cond.methodLink own idx y ∈ wsG ∧ Cond.instanceMethod y ∈ wsG ∧ Cond.selects y.cls y y ∈ wsG ∧ Cond.initialized y.cls ∈ wsG ∧ Cond.code y ccy maxL rety ∈ wsG) ∧ (y.cls ≠ "java/lang/invoke/MethodHandle" ∧ y.cls ≠ "java/lang/invoke/VarHandle" ∧ (parseMethodDescriptor y.desc).map (fun d => d.parameters.length) = some n)
def LkS (own : String) (idx : Nat) (y : MethodName) (ccy : ByteArray) (maxL : Nat) (rety : Option FieldType) (n : Nat) : Prop :=
  (y.cls = own ∧ Cond.methodLink own idx y ∈ wsG ∧ Cond.static y ∈ wsG ∧ Cond.initialized own ∈ wsG ∧ Cond.code y ccy maxL rety ∈ wsG) ∧ (y.cls ≠ "java/lang/invoke/MethodHandle" ∧ y.cls ≠ "java/lang/invoke/VarHandle" ∧ (parseMethodDescriptor y.desc).map (fun d => d.parameters.length) = some n)
def LkN (own : String) (idx : Nat) (y : MethodName) (ccy : ByteArray) (maxL : Nat) (rety : Option FieldType) (n : Nat) : Prop :=
  (Cond.methodLinkNest own idx y "SlotFile" ∈ nestL ∧ Cond.static y ∈ wsG ∧ Cond.initialized y.cls ∈ wsG ∧ Cond.code y ccy maxL rety ∈ wsG) ∧ (y.cls ≠ "java/lang/invoke/MethodHandle" ∧ y.cls ≠ "java/lang/invoke/VarHandle" ∧ (parseMethodDescriptor y.desc).map (fun d => d.parameters.length) = some n)
theorem wsG_all {ws : List Cond} (h : ∀ w ∈ ws, w ∈ wsG) : GoodIn wsG ws := fun w hw => ⟨h w hw, wsG_good (h w hw)⟩
theorem cls_of {a ci : Nat} {o : Int} {Cn : String} {T : u_T} {N : Nat} {H : Heap} (C : Cx p s m args meth c cc nL own ret D cy g A) (ha : a ∈ gL g) {fs : List Value} (he : pF cy g V a = .inr (ci, fs)) (hc : vwCl[ci]? = some (Cn, T, N)) (hP : va_P D vwCl (pw cy g V) H) : ∃ cell : Cell, H[a]? = some cell ∧ cell.vm.isStatics = false ∧ s.vm.findClass Cn = some cell.cls := by
  obtain ⟨q0, hq0⟩ := pw_at (cy := cy) (V := V) ha
  rw [he] at hq0
  exact va_recv C.2.1 hP hc hq0
def rcv (g : GT) (a : Nat) (Cn : String) : Prop := a ∈ gL g ∧ ∀ (cy : ClassId × ClassId) (V : VT), ∃ ci fs T N, pF cy g V a = .inr (ci, fs) ∧ vwCl[ci]? = some (Cn, T, N)
theorem g_callI (C : Cx p s m args meth c cc nL own ret D cy g A) {y : MethodName} {ccy : ByteArray} {maxLy d index b : Nat} {rety : Option FieldType} (av : List Value) (rest : List Value) {post : Int → VT → Prop}
    (hM : MetI l y ccy maxLy rety d D cy g (.ref b :: av) V post) (hL : LkV own index y ccy maxLy rety av.length) (hb : rcv g b y.cls) (hst : st = av.reverse ++ .ref b :: rest) (hw : (rest.map fun v => v.category).sum ≤ 8) (hR : d + 1 ≤ R.frames ∧ 8 + (maxLy + 11) + 33 * d ≤ R.locals) (hcl : cells ≤ R.cells ∧ slots ≤ R.slots) (hd : decode cc pc = .ok (.invokevirtual index, 3))
    (kk : ∀ (r : Int) (V' : VT), post r V' → G p l e R s m args below meth c nL cells slots Q D cy g A H0 V' (pc + 3) lv (vI r :: rest)) : G p l e R s m args below meth c nL cells slots Q D cy g A H0 V pc lv st := by
  intro H locs ls hP hS hl
  obtain ⟨⟨l1, l2, l3, l4, l5⟩, l6⟩ := hL
  obtain ⟨hbL, hb2⟩ := hb
  obtain ⟨ci, fs, T, N, hb3, hb4⟩ := hb2 cy V
  have cw : CallW R s args own y.cls index y ccy maxLy rety (.code y ccy maxLy rety :: wsG) (rmd d) 0 0 av.length :=
    cwV (C := y.cls) av.length C.1.2.2.2.2 (wsG_all (fun w hw => by
      simp only [wsV, List.mem_append, List.mem_cons, List.not_mem_nil, or_false] at hw
      rcases hw with (rfl | rfl | rfl | rfl) | rfl | h
      · exact l1
      · exact l2
      · exact l3
      · exact l4
      · exact l5
      · exact h)) rfl rfl rfl ⟨rfl, l6⟩ hR
  refine va_calli (va_runV (As := av) (rest := rest) C.1 hM cw ⟨PcV_blind, cls_of (o := 0) C hbL hb3 hb4 hP, fun U hU hW => ⟨rfl, by rw [hU]; exact hP, va_K.moved hW.alike C.2.1, NW_warm hW C.2.2.1⟩⟩ rfl rfl hl.1 hst (lv_room (m := m) (pc := pc) (ls := ls) (rest := st) hw) hd hcl) hS (fun q _ h => C.2.2.2.2.1 q h) (fun q h => C.2.2.2.2.1 q h) ?_
  rintro r ⟨x, V'⟩ t H1 locs1 ht _ ⟨rfl, hp⟩ hB _ _ hS1
  exact kk x V' hp H1 locs1 ls (by rw [← ht]; exact hB) hS1 hl
theorem g_callV (C : Cx p s m args meth c cc nL own ret D cy g A) {y : MethodName} {ccy : ByteArray} {maxLy d index b : Nat} {rety : Option FieldType} (av : List Value) (rest : List Value) {post : VT → Prop}
    (hM : MetV l y ccy maxLy rety d D cy g (.ref b :: av) V post) (hL : LkV own index y ccy maxLy rety av.length) (hb : rcv g b y.cls) (hst : st = av.reverse ++ .ref b :: rest) (hw : (rest.map fun v => v.category).sum ≤ 8) (hR : d + 1 ≤ R.frames ∧ 8 + (maxLy + 11) + 33 * d ≤ R.locals) (hcl : cells ≤ R.cells ∧ slots ≤ R.slots) (hd : decode cc pc = .ok (.invokevirtual index, 3))
    (kk : ∀ (V' : VT), post V' → G p l e R s m args below meth c nL cells slots Q D cy g A H0 V' (pc + 3) lv rest) : G p l e R s m args below meth c nL cells slots Q D cy g A H0 V pc lv st := by
  intro H locs ls hP hS hl
  obtain ⟨⟨l1, l2, l3, l4, l5⟩, l6⟩ := hL
  obtain ⟨hbL, hb2⟩ := hb
  obtain ⟨ci, fs, T, N, hb3, hb4⟩ := hb2 cy V
  have cw : CallW R s args own y.cls index y ccy maxLy rety (.code y ccy maxLy rety :: wsG) (rmd d) 0 0 av.length :=
    cwV (C := y.cls) av.length C.1.2.2.2.2 (wsG_all (fun w hw => by
      simp only [wsV, List.mem_append, List.mem_cons, List.not_mem_nil, or_false] at hw
      rcases hw with (rfl | rfl | rfl | rfl) | rfl | h
      · exact l1
      · exact l2
      · exact l3
      · exact l4
      · exact l5
      · exact h)) rfl rfl rfl ⟨rfl, l6⟩ hR
  refine va_callv (va_runV (As := av) (rest := rest) C.1 hM cw ⟨PcV_blind, cls_of (o := 0) C hbL hb3 hb4 hP, fun U hU hW => ⟨rfl, by rw [hU]; exact hP, va_K.moved hW.alike C.2.1, NW_warm hW C.2.2.1⟩⟩ rfl rfl hl.1 hst (lv_room (m := m) (pc := pc) (ls := ls) (rest := st) hw) hd hcl) hS (fun q _ h => C.2.2.2.2.1 q h) (fun q h => C.2.2.2.2.1 q h) ?_
  rintro V' t H1 locs1 ht _ hp hB _ _ hS1
  exact kk V' hp H1 locs1 ls (by rw [← ht]; exact hB) hS1 hl
/-- a static method of the same class -/
theorem g_callSI (C : Cx p s m args meth c cc nL own ret D cy g A) {y : MethodName} {ccy : ByteArray} {maxLy d index : Nat} {rety : Option FieldType} (av : List Value) (rest : List Value) {post : Int → VT → Prop}
    (hM : MetI l y ccy maxLy rety d D cy g av V post) (hL : LkS own index y ccy maxLy rety av.length) (hst : st = av.reverse ++ rest) (hw : (rest.map fun v => v.category).sum ≤ 8) (hR : d + 1 ≤ R.frames ∧ 8 + (maxLy + 11) + 33 * d ≤ R.locals) (hcl : cells ≤ R.cells ∧ slots ≤ R.slots) (hd : decode cc pc = .ok (.invokestatic index, 3))
    (kk : ∀ (r : Int) (V' : VT), post r V' → G p l e R s m args below meth c nL cells slots Q D cy g A H0 V' (pc + 3) lv (vI r :: rest)) : G p l e R s m args below meth c nL cells slots Q D cy g A H0 V pc lv st := by
  intro H locs ls hP hS hl
  obtain ⟨⟨l0, l1, l2, l3, l4⟩, l6⟩ := hL
  have cw : CallB R s args own index y ccy maxLy rety (.code y ccy maxLy rety :: wsG) (rmd d) 0 0 av.length ∧ (Cond.static y).before args s = true :=
    cwS av.length C.1.2.2.2.2 (wsG_all (fun w hw => by
      simp only [wsS, List.mem_append, List.mem_cons, List.not_mem_nil, or_false] at hw
      rcases hw with (rfl | rfl | rfl) | rfl | h
      · exact l1
      · exact l2
      · exact l3
      · exact l4
      · exact h)) rfl rfl rfl ⟨l0, l6⟩ hR
  refine va_calli (va_runS (As := av) (rest := rest) C.1 hM cw ⟨PcV_blind, fun U hU hW => ⟨rfl, by rw [hU]; exact hP, va_K.moved hW.alike C.2.1, NW_warm hW C.2.2.1⟩⟩ rfl rfl hl.1 hst (lv_room (m := m) (pc := pc) (ls := ls) (rest := st) hw) hd hcl) hS (fun q _ h => C.2.2.2.2.1 q h) (fun q h => C.2.2.2.2.1 q h) ?_
  rintro r ⟨x, V'⟩ t H1 locs1 ht _ ⟨rfl, hp⟩ hB _ _ hS1
  exact kk x V' hp H1 locs1 ls (by rw [← ht]; exact hB) hS1 hl
theorem g_callSV (C : Cx p s m args meth c cc nL own ret D cy g A) {y : MethodName} {ccy : ByteArray} {maxLy d index : Nat} {rety : Option FieldType} (av : List Value) (rest : List Value) {post : VT → Prop}
    (hM : MetV l y ccy maxLy rety d D cy g av V post) (hL : LkS own index y ccy maxLy rety av.length) (hst : st = av.reverse ++ rest) (hw : (rest.map fun v => v.category).sum ≤ 8) (hR : d + 1 ≤ R.frames ∧ 8 + (maxLy + 11) + 33 * d ≤ R.locals) (hcl : cells ≤ R.cells ∧ slots ≤ R.slots) (hd : decode cc pc = .ok (.invokestatic index, 3))
    (kk : ∀ (V' : VT), post V' → G p l e R s m args below meth c nL cells slots Q D cy g A H0 V' (pc + 3) lv rest) : G p l e R s m args below meth c nL cells slots Q D cy g A H0 V pc lv st := by
  intro H locs ls hP hS hl
  obtain ⟨⟨l0, l1, l2, l3, l4⟩, l6⟩ := hL
  have cw : CallB R s args own index y ccy maxLy rety (.code y ccy maxLy rety :: wsG) (rmd d) 0 0 av.length ∧ (Cond.static y).before args s = true :=
    cwS av.length C.1.2.2.2.2 (wsG_all (fun w hw => by
      simp only [wsS, List.mem_append, List.mem_cons, List.not_mem_nil, or_false] at hw
      rcases hw with (rfl | rfl | rfl) | rfl | h
      · exact l1
      · exact l2
      · exact l3
      · exact l4
      · exact h)) rfl rfl rfl ⟨l0, l6⟩ hR
  refine va_callv (va_runS (As := av) (rest := rest) C.1 hM cw ⟨PcV_blind, fun U hU hW => ⟨rfl, by rw [hU]; exact hP, va_K.moved hW.alike C.2.1, NW_warm hW C.2.2.1⟩⟩ rfl rfl hl.1 hst (lv_room (m := m) (pc := pc) (ls := ls) (rest := st) hw) hd hcl) hS (fun q _ h => C.2.2.2.2.1 q h) (fun q h => C.2.2.2.2.1 q h) ?_
  rintro V' t H1 locs1 ht _ hp hB _ _ hS1
  exact kk V' hp H1 locs1 ls (by rw [← ht]; exact hB) hS1 hl
/-- a private static method of a nest mate -/
theorem g_callNI (C : Cx p s m args meth c cc nL own ret D cy g A) {y : MethodName} {ccy : ByteArray} {maxLy d index : Nat} {rety : Option FieldType} (av : List Value) (rest : List Value) {post : Int → VT → Prop}
    (hM : MetI l y ccy maxLy rety d D cy g av V post) (hL : LkN own index y ccy maxLy rety av.length) (hst : st = av.reverse ++ rest) (hw : (rest.map fun v => v.category).sum ≤ 8) (hR : d + 1 ≤ R.frames ∧ 8 + (maxLy + 11) + 33 * d ≤ R.locals) (hcl : cells ≤ R.cells ∧ slots ≤ R.slots) (hd : decode cc pc = .ok (.invokestatic index, 3))
    (kk : ∀ (r : Int) (V' : VT), post r V' → G p l e R s m args below meth c nL cells slots Q D cy g A H0 V' (pc + 3) lv (vI r :: rest)) : G p l e R s m args below meth c nL cells slots Q D cy g A H0 V pc lv st := by
  intro H locs ls hP hS hl
  obtain ⟨⟨l1, l2, l3, l4⟩, l6⟩ := hL
  have cw : va_CN R s args own index y "SlotFile" ccy maxLy rety (.code y ccy maxLy rety :: wsG) (rmd d) 0 0 av.length ∧ (Cond.static y).before args s = true ∧ True :=
    ⟨va_cnB av.length C.1.2.2.2.2 (wsG_all (fun w hw => by
      rcases List.mem_cons.mp hw with rfl | h
      · exact l4
      · exact h)) rfl rfl rfl (C.2.2.1 _ l1) (C.1.2.2.2.2 _ l3) l6 hR, C.1.2.2.2.2 _ l2, trivial⟩
  refine va_calli (va_runSN (As := av) (rest := rest) C.1 hM cw ⟨PcV_blind, fun U hU hW => ⟨rfl, by rw [hU]; exact hP, va_K.moved hW.alike C.2.1, NW_warm hW C.2.2.1⟩⟩ rfl rfl hl.1 hst (lv_room (m := m) (pc := pc) (ls := ls) (rest := st) hw) hd hcl) hS (fun q _ h => C.2.2.2.2.1 q h) (fun q h => C.2.2.2.2.1 q h) ?_
  rintro r ⟨x, V'⟩ t H1 locs1 ht _ ⟨rfl, hp⟩ hB _ _ hS1
  exact kk x V' hp H1 locs1 ls (by rw [← ht]; exact hB) hS1 hl
end
theorem rcv_Log {g : GT} {a : Nat} {o : Int} (h : isO g 0 a o) : rcv g a RX0 := ⟨h.1, fun cy V => ⟨0, _, TX0, 4, pF_Log h V, rfl⟩⟩
theorem rcv_Page {g : GT} {a : Nat} {o : Int} (h : isO g 1 a o) : rcv g a RX1 := ⟨h.1, fun cy V => ⟨1, _, TX1, 13, pF_Page h V, rfl⟩⟩
theorem rcv_Store {g : GT} {a : Nat} {o : Int} (h : isO g 2 a o) : rcv g a RX2 := ⟨h.1, fun cy V => ⟨2, _, TX2, 1, pF_Store h V, rfl⟩⟩
theorem rcv_Sf {g : GT} {a : Nat} {o : Int} (h : isO g 3 a o) : rcv g a RX3 := ⟨h.1, fun cy V => ⟨3, _, TX3, 4, pF_Sf h V, rfl⟩⟩
theorem rcv_Mod {g : GT} {a : Nat} {o : Int} (h : isO g 4 a o) : rcv g a RX4 := ⟨h.1, fun cy V => ⟨4, _, TX4, 8, pF_Mod h V, rfl⟩⟩
end
section
def setp (V : VT) (o : Int) (w : Int → Int → Int) : VT := fun o' => if o' = o then w else V o'
def upw (w : Int → Int → Int) (t j v : Int) : Int → Int → Int := fun t' j' => if t' = t ∧ j' = j then v else w t' j'
theorem setp_at (V : VT) (o : Int) (w : Int → Int → Int) : setp V o w o = w := by simp [setp]
theorem setp_ne {V : VT} {o o' : Int} {w : Int → Int → Int} (h : o' ≠ o) : setp V o w o' = V o' := by simp [setp, h]
theorem setp_self (V : VT) (o : Int) : setp V o (V o) = V := by
  funext a
  by_cases h : a = o
  · subst h; simp [setp]
  · simp [setp, h]
theorem setp_setp (V : VT) (o : Int) (w w' : Int → Int → Int) : setp (setp V o w) o w' = setp V o w' := by
  funext a
  by_cases h : a = o <;> simp [setp, h]
theorem up_setp (V : VT) (o : Int) (w : Int → Int → Int) (t j v : Int) : up (setp V o w) o t j v = setp V o (upw w t j v) := by
  funext a b d
  by_cases h : a = o <;> simp [setp, up, upw, h]
theorem upw_at (w : Int → Int → Int) (t j v : Int) : upw w t j v t j = v := by simp [upw]
theorem upw_j {w : Int → Int → Int} {t j v t' j' : Int} (h : j' ≠ j) : upw w t j v t' j' = w t' j' := by simp [upw, h]
theorem upw_t {w : Int → Int → Int} {t j v t' j' : Int} (h : t' ≠ t) : upw w t j v t' j' = w t' j' := by simp [upw, h]
section
variable {p : Program} {l : Launch} {e : Env} {R : Room} {s : State} {m : MethodId} {args : Array Value} {below : List Frame} {meth : Method} {c : Code} {cells slots nL : Nat} {Q : State → Prop}
variable {cc : ByteArray} {own : String} {ret : Option FieldType} {D : va_G} {cy : ClassId × ClassId} {g : GT} {A : Nat → Prop} {H0 : Heap} {V : VT} {pc : Nat} {lv : List (Nat × Value)} {st : List Value} {w : Int → Int → Int}
theorem s_iald (C : Cx p s m args meth c cc nL own ret D cy g A) {a : Nat} {o t i : Int} {n : Nat} (x : Int) (ha : isA g a o t n) (hi : 0 ≤ i ∧ i < n) (hn : n < 2147483648) (hx : w t i = x) (hd : decode cc pc = .ok (.iaload, 1)) (kk : G p l e R s m args below meth c nL cells slots Q D cy g A H0 (setp V o w) (pc + 1) lv (vI x :: st)) : G p l e R s m args below meth c nL cells slots Q D cy g A H0 (setp V o w) pc lv (vI i :: .ref a :: st) :=
  g_iald C ha hi hn hd (by rw [setp_at, hx]; exact kk)
theorem s_iast (C : Cx p s m args meth c cc nL own ret D cy g A) {a : Nat} {o t i v : Int} {n : Nat} (ha : isA g a o t n) (hi : 0 ≤ i ∧ i < n) (hn : n < 2147483648) (hd : decode cc pc = .ok (.iastore, 1)) (kk : G p l e R s m args below meth c nL cells slots Q D cy g A H0 (setp V o (upw w t i v)) (pc + 1) lv st) : G p l e R s m args below meth c nL cells slots Q D cy g A H0 (setp V o w) pc lv (vI v :: vI i :: .ref a :: st) :=
  g_iast C ha hi hn hd (by rw [up_setp]; exact kk)
theorem sf_Log_size (C : Cx p s m args meth c cc nL own ret D cy g A) {index a : Nat} {o : Int} (x : Int) (h : isO g 0 a o) (hx : w 0 3 = x) (hlink : Cond.fieldLink own index "SlotFile$Log" "size" "I" ∈ wsG) (hd : decode cc pc = .ok (.getfield index, 3)) (kk : G p l e R s m args below meth c nL cells slots Q D cy g A H0 (setp V o w) (pc + 3) lv (vI x :: st)) : G p l e R s m args below meth c nL cells slots Q D cy g A H0 (setp V o w) pc lv (.ref a :: st) :=
  gf_Log_size C h hlink hd (by rw [setp_at, hx]; exact kk)
theorem sp_Log_size (C : Cx p s m args meth c cc nL own ret D cy g A) {index a : Nat} {o v : Int} (h : isO g 0 a o) (hlink : Cond.fieldLink own index "SlotFile$Log" "size" "I" ∈ wsG) (hd : decode cc pc = .ok (.putfield index, 3)) (kk : G p l e R s m args below meth c nL cells slots Q D cy g A H0 (setp V o (upw w 0 3 v)) (pc + 3) lv st) : G p l e R s m args below meth c nL cells slots Q D cy g A H0 (setp V o w) pc lv (vI v :: .ref a :: st) :=
  gp_Log_size C h hlink hd (by rw [up_setp]; exact kk)
theorem sfN_Log_size (C : Cx p s m args meth c cc nL own ret D cy g A) {index a : Nat} {o : Int} (x : Int) (h : isO g 0 a o) (hx : w 0 3 = x) (hlink : Cond.fieldLinkNest own index "SlotFile$Log" "size" "I" "SlotFile" ∈ nestL) (hd : decode cc pc = .ok (.getfield index, 3)) (kk : G p l e R s m args below meth c nL cells slots Q D cy g A H0 (setp V o w) (pc + 3) lv (vI x :: st)) : G p l e R s m args below meth c nL cells slots Q D cy g A H0 (setp V o w) pc lv (.ref a :: st) :=
  gfN_Log_size C h hlink hd (by rw [setp_at, hx]; exact kk)
theorem spN_Log_size (C : Cx p s m args meth c cc nL own ret D cy g A) {index a : Nat} {o v : Int} (h : isO g 0 a o) (hlink : Cond.fieldLinkNest own index "SlotFile$Log" "size" "I" "SlotFile" ∈ nestL) (hd : decode cc pc = .ok (.putfield index, 3)) (kk : G p l e R s m args below meth c nL cells slots Q D cy g A H0 (setp V o (upw w 0 3 v)) (pc + 3) lv st) : G p l e R s m args below meth c nL cells slots Q D cy g A H0 (setp V o w) pc lv (vI v :: .ref a :: st) :=
  gpN_Log_size C h hlink hd (by rw [up_setp]; exact kk)
theorem sf_Page_kind (C : Cx p s m args meth c cc nL own ret D cy g A) {index a : Nat} {o : Int} (x : Int) (h : isO g 1 a o) (hx : w 0 0 = x) (hlink : Cond.fieldLink own index "SlotFile$Page" "kind" "I" ∈ wsG) (hd : decode cc pc = .ok (.getfield index, 3)) (kk : G p l e R s m args below meth c nL cells slots Q D cy g A H0 (setp V o w) (pc + 3) lv (vI x :: st)) : G p l e R s m args below meth c nL cells slots Q D cy g A H0 (setp V o w) pc lv (.ref a :: st) :=
  gf_Page_kind C h hlink hd (by rw [setp_at, hx]; exact kk)
theorem sp_Page_kind (C : Cx p s m args meth c cc nL own ret D cy g A) {index a : Nat} {o v : Int} (h : isO g 1 a o) (hlink : Cond.fieldLink own index "SlotFile$Page" "kind" "I" ∈ wsG) (hd : decode cc pc = .ok (.putfield index, 3)) (kk : G p l e R s m args below meth c nL cells slots Q D cy g A H0 (setp V o (upw w 0 0 v)) (pc + 3) lv st) : G p l e R s m args below meth c nL cells slots Q D cy g A H0 (setp V o w) pc lv (vI v :: .ref a :: st) :=
  gp_Page_kind C h hlink hd (by rw [up_setp]; exact kk)
theorem sfN_Page_kind (C : Cx p s m args meth c cc nL own ret D cy g A) {index a : Nat} {o : Int} (x : Int) (h : isO g 1 a o) (hx : w 0 0 = x) (hlink : Cond.fieldLinkNest own index "SlotFile$Page" "kind" "I" "SlotFile" ∈ nestL) (hd : decode cc pc = .ok (.getfield index, 3)) (kk : G p l e R s m args below meth c nL cells slots Q D cy g A H0 (setp V o w) (pc + 3) lv (vI x :: st)) : G p l e R s m args below meth c nL cells slots Q D cy g A H0 (setp V o w) pc lv (.ref a :: st) :=
  gfN_Page_kind C h hlink hd (by rw [setp_at, hx]; exact kk)
theorem spN_Page_kind (C : Cx p s m args meth c cc nL own ret D cy g A) {index a : Nat} {o v : Int} (h : isO g 1 a o) (hlink : Cond.fieldLinkNest own index "SlotFile$Page" "kind" "I" "SlotFile" ∈ nestL) (hd : decode cc pc = .ok (.putfield index, 3)) (kk : G p l e R s m args below meth c nL cells slots Q D cy g A H0 (setp V o (upw w 0 0 v)) (pc + 3) lv st) : G p l e R s m args below meth c nL cells slots Q D cy g A H0 (setp V o w) pc lv (vI v :: .ref a :: st) :=
  gpN_Page_kind C h hlink hd (by rw [up_setp]; exact kk)
theorem sf_Page_slots (C : Cx p s m args meth c cc nL own ret D cy g A) {index a : Nat} {o : Int} (x : Int) (h : isO g 1 a o) (hx : w 0 1 = x) (hlink : Cond.fieldLink own index "SlotFile$Page" "slots" "I" ∈ wsG) (hd : decode cc pc = .ok (.getfield index, 3)) (kk : G p l e R s m args below meth c nL cells slots Q D cy g A H0 (setp V o w) (pc + 3) lv (vI x :: st)) : G p l e R s m args below meth c nL cells slots Q D cy g A H0 (setp V o w) pc lv (.ref a :: st) :=
  gf_Page_slots C h hlink hd (by rw [setp_at, hx]; exact kk)
theorem sp_Page_slots (C : Cx p s m args meth c cc nL own ret D cy g A) {index a : Nat} {o v : Int} (h : isO g 1 a o) (hlink : Cond.fieldLink own index "SlotFile$Page" "slots" "I" ∈ wsG) (hd : decode cc pc = .ok (.putfield index, 3)) (kk : G p l e R s m args below meth c nL cells slots Q D cy g A H0 (setp V o (upw w 0 1 v)) (pc + 3) lv st) : G p l e R s m args below meth c nL cells slots Q D cy g A H0 (setp V o w) pc lv (vI v :: .ref a :: st) :=
  gp_Page_slots C h hlink hd (by rw [up_setp]; exact kk)
theorem sfN_Page_slots (C : Cx p s m args meth c cc nL own ret D cy g A) {index a : Nat} {o : Int} (x : Int) (h : isO g 1 a o) (hx : w 0 1 = x) (hlink : Cond.fieldLinkNest own index "SlotFile$Page" "slots" "I" "SlotFile" ∈ nestL) (hd : decode cc pc = .ok (.getfield index, 3)) (kk : G p l e R s m args below meth c nL cells slots Q D cy g A H0 (setp V o w) (pc + 3) lv (vI x :: st)) : G p l e R s m args below meth c nL cells slots Q D cy g A H0 (setp V o w) pc lv (.ref a :: st) :=
  gfN_Page_slots C h hlink hd (by rw [setp_at, hx]; exact kk)
theorem spN_Page_slots (C : Cx p s m args meth c cc nL own ret D cy g A) {index a : Nat} {o v : Int} (h : isO g 1 a o) (hlink : Cond.fieldLinkNest own index "SlotFile$Page" "slots" "I" "SlotFile" ∈ nestL) (hd : decode cc pc = .ok (.putfield index, 3)) (kk : G p l e R s m args below meth c nL cells slots Q D cy g A H0 (setp V o (upw w 0 1 v)) (pc + 3) lv st) : G p l e R s m args below meth c nL cells slots Q D cy g A H0 (setp V o w) pc lv (vI v :: .ref a :: st) :=
  gpN_Page_slots C h hlink hd (by rw [up_setp]; exact kk)
theorem sf_Page_cells (C : Cx p s m args meth c cc nL own ret D cy g A) {index a : Nat} {o : Int} (x : Int) (h : isO g 1 a o) (hx : w 0 2 = x) (hlink : Cond.fieldLink own index "SlotFile$Page" "cells" "I" ∈ wsG) (hd : decode cc pc = .ok (.getfield index, 3)) (kk : G p l e R s m args below meth c nL cells slots Q D cy g A H0 (setp V o w) (pc + 3) lv (vI x :: st)) : G p l e R s m args below meth c nL cells slots Q D cy g A H0 (setp V o w) pc lv (.ref a :: st) :=
  gf_Page_cells C h hlink hd (by rw [setp_at, hx]; exact kk)
theorem sp_Page_cells (C : Cx p s m args meth c cc nL own ret D cy g A) {index a : Nat} {o v : Int} (h : isO g 1 a o) (hlink : Cond.fieldLink own index "SlotFile$Page" "cells" "I" ∈ wsG) (hd : decode cc pc = .ok (.putfield index, 3)) (kk : G p l e R s m args below meth c nL cells slots Q D cy g A H0 (setp V o (upw w 0 2 v)) (pc + 3) lv st) : G p l e R s m args below meth c nL cells slots Q D cy g A H0 (setp V o w) pc lv (vI v :: .ref a :: st) :=
  gp_Page_cells C h hlink hd (by rw [up_setp]; exact kk)
theorem sfN_Page_cells (C : Cx p s m args meth c cc nL own ret D cy g A) {index a : Nat} {o : Int} (x : Int) (h : isO g 1 a o) (hx : w 0 2 = x) (hlink : Cond.fieldLinkNest own index "SlotFile$Page" "cells" "I" "SlotFile" ∈ nestL) (hd : decode cc pc = .ok (.getfield index, 3)) (kk : G p l e R s m args below meth c nL cells slots Q D cy g A H0 (setp V o w) (pc + 3) lv (vI x :: st)) : G p l e R s m args below meth c nL cells slots Q D cy g A H0 (setp V o w) pc lv (.ref a :: st) :=
  gfN_Page_cells C h hlink hd (by rw [setp_at, hx]; exact kk)
theorem spN_Page_cells (C : Cx p s m args meth c cc nL own ret D cy g A) {index a : Nat} {o v : Int} (h : isO g 1 a o) (hlink : Cond.fieldLinkNest own index "SlotFile$Page" "cells" "I" "SlotFile" ∈ nestL) (hd : decode cc pc = .ok (.putfield index, 3)) (kk : G p l e R s m args below meth c nL cells slots Q D cy g A H0 (setp V o (upw w 0 2 v)) (pc + 3) lv st) : G p l e R s m args below meth c nL cells slots Q D cy g A H0 (setp V o w) pc lv (vI v :: .ref a :: st) :=
  gpN_Page_cells C h hlink hd (by rw [up_setp]; exact kk)
theorem sf_Page_stubs (C : Cx p s m args meth c cc nL own ret D cy g A) {index a : Nat} {o : Int} (x : Int) (h : isO g 1 a o) (hx : w 0 3 = x) (hlink : Cond.fieldLink own index "SlotFile$Page" "stubs" "I" ∈ wsG) (hd : decode cc pc = .ok (.getfield index, 3)) (kk : G p l e R s m args below meth c nL cells slots Q D cy g A H0 (setp V o w) (pc + 3) lv (vI x :: st)) : G p l e R s m args below meth c nL cells slots Q D cy g A H0 (setp V o w) pc lv (.ref a :: st) :=
  gf_Page_stubs C h hlink hd (by rw [setp_at, hx]; exact kk)
theorem sp_Page_stubs (C : Cx p s m args meth c cc nL own ret D cy g A) {index a : Nat} {o v : Int} (h : isO g 1 a o) (hlink : Cond.fieldLink own index "SlotFile$Page" "stubs" "I" ∈ wsG) (hd : decode cc pc = .ok (.putfield index, 3)) (kk : G p l e R s m args below meth c nL cells slots Q D cy g A H0 (setp V o (upw w 0 3 v)) (pc + 3) lv st) : G p l e R s m args below meth c nL cells slots Q D cy g A H0 (setp V o w) pc lv (vI v :: .ref a :: st) :=
  gp_Page_stubs C h hlink hd (by rw [up_setp]; exact kk)
theorem sfN_Page_stubs (C : Cx p s m args meth c cc nL own ret D cy g A) {index a : Nat} {o : Int} (x : Int) (h : isO g 1 a o) (hx : w 0 3 = x) (hlink : Cond.fieldLinkNest own index "SlotFile$Page" "stubs" "I" "SlotFile" ∈ nestL) (hd : decode cc pc = .ok (.getfield index, 3)) (kk : G p l e R s m args below meth c nL cells slots Q D cy g A H0 (setp V o w) (pc + 3) lv (vI x :: st)) : G p l e R s m args below meth c nL cells slots Q D cy g A H0 (setp V o w) pc lv (.ref a :: st) :=
  gfN_Page_stubs C h hlink hd (by rw [setp_at, hx]; exact kk)
theorem spN_Page_stubs (C : Cx p s m args meth c cc nL own ret D cy g A) {index a : Nat} {o v : Int} (h : isO g 1 a o) (hlink : Cond.fieldLinkNest own index "SlotFile$Page" "stubs" "I" "SlotFile" ∈ nestL) (hd : decode cc pc = .ok (.putfield index, 3)) (kk : G p l e R s m args below meth c nL cells slots Q D cy g A H0 (setp V o (upw w 0 3 v)) (pc + 3) lv st) : G p l e R s m args below meth c nL cells slots Q D cy g A H0 (setp V o w) pc lv (vI v :: .ref a :: st) :=
  gpN_Page_stubs C h hlink hd (by rw [up_setp]; exact kk)
theorem sf_Page_used (C : Cx p s m args meth c cc nL own ret D cy g A) {index a : Nat} {o : Int} (x : Int) (h : isO g 1 a o) (hx : w 0 4 = x) (hlink : Cond.fieldLink own index "SlotFile$Page" "used" "I" ∈ wsG) (hd : decode cc pc = .ok (.getfield index, 3)) (kk : G p l e R s m args below meth c nL cells slots Q D cy g A H0 (setp V o w) (pc + 3) lv (vI x :: st)) : G p l e R s m args below meth c nL cells slots Q D cy g A H0 (setp V o w) pc lv (.ref a :: st) :=
  gf_Page_used C h hlink hd (by rw [setp_at, hx]; exact kk)
theorem sp_Page_used (C : Cx p s m args meth c cc nL own ret D cy g A) {index a : Nat} {o v : Int} (h : isO g 1 a o) (hlink : Cond.fieldLink own index "SlotFile$Page" "used" "I" ∈ wsG) (hd : decode cc pc = .ok (.putfield index, 3)) (kk : G p l e R s m args below meth c nL cells slots Q D cy g A H0 (setp V o (upw w 0 4 v)) (pc + 3) lv st) : G p l e R s m args below meth c nL cells slots Q D cy g A H0 (setp V o w) pc lv (vI v :: .ref a :: st) :=
  gp_Page_used C h hlink hd (by rw [up_setp]; exact kk)
theorem sfN_Page_used (C : Cx p s m args meth c cc nL own ret D cy g A) {index a : Nat} {o : Int} (x : Int) (h : isO g 1 a o) (hx : w 0 4 = x) (hlink : Cond.fieldLinkNest own index "SlotFile$Page" "used" "I" "SlotFile" ∈ nestL) (hd : decode cc pc = .ok (.getfield index, 3)) (kk : G p l e R s m args below meth c nL cells slots Q D cy g A H0 (setp V o w) (pc + 3) lv (vI x :: st)) : G p l e R s m args below meth c nL cells slots Q D cy g A H0 (setp V o w) pc lv (.ref a :: st) :=
  gfN_Page_used C h hlink hd (by rw [setp_at, hx]; exact kk)
theorem spN_Page_used (C : Cx p s m args meth c cc nL own ret D cy g A) {index a : Nat} {o v : Int} (h : isO g 1 a o) (hlink : Cond.fieldLinkNest own index "SlotFile$Page" "used" "I" "SlotFile" ∈ nestL) (hd : decode cc pc = .ok (.putfield index, 3)) (kk : G p l e R s m args below meth c nL cells slots Q D cy g A H0 (setp V o (upw w 0 4 v)) (pc + 3) lv st) : G p l e R s m args below meth c nL cells slots Q D cy g A H0 (setp V o w) pc lv (vI v :: .ref a :: st) :=
  gpN_Page_used C h hlink hd (by rw [up_setp]; exact kk)
theorem sf_Page_end (C : Cx p s m args meth c cc nL own ret D cy g A) {index a : Nat} {o : Int} (x : Int) (h : isO g 1 a o) (hx : w 0 5 = x) (hlink : Cond.fieldLink own index "SlotFile$Page" "end" "I" ∈ wsG) (hd : decode cc pc = .ok (.getfield index, 3)) (kk : G p l e R s m args below meth c nL cells slots Q D cy g A H0 (setp V o w) (pc + 3) lv (vI x :: st)) : G p l e R s m args below meth c nL cells slots Q D cy g A H0 (setp V o w) pc lv (.ref a :: st) :=
  gf_Page_end C h hlink hd (by rw [setp_at, hx]; exact kk)
theorem sp_Page_end (C : Cx p s m args meth c cc nL own ret D cy g A) {index a : Nat} {o v : Int} (h : isO g 1 a o) (hlink : Cond.fieldLink own index "SlotFile$Page" "end" "I" ∈ wsG) (hd : decode cc pc = .ok (.putfield index, 3)) (kk : G p l e R s m args below meth c nL cells slots Q D cy g A H0 (setp V o (upw w 0 5 v)) (pc + 3) lv st) : G p l e R s m args below meth c nL cells slots Q D cy g A H0 (setp V o w) pc lv (vI v :: .ref a :: st) :=
  gp_Page_end C h hlink hd (by rw [up_setp]; exact kk)
theorem sfN_Page_end (C : Cx p s m args meth c cc nL own ret D cy g A) {index a : Nat} {o : Int} (x : Int) (h : isO g 1 a o) (hx : w 0 5 = x) (hlink : Cond.fieldLinkNest own index "SlotFile$Page" "end" "I" "SlotFile" ∈ nestL) (hd : decode cc pc = .ok (.getfield index, 3)) (kk : G p l e R s m args below meth c nL cells slots Q D cy g A H0 (setp V o w) (pc + 3) lv (vI x :: st)) : G p l e R s m args below meth c nL cells slots Q D cy g A H0 (setp V o w) pc lv (.ref a :: st) :=
  gfN_Page_end C h hlink hd (by rw [setp_at, hx]; exact kk)
theorem spN_Page_end (C : Cx p s m args meth c cc nL own ret D cy g A) {index a : Nat} {o v : Int} (h : isO g 1 a o) (hlink : Cond.fieldLinkNest own index "SlotFile$Page" "end" "I" "SlotFile" ∈ nestL) (hd : decode cc pc = .ok (.putfield index, 3)) (kk : G p l e R s m args below meth c nL cells slots Q D cy g A H0 (setp V o (upw w 0 5 v)) (pc + 3) lv st) : G p l e R s m args below meth c nL cells slots Q D cy g A H0 (setp V o w) pc lv (vI v :: .ref a :: st) :=
  gpN_Page_end C h hlink hd (by rw [up_setp]; exact kk)
theorem sf_Page_chainNext (C : Cx p s m args meth c cc nL own ret D cy g A) {index a : Nat} {o : Int} (x : Int) (h : isO g 1 a o) (hx : w 0 6 = x) (hlink : Cond.fieldLink own index "SlotFile$Page" "chainNext" "I" ∈ wsG) (hd : decode cc pc = .ok (.getfield index, 3)) (kk : G p l e R s m args below meth c nL cells slots Q D cy g A H0 (setp V o w) (pc + 3) lv (vI x :: st)) : G p l e R s m args below meth c nL cells slots Q D cy g A H0 (setp V o w) pc lv (.ref a :: st) :=
  gf_Page_chainNext C h hlink hd (by rw [setp_at, hx]; exact kk)
theorem sp_Page_chainNext (C : Cx p s m args meth c cc nL own ret D cy g A) {index a : Nat} {o v : Int} (h : isO g 1 a o) (hlink : Cond.fieldLink own index "SlotFile$Page" "chainNext" "I" ∈ wsG) (hd : decode cc pc = .ok (.putfield index, 3)) (kk : G p l e R s m args below meth c nL cells slots Q D cy g A H0 (setp V o (upw w 0 6 v)) (pc + 3) lv st) : G p l e R s m args below meth c nL cells slots Q D cy g A H0 (setp V o w) pc lv (vI v :: .ref a :: st) :=
  gp_Page_chainNext C h hlink hd (by rw [up_setp]; exact kk)
theorem sfN_Page_chainNext (C : Cx p s m args meth c cc nL own ret D cy g A) {index a : Nat} {o : Int} (x : Int) (h : isO g 1 a o) (hx : w 0 6 = x) (hlink : Cond.fieldLinkNest own index "SlotFile$Page" "chainNext" "I" "SlotFile" ∈ nestL) (hd : decode cc pc = .ok (.getfield index, 3)) (kk : G p l e R s m args below meth c nL cells slots Q D cy g A H0 (setp V o w) (pc + 3) lv (vI x :: st)) : G p l e R s m args below meth c nL cells slots Q D cy g A H0 (setp V o w) pc lv (.ref a :: st) :=
  gfN_Page_chainNext C h hlink hd (by rw [setp_at, hx]; exact kk)
theorem spN_Page_chainNext (C : Cx p s m args meth c cc nL own ret D cy g A) {index a : Nat} {o v : Int} (h : isO g 1 a o) (hlink : Cond.fieldLinkNest own index "SlotFile$Page" "chainNext" "I" "SlotFile" ∈ nestL) (hd : decode cc pc = .ok (.putfield index, 3)) (kk : G p l e R s m args below meth c nL cells slots Q D cy g A H0 (setp V o (upw w 0 6 v)) (pc + 3) lv st) : G p l e R s m args below meth c nL cells slots Q D cy g A H0 (setp V o w) pc lv (vI v :: .ref a :: st) :=
  gpN_Page_chainNext C h hlink hd (by rw [up_setp]; exact kk)
theorem sf_Page_chainBytes (C : Cx p s m args meth c cc nL own ret D cy g A) {index a : Nat} {o : Int} (x : Int) (h : isO g 1 a o) (hx : w 0 7 = x) (hlink : Cond.fieldLink own index "SlotFile$Page" "chainBytes" "I" ∈ wsG) (hd : decode cc pc = .ok (.getfield index, 3)) (kk : G p l e R s m args below meth c nL cells slots Q D cy g A H0 (setp V o w) (pc + 3) lv (vI x :: st)) : G p l e R s m args below meth c nL cells slots Q D cy g A H0 (setp V o w) pc lv (.ref a :: st) :=
  gf_Page_chainBytes C h hlink hd (by rw [setp_at, hx]; exact kk)
theorem sp_Page_chainBytes (C : Cx p s m args meth c cc nL own ret D cy g A) {index a : Nat} {o v : Int} (h : isO g 1 a o) (hlink : Cond.fieldLink own index "SlotFile$Page" "chainBytes" "I" ∈ wsG) (hd : decode cc pc = .ok (.putfield index, 3)) (kk : G p l e R s m args below meth c nL cells slots Q D cy g A H0 (setp V o (upw w 0 7 v)) (pc + 3) lv st) : G p l e R s m args below meth c nL cells slots Q D cy g A H0 (setp V o w) pc lv (vI v :: .ref a :: st) :=
  gp_Page_chainBytes C h hlink hd (by rw [up_setp]; exact kk)
theorem sfN_Page_chainBytes (C : Cx p s m args meth c cc nL own ret D cy g A) {index a : Nat} {o : Int} (x : Int) (h : isO g 1 a o) (hx : w 0 7 = x) (hlink : Cond.fieldLinkNest own index "SlotFile$Page" "chainBytes" "I" "SlotFile" ∈ nestL) (hd : decode cc pc = .ok (.getfield index, 3)) (kk : G p l e R s m args below meth c nL cells slots Q D cy g A H0 (setp V o w) (pc + 3) lv (vI x :: st)) : G p l e R s m args below meth c nL cells slots Q D cy g A H0 (setp V o w) pc lv (.ref a :: st) :=
  gfN_Page_chainBytes C h hlink hd (by rw [setp_at, hx]; exact kk)
theorem spN_Page_chainBytes (C : Cx p s m args meth c cc nL own ret D cy g A) {index a : Nat} {o v : Int} (h : isO g 1 a o) (hlink : Cond.fieldLinkNest own index "SlotFile$Page" "chainBytes" "I" "SlotFile" ∈ nestL) (hd : decode cc pc = .ok (.putfield index, 3)) (kk : G p l e R s m args below meth c nL cells slots Q D cy g A H0 (setp V o (upw w 0 7 v)) (pc + 3) lv st) : G p l e R s m args below meth c nL cells slots Q D cy g A H0 (setp V o w) pc lv (vI v :: .ref a :: st) :=
  gpN_Page_chainBytes C h hlink hd (by rw [up_setp]; exact kk)
theorem sf_Page_compactings (C : Cx p s m args meth c cc nL own ret D cy g A) {index a : Nat} {o : Int} (x : Int) (h : isO g 1 a o) (hx : w 0 8 = x) (hlink : Cond.fieldLink own index "SlotFile$Page" "compactings" "I" ∈ wsG) (hd : decode cc pc = .ok (.getfield index, 3)) (kk : G p l e R s m args below meth c nL cells slots Q D cy g A H0 (setp V o w) (pc + 3) lv (vI x :: st)) : G p l e R s m args below meth c nL cells slots Q D cy g A H0 (setp V o w) pc lv (.ref a :: st) :=
  gf_Page_compactings C h hlink hd (by rw [setp_at, hx]; exact kk)
theorem sp_Page_compactings (C : Cx p s m args meth c cc nL own ret D cy g A) {index a : Nat} {o v : Int} (h : isO g 1 a o) (hlink : Cond.fieldLink own index "SlotFile$Page" "compactings" "I" ∈ wsG) (hd : decode cc pc = .ok (.putfield index, 3)) (kk : G p l e R s m args below meth c nL cells slots Q D cy g A H0 (setp V o (upw w 0 8 v)) (pc + 3) lv st) : G p l e R s m args below meth c nL cells slots Q D cy g A H0 (setp V o w) pc lv (vI v :: .ref a :: st) :=
  gp_Page_compactings C h hlink hd (by rw [up_setp]; exact kk)
theorem sfN_Page_compactings (C : Cx p s m args meth c cc nL own ret D cy g A) {index a : Nat} {o : Int} (x : Int) (h : isO g 1 a o) (hx : w 0 8 = x) (hlink : Cond.fieldLinkNest own index "SlotFile$Page" "compactings" "I" "SlotFile" ∈ nestL) (hd : decode cc pc = .ok (.getfield index, 3)) (kk : G p l e R s m args below meth c nL cells slots Q D cy g A H0 (setp V o w) (pc + 3) lv (vI x :: st)) : G p l e R s m args below meth c nL cells slots Q D cy g A H0 (setp V o w) pc lv (.ref a :: st) :=
  gfN_Page_compactings C h hlink hd (by rw [setp_at, hx]; exact kk)
theorem spN_Page_compactings (C : Cx p s m args meth c cc nL own ret D cy g A) {index a : Nat} {o v : Int} (h : isO g 1 a o) (hlink : Cond.fieldLinkNest own index "SlotFile$Page" "compactings" "I" "SlotFile" ∈ nestL) (hd : decode cc pc = .ok (.putfield index, 3)) (kk : G p l e R s m args below meth c nL cells slots Q D cy g A H0 (setp V o (upw w 0 8 v)) (pc + 3) lv st) : G p l e R s m args below meth c nL cells slots Q D cy g A H0 (setp V o w) pc lv (vI v :: .ref a :: st) :=
  gpN_Page_compactings C h hlink hd (by rw [up_setp]; exact kk)
theorem sf_Sf_crashes (C : Cx p s m args meth c cc nL own ret D cy g A) {index a : Nat} {o : Int} (x : Int) (h : isO g 3 a o) (hx : w 0 3 = x) (hlink : Cond.fieldLink own index "SlotFile" "crashes" "I" ∈ wsG) (hd : decode cc pc = .ok (.getfield index, 3)) (kk : G p l e R s m args below meth c nL cells slots Q D cy g A H0 (setp V o w) (pc + 3) lv (vI x :: st)) : G p l e R s m args below meth c nL cells slots Q D cy g A H0 (setp V o w) pc lv (.ref a :: st) :=
  gf_Sf_crashes C h hlink hd (by rw [setp_at, hx]; exact kk)
theorem sp_Sf_crashes (C : Cx p s m args meth c cc nL own ret D cy g A) {index a : Nat} {o v : Int} (h : isO g 3 a o) (hlink : Cond.fieldLink own index "SlotFile" "crashes" "I" ∈ wsG) (hd : decode cc pc = .ok (.putfield index, 3)) (kk : G p l e R s m args below meth c nL cells slots Q D cy g A H0 (setp V o (upw w 0 3 v)) (pc + 3) lv st) : G p l e R s m args below meth c nL cells slots Q D cy g A H0 (setp V o w) pc lv (vI v :: .ref a :: st) :=
  gp_Sf_crashes C h hlink hd (by rw [up_setp]; exact kk)
theorem sfN_Sf_crashes (C : Cx p s m args meth c cc nL own ret D cy g A) {index a : Nat} {o : Int} (x : Int) (h : isO g 3 a o) (hx : w 0 3 = x) (hlink : Cond.fieldLinkNest own index "SlotFile" "crashes" "I" "SlotFile" ∈ nestL) (hd : decode cc pc = .ok (.getfield index, 3)) (kk : G p l e R s m args below meth c nL cells slots Q D cy g A H0 (setp V o w) (pc + 3) lv (vI x :: st)) : G p l e R s m args below meth c nL cells slots Q D cy g A H0 (setp V o w) pc lv (.ref a :: st) :=
  gfN_Sf_crashes C h hlink hd (by rw [setp_at, hx]; exact kk)
theorem spN_Sf_crashes (C : Cx p s m args meth c cc nL own ret D cy g A) {index a : Nat} {o v : Int} (h : isO g 3 a o) (hlink : Cond.fieldLinkNest own index "SlotFile" "crashes" "I" "SlotFile" ∈ nestL) (hd : decode cc pc = .ok (.putfield index, 3)) (kk : G p l e R s m args below meth c nL cells slots Q D cy g A H0 (setp V o (upw w 0 3 v)) (pc + 3) lv st) : G p l e R s m args below meth c nL cells slots Q D cy g A H0 (setp V o w) pc lv (vI v :: .ref a :: st) :=
  gpN_Sf_crashes C h hlink hd (by rw [up_setp]; exact kk)
theorem sf_Mod_changeCount (C : Cx p s m args meth c cc nL own ret D cy g A) {index a : Nat} {o : Int} (x : Int) (h : isO g 4 a o) (hx : w 0 3 = x) (hlink : Cond.fieldLink own index "SlotFileModel" "changeCount" "I" ∈ wsG) (hd : decode cc pc = .ok (.getfield index, 3)) (kk : G p l e R s m args below meth c nL cells slots Q D cy g A H0 (setp V o w) (pc + 3) lv (vI x :: st)) : G p l e R s m args below meth c nL cells slots Q D cy g A H0 (setp V o w) pc lv (.ref a :: st) :=
  gf_Mod_changeCount C h hlink hd (by rw [setp_at, hx]; exact kk)
theorem sp_Mod_changeCount (C : Cx p s m args meth c cc nL own ret D cy g A) {index a : Nat} {o v : Int} (h : isO g 4 a o) (hlink : Cond.fieldLink own index "SlotFileModel" "changeCount" "I" ∈ wsG) (hd : decode cc pc = .ok (.putfield index, 3)) (kk : G p l e R s m args below meth c nL cells slots Q D cy g A H0 (setp V o (upw w 0 3 v)) (pc + 3) lv st) : G p l e R s m args below meth c nL cells slots Q D cy g A H0 (setp V o w) pc lv (vI v :: .ref a :: st) :=
  gp_Mod_changeCount C h hlink hd (by rw [up_setp]; exact kk)
theorem sfN_Mod_changeCount (C : Cx p s m args meth c cc nL own ret D cy g A) {index a : Nat} {o : Int} (x : Int) (h : isO g 4 a o) (hx : w 0 3 = x) (hlink : Cond.fieldLinkNest own index "SlotFileModel" "changeCount" "I" "SlotFile" ∈ nestL) (hd : decode cc pc = .ok (.getfield index, 3)) (kk : G p l e R s m args below meth c nL cells slots Q D cy g A H0 (setp V o w) (pc + 3) lv (vI x :: st)) : G p l e R s m args below meth c nL cells slots Q D cy g A H0 (setp V o w) pc lv (.ref a :: st) :=
  gfN_Mod_changeCount C h hlink hd (by rw [setp_at, hx]; exact kk)
theorem spN_Mod_changeCount (C : Cx p s m args meth c cc nL own ret D cy g A) {index a : Nat} {o v : Int} (h : isO g 4 a o) (hlink : Cond.fieldLinkNest own index "SlotFileModel" "changeCount" "I" "SlotFile" ∈ nestL) (hd : decode cc pc = .ok (.putfield index, 3)) (kk : G p l e R s m args below meth c nL cells slots Q D cy g A H0 (setp V o (upw w 0 3 v)) (pc + 3) lv st) : G p l e R s m args below meth c nL cells slots Q D cy g A H0 (setp V o w) pc lv (vI v :: .ref a :: st) :=
  gpN_Mod_changeCount C h hlink hd (by rw [up_setp]; exact kk)
theorem sf_Mod_compacted (C : Cx p s m args meth c cc nL own ret D cy g A) {index a : Nat} {o : Int} (x : Int) (h : isO g 4 a o) (hx : w 0 4 = x) (hlink : Cond.fieldLink own index "SlotFileModel" "compacted" "I" ∈ wsG) (hd : decode cc pc = .ok (.getfield index, 3)) (kk : G p l e R s m args below meth c nL cells slots Q D cy g A H0 (setp V o w) (pc + 3) lv (vI x :: st)) : G p l e R s m args below meth c nL cells slots Q D cy g A H0 (setp V o w) pc lv (.ref a :: st) :=
  gf_Mod_compacted C h hlink hd (by rw [setp_at, hx]; exact kk)
theorem sp_Mod_compacted (C : Cx p s m args meth c cc nL own ret D cy g A) {index a : Nat} {o v : Int} (h : isO g 4 a o) (hlink : Cond.fieldLink own index "SlotFileModel" "compacted" "I" ∈ wsG) (hd : decode cc pc = .ok (.putfield index, 3)) (kk : G p l e R s m args below meth c nL cells slots Q D cy g A H0 (setp V o (upw w 0 4 v)) (pc + 3) lv st) : G p l e R s m args below meth c nL cells slots Q D cy g A H0 (setp V o w) pc lv (vI v :: .ref a :: st) :=
  gp_Mod_compacted C h hlink hd (by rw [up_setp]; exact kk)
theorem sfN_Mod_compacted (C : Cx p s m args meth c cc nL own ret D cy g A) {index a : Nat} {o : Int} (x : Int) (h : isO g 4 a o) (hx : w 0 4 = x) (hlink : Cond.fieldLinkNest own index "SlotFileModel" "compacted" "I" "SlotFile" ∈ nestL) (hd : decode cc pc = .ok (.getfield index, 3)) (kk : G p l e R s m args below meth c nL cells slots Q D cy g A H0 (setp V o w) (pc + 3) lv (vI x :: st)) : G p l e R s m args below meth c nL cells slots Q D cy g A H0 (setp V o w) pc lv (.ref a :: st) :=
  gfN_Mod_compacted C h hlink hd (by rw [setp_at, hx]; exact kk)
theorem spN_Mod_compacted (C : Cx p s m args meth c cc nL own ret D cy g A) {index a : Nat} {o v : Int} (h : isO g 4 a o) (hlink : Cond.fieldLinkNest own index "SlotFileModel" "compacted" "I" "SlotFile" ∈ nestL) (hd : decode cc pc = .ok (.putfield index, 3)) (kk : G p l e R s m args below meth c nL cells slots Q D cy g A H0 (setp V o (upw w 0 4 v)) (pc + 3) lv st) : G p l e R s m args below meth c nL cells slots Q D cy g A H0 (setp V o w) pc lv (vI v :: .ref a :: st) :=
  gpN_Mod_compacted C h hlink hd (by rw [up_setp]; exact kk)
theorem sf_Mod_crashes (C : Cx p s m args meth c cc nL own ret D cy g A) {index a : Nat} {o : Int} (x : Int) (h : isO g 4 a o) (hx : w 0 5 = x) (hlink : Cond.fieldLink own index "SlotFileModel" "crashes" "I" ∈ wsG) (hd : decode cc pc = .ok (.getfield index, 3)) (kk : G p l e R s m args below meth c nL cells slots Q D cy g A H0 (setp V o w) (pc + 3) lv (vI x :: st)) : G p l e R s m args below meth c nL cells slots Q D cy g A H0 (setp V o w) pc lv (.ref a :: st) :=
  gf_Mod_crashes C h hlink hd (by rw [setp_at, hx]; exact kk)
theorem sp_Mod_crashes (C : Cx p s m args meth c cc nL own ret D cy g A) {index a : Nat} {o v : Int} (h : isO g 4 a o) (hlink : Cond.fieldLink own index "SlotFileModel" "crashes" "I" ∈ wsG) (hd : decode cc pc = .ok (.putfield index, 3)) (kk : G p l e R s m args below meth c nL cells slots Q D cy g A H0 (setp V o (upw w 0 5 v)) (pc + 3) lv st) : G p l e R s m args below meth c nL cells slots Q D cy g A H0 (setp V o w) pc lv (vI v :: .ref a :: st) :=
  gp_Mod_crashes C h hlink hd (by rw [up_setp]; exact kk)
theorem sfN_Mod_crashes (C : Cx p s m args meth c cc nL own ret D cy g A) {index a : Nat} {o : Int} (x : Int) (h : isO g 4 a o) (hx : w 0 5 = x) (hlink : Cond.fieldLinkNest own index "SlotFileModel" "crashes" "I" "SlotFile" ∈ nestL) (hd : decode cc pc = .ok (.getfield index, 3)) (kk : G p l e R s m args below meth c nL cells slots Q D cy g A H0 (setp V o w) (pc + 3) lv (vI x :: st)) : G p l e R s m args below meth c nL cells slots Q D cy g A H0 (setp V o w) pc lv (.ref a :: st) :=
  gfN_Mod_crashes C h hlink hd (by rw [setp_at, hx]; exact kk)
theorem spN_Mod_crashes (C : Cx p s m args meth c cc nL own ret D cy g A) {index a : Nat} {o v : Int} (h : isO g 4 a o) (hlink : Cond.fieldLinkNest own index "SlotFileModel" "crashes" "I" "SlotFile" ∈ nestL) (hd : decode cc pc = .ok (.putfield index, 3)) (kk : G p l e R s m args below meth c nL cells slots Q D cy g A H0 (setp V o (upw w 0 5 v)) (pc + 3) lv st) : G p l e R s m args below meth c nL cells slots Q D cy g A H0 (setp V o w) pc lv (vI v :: .ref a :: st) :=
  gpN_Mod_crashes C h hlink hd (by rw [up_setp]; exact kk)
theorem sf_Mod_again (C : Cx p s m args meth c cc nL own ret D cy g A) {index a : Nat} {o : Int} (x : Int) (h : isO g 4 a o) (hx : w 0 6 = x) (hlink : Cond.fieldLink own index "SlotFileModel" "again" "Z" ∈ wsG) (hd : decode cc pc = .ok (.getfield index, 3)) (kk : G p l e R s m args below meth c nL cells slots Q D cy g A H0 (setp V o w) (pc + 3) lv (vI x :: st)) : G p l e R s m args below meth c nL cells slots Q D cy g A H0 (setp V o w) pc lv (.ref a :: st) :=
  gf_Mod_again C h hlink hd (by rw [setp_at, hx]; exact kk)
theorem sp_Mod_again (C : Cx p s m args meth c cc nL own ret D cy g A) {index a : Nat} {o v : Int} (h : isO g 4 a o) (hz : v = 0 ∨ v = 1) (hlink : Cond.fieldLink own index "SlotFileModel" "again" "Z" ∈ wsG) (hd : decode cc pc = .ok (.putfield index, 3)) (kk : G p l e R s m args below meth c nL cells slots Q D cy g A H0 (setp V o (upw w 0 6 v)) (pc + 3) lv st) : G p l e R s m args below meth c nL cells slots Q D cy g A H0 (setp V o w) pc lv (vI v :: .ref a :: st) :=
  gp_Mod_again C h hz hlink hd (by rw [up_setp]; exact kk)
theorem sfN_Mod_again (C : Cx p s m args meth c cc nL own ret D cy g A) {index a : Nat} {o : Int} (x : Int) (h : isO g 4 a o) (hx : w 0 6 = x) (hlink : Cond.fieldLinkNest own index "SlotFileModel" "again" "Z" "SlotFile" ∈ nestL) (hd : decode cc pc = .ok (.getfield index, 3)) (kk : G p l e R s m args below meth c nL cells slots Q D cy g A H0 (setp V o w) (pc + 3) lv (vI x :: st)) : G p l e R s m args below meth c nL cells slots Q D cy g A H0 (setp V o w) pc lv (.ref a :: st) :=
  gfN_Mod_again C h hlink hd (by rw [setp_at, hx]; exact kk)
theorem spN_Mod_again (C : Cx p s m args meth c cc nL own ret D cy g A) {index a : Nat} {o v : Int} (h : isO g 4 a o) (hz : v = 0 ∨ v = 1) (hlink : Cond.fieldLinkNest own index "SlotFileModel" "again" "Z" "SlotFile" ∈ nestL) (hd : decode cc pc = .ok (.putfield index, 3)) (kk : G p l e R s m args below meth c nL cells slots Q D cy g A H0 (setp V o (upw w 0 6 v)) (pc + 3) lv st) : G p l e R s m args below meth c nL cells slots Q D cy g A H0 (setp V o w) pc lv (vI v :: .ref a :: st) :=
  gpN_Mod_again C h hz hlink hd (by rw [up_setp]; exact kk)
theorem sf_Mod_thrown (C : Cx p s m args meth c cc nL own ret D cy g A) {index a : Nat} {o : Int} (x : Int) (h : isO g 4 a o) (hx : w 0 7 = x) (hlink : Cond.fieldLink own index "SlotFileModel" "thrown" "I" ∈ wsG) (hd : decode cc pc = .ok (.getfield index, 3)) (kk : G p l e R s m args below meth c nL cells slots Q D cy g A H0 (setp V o w) (pc + 3) lv (vI x :: st)) : G p l e R s m args below meth c nL cells slots Q D cy g A H0 (setp V o w) pc lv (.ref a :: st) :=
  gf_Mod_thrown C h hlink hd (by rw [setp_at, hx]; exact kk)
theorem sp_Mod_thrown (C : Cx p s m args meth c cc nL own ret D cy g A) {index a : Nat} {o v : Int} (h : isO g 4 a o) (hlink : Cond.fieldLink own index "SlotFileModel" "thrown" "I" ∈ wsG) (hd : decode cc pc = .ok (.putfield index, 3)) (kk : G p l e R s m args below meth c nL cells slots Q D cy g A H0 (setp V o (upw w 0 7 v)) (pc + 3) lv st) : G p l e R s m args below meth c nL cells slots Q D cy g A H0 (setp V o w) pc lv (vI v :: .ref a :: st) :=
  gp_Mod_thrown C h hlink hd (by rw [up_setp]; exact kk)
theorem sfN_Mod_thrown (C : Cx p s m args meth c cc nL own ret D cy g A) {index a : Nat} {o : Int} (x : Int) (h : isO g 4 a o) (hx : w 0 7 = x) (hlink : Cond.fieldLinkNest own index "SlotFileModel" "thrown" "I" "SlotFile" ∈ nestL) (hd : decode cc pc = .ok (.getfield index, 3)) (kk : G p l e R s m args below meth c nL cells slots Q D cy g A H0 (setp V o w) (pc + 3) lv (vI x :: st)) : G p l e R s m args below meth c nL cells slots Q D cy g A H0 (setp V o w) pc lv (.ref a :: st) :=
  gfN_Mod_thrown C h hlink hd (by rw [setp_at, hx]; exact kk)
theorem spN_Mod_thrown (C : Cx p s m args meth c cc nL own ret D cy g A) {index a : Nat} {o v : Int} (h : isO g 4 a o) (hlink : Cond.fieldLinkNest own index "SlotFileModel" "thrown" "I" "SlotFile" ∈ nestL) (hd : decode cc pc = .ok (.putfield index, 3)) (kk : G p l e R s m args below meth c nL cells slots Q D cy g A H0 (setp V o (upw w 0 7 v)) (pc + 3) lv st) : G p l e R s m args below meth c nL cells slots Q D cy g A H0 (setp V o w) pc lv (vI v :: .ref a :: st) :=
  gpN_Mod_thrown C h hlink hd (by rw [up_setp]; exact kk)
end
end
section
def agree (g : GT) (V V' : VT) : Prop := ∀ a ∈ gL g, (gK g a ≠ 5 → ∀ j, V (gO g a) (gT g a) j = V' (gO g a) (gT g a) j) ∧ (gK g a = 5 → ∀ k : Nat, k < gN g a → V (gO g a) (gT g a) k = V' (gO g a) (gT g a) k)
theorem agree_P {D : va_G} {cy : ClassId × ClassId} {g : GT} {V V' : VT} {H : Heap} (h : agree g V V') (hP : va_P D vwCl (pw cy g V) H) : va_P D vwCl (pw cy g V') H := by
  intro k q hk
  simp only [pw, va_pl, List.getElem?_map, Option.map_eq_some_iff] at hk
  obtain ⟨a, ha, rfl⟩ := hk
  have haL := List.mem_of_getElem? ha
  have h0 : va_at D vwCl (a, pF cy g V a) H := hP k (a, pF cy g V a) (by simp only [pw, va_pl, List.getElem?_map, ha, Option.map_some])
  obtain ⟨h1, h2⟩ := h a haL
  by_cases h5 : gK g a = 5
  · have e1 : pF cy g V a = .inl (cy.1, gN g a, .inl (fun k => iI (V (gO g a) (gT g a) k))) := by simp [pF, h5]
    have e2 : pF cy g V' a = .inl (cy.1, gN g a, .inl (fun k => iI (V' (gO g a) (gT g a) k))) := by simp [pF, h5]
    rw [e1] at h0
    rw [e2]
    have h3 : H[a]? = some (vp_cell cy.1 (gN g a, .inl (fun k => iI (V (gO g a) (gT g a) k)))) := h0
    show H[a]? = some (vp_cell cy.1 (gN g a, .inl (fun k => iI (V' (gO g a) (gT g a) k))))
    rw [h3]
    congr 1
    simp only [vp_cell, arrV]
    congr 1
    apply Array.ext
    · simp
    · intro i hi1 hi2
      simp only [Array.getElem_ofFn]
      rw [h2 h5 i (by simpa using hi1)]
  · have e : pF cy g V a = pF cy g V' a := by
      unfold pF
      simp only [h1 h5, if_neg h5]
    rw [← e]
    exact h0
def sett (V : VT) (o t : Int) (f : Int → Int) : VT := fun o' t' => if o' = o ∧ t' = t then f else V o' t'
section
variable {p : Program} {l : Launch} {e : Env} {R : Room} {s : State} {m : MethodId} {args : Array Value} {below : List Frame} {meth : Method} {c : Code} {cells slots nL : Nat} {Q : State → Prop}
variable {cc : ByteArray} {own : String} {ret : Option FieldType} {D : va_G} {cy : ClassId × ClassId} {g : GT} {A : Nat → Prop} {H0 : Heap} {V : VT} {pc : Nat} {lv : List (Nat × Value)} {st : List Value}
theorem g_agree {V' : VT} (h : agree g V V') (k : G p l e R s m args below meth c nL cells slots Q D cy g A H0 V' pc lv st) : G p l e R s m args below meth c nL cells slots Q D cy g A H0 V pc lv st :=
  fun H locs ls hP hS hl => k H locs ls (agree_P h hP) hS hl
theorem g_copyi (C : Cx p s m args meth c cc nL own ret D cy g A) {index a0 a n : Nat} {o0 t0 o t : Int} (h0 : isA g a0 o0 t0 n) (h1 : isA g a o t n) (hn : n < 2147483648) (hl1 : Cond.methodLink own index arraycopyName ∈ wsG) (hl2 : Cond.native arraycopyName ∈ wsG) (hl3 : Cond.static arraycopyName ∈ wsG) (hl4 : Cond.initialized "java/lang/System" ∈ wsG) (hfr : 1 ≤ R.frames) (hlo : (st.map fun v => v.category).sum + (nativeFrameWords "java/lang/System" "arraycopy" 5 + 11) ≤ R.locals) (hd : decode cc pc = .ok (.invokestatic index, 3))
    (kk : G p l e R s m args below meth c nL cells slots Q D cy g A H0 (sett V o t (V o0 t0)) (pc + 3) lv st) : G p l e R s m args below meth c nL cells slots Q D cy g A H0 V pc lv (vI n :: vI 0 :: .ref a :: vI 0 :: .ref a0 :: st) := by
  intro H locs ls hP hS hl
  obtain ⟨b1, b2, b3, b4, b5⟩ := id h0
  obtain ⟨d1, d2, d3, d4, d5⟩ := id h1
  have hrn : rng (n : Int) := ⟨by omega, by omega⟩
  have hcn : (iI (n : Int)).toNatClampNeg = n := by rw [iI_clamp (by omega) hrn]; simp
  have hc0 : (iI 0).toNatClampNeg = 0 := rfl
  obtain ⟨q0, hq0⟩ := pw_at (cy := cy) (V := V) b1
  obtain ⟨q1, hq1⟩ := pw_at (cy := cy) (V := V) d1
  have e0 : pF cy g V a0 = .inl (cy.1, n, .inl (fun k => iI (V o0 t0 k))) := by simp [pF, b2, b3, b4, b5]
  have e1 : pF cy g V a = .inl (cy.1, n, .inl (fun k => iI (V o t k))) := by simp [pF, d2, d3, d4, d5]
  have hset := va_pl_set (X := []) (A := A) (e := .inl (cy.1, n, .inl (va_cpy (fun k => iI (V o0 t0 k)) (fun k => iI (V o t k)) 0 0 n))) (by simpa using pw_D (cy := cy) (V := V) C.2.2.2.1 C.2.2.2.2.1) d1 (by simpa using hq1)
  rw [e0] at hq0
  rw [e1] at hq1
  refine va_copyi C.1.1 C.1.2.1 (C.1.2.2.1.trans hl.1.symm) C.1.2.2.2.1 (C.1.2.2.2.2 _ hl1) (C.1.2.2.2.2 _ hl2) (C.1.2.2.2.2 _ hl3) (C.1.2.2.2.2 _ hl4) C.2.1 hP (pw_D C.2.2.2.1 C.2.2.2.2.1) hS q0 q1 0 0 (ty := .int) hq0 hq1 rfl rfl rfl (by decide) (by decide) (fun h => by have := (iI_lt hrn rng0).mp h; omega) (by rw [hc0, hcn]; omega) (by rw [hc0, hcn]; omega) (fun _ _ => rfl) hfr hlo hd (fun H1 locs1 hP1 _ hS1 => ?_)
  rw [hc0, hcn] at hP1
  simp only [List.nil_append] at hset
  rw [hset] at hP1
  refine kk H1 locs1 ls ?_ hS1 hl
  -- the copied cells are those of sett
  intro k q hk
  simp only [pw, va_pl, List.getElem?_map, Option.map_eq_some_iff] at hk
  obtain ⟨b, hb, rfl⟩ := hk
  have hbL := List.mem_of_getElem? hb
  have h9 : va_at D vwCl (b, va_up (pF cy g V) a (.inl (cy.1, n, .inl (va_cpy (fun k => iI (V o0 t0 k)) (fun k => iI (V o t k)) 0 0 n))) b) H1 := hP1 k _ (by simp only [va_pl, List.getElem?_map, hb, Option.map_some])
  by_cases hba : b = a
  · subst hba
    rw [va_up_self] at h9
    have e2 : pF cy g (sett V o t (V o0 t0)) b = .inl (cy.1, n, .inl (fun k => iI (V o0 t0 k))) := by simp [pF, d2, d3, d4, d5, sett]
    rw [e2]
    have h3 : H1[b]? = some (vp_cell cy.1 (n, .inl (va_cpy (fun k => iI (V o0 t0 k)) (fun k => iI (V o t k)) 0 0 n))) := h9
    show H1[b]? = some (vp_cell cy.1 (n, .inl (fun k => iI (V o0 t0 k))))
    rw [h3]
    congr 1
    simp only [vp_cell, arrV]
    congr 1
    apply Array.ext
    · simp
    · intro i hi1 hi2
      have hi : i < n := by simpa using hi1
      simp only [Array.getElem_ofFn, va_cpy]
      rw [if_pos ⟨Nat.zero_le _, by omega⟩]
      simp
  · rw [va_up_ne _ _ hba] at h9
    have e3 : pF cy g (sett V o t (V o0 t0)) b = pF cy g V b := by
      have : ∀ j', sett V o t (V o0 t0) (gO g b) (gT g b) j' = V (gO g b) (gT g b) j' := by
        intro j'
        unfold sett
        rw [if_neg]
        rintro ⟨h1', h2'⟩
        exact hba (C.2.2.2.1.2 b hbL a d1 (h1'.trans d3.symm) (h2'.trans d4.symm))
      unfold pF
      simp only [this]
    rw [e3]
    exact h9
theorem g_mmin (C : Cx p s m args meth c cc nL own ret D cy g A) {index : Nat} {x y : Int} (hx : rng x) (hy : rng y) (hl1 : Cond.methodLink own index Lib.Math.min.name ∈ wsG) (hl2 : Cond.static Lib.Math.min.name ∈ wsG) (hl3 : Cond.initialized "java/lang/Math" ∈ wsG) (hl4 : Cond.code Lib.Math.min.name Lib.Math.min.code 2 (some .int) ∈ wsG) (hfr : 1 ≤ R.frames) (hlo : (st.map fun v => v.category).sum + 13 ≤ R.locals) (hcl : cells ≤ R.cells ∧ slots ≤ R.slots) (hd : decode cc pc = .ok (.invokestatic index, 3))
    (kk : G p l e R s m args below meth c nL cells slots Q D cy g A H0 V (pc + 3) lv (vI (if y < x then y else x) :: st)) : G p l e R s m args below meth c nL cells slots Q D cy g A H0 V pc lv (vI y :: vI x :: st) := by
  intro H locs ls hP hS hl
  refine va_mmin C.1.1 C.1.2.1 (C.1.2.2.1.trans hl.1.symm) C.1.2.2.2.1 (C.1.2.2.2.2 _ hl1) (C.1.2.2.2.2 _ hl2) (C.1.2.2.2.2 _ hl3) (C.1.2.2.2.2 _ hl4) hfr hlo hcl.1 hcl.2 hd ?_
  have e : (if iI y < iI x then iI y else iI x) = iI (if y < x then y else x) := by
    by_cases h : y < x
    · rw [if_pos h, if_pos ((iI_lt hy hx).mpr h)]
    · rw [if_neg h, if_neg (fun q => h ((iI_lt hy hx).mp q))]
  rw [e]
  exact kk H locs ls hP hS hl
theorem g_mmax (C : Cx p s m args meth c cc nL own ret D cy g A) {index : Nat} {x y : Int} (hx : rng x) (hy : rng y) (hl1 : Cond.methodLink own index Lib.Math.max.name ∈ wsG) (hl2 : Cond.static Lib.Math.max.name ∈ wsG) (hl3 : Cond.initialized "java/lang/Math" ∈ wsG) (hl4 : Cond.code Lib.Math.max.name Lib.Math.max.code 2 (some .int) ∈ wsG) (hfr : 1 ≤ R.frames) (hlo : (st.map fun v => v.category).sum + 13 ≤ R.locals) (hcl : cells ≤ R.cells ∧ slots ≤ R.slots) (hd : decode cc pc = .ok (.invokestatic index, 3))
    (kk : G p l e R s m args below meth c nL cells slots Q D cy g A H0 V (pc + 3) lv (vI (if x < y then y else x) :: st)) : G p l e R s m args below meth c nL cells slots Q D cy g A H0 V pc lv (vI y :: vI x :: st) := by
  intro H locs ls hP hS hl
  refine va_mmax C.1.1 C.1.2.1 (C.1.2.2.1.trans hl.1.symm) C.1.2.2.2.1 (C.1.2.2.2.2 _ hl1) (C.1.2.2.2.2 _ hl2) (C.1.2.2.2.2 _ hl3) (C.1.2.2.2.2 _ hl4) hfr hlo hcl.1 hcl.2 hd ?_
  have e : (if iI x < iI y then iI y else iI x) = iI (if x < y then y else x) := by
    by_cases h : x < y
    · rw [if_pos h, if_pos ((iI_lt hx hy).mpr h)]
    · rw [if_neg h, if_neg (fun q => h ((iI_lt hx hy).mp q))]
  rw [e]
  exact kk H locs ls hP hS hl
end
set_option maxRecDepth 20000 in
theorem lsys1 : Cond.methodLink RX1 52 arraycopyName ∈ wsG := wsG_of 225 rfl rfl
set_option maxRecDepth 20000 in
theorem lsys2 : Cond.static arraycopyName ∈ wsG := wsG_of 226 rfl rfl
set_option maxRecDepth 20000 in
theorem lsys3 : Cond.native arraycopyName ∈ wsG := wsG_of 227 rfl rfl
set_option maxRecDepth 20000 in
theorem lsys4 : Cond.initialized "java/lang/System" ∈ wsG := wsG_of 54 rfl rfl
set_option maxRecDepth 20000 in
theorem lmin1 : Cond.methodLink RX2 116 Lib.Math.min.name ∈ wsG := wsG_of 329 rfl rfl
set_option maxRecDepth 20000 in
theorem lmin2 : Cond.static Lib.Math.min.name ∈ wsG := wsG_of 330 rfl rfl
set_option maxRecDepth 20000 in
theorem lmin4 : Cond.code Lib.Math.min.name Lib.Math.min.code 2 (some .int) ∈ wsG := wsG_of 331 rfl rfl
set_option maxRecDepth 20000 in
theorem lmax1 : Cond.methodLink RX3 80 Lib.Math.max.name ∈ wsG := wsG_of 197 rfl rfl
set_option maxRecDepth 20000 in
theorem lmax2 : Cond.static Lib.Math.max.name ∈ wsG := wsG_of 198 rfl rfl
set_option maxRecDepth 20000 in
theorem lmax4 : Cond.code Lib.Math.max.name Lib.Math.max.code 2 (some .int) ∈ wsG := wsG_of 199 rfl rfl
set_option maxRecDepth 20000 in
theorem lmth : Cond.initialized "java/lang/Math" ∈ wsG := wsG_of 53 rfl rfl
end
section
set_option maxRecDepth 20000 in
theorem lf_X1_9 : Cond.fieldLink RX1 9 "SlotFile$Page" "kind" "I" ∈ wsG := wsG_of 77 rfl rfl
set_option maxRecDepth 20000 in
theorem lf_X3_95 : Cond.fieldLinkNest RX3 95 "SlotFile$Page" "kind" "I" "SlotFile" ∈ nestL := List.mem_of_getElem? (i := 1) rfl
set_option maxRecDepth 20000 in
theorem lf_X2_106 : Cond.fieldLinkNest RX2 106 "SlotFile$Page" "kind" "I" "SlotFile" ∈ nestL := List.mem_of_getElem? (i := 2) rfl
set_option maxRecDepth 20000 in
theorem lf_X1_15 : Cond.fieldLink RX1 15 "SlotFile$Page" "slots" "I" ∈ wsG := wsG_of 80 rfl rfl
set_option maxRecDepth 20000 in
theorem lf_X3_100 : Cond.fieldLinkNest RX3 100 "SlotFile$Page" "slots" "I" "SlotFile" ∈ nestL := List.mem_of_getElem? (i := 3) rfl
set_option maxRecDepth 20000 in
theorem lf_X1_18 : Cond.fieldLink RX1 18 "SlotFile$Page" "cells" "I" ∈ wsG := wsG_of 82 rfl rfl
set_option maxRecDepth 20000 in
theorem lf_X3_103 : Cond.fieldLinkNest RX3 103 "SlotFile$Page" "cells" "I" "SlotFile" ∈ nestL := List.mem_of_getElem? (i := 4) rfl
set_option maxRecDepth 20000 in
theorem lf_X2_130 : Cond.fieldLinkNest RX2 130 "SlotFile$Page" "cells" "I" "SlotFile" ∈ nestL := List.mem_of_getElem? (i := 5) rfl
set_option maxRecDepth 20000 in
theorem lf_X1_21 : Cond.fieldLink RX1 21 "SlotFile$Page" "stubs" "I" ∈ wsG := wsG_of 85 rfl rfl
set_option maxRecDepth 20000 in
theorem lf_X3_113 : Cond.fieldLinkNest RX3 113 "SlotFile$Page" "stubs" "I" "SlotFile" ∈ nestL := List.mem_of_getElem? (i := 6) rfl
set_option maxRecDepth 20000 in
theorem lf_X2_133 : Cond.fieldLinkNest RX2 133 "SlotFile$Page" "stubs" "I" "SlotFile" ∈ nestL := List.mem_of_getElem? (i := 7) rfl
set_option maxRecDepth 20000 in
theorem lf_X1_24 : Cond.fieldLink RX1 24 "SlotFile$Page" "used" "I" ∈ wsG := wsG_of 88 rfl rfl
set_option maxRecDepth 20000 in
theorem lf_X1_27 : Cond.fieldLink RX1 27 "SlotFile$Page" "end" "I" ∈ wsG := wsG_of 89 rfl rfl
set_option maxRecDepth 20000 in
theorem lf_X3_110 : Cond.fieldLinkNest RX3 110 "SlotFile$Page" "end" "I" "SlotFile" ∈ nestL := List.mem_of_getElem? (i := 8) rfl
set_option maxRecDepth 20000 in
theorem lf_X1_30 : Cond.fieldLink RX1 30 "SlotFile$Page" "chainNext" "I" ∈ wsG := wsG_of 91 rfl rfl
set_option maxRecDepth 20000 in
theorem lf_X3_116 : Cond.fieldLinkNest RX3 116 "SlotFile$Page" "chainNext" "I" "SlotFile" ∈ nestL := List.mem_of_getElem? (i := 9) rfl
set_option maxRecDepth 20000 in
theorem lf_X2_124 : Cond.fieldLinkNest RX2 124 "SlotFile$Page" "chainNext" "I" "SlotFile" ∈ nestL := List.mem_of_getElem? (i := 10) rfl
set_option maxRecDepth 20000 in
theorem lf_X1_33 : Cond.fieldLink RX1 33 "SlotFile$Page" "chainBytes" "I" ∈ wsG := wsG_of 94 rfl rfl
set_option maxRecDepth 20000 in
theorem lf_X3_119 : Cond.fieldLinkNest RX3 119 "SlotFile$Page" "chainBytes" "I" "SlotFile" ∈ nestL := List.mem_of_getElem? (i := 11) rfl
set_option maxRecDepth 20000 in
theorem lf_X1_36 : Cond.fieldLink RX1 36 "SlotFile$Page" "compactings" "I" ∈ wsG := wsG_of 96 rfl rfl
set_option maxRecDepth 20000 in
theorem lf_X2_136 : Cond.fieldLinkNest RX2 136 "SlotFile$Page" "compactings" "I" "SlotFile" ∈ nestL := List.mem_of_getElem? (i := 12) rfl
set_option maxRecDepth 20000 in
theorem lf_X1_39 : Cond.fieldLink RX1 39 "SlotFile$Page" "kinds" "[I" ∈ wsG := wsG_of 98 rfl rfl
set_option maxRecDepth 20000 in
theorem lf_X2_30 : Cond.fieldLinkNest RX2 30 "SlotFile$Page" "kinds" "[I" "SlotFile" ∈ nestL := List.mem_of_getElem? (i := 13) rfl
set_option maxRecDepth 20000 in
theorem lf_X3_126 : Cond.fieldLinkNest RX3 126 "SlotFile$Page" "kinds" "[I" "SlotFile" ∈ nestL := List.mem_of_getElem? (i := 14) rfl
set_option maxRecDepth 20000 in
theorem lf_X1_43 : Cond.fieldLink RX1 43 "SlotFile$Page" "lengths" "[I" ∈ wsG := wsG_of 101 rfl rfl
set_option maxRecDepth 20000 in
theorem lf_X2_40 : Cond.fieldLinkNest RX2 40 "SlotFile$Page" "lengths" "[I" "SlotFile" ∈ nestL := List.mem_of_getElem? (i := 15) rfl
set_option maxRecDepth 20000 in
theorem lf_X1_46 : Cond.fieldLink RX1 46 "SlotFile$Page" "seeds" "[I" ∈ wsG := wsG_of 103 rfl rfl
set_option maxRecDepth 20000 in
theorem lf_X2_43 : Cond.fieldLinkNest RX2 43 "SlotFile$Page" "seeds" "[I" "SlotFile" ∈ nestL := List.mem_of_getElem? (i := 16) rfl
set_option maxRecDepth 20000 in
theorem lf_X1_49 : Cond.fieldLink RX1 49 "SlotFile$Page" "links" "[I" ∈ wsG := wsG_of 105 rfl rfl
set_option maxRecDepth 20000 in
theorem lf_X2_34 : Cond.fieldLinkNest RX2 34 "SlotFile$Page" "links" "[I" "SlotFile" ∈ nestL := List.mem_of_getElem? (i := 17) rfl
set_option maxRecDepth 20000 in
theorem lf_X2_11 : Cond.fieldLink RX2 11 "SlotFile$Store" "pages" "[LSlotFile$Page;" ∈ wsG := wsG_of 135 rfl rfl
set_option maxRecDepth 20000 in
theorem lf_X3_91 : Cond.fieldLinkNest RX3 91 "SlotFile$Store" "pages" "[LSlotFile$Page;" "SlotFile" ∈ nestL := List.mem_of_getElem? (i := 18) rfl
set_option maxRecDepth 20000 in
theorem lf_X0_9 : Cond.fieldLink RX0 9 "SlotFile$Log" "records" "[I" ∈ wsG := wsG_of 146 rfl rfl
set_option maxRecDepth 20000 in
theorem lf_X0_15 : Cond.fieldLink RX0 15 "SlotFile$Log" "lengths" "[I" ∈ wsG := wsG_of 147 rfl rfl
set_option maxRecDepth 20000 in
theorem lf_X0_18 : Cond.fieldLink RX0 18 "SlotFile$Log" "seeds" "[I" ∈ wsG := wsG_of 148 rfl rfl
set_option maxRecDepth 20000 in
theorem lf_X0_21 : Cond.fieldLink RX0 21 "SlotFile$Log" "size" "I" ∈ wsG := wsG_of 149 rfl rfl
set_option maxRecDepth 20000 in
theorem lf_X3_130 : Cond.fieldLinkNest RX3 130 "SlotFile$Log" "size" "I" "SlotFile" ∈ nestL := List.mem_of_getElem? (i := 20) rfl
set_option maxRecDepth 20000 in
theorem lf_X3_12 : Cond.fieldLink RX3 12 "SlotFile" "live" "LSlotFile$Store;" ∈ wsG := wsG_of 160 rfl rfl
set_option maxRecDepth 20000 in
theorem lf_X3_16 : Cond.fieldLink RX3 16 "SlotFile" "synced" "LSlotFile$Store;" ∈ wsG := wsG_of 161 rfl rfl
set_option maxRecDepth 20000 in
theorem lf_X3_22 : Cond.fieldLink RX3 22 "SlotFile" "log" "LSlotFile$Log;" ∈ wsG := wsG_of 162 rfl rfl
set_option maxRecDepth 20000 in
theorem lf_X3_26 : Cond.fieldLink RX3 26 "SlotFile" "crashes" "I" ∈ wsG := wsG_of 163 rfl rfl
set_option maxRecDepth 20000 in
theorem lm_L_65 : LkV RL 65 yX3_length cX3_length 2 (some .int) 1 := ⟨⟨(wsG_of 173 rfl rfl), (wsG_of 174 rfl rfl), (wsG_of 175 rfl rfl), (wsG_of 44 rfl rfl), (wsG_of 176 rfl rfl)⟩, ⟨by decide +kernel, by decide +kernel, by decide +kernel⟩⟩
set_option maxRecDepth 20000 in
theorem lm_X3_57 : LkV RX3 57 yX2_hasRecord cX2_hasRecord 2 (some .boolean) 1 := ⟨⟨(wsG_of 177 rfl rfl), (wsG_of 178 rfl rfl), (wsG_of 179 rfl rfl), (wsG_of 45 rfl rfl), (wsG_of 180 rfl rfl)⟩, ⟨by decide +kernel, by decide +kernel, by decide +kernel⟩⟩
set_option maxRecDepth 20000 in
theorem lm_X2_22 : LkV RX2 22 yX1_hasHome cX1_hasHome 2 (some .boolean) 1 := ⟨⟨(wsG_of 181 rfl rfl), (wsG_of 182 rfl rfl), (wsG_of 183 rfl rfl), (wsG_of 46 rfl rfl), (wsG_of 184 rfl rfl)⟩, ⟨by decide +kernel, by decide +kernel, by decide +kernel⟩⟩
set_option maxRecDepth 20000 in
theorem lm_X3_50 : LkV RX3 50 yX2_lengthOf cX2_lengthOf 3 (some .int) 1 := ⟨⟨(wsG_of 185 rfl rfl), (wsG_of 186 rfl rfl), (wsG_of 187 rfl rfl), (wsG_of 45 rfl rfl), (wsG_of 188 rfl rfl)⟩, ⟨by decide +kernel, by decide +kernel, by decide +kernel⟩⟩
set_option maxRecDepth 20000 in
theorem lm_X2_37 : LkV RX2 37 yX2_valueCell cX2_valueCell 4 (some .int) 1 := ⟨⟨(wsG_of 189 rfl rfl), (wsG_of 190 rfl rfl), (wsG_of 191 rfl rfl), (wsG_of 45 rfl rfl), (wsG_of 192 rfl rfl)⟩, ⟨by decide +kernel, by decide +kernel, by decide +kernel⟩⟩
set_option maxRecDepth 20000 in
theorem lm_L_75 : LkV RL 75 yX3_next cX3_next 2 (some .int) 1 := ⟨⟨(wsG_of 193 rfl rfl), (wsG_of 194 rfl rfl), (wsG_of 195 rfl rfl), (wsG_of 44 rfl rfl), (wsG_of 196 rfl rfl)⟩, ⟨by decide +kernel, by decide +kernel, by decide +kernel⟩⟩
set_option maxRecDepth 20000 in
theorem lm_X3_85 : LkV RX3 85 yX2_firstRecordFrom cX2_firstRecordFrom 5 (some .int) 1 := ⟨⟨(wsG_of 200 rfl rfl), (wsG_of 201 rfl rfl), (wsG_of 202 rfl rfl), (wsG_of 45 rfl rfl), (wsG_of 203 rfl rfl)⟩, ⟨by decide +kernel, by decide +kernel, by decide +kernel⟩⟩
set_option maxRecDepth 20000 in
theorem lm_X2_26 : LkV RX2 26 yX1_firstHomeFrom cX1_firstHomeFrom 3 (some .int) 1 := ⟨⟨(wsG_of 204 rfl rfl), (wsG_of 205 rfl rfl), (wsG_of 206 rfl rfl), (wsG_of 46 rfl rfl), (wsG_of 207 rfl rfl)⟩, ⟨by decide +kernel, by decide +kernel, by decide +kernel⟩⟩
set_option maxRecDepth 20000 in
theorem lm_X1_66 : LkV RX1 66 yX1_hasHome cX1_hasHome 2 (some .boolean) 1 := ⟨⟨(wsG_of 208 rfl rfl), (wsG_of 182 rfl rfl), (wsG_of 183 rfl rfl), (wsG_of 46 rfl rfl), (wsG_of 184 rfl rfl)⟩, ⟨by decide +kernel, by decide +kernel, by decide +kernel⟩⟩
set_option maxRecDepth 20000 in
theorem lm_L_85 : LkV RL 85 yX3_sync cX3_sync 2 (some .int) 0 := ⟨⟨(wsG_of 209 rfl rfl), (wsG_of 210 rfl rfl), (wsG_of 211 rfl rfl), (wsG_of 44 rfl rfl), (wsG_of 212 rfl rfl)⟩, ⟨by decide +kernel, by decide +kernel, by decide +kernel⟩⟩
set_option maxRecDepth 20000 in
theorem lm_X3_133 : LkV RX3 133 yX3_settle cX3_settle 1 none 0 := ⟨⟨(wsG_of 213 rfl rfl), (wsG_of 215 rfl rfl), (wsG_of 0 rfl rfl), (wsG_of 44 rfl rfl), (wsG_of 216 rfl rfl)⟩, ⟨by decide +kernel, by decide +kernel, by decide +kernel⟩⟩
set_option maxRecDepth 20000 in
theorem lm_X3_142 : LkV RX3 142 yX2_copyFrom cX2_copyFrom 3 none 1 := ⟨⟨(wsG_of 217 rfl rfl), (wsG_of 218 rfl rfl), (wsG_of 219 rfl rfl), (wsG_of 45 rfl rfl), (wsG_of 220 rfl rfl)⟩, ⟨by decide +kernel, by decide +kernel, by decide +kernel⟩⟩
set_option maxRecDepth 20000 in
theorem lm_X2_18 : LkV RX2 18 yX1_copyFrom cX1_copyFrom 2 none 1 := ⟨⟨(wsG_of 221 rfl rfl), (wsG_of 222 rfl rfl), (wsG_of 223 rfl rfl), (wsG_of 46 rfl rfl), (wsG_of 224 rfl rfl)⟩, ⟨by decide +kernel, by decide +kernel, by decide +kernel⟩⟩
set_option maxRecDepth 20000 in
theorem lm_L_7 : LkV RL 7 yX3_insert cX3_insert 4 (some .int) 2 := ⟨⟨(wsG_of 232 rfl rfl), (wsG_of 233 rfl rfl), (wsG_of 234 rfl rfl), (wsG_of 44 rfl rfl), (wsG_of 235 rfl rfl)⟩, ⟨by decide +kernel, by decide +kernel, by decide +kernel⟩⟩
set_option maxRecDepth 20000 in
theorem lm_X3_30 : LkS RX3 30 yX3_checkValue cX3_checkValue 2 none 2 := ⟨⟨rfl, (wsG_of 236 rfl rfl), (wsG_of 237 rfl rfl), (wsG_of 44 rfl rfl), (wsG_of 238 rfl rfl)⟩, ⟨by decide +kernel, by decide +kernel, by decide +kernel⟩⟩
set_option maxRecDepth 20000 in
theorem lm_X3_34 : LkV RX3 34 yX2_addRecord cX2_addRecord 5 (some .int) 2 := ⟨⟨(wsG_of 306 rfl rfl), (wsG_of 307 rfl rfl), (wsG_of 308 rfl rfl), (wsG_of 45 rfl rfl), (wsG_of 309 rfl rfl)⟩, ⟨by decide +kernel, by decide +kernel, by decide +kernel⟩⟩
set_option maxRecDepth 20000 in
theorem lm_X2_46 : LkV RX2 46 yX2_hasPagesForChain cX2_hasPagesForChain 3 (some .boolean) 1 := ⟨⟨(wsG_of 310 rfl rfl), (wsG_of 312 rfl rfl), (wsG_of 2 rfl rfl), (wsG_of 45 rfl rfl), (wsG_of 313 rfl rfl)⟩, ⟨by decide +kernel, by decide +kernel, by decide +kernel⟩⟩
set_option maxRecDepth 20000 in
theorem lm_X2_110 : LkN RX2 110 yX3_chainPages cX3_chainPages 1 (some .int) 1 := ⟨⟨List.mem_of_getElem? (i := 21) rfl, (wsG_of 315 rfl rfl), (wsG_of 44 rfl rfl), (wsG_of 316 rfl rfl)⟩, ⟨by decide +kernel, by decide +kernel, by decide +kernel⟩⟩
set_option maxRecDepth 20000 in
theorem lm_X2_113 : LkV RX2 113 yX2_pagesThatAre cX2_pagesThatAre 4 (some .int) 1 := ⟨⟨(wsG_of 317 rfl rfl), (wsG_of 318 rfl rfl), (wsG_of 319 rfl rfl), (wsG_of 45 rfl rfl), (wsG_of 320 rfl rfl)⟩, ⟨by decide +kernel, by decide +kernel, by decide +kernel⟩⟩
set_option maxRecDepth 20000 in
theorem lm_X2_49 : LkV RX2 49 yX2_takeChain cX2_takeChain 8 (some .int) 1 := ⟨⟨(wsG_of 321 rfl rfl), (wsG_of 323 rfl rfl), (wsG_of 3 rfl rfl), (wsG_of 45 rfl rfl), (wsG_of 324 rfl rfl)⟩, ⟨by decide +kernel, by decide +kernel, by decide +kernel⟩⟩
set_option maxRecDepth 20000 in
theorem lm_X2_95 : LkV RX2 95 yX2_leastFreePage cX2_leastFreePage 3 (some .int) 1 := ⟨⟨(wsG_of 325 rfl rfl), (wsG_of 327 rfl rfl), (wsG_of 4 rfl rfl), (wsG_of 45 rfl rfl), (wsG_of 328 rfl rfl)⟩, ⟨by decide +kernel, by decide +kernel, by decide +kernel⟩⟩
set_option maxRecDepth 20000 in
theorem lm_X2_121 : LkV RX2 121 yX1_becomeChain cX1_becomeChain 2 none 1 := ⟨⟨(wsG_of 332 rfl rfl), (wsG_of 333 rfl rfl), (wsG_of 334 rfl rfl), (wsG_of 46 rfl rfl), (wsG_of 335 rfl rfl)⟩, ⟨by decide +kernel, by decide +kernel, by decide +kernel⟩⟩
set_option maxRecDepth 20000 in
theorem lm_X2_52 : LkN RX2 52 yX3_cellBytes cX3_cellBytes 4 (some .int) 2 := ⟨⟨List.mem_of_getElem? (i := 22) rfl, (wsG_of 337 rfl rfl), (wsG_of 44 rfl rfl), (wsG_of 338 rfl rfl)⟩, ⟨by decide +kernel, by decide +kernel, by decide +kernel⟩⟩
set_option maxRecDepth 20000 in
theorem lm_X2_56 : LkV RX2 56 yX2_placeFor cX2_placeFor 6 (some .int) 3 := ⟨⟨(wsG_of 339 rfl rfl), (wsG_of 341 rfl rfl), (wsG_of 5 rfl rfl), (wsG_of 45 rfl rfl), (wsG_of 342 rfl rfl)⟩, ⟨by decide +kernel, by decide +kernel, by decide +kernel⟩⟩
set_option maxRecDepth 20000 in
theorem lm_X2_89 : LkV RX2 89 yX2_leastClassPage cX2_leastClassPage 8 (some .int) 3 := ⟨⟨(wsG_of 343 rfl rfl), (wsG_of 345 rfl rfl), (wsG_of 6 rfl rfl), (wsG_of 45 rfl rfl), (wsG_of 346 rfl rfl)⟩, ⟨by decide +kernel, by decide +kernel, by decide +kernel⟩⟩
set_option maxRecDepth 20000 in
theorem lm_X2_98 : LkV RX2 98 yX1_takesNewCells cX1_takesNewCells 1 (some .boolean) 0 := ⟨⟨(wsG_of 347 rfl rfl), (wsG_of 348 rfl rfl), (wsG_of 349 rfl rfl), (wsG_of 46 rfl rfl), (wsG_of 350 rfl rfl)⟩, ⟨by decide +kernel, by decide +kernel, by decide +kernel⟩⟩
set_option maxRecDepth 20000 in
theorem lm_X2_102 : LkV RX2 102 yX1_room cX1_room 1 (some .int) 0 := ⟨⟨(wsG_of 351 rfl rfl), (wsG_of 352 rfl rfl), (wsG_of 353 rfl rfl), (wsG_of 46 rfl rfl), (wsG_of 354 rfl rfl)⟩, ⟨by decide +kernel, by decide +kernel, by decide +kernel⟩⟩
set_option maxRecDepth 20000 in
theorem lm_X2_92 : LkV RX2 92 yX2_firstPageWithRoom cX2_firstPageWithRoom 5 (some .int) 3 := ⟨⟨(wsG_of 355 rfl rfl), (wsG_of 357 rfl rfl), (wsG_of 7 rfl rfl), (wsG_of 45 rfl rfl), (wsG_of 358 rfl rfl)⟩, ⟨by decide +kernel, by decide +kernel, by decide +kernel⟩⟩
set_option maxRecDepth 20000 in
theorem lm_X2_60 : LkV RX2 60 yX2_freeChain cX2_freeChain 5 none 1 := ⟨⟨(wsG_of 359 rfl rfl), (wsG_of 361 rfl rfl), (wsG_of 8 rfl rfl), (wsG_of 45 rfl rfl), (wsG_of 362 rfl rfl)⟩, ⟨by decide +kernel, by decide +kernel, by decide +kernel⟩⟩
set_option maxRecDepth 20000 in
theorem lm_X2_127 : LkV RX2 127 yX1_becomeFree cX1_becomeFree 1 none 0 := ⟨⟨(wsG_of 363 rfl rfl), (wsG_of 364 rfl rfl), (wsG_of 365 rfl rfl), (wsG_of 46 rfl rfl), (wsG_of 366 rfl rfl)⟩, ⟨by decide +kernel, by decide +kernel, by decide +kernel⟩⟩
set_option maxRecDepth 20000 in
theorem lm_X2_64 : LkV RX2 64 yX1_put cX1_put 7 (some .int) 4 := ⟨⟨(wsG_of 367 rfl rfl), (wsG_of 368 rfl rfl), (wsG_of 369 rfl rfl), (wsG_of 46 rfl rfl), (wsG_of 370 rfl rfl)⟩, ⟨by decide +kernel, by decide +kernel, by decide +kernel⟩⟩
set_option maxRecDepth 20000 in
theorem lm_X1_70 : LkV RX1 70 yX1_leastEmptySlot cX1_leastEmptySlot 2 (some .int) 0 := ⟨⟨(wsG_of 371 rfl rfl), (wsG_of 373 rfl rfl), (wsG_of 9 rfl rfl), (wsG_of 46 rfl rfl), (wsG_of 374 rfl rfl)⟩, ⟨by decide +kernel, by decide +kernel, by decide +kernel⟩⟩
set_option maxRecDepth 20000 in
theorem lm_X1_73 : LkN RX1 73 yX3_cellBytes cX3_cellBytes 4 (some .int) 2 := ⟨⟨List.mem_of_getElem? (i := 23) rfl, (wsG_of 337 rfl rfl), (wsG_of 44 rfl rfl), (wsG_of 338 rfl rfl)⟩, ⟨by decide +kernel, by decide +kernel, by decide +kernel⟩⟩
set_option maxRecDepth 20000 in
theorem lm_X1_77 : LkV RX1 77 yX1_claimEnd cX1_claimEnd 3 none 2 := ⟨⟨(wsG_of 376 rfl rfl), (wsG_of 378 rfl rfl), (wsG_of 10 rfl rfl), (wsG_of 46 rfl rfl), (wsG_of 379 rfl rfl)⟩, ⟨by decide +kernel, by decide +kernel, by decide +kernel⟩⟩
set_option maxRecDepth 20000 in
theorem lm_X1_81 : LkV RX1 81 yX1_write cX1_write 6 none 5 := ⟨⟨(wsG_of 380 rfl rfl), (wsG_of 382 rfl rfl), (wsG_of 11 rfl rfl), (wsG_of 46 rfl rfl), (wsG_of 383 rfl rfl)⟩, ⟨by decide +kernel, by decide +kernel, by decide +kernel⟩⟩
set_option maxRecDepth 20000 in
theorem lm_X3_38 : LkV RX3 38 yX3_noteChange cX3_noteChange 4 none 3 := ⟨⟨(wsG_of 384 rfl rfl), (wsG_of 386 rfl rfl), (wsG_of 12 rfl rfl), (wsG_of 44 rfl rfl), (wsG_of 387 rfl rfl)⟩, ⟨by decide +kernel, by decide +kernel, by decide +kernel⟩⟩
set_option maxRecDepth 20000 in
theorem lm_X3_160 : LkV RX3 160 yX0_add cX0_add 4 none 3 := ⟨⟨(wsG_of 388 rfl rfl), (wsG_of 389 rfl rfl), (wsG_of 390 rfl rfl), (wsG_of 47 rfl rfl), (wsG_of 391 rfl rfl)⟩, ⟨by decide +kernel, by decide +kernel, by decide +kernel⟩⟩
set_option maxRecDepth 20000 in
theorem lm_L_15 : LkV RL 15 yX3_update cX3_update 5 (some .boolean) 3 := ⟨⟨(wsG_of 396 rfl rfl), (wsG_of 397 rfl rfl), (wsG_of 398 rfl rfl), (wsG_of 44 rfl rfl), (wsG_of 399 rfl rfl)⟩, ⟨by decide +kernel, by decide +kernel, by decide +kernel⟩⟩
set_option maxRecDepth 20000 in
theorem lm_X3_42 : LkV RX3 42 yX3_checkRecord cX3_checkRecord 2 none 1 := ⟨⟨(wsG_of 400 rfl rfl), (wsG_of 402 rfl rfl), (wsG_of 13 rfl rfl), (wsG_of 44 rfl rfl), (wsG_of 403 rfl rfl)⟩, ⟨by decide +kernel, by decide +kernel, by decide +kernel⟩⟩
set_option maxRecDepth 20000 in
theorem lm_X3_46 : LkV RX3 46 yX2_changeRecord cX2_changeRecord 7 (some .boolean) 3 := ⟨⟨(wsG_of 420 rfl rfl), (wsG_of 421 rfl rfl), (wsG_of 422 rfl rfl), (wsG_of 45 rfl rfl), (wsG_of 423 rfl rfl)⟩, ⟨by decide +kernel, by decide +kernel, by decide +kernel⟩⟩
set_option maxRecDepth 20000 in
theorem lm_X2_68 : LkV RX2 68 yX2_chainOf cX2_chainOf 3 (some .int) 1 := ⟨⟨(wsG_of 424 rfl rfl), (wsG_of 425 rfl rfl), (wsG_of 426 rfl rfl), (wsG_of 45 rfl rfl), (wsG_of 427 rfl rfl)⟩, ⟨by decide +kernel, by decide +kernel, by decide +kernel⟩⟩
set_option maxRecDepth 20000 in
theorem lm_X2_71 : LkV RX2 71 yX2_changeAtHome cX2_changeAtHome 9 (some .boolean) 4 := ⟨⟨(wsG_of 428 rfl rfl), (wsG_of 430 rfl rfl), (wsG_of 14 rfl rfl), (wsG_of 45 rfl rfl), (wsG_of 431 rfl rfl)⟩, ⟨by decide +kernel, by decide +kernel, by decide +kernel⟩⟩
set_option maxRecDepth 20000 in
theorem lm_X2_81 : LkV RX2 81 yX1_hasRoomInstead cX1_hasRoomInstead 3 (some .boolean) 2 := ⟨⟨(wsG_of 432 rfl rfl), (wsG_of 433 rfl rfl), (wsG_of 434 rfl rfl), (wsG_of 46 rfl rfl), (wsG_of 435 rfl rfl)⟩, ⟨by decide +kernel, by decide +kernel, by decide +kernel⟩⟩
set_option maxRecDepth 20000 in
theorem lm_X1_58 : LkV RX1 58 yX1_room cX1_room 1 (some .int) 0 := ⟨⟨(wsG_of 436 rfl rfl), (wsG_of 352 rfl rfl), (wsG_of 353 rfl rfl), (wsG_of 46 rfl rfl), (wsG_of 354 rfl rfl)⟩, ⟨by decide +kernel, by decide +kernel, by decide +kernel⟩⟩
set_option maxRecDepth 20000 in
theorem lm_X1_62 : LkV RX1 62 yX1_bytesAt cX1_bytesAt 2 (some .int) 1 := ⟨⟨(wsG_of 437 rfl rfl), (wsG_of 439 rfl rfl), (wsG_of 15 rfl rfl), (wsG_of 46 rfl rfl), (wsG_of 440 rfl rfl)⟩, ⟨by decide +kernel, by decide +kernel, by decide +kernel⟩⟩
set_option maxRecDepth 20000 in
theorem lm_X2_85 : LkV RX2 85 yX1_change cX1_change 8 none 5 := ⟨⟨(wsG_of 441 rfl rfl), (wsG_of 442 rfl rfl), (wsG_of 443 rfl rfl), (wsG_of 46 rfl rfl), (wsG_of 444 rfl rfl)⟩, ⟨by decide +kernel, by decide +kernel, by decide +kernel⟩⟩
set_option maxRecDepth 20000 in
theorem lm_X1_85 : LkV RX1 85 yX1_erase cX1_erase 2 none 1 := ⟨⟨(wsG_of 445 rfl rfl), (wsG_of 447 rfl rfl), (wsG_of 16 rfl rfl), (wsG_of 46 rfl rfl), (wsG_of 448 rfl rfl)⟩, ⟨by decide +kernel, by decide +kernel, by decide +kernel⟩⟩
set_option maxRecDepth 20000 in
theorem lm_X2_75 : LkV RX2 75 yX2_changeAway cX2_changeAway 12 (some .boolean) 4 := ⟨⟨(wsG_of 449 rfl rfl), (wsG_of 451 rfl rfl), (wsG_of 17 rfl rfl), (wsG_of 45 rfl rfl), (wsG_of 452 rfl rfl)⟩, ⟨by decide +kernel, by decide +kernel, by decide +kernel⟩⟩
set_option maxRecDepth 20000 in
theorem lm_X2_78 : LkV RX2 78 yX1_remove cX1_remove 2 none 1 := ⟨⟨(wsG_of 453 rfl rfl), (wsG_of 454 rfl rfl), (wsG_of 455 rfl rfl), (wsG_of 46 rfl rfl), (wsG_of 456 rfl rfl)⟩, ⟨by decide +kernel, by decide +kernel, by decide +kernel⟩⟩
set_option maxRecDepth 20000 in
theorem lm_X1_89 : LkV RX1 89 yX1_becomeFree cX1_becomeFree 1 none 0 := ⟨⟨(wsG_of 457 rfl rfl), (wsG_of 364 rfl rfl), (wsG_of 365 rfl rfl), (wsG_of 46 rfl rfl), (wsG_of 366 rfl rfl)⟩, ⟨by decide +kernel, by decide +kernel, by decide +kernel⟩⟩
set_option maxRecDepth 20000 in
theorem lm_L_21 : LkV RL 21 yX3_delete cX3_delete 3 (some .int) 1 := ⟨⟨(wsG_of 461 rfl rfl), (wsG_of 462 rfl rfl), (wsG_of 463 rfl rfl), (wsG_of 44 rfl rfl), (wsG_of 464 rfl rfl)⟩, ⟨by decide +kernel, by decide +kernel, by decide +kernel⟩⟩
set_option maxRecDepth 20000 in
theorem lm_X3_54 : LkV RX3 54 yX2_removeRecord cX2_removeRecord 3 none 1 := ⟨⟨(wsG_of 465 rfl rfl), (wsG_of 466 rfl rfl), (wsG_of 467 rfl rfl), (wsG_of 45 rfl rfl), (wsG_of 468 rfl rfl)⟩, ⟨by decide +kernel, by decide +kernel, by decide +kernel⟩⟩
set_option maxRecDepth 20000 in
theorem lm_L_25 : LkV RL 25 yX3_byteAt cX3_byteAt 3 (some .int) 2 := ⟨⟨(wsG_of 472 rfl rfl), (wsG_of 473 rfl rfl), (wsG_of 474 rfl rfl), (wsG_of 44 rfl rfl), (wsG_of 475 rfl rfl)⟩, ⟨by decide +kernel, by decide +kernel, by decide +kernel⟩⟩
set_option maxRecDepth 20000 in
theorem lm_X3_61 : LkV RX3 61 yX2_seedOf cX2_seedOf 3 (some .int) 1 := ⟨⟨(wsG_of 476 rfl rfl), (wsG_of 477 rfl rfl), (wsG_of 478 rfl rfl), (wsG_of 45 rfl rfl), (wsG_of 479 rfl rfl)⟩, ⟨by decide +kernel, by decide +kernel, by decide +kernel⟩⟩
set_option maxRecDepth 20000 in
theorem lm_L_28 : LkV RL 28 yX3_where cX3_where 3 (some .int) 2 := ⟨⟨(wsG_of 483 rfl rfl), (wsG_of 484 rfl rfl), (wsG_of 485 rfl rfl), (wsG_of 44 rfl rfl), (wsG_of 486 rfl rfl)⟩, ⟨by decide +kernel, by decide +kernel, by decide +kernel⟩⟩
set_option maxRecDepth 20000 in
theorem lm_X3_64 : LkV RX3 64 yX2_valueCell cX2_valueCell 4 (some .int) 1 := ⟨⟨(wsG_of 487 rfl rfl), (wsG_of 190 rfl rfl), (wsG_of 191 rfl rfl), (wsG_of 45 rfl rfl), (wsG_of 192 rfl rfl)⟩, ⟨by decide +kernel, by decide +kernel, by decide +kernel⟩⟩
set_option maxRecDepth 20000 in
theorem lm_X3_67 : LkS RX3 67 yX3_chainPages cX3_chainPages 1 (some .int) 1 := ⟨⟨rfl, (wsG_of 488 rfl rfl), (wsG_of 315 rfl rfl), (wsG_of 44 rfl rfl), (wsG_of 316 rfl rfl)⟩, ⟨by decide +kernel, by decide +kernel, by decide +kernel⟩⟩
set_option maxRecDepth 20000 in
theorem lm_X3_70 : LkV RX3 70 yX2_chainOf cX2_chainOf 3 (some .int) 1 := ⟨⟨(wsG_of 489 rfl rfl), (wsG_of 425 rfl rfl), (wsG_of 426 rfl rfl), (wsG_of 45 rfl rfl), (wsG_of 427 rfl rfl)⟩, ⟨by decide +kernel, by decide +kernel, by decide +kernel⟩⟩
set_option maxRecDepth 20000 in
theorem lm_L_31 : LkV RL 31 yX3_page cX3_page 4 (some .int) 2 := ⟨⟨(wsG_of 494 rfl rfl), (wsG_of 495 rfl rfl), (wsG_of 496 rfl rfl), (wsG_of 44 rfl rfl), (wsG_of 497 rfl rfl)⟩, ⟨by decide +kernel, by decide +kernel, by decide +kernel⟩⟩
set_option maxRecDepth 20000 in
theorem lm_X3_88 : LkS RX3 88 yX3_checkPage cX3_checkPage 1 none 1 := ⟨⟨rfl, (wsG_of 498 rfl rfl), (wsG_of 499 rfl rfl), (wsG_of 44 rfl rfl), (wsG_of 500 rfl rfl)⟩, ⟨by decide +kernel, by decide +kernel, by decide +kernel⟩⟩
set_option maxRecDepth 20000 in
theorem lm_X3_106 : LkV RX3 106 yX1_room cX1_room 1 (some .int) 0 := ⟨⟨(wsG_of 502 rfl rfl), (wsG_of 352 rfl rfl), (wsG_of 353 rfl rfl), (wsG_of 46 rfl rfl), (wsG_of 354 rfl rfl)⟩, ⟨by decide +kernel, by decide +kernel, by decide +kernel⟩⟩
set_option maxRecDepth 20000 in
theorem lm_L_34 : LkV RL 34 yX3_slot cX3_slot 4 (some .int) 2 := ⟨⟨(wsG_of 507 rfl rfl), (wsG_of 508 rfl rfl), (wsG_of 509 rfl rfl), (wsG_of 44 rfl rfl), (wsG_of 510 rfl rfl)⟩, ⟨by decide +kernel, by decide +kernel, by decide +kernel⟩⟩
set_option maxRecDepth 20000 in
theorem lm_L_37 : LkV RL 37 yX3_crash cX3_crash 3 (some .int) 1 := ⟨⟨(wsG_of 515 rfl rfl), (wsG_of 516 rfl rfl), (wsG_of 517 rfl rfl), (wsG_of 44 rfl rfl), (wsG_of 518 rfl rfl)⟩, ⟨by decide +kernel, by decide +kernel, by decide +kernel⟩⟩
set_option maxRecDepth 20000 in
theorem lm_X3_138 : LkV RX3 138 yX0_redo cX0_redo 4 none 2 := ⟨⟨(wsG_of 520 rfl rfl), (wsG_of 521 rfl rfl), (wsG_of 522 rfl rfl), (wsG_of 47 rfl rfl), (wsG_of 523 rfl rfl)⟩, ⟨by decide +kernel, by decide +kernel, by decide +kernel⟩⟩
set_option maxRecDepth 20000 in
theorem lm_X0_25 : LkV RX0 25 yX2_addRecord cX2_addRecord 5 (some .int) 2 := ⟨⟨(wsG_of 524 rfl rfl), (wsG_of 307 rfl rfl), (wsG_of 308 rfl rfl), (wsG_of 45 rfl rfl), (wsG_of 309 rfl rfl)⟩, ⟨by decide +kernel, by decide +kernel, by decide +kernel⟩⟩
set_option maxRecDepth 20000 in
theorem lm_X0_31 : LkV RX0 31 yX2_removeRecord cX2_removeRecord 3 none 1 := ⟨⟨(wsG_of 525 rfl rfl), (wsG_of 466 rfl rfl), (wsG_of 467 rfl rfl), (wsG_of 45 rfl rfl), (wsG_of 468 rfl rfl)⟩, ⟨by decide +kernel, by decide +kernel, by decide +kernel⟩⟩
set_option maxRecDepth 20000 in
theorem lm_X0_35 : LkV RX0 35 yX2_changeRecord cX2_changeRecord 7 (some .boolean) 3 := ⟨⟨(wsG_of 526 rfl rfl), (wsG_of 421 rfl rfl), (wsG_of 422 rfl rfl), (wsG_of 45 rfl rfl), (wsG_of 423 rfl rfl)⟩, ⟨by decide +kernel, by decide +kernel, by decide +kernel⟩⟩
set_option maxRecDepth 20000 in
theorem lm_L_40 : LkV RL 40 yX3_total cX3_total 2 (some .int) 1 := ⟨⟨(wsG_of 530 rfl rfl), (wsG_of 531 rfl rfl), (wsG_of 532 rfl rfl), (wsG_of 44 rfl rfl), (wsG_of 533 rfl rfl)⟩, ⟨by decide +kernel, by decide +kernel, by decide +kernel⟩⟩
set_option maxRecDepth 20000 in
theorem lm_X3_146 : LkV RX3 146 yX2_cellCount cX2_cellCount 3 (some .int) 0 := ⟨⟨(wsG_of 534 rfl rfl), (wsG_of 535 rfl rfl), (wsG_of 536 rfl rfl), (wsG_of 45 rfl rfl), (wsG_of 537 rfl rfl)⟩, ⟨by decide +kernel, by decide +kernel, by decide +kernel⟩⟩
set_option maxRecDepth 20000 in
theorem lm_X3_149 : LkV RX3 149 yX2_stubCount cX2_stubCount 3 (some .int) 0 := ⟨⟨(wsG_of 538 rfl rfl), (wsG_of 539 rfl rfl), (wsG_of 540 rfl rfl), (wsG_of 45 rfl rfl), (wsG_of 541 rfl rfl)⟩, ⟨by decide +kernel, by decide +kernel, by decide +kernel⟩⟩
set_option maxRecDepth 20000 in
theorem lm_X3_152 : LkV RX3 152 yX2_pagesThatAre cX2_pagesThatAre 4 (some .int) 1 := ⟨⟨(wsG_of 542 rfl rfl), (wsG_of 318 rfl rfl), (wsG_of 319 rfl rfl), (wsG_of 45 rfl rfl), (wsG_of 320 rfl rfl)⟩, ⟨by decide +kernel, by decide +kernel, by decide +kernel⟩⟩
set_option maxRecDepth 20000 in
theorem lm_X3_155 : LkV RX3 155 yX2_compactingCount cX2_compactingCount 3 (some .int) 0 := ⟨⟨(wsG_of 543 rfl rfl), (wsG_of 544 rfl rfl), (wsG_of 545 rfl rfl), (wsG_of 45 rfl rfl), (wsG_of 546 rfl rfl)⟩, ⟨by decide +kernel, by decide +kernel, by decide +kernel⟩⟩
set_option maxRecDepth 20000 in
theorem lm_X4_19 : LkS RX4 19 yX4_copy cX4_copy 3 none 2 := ⟨⟨rfl, (wsG_of 554 rfl rfl), (wsG_of 555 rfl rfl), (wsG_of 48 rfl rfl), (wsG_of 556 rfl rfl)⟩, ⟨by decide +kernel, by decide +kernel, by decide +kernel⟩⟩
set_option maxRecDepth 20000 in
theorem lf_X4_7 : Cond.fieldLink RX4 7 "SlotFileModel" "d" "[I" ∈ wsG := wsG_of 557 rfl rfl
set_option maxRecDepth 20000 in
theorem lf_X4_13 : Cond.fieldLink RX4 13 "SlotFileModel" "synced" "[I" ∈ wsG := wsG_of 558 rfl rfl
set_option maxRecDepth 20000 in
theorem lf_X4_16 : Cond.fieldLink RX4 16 "SlotFileModel" "changes" "[I" ∈ wsG := wsG_of 559 rfl rfl
set_option maxRecDepth 20000 in
theorem lf_X4_95 : Cond.fieldLink RX4 95 "SlotFileModel" "changeCount" "I" ∈ wsG := wsG_of 560 rfl rfl
set_option maxRecDepth 20000 in
theorem lf_X4_38 : Cond.fieldLink RX4 38 "SlotFileModel" "compacted" "I" ∈ wsG := wsG_of 561 rfl rfl
set_option maxRecDepth 20000 in
theorem lf_X4_128 : Cond.fieldLink RX4 128 "SlotFileModel" "crashes" "I" ∈ wsG := wsG_of 562 rfl rfl
set_option maxRecDepth 20000 in
theorem lf_X4_41 : Cond.fieldLink RX4 41 "SlotFileModel" "again" "Z" ∈ wsG := wsG_of 563 rfl rfl
set_option maxRecDepth 20000 in
theorem lf_X4_23 : Cond.fieldLink RX4 23 "SlotFileModel" "thrown" "I" ∈ wsG := wsG_of 564 rfl rfl
set_option maxRecDepth 20000 in
theorem lm_L_53 : LkV RL 53 yX4_thrown cX4_thrown 1 (some .int) 0 := ⟨⟨(wsG_of 582 rfl rfl), (wsG_of 583 rfl rfl), (wsG_of 584 rfl rfl), (wsG_of 48 rfl rfl), (wsG_of 585 rfl rfl)⟩, ⟨by decide +kernel, by decide +kernel, by decide +kernel⟩⟩
set_option maxRecDepth 20000 in
theorem lm_L_52 : LkV RL 52 yX4_insert cX4_insert 4 (some .int) 2 := ⟨⟨(wsG_of 586 rfl rfl), (wsG_of 587 rfl rfl), (wsG_of 588 rfl rfl), (wsG_of 48 rfl rfl), (wsG_of 589 rfl rfl)⟩, ⟨by decide +kernel, by decide +kernel, by decide +kernel⟩⟩
set_option maxRecDepth 20000 in
theorem lm_X4_98 : LkS RX4 98 yX4_isValue cX4_isValue 2 (some .boolean) 2 := ⟨⟨rfl, (wsG_of 590 rfl rfl), (wsG_of 591 rfl rfl), (wsG_of 48 rfl rfl), (wsG_of 592 rfl rfl)⟩, ⟨by decide +kernel, by decide +kernel, by decide +kernel⟩⟩
set_option maxRecDepth 20000 in
theorem lm_X4_102 : LkV RX4 102 yX4_fails cX4_fails 3 (some .boolean) 2 := ⟨⟨(wsG_of 593 rfl rfl), (wsG_of 595 rfl rfl), (wsG_of 18 rfl rfl), (wsG_of 48 rfl rfl), (wsG_of 596 rfl rfl)⟩, ⟨by decide +kernel, by decide +kernel, by decide +kernel⟩⟩
set_option maxRecDepth 20000 in
theorem lm_X4_106 : LkV RX4 106 yX4_inserts cX4_inserts 8 (some .int) 2 := ⟨⟨(wsG_of 597 rfl rfl), (wsG_of 599 rfl rfl), (wsG_of 19 rfl rfl), (wsG_of 48 rfl rfl), (wsG_of 600 rfl rfl)⟩, ⟨by decide +kernel, by decide +kernel, by decide +kernel⟩⟩
set_option maxRecDepth 20000 in
theorem lm_X4_55 : LkS RX4 55 yX4_chainSize cX4_chainSize 1 (some .int) 1 := ⟨⟨rfl, (wsG_of 601 rfl rfl), (wsG_of 602 rfl rfl), (wsG_of 48 rfl rfl), (wsG_of 603 rfl rfl)⟩, ⟨by decide +kernel, by decide +kernel, by decide +kernel⟩⟩
set_option maxRecDepth 20000 in
theorem lm_X4_58 : LkV RX4 58 yX4_freePages cX4_freePages 3 (some .int) 0 := ⟨⟨(wsG_of 604 rfl rfl), (wsG_of 606 rfl rfl), (wsG_of 20 rfl rfl), (wsG_of 48 rfl rfl), (wsG_of 607 rfl rfl)⟩, ⟨by decide +kernel, by decide +kernel, by decide +kernel⟩⟩
set_option maxRecDepth 20000 in
theorem lm_X4_61 : LkV RX4 61 yX4_takeChain cX4_takeChain 7 (some .int) 1 := ⟨⟨(wsG_of 608 rfl rfl), (wsG_of 610 rfl rfl), (wsG_of 21 rfl rfl), (wsG_of 48 rfl rfl), (wsG_of 611 rfl rfl)⟩, ⟨by decide +kernel, by decide +kernel, by decide +kernel⟩⟩
set_option maxRecDepth 20000 in
theorem lm_X4_51 : LkV RX4 51 yX4_firstFree cX4_firstFree 2 (some .int) 0 := ⟨⟨(wsG_of 612 rfl rfl), (wsG_of 614 rfl rfl), (wsG_of 22 rfl rfl), (wsG_of 48 rfl rfl), (wsG_of 615 rfl rfl)⟩, ⟨by decide +kernel, by decide +kernel, by decide +kernel⟩⟩
set_option maxRecDepth 20000 in
theorem lm_X4_64 : LkS RX4 64 yX4_cellSize cX4_cellSize 3 (some .int) 2 := ⟨⟨rfl, (wsG_of 616 rfl rfl), (wsG_of 617 rfl rfl), (wsG_of 48 rfl rfl), (wsG_of 618 rfl rfl)⟩, ⟨by decide +kernel, by decide +kernel, by decide +kernel⟩⟩
set_option maxRecDepth 20000 in
theorem lm_X4_68 : LkV RX4 68 yX4_placeFor cX4_placeFor 9 (some .int) 3 := ⟨⟨(wsG_of 619 rfl rfl), (wsG_of 621 rfl rfl), (wsG_of 23 rfl rfl), (wsG_of 48 rfl rfl), (wsG_of 622 rfl rfl)⟩, ⟨by decide +kernel, by decide +kernel, by decide +kernel⟩⟩
set_option maxRecDepth 20000 in
theorem lm_X4_45 : LkV RX4 45 yX4_cells cX4_cells 4 (some .int) 1 := ⟨⟨(wsG_of 623 rfl rfl), (wsG_of 625 rfl rfl), (wsG_of 24 rfl rfl), (wsG_of 48 rfl rfl), (wsG_of 626 rfl rfl)⟩, ⟨by decide +kernel, by decide +kernel, by decide +kernel⟩⟩
set_option maxRecDepth 20000 in
theorem lm_X4_27 : LkV RX4 27 yX4_sizeOf cX4_sizeOf 3 (some .int) 2 := ⟨⟨(wsG_of 627 rfl rfl), (wsG_of 629 rfl rfl), (wsG_of 25 rfl rfl), (wsG_of 48 rfl rfl), (wsG_of 630 rfl rfl)⟩, ⟨by decide +kernel, by decide +kernel, by decide +kernel⟩⟩
set_option maxRecDepth 20000 in
theorem lm_X4_48 : LkV RX4 48 yX4_room cX4_room 2 (some .int) 1 := ⟨⟨(wsG_of 631 rfl rfl), (wsG_of 633 rfl rfl), (wsG_of 26 rfl rfl), (wsG_of 48 rfl rfl), (wsG_of 634 rfl rfl)⟩, ⟨by decide +kernel, by decide +kernel, by decide +kernel⟩⟩
set_option maxRecDepth 20000 in
theorem lm_X4_31 : LkV RX4 31 yX4_slots cX4_slots 4 (some .int) 1 := ⟨⟨(wsG_of 635 rfl rfl), (wsG_of 637 rfl rfl), (wsG_of 27 rfl rfl), (wsG_of 48 rfl rfl), (wsG_of 638 rfl rfl)⟩, ⟨by decide +kernel, by decide +kernel, by decide +kernel⟩⟩
set_option maxRecDepth 20000 in
theorem lm_X4_35 : LkV RX4 35 yX4_taken cX4_taken 4 (some .int) 1 := ⟨⟨(wsG_of 639 rfl rfl), (wsG_of 641 rfl rfl), (wsG_of 28 rfl rfl), (wsG_of 48 rfl rfl), (wsG_of 642 rfl rfl)⟩, ⟨by decide +kernel, by decide +kernel, by decide +kernel⟩⟩
set_option maxRecDepth 20000 in
theorem lm_X4_72 : LkV RX4 72 yX4_freeChain cX4_freeChain 3 none 1 := ⟨⟨(wsG_of 643 rfl rfl), (wsG_of 645 rfl rfl), (wsG_of 29 rfl rfl), (wsG_of 48 rfl rfl), (wsG_of 646 rfl rfl)⟩, ⟨by decide +kernel, by decide +kernel, by decide +kernel⟩⟩
set_option maxRecDepth 20000 in
theorem lm_X4_76 : LkV RX4 76 yX4_slotIn cX4_slotIn 3 (some .int) 1 := ⟨⟨(wsG_of 647 rfl rfl), (wsG_of 649 rfl rfl), (wsG_of 30 rfl rfl), (wsG_of 48 rfl rfl), (wsG_of 650 rfl rfl)⟩, ⟨by decide +kernel, by decide +kernel, by decide +kernel⟩⟩
set_option maxRecDepth 20000 in
theorem lm_X4_79 : LkV RX4 79 yX4_putCell cX4_putCell 8 none 4 := ⟨⟨(wsG_of 651 rfl rfl), (wsG_of 653 rfl rfl), (wsG_of 31 rfl rfl), (wsG_of 48 rfl rfl), (wsG_of 654 rfl rfl)⟩, ⟨by decide +kernel, by decide +kernel, by decide +kernel⟩⟩
set_option maxRecDepth 20000 in
theorem lm_X4_83 : LkV RX4 83 yX4_keep cX4_keep 6 none 5 := ⟨⟨(wsG_of 655 rfl rfl), (wsG_of 657 rfl rfl), (wsG_of 32 rfl rfl), (wsG_of 48 rfl rfl), (wsG_of 658 rfl rfl)⟩, ⟨by decide +kernel, by decide +kernel, by decide +kernel⟩⟩
set_option maxRecDepth 20000 in
theorem lm_X4_109 : LkV RX4 109 yX4_note cX4_note 6 none 4 := ⟨⟨(wsG_of 659 rfl rfl), (wsG_of 661 rfl rfl), (wsG_of 33 rfl rfl), (wsG_of 48 rfl rfl), (wsG_of 662 rfl rfl)⟩, ⟨by decide +kernel, by decide +kernel, by decide +kernel⟩⟩
set_option maxRecDepth 20000 in
theorem lm_L_60 : LkV RL 60 yX4_update cX4_update 5 (some .boolean) 3 := ⟨⟨(wsG_of 663 rfl rfl), (wsG_of 664 rfl rfl), (wsG_of 665 rfl rfl), (wsG_of 48 rfl rfl), (wsG_of 666 rfl rfl)⟩, ⟨by decide +kernel, by decide +kernel, by decide +kernel⟩⟩
set_option maxRecDepth 20000 in
theorem lm_X4_112 : LkV RX4 112 yX4_isRecord cX4_isRecord 2 (some .boolean) 1 := ⟨⟨(wsG_of 667 rfl rfl), (wsG_of 669 rfl rfl), (wsG_of 34 rfl rfl), (wsG_of 48 rfl rfl), (wsG_of 670 rfl rfl)⟩, ⟨by decide +kernel, by decide +kernel, by decide +kernel⟩⟩
set_option maxRecDepth 20000 in
theorem lm_X4_116 : LkV RX4 116 yX4_updates cX4_updates 14 (some .boolean) 3 := ⟨⟨(wsG_of 671 rfl rfl), (wsG_of 673 rfl rfl), (wsG_of 35 rfl rfl), (wsG_of 48 rfl rfl), (wsG_of 674 rfl rfl)⟩, ⟨by decide +kernel, by decide +kernel, by decide +kernel⟩⟩
set_option maxRecDepth 20000 in
theorem lm_X4_87 : LkV RX4 87 yX4_fits cX4_fits 4 (some .boolean) 3 := ⟨⟨(wsG_of 675 rfl rfl), (wsG_of 677 rfl rfl), (wsG_of 36 rfl rfl), (wsG_of 48 rfl rfl), (wsG_of 678 rfl rfl)⟩, ⟨by decide +kernel, by decide +kernel, by decide +kernel⟩⟩
set_option maxRecDepth 20000 in
theorem lm_X4_91 : LkV RX4 91 yX4_takeCell cX4_takeCell 3 none 2 := ⟨⟨(wsG_of 679 rfl rfl), (wsG_of 681 rfl rfl), (wsG_of 37 rfl rfl), (wsG_of 48 rfl rfl), (wsG_of 682 rfl rfl)⟩, ⟨by decide +kernel, by decide +kernel, by decide +kernel⟩⟩
set_option maxRecDepth 20000 in
theorem lm_L_64 : LkV RL 64 yX4_delete cX4_delete 3 (some .int) 1 := ⟨⟨(wsG_of 683 rfl rfl), (wsG_of 684 rfl rfl), (wsG_of 685 rfl rfl), (wsG_of 48 rfl rfl), (wsG_of 686 rfl rfl)⟩, ⟨by decide +kernel, by decide +kernel, by decide +kernel⟩⟩
set_option maxRecDepth 20000 in
theorem lm_X4_119 : LkV RX4 119 yX4_deletes cX4_deletes 3 none 1 := ⟨⟨(wsG_of 687 rfl rfl), (wsG_of 689 rfl rfl), (wsG_of 38 rfl rfl), (wsG_of 48 rfl rfl), (wsG_of 690 rfl rfl)⟩, ⟨by decide +kernel, by decide +kernel, by decide +kernel⟩⟩
set_option maxRecDepth 20000 in
theorem lm_L_68 : LkV RL 68 yX4_length cX4_length 2 (some .int) 1 := ⟨⟨(wsG_of 691 rfl rfl), (wsG_of 692 rfl rfl), (wsG_of 693 rfl rfl), (wsG_of 48 rfl rfl), (wsG_of 694 rfl rfl)⟩, ⟨by decide +kernel, by decide +kernel, by decide +kernel⟩⟩
set_option maxRecDepth 20000 in
theorem lm_L_71 : LkV RL 71 yX4_byteAt cX4_byteAt 3 (some .int) 2 := ⟨⟨(wsG_of 695 rfl rfl), (wsG_of 696 rfl rfl), (wsG_of 697 rfl rfl), (wsG_of 48 rfl rfl), (wsG_of 698 rfl rfl)⟩, ⟨by decide +kernel, by decide +kernel, by decide +kernel⟩⟩
set_option maxRecDepth 20000 in
theorem lm_L_74 : LkV RL 74 yX4_where cX4_where 4 (some .int) 2 := ⟨⟨(wsG_of 699 rfl rfl), (wsG_of 700 rfl rfl), (wsG_of 701 rfl rfl), (wsG_of 48 rfl rfl), (wsG_of 702 rfl rfl)⟩, ⟨by decide +kernel, by decide +kernel, by decide +kernel⟩⟩
set_option maxRecDepth 20000 in
theorem lm_L_78 : LkV RL 78 yX4_next cX4_next 3 (some .int) 1 := ⟨⟨(wsG_of 703 rfl rfl), (wsG_of 704 rfl rfl), (wsG_of 705 rfl rfl), (wsG_of 48 rfl rfl), (wsG_of 706 rfl rfl)⟩, ⟨by decide +kernel, by decide +kernel, by decide +kernel⟩⟩
set_option maxRecDepth 20000 in
theorem lm_L_81 : LkV RL 81 yX4_page cX4_page 3 (some .int) 2 := ⟨⟨(wsG_of 707 rfl rfl), (wsG_of 708 rfl rfl), (wsG_of 709 rfl rfl), (wsG_of 48 rfl rfl), (wsG_of 710 rfl rfl)⟩, ⟨by decide +kernel, by decide +kernel, by decide +kernel⟩⟩
set_option maxRecDepth 20000 in
theorem lm_X4_125 : LkV RX4 125 yX4_stubs cX4_stubs 4 (some .int) 1 := ⟨⟨(wsG_of 711 rfl rfl), (wsG_of 713 rfl rfl), (wsG_of 39 rfl rfl), (wsG_of 48 rfl rfl), (wsG_of 714 rfl rfl)⟩, ⟨by decide +kernel, by decide +kernel, by decide +kernel⟩⟩
set_option maxRecDepth 20000 in
theorem lm_X4_122 : LkV RX4 122 yX4_kindOf cX4_kindOf 5 (some .int) 2 := ⟨⟨(wsG_of 715 rfl rfl), (wsG_of 717 rfl rfl), (wsG_of 40 rfl rfl), (wsG_of 48 rfl rfl), (wsG_of 718 rfl rfl)⟩, ⟨by decide +kernel, by decide +kernel, by decide +kernel⟩⟩
set_option maxRecDepth 20000 in
theorem lm_L_84 : LkV RL 84 yX4_slot cX4_slot 3 (some .int) 2 := ⟨⟨(wsG_of 719 rfl rfl), (wsG_of 720 rfl rfl), (wsG_of 721 rfl rfl), (wsG_of 48 rfl rfl), (wsG_of 722 rfl rfl)⟩, ⟨by decide +kernel, by decide +kernel, by decide +kernel⟩⟩
set_option maxRecDepth 20000 in
theorem lm_L_88 : LkV RL 88 yX4_sync cX4_sync 2 (some .int) 0 := ⟨⟨(wsG_of 723 rfl rfl), (wsG_of 724 rfl rfl), (wsG_of 725 rfl rfl), (wsG_of 48 rfl rfl), (wsG_of 726 rfl rfl)⟩, ⟨by decide +kernel, by decide +kernel, by decide +kernel⟩⟩
set_option maxRecDepth 20000 in
theorem lm_L_91 : LkV RL 91 yX4_crash cX4_crash 5 (some .int) 1 := ⟨⟨(wsG_of 727 rfl rfl), (wsG_of 728 rfl rfl), (wsG_of 729 rfl rfl), (wsG_of 48 rfl rfl), (wsG_of 730 rfl rfl)⟩, ⟨by decide +kernel, by decide +kernel, by decide +kernel⟩⟩
set_option maxRecDepth 20000 in
theorem lm_X4_131 : LkV RX4 131 yX4_sync cX4_sync 2 (some .int) 0 := ⟨⟨(wsG_of 731 rfl rfl), (wsG_of 724 rfl rfl), (wsG_of 725 rfl rfl), (wsG_of 48 rfl rfl), (wsG_of 726 rfl rfl)⟩, ⟨by decide +kernel, by decide +kernel, by decide +kernel⟩⟩
set_option maxRecDepth 20000 in
theorem lm_L_94 : LkV RL 94 yX4_total cX4_total 2 (some .int) 1 := ⟨⟨(wsG_of 732 rfl rfl), (wsG_of 733 rfl rfl), (wsG_of 734 rfl rfl), (wsG_of 48 rfl rfl), (wsG_of 735 rfl rfl)⟩, ⟨by decide +kernel, by decide +kernel, by decide +kernel⟩⟩
set_option maxRecDepth 20000 in
theorem lm_X4_134 : LkV RX4 134 yX4_records cX4_records 4 (some .int) 1 := ⟨⟨(wsG_of 736 rfl rfl), (wsG_of 738 rfl rfl), (wsG_of 41 rfl rfl), (wsG_of 48 rfl rfl), (wsG_of 739 rfl rfl)⟩, ⟨by decide +kernel, by decide +kernel, by decide +kernel⟩⟩
set_option maxRecDepth 20000 in
theorem lm_X4_138 : LkV RX4 138 yX4_pagesOf cX4_pagesOf 4 (some .int) 1 := ⟨⟨(wsG_of 740 rfl rfl), (wsG_of 742 rfl rfl), (wsG_of 42 rfl rfl), (wsG_of 48 rfl rfl), (wsG_of 743 rfl rfl)⟩, ⟨by decide +kernel, by decide +kernel, by decide +kernel⟩⟩
end
section
/-! SlotFile$Page: its pure words -/
def cellH (len : Int) : Int := if 100 < len then 9 else len + 1
def cellA (k len : Int) : Int := if k = 3 then cellH len + 4 else cellH len
def cellB (k len : Int) : Int := if k = 2 then 5 else if cellA k len < 5 then 5 else cellA k len
def isPg (g : GT) (a : Nat) (o : Int) : Prop := isO g 1 a o ∧ ∃ r1 r2 r3 r4, (gR g a 9 = some r1 ∧ isA g r1 o 1 32) ∧ (gR g a 10 = some r2 ∧ isA g r2 o 2 32) ∧ (gR g a 11 = some r3 ∧ isA g r3 o 3 32) ∧ (gR g a 12 = some r4 ∧ isA g r4 o 4 32)
def sm (x : Int) : Prop := -1000000 ≤ x ∧ x ≤ 1000000
/-- what a page's numbers keep: enough for every index and comparison in its methods -/
def pwf (w : Int → Int → Int) : Prop := sm (w 0 0) ∧ (0 ≤ w 0 1 ∧ w 0 1 ≤ 32) ∧ sm (w 0 2) ∧ sm (w 0 3) ∧ sm (w 0 4) ∧ sm (w 0 5) ∧ (∀ s, 0 ≤ s → s < 32 → (0 ≤ w 1 s ∧ w 1 s ≤ 3) ∧ (-1 ≤ w 2 s ∧ w 2 s ≤ 1200))
def pRoom (w : Int → Int → Int) : Int := 248 - 4 * w 0 1 - w 0 4
def pBytes (w : Int → Int → Int) (s : Int) : Int := cellB (w 1 s) (w 2 s)
def pHome (w : Int → Int → Int) (s : Int) : Prop := w 1 s = 1 ∨ w 1 s = 2
def pClaim (w : Int → Int → Int) (b sb : Int) : Int → Int → Int :=
  if 248 - 4 * w 0 1 < w 0 5 + b + sb then upw (upw (upw w 0 5 (w 0 4)) 0 8 (w 0 8 + 1)) 0 5 (w 0 4 + b) else upw w 0 5 (w 0 5 + b)
def pErase (w : Int → Int → Int) (s : Int) : Int → Int → Int :=
  if w 1 s = 2 then upw (upw (upw w 0 4 (w 0 4 - cellB (w 1 s) (w 2 s))) 0 3 (w 0 3 - 1)) 1 s 0 else upw (upw w 0 4 (w 0 4 - cellB (w 1 s) (w 2 s))) 1 s 0
def pWrite (w : Int → Int → Int) (s k len seed link : Int) : Int → Int → Int :=
  if k = 2 then upw (upw (upw (upw (upw (upw w 1 s k) 2 s len) 3 s seed) 4 s link) 0 4 (w 0 4 + cellB k len)) 0 3 (w 0 3 + 1) else upw (upw (upw (upw (upw w 1 s k) 2 s len) 3 s seed) 4 s link) 0 4 (w 0 4 + cellB k len)
def pEmpty (w : Int → Int → Int) (r : Int) : Prop := (0 ≤ r ∧ r ≤ w 0 1) ∧ (∀ i, 0 ≤ i → i < r → w 1 i ≠ 0) ∧ (r < w 0 1 → w 1 r = 0)
def pPut (w : Int → Int → Int) (r k len seed link : Int) : Int → Int → Int :=
  if r < w 0 1 then pWrite (upw (pClaim (upw w 0 0 1) (cellB k len) 0) 0 2 (pClaim (upw w 0 0 1) (cellB k len) 0 0 2 + 1)) r k len seed link
  else pWrite (upw (upw (pClaim (upw w 0 0 1) (cellB k len) 4) 0 1 (r + 1)) 0 2 (pClaim (upw w 0 0 1) (cellB k len) 4 0 2 + 1)) r k len seed link
def pChange (w : Int → Int → Int) (s k len seed link : Int) : Int → Int → Int :=
  if cellB k len ≤ pBytes w s then pWrite (pErase w s) s k len seed link else pWrite (pClaim (pErase w s) (cellB k len) 0) s k len seed link
/-- what copyFrom leaves: all of the other but the count of compactings -/
def pCopy (w u : Int → Int → Int) : Int → Int → Int := fun t j => if t = 0 ∧ j = 8 then w 0 8 else u t j
def pLast (w : Int → Int → Int) (n : Int) : Prop := (0 ≤ n ∧ n ≤ w 0 1) ∧ (∀ i, n ≤ i → i < w 0 1 → w 1 i = 0) ∧ (0 < n → w 1 (n - 1) ≠ 0)
def pFree (w : Int → Int → Int) : Int → Int → Int := upw (upw w 0 0 0) 0 5 0
def pChain (w : Int → Int → Int) (b : Int) : Int → Int → Int := upw (upw (upw w 0 0 2) 0 6 (-1)) 0 7 b
def pRem (w : Int → Int → Int) (s n : Int) : Int → Int → Int :=
  if pErase w s 0 2 - 1 = 0 then pFree (upw (upw (pErase w s) 0 2 (pErase w s 0 2 - 1)) 0 1 n) else upw (upw (pErase w s) 0 2 (pErase w s 0 2 - 1)) 0 1 n
theorem cellB_bd {k len : Int} (h : -1 ≤ len ∧ len ≤ 1200) : 5 ≤ cellB k len ∧ cellB k len ≤ 105 := by
  unfold cellB cellA cellH
  repeat' split
  all_goals omega
theorem pClaim_0 (w : Int → Int → Int) (b sb j : Int) (h5 : j ≠ 5) (h8 : j ≠ 8) : pClaim w b sb 0 j = w 0 j := by
  unfold pClaim; split <;> simp [upw, h5, h8]
theorem pClaim_t (w : Int → Int → Int) (b sb t j : Int) (h : t ≠ 0) : pClaim w b sb t j = w t j := by
  unfold pClaim; split <;> simp [upw, h]
theorem pErase_0 (w : Int → Int → Int) (s j : Int) (h5 : j ≠ 4) (h8 : j ≠ 3) : pErase w s 0 j = w 0 j := by
  unfold pErase; split <;> simp [upw, h5, h8]
theorem pErase_1 (w : Int → Int → Int) (s j : Int) : pErase w s 1 j = if j = s then 0 else w 1 j := by
  unfold pErase; split <;> simp [upw]
theorem pErase_t (w : Int → Int → Int) (s t j : Int) (h : t ≠ 0) (h1 : t ≠ 1) : pErase w s t j = w t j := by
  unfold pErase; split <;> simp [upw, h, h1]
theorem pErase_4 (w : Int → Int → Int) (s : Int) : pErase w s 0 4 = w 0 4 - cellB (w 1 s) (w 2 s) := by
  unfold pErase; split <;> simp [upw]
theorem pErase_3 (w : Int → Int → Int) (s : Int) : pErase w s 0 3 = if w 1 s = 2 then w 0 3 - 1 else w 0 3 := by
  unfold pErase; split <;> simp [upw]
set_option maxHeartbeats 4000000 in
set_option maxRecDepth 100000 in
theorem c_X3_cellBytes (l : Launch) (D : va_G) (cy : ClassId × ClassId) (g : GT) (V : VT) (k n : Int) (hap : Apart g) (hk : 0 ≤ k ∧ k ≤ 3) (hn : -1 ≤ n ∧ n ≤ 1200) : MetI l yX3_cellBytes cX3_cellBytes 4 (some .int) 0 D cy g [vI k, vI n] V (fun r V' => r = cellB k n ∧ V' = V) := by
  refine MetI.of (by decide) (Nat.le_of_ble_eq_true rfl) hap ?_
  intro p_ e_ s_ m_ args_ below_ meth_ c_ C
  refine g_iload_n C 0 rfl dX3_cellBytes_0 ?_
  refine g_iconst C 2 rfl dX3_cellBytes_1 ?_
  refine g_icmp_ne C (by unfold rng; omega) (by unfold rng; omega) 7 dX3_cellBytes_2 (by decide) (fun c2 => ?_) (fun c2 => ?_)
  · refine g_iload_n C 1 rfl dX3_cellBytes_7 ?_
    refine g_bipush C 100 rfl dX3_cellBytes_8 ?_
    refine g_icmp_le C (by unfold rng; omega) (by unfold rng; omega) 18 dX3_cellBytes_10 (by decide) (fun c10 => ?_) (fun c10 => ?_)
    · refine g_iload_n C 1 rfl dX3_cellBytes_18 ?_
      refine g_iconst C 1 rfl dX3_cellBytes_19 ?_
      refine g_iadd C dX3_cellBytes_20 ?_
      refine g_istore_n C [(2, vI (n + 1)), (0, vI k), (1, vI n)] dX3_cellBytes_21 rfl (by decide) rfl ?_
      refine g_iload_n C 1 rfl dX3_cellBytes_22 ?_
      refine g_iconst C 3 rfl dX3_cellBytes_23 ?_
      refine g_icmp_ne C (by unfold rng; omega) (by unfold rng; omega) 33 dX3_cellBytes_24 (by decide) (fun c24 => ?_) (fun c24 => ?_)
      · refine g_iload_n C 0 rfl dX3_cellBytes_33 ?_
        refine g_istore_n C [(3, vI (n + 1)), (2, vI (n + 1)), (0, vI k), (1, vI n)] dX3_cellBytes_34 rfl (by decide) rfl ?_
        refine g_iload_n C 0 rfl dX3_cellBytes_35 ?_
        refine g_iconst C 5 rfl dX3_cellBytes_36 ?_
        refine g_icmp_ge C (by unfold rng; omega) (by unfold rng; omega) 44 dX3_cellBytes_37 (by decide) (fun c37 => ?_) (fun c37 => ?_)
        · refine g_iload_n C 0 rfl dX3_cellBytes_44 ?_
          exact g_iret C dX3_cellBytes_45 ⟨by unfold cellB cellA cellH; repeat' split; all_goals omega, rfl⟩
        · refine g_iconst C 5 rfl dX3_cellBytes_40 ?_
          refine g_goto C 45 dX3_cellBytes_41 (by decide) ?_
          exact g_iret C dX3_cellBytes_45 ⟨by unfold cellB cellA cellH; repeat' split; all_goals omega, rfl⟩
      · refine g_iload_n C 0 rfl dX3_cellBytes_27 ?_
        refine g_iconst C 4 rfl dX3_cellBytes_28 ?_
        refine g_iadd C dX3_cellBytes_29 ?_
        refine g_goto C 34 dX3_cellBytes_30 (by decide) ?_
        refine g_istore_n C [(3, vI ((n + 1) + 4)), (2, vI (n + 1)), (0, vI k), (1, vI n)] dX3_cellBytes_34 rfl (by decide) rfl ?_
        refine g_iload_n C 0 rfl dX3_cellBytes_35 ?_
        refine g_iconst C 5 rfl dX3_cellBytes_36 ?_
        refine g_icmp_ge C (by unfold rng; omega) (by unfold rng; omega) 44 dX3_cellBytes_37 (by decide) (fun c37 => ?_) (fun c37 => ?_)
        · refine g_iload_n C 0 rfl dX3_cellBytes_44 ?_
          exact g_iret C dX3_cellBytes_45 ⟨by unfold cellB cellA cellH; repeat' split; all_goals omega, rfl⟩
        · refine g_iconst C 5 rfl dX3_cellBytes_40 ?_
          refine g_goto C 45 dX3_cellBytes_41 (by decide) ?_
          exact g_iret C dX3_cellBytes_45 ⟨by unfold cellB cellA cellH; repeat' split; all_goals omega, rfl⟩
    · refine g_bipush C 9 rfl dX3_cellBytes_13 ?_
      refine g_goto C 21 dX3_cellBytes_15 (by decide) ?_
      refine g_istore_n C [(2, vI 9), (0, vI k), (1, vI n)] dX3_cellBytes_21 rfl (by decide) rfl ?_
      refine g_iload_n C 1 rfl dX3_cellBytes_22 ?_
      refine g_iconst C 3 rfl dX3_cellBytes_23 ?_
      refine g_icmp_ne C (by unfold rng; omega) (by unfold rng; omega) 33 dX3_cellBytes_24 (by decide) (fun c24 => ?_) (fun c24 => ?_)
      · refine g_iload_n C 0 rfl dX3_cellBytes_33 ?_
        refine g_istore_n C [(3, vI 9), (2, vI 9), (0, vI k), (1, vI n)] dX3_cellBytes_34 rfl (by decide) rfl ?_
        refine g_iload_n C 0 rfl dX3_cellBytes_35 ?_
        refine g_iconst C 5 rfl dX3_cellBytes_36 ?_
        refine g_icmp_ge C (by unfold rng; omega) (by unfold rng; omega) 44 dX3_cellBytes_37 (by decide) (fun c37 => ?_) (fun c37 => ?_)
        · refine g_iload_n C 0 rfl dX3_cellBytes_44 ?_
          exact g_iret C dX3_cellBytes_45 ⟨by unfold cellB cellA cellH; repeat' split; all_goals omega, rfl⟩
        · refine g_iconst C 5 rfl dX3_cellBytes_40 ?_
          refine g_goto C 45 dX3_cellBytes_41 (by decide) ?_
          exact g_iret C dX3_cellBytes_45 ⟨by unfold cellB cellA cellH; repeat' split; all_goals omega, rfl⟩
      · refine g_iload_n C 0 rfl dX3_cellBytes_27 ?_
        refine g_iconst C 4 rfl dX3_cellBytes_28 ?_
        refine g_iadd C dX3_cellBytes_29 ?_
        refine g_goto C 34 dX3_cellBytes_30 (by decide) ?_
        refine g_istore_n C [(3, vI (9 + 4)), (2, vI 9), (0, vI k), (1, vI n)] dX3_cellBytes_34 rfl (by decide) rfl ?_
        refine g_iload_n C 0 rfl dX3_cellBytes_35 ?_
        refine g_iconst C 5 rfl dX3_cellBytes_36 ?_
        refine g_icmp_ge C (by unfold rng; omega) (by unfold rng; omega) 44 dX3_cellBytes_37 (by decide) (fun c37 => ?_) (fun c37 => ?_)
        · refine g_iload_n C 0 rfl dX3_cellBytes_44 ?_
          exact g_iret C dX3_cellBytes_45 ⟨by unfold cellB cellA cellH; repeat' split; all_goals omega, rfl⟩
        · refine g_iconst C 5 rfl dX3_cellBytes_40 ?_
          refine g_goto C 45 dX3_cellBytes_41 (by decide) ?_
          exact g_iret C dX3_cellBytes_45 ⟨by unfold cellB cellA cellH; repeat' split; all_goals omega, rfl⟩
  · refine g_iconst C 5 rfl dX3_cellBytes_5 ?_
    exact g_iret C dX3_cellBytes_6 ⟨by unfold cellB cellA cellH; repeat' split; all_goals omega, rfl⟩
set_option maxHeartbeats 4000000 in
set_option maxRecDepth 100000 in
theorem c_X1_room (l : Launch) (D : va_G) (cy : ClassId × ClassId) (g : GT) (V : VT) (w : Int → Int → Int) (a : Nat) (o : Int) (hap : Apart g) (hp : isPg g a o) : MetI l yX1_room cX1_room 1 (some .int) 0 D cy g [.ref a] (setp V o w) (fun r V' => r = pRoom w ∧ V' = setp V o w) := by
  obtain ⟨hp1, r1, r2, r3, r4, ⟨hr1, ha1⟩, ⟨hr2, ha2⟩, ⟨hr3, ha3⟩, ⟨hr4, ha4⟩⟩ := id hp
  refine MetI.of (by decide) (Nat.le_of_ble_eq_true rfl) hap ?_
  intro p_ e_ s_ m_ args_ below_ meth_ c_ C
  refine g_sipush C 248 rfl dX1_room_0 ?_
  refine g_iconst C 4 rfl dX1_room_3 ?_
  refine g_aload_n C 0 rfl dX1_room_4 ?_
  refine sf_Page_slots C (w 0 1) hp1 rfl lf_X1_15 dX1_room_5 ?_
  refine g_imul C dX1_room_8 ?_
  refine g_isub C dX1_room_9 ?_
  refine g_aload_n C 0 rfl dX1_room_10 ?_
  refine sf_Page_used C (w 0 4) hp1 rfl lf_X1_24 dX1_room_11 ?_
  refine g_isub C dX1_room_14 ?_
  exact g_iret C dX1_room_15 ⟨rfl, rfl⟩
set_option maxHeartbeats 4000000 in
set_option maxRecDepth 100000 in
theorem c_X1_takesNewCells (l : Launch) (D : va_G) (cy : ClassId × ClassId) (g : GT) (V : VT) (w : Int → Int → Int) (a : Nat) (o : Int) (hap : Apart g) (hp : isPg g a o) (hw : pwf w) : MetI l yX1_takesNewCells cX1_takesNewCells 1 (some .boolean) 0 D cy g [.ref a] (setp V o w) (fun r V' => r = (if w 0 0 = 1 ∧ w 0 2 < 32 then 1 else 0) ∧ V' = setp V o w) := by
  obtain ⟨hp1, r1, r2, r3, r4, ⟨hr1, ha1⟩, ⟨hr2, ha2⟩, ⟨hr3, ha3⟩, ⟨hr4, ha4⟩⟩ := id hp
  obtain ⟨z0, z1, z2, z3, z4, z5, z6⟩ := id hw
  simp only [sm] at z0 z2 z3 z4 z5
  refine MetI.of (by decide) (Nat.le_of_ble_eq_true rfl) hap ?_
  intro p_ e_ s_ m_ args_ below_ meth_ c_ C
  refine g_aload_n C 0 rfl dX1_takesNewCells_0 ?_
  refine sf_Page_kind C (w 0 0) hp1 rfl lf_X1_9 dX1_takesNewCells_1 ?_
  refine g_iconst C 1 rfl dX1_takesNewCells_4 ?_
  refine g_icmp_ne C (by unfold rng; omega) (by unfold rng; omega) 21 dX1_takesNewCells_5 (by decide) (fun c5 => ?_) (fun c5 => ?_)
  · refine g_iconst C 0 rfl dX1_takesNewCells_21 ?_
    exact g_zret C (by omega) dX1_takesNewCells_22 ⟨by first | rw [if_pos ⟨by omega, by omega⟩] | rw [if_neg (by omega)], rfl⟩
  · refine g_aload_n C 0 rfl dX1_takesNewCells_8 ?_
    refine sf_Page_cells C (w 0 2) hp1 rfl lf_X1_18 dX1_takesNewCells_9 ?_
    refine g_bipush C 32 rfl dX1_takesNewCells_12 ?_
    refine g_icmp_ge C (by unfold rng; omega) (by unfold rng; omega) 21 dX1_takesNewCells_14 (by decide) (fun c14 => ?_) (fun c14 => ?_)
    · refine g_iconst C 0 rfl dX1_takesNewCells_21 ?_
      exact g_zret C (by omega) dX1_takesNewCells_22 ⟨by first | rw [if_pos ⟨by omega, by omega⟩] | rw [if_neg (by omega)], rfl⟩
    · refine g_iconst C 1 rfl dX1_takesNewCells_17 ?_
      refine g_goto C 22 dX1_takesNewCells_18 (by decide) ?_
      exact g_zret C (by omega) dX1_takesNewCells_22 ⟨by first | rw [if_pos ⟨by omega, by omega⟩] | rw [if_neg (by omega)], rfl⟩
set_option maxHeartbeats 4000000 in
set_option maxRecDepth 100000 in
theorem c_X1_bytesAt (l : Launch) (D : va_G) (cy : ClassId × ClassId) (g : GT) (V : VT) (w : Int → Int → Int) (a : Nat) (o : Int) (s : Int) (hap : Apart g) (hp : isPg g a o) (hs : 0 ≤ s ∧ s < 32) (hw : pwf w) : MetI l yX1_bytesAt cX1_bytesAt 2 (some .int) 1 D cy g [.ref a, vI s] (setp V o w) (fun r V' => r = pBytes w s ∧ V' = setp V o w) := by
  obtain ⟨hp1, r1, r2, r3, r4, ⟨hr1, ha1⟩, ⟨hr2, ha2⟩, ⟨hr3, ha3⟩, ⟨hr4, ha4⟩⟩ := id hp
  obtain ⟨z0, z1, z2, z3, z4, z5, z6⟩ := id hw
  simp only [sm] at z0 z2 z3 z4 z5
  have z7 := z6 s hs.1 hs.2
  refine MetI.of (by decide) (Nat.le_of_ble_eq_true rfl) hap ?_
  intro p_ e_ s_ m_ args_ below_ meth_ c_ C
  refine g_aload_n C 0 rfl dX1_bytesAt_0 ?_
  refine gf_Page_kinds C hp1 hr1 lf_X1_39 dX1_bytesAt_1 ?_
  refine g_iload_n C 1 rfl dX1_bytesAt_4 ?_
  refine s_iald C (w 1 s) ha1 (by omega) (by decide) rfl dX1_bytesAt_5 ?_
  refine g_aload_n C 0 rfl dX1_bytesAt_6 ?_
  refine gf_Page_lengths C hp1 hr2 lf_X1_43 dX1_bytesAt_7 ?_
  refine g_iload_n C 1 rfl dX1_bytesAt_10 ?_
  refine s_iald C (w 2 s) ha2 (by omega) (by decide) rfl dX1_bytesAt_11 ?_
  refine g_callNI C [vI (w 1 s), vI (w 2 s)] [] (c_X3_cellBytes l D cy g _ (w 1 s) (w 2 s) hap (by omega) (by omega)) lm_X1_73 rfl (Nat.le_of_ble_eq_true rfl) ⟨(Nat.le_of_ble_eq_true rfl), (Nat.le_of_ble_eq_true rfl)⟩ ⟨Nat.zero_le _, Nat.zero_le _⟩ dX1_bytesAt_12 ?_
  rintro _ _ ⟨rfl, rfl⟩
  exact g_iret C dX1_bytesAt_15 ⟨rfl, rfl⟩
set_option maxHeartbeats 4000000 in
set_option maxRecDepth 100000 in
theorem c_X1_hasRoomInstead (l : Launch) (D : va_G) (cy : ClassId × ClassId) (g : GT) (V : VT) (w : Int → Int → Int) (a : Nat) (o : Int) (s b : Int) (hap : Apart g) (hp : isPg g a o) (hs : 0 ≤ s ∧ s < 32) (hw : pwf w) (hb : sm b) : MetI l yX1_hasRoomInstead cX1_hasRoomInstead 3 (some .boolean) 2 D cy g [.ref a, vI s, vI b] (setp V o w) (fun r V' => r = (if b ≤ pRoom w + pBytes w s then 1 else 0) ∧ V' = setp V o w) := by
  obtain ⟨hp1, r1, r2, r3, r4, ⟨hr1, ha1⟩, ⟨hr2, ha2⟩, ⟨hr3, ha3⟩, ⟨hr4, ha4⟩⟩ := id hp
  obtain ⟨z0, z1, z2, z3, z4, z5, z6⟩ := id hw
  simp only [sm] at z0 z2 z3 z4 z5
  have z7 := z6 s hs.1 hs.2
  have z8 := cellB_bd (k := w 1 s) z7.2
  simp only [sm] at hb
  refine MetI.of (by decide) (Nat.le_of_ble_eq_true rfl) hap ?_
  intro p_ e_ s_ m_ args_ below_ meth_ c_ C
  refine g_aload_n C 0 rfl dX1_hasRoomInstead_0 ?_
  refine g_callI C [] [] (c_X1_room l D cy g V w a o hap hp) lm_X1_58 (rcv_Page hp.1) rfl (Nat.le_of_ble_eq_true rfl) ⟨(Nat.le_of_ble_eq_true rfl), (Nat.le_of_ble_eq_true rfl)⟩ ⟨Nat.zero_le _, Nat.zero_le _⟩ dX1_hasRoomInstead_1 ?_
  rintro _ _ ⟨rfl, rfl⟩
  refine g_aload_n C 0 rfl dX1_hasRoomInstead_4 ?_
  refine g_iload_n C 1 rfl dX1_hasRoomInstead_5 ?_
  refine g_callI C [vI s] [vI (pRoom w)] (c_X1_bytesAt l D cy g V w a o s hap hp hs hw) lm_X1_62 (rcv_Page hp.1) rfl (Nat.le_of_ble_eq_true rfl) ⟨(Nat.le_of_ble_eq_true rfl), (Nat.le_of_ble_eq_true rfl)⟩ ⟨Nat.zero_le _, Nat.zero_le _⟩ dX1_hasRoomInstead_6 ?_
  rintro _ _ ⟨rfl, rfl⟩
  refine g_iadd C dX1_hasRoomInstead_9 ?_
  refine g_iload_n C 2 rfl dX1_hasRoomInstead_10 ?_
  refine g_icmp_lt C (by unfold rng pRoom; unfold pBytes; omega) (by unfold rng; omega) 18 dX1_hasRoomInstead_11 (by decide) (fun c11 => ?_) (fun c11 => ?_)
  · refine g_iconst C 0 rfl dX1_hasRoomInstead_18 ?_
    exact g_zret C (by omega) dX1_hasRoomInstead_19 ⟨by first | rw [if_pos (by omega)] | rw [if_neg (by omega)], rfl⟩
  · refine g_iconst C 1 rfl dX1_hasRoomInstead_14 ?_
    refine g_goto C 19 dX1_hasRoomInstead_15 (by decide) ?_
    exact g_zret C (by omega) dX1_hasRoomInstead_19 ⟨by first | rw [if_pos (by omega)] | rw [if_neg (by omega)], rfl⟩
set_option maxHeartbeats 4000000 in
set_option maxRecDepth 100000 in
theorem c_X1_hasHome (l : Launch) (D : va_G) (cy : ClassId × ClassId) (g : GT) (V : VT) (w : Int → Int → Int) (a : Nat) (o : Int) (s : Int) (hap : Apart g) (hp : isPg g a o) (hs : 0 ≤ s ∧ s < 32) (hw : pwf w) : MetI l yX1_hasHome cX1_hasHome 2 (some .boolean) 0 D cy g [.ref a, vI s] (setp V o w) (fun r V' => r = (if w 1 s = 1 ∨ w 1 s = 2 then 1 else 0) ∧ V' = setp V o w) := by
  obtain ⟨hp1, r1, r2, r3, r4, ⟨hr1, ha1⟩, ⟨hr2, ha2⟩, ⟨hr3, ha3⟩, ⟨hr4, ha4⟩⟩ := id hp
  obtain ⟨z0, z1, z2, z3, z4, z5, z6⟩ := id hw
  simp only [sm] at z0 z2 z3 z4 z5
  have z7 := z6 s hs.1 hs.2
  refine MetI.of (by decide) (Nat.le_of_ble_eq_true rfl) hap ?_
  intro p_ e_ s_ m_ args_ below_ meth_ c_ C
  refine g_aload_n C 0 rfl dX1_hasHome_0 ?_
  refine gf_Page_kinds C hp1 hr1 lf_X1_39 dX1_hasHome_1 ?_
  refine g_iload_n C 1 rfl dX1_hasHome_4 ?_
  refine s_iald C (w 1 s) ha1 (by omega) (by decide) rfl dX1_hasHome_5 ?_
  refine g_iconst C 1 rfl dX1_hasHome_6 ?_
  refine g_icmp_eq C (by unfold rng; omega) (by unfold rng; omega) 20 dX1_hasHome_7 (by decide) (fun c7 => ?_) (fun c7 => ?_)
  · refine g_iconst C 1 rfl dX1_hasHome_20 ?_
    refine g_goto C 25 dX1_hasHome_21 (by decide) ?_
    exact g_zret C (by omega) dX1_hasHome_25 ⟨by first | rw [if_pos (by omega)] | rw [if_neg (by omega)], rfl⟩
  · refine g_aload_n C 0 rfl dX1_hasHome_10 ?_
    refine gf_Page_kinds C hp1 hr1 lf_X1_39 dX1_hasHome_11 ?_
    refine g_iload_n C 1 rfl dX1_hasHome_14 ?_
    refine s_iald C (w 1 s) ha1 (by omega) (by decide) rfl dX1_hasHome_15 ?_
    refine g_iconst C 2 rfl dX1_hasHome_16 ?_
    refine g_icmp_ne C (by unfold rng; omega) (by unfold rng; omega) 24 dX1_hasHome_17 (by decide) (fun c17 => ?_) (fun c17 => ?_)
    · refine g_iconst C 0 rfl dX1_hasHome_24 ?_
      exact g_zret C (by omega) dX1_hasHome_25 ⟨by first | rw [if_pos (by omega)] | rw [if_neg (by omega)], rfl⟩
    · refine g_iconst C 1 rfl dX1_hasHome_20 ?_
      refine g_goto C 25 dX1_hasHome_21 (by decide) ?_
      exact g_zret C (by omega) dX1_hasHome_25 ⟨by first | rw [if_pos (by omega)] | rw [if_neg (by omega)], rfl⟩
set_option maxHeartbeats 4000000 in
set_option maxRecDepth 100000 in
theorem c_X1_firstHomeFrom (l : Launch) (D : va_G) (cy : ClassId × ClassId) (g : GT) (V : VT) (w : Int → Int → Int) (a : Nat) (o : Int) (s : Int) (hap : Apart g) (hp : isPg g a o) (hs : 0 ≤ s ∧ s < 1000) (hw : pwf w) : MetI l yX1_firstHomeFrom cX1_firstHomeFrom 3 (some .int) 1 D cy g [.ref a, vI s] (setp V o w) (fun r V' => V' = setp V o w ∧ ((r = -1 ∧ ∀ j, s ≤ j → j < w 0 1 → ¬ pHome w j) ∨ (s ≤ r ∧ r < w 0 1 ∧ pHome w r ∧ ∀ j, s ≤ j → j < r → ¬ pHome w j))) := by
  obtain ⟨hp1, r1, r2, r3, r4, ⟨hr1, ha1⟩, ⟨hr2, ha2⟩, ⟨hr3, ha3⟩, ⟨hr4, ha4⟩⟩ := id hp
  obtain ⟨z0, z1, z2, z3, z4, z5, z6⟩ := id hw
  simp only [sm] at z0 z2 z3 z4 z5
  refine MetI.of (by decide) (Nat.le_of_ble_eq_true rfl) hap ?_
  intro p_ e_ s_ m_ args_ below_ meth_ c_ C
  have loop : ∀ (n : Nat) (i : Int), s ≤ i ∧ i < 1000 → w 0 1 - i ≤ n → (∀ j, s ≤ j → j < i → ¬ pHome w j) → G p_ l e_ (rmd 1) s_ m_ args_ below_ meth_ c_ 3 0 0 (MQ below_ (QcI D cy g (fun r V' => V' = setp V o w ∧ ((r = -1 ∧ ∀ j, s ≤ j → j < w 0 1 → ¬ pHome w j) ∨ (s ≤ r ∧ r < w 0 1 ∧ pHome w r ∧ ∀ j, s ≤ j → j < r → ¬ pHome w j)))) args_ s_ 0 0 (fun q => q ∈ gL g)) D cy g (fun q => q ∈ gL g) s_.heap (setp V o w) 2 [(2, vI i), (0, .ref a), (1, vI s)] [] := by
    intro n
    induction n with
    | zero =>
      intro i h1 h3 h4
      refine g_iload_n C 0 rfl dX1_firstHomeFrom_2 ?_
      refine g_aload_n C 1 rfl dX1_firstHomeFrom_3 ?_
      refine sf_Page_slots C (w 0 1) hp1 rfl lf_X1_15 dX1_firstHomeFrom_4 ?_
      refine g_icmp_ge C (by unfold rng; omega) (by unfold rng; omega) 26 dX1_firstHomeFrom_7 (by decide) (fun c7 => ?_) (fun c7 => absurd c7 (by omega))
      refine g_iconst C (-1) rfl dX1_firstHomeFrom_26 ?_
      exact g_iret C dX1_firstHomeFrom_27 ⟨rfl, Or.inl ⟨rfl, fun j h1 h2 => h4 j h1 (by omega)⟩⟩
    | succ n ih =>
      intro i h1 h3 h4
      refine g_iload_n C 0 rfl dX1_firstHomeFrom_2 ?_
      refine g_aload_n C 1 rfl dX1_firstHomeFrom_3 ?_
      refine sf_Page_slots C (w 0 1) hp1 rfl lf_X1_15 dX1_firstHomeFrom_4 ?_
      refine g_icmp_ge C (by unfold rng; omega) (by unfold rng; omega) 26 dX1_firstHomeFrom_7 (by decide) (fun c7 => ?_) (fun c7 => ?_)
      · refine g_iconst C (-1) rfl dX1_firstHomeFrom_26 ?_
        exact g_iret C dX1_firstHomeFrom_27 ⟨rfl, Or.inl ⟨rfl, fun j h1 h2 => h4 j h1 (by omega)⟩⟩
      · refine g_aload_n C 1 rfl dX1_firstHomeFrom_10 ?_
        refine g_iload_n C 0 rfl dX1_firstHomeFrom_11 ?_
        refine g_callI C [vI i] [] (c_X1_hasHome l D cy g V w a o i hap hp ⟨by omega, by omega⟩ hw) lm_X1_66 (rcv_Page hp.1) rfl (Nat.le_of_ble_eq_true rfl) ⟨(Nat.le_of_ble_eq_true rfl), (Nat.le_of_ble_eq_true rfl)⟩ ⟨Nat.zero_le _, Nat.zero_le _⟩ dX1_firstHomeFrom_12 ?_
        rintro _ _ ⟨rfl, rfl⟩
        refine g_if_eq C (by split <;> exact ⟨by decide, by decide⟩) 20 dX1_firstHomeFrom_15 (by decide) (fun c15 => ?_) (fun c15 => ?_)
        · refine g_iinc C [(2, vI (i + 1)), (0, .ref a), (1, vI s)] 0 rfl dX1_firstHomeFrom_20 (by decide) rfl ?_
          refine g_goto C 2 dX1_firstHomeFrom_23 (by decide) ?_
          refine g_sub [0, 1, 2] rfl ?_
          refine ih (i + 1) (by omega) (by omega) (fun j h1 h2 => ?_)
          by_cases hj : j = i
          · subst hj; intro hh; unfold pHome at hh; rw [if_pos hh] at c15; exact absurd c15 (by decide)
          · exact h4 j h1 (by omega)
        · refine g_iload_n C 0 rfl dX1_firstHomeFrom_18 ?_
          refine g_iret C dX1_firstHomeFrom_19 ⟨rfl, Or.inr ⟨by omega, by omega, ?_, h4⟩⟩
          by_cases hh : w 1 i = 1 ∨ w 1 i = 2
          · exact hh
          · rw [if_neg hh] at c15; exact absurd rfl c15
  refine g_iload_n C 1 rfl dX1_firstHomeFrom_0 ?_
  refine g_istore_n C [(2, vI s), (0, .ref a), (1, vI s)] dX1_firstHomeFrom_1 rfl (by decide) rfl ?_
  exact loop (w 0 1 - s).toNat s (by omega) (by omega) (fun j h1 h2 => absurd h1 (by omega))
set_option maxHeartbeats 4000000 in
set_option maxRecDepth 100000 in
theorem c_X1_leastEmptySlot (l : Launch) (D : va_G) (cy : ClassId × ClassId) (g : GT) (V : VT) (w : Int → Int → Int) (a : Nat) (o : Int) (hap : Apart g) (hp : isPg g a o) (hw : pwf w) : MetI l yX1_leastEmptySlot cX1_leastEmptySlot 2 (some .int) 0 D cy g [.ref a] (setp V o w) (fun r V' => V' = setp V o w ∧ pEmpty w r) := by
  obtain ⟨hp1, r1, r2, r3, r4, ⟨hr1, ha1⟩, ⟨hr2, ha2⟩, ⟨hr3, ha3⟩, ⟨hr4, ha4⟩⟩ := id hp
  obtain ⟨z0, z1, z2, z3, z4, z5, z6⟩ := id hw
  simp only [sm] at z0 z2 z3 z4 z5
  refine MetI.of (by decide) (Nat.le_of_ble_eq_true rfl) hap ?_
  intro p_ e_ s_ m_ args_ below_ meth_ c_ C
  have loop : ∀ (n : Nat) (i : Int), 0 ≤ i ∧ i ≤ w 0 1 → w 0 1 - i ≤ n → (∀ j, 0 ≤ j → j < i → w 1 j ≠ 0) → G p_ l e_ (rmd 0) s_ m_ args_ below_ meth_ c_ 2 0 0 (MQ below_ (QcI D cy g (fun r V' => V' = setp V o w ∧ pEmpty w r)) args_ s_ 0 0 (fun q => q ∈ gL g)) D cy g (fun q => q ∈ gL g) s_.heap (setp V o w) 2 [(1, vI i), (0, .ref a)] [] := by
    intro n
    induction n with
    | zero =>
      intro i h1 h3 h4
      refine g_iload_n C 0 rfl dX1_leastEmptySlot_2 ?_
      refine g_aload_n C 1 rfl dX1_leastEmptySlot_3 ?_
      refine sf_Page_slots C (w 0 1) hp1 rfl lf_X1_15 dX1_leastEmptySlot_4 ?_
      refine g_icmp_ge C (by unfold rng; omega) (by unfold rng; omega) 27 dX1_leastEmptySlot_7 (by decide) (fun c7 => ?_) (fun c7 => absurd c7 (by omega))
      refine g_aload_n C 1 rfl dX1_leastEmptySlot_27 ?_
      refine sf_Page_slots C (w 0 1) hp1 rfl lf_X1_15 dX1_leastEmptySlot_28 ?_
      exact g_iret C dX1_leastEmptySlot_31 ⟨rfl, by omega, fun j q1 q2 => h4 j q1 (by omega), fun q => absurd q (by omega)⟩
    | succ n ih =>
      intro i h1 h3 h4
      refine g_iload_n C 0 rfl dX1_leastEmptySlot_2 ?_
      refine g_aload_n C 1 rfl dX1_leastEmptySlot_3 ?_
      refine sf_Page_slots C (w 0 1) hp1 rfl lf_X1_15 dX1_leastEmptySlot_4 ?_
      refine g_icmp_ge C (by unfold rng; omega) (by unfold rng; omega) 27 dX1_leastEmptySlot_7 (by decide) (fun c7 => ?_) (fun c7 => ?_)
      · refine g_aload_n C 1 rfl dX1_leastEmptySlot_27 ?_
        refine sf_Page_slots C (w 0 1) hp1 rfl lf_X1_15 dX1_leastEmptySlot_28 ?_
        exact g_iret C dX1_leastEmptySlot_31 ⟨rfl, by omega, fun j q1 q2 => h4 j q1 (by omega), fun q => absurd q (by omega)⟩
      · refine g_aload_n C 1 rfl dX1_leastEmptySlot_10 ?_
        refine gf_Page_kinds C hp1 hr1 lf_X1_39 dX1_leastEmptySlot_11 ?_
        refine g_iload_n C 0 rfl dX1_leastEmptySlot_14 ?_
        refine s_iald C (w 1 i) ha1 (by omega) (by decide) rfl dX1_leastEmptySlot_15 ?_
        refine g_if_ne C (by have z7 := z6 i (by omega) (by omega); unfold rng; omega) 21 dX1_leastEmptySlot_16 (by decide) (fun c16 => ?_) (fun c16 => ?_)
        · refine g_iinc C [(1, vI (i + 1)), (0, .ref a)] 0 rfl dX1_leastEmptySlot_21 (by decide) rfl ?_
          refine g_goto C 2 dX1_leastEmptySlot_24 (by decide) ?_
          refine ih (i + 1) (by omega) (by omega) (fun j q1 q2 => ?_)
          by_cases hj : j = i
          · subst hj; exact c16
          · exact h4 j q1 (by omega)
        · refine g_iload_n C 0 rfl dX1_leastEmptySlot_19 ?_
          exact g_iret C dX1_leastEmptySlot_20 ⟨rfl, by omega, h4, fun _ => c16⟩
  refine g_iconst C 0 rfl dX1_leastEmptySlot_0 ?_
  refine g_istore_n C [(1, vI 0), (0, .ref a)] dX1_leastEmptySlot_1 rfl (by decide) rfl ?_
  exact loop (w 0 1).toNat 0 (by omega) (by omega) (fun j q1 q2 => absurd q1 (by omega))
set_option maxHeartbeats 4000000 in
set_option maxRecDepth 100000 in
theorem c_X1_claimEnd (l : Launch) (D : va_G) (cy : ClassId × ClassId) (g : GT) (V : VT) (w : Int → Int → Int) (a : Nat) (o : Int) (b q : Int) (hap : Apart g) (hp : isPg g a o) (hw : pwf w) (hb : sm b) (hq : sm q) : MetV l yX1_claimEnd cX1_claimEnd 3 none 0 D cy g [.ref a, vI b, vI q] (setp V o w) (fun V' => V' = setp V o (pClaim w b q)) := by
  obtain ⟨hp1, r1, r2, r3, r4, ⟨hr1, ha1⟩, ⟨hr2, ha2⟩, ⟨hr3, ha3⟩, ⟨hr4, ha4⟩⟩ := id hp
  obtain ⟨z0, z1, z2, z3, z4, z5, z6⟩ := id hw
  simp only [sm] at z0 z2 z3 z4 z5
  simp only [sm] at hb hq
  refine MetV.of (by decide) (Nat.le_of_ble_eq_true rfl) hap ?_
  intro p_ e_ s_ m_ args_ below_ meth_ c_ C
  refine g_aload_n C 0 rfl dX1_claimEnd_0 ?_
  refine sf_Page_end C (w 0 5) hp1 rfl lf_X1_27 dX1_claimEnd_1 ?_
  refine g_iload_n C 1 rfl dX1_claimEnd_4 ?_
  refine g_iadd C dX1_claimEnd_5 ?_
  refine g_iload_n C 2 rfl dX1_claimEnd_6 ?_
  refine g_iadd C dX1_claimEnd_7 ?_
  refine g_sipush C 248 rfl dX1_claimEnd_8 ?_
  refine g_iconst C 4 rfl dX1_claimEnd_11 ?_
  refine g_aload_n C 0 rfl dX1_claimEnd_12 ?_
  refine sf_Page_slots C (w 0 1) hp1 rfl lf_X1_15 dX1_claimEnd_13 ?_
  refine g_imul C dX1_claimEnd_16 ?_
  refine g_isub C dX1_claimEnd_17 ?_
  refine g_icmp_le C (by unfold rng; omega) (by unfold rng; omega) 39 dX1_claimEnd_18 (by decide) (fun c18 => ?_) (fun c18 => ?_)
  · refine g_aload_n C 0 rfl dX1_claimEnd_39 ?_
    refine g_dupR C dX1_claimEnd_40 ?_
    refine sf_Page_end C (w 0 5) hp1 rfl lf_X1_27 dX1_claimEnd_41 ?_
    refine g_iload_n C 1 rfl dX1_claimEnd_44 ?_
    refine g_iadd C dX1_claimEnd_45 ?_
    refine sp_Page_end C hp1 lf_X1_27 dX1_claimEnd_46 ?_
    refine g_vret C dX1_claimEnd_49 ?_
    congr 1
    unfold pClaim
    first | rw [if_pos (by omega)] | rw [if_neg (by omega)]
  · refine g_aload_n C 0 rfl dX1_claimEnd_21 ?_
    refine g_aload_n C 0 rfl dX1_claimEnd_22 ?_
    refine sf_Page_used C (w 0 4) hp1 rfl lf_X1_24 dX1_claimEnd_23 ?_
    refine sp_Page_end C hp1 lf_X1_27 dX1_claimEnd_26 ?_
    refine g_aload_n C 0 rfl dX1_claimEnd_29 ?_
    refine g_dupR C dX1_claimEnd_30 ?_
    refine sf_Page_compactings C (w 0 8) hp1 (by simp [upw]) lf_X1_36 dX1_claimEnd_31 ?_
    refine g_iconst C 1 rfl dX1_claimEnd_34 ?_
    refine g_iadd C dX1_claimEnd_35 ?_
    refine sp_Page_compactings C hp1 lf_X1_36 dX1_claimEnd_36 ?_
    refine g_aload_n C 0 rfl dX1_claimEnd_39 ?_
    refine g_dupR C dX1_claimEnd_40 ?_
    refine sf_Page_end C (w 0 4) hp1 (by simp [upw]) lf_X1_27 dX1_claimEnd_41 ?_
    refine g_iload_n C 1 rfl dX1_claimEnd_44 ?_
    refine g_iadd C dX1_claimEnd_45 ?_
    refine sp_Page_end C hp1 lf_X1_27 dX1_claimEnd_46 ?_
    refine g_vret C dX1_claimEnd_49 ?_
    congr 1
    unfold pClaim
    first | rw [if_pos (by omega)] | rw [if_neg (by omega)]
set_option maxHeartbeats 4000000 in
set_option maxRecDepth 100000 in
theorem c_X1_erase (l : Launch) (D : va_G) (cy : ClassId × ClassId) (g : GT) (V : VT) (w : Int → Int → Int) (a : Nat) (o : Int) (s : Int) (hap : Apart g) (hp : isPg g a o) (hs : 0 ≤ s ∧ s < 32) (hw : pwf w) : MetV l yX1_erase cX1_erase 2 none 1 D cy g [.ref a, vI s] (setp V o w) (fun V' => V' = setp V o (pErase w s)) := by
  obtain ⟨hp1, r1, r2, r3, r4, ⟨hr1, ha1⟩, ⟨hr2, ha2⟩, ⟨hr3, ha3⟩, ⟨hr4, ha4⟩⟩ := id hp
  obtain ⟨z0, z1, z2, z3, z4, z5, z6⟩ := id hw
  simp only [sm] at z0 z2 z3 z4 z5
  have z7 := z6 s hs.1 hs.2
  refine MetV.of (by decide) (Nat.le_of_ble_eq_true rfl) hap ?_
  intro p_ e_ s_ m_ args_ below_ meth_ c_ C
  refine g_aload_n C 0 rfl dX1_erase_0 ?_
  refine g_dupR C dX1_erase_1 ?_
  refine sf_Page_used C (w 0 4) hp1 rfl lf_X1_24 dX1_erase_2 ?_
  refine g_aload_n C 0 rfl dX1_erase_5 ?_
  refine gf_Page_kinds C hp1 hr1 lf_X1_39 dX1_erase_6 ?_
  refine g_iload_n C 1 rfl dX1_erase_9 ?_
  refine s_iald C (w 1 s) ha1 (by omega) (by decide) rfl dX1_erase_10 ?_
  refine g_aload_n C 0 rfl dX1_erase_11 ?_
  refine gf_Page_lengths C hp1 hr2 lf_X1_43 dX1_erase_12 ?_
  refine g_iload_n C 1 rfl dX1_erase_15 ?_
  refine s_iald C (w 2 s) ha2 (by omega) (by decide) rfl dX1_erase_16 ?_
  refine g_callNI C [vI (w 1 s), vI (w 2 s)] [vI (w 0 4), .ref a] (c_X3_cellBytes l D cy g _ (w 1 s) (w 2 s) hap (by omega) (by omega)) lm_X1_73 rfl (Nat.le_of_ble_eq_true rfl) ⟨(Nat.le_of_ble_eq_true rfl), (Nat.le_of_ble_eq_true rfl)⟩ ⟨Nat.zero_le _, Nat.zero_le _⟩ dX1_erase_17 ?_
  rintro _ _ ⟨rfl, rfl⟩
  refine g_isub C dX1_erase_20 ?_
  refine sp_Page_used C hp1 lf_X1_24 dX1_erase_21 ?_
  refine g_aload_n C 0 rfl dX1_erase_24 ?_
  refine gf_Page_kinds C hp1 hr1 lf_X1_39 dX1_erase_25 ?_
  refine g_iload_n C 1 rfl dX1_erase_28 ?_
  refine s_iald C (w 1 s) ha1 (by omega) (by decide) (by simp [upw]) dX1_erase_29 ?_
  refine g_iconst C 2 rfl dX1_erase_30 ?_
  refine g_icmp_ne C (by unfold rng; omega) (by unfold rng; omega) 44 dX1_erase_31 (by decide) (fun c31 => ?_) (fun c31 => ?_)
  · refine g_aload_n C 0 rfl dX1_erase_44 ?_
    refine gf_Page_kinds C hp1 hr1 lf_X1_39 dX1_erase_45 ?_
    refine g_iload_n C 1 rfl dX1_erase_48 ?_
    refine g_iconst C 0 rfl dX1_erase_49 ?_
    refine s_iast C ha1 (by omega) (by decide) dX1_erase_50 ?_
    refine g_vret C dX1_erase_51 ?_
    congr 1
    unfold pErase
    first | rw [if_pos (by omega)] | rw [if_neg (by omega)]
  · refine g_aload_n C 0 rfl dX1_erase_34 ?_
    refine g_dupR C dX1_erase_35 ?_
    refine sf_Page_stubs C (w 0 3) hp1 (by simp [upw]) lf_X1_21 dX1_erase_36 ?_
    refine g_iconst C 1 rfl dX1_erase_39 ?_
    refine g_isub C dX1_erase_40 ?_
    refine sp_Page_stubs C hp1 lf_X1_21 dX1_erase_41 ?_
    refine g_aload_n C 0 rfl dX1_erase_44 ?_
    refine gf_Page_kinds C hp1 hr1 lf_X1_39 dX1_erase_45 ?_
    refine g_iload_n C 1 rfl dX1_erase_48 ?_
    refine g_iconst C 0 rfl dX1_erase_49 ?_
    refine s_iast C ha1 (by omega) (by decide) dX1_erase_50 ?_
    refine g_vret C dX1_erase_51 ?_
    congr 1
    unfold pErase
    first | rw [if_pos (by omega)] | rw [if_neg (by omega)]
set_option maxHeartbeats 4000000 in
set_option maxRecDepth 100000 in
theorem c_X1_write (l : Launch) (D : va_G) (cy : ClassId × ClassId) (g : GT) (V : VT) (w : Int → Int → Int) (a : Nat) (o : Int) (s k n sd lk : Int) (hap : Apart g) (hp : isPg g a o) (hs : 0 ≤ s ∧ s < 32) (hk : 0 ≤ k ∧ k ≤ 3) (hn : -1 ≤ n ∧ n ≤ 1200) : MetV l yX1_write cX1_write 6 none 1 D cy g [.ref a, vI s, vI k, vI n, vI sd, vI lk] (setp V o w) (fun V' => V' = setp V o (pWrite w s k n sd lk)) := by
  obtain ⟨hp1, r1, r2, r3, r4, ⟨hr1, ha1⟩, ⟨hr2, ha2⟩, ⟨hr3, ha3⟩, ⟨hr4, ha4⟩⟩ := id hp
  refine MetV.of (by decide) (Nat.le_of_ble_eq_true rfl) hap ?_
  intro p_ e_ s_ m_ args_ below_ meth_ c_ C
  refine g_aload_n C 0 rfl dX1_write_0 ?_
  refine gf_Page_kinds C hp1 hr1 lf_X1_39 dX1_write_1 ?_
  refine g_iload_n C 1 rfl dX1_write_4 ?_
  refine g_iload_n C 2 rfl dX1_write_5 ?_
  refine s_iast C ha1 (by omega) (by decide) dX1_write_6 ?_
  refine g_aload_n C 0 rfl dX1_write_7 ?_
  refine gf_Page_lengths C hp1 hr2 lf_X1_43 dX1_write_8 ?_
  refine g_iload_n C 1 rfl dX1_write_11 ?_
  refine g_iload_n C 3 rfl dX1_write_12 ?_
  refine s_iast C ha2 (by omega) (by decide) dX1_write_13 ?_
  refine g_aload_n C 0 rfl dX1_write_14 ?_
  refine gf_Page_seeds C hp1 hr3 lf_X1_46 dX1_write_15 ?_
  refine g_iload_n C 1 rfl dX1_write_18 ?_
  refine g_iload C 4 rfl dX1_write_19 ?_
  refine s_iast C ha3 (by omega) (by decide) dX1_write_21 ?_
  refine g_aload_n C 0 rfl dX1_write_22 ?_
  refine gf_Page_links C hp1 hr4 lf_X1_49 dX1_write_23 ?_
  refine g_iload_n C 1 rfl dX1_write_26 ?_
  refine g_iload C 5 rfl dX1_write_27 ?_
  refine s_iast C ha4 (by omega) (by decide) dX1_write_29 ?_
  refine g_aload_n C 0 rfl dX1_write_30 ?_
  refine g_dupR C dX1_write_31 ?_
  refine sf_Page_used C (w 0 4) hp1 (by simp [upw]) lf_X1_24 dX1_write_32 ?_
  refine g_iload_n C 2 rfl dX1_write_35 ?_
  refine g_iload_n C 3 rfl dX1_write_36 ?_
  refine g_callNI C [vI k, vI n] [vI (w 0 4), .ref a] (c_X3_cellBytes l D cy g _ k n hap (by omega) (by omega)) lm_X1_73 rfl (Nat.le_of_ble_eq_true rfl) ⟨(Nat.le_of_ble_eq_true rfl), (Nat.le_of_ble_eq_true rfl)⟩ ⟨Nat.zero_le _, Nat.zero_le _⟩ dX1_write_37 ?_
  rintro _ _ ⟨rfl, rfl⟩
  refine g_iadd C dX1_write_40 ?_
  refine sp_Page_used C hp1 lf_X1_24 dX1_write_41 ?_
  refine g_iload_n C 2 rfl dX1_write_44 ?_
  refine g_iconst C 2 rfl dX1_write_45 ?_
  refine g_icmp_ne C (by unfold rng; omega) (by unfold rng; omega) 59 dX1_write_46 (by decide) (fun c46 => ?_) (fun c46 => ?_)
  · refine g_vret C dX1_write_59 ?_
    congr 1
    unfold pWrite
    first | rw [if_pos (by omega)] | rw [if_neg (by omega)]
  · refine g_aload_n C 0 rfl dX1_write_49 ?_
    refine g_dupR C dX1_write_50 ?_
    refine sf_Page_stubs C (w 0 3) hp1 (by simp [upw]) lf_X1_21 dX1_write_51 ?_
    refine g_iconst C 1 rfl dX1_write_54 ?_
    refine g_iadd C dX1_write_55 ?_
    refine sp_Page_stubs C hp1 lf_X1_21 dX1_write_56 ?_
    refine g_vret C dX1_write_59 ?_
    congr 1
    unfold pWrite
    first | rw [if_pos (by omega)] | rw [if_neg (by omega)]
set_option maxHeartbeats 4000000 in
set_option maxRecDepth 100000 in
theorem c_X1_becomeFree (l : Launch) (D : va_G) (cy : ClassId × ClassId) (g : GT) (V : VT) (w : Int → Int → Int) (a : Nat) (o : Int) (hap : Apart g) (hp : isPg g a o) : MetV l yX1_becomeFree cX1_becomeFree 1 none 0 D cy g [.ref a] (setp V o w) (fun V' => V' = setp V o (pFree w)) := by
  obtain ⟨hp1, r1, r2, r3, r4, ⟨hr1, ha1⟩, ⟨hr2, ha2⟩, ⟨hr3, ha3⟩, ⟨hr4, ha4⟩⟩ := id hp
  refine MetV.of (by decide) (Nat.le_of_ble_eq_true rfl) hap ?_
  intro p_ e_ s_ m_ args_ below_ meth_ c_ C
  refine g_aload_n C 0 rfl dX1_becomeFree_0 ?_
  refine g_iconst C 0 rfl dX1_becomeFree_1 ?_
  refine sp_Page_kind C hp1 lf_X1_9 dX1_becomeFree_2 ?_
  refine g_aload_n C 0 rfl dX1_becomeFree_5 ?_
  refine g_iconst C 0 rfl dX1_becomeFree_6 ?_
  refine sp_Page_end C hp1 lf_X1_27 dX1_becomeFree_7 ?_
  exact g_vret C dX1_becomeFree_10 rfl
set_option maxHeartbeats 4000000 in
set_option maxRecDepth 100000 in
theorem c_X1_becomeChain (l : Launch) (D : va_G) (cy : ClassId × ClassId) (g : GT) (V : VT) (w : Int → Int → Int) (a : Nat) (o : Int) (b : Int) (hap : Apart g) (hp : isPg g a o) : MetV l yX1_becomeChain cX1_becomeChain 2 none 0 D cy g [.ref a, vI b] (setp V o w) (fun V' => V' = setp V o (pChain w b)) := by
  obtain ⟨hp1, r1, r2, r3, r4, ⟨hr1, ha1⟩, ⟨hr2, ha2⟩, ⟨hr3, ha3⟩, ⟨hr4, ha4⟩⟩ := id hp
  refine MetV.of (by decide) (Nat.le_of_ble_eq_true rfl) hap ?_
  intro p_ e_ s_ m_ args_ below_ meth_ c_ C
  refine g_aload_n C 0 rfl dX1_becomeChain_0 ?_
  refine g_iconst C 2 rfl dX1_becomeChain_1 ?_
  refine sp_Page_kind C hp1 lf_X1_9 dX1_becomeChain_2 ?_
  refine g_aload_n C 0 rfl dX1_becomeChain_5 ?_
  refine g_iconst C (-1) rfl dX1_becomeChain_6 ?_
  refine sp_Page_chainNext C hp1 lf_X1_30 dX1_becomeChain_7 ?_
  refine g_aload_n C 0 rfl dX1_becomeChain_10 ?_
  refine g_iload_n C 1 rfl dX1_becomeChain_11 ?_
  refine sp_Page_chainBytes C hp1 lf_X1_33 dX1_becomeChain_12 ?_
  exact g_vret C dX1_becomeChain_15 rfl
end
section
theorem upw_upw (w : Int → Int → Int) (t j v v' : Int) : upw (upw w t j v) t j v' = upw w t j v' := by
  funext a b
  by_cases h : a = t ∧ b = j <;> simp [upw, h]
theorem upw_id (w : Int → Int → Int) (t j : Int) : upw w t j (w t j) = w := by
  funext a b
  by_cases h : a = t ∧ b = j
  · obtain ⟨rfl, rfl⟩ := h; simp [upw]
  · simp [upw, h]
theorem pwf_kind {w : Int → Int → Int} (h : pwf w) (v : Int) (hv : sm v) : pwf (upw w 0 0 v) := by
  obtain ⟨z0, z1, z2, z3, z4, z5, z6⟩ := h
  refine ⟨by simpa [upw] using hv, by simpa [upw] using z1, by simpa [upw] using z2, by simpa [upw] using z3, by simpa [upw] using z4, by simpa [upw] using z5, fun s h1 h2 => by simpa [upw] using z6 s h1 h2⟩
set_option maxHeartbeats 4000000 in
set_option maxRecDepth 100000 in
theorem c_X1_put (l : Launch) (D : va_G) (cy : ClassId × ClassId) (g : GT) (V : VT) (w : Int → Int → Int) (a : Nat) (o : Int) (k n sd lk : Int) (hap : Apart g) (hp : isPg g a o) (hw : pwf w) (hk : 0 ≤ k ∧ k ≤ 3) (hn : -1 ≤ n ∧ n ≤ 1200) (hf : ∀ r, pEmpty w r → r < 32) : MetI l yX1_put cX1_put 7 (some .int) 2 D cy g [.ref a, vI k, vI n, vI sd, vI lk] (setp V o w) (fun r V' => pEmpty w r ∧ V' = setp V o (pPut w r k n sd lk)) := by
  obtain ⟨hp1, r1, r2, r3, r4, ⟨hr1, ha1⟩, ⟨hr2, ha2⟩, ⟨hr3, ha3⟩, ⟨hr4, ha4⟩⟩ := id hp
  obtain ⟨z0, z1, z2, z3, z4, z5, z6⟩ := id hw
  simp only [sm] at z0 z2 z3 z4 z5
  have hcb := cellB_bd (k := k) hn
  refine MetI.of (by decide) (Nat.le_of_ble_eq_true rfl) hap ?_
  intro p_ e_ s_ m_ args_ below_ meth_ c_ C
  refine g_aload_n C 0 rfl dX1_put_0 ?_
  refine g_iconst C 1 rfl dX1_put_1 ?_
  refine sp_Page_kind C hp1 lf_X1_9 dX1_put_2 ?_
  refine g_aload_n C 0 rfl dX1_put_5 ?_
  refine g_callI C [] [] (c_X1_leastEmptySlot l D cy g V (upw w 0 0 1) a o hap hp (pwf_kind hw 1 (by unfold sm; omega))) lm_X1_70 (rcv_Page hp.1) rfl (Nat.le_of_ble_eq_true rfl) ⟨(Nat.le_of_ble_eq_true rfl), (Nat.le_of_ble_eq_true rfl)⟩ ⟨Nat.zero_le _, Nat.zero_le _⟩ dX1_put_6 ?_
  rintro r _ ⟨rfl, hr⟩
  have hr0 : pEmpty w r := by simpa [pEmpty, upw] using hr
  have hr9 := hf r hr0
  have hr8 := hr0.1.1
  refine g_istore C [(5, vI r), (0, .ref a), (1, vI k), (2, vI n), (3, vI sd), (4, vI lk)] dX1_put_9 (by decide) rfl ?_
  refine g_iload_n C 2 rfl dX1_put_11 ?_
  refine g_iload_n C 3 rfl dX1_put_12 ?_
  refine g_callNI C [vI k, vI n] [] (c_X3_cellBytes l D cy g _ k n hap (by omega) (by omega)) lm_X1_73 rfl (Nat.le_of_ble_eq_true rfl) ⟨(Nat.le_of_ble_eq_true rfl), (Nat.le_of_ble_eq_true rfl)⟩ ⟨Nat.zero_le _, Nat.zero_le _⟩ dX1_put_13 ?_
  rintro _ _ ⟨rfl, rfl⟩
  refine g_istore C [(6, vI (cellB k n)), (5, vI r), (0, .ref a), (1, vI k), (2, vI n), (3, vI sd), (4, vI lk)] dX1_put_16 (by decide) rfl ?_
  refine g_iload C 1 rfl dX1_put_18 ?_
  refine g_aload_n C 2 rfl dX1_put_20 ?_
  refine sf_Page_slots C (w 0 1) hp1 (by simp [upw]) lf_X1_15 dX1_put_21 ?_
  refine g_icmp_ge C (by unfold rng; omega) (by unfold rng; omega) 37 dX1_put_24 (by decide) (fun c24 => ?_) (fun c24 => ?_)
  · refine g_aload_n C 2 rfl dX1_put_37 ?_
    refine g_iload C 0 rfl dX1_put_38 ?_
    refine g_iconst C 4 rfl dX1_put_40 ?_
    refine g_callV C [vI (cellB k n), vI 4] [] (c_X1_claimEnd l D cy g V (upw w 0 0 1) a o (cellB k n) 4 hap hp (pwf_kind hw 1 (by unfold sm; omega)) (by unfold sm; omega) (by unfold sm; omega)) lm_X1_77 (rcv_Page hp.1) rfl (Nat.le_of_ble_eq_true rfl) ⟨(Nat.le_of_ble_eq_true rfl), (Nat.le_of_ble_eq_true rfl)⟩ ⟨Nat.zero_le _, Nat.zero_le _⟩ dX1_put_41 ?_
    rintro _ rfl
    refine g_aload_n C 2 rfl dX1_put_44 ?_
    refine g_iload C 1 rfl dX1_put_45 ?_
    refine g_iconst C 1 rfl dX1_put_47 ?_
    refine g_iadd C dX1_put_48 ?_
    refine sp_Page_slots C hp1 lf_X1_15 dX1_put_49 ?_
    refine g_aload_n C 2 rfl dX1_put_52 ?_
    refine g_dupR C dX1_put_53 ?_
    refine sf_Page_cells C (pClaim (upw w 0 0 1) (cellB k n) 4 0 2) hp1 (by simp [upw]) lf_X1_18 dX1_put_54 ?_
    refine g_iconst C 1 rfl dX1_put_57 ?_
    refine g_iadd C dX1_put_58 ?_
    refine sp_Page_cells C hp1 lf_X1_18 dX1_put_59 ?_
    refine g_aload_n C 2 rfl dX1_put_62 ?_
    refine g_iload C 1 rfl dX1_put_63 ?_
    refine g_iload_n C 3 rfl dX1_put_65 ?_
    refine g_iload_n C 4 rfl dX1_put_66 ?_
    refine g_iload_n C 5 rfl dX1_put_67 ?_
    refine g_iload C 6 rfl dX1_put_68 ?_
    refine g_callV C [vI r, vI k, vI n, vI sd, vI lk] [] (c_X1_write l D cy g V (upw (upw (pClaim (upw w 0 0 1) (cellB k n) 4) 0 1 (r + 1)) 0 2 ((pClaim (upw w 0 0 1) (cellB k n) 4 0 2) + 1)) a o r k n sd lk hap hp ⟨by omega, by omega⟩ hk hn) lm_X1_81 (rcv_Page hp.1) rfl (Nat.le_of_ble_eq_true rfl) ⟨(Nat.le_of_ble_eq_true rfl), (Nat.le_of_ble_eq_true rfl)⟩ ⟨Nat.zero_le _, Nat.zero_le _⟩ dX1_put_70 ?_
    rintro _ rfl
    refine g_iload C 1 rfl dX1_put_73 ?_
    refine g_iret C dX1_put_75 ⟨hr0, ?_⟩
    congr 1
    unfold pPut
    first | rw [if_pos (by omega)] | rw [if_neg (by omega)]
  · refine g_aload_n C 2 rfl dX1_put_27 ?_
    refine g_iload C 0 rfl dX1_put_28 ?_
    refine g_iconst C 0 rfl dX1_put_30 ?_
    refine g_callV C [vI (cellB k n), vI 0] [] (c_X1_claimEnd l D cy g V (upw w 0 0 1) a o (cellB k n) 0 hap hp (pwf_kind hw 1 (by unfold sm; omega)) (by unfold sm; omega) (by unfold sm; omega)) lm_X1_77 (rcv_Page hp.1) rfl (Nat.le_of_ble_eq_true rfl) ⟨(Nat.le_of_ble_eq_true rfl), (Nat.le_of_ble_eq_true rfl)⟩ ⟨Nat.zero_le _, Nat.zero_le _⟩ dX1_put_31 ?_
    rintro _ rfl
    refine g_goto C 52 dX1_put_34 (by decide) ?_
    refine g_aload_n C 2 rfl dX1_put_52 ?_
    refine g_dupR C dX1_put_53 ?_
    refine sf_Page_cells C (pClaim (upw w 0 0 1) (cellB k n) 0 0 2) hp1 rfl lf_X1_18 dX1_put_54 ?_
    refine g_iconst C 1 rfl dX1_put_57 ?_
    refine g_iadd C dX1_put_58 ?_
    refine sp_Page_cells C hp1 lf_X1_18 dX1_put_59 ?_
    refine g_aload_n C 2 rfl dX1_put_62 ?_
    refine g_iload C 1 rfl dX1_put_63 ?_
    refine g_iload_n C 3 rfl dX1_put_65 ?_
    refine g_iload_n C 4 rfl dX1_put_66 ?_
    refine g_iload_n C 5 rfl dX1_put_67 ?_
    refine g_iload C 6 rfl dX1_put_68 ?_
    refine g_callV C [vI r, vI k, vI n, vI sd, vI lk] [] (c_X1_write l D cy g V (upw (pClaim (upw w 0 0 1) (cellB k n) 0) 0 2 ((pClaim (upw w 0 0 1) (cellB k n) 0 0 2) + 1)) a o r k n sd lk hap hp ⟨by omega, by omega⟩ hk hn) lm_X1_81 (rcv_Page hp.1) rfl (Nat.le_of_ble_eq_true rfl) ⟨(Nat.le_of_ble_eq_true rfl), (Nat.le_of_ble_eq_true rfl)⟩ ⟨Nat.zero_le _, Nat.zero_le _⟩ dX1_put_70 ?_
    rintro _ rfl
    refine g_iload C 1 rfl dX1_put_73 ?_
    refine g_iret C dX1_put_75 ⟨hr0, ?_⟩
    congr 1
    unfold pPut
    first | rw [if_pos (by omega)] | rw [if_neg (by omega)]
set_option maxHeartbeats 4000000 in
set_option maxRecDepth 100000 in
theorem c_X1_change (l : Launch) (D : va_G) (cy : ClassId × ClassId) (g : GT) (V : VT) (w : Int → Int → Int) (a : Nat) (o : Int) (s k n sd lk : Int) (hap : Apart g) (hp : isPg g a o) (hw : pwf w) (hwe : pwf (pErase w s)) (hs : 0 ≤ s ∧ s < 32) (hk : 0 ≤ k ∧ k ≤ 3) (hn : -1 ≤ n ∧ n ≤ 1200) : MetV l yX1_change cX1_change 8 none 2 D cy g [.ref a, vI s, vI k, vI n, vI sd, vI lk] (setp V o w) (fun V' => V' = setp V o (pChange w s k n sd lk)) := by
  obtain ⟨hp1, r1, r2, r3, r4, ⟨hr1, ha1⟩, ⟨hr2, ha2⟩, ⟨hr3, ha3⟩, ⟨hr4, ha4⟩⟩ := id hp
  obtain ⟨z0, z1, z2, z3, z4, z5, z6⟩ := id hw
  simp only [sm] at z0 z2 z3 z4 z5
  have hcb := cellB_bd (k := k) hn
  have z7 := z6 s hs.1 hs.2
  have hcb2 := cellB_bd (k := w 1 s) z7.2
  refine MetV.of (by decide) (Nat.le_of_ble_eq_true rfl) hap ?_
  intro p_ e_ s_ m_ args_ below_ meth_ c_ C
  refine g_aload_n C 0 rfl dX1_change_0 ?_
  refine g_iload_n C 1 rfl dX1_change_1 ?_
  refine g_callI C [vI s] [] (c_X1_bytesAt l D cy g V w a o s hap hp hs hw) lm_X1_62 (rcv_Page hp.1) rfl (Nat.le_of_ble_eq_true rfl) ⟨(Nat.le_of_ble_eq_true rfl), (Nat.le_of_ble_eq_true rfl)⟩ ⟨Nat.zero_le _, Nat.zero_le _⟩ dX1_change_2 ?_
  rintro _ _ ⟨rfl, rfl⟩
  refine g_istore C [(6, vI (pBytes w s)), (0, .ref a), (1, vI s), (2, vI k), (3, vI n), (4, vI sd), (5, vI lk)] dX1_change_5 (by decide) rfl ?_
  refine g_iload_n C 3 rfl dX1_change_7 ?_
  refine g_iload_n C 4 rfl dX1_change_8 ?_
  refine g_callNI C [vI k, vI n] [] (c_X3_cellBytes l D cy g _ k n hap (by omega) (by omega)) lm_X1_73 rfl (Nat.le_of_ble_eq_true rfl) ⟨(Nat.le_of_ble_eq_true rfl), (Nat.le_of_ble_eq_true rfl)⟩ ⟨Nat.zero_le _, Nat.zero_le _⟩ dX1_change_9 ?_
  rintro _ _ ⟨rfl, rfl⟩
  refine g_istore C [(7, vI (cellB k n)), (6, vI (pBytes w s)), (0, .ref a), (1, vI s), (2, vI k), (3, vI n), (4, vI sd), (5, vI lk)] dX1_change_12 (by decide) rfl ?_
  refine g_aload_n C 2 rfl dX1_change_14 ?_
  refine g_iload_n C 3 rfl dX1_change_15 ?_
  refine g_callV C [vI s] [] (c_X1_erase l D cy g V w a o s hap hp hs hw) lm_X1_85 (rcv_Page hp.1) rfl (Nat.le_of_ble_eq_true rfl) ⟨(Nat.le_of_ble_eq_true rfl), (Nat.le_of_ble_eq_true rfl)⟩ ⟨Nat.zero_le _, Nat.zero_le _⟩ dX1_change_16 ?_
  rintro _ rfl
  refine g_iload C 0 rfl dX1_change_19 ?_
  refine g_iload C 1 rfl dX1_change_21 ?_
  refine g_icmp_le C (by unfold rng; omega) (by unfold rng; unfold pBytes; omega) 33 dX1_change_23 (by decide) (fun c23 => ?_) (fun c23 => ?_)
  · refine g_aload_n C 2 rfl dX1_change_33 ?_
    refine g_iload_n C 3 rfl dX1_change_34 ?_
    refine g_iload_n C 4 rfl dX1_change_35 ?_
    refine g_iload_n C 5 rfl dX1_change_36 ?_
    refine g_iload C 6 rfl dX1_change_37 ?_
    refine g_iload C 7 rfl dX1_change_39 ?_
    refine g_callV C [vI s, vI k, vI n, vI sd, vI lk] [] (c_X1_write l D cy g V (pErase w s) a o s k n sd lk hap hp hs hk hn) lm_X1_81 (rcv_Page hp.1) rfl (Nat.le_of_ble_eq_true rfl) ⟨(Nat.le_of_ble_eq_true rfl), (Nat.le_of_ble_eq_true rfl)⟩ ⟨Nat.zero_le _, Nat.zero_le _⟩ dX1_change_41 ?_
    rintro _ rfl
    refine g_vret C dX1_change_44 ?_
    congr 1
    unfold pChange
    first | rw [if_pos (by omega)] | rw [if_neg (by omega)]
  · refine g_aload_n C 2 rfl dX1_change_26 ?_
    refine g_iload C 0 rfl dX1_change_27 ?_
    refine g_iconst C 0 rfl dX1_change_29 ?_
    refine g_callV C [vI (cellB k n), vI 0] [] (c_X1_claimEnd l D cy g V (pErase w s) a o (cellB k n) 0 hap hp hwe (by unfold sm; omega) (by unfold sm; omega)) lm_X1_77 (rcv_Page hp.1) rfl (Nat.le_of_ble_eq_true rfl) ⟨(Nat.le_of_ble_eq_true rfl), (Nat.le_of_ble_eq_true rfl)⟩ ⟨Nat.zero_le _, Nat.zero_le _⟩ dX1_change_30 ?_
    rintro _ rfl
    refine g_aload_n C 2 rfl dX1_change_33 ?_
    refine g_iload_n C 3 rfl dX1_change_34 ?_
    refine g_iload_n C 4 rfl dX1_change_35 ?_
    refine g_iload_n C 5 rfl dX1_change_36 ?_
    refine g_iload C 6 rfl dX1_change_37 ?_
    refine g_iload C 7 rfl dX1_change_39 ?_
    refine g_callV C [vI s, vI k, vI n, vI sd, vI lk] [] (c_X1_write l D cy g V (pClaim (pErase w s) (cellB k n) 0) a o s k n sd lk hap hp hs hk hn) lm_X1_81 (rcv_Page hp.1) rfl (Nat.le_of_ble_eq_true rfl) ⟨(Nat.le_of_ble_eq_true rfl), (Nat.le_of_ble_eq_true rfl)⟩ ⟨Nat.zero_le _, Nat.zero_le _⟩ dX1_change_41 ?_
    rintro _ rfl
    refine g_vret C dX1_change_44 ?_
    congr 1
    unfold pChange
    first | rw [if_pos (by omega)] | rw [if_neg (by omega)]
set_option maxHeartbeats 4000000 in
set_option maxRecDepth 100000 in
theorem c_X1_remove (l : Launch) (D : va_G) (cy : ClassId × ClassId) (g : GT) (V : VT) (w : Int → Int → Int) (a : Nat) (o : Int) (s : Int) (hap : Apart g) (hp : isPg g a o) (hw : pwf w) (hs : 0 ≤ s ∧ s < 32) : MetV l yX1_remove cX1_remove 2 none 2 D cy g [.ref a, vI s] (setp V o w) (fun V' => ∃ n9, ((0 ≤ n9 ∧ n9 ≤ w 0 1) ∧ (∀ i, n9 ≤ i → i < w 0 1 → pErase w s 1 i = 0) ∧ (0 < n9 → pErase w s 1 (n9 - 1) ≠ 0)) ∧ V' = setp V o (pRem w s n9)) := by
  obtain ⟨hp1, r1, r2, r3, r4, ⟨hr1, ha1⟩, ⟨hr2, ha2⟩, ⟨hr3, ha3⟩, ⟨hr4, ha4⟩⟩ := id hp
  obtain ⟨z0, z1, z2, z3, z4, z5, z6⟩ := id hw
  simp only [sm] at z0 z2 z3 z4 z5
  have he2 : pErase w s 0 2 = w 0 2 := pErase_0 w s 2 (by decide) (by decide)
  have he1 : upw (pErase w s) 0 2 (pErase w s 0 2 - 1) 0 1 = w 0 1 := by rw [upw_j (by decide)]; exact pErase_0 w s 1 (by decide) (by decide)
  have hk9 : ∀ i, 0 ≤ i → i < 32 → 0 ≤ pErase w s 1 i ∧ pErase w s 1 i ≤ 3 := by
    intro i q1 q2
    rw [pErase_1]
    have := z6 i q1 q2
    split <;> omega
  refine MetV.of (by decide) (Nat.le_of_ble_eq_true rfl) hap ?_
  intro p_ e_ s_ m_ args_ below_ meth_ c_ C
  have loop : ∀ (n : Nat) (n9 : Int), 0 ≤ n9 ∧ n9 ≤ w 0 1 → n9 ≤ n → (∀ i, n9 ≤ i → i < w 0 1 → pErase w s 1 i = 0) → G p_ l e_ (rmd 2) s_ m_ args_ below_ meth_ c_ 2 0 0 (MQ below_ (QcV D cy g (fun V' => ∃ n9, ((0 ≤ n9 ∧ n9 ≤ w 0 1) ∧ (∀ i, n9 ≤ i → i < w 0 1 → pErase w s 1 i = 0) ∧ (0 < n9 → pErase w s 1 (n9 - 1) ≠ 0)) ∧ V' = setp V o (pRem w s n9))) args_ s_ 0 0 (fun q => q ∈ gL g)) D cy g (fun q => q ∈ gL g) s_.heap (setp V o (upw (upw (pErase w s) 0 2 (pErase w s 0 2 - 1)) 0 1 n9)) 15 [(0, .ref a), (1, vI s)] [] := by
    intro n
    induction n with
    | zero =>
      intro n9 h1 h3 h4
      refine g_aload_n C 0 rfl dX1_remove_15 ?_
      refine sf_Page_slots C n9 hp1 (by simp [upw]) lf_X1_15 dX1_remove_16 ?_
      refine g_if_le C (by unfold rng; omega) 49 dX1_remove_19 (by decide) (fun c19 => ?_) (fun c19 => absurd c19 (by omega))
      refine g_aload_n C 0 rfl dX1_remove_49 ?_
      refine sf_Page_cells C (pErase w s 0 2 - 1) hp1 (by simp [upw]) lf_X1_18 dX1_remove_50 ?_
      refine g_if_ne C (by unfold rng; omega) 60 dX1_remove_53 (by decide) (fun c53 => ?_) (fun c53 => ?_)
      · refine g_vret C dX1_remove_60 ⟨n9, ⟨⟨by omega, by omega⟩, ?_, ?_⟩, ?_⟩
        · intro i q1 q2; exact h4 i q1 (by omega)
        · intro q; first | exact c33 | (exfalso; omega)
        · congr 1; unfold pRem; first | rw [if_pos (by omega)] | rw [if_neg (by omega)]
      · refine g_aload_n C 0 rfl dX1_remove_56 ?_
        refine g_callV C [] [] (c_X1_becomeFree l D cy g V (upw ((upw (pErase w s) 0 2 (pErase w s 0 2 - 1))) 0 1 n9) a o hap hp) lm_X1_89 (rcv_Page hp.1) rfl (Nat.le_of_ble_eq_true rfl) ⟨(Nat.le_of_ble_eq_true rfl), (Nat.le_of_ble_eq_true rfl)⟩ ⟨Nat.zero_le _, Nat.zero_le _⟩ dX1_remove_57 ?_
        rintro _ rfl
        refine g_vret C dX1_remove_60 ⟨n9, ⟨⟨by omega, by omega⟩, ?_, ?_⟩, ?_⟩
        · intro i q1 q2; exact h4 i q1 (by omega)
        · intro q; first | exact c33 | (exfalso; omega)
        · congr 1; unfold pRem; first | rw [if_pos (by omega)] | rw [if_neg (by omega)]
    | succ n ih =>
      intro n9 h1 h3 h4
      refine g_aload_n C 0 rfl dX1_remove_15 ?_
      refine sf_Page_slots C n9 hp1 (by simp [upw]) lf_X1_15 dX1_remove_16 ?_
      refine g_if_le C (by unfold rng; omega) 49 dX1_remove_19 (by decide) (fun c19 => ?_) (fun c19 => ?_)
      · refine g_aload_n C 0 rfl dX1_remove_49 ?_
        refine sf_Page_cells C (pErase w s 0 2 - 1) hp1 (by simp [upw]) lf_X1_18 dX1_remove_50 ?_
        refine g_if_ne C (by unfold rng; omega) 60 dX1_remove_53 (by decide) (fun c53 => ?_) (fun c53 => ?_)
        · refine g_vret C dX1_remove_60 ⟨n9, ⟨⟨by omega, by omega⟩, ?_, ?_⟩, ?_⟩
          · intro i q1 q2; exact h4 i q1 (by omega)
          · intro q; first | exact c33 | (exfalso; omega)
          · congr 1; unfold pRem; first | rw [if_pos (by omega)] | rw [if_neg (by omega)]
        · refine g_aload_n C 0 rfl dX1_remove_56 ?_
          refine g_callV C [] [] (c_X1_becomeFree l D cy g V (upw ((upw (pErase w s) 0 2 (pErase w s 0 2 - 1))) 0 1 n9) a o hap hp) lm_X1_89 (rcv_Page hp.1) rfl (Nat.le_of_ble_eq_true rfl) ⟨(Nat.le_of_ble_eq_true rfl), (Nat.le_of_ble_eq_true rfl)⟩ ⟨Nat.zero_le _, Nat.zero_le _⟩ dX1_remove_57 ?_
          rintro _ rfl
          refine g_vret C dX1_remove_60 ⟨n9, ⟨⟨by omega, by omega⟩, ?_, ?_⟩, ?_⟩
          · intro i q1 q2; exact h4 i q1 (by omega)
          · intro q; first | exact c33 | (exfalso; omega)
          · congr 1; unfold pRem; first | rw [if_pos (by omega)] | rw [if_neg (by omega)]
      · refine g_aload_n C 0 rfl dX1_remove_22 ?_
        refine gf_Page_kinds C hp1 hr1 lf_X1_39 dX1_remove_23 ?_
        refine g_aload_n C 0 rfl dX1_remove_26 ?_
        refine sf_Page_slots C n9 hp1 (by simp [upw]) lf_X1_15 dX1_remove_27 ?_
        refine g_iconst C 1 rfl dX1_remove_30 ?_
        refine g_isub C dX1_remove_31 ?_
        refine s_iald C (pErase w s 1 (n9 - 1)) ha1 (by omega) (by decide) (by simp [upw]) dX1_remove_32 ?_
        refine g_if_ne C (by have z7 := hk9 (n9 - 1) (by omega) (by omega); unfold rng; omega) 49 dX1_remove_33 (by decide) (fun c33 => ?_) (fun c33 => ?_)
        · refine g_aload_n C 0 rfl dX1_remove_49 ?_
          refine sf_Page_cells C (pErase w s 0 2 - 1) hp1 (by simp [upw]) lf_X1_18 dX1_remove_50 ?_
          refine g_if_ne C (by unfold rng; omega) 60 dX1_remove_53 (by decide) (fun c53 => ?_) (fun c53 => ?_)
          · refine g_vret C dX1_remove_60 ⟨n9, ⟨⟨by omega, by omega⟩, ?_, ?_⟩, ?_⟩
            · intro i q1 q2; exact h4 i q1 (by omega)
            · intro q; first | exact c33 | (exfalso; omega)
            · congr 1; unfold pRem; first | rw [if_pos (by omega)] | rw [if_neg (by omega)]
          · refine g_aload_n C 0 rfl dX1_remove_56 ?_
            refine g_callV C [] [] (c_X1_becomeFree l D cy g V (upw ((upw (pErase w s) 0 2 (pErase w s 0 2 - 1))) 0 1 n9) a o hap hp) lm_X1_89 (rcv_Page hp.1) rfl (Nat.le_of_ble_eq_true rfl) ⟨(Nat.le_of_ble_eq_true rfl), (Nat.le_of_ble_eq_true rfl)⟩ ⟨Nat.zero_le _, Nat.zero_le _⟩ dX1_remove_57 ?_
            rintro _ rfl
            refine g_vret C dX1_remove_60 ⟨n9, ⟨⟨by omega, by omega⟩, ?_, ?_⟩, ?_⟩
            · intro i q1 q2; exact h4 i q1 (by omega)
            · intro q; first | exact c33 | (exfalso; omega)
            · congr 1; unfold pRem; first | rw [if_pos (by omega)] | rw [if_neg (by omega)]
        · refine g_aload_n C 0 rfl dX1_remove_36 ?_
          refine g_dupR C dX1_remove_37 ?_
          refine sf_Page_slots C n9 hp1 (by simp [upw]) lf_X1_15 dX1_remove_38 ?_
          refine g_iconst C 1 rfl dX1_remove_41 ?_
          refine g_isub C dX1_remove_42 ?_
          refine sp_Page_slots C hp1 lf_X1_15 dX1_remove_43 ?_
          refine g_goto C 15 dX1_remove_46 (by decide) ?_
          refine g_V (congrArg (setp V o) (upw_upw _ _ _ _ _)) ?_
          refine ih (n9 - 1) (by omega) (by omega) (fun i q1 q2 => ?_)
          by_cases hi : i = n9 - 1
          · subst hi; exact c33
          · exact h4 i (by omega) q2
  refine g_aload_n C 0 rfl dX1_remove_0 ?_
  refine g_iload_n C 1 rfl dX1_remove_1 ?_
  refine g_callV C [vI s] [] (c_X1_erase l D cy g V w a o s hap hp hs hw) lm_X1_85 (rcv_Page hp.1) rfl (Nat.le_of_ble_eq_true rfl) ⟨(Nat.le_of_ble_eq_true rfl), (Nat.le_of_ble_eq_true rfl)⟩ ⟨Nat.zero_le _, Nat.zero_le _⟩ dX1_remove_2 ?_
  rintro _ rfl
  refine g_aload_n C 0 rfl dX1_remove_5 ?_
  refine g_dupR C dX1_remove_6 ?_
  refine sf_Page_cells C (pErase w s 0 2) hp1 rfl lf_X1_18 dX1_remove_7 ?_
  refine g_iconst C 1 rfl dX1_remove_10 ?_
  refine g_isub C dX1_remove_11 ?_
  refine sp_Page_cells C hp1 lf_X1_18 dX1_remove_12 ?_
  refine g_V (congrArg (setp V o) (upw_id (upw (pErase w s) 0 2 (pErase w s 0 2 - 1)) 0 1).symm) ?_
  refine loop (w 0 1).toNat ((upw (pErase w s) 0 2 (pErase w s 0 2 - 1)) 0 1) ?_ ?_ ?_
  · rw [he1]; omega
  · rw [he1]; omega
  · rw [he1]; intro i q1 q2; exact absurd q1 (by omega)
end
section
/-! SlotFile$Store at base b: page i is the object b + i -/
def isSt (g : GT) (a : Nat) (b : Int) : Prop := (∃ ob, isO g 2 a ob) ∧ ∃ ps, gR g a 0 = some ps ∧ isQ g ps 96 ∧ ∀ i : Int, 0 ≤ i → i < 96 → ∃ pg, gR g ps i.toNat = some pg ∧ isPg g pg (b + i)
def swf (V : VT) (b : Int) : Prop := ∀ i, 0 ≤ i → i < 96 → pwf (V (b + i))
def cntK (K : Int → Int) (k : Int) : Nat → Int
  | 0 => 0
  | n + 1 => if K n = k then cntK K k n + 1 else cntK K k n
def sumF (F : Int → Int) : Nat → Int
  | 0 => 0
  | n + 1 => sumF F n + F n
theorem cntK_bd (K : Int → Int) (k : Int) (n : Nat) : 0 ≤ cntK K k n ∧ cntK K k n ≤ n := by
  induction n with
  | zero => exact ⟨Int.le_refl _, Int.le_refl _⟩
  | succ n ih => unfold cntK; split <;> omega
abbrev kd (V : VT) (b : Int) : Int → Int := fun i => V (b + i) 0 0
/-- the least free page from a number on -/
def isLF (K : Int → Int) (f r : Int) : Prop := (r = -1 ∧ ∀ i, f ≤ i → i < 96 → K i ≠ 0) ∨ (f ≤ r ∧ r < 96 ∧ K r = 0 ∧ ∀ i, f ≤ i → i < r → K i ≠ 0)
/-- a page that takes a new cell of n bytes (slot told with), but for two -/
def okp (V : VT) (b x y i : Int) : Prop := i ≠ x ∧ i ≠ y ∧ V (b + i) 0 0 = 1 ∧ V (b + i) 0 2 < 32
def isFR (V : VT) (b n x y r : Int) : Prop := (r = -1 ∧ ∀ i, 0 ≤ i → i < 96 → okp V b x y i → pRoom (V (b + i)) < n) ∨ (0 ≤ r ∧ r < 96 ∧ okp V b x y r ∧ n ≤ pRoom (V (b + r)) ∧ ∀ i, 0 ≤ i → i < r → okp V b x y i → pRoom (V (b + i)) < n)
abbrev pCls (w : Int → Int → Int) : Int := pRoom w / 31
def isLC (V : VT) (b n x y : Int) (m : Int) (r c : Int) : Prop := (r = -1 ∧ c = 9 ∧ ∀ i, 0 ≤ i → i < m → okp V b x y i → pCls (V (b + i)) * 31 < n) ∨ (0 ≤ r ∧ r < m ∧ okp V b x y r ∧ c = pCls (V (b + r)) ∧ n ≤ c * 31 ∧ (∀ i, 0 ≤ i → i < m → okp V b x y i → n ≤ pCls (V (b + i)) * 31 → c ≤ pCls (V (b + i))) ∧ ∀ i, 0 ≤ i → i < r → okp V b x y i → n ≤ pCls (V (b + i)) * 31 → c < pCls (V (b + i)))
def isPl (V : VT) (b n x y r : Int) : Prop := (∃ c, r ≠ -1 ∧ isLC V b n x y 96 r c) ∨ ((∃ c, isLC V b n x y 96 (-1) c) ∧ ((r ≠ -1 ∧ isFR V b n x y r) ∨ (isFR V b n x y (-1) ∧ isLF (kd V b) 0 r)))
def chP (n : Int) : Int := if 100 < n then (n + 239) / 240 else 0
theorem chP_bd {n : Int} (h : 0 ≤ n ∧ n ≤ 1200) : 0 ≤ chP n ∧ chP n ≤ 5 := by unfold chP; split <;> omega
/-- a chain: the pages from f on by the nexts N -/
def isCh (N : Int → Int) : List Int → Int → Prop
  | [], f => f = -1
  | p :: L, f => f = p ∧ (0 ≤ p ∧ p < 96) ∧ isCh N L (N p)
def freeL (V : VT) (b : Int) : List Int → VT
  | [] => V
  | p :: L => freeL (setp V (b + p) (pFree (V (b + p)))) b L
abbrev nx (V : VT) (b : Int) : Int → Int := fun i => V (b + i) 0 6
def vcel (V : VT) (b r : Int) : Int := if V (b + r / 32) 1 (r % 32) = 2 then V (b + r / 32) 4 (r % 32) else r
def isRec (V : VT) (b r : Int) : Prop := pHome (V (b + r / 32)) (r % 32)
theorem cv_X1_room (l : Launch) (D : va_G) (cy : ClassId × ClassId) (g : GT) (V : VT) (a : Nat) (o : Int)  (hap : Apart g) (hp : isPg g a o)  : MetI l yX1_room cX1_room 1 (some .int) 0 D cy g [.ref a] V (fun r V' => r = pRoom (V o) ∧ V' = V) := by
  have h := c_X1_room l D cy g V (V o) a o  hap hp 
  rw [setp_self] at h
  exact h
theorem cv_X1_takesNewCells (l : Launch) (D : va_G) (cy : ClassId × ClassId) (g : GT) (V : VT) (a : Nat) (o : Int)  (hap : Apart g) (hp : isPg g a o) (hw : pwf (V o)) : MetI l yX1_takesNewCells cX1_takesNewCells 1 (some .boolean) 0 D cy g [.ref a] V (fun r V' => r = (if V o 0 0 = 1 ∧ V o 0 2 < 32 then 1 else 0) ∧ V' = V) := by
  have h := c_X1_takesNewCells l D cy g V (V o) a o  hap hp hw
  rw [setp_self] at h
  exact h
theorem cv_X1_hasHome (l : Launch) (D : va_G) (cy : ClassId × ClassId) (g : GT) (V : VT) (a : Nat) (o : Int) (s : Int) (hap : Apart g) (hp : isPg g a o) (hs : 0 ≤ s ∧ s < 32) (hw : pwf (V o)) : MetI l yX1_hasHome cX1_hasHome 2 (some .boolean) 0 D cy g [.ref a, vI s] V (fun r V' => r = (if V o 1 s = 1 ∨ V o 1 s = 2 then 1 else 0) ∧ V' = V) := by
  have h := c_X1_hasHome l D cy g V (V o) a o s hap hp hs hw
  rw [setp_self] at h
  exact h
theorem cv_X1_hasRoomInstead (l : Launch) (D : va_G) (cy : ClassId × ClassId) (g : GT) (V : VT) (a : Nat) (o : Int) (s q : Int) (hap : Apart g) (hp : isPg g a o) (hs : 0 ≤ s ∧ s < 32) (hw : pwf (V o)) (hb : sm q) : MetI l yX1_hasRoomInstead cX1_hasRoomInstead 3 (some .boolean) 2 D cy g [.ref a, vI s, vI q] V (fun r V' => r = (if q ≤ pRoom (V o) + pBytes (V o) s then 1 else 0) ∧ V' = V) := by
  have h := c_X1_hasRoomInstead l D cy g V (V o) a o s q hap hp hs hw hb
  rw [setp_self] at h
  exact h
theorem cv_X1_firstHomeFrom (l : Launch) (D : va_G) (cy : ClassId × ClassId) (g : GT) (V : VT) (a : Nat) (o : Int) (s : Int) (hap : Apart g) (hp : isPg g a o) (hs : 0 ≤ s ∧ s < 1000) (hw : pwf (V o)) : MetI l yX1_firstHomeFrom cX1_firstHomeFrom 3 (some .int) 1 D cy g [.ref a, vI s] V (fun r V' => V' = V ∧ ((r = -1 ∧ ∀ j, s ≤ j → j < V o 0 1 → ¬ pHome (V o) j) ∨ (s ≤ r ∧ r < V o 0 1 ∧ pHome (V o) r ∧ ∀ j, s ≤ j → j < r → ¬ pHome (V o) j))) := by
  have h := c_X1_firstHomeFrom l D cy g V (V o) a o s hap hp hs hw
  rw [setp_self] at h
  exact h
theorem cv_X1_put (l : Launch) (D : va_G) (cy : ClassId × ClassId) (g : GT) (V : VT) (a : Nat) (o : Int) (k n sd lk : Int) (hap : Apart g) (hp : isPg g a o) (hw : pwf (V o)) (hk : 0 ≤ k ∧ k ≤ 3) (hn : -1 ≤ n ∧ n ≤ 1200) (hf : ∀ r, pEmpty (V o) r → r < 32) : MetI l yX1_put cX1_put 7 (some .int) 2 D cy g [.ref a, vI k, vI n, vI sd, vI lk] V (fun r V' => pEmpty (V o) r ∧ V' = setp V o (pPut (V o) r k n sd lk)) := by
  have h := c_X1_put l D cy g V (V o) a o k n sd lk hap hp hw hk hn hf
  rw [setp_self] at h
  exact h
theorem cv_X1_change (l : Launch) (D : va_G) (cy : ClassId × ClassId) (g : GT) (V : VT) (a : Nat) (o : Int) (s k n sd lk : Int) (hap : Apart g) (hp : isPg g a o) (hw : pwf (V o)) (hwe : pwf (pErase (V o) s)) (hs : 0 ≤ s ∧ s < 32) (hk : 0 ≤ k ∧ k ≤ 3) (hn : -1 ≤ n ∧ n ≤ 1200) : MetV l yX1_change cX1_change 8 none 2 D cy g [.ref a, vI s, vI k, vI n, vI sd, vI lk] V (fun V' => V' = setp V o (pChange (V o) s k n sd lk)) := by
  have h := c_X1_change l D cy g V (V o) a o s k n sd lk hap hp hw hwe hs hk hn
  rw [setp_self] at h
  exact h
theorem cv_X1_remove (l : Launch) (D : va_G) (cy : ClassId × ClassId) (g : GT) (V : VT) (a : Nat) (o : Int) (s : Int) (hap : Apart g) (hp : isPg g a o) (hw : pwf (V o)) (hs : 0 ≤ s ∧ s < 32) : MetV l yX1_remove cX1_remove 2 none 2 D cy g [.ref a, vI s] V (fun V' => ∃ n9, ((0 ≤ n9 ∧ n9 ≤ V o 0 1) ∧ (∀ i, n9 ≤ i → i < V o 0 1 → pErase (V o) s 1 i = 0) ∧ (0 < n9 → pErase (V o) s 1 (n9 - 1) ≠ 0)) ∧ V' = setp V o (pRem (V o) s n9)) := by
  have h := c_X1_remove l D cy g V (V o) a o s hap hp hw hs
  rw [setp_self] at h
  exact h
theorem cv_X1_becomeFree (l : Launch) (D : va_G) (cy : ClassId × ClassId) (g : GT) (V : VT) (a : Nat) (o : Int)  (hap : Apart g) (hp : isPg g a o)  : MetV l yX1_becomeFree cX1_becomeFree 1 none 0 D cy g [.ref a] V (fun V' => V' = setp V o (pFree (V o))) := by
  have h := c_X1_becomeFree l D cy g V (V o) a o  hap hp 
  rw [setp_self] at h
  exact h
theorem cv_X1_becomeChain (l : Launch) (D : va_G) (cy : ClassId × ClassId) (g : GT) (V : VT) (a : Nat) (o : Int) (q : Int) (hap : Apart g) (hp : isPg g a o)  : MetV l yX1_becomeChain cX1_becomeChain 2 none 0 D cy g [.ref a, vI q] V (fun V' => V' = setp V o (pChain (V o) q)) := by
  have h := c_X1_becomeChain l D cy g V (V o) a o q hap hp 
  rw [setp_self] at h
  exact h
set_option maxHeartbeats 4000000 in
set_option maxRecDepth 100000 in
theorem c_X3_chainPages (l : Launch) (D : va_G) (cy : ClassId × ClassId) (g : GT) (V : VT) (n : Int) (hap : Apart g) (hn : 0 ≤ n ∧ n ≤ 1200) : MetI l yX3_chainPages cX3_chainPages 1 (some .int) 0 D cy g [vI n] V (fun r V' => r = chP n ∧ V' = V) := by
  refine MetI.of (by decide) (Nat.le_of_ble_eq_true rfl) hap ?_
  intro p_ e_ s_ m_ args_ below_ meth_ c_ C
  refine g_iload_n C 0 rfl dX3_chainPages_0 ?_
  refine g_bipush C 100 rfl dX3_chainPages_1 ?_
  refine g_icmp_le C (by unfold rng; omega) (by unfold rng; omega) 20 dX3_chainPages_3 (by decide) (fun c3 => ?_) (fun c3 => ?_)
  · refine g_iconst C 0 rfl dX3_chainPages_20 ?_
    refine g_iret C dX3_chainPages_21 ⟨?_, rfl⟩
    unfold chP
    first | rw [if_pos (by omega)]; omega | rw [if_neg (by omega)]
  · refine g_iload_n C 0 rfl dX3_chainPages_6 ?_
    refine g_sipush C 240 rfl dX3_chainPages_7 ?_
    refine g_iadd C dX3_chainPages_10 ?_
    refine g_iconst C 1 rfl dX3_chainPages_11 ?_
    refine g_isub C dX3_chainPages_12 ?_
    refine g_sipush C 240 rfl dX3_chainPages_13 ?_
    refine g_idiv C (by omega) (by omega) dX3_chainPages_16 ?_
    refine g_goto C 21 dX3_chainPages_17 (by decide) ?_
    refine g_iret C dX3_chainPages_21 ⟨?_, rfl⟩
    unfold chP
    first | rw [if_pos (by omega)]; omega | rw [if_neg (by omega)]
set_option maxHeartbeats 4000000 in
set_option maxRecDepth 100000 in
theorem c_X2_pagesThatAre (l : Launch) (D : va_G) (cy : ClassId × ClassId) (g : GT) (V : VT) (a : Nat) (b : Int) (q : Int) (hap : Apart g) (hS : isSt g a b) (hw : swf V b) (hq9 : sm q) : MetI l yX2_pagesThatAre cX2_pagesThatAre 4 (some .int) 0 D cy g [.ref a, vI q] V (fun r V' => r = cntK (kd V b) q 96 ∧ V' = V) := by
  obtain ⟨⟨ob, hob⟩, ps, hps, hq, hpgs⟩ := id hS
  simp only [sm] at hq9
  refine MetI.of (by decide) (Nat.le_of_ble_eq_true rfl) hap ?_
  intro p_ e_ s_ m_ args_ below_ meth_ c_ C
  have loop : ∀ (n : Nat) (k : Nat), k + n = 96 → G p_ l e_ (rmd 0) s_ m_ args_ below_ meth_ c_ 4 0 0 (MQ below_ (QcI D cy g (fun r V' => r = cntK (kd V b) q 96 ∧ V' = V)) args_ s_ 0 0 (fun q => q ∈ gL g)) D cy g (fun q => q ∈ gL g) s_.heap V 4 [(3, vI ((k : Int))), (2, vI (cntK (kd V b) q k)), (0, .ref a), (1, vI q)] [] := by
    intro n
    induction n with
    | zero =>
      intro k hkn
      have hk : k = 96 := by omega
      subst hk
      refine g_iload_n C 0 rfl dX2_pagesThatAre_4 ?_
      refine g_bipush C 96 rfl dX2_pagesThatAre_5 ?_
      refine g_icmp_ge C (by unfold rng; omega) (by unfold rng; omega) 32 dX2_pagesThatAre_7 (by decide) (fun c7 => ?_) (fun c7 => absurd c7 (by omega))
      refine g_iload_n C 1 rfl dX2_pagesThatAre_32 ?_
      exact g_iret C dX2_pagesThatAre_33 ⟨rfl, rfl⟩
    | succ n ih =>
      intro k hkn
      refine g_iload_n C 0 rfl dX2_pagesThatAre_4 ?_
      refine g_bipush C 96 rfl dX2_pagesThatAre_5 ?_
      refine g_icmp_ge C (by unfold rng; omega) (by unfold rng; omega) 32 dX2_pagesThatAre_7 (by decide) (fun c7 => absurd c7 (by omega)) (fun c7 => ?_)
      refine g_aload_n C 2 rfl dX2_pagesThatAre_10 ?_
      refine gf_Store_pages C hob hps lf_X2_11 dX2_pagesThatAre_11 ?_
      refine g_iload_n C 0 rfl dX2_pagesThatAre_14 ?_
      obtain ⟨pg1, pg1e, pg1h⟩ := hpgs ((k : Int)) (by omega) (by omega)
      obtain ⟨-, pg1r1, pg1r2, pg1r3, pg1r4, ⟨pg1hr1, pg1ha1⟩, ⟨pg1hr2, pg1ha2⟩, ⟨pg1hr3, pg1ha3⟩, ⟨pg1hr4, pg1ha4⟩⟩ := id pg1h
      refine g_aald C hq ⟨by omega, by omega⟩ (by decide) pg1e dX2_pagesThatAre_15 ?_
      refine gfN_Page_kind C pg1h.1 lf_X2_106 dX2_pagesThatAre_16 ?_
      refine g_iload_n C 3 rfl dX2_pagesThatAre_19 ?_
      refine g_icmp_ne C (by have := (hw k (by omega) (by omega)).1; unfold rng; unfold sm at this; omega) (by unfold rng; omega) 26 dX2_pagesThatAre_20 (by decide) (fun c20 => ?_) (fun c20 => ?_)
      · refine g_iinc C [(3, vI (((k : Int)) + 1)), (2, vI (cntK (kd V b) q k)), (0, .ref a), (1, vI q)] 0 rfl dX2_pagesThatAre_26 (by decide) rfl ?_
        refine g_goto C 4 dX2_pagesThatAre_29 (by decide) ?_
        refine g_sub [0, 1, 2, 3] rfl ?_
        have e1 : cntK (kd V b) q (k + 1) = cntK (kd V b) q k := if_neg c20
        have h9 := ih (k + 1) (by omega)
        rw [e1] at h9
        exact h9
      · refine g_iinc C [(2, vI ((cntK (kd V b) q k) + 1)), (3, vI ((k : Int))), (0, .ref a), (1, vI q)] 1 rfl dX2_pagesThatAre_23 (by decide) rfl ?_
        refine g_iinc C [(3, vI (((k : Int)) + 1)), (2, vI ((cntK (kd V b) q k) + 1)), (0, .ref a), (1, vI q)] 1 rfl dX2_pagesThatAre_26 (by decide) rfl ?_
        refine g_goto C 4 dX2_pagesThatAre_29 (by decide) ?_
        refine g_sub [0, 1, 2, 3] rfl ?_
        have e1 : cntK (kd V b) q (k + 1) = cntK (kd V b) q k + 1 := if_pos c20
        have h9 := ih (k + 1) (by omega)
        rw [e1] at h9
        exact h9
  refine g_iconst C 0 rfl dX2_pagesThatAre_0 ?_
  refine g_istore_n C [(2, vI 0), (0, .ref a), (1, vI q)] dX2_pagesThatAre_1 rfl (by decide) rfl ?_
  refine g_iconst C 0 rfl dX2_pagesThatAre_2 ?_
  refine g_istore_n C [(3, vI 0), (2, vI 0), (0, .ref a), (1, vI q)] dX2_pagesThatAre_3 rfl (by decide) rfl ?_
  refine g_sub [0, 1, 2, 3] rfl ?_
  exact loop 96 0 (by omega)
set_option maxHeartbeats 4000000 in
set_option maxRecDepth 100000 in
theorem c_X2_cellCount (l : Launch) (D : va_G) (cy : ClassId × ClassId) (g : GT) (V : VT) (a : Nat) (b : Int) (hap : Apart g) (hS : isSt g a b) : MetI l yX2_cellCount cX2_cellCount 3 (some .int) 0 D cy g [.ref a] V (fun r V' => r = sumF (fun i => V (b + i) 0 2) 96 ∧ V' = V) := by
  obtain ⟨⟨ob, hob⟩, ps, hps, hq, hpgs⟩ := id hS
  refine MetI.of (by decide) (Nat.le_of_ble_eq_true rfl) hap ?_
  intro p_ e_ s_ m_ args_ below_ meth_ c_ C
  have loop : ∀ (n : Nat) (k : Nat), k + n = 96 → G p_ l e_ (rmd 0) s_ m_ args_ below_ meth_ c_ 3 0 0 (MQ below_ (QcI D cy g (fun r V' => r = sumF (fun i => V (b + i) 0 2) 96 ∧ V' = V)) args_ s_ 0 0 (fun q => q ∈ gL g)) D cy g (fun q => q ∈ gL g) s_.heap V 4 [(2, vI ((k : Int))), (1, vI (sumF (fun i => V (b + i) 0 2) k)), (0, .ref a)] [] := by
    intro n
    induction n with
    | zero =>
      intro k hkn
      have hk : k = 96 := by omega
      subst hk
      refine g_iload_n C 0 rfl dX2_cellCount_4 ?_
      refine g_bipush C 96 rfl dX2_cellCount_5 ?_
      refine g_icmp_ge C (by unfold rng; omega) (by unfold rng; omega) 28 dX2_cellCount_7 (by decide) (fun c7 => ?_) (fun c7 => absurd c7 (by omega))
      refine g_iload_n C 1 rfl dX2_cellCount_28 ?_
      exact g_iret C dX2_cellCount_29 ⟨rfl, rfl⟩
    | succ n ih =>
      intro k hkn
      refine g_iload_n C 0 rfl dX2_cellCount_4 ?_
      refine g_bipush C 96 rfl dX2_cellCount_5 ?_
      refine g_icmp_ge C (by unfold rng; omega) (by unfold rng; omega) 28 dX2_cellCount_7 (by decide) (fun c7 => absurd c7 (by omega)) (fun c7 => ?_)
      refine g_iload_n C 1 rfl dX2_cellCount_10 ?_
      refine g_aload_n C 2 rfl dX2_cellCount_11 ?_
      refine gf_Store_pages C hob hps lf_X2_11 dX2_cellCount_12 ?_
      refine g_iload_n C 0 rfl dX2_cellCount_15 ?_
      obtain ⟨pg1, pg1e, pg1h⟩ := hpgs ((k : Int)) (by omega) (by omega)
      obtain ⟨-, pg1r1, pg1r2, pg1r3, pg1r4, ⟨pg1hr1, pg1ha1⟩, ⟨pg1hr2, pg1ha2⟩, ⟨pg1hr3, pg1ha3⟩, ⟨pg1hr4, pg1ha4⟩⟩ := id pg1h
      refine g_aald C hq ⟨by omega, by omega⟩ (by decide) pg1e dX2_cellCount_16 ?_
      refine gfN_Page_cells C pg1h.1 lf_X2_130 dX2_cellCount_17 ?_
      refine g_iadd C dX2_cellCount_20 ?_
      refine g_istore_n C [(1, vI ((sumF (fun i => V (b + i) 0 2) k) + (V (b + ((k : Int))) 0 2))), (2, vI ((k : Int))), (0, .ref a)] dX2_cellCount_21 rfl (by decide) rfl ?_
      refine g_iinc C [(2, vI (((k : Int)) + 1)), (1, vI ((sumF (fun i => V (b + i) 0 2) k) + (V (b + ((k : Int))) 0 2))), (0, .ref a)] 1 rfl dX2_cellCount_22 (by decide) rfl ?_
      refine g_goto C 4 dX2_cellCount_25 (by decide) ?_
      refine g_sub [0, 1, 2] rfl ?_
      exact ih (k + 1) (by omega)
  refine g_iconst C 0 rfl dX2_cellCount_0 ?_
  refine g_istore_n C [(1, vI 0), (0, .ref a)] dX2_cellCount_1 rfl (by decide) rfl ?_
  refine g_iconst C 0 rfl dX2_cellCount_2 ?_
  refine g_istore_n C [(2, vI 0), (1, vI 0), (0, .ref a)] dX2_cellCount_3 rfl (by decide) rfl ?_
  refine g_sub [0, 1, 2] rfl ?_
  exact loop 96 0 (by omega)
set_option maxHeartbeats 4000000 in
set_option maxRecDepth 100000 in
theorem c_X2_stubCount (l : Launch) (D : va_G) (cy : ClassId × ClassId) (g : GT) (V : VT) (a : Nat) (b : Int) (hap : Apart g) (hS : isSt g a b) : MetI l yX2_stubCount cX2_stubCount 3 (some .int) 0 D cy g [.ref a] V (fun r V' => r = sumF (fun i => V (b + i) 0 3) 96 ∧ V' = V) := by
  obtain ⟨⟨ob, hob⟩, ps, hps, hq, hpgs⟩ := id hS
  refine MetI.of (by decide) (Nat.le_of_ble_eq_true rfl) hap ?_
  intro p_ e_ s_ m_ args_ below_ meth_ c_ C
  have loop : ∀ (n : Nat) (k : Nat), k + n = 96 → G p_ l e_ (rmd 0) s_ m_ args_ below_ meth_ c_ 3 0 0 (MQ below_ (QcI D cy g (fun r V' => r = sumF (fun i => V (b + i) 0 3) 96 ∧ V' = V)) args_ s_ 0 0 (fun q => q ∈ gL g)) D cy g (fun q => q ∈ gL g) s_.heap V 4 [(2, vI ((k : Int))), (1, vI (sumF (fun i => V (b + i) 0 3) k)), (0, .ref a)] [] := by
    intro n
    induction n with
    | zero =>
      intro k hkn
      have hk : k = 96 := by omega
      subst hk
      refine g_iload_n C 0 rfl dX2_stubCount_4 ?_
      refine g_bipush C 96 rfl dX2_stubCount_5 ?_
      refine g_icmp_ge C (by unfold rng; omega) (by unfold rng; omega) 28 dX2_stubCount_7 (by decide) (fun c7 => ?_) (fun c7 => absurd c7 (by omega))
      refine g_iload_n C 1 rfl dX2_stubCount_28 ?_
      exact g_iret C dX2_stubCount_29 ⟨rfl, rfl⟩
    | succ n ih =>
      intro k hkn
      refine g_iload_n C 0 rfl dX2_stubCount_4 ?_
      refine g_bipush C 96 rfl dX2_stubCount_5 ?_
      refine g_icmp_ge C (by unfold rng; omega) (by unfold rng; omega) 28 dX2_stubCount_7 (by decide) (fun c7 => absurd c7 (by omega)) (fun c7 => ?_)
      refine g_iload_n C 1 rfl dX2_stubCount_10 ?_
      refine g_aload_n C 2 rfl dX2_stubCount_11 ?_
      refine gf_Store_pages C hob hps lf_X2_11 dX2_stubCount_12 ?_
      refine g_iload_n C 0 rfl dX2_stubCount_15 ?_
      obtain ⟨pg1, pg1e, pg1h⟩ := hpgs ((k : Int)) (by omega) (by omega)
      obtain ⟨-, pg1r1, pg1r2, pg1r3, pg1r4, ⟨pg1hr1, pg1ha1⟩, ⟨pg1hr2, pg1ha2⟩, ⟨pg1hr3, pg1ha3⟩, ⟨pg1hr4, pg1ha4⟩⟩ := id pg1h
      refine g_aald C hq ⟨by omega, by omega⟩ (by decide) pg1e dX2_stubCount_16 ?_
      refine gfN_Page_stubs C pg1h.1 lf_X2_133 dX2_stubCount_17 ?_
      refine g_iadd C dX2_stubCount_20 ?_
      refine g_istore_n C [(1, vI ((sumF (fun i => V (b + i) 0 3) k) + (V (b + ((k : Int))) 0 3))), (2, vI ((k : Int))), (0, .ref a)] dX2_stubCount_21 rfl (by decide) rfl ?_
      refine g_iinc C [(2, vI (((k : Int)) + 1)), (1, vI ((sumF (fun i => V (b + i) 0 3) k) + (V (b + ((k : Int))) 0 3))), (0, .ref a)] 1 rfl dX2_stubCount_22 (by decide) rfl ?_
      refine g_goto C 4 dX2_stubCount_25 (by decide) ?_
      refine g_sub [0, 1, 2] rfl ?_
      exact ih (k + 1) (by omega)
  refine g_iconst C 0 rfl dX2_stubCount_0 ?_
  refine g_istore_n C [(1, vI 0), (0, .ref a)] dX2_stubCount_1 rfl (by decide) rfl ?_
  refine g_iconst C 0 rfl dX2_stubCount_2 ?_
  refine g_istore_n C [(2, vI 0), (1, vI 0), (0, .ref a)] dX2_stubCount_3 rfl (by decide) rfl ?_
  refine g_sub [0, 1, 2] rfl ?_
  exact loop 96 0 (by omega)
set_option maxHeartbeats 4000000 in
set_option maxRecDepth 100000 in
theorem c_X2_compactingCount (l : Launch) (D : va_G) (cy : ClassId × ClassId) (g : GT) (V : VT) (a : Nat) (b : Int) (hap : Apart g) (hS : isSt g a b) : MetI l yX2_compactingCount cX2_compactingCount 3 (some .int) 0 D cy g [.ref a] V (fun r V' => r = sumF (fun i => V (b + i) 0 8) 96 ∧ V' = V) := by
  obtain ⟨⟨ob, hob⟩, ps, hps, hq, hpgs⟩ := id hS
  refine MetI.of (by decide) (Nat.le_of_ble_eq_true rfl) hap ?_
  intro p_ e_ s_ m_ args_ below_ meth_ c_ C
  have loop : ∀ (n : Nat) (k : Nat), k + n = 96 → G p_ l e_ (rmd 0) s_ m_ args_ below_ meth_ c_ 3 0 0 (MQ below_ (QcI D cy g (fun r V' => r = sumF (fun i => V (b + i) 0 8) 96 ∧ V' = V)) args_ s_ 0 0 (fun q => q ∈ gL g)) D cy g (fun q => q ∈ gL g) s_.heap V 4 [(2, vI ((k : Int))), (1, vI (sumF (fun i => V (b + i) 0 8) k)), (0, .ref a)] [] := by
    intro n
    induction n with
    | zero =>
      intro k hkn
      have hk : k = 96 := by omega
      subst hk
      refine g_iload_n C 0 rfl dX2_compactingCount_4 ?_
      refine g_bipush C 96 rfl dX2_compactingCount_5 ?_
      refine g_icmp_ge C (by unfold rng; omega) (by unfold rng; omega) 28 dX2_compactingCount_7 (by decide) (fun c7 => ?_) (fun c7 => absurd c7 (by omega))
      refine g_iload_n C 1 rfl dX2_compactingCount_28 ?_
      exact g_iret C dX2_compactingCount_29 ⟨rfl, rfl⟩
    | succ n ih =>
      intro k hkn
      refine g_iload_n C 0 rfl dX2_compactingCount_4 ?_
      refine g_bipush C 96 rfl dX2_compactingCount_5 ?_
      refine g_icmp_ge C (by unfold rng; omega) (by unfold rng; omega) 28 dX2_compactingCount_7 (by decide) (fun c7 => absurd c7 (by omega)) (fun c7 => ?_)
      refine g_iload_n C 1 rfl dX2_compactingCount_10 ?_
      refine g_aload_n C 2 rfl dX2_compactingCount_11 ?_
      refine gf_Store_pages C hob hps lf_X2_11 dX2_compactingCount_12 ?_
      refine g_iload_n C 0 rfl dX2_compactingCount_15 ?_
      obtain ⟨pg1, pg1e, pg1h⟩ := hpgs ((k : Int)) (by omega) (by omega)
      obtain ⟨-, pg1r1, pg1r2, pg1r3, pg1r4, ⟨pg1hr1, pg1ha1⟩, ⟨pg1hr2, pg1ha2⟩, ⟨pg1hr3, pg1ha3⟩, ⟨pg1hr4, pg1ha4⟩⟩ := id pg1h
      refine g_aald C hq ⟨by omega, by omega⟩ (by decide) pg1e dX2_compactingCount_16 ?_
      refine gfN_Page_compactings C pg1h.1 lf_X2_136 dX2_compactingCount_17 ?_
      refine g_iadd C dX2_compactingCount_20 ?_
      refine g_istore_n C [(1, vI ((sumF (fun i => V (b + i) 0 8) k) + (V (b + ((k : Int))) 0 8))), (2, vI ((k : Int))), (0, .ref a)] dX2_compactingCount_21 rfl (by decide) rfl ?_
      refine g_iinc C [(2, vI (((k : Int)) + 1)), (1, vI ((sumF (fun i => V (b + i) 0 8) k) + (V (b + ((k : Int))) 0 8))), (0, .ref a)] 1 rfl dX2_compactingCount_22 (by decide) rfl ?_
      refine g_goto C 4 dX2_compactingCount_25 (by decide) ?_
      refine g_sub [0, 1, 2] rfl ?_
      exact ih (k + 1) (by omega)
  refine g_iconst C 0 rfl dX2_compactingCount_0 ?_
  refine g_istore_n C [(1, vI 0), (0, .ref a)] dX2_compactingCount_1 rfl (by decide) rfl ?_
  refine g_iconst C 0 rfl dX2_compactingCount_2 ?_
  refine g_istore_n C [(2, vI 0), (1, vI 0), (0, .ref a)] dX2_compactingCount_3 rfl (by decide) rfl ?_
  refine g_sub [0, 1, 2] rfl ?_
  exact loop 96 0 (by omega)
set_option maxHeartbeats 4000000 in
set_option maxRecDepth 100000 in
theorem c_X2_leastFreePage (l : Launch) (D : va_G) (cy : ClassId × ClassId) (g : GT) (V : VT) (a : Nat) (b : Int) (f : Int) (hap : Apart g) (hS : isSt g a b) (hw : swf V b) (hf : 0 ≤ f ∧ f ≤ 96) : MetI l yX2_leastFreePage cX2_leastFreePage 3 (some .int) 0 D cy g [.ref a, vI f] V (fun r V' => isLF (kd V b) f r ∧ V' = V) := by
  obtain ⟨⟨ob, hob⟩, ps, hps, hq, hpgs⟩ := id hS
  refine MetI.of (by decide) (Nat.le_of_ble_eq_true rfl) hap ?_
  intro p_ e_ s_ m_ args_ below_ meth_ c_ C
  have loop : ∀ (n : Nat) (i : Int), f ≤ i ∧ i ≤ 96 → 96 - i ≤ n → (∀ j, f ≤ j → j < i → kd V b j ≠ 0) → G p_ l e_ (rmd 0) s_ m_ args_ below_ meth_ c_ 3 0 0 (MQ below_ (QcI D cy g (fun r V' => isLF (kd V b) f r ∧ V' = V)) args_ s_ 0 0 (fun q => q ∈ gL g)) D cy g (fun q => q ∈ gL g) s_.heap V 2 [(2, vI i), (0, .ref a), (1, vI f)] [] := by
    intro n
    induction n with
    | zero =>
      intro i h1 h3 h4
      refine g_iload_n C 0 rfl dX2_leastFreePage_2 ?_
      refine g_bipush C 96 rfl dX2_leastFreePage_3 ?_
      refine g_icmp_ge C (by unfold rng; omega) (by unfold rng; omega) 28 dX2_leastFreePage_5 (by decide) (fun c5 => ?_) (fun c5 => absurd c5 (by omega))
      refine g_iconst C (-1) rfl dX2_leastFreePage_28 ?_
      exact g_iret C dX2_leastFreePage_29 ⟨Or.inl ⟨rfl, fun j q1 q2 => h4 j q1 (by omega)⟩, rfl⟩
    | succ n ih =>
      intro i h1 h3 h4
      refine g_iload_n C 0 rfl dX2_leastFreePage_2 ?_
      refine g_bipush C 96 rfl dX2_leastFreePage_3 ?_
      refine g_icmp_ge C (by unfold rng; omega) (by unfold rng; omega) 28 dX2_leastFreePage_5 (by decide) (fun c5 => ?_) (fun c5 => ?_)
      · refine g_iconst C (-1) rfl dX2_leastFreePage_28 ?_
        exact g_iret C dX2_leastFreePage_29 ⟨Or.inl ⟨rfl, fun j q1 q2 => h4 j q1 (by omega)⟩, rfl⟩
      · refine g_aload_n C 1 rfl dX2_leastFreePage_8 ?_
        refine gf_Store_pages C hob hps lf_X2_11 dX2_leastFreePage_9 ?_
        refine g_iload_n C 0 rfl dX2_leastFreePage_12 ?_
        obtain ⟨pg1, pg1e, pg1h⟩ := hpgs i (by omega) (by omega)
        obtain ⟨-, pg1r1, pg1r2, pg1r3, pg1r4, ⟨pg1hr1, pg1ha1⟩, ⟨pg1hr2, pg1ha2⟩, ⟨pg1hr3, pg1ha3⟩, ⟨pg1hr4, pg1ha4⟩⟩ := id pg1h
        refine g_aald C hq ⟨by omega, by omega⟩ (by decide) pg1e dX2_leastFreePage_13 ?_
        refine gfN_Page_kind C pg1h.1 lf_X2_106 dX2_leastFreePage_14 ?_
        refine g_if_ne C (by have := (hw i (by omega) (by omega)).1; unfold rng; unfold sm at this; omega) 22 dX2_leastFreePage_17 (by decide) (fun c17 => ?_) (fun c17 => ?_)
        · refine g_iinc C [(2, vI (i + 1)), (0, .ref a), (1, vI f)] 0 rfl dX2_leastFreePage_22 (by decide) rfl ?_
          refine g_goto C 2 dX2_leastFreePage_25 (by decide) ?_
          refine g_sub [0, 1, 2] rfl ?_
          refine ih (i + 1) (by omega) (by omega) (fun j q1 q2 => ?_)
          by_cases hj : j = i
          · subst hj; exact c17
          · exact h4 j q1 (by omega)
        · refine g_iload_n C 0 rfl dX2_leastFreePage_20 ?_
          exact g_iret C dX2_leastFreePage_21 ⟨Or.inr ⟨by omega, by omega, c17, h4⟩, rfl⟩
  refine g_iload_n C 1 rfl dX2_leastFreePage_0 ?_
  refine g_istore_n C [(2, vI f), (0, .ref a), (1, vI f)] dX2_leastFreePage_1 rfl (by decide) rfl ?_
  refine g_sub [0, 1, 2] rfl ?_
  exact loop (96 - f).toNat f (by omega) (by omega) (fun j q1 q2 => absurd q1 (by omega))
end
section
set_option maxHeartbeats 4000000 in
set_option maxRecDepth 100000 in
theorem c_X2_firstPageWithRoom (l : Launch) (D : va_G) (cy : ClassId × ClassId) (g : GT) (V : VT) (a : Nat) (b : Int) (q x y : Int) (hap : Apart g) (hS : isSt g a b) (hw : swf V b) (hq9 : sm q) (hx : sm x) (hy : sm y) : MetI l yX2_firstPageWithRoom cX2_firstPageWithRoom 5 (some .int) 1 D cy g [.ref a, vI q, vI x, vI y] V (fun r V' => isFR V b q x y r ∧ V' = V) := by
  obtain ⟨⟨ob, hob⟩, ps, hps, hq, hpgs⟩ := id hS
  simp only [sm] at hq9 hx hy
  refine MetI.of (by decide) (Nat.le_of_ble_eq_true rfl) hap ?_
  intro p_ e_ s_ m_ args_ below_ meth_ c_ C
  have loop : ∀ (n : Nat) (i : Int), 0 ≤ i ∧ i ≤ 96 → 96 - i ≤ n → (∀ j, 0 ≤ j → j < i → okp V b x y j → pRoom (V (b + j)) < q) → G p_ l e_ (rmd 1) s_ m_ args_ below_ meth_ c_ 5 0 0 (MQ below_ (QcI D cy g (fun r V' => isFR V b q x y r ∧ V' = V)) args_ s_ 0 0 (fun q => q ∈ gL g)) D cy g (fun q => q ∈ gL g) s_.heap V 3 [(4, vI i), (0, .ref a), (1, vI q), (2, vI x), (3, vI y)] [] := by
    intro n
    induction n with
    | zero =>
      intro i h1 h3 h4
      refine g_iload C 0 rfl dX2_firstPageWithRoom_3 ?_
      refine g_bipush C 96 rfl dX2_firstPageWithRoom_5 ?_
      refine g_icmp_ge C (by unfold rng; omega) (by unfold rng; omega) 58 dX2_firstPageWithRoom_7 (by decide) (fun c7 => ?_) (fun c7 => absurd c7 (by omega))
      refine g_iconst C (-1) rfl dX2_firstPageWithRoom_58 ?_
      exact g_iret C dX2_firstPageWithRoom_59 ⟨Or.inl ⟨rfl, fun j q1 q2 => h4 j q1 (by omega)⟩, rfl⟩
    | succ n ih =>
      intro i h1 h3 h4
      refine g_iload C 0 rfl dX2_firstPageWithRoom_3 ?_
      refine g_bipush C 96 rfl dX2_firstPageWithRoom_5 ?_
      refine g_icmp_ge C (by unfold rng; omega) (by unfold rng; omega) 58 dX2_firstPageWithRoom_7 (by decide) (fun c7 => ?_) (fun c7 => ?_)
      · refine g_iconst C (-1) rfl dX2_firstPageWithRoom_58 ?_
        exact g_iret C dX2_firstPageWithRoom_59 ⟨Or.inl ⟨rfl, fun j q1 q2 => h4 j q1 (by omega)⟩, rfl⟩
      · refine g_iload C 0 rfl dX2_firstPageWithRoom_10 ?_
        refine g_iload_n C 3 rfl dX2_firstPageWithRoom_12 ?_
        refine g_icmp_eq C (by unfold rng; omega) (by unfold rng; omega) 52 dX2_firstPageWithRoom_13 (by decide) (fun c13 => ?_) (fun c13 => ?_)
        · refine g_iinc C [(4, vI (i + 1)), (0, .ref a), (1, vI q), (2, vI x), (3, vI y)] 0 rfl dX2_firstPageWithRoom_52 (by decide) rfl ?_
          refine g_goto C 3 dX2_firstPageWithRoom_55 (by decide) ?_
          refine g_sub [0, 1, 2, 3, 4] rfl ?_
          refine ih (i + 1) (by omega) (by omega) (fun j q1 q2 => ?_)
          by_cases hj : j = i
          · subst hj; intro hk; obtain ⟨k1, k2, k3, k4⟩ := hk; first | (exact absurd (by assumption) k1) | (exact absurd (by assumption) k2) | (exfalso; have c9 := c32; rw [if_pos ⟨k3, k4⟩] at c9; exact absurd c9 (by decide)) | exact c46
          · exact h4 j q1 (by omega)
        · refine g_iload C 0 rfl dX2_firstPageWithRoom_16 ?_
          refine g_iload_n C 4 rfl dX2_firstPageWithRoom_18 ?_
          refine g_icmp_eq C (by unfold rng; omega) (by unfold rng; omega) 52 dX2_firstPageWithRoom_19 (by decide) (fun c19 => ?_) (fun c19 => ?_)
          · refine g_iinc C [(4, vI (i + 1)), (0, .ref a), (1, vI q), (2, vI x), (3, vI y)] 0 rfl dX2_firstPageWithRoom_52 (by decide) rfl ?_
            refine g_goto C 3 dX2_firstPageWithRoom_55 (by decide) ?_
            refine g_sub [0, 1, 2, 3, 4] rfl ?_
            refine ih (i + 1) (by omega) (by omega) (fun j q1 q2 => ?_)
            by_cases hj : j = i
            · subst hj; intro hk; obtain ⟨k1, k2, k3, k4⟩ := hk; first | (exact absurd (by assumption) k1) | (exact absurd (by assumption) k2) | (exfalso; have c9 := c32; rw [if_pos ⟨k3, k4⟩] at c9; exact absurd c9 (by decide)) | exact c46
            · exact h4 j q1 (by omega)
          · refine g_aload_n C 1 rfl dX2_firstPageWithRoom_22 ?_
            refine gf_Store_pages C hob hps lf_X2_11 dX2_firstPageWithRoom_23 ?_
            refine g_iload C 0 rfl dX2_firstPageWithRoom_26 ?_
            obtain ⟨pg1, pg1e, pg1h⟩ := hpgs i (by omega) (by omega)
            obtain ⟨-, pg1r1, pg1r2, pg1r3, pg1r4, ⟨pg1hr1, pg1ha1⟩, ⟨pg1hr2, pg1ha2⟩, ⟨pg1hr3, pg1ha3⟩, ⟨pg1hr4, pg1ha4⟩⟩ := id pg1h
            refine g_aald C hq ⟨by omega, by omega⟩ (by decide) pg1e dX2_firstPageWithRoom_28 ?_
            refine g_callI C [] [] (cv_X1_takesNewCells l D cy g V pg1 _ hap pg1h (hw _ (by omega) (by omega))) lm_X2_98 (rcv_Page pg1h.1) rfl (Nat.le_of_ble_eq_true rfl) ⟨(Nat.le_of_ble_eq_true rfl), (Nat.le_of_ble_eq_true rfl)⟩ ⟨Nat.zero_le _, Nat.zero_le _⟩ dX2_firstPageWithRoom_29 ?_
            rintro _ V1 ⟨rfl, hV1⟩
            refine g_V hV1 ?_
            clear hV1 V1
            refine g_if_eq C (by split <;> exact ⟨by decide, by decide⟩) 52 dX2_firstPageWithRoom_32 (by decide) (fun c32 => ?_) (fun c32 => ?_)
            · refine g_iinc C [(4, vI (i + 1)), (0, .ref a), (1, vI q), (2, vI x), (3, vI y)] 0 rfl dX2_firstPageWithRoom_52 (by decide) rfl ?_
              refine g_goto C 3 dX2_firstPageWithRoom_55 (by decide) ?_
              refine g_sub [0, 1, 2, 3, 4] rfl ?_
              refine ih (i + 1) (by omega) (by omega) (fun j q1 q2 => ?_)
              by_cases hj : j = i
              · subst hj; intro hk; obtain ⟨k1, k2, k3, k4⟩ := hk; first | (exact absurd (by assumption) k1) | (exact absurd (by assumption) k2) | (exfalso; have c9 := c32; rw [if_pos ⟨k3, k4⟩] at c9; exact absurd c9 (by decide)) | exact c46
              · exact h4 j q1 (by omega)
            · refine g_aload_n C 1 rfl dX2_firstPageWithRoom_35 ?_
              refine gf_Store_pages C hob hps lf_X2_11 dX2_firstPageWithRoom_36 ?_
              refine g_iload C 0 rfl dX2_firstPageWithRoom_39 ?_
              obtain ⟨pg2, pg2e, pg2h⟩ := hpgs i (by omega) (by omega)
              obtain ⟨-, pg2r1, pg2r2, pg2r3, pg2r4, ⟨pg2hr1, pg2ha1⟩, ⟨pg2hr2, pg2ha2⟩, ⟨pg2hr3, pg2ha3⟩, ⟨pg2hr4, pg2ha4⟩⟩ := id pg2h
              refine g_aald C hq ⟨by omega, by omega⟩ (by decide) pg2e dX2_firstPageWithRoom_41 ?_
              refine g_callI C [] [] (cv_X1_room l D cy g V pg2 _ hap pg2h) lm_X2_102 (rcv_Page pg2h.1) rfl (Nat.le_of_ble_eq_true rfl) ⟨(Nat.le_of_ble_eq_true rfl), (Nat.le_of_ble_eq_true rfl)⟩ ⟨Nat.zero_le _, Nat.zero_le _⟩ dX2_firstPageWithRoom_42 ?_
              rintro _ V1 ⟨rfl, hV1⟩
              refine g_V hV1 ?_
              clear hV1 V1
              refine g_iload_n C 2 rfl dX2_firstPageWithRoom_45 ?_
              refine g_icmp_lt C (by have h9 := hw i (by omega) (by omega); obtain ⟨-, z1, -, -, z4, -, -⟩ := h9; unfold sm at z4; unfold rng pRoom; omega) (by unfold rng; omega) 52 dX2_firstPageWithRoom_46 (by decide) (fun c46 => ?_) (fun c46 => ?_)
              · refine g_iinc C [(4, vI (i + 1)), (0, .ref a), (1, vI q), (2, vI x), (3, vI y)] 0 rfl dX2_firstPageWithRoom_52 (by decide) rfl ?_
                refine g_goto C 3 dX2_firstPageWithRoom_55 (by decide) ?_
                refine g_sub [0, 1, 2, 3, 4] rfl ?_
                refine ih (i + 1) (by omega) (by omega) (fun j q1 q2 => ?_)
                by_cases hj : j = i
                · subst hj; intro hk; obtain ⟨k1, k2, k3, k4⟩ := hk; first | (exact absurd (by assumption) k1) | (exact absurd (by assumption) k2) | (exfalso; have c9 := c32; rw [if_pos ⟨k3, k4⟩] at c9; exact absurd c9 (by decide)) | exact c46
                · exact h4 j q1 (by omega)
              · refine g_iload C 0 rfl dX2_firstPageWithRoom_49 ?_
                refine g_iret C dX2_firstPageWithRoom_51 ⟨Or.inr ⟨by omega, by omega, ?_, c46, h4⟩, rfl⟩
                by_cases hh : V (b + i) 0 0 = 1 ∧ V (b + i) 0 2 < 32
                · exact ⟨c13, c19, hh.1, hh.2⟩
                · exfalso; have c9 := c32; rw [if_neg hh] at c9; exact c9 rfl
  refine g_iconst C 0 rfl dX2_firstPageWithRoom_0 ?_
  refine g_istore C [(4, vI 0), (0, .ref a), (1, vI q), (2, vI x), (3, vI y)] dX2_firstPageWithRoom_1 (by decide) rfl ?_
  refine g_sub [0, 1, 2, 3, 4] rfl ?_
  exact loop 96 0 (by omega) (by omega) (fun j q1 q2 => absurd q1 (by omega))
set_option maxHeartbeats 4000000 in
set_option maxRecDepth 100000 in
theorem c_X2_leastClassPage (l : Launch) (D : va_G) (cy : ClassId × ClassId) (g : GT) (V : VT) (a : Nat) (b : Int) (q x y : Int) (hap : Apart g) (hS : isSt g a b) (hw : swf V b) (hroom : ∀ i, 0 ≤ i → i < 96 → V (b + i) 0 0 = 1 → 0 ≤ pRoom (V (b + i)) ∧ pRoom (V (b + i)) ≤ 248) (hq9 : sm q) (hx : sm x) (hy : sm y) : MetI l yX2_leastClassPage cX2_leastClassPage 8 (some .int) 1 D cy g [.ref a, vI q, vI x, vI y] V (fun r V' => (∃ c, isLC V b q x y 96 r c) ∧ V' = V) := by
  obtain ⟨⟨ob, hob⟩, ps, hps, hq, hpgs⟩ := id hS
  simp only [sm] at hq9 hx hy
  refine MetI.of (by decide) (Nat.le_of_ble_eq_true rfl) hap ?_
  intro p_ e_ s_ m_ args_ below_ meth_ c_ C
  have loop : ∀ (n : Nat) (i r d : Int), 0 ≤ i ∧ i ≤ 96 → 0 ≤ d ∧ d ≤ 9 → 96 - i ≤ n → isLC V b q x y i r d → G p_ l e_ (rmd 1) s_ m_ args_ below_ meth_ c_ 8 0 0 (MQ below_ (QcI D cy g (fun r V' => (∃ c, isLC V b q x y 96 r c) ∧ V' = V)) args_ s_ 0 0 (fun q => q ∈ gL g)) D cy g (fun q => q ∈ gL g) s_.heap V 10 [(6, vI i), (4, vI r), (5, vI d), (0, .ref a), (1, vI q), (2, vI x), (3, vI y)] [] := by
    intro n
    induction n with
    | zero =>
      intro i r d h1 h2 h3 h4
      refine g_iload C 0 rfl dX2_leastClassPage_10 ?_
      refine g_bipush C 96 rfl dX2_leastClassPage_12 ?_
      refine g_icmp_ge C (by unfold rng; omega) (by unfold rng; omega) 90 dX2_leastClassPage_14 (by decide) (fun c14 => ?_) (fun c14 => absurd c14 (by omega))
      refine g_iload C 1 rfl dX2_leastClassPage_90 ?_
      have hi : i = 96 := by omega
      subst hi
      exact g_iret C dX2_leastClassPage_92 ⟨⟨d, h4⟩, rfl⟩
    | succ n ih =>
      intro i r d h1 h2 h3 h4
      refine g_iload C 0 rfl dX2_leastClassPage_10 ?_
      refine g_bipush C 96 rfl dX2_leastClassPage_12 ?_
      refine g_icmp_ge C (by unfold rng; omega) (by unfold rng; omega) 90 dX2_leastClassPage_14 (by decide) (fun c14 => ?_) (fun c14 => ?_)
      · refine g_iload C 1 rfl dX2_leastClassPage_90 ?_
        have hi : i = 96 := by omega
        subst hi
        exact g_iret C dX2_leastClassPage_92 ⟨⟨d, h4⟩, rfl⟩
      · refine g_iload C 0 rfl dX2_leastClassPage_17 ?_
        refine g_iload_n C 5 rfl dX2_leastClassPage_19 ?_
        refine g_icmp_eq C (by unfold rng; omega) (by unfold rng; omega) 84 dX2_leastClassPage_20 (by decide) (fun c20 => ?_) (fun c20 => ?_)
        · refine g_iinc C [(6, vI (i + 1)), (4, vI r), (5, vI d), (0, .ref a), (1, vI q), (2, vI x), (3, vI y)] 0 rfl dX2_leastClassPage_84 (by decide) rfl ?_
          refine g_goto C 10 dX2_leastClassPage_87 (by decide) ?_
          refine g_sub [0, 1, 2, 3, 4, 5, 6] rfl ?_
          refine ih (i + 1) r d (by omega) (by omega) (by omega) ?_
          have hcl : pCls (V (b + i)) = pRoom (V (b + i)) / 31 := rfl
          have hno : okp V b x y i → q ≤ pCls (V (b + i)) * 31 → (0 ≤ r ∧ d ≤ pCls (V (b + i))) := by
            intro hk hq8
            obtain ⟨k1, k2, k3, k4⟩ := id hk
            have hrm9 := hroom i (by omega) (by omega) k3
            first | (exact absurd (by assumption) k1) | (exact absurd (by assumption) k2) | (exfalso; have c9 := c39; rw [if_pos ⟨k3, k4⟩] at c9; exact absurd c9 (by decide)) | (exfalso; omega) | (refine ⟨?_, by omega⟩; rcases h4 with ⟨e1, e2, -⟩ | ⟨e1, -⟩ <;> omega)
          rcases h4 with ⟨k1, k2, k3⟩ | ⟨k1, k2, k3, k4, k5, k6, k7⟩
          · refine Or.inl ⟨k1, k2, fun j q1 q2 q3 => ?_⟩
            by_cases hj : j = i
            · subst hj; exact Int.not_le.mp (fun q5 => by have := hno q3 q5; omega)
            · exact k3 j q1 (by omega) q3
          · refine Or.inr ⟨k1, by omega, k3, k4, k5, fun j q1 q2 q3 q4 => ?_, k7⟩
            by_cases hj : j = i
            · subst hj; exact (hno q3 q4).2
            · exact k6 j q1 (by omega) q3 q4
        · refine g_iload C 0 rfl dX2_leastClassPage_23 ?_
          refine g_iload_n C 6 rfl dX2_leastClassPage_25 ?_
          refine g_icmp_eq C (by unfold rng; omega) (by unfold rng; omega) 84 dX2_leastClassPage_26 (by decide) (fun c26 => ?_) (fun c26 => ?_)
          · refine g_iinc C [(6, vI (i + 1)), (4, vI r), (5, vI d), (0, .ref a), (1, vI q), (2, vI x), (3, vI y)] 0 rfl dX2_leastClassPage_84 (by decide) rfl ?_
            refine g_goto C 10 dX2_leastClassPage_87 (by decide) ?_
            refine g_sub [0, 1, 2, 3, 4, 5, 6] rfl ?_
            refine ih (i + 1) r d (by omega) (by omega) (by omega) ?_
            have hcl : pCls (V (b + i)) = pRoom (V (b + i)) / 31 := rfl
            have hno : okp V b x y i → q ≤ pCls (V (b + i)) * 31 → (0 ≤ r ∧ d ≤ pCls (V (b + i))) := by
              intro hk hq8
              obtain ⟨k1, k2, k3, k4⟩ := id hk
              have hrm9 := hroom i (by omega) (by omega) k3
              first | (exact absurd (by assumption) k1) | (exact absurd (by assumption) k2) | (exfalso; have c9 := c39; rw [if_pos ⟨k3, k4⟩] at c9; exact absurd c9 (by decide)) | (exfalso; omega) | (refine ⟨?_, by omega⟩; rcases h4 with ⟨e1, e2, -⟩ | ⟨e1, -⟩ <;> omega)
            rcases h4 with ⟨k1, k2, k3⟩ | ⟨k1, k2, k3, k4, k5, k6, k7⟩
            · refine Or.inl ⟨k1, k2, fun j q1 q2 q3 => ?_⟩
              by_cases hj : j = i
              · subst hj; exact Int.not_le.mp (fun q5 => by have := hno q3 q5; omega)
              · exact k3 j q1 (by omega) q3
            · refine Or.inr ⟨k1, by omega, k3, k4, k5, fun j q1 q2 q3 q4 => ?_, k7⟩
              by_cases hj : j = i
              · subst hj; exact (hno q3 q4).2
              · exact k6 j q1 (by omega) q3 q4
          · refine g_aload_n C 3 rfl dX2_leastClassPage_29 ?_
            refine gf_Store_pages C hob hps lf_X2_11 dX2_leastClassPage_30 ?_
            refine g_iload C 0 rfl dX2_leastClassPage_33 ?_
            obtain ⟨pg1, pg1e, pg1h⟩ := hpgs i (by omega) (by omega)
            obtain ⟨-, pg1r1, pg1r2, pg1r3, pg1r4, ⟨pg1hr1, pg1ha1⟩, ⟨pg1hr2, pg1ha2⟩, ⟨pg1hr3, pg1ha3⟩, ⟨pg1hr4, pg1ha4⟩⟩ := id pg1h
            refine g_aald C hq ⟨by omega, by omega⟩ (by decide) pg1e dX2_leastClassPage_35 ?_
            refine g_callI C [] [] (cv_X1_takesNewCells l D cy g V pg1 _ hap pg1h (hw _ (by omega) (by omega))) lm_X2_98 (rcv_Page pg1h.1) rfl (Nat.le_of_ble_eq_true rfl) ⟨(Nat.le_of_ble_eq_true rfl), (Nat.le_of_ble_eq_true rfl)⟩ ⟨Nat.zero_le _, Nat.zero_le _⟩ dX2_leastClassPage_36 ?_
            rintro _ V1 ⟨rfl, hV1⟩
            refine g_V hV1 ?_
            clear hV1 V1
            refine g_if_ne C (by split <;> exact ⟨by decide, by decide⟩) 45 dX2_leastClassPage_39 (by decide) (fun c39 => ?_) (fun c39 => ?_)
            · have hok : okp V b x y i := by
                by_cases hh : V (b + i) 0 0 = 1 ∧ V (b + i) 0 2 < 32
                · exact ⟨c20, c26, hh.1, hh.2⟩
                · exfalso; have c9 := c39; rw [if_neg hh] at c9; exact c9 rfl
              have hrm := hroom i (by omega) (by omega) hok.2.2.1
              refine g_aload_n C 3 rfl dX2_leastClassPage_45 ?_
              refine gf_Store_pages C hob hps lf_X2_11 dX2_leastClassPage_46 ?_
              refine g_iload C 0 rfl dX2_leastClassPage_49 ?_
              obtain ⟨pg2, pg2e, pg2h⟩ := hpgs i (by omega) (by omega)
              obtain ⟨-, pg2r1, pg2r2, pg2r3, pg2r4, ⟨pg2hr1, pg2ha1⟩, ⟨pg2hr2, pg2ha2⟩, ⟨pg2hr3, pg2ha3⟩, ⟨pg2hr4, pg2ha4⟩⟩ := id pg2h
              refine g_aald C hq ⟨by omega, by omega⟩ (by decide) pg2e dX2_leastClassPage_51 ?_
              refine g_callI C [] [] (cv_X1_room l D cy g V pg2 _ hap pg2h) lm_X2_102 (rcv_Page pg2h.1) rfl (Nat.le_of_ble_eq_true rfl) ⟨(Nat.le_of_ble_eq_true rfl), (Nat.le_of_ble_eq_true rfl)⟩ ⟨Nat.zero_le _, Nat.zero_le _⟩ dX2_leastClassPage_52 ?_
              rintro _ V1 ⟨rfl, hV1⟩
              refine g_V hV1 ?_
              clear hV1 V1
              refine g_bipush C 31 rfl dX2_leastClassPage_55 ?_
              refine g_idiv C (by omega) (by omega) dX2_leastClassPage_57 ?_
              refine g_istore C [(7, vI ((pRoom (V (b + i))) / 31)), (6, vI i), (4, vI r), (5, vI d), (0, .ref a), (1, vI q), (2, vI x), (3, vI y)] dX2_leastClassPage_58 (by decide) rfl ?_
              refine g_iload C 0 rfl dX2_leastClassPage_60 ?_
              refine g_bipush C 31 rfl dX2_leastClassPage_62 ?_
              refine g_imul C dX2_leastClassPage_64 ?_
              refine g_iload_n C 5 rfl dX2_leastClassPage_65 ?_
              refine g_icmp_lt C (by unfold rng; omega) (by unfold rng; omega) 84 dX2_leastClassPage_66 (by decide) (fun c66 => ?_) (fun c66 => ?_)
              · refine g_iinc C [(6, vI (i + 1)), (7, vI ((pRoom (V (b + i))) / 31)), (4, vI r), (5, vI d), (0, .ref a), (1, vI q), (2, vI x), (3, vI y)] 1 rfl dX2_leastClassPage_84 (by decide) rfl ?_
                refine g_goto C 10 dX2_leastClassPage_87 (by decide) ?_
                refine g_sub [0, 2, 3, 4, 5, 6, 7] rfl ?_
                refine ih (i + 1) r d (by omega) (by omega) (by omega) ?_
                have hcl : pCls (V (b + i)) = pRoom (V (b + i)) / 31 := rfl
                have hno : okp V b x y i → q ≤ pCls (V (b + i)) * 31 → (0 ≤ r ∧ d ≤ pCls (V (b + i))) := by
                  intro hk hq8
                  obtain ⟨k1, k2, k3, k4⟩ := id hk
                  have hrm9 := hroom i (by omega) (by omega) k3
                  first | (exact absurd (by assumption) k1) | (exact absurd (by assumption) k2) | (exfalso; have c9 := c39; rw [if_pos ⟨k3, k4⟩] at c9; exact absurd c9 (by decide)) | (exfalso; omega) | (refine ⟨?_, by omega⟩; rcases h4 with ⟨e1, e2, -⟩ | ⟨e1, -⟩ <;> omega)
                rcases h4 with ⟨k1, k2, k3⟩ | ⟨k1, k2, k3, k4, k5, k6, k7⟩
                · refine Or.inl ⟨k1, k2, fun j q1 q2 q3 => ?_⟩
                  by_cases hj : j = i
                  · subst hj; exact Int.not_le.mp (fun q5 => by have := hno q3 q5; omega)
                  · exact k3 j q1 (by omega) q3
                · refine Or.inr ⟨k1, by omega, k3, k4, k5, fun j q1 q2 q3 q4 => ?_, k7⟩
                  by_cases hj : j = i
                  · subst hj; exact (hno q3 q4).2
                  · exact k6 j q1 (by omega) q3 q4
              · refine g_iload C 0 rfl dX2_leastClassPage_69 ?_
                refine g_iload C 3 rfl dX2_leastClassPage_71 ?_
                refine g_icmp_ge C (by unfold rng; omega) (by unfold rng; omega) 84 dX2_leastClassPage_73 (by decide) (fun c73 => ?_) (fun c73 => ?_)
                · refine g_iinc C [(6, vI (i + 1)), (7, vI ((pRoom (V (b + i))) / 31)), (4, vI r), (5, vI d), (0, .ref a), (1, vI q), (2, vI x), (3, vI y)] 1 rfl dX2_leastClassPage_84 (by decide) rfl ?_
                  refine g_goto C 10 dX2_leastClassPage_87 (by decide) ?_
                  refine g_sub [0, 2, 3, 4, 5, 6, 7] rfl ?_
                  refine ih (i + 1) r d (by omega) (by omega) (by omega) ?_
                  have hcl : pCls (V (b + i)) = pRoom (V (b + i)) / 31 := rfl
                  have hno : okp V b x y i → q ≤ pCls (V (b + i)) * 31 → (0 ≤ r ∧ d ≤ pCls (V (b + i))) := by
                    intro hk hq8
                    obtain ⟨k1, k2, k3, k4⟩ := id hk
                    have hrm9 := hroom i (by omega) (by omega) k3
                    first | (exact absurd (by assumption) k1) | (exact absurd (by assumption) k2) | (exfalso; have c9 := c39; rw [if_pos ⟨k3, k4⟩] at c9; exact absurd c9 (by decide)) | (exfalso; omega) | (refine ⟨?_, by omega⟩; rcases h4 with ⟨e1, e2, -⟩ | ⟨e1, -⟩ <;> omega)
                  rcases h4 with ⟨k1, k2, k3⟩ | ⟨k1, k2, k3, k4, k5, k6, k7⟩
                  · refine Or.inl ⟨k1, k2, fun j q1 q2 q3 => ?_⟩
                    by_cases hj : j = i
                    · subst hj; exact Int.not_le.mp (fun q5 => by have := hno q3 q5; omega)
                    · exact k3 j q1 (by omega) q3
                  · refine Or.inr ⟨k1, by omega, k3, k4, k5, fun j q1 q2 q3 q4 => ?_, k7⟩
                    by_cases hj : j = i
                    · subst hj; exact (hno q3 q4).2
                    · exact k6 j q1 (by omega) q3 q4
                · refine g_iload C 1 rfl dX2_leastClassPage_76 ?_
                  refine g_istore C [(4, vI i), (7, vI ((pRoom (V (b + i))) / 31)), (6, vI i), (5, vI d), (0, .ref a), (1, vI q), (2, vI x), (3, vI y)] dX2_leastClassPage_78 (by decide) rfl ?_
                  refine g_iload C 1 rfl dX2_leastClassPage_80 ?_
                  refine g_istore C [(5, vI ((pRoom (V (b + i))) / 31)), (4, vI i), (7, vI ((pRoom (V (b + i))) / 31)), (6, vI i), (0, .ref a), (1, vI q), (2, vI x), (3, vI y)] dX2_leastClassPage_82 (by decide) rfl ?_
                  refine g_iinc C [(6, vI (i + 1)), (5, vI ((pRoom (V (b + i))) / 31)), (4, vI i), (7, vI ((pRoom (V (b + i))) / 31)), (0, .ref a), (1, vI q), (2, vI x), (3, vI y)] 3 rfl dX2_leastClassPage_84 (by decide) rfl ?_
                  refine g_goto C 10 dX2_leastClassPage_87 (by decide) ?_
                  refine g_sub [0, 2, 1, 4, 5, 6, 7] rfl ?_
                  refine ih (i + 1) i (pRoom (V (b + i)) / 31) (by omega) (by omega) (by omega) ?_
                  refine Or.inr ⟨by omega, by omega, hok, rfl, by omega, fun j q1 q2 q3 q4 => ?_, fun j q1 q2 q3 q4 => ?_⟩
                  · by_cases hj : j = i
                    · subst hj; exact Int.le_refl _
                    · rcases h4 with ⟨-, -, k3⟩ | ⟨k1, k2, k3, k4, k5, k6, k7⟩
                      · exact absurd q4 (by have := k3 j q1 (by omega) q3; omega)
                      · have := k6 j q1 (by omega) q3 q4; omega
                  · rcases h4 with ⟨-, -, k3⟩ | ⟨k1, k2, k3, k4, k5, k6, k7⟩
                    · exact absurd q4 (by have := k3 j q1 (by omega) q3; omega)
                    · have := k6 j q1 (by omega) q3 q4; omega
            · refine g_goto C 84 dX2_leastClassPage_42 (by decide) ?_
              refine g_iinc C [(6, vI (i + 1)), (4, vI r), (5, vI d), (0, .ref a), (1, vI q), (2, vI x), (3, vI y)] 0 rfl dX2_leastClassPage_84 (by decide) rfl ?_
              refine g_goto C 10 dX2_leastClassPage_87 (by decide) ?_
              refine g_sub [0, 1, 2, 3, 4, 5, 6] rfl ?_
              refine ih (i + 1) r d (by omega) (by omega) (by omega) ?_
              have hcl : pCls (V (b + i)) = pRoom (V (b + i)) / 31 := rfl
              have hno : okp V b x y i → q ≤ pCls (V (b + i)) * 31 → (0 ≤ r ∧ d ≤ pCls (V (b + i))) := by
                intro hk hq8
                obtain ⟨k1, k2, k3, k4⟩ := id hk
                have hrm9 := hroom i (by omega) (by omega) k3
                first | (exact absurd (by assumption) k1) | (exact absurd (by assumption) k2) | (exfalso; have c9 := c39; rw [if_pos ⟨k3, k4⟩] at c9; exact absurd c9 (by decide)) | (exfalso; omega) | (refine ⟨?_, by omega⟩; rcases h4 with ⟨e1, e2, -⟩ | ⟨e1, -⟩ <;> omega)
              rcases h4 with ⟨k1, k2, k3⟩ | ⟨k1, k2, k3, k4, k5, k6, k7⟩
              · refine Or.inl ⟨k1, k2, fun j q1 q2 q3 => ?_⟩
                by_cases hj : j = i
                · subst hj; exact Int.not_le.mp (fun q5 => by have := hno q3 q5; omega)
                · exact k3 j q1 (by omega) q3
              · refine Or.inr ⟨k1, by omega, k3, k4, k5, fun j q1 q2 q3 q4 => ?_, k7⟩
                by_cases hj : j = i
                · subst hj; exact (hno q3 q4).2
                · exact k6 j q1 (by omega) q3 q4
  refine g_iconst C (-1) rfl dX2_leastClassPage_0 ?_
  refine g_istore C [(4, vI ((-1))), (0, .ref a), (1, vI q), (2, vI x), (3, vI y)] dX2_leastClassPage_1 (by decide) rfl ?_
  refine g_bipush C 9 rfl dX2_leastClassPage_3 ?_
  refine g_istore C [(5, vI 9), (4, vI ((-1))), (0, .ref a), (1, vI q), (2, vI x), (3, vI y)] dX2_leastClassPage_5 (by decide) rfl ?_
  refine g_iconst C 0 rfl dX2_leastClassPage_7 ?_
  refine g_istore C [(6, vI 0), (5, vI 9), (4, vI ((-1))), (0, .ref a), (1, vI q), (2, vI x), (3, vI y)] dX2_leastClassPage_8 (by decide) rfl ?_
  refine g_sub [0, 2, 1, 3, 4, 5, 6] rfl ?_
  exact loop 96 0 (-1) 9 (by omega) (by omega) (by omega) (Or.inl ⟨rfl, rfl, fun j q1 q2 => absurd q1 (by omega)⟩)
set_option maxHeartbeats 4000000 in
set_option maxRecDepth 100000 in
theorem c_X2_placeFor (l : Launch) (D : va_G) (cy : ClassId × ClassId) (g : GT) (V : VT) (a : Nat) (b : Int) (q x y : Int) (hap : Apart g) (hS : isSt g a b) (hw : swf V b) (hroom : ∀ i, 0 ≤ i → i < 96 → V (b + i) 0 0 = 1 → 0 ≤ pRoom (V (b + i)) ∧ pRoom (V (b + i)) ≤ 248) (hq9 : 0 ≤ q ∧ q ≤ 1000) (hx : -1 ≤ x ∧ x ≤ 96) (hy : -1 ≤ y ∧ y ≤ 96) : MetI l yX2_placeFor cX2_placeFor 6 (some .int) 2 D cy g [.ref a, vI q, vI x, vI y] V (fun r V' => isPl V b (q + 4) x y r ∧ V' = V) := by
  obtain ⟨⟨ob, hob⟩, ps, hps, hq, hpgs⟩ := id hS
  refine MetI.of (by decide) (Nat.le_of_ble_eq_true rfl) hap ?_
  intro p_ e_ s_ m_ args_ below_ meth_ c_ C
  refine g_iload_n C 1 rfl dX2_placeFor_0 ?_
  refine g_iconst C 4 rfl dX2_placeFor_1 ?_
  refine g_iadd C dX2_placeFor_2 ?_
  refine g_istore C [(4, vI (q + 4)), (0, .ref a), (1, vI q), (2, vI x), (3, vI y)] dX2_placeFor_3 (by decide) rfl ?_
  refine g_aload_n C 1 rfl dX2_placeFor_5 ?_
  refine g_iload C 0 rfl dX2_placeFor_6 ?_
  refine g_iload_n C 3 rfl dX2_placeFor_8 ?_
  refine g_iload_n C 4 rfl dX2_placeFor_9 ?_
  refine g_callI C [vI (q + 4), vI x, vI y] [] (c_X2_leastClassPage l D cy g V a b (q + 4) x y hap hS hw hroom (by unfold sm; omega) (by unfold sm; omega) (by unfold sm; omega)) lm_X2_89 (rcv_Store hob) rfl (Nat.le_of_ble_eq_true rfl) ⟨(Nat.le_of_ble_eq_true rfl), (Nat.le_of_ble_eq_true rfl)⟩ ⟨Nat.zero_le _, Nat.zero_le _⟩ dX2_placeFor_10 ?_
  rintro r1 V1 ⟨⟨c1, h1⟩, hV1⟩
  refine g_V hV1 ?_
  clear hV1 V1
  have e1 : -1 ≤ r1 ∧ r1 < 96 := by rcases h1 with ⟨k, -⟩ | ⟨k1, k2, -⟩ <;> omega
  refine g_istore C [(5, vI r1), (4, vI (q + 4)), (0, .ref a), (1, vI q), (2, vI x), (3, vI y)] dX2_placeFor_13 (by decide) rfl ?_
  refine g_iload C 0 rfl dX2_placeFor_15 ?_
  refine g_iconst C (-1) rfl dX2_placeFor_17 ?_
  refine g_icmp_ne C (by unfold rng; omega) (by unfold rng; omega) 31 dX2_placeFor_18 (by decide) (fun c18 => ?_) (fun c18 => ?_)
  · refine g_iload C 0 rfl dX2_placeFor_31 ?_
    refine g_iconst C (-1) rfl dX2_placeFor_33 ?_
    refine g_icmp_ne C (by unfold rng; omega) (by unfold rng; omega) 45 dX2_placeFor_34 (by decide) (fun c34 => ?_) (fun c34 => absurd c34 (by omega))
    refine g_iload C 0 rfl dX2_placeFor_45 ?_
    exact g_iret C dX2_placeFor_47 ⟨Or.inl ⟨c1, c18, h1⟩, rfl⟩
  · refine g_aload_n C 2 rfl dX2_placeFor_21 ?_
    refine g_iload C 1 rfl dX2_placeFor_22 ?_
    refine g_iload_n C 4 rfl dX2_placeFor_24 ?_
    refine g_iload_n C 5 rfl dX2_placeFor_25 ?_
    refine g_callI C [vI (q + 4), vI x, vI y] [] (c_X2_firstPageWithRoom l D cy g V a b (q + 4) x y hap hS hw (by unfold sm; omega) (by unfold sm; omega) (by unfold sm; omega)) lm_X2_92 (rcv_Store hob) rfl (Nat.le_of_ble_eq_true rfl) ⟨(Nat.le_of_ble_eq_true rfl), (Nat.le_of_ble_eq_true rfl)⟩ ⟨Nat.zero_le _, Nat.zero_le _⟩ dX2_placeFor_26 ?_
    rintro r2 V1 ⟨h2, hV1⟩
    refine g_V hV1 ?_
    clear hV1 V1
    have e2 : -1 ≤ r2 ∧ r2 < 96 := by rcases h2 with ⟨k, -⟩ | ⟨k1, k2, -⟩ <;> omega
    have c1e : r1 = -1 := c18
    subst c1e
    refine g_istore C [(5, vI r2), (4, vI (q + 4)), (0, .ref a), (1, vI q), (2, vI x), (3, vI y)] dX2_placeFor_29 (by decide) rfl ?_
    refine g_iload C 0 rfl dX2_placeFor_31 ?_
    refine g_iconst C (-1) rfl dX2_placeFor_33 ?_
    refine g_icmp_ne C (by unfold rng; omega) (by unfold rng; omega) 45 dX2_placeFor_34 (by decide) (fun c34 => ?_) (fun c34 => ?_)
    · refine g_iload C 0 rfl dX2_placeFor_45 ?_
      exact g_iret C dX2_placeFor_47 ⟨Or.inr ⟨⟨c1, h1⟩, Or.inl ⟨c34, h2⟩⟩, rfl⟩
    · refine g_aload_n C 2 rfl dX2_placeFor_37 ?_
      refine g_iconst C 0 rfl dX2_placeFor_38 ?_
      refine g_callI C [vI 0] [] (c_X2_leastFreePage l D cy g V a b 0 hap hS hw (by omega)) lm_X2_95 (rcv_Store hob) rfl (Nat.le_of_ble_eq_true rfl) ⟨(Nat.le_of_ble_eq_true rfl), (Nat.le_of_ble_eq_true rfl)⟩ ⟨Nat.zero_le _, Nat.zero_le _⟩ dX2_placeFor_39 ?_
      rintro r3 V1 ⟨h3, hV1⟩
      refine g_V hV1 ?_
      clear hV1 V1
      refine g_goto C 47 dX2_placeFor_42 (by decide) ?_
      have c2e : r2 = -1 := c34
      subst c2e
      exact g_iret C dX2_placeFor_47 ⟨Or.inr ⟨⟨c1, h1⟩, Or.inr ⟨h2, h3⟩⟩, rfl⟩
set_option maxHeartbeats 4000000 in
set_option maxRecDepth 100000 in
theorem c_X2_hasPagesForChain (l : Launch) (D : va_G) (cy : ClassId × ClassId) (g : GT) (V : VT) (a : Nat) (b : Int) (q : Int) (hap : Apart g) (hS : isSt g a b) (hw : swf V b) (hn : 0 ≤ q ∧ q ≤ 1200) : MetI l yX2_hasPagesForChain cX2_hasPagesForChain 3 (some .boolean) 1 D cy g [.ref a, vI q] V (fun r V' => r = (if chP q ≤ cntK (kd V b) 0 96 then 1 else 0) ∧ V' = V) := by
  obtain ⟨⟨ob, hob⟩, ps, hps, hq, hpgs⟩ := id hS
  have hc := chP_bd hn
  have hk := cntK_bd (kd V b) 0 96
  refine MetI.of (by decide) (Nat.le_of_ble_eq_true rfl) hap ?_
  intro p_ e_ s_ m_ args_ below_ meth_ c_ C
  refine g_iload_n C 1 rfl dX2_hasPagesForChain_0 ?_
  refine g_callNI C [vI q] [] (c_X3_chainPages l D cy g V q hap hn) lm_X2_110 rfl (Nat.le_of_ble_eq_true rfl) ⟨(Nat.le_of_ble_eq_true rfl), (Nat.le_of_ble_eq_true rfl)⟩ ⟨Nat.zero_le _, Nat.zero_le _⟩ dX2_hasPagesForChain_1 ?_
  rintro _ V1 ⟨rfl, hV1⟩
  refine g_V hV1 ?_
  clear hV1 V1
  refine g_istore_n C [(2, vI (chP q)), (0, .ref a), (1, vI q)] dX2_hasPagesForChain_4 rfl (by decide) rfl ?_
  refine g_iload_n C 0 rfl dX2_hasPagesForChain_5 ?_
  refine g_if_eq C (by unfold rng; omega) 18 dX2_hasPagesForChain_6 (by decide) (fun c6 => ?_) (fun c6 => ?_)
  · refine g_iconst C 1 rfl dX2_hasPagesForChain_18 ?_
    refine g_goto C 23 dX2_hasPagesForChain_19 (by decide) ?_
    exact g_zret C (by omega) dX2_hasPagesForChain_23 ⟨by first | rw [if_pos (by omega)] | rw [if_neg (by omega)], rfl⟩
  · refine g_iload_n C 0 rfl dX2_hasPagesForChain_9 ?_
    refine g_aload_n C 1 rfl dX2_hasPagesForChain_10 ?_
    refine g_iconst C 0 rfl dX2_hasPagesForChain_11 ?_
    refine g_callI C [vI 0] [vI (chP q)] (c_X2_pagesThatAre l D cy g V a b 0 hap hS hw (by unfold sm; omega)) lm_X2_113 (rcv_Store hob) rfl (Nat.le_of_ble_eq_true rfl) ⟨(Nat.le_of_ble_eq_true rfl), (Nat.le_of_ble_eq_true rfl)⟩ ⟨Nat.zero_le _, Nat.zero_le _⟩ dX2_hasPagesForChain_12 ?_
    rintro _ V1 ⟨rfl, hV1⟩
    refine g_V hV1 ?_
    clear hV1 V1
    refine g_icmp_gt C (by unfold rng; omega) (by unfold rng; omega) 22 dX2_hasPagesForChain_15 (by decide) (fun c15 => ?_) (fun c15 => ?_)
    · refine g_iconst C 0 rfl dX2_hasPagesForChain_22 ?_
      exact g_zret C (by omega) dX2_hasPagesForChain_23 ⟨by first | rw [if_pos (by omega)] | rw [if_neg (by omega)], rfl⟩
    · refine g_iconst C 1 rfl dX2_hasPagesForChain_18 ?_
      refine g_goto C 23 dX2_hasPagesForChain_19 (by decide) ?_
      exact g_zret C (by omega) dX2_hasPagesForChain_23 ⟨by first | rw [if_pos (by omega)] | rw [if_neg (by omega)], rfl⟩
set_option maxHeartbeats 4000000 in
set_option maxRecDepth 100000 in
theorem c_X2_hasRecord (l : Launch) (D : va_G) (cy : ClassId × ClassId) (g : GT) (V : VT) (a : Nat) (b : Int) (q : Int) (hap : Apart g) (hS : isSt g a b) (hw : swf V b) (hq9 : rng q) : MetI l yX2_hasRecord cX2_hasRecord 2 (some .boolean) 1 D cy g [.ref a, vI q] V (fun r V' => r = (if 0 ≤ q ∧ q < 3072 ∧ (V (b + q / 32) 1 (q % 32) = 1 ∨ V (b + q / 32) 1 (q % 32) = 2) then 1 else 0) ∧ V' = V) := by
  obtain ⟨⟨ob, hob⟩, ps, hps, hq, hpgs⟩ := id hS
  unfold rng at hq9
  refine MetI.of (by decide) (Nat.le_of_ble_eq_true rfl) hap ?_
  intro p_ e_ s_ m_ args_ below_ meth_ c_ C
  refine g_iload_n C 1 rfl dX2_hasRecord_0 ?_
  refine g_if_lt C (by unfold rng; omega) 34 dX2_hasRecord_1 (by decide) (fun c1 => ?_) (fun c1 => ?_)
  · refine g_iconst C 0 rfl dX2_hasRecord_34 ?_
    refine g_zret C (by omega) dX2_hasRecord_35 ⟨?_, rfl⟩
    rw [if_neg]
    rintro ⟨k1, k2, k3⟩
    first | (exfalso; omega) | (have c9 := c27; unfold isRec pHome at k3; rw [if_pos k3] at c9; exact absurd c9 (by decide))
  · refine g_iload_n C 1 rfl dX2_hasRecord_4 ?_
    refine g_sipush C 3072 rfl dX2_hasRecord_5 ?_
    refine g_icmp_ge C (by unfold rng; omega) (by unfold rng; omega) 34 dX2_hasRecord_8 (by decide) (fun c8 => ?_) (fun c8 => ?_)
    · refine g_iconst C 0 rfl dX2_hasRecord_34 ?_
      refine g_zret C (by omega) dX2_hasRecord_35 ⟨?_, rfl⟩
      rw [if_neg]
      rintro ⟨k1, k2, k3⟩
      first | (exfalso; omega) | (have c9 := c27; unfold isRec pHome at k3; rw [if_pos k3] at c9; exact absurd c9 (by decide))
    · refine g_aload_n C 0 rfl dX2_hasRecord_11 ?_
      refine gf_Store_pages C hob hps lf_X2_11 dX2_hasRecord_12 ?_
      refine g_iload_n C 1 rfl dX2_hasRecord_15 ?_
      refine g_bipush C 32 rfl dX2_hasRecord_16 ?_
      refine g_idiv C (by omega) (by omega) dX2_hasRecord_18 ?_
      obtain ⟨pg1, pg1e, pg1h⟩ := hpgs (q / 32) (by omega) (by omega)
      obtain ⟨-, pg1r1, pg1r2, pg1r3, pg1r4, ⟨pg1hr1, pg1ha1⟩, ⟨pg1hr2, pg1ha2⟩, ⟨pg1hr3, pg1ha3⟩, ⟨pg1hr4, pg1ha4⟩⟩ := id pg1h
      refine g_aald C hq ⟨by omega, by omega⟩ (by decide) pg1e dX2_hasRecord_19 ?_
      refine g_iload_n C 1 rfl dX2_hasRecord_20 ?_
      refine g_bipush C 32 rfl dX2_hasRecord_21 ?_
      refine g_irem C (by omega) (by omega) dX2_hasRecord_23 ?_
      refine g_callI C [vI (q % 32)] [] (cv_X1_hasHome l D cy g V pg1 _ (q % 32) hap pg1h (by omega) (hw _ (by omega) (by omega))) lm_X2_22 (rcv_Page pg1h.1) rfl (Nat.le_of_ble_eq_true rfl) ⟨(Nat.le_of_ble_eq_true rfl), (Nat.le_of_ble_eq_true rfl)⟩ ⟨Nat.zero_le _, Nat.zero_le _⟩ dX2_hasRecord_24 ?_
      rintro _ V1 ⟨rfl, hV1⟩
      refine g_V hV1 ?_
      clear hV1 V1
      refine g_if_eq C (by split <;> exact ⟨by decide, by decide⟩) 34 dX2_hasRecord_27 (by decide) (fun c27 => ?_) (fun c27 => ?_)
      · refine g_iconst C 0 rfl dX2_hasRecord_34 ?_
        refine g_zret C (by omega) dX2_hasRecord_35 ⟨?_, rfl⟩
        rw [if_neg]
        rintro ⟨k1, k2, k3⟩
        first | (exfalso; omega) | (have c9 := c27; unfold isRec pHome at k3; rw [if_pos k3] at c9; exact absurd c9 (by decide))
      · refine g_iconst C 1 rfl dX2_hasRecord_30 ?_
        refine g_goto C 35 dX2_hasRecord_31 (by decide) ?_
        refine g_zret C (by omega) dX2_hasRecord_35 ⟨?_, rfl⟩
        rw [if_pos]
        refine ⟨by omega, by omega, ?_⟩
        by_cases hh : V (b + q / 32) 1 (q % 32) = 1 ∨ V (b + q / 32) 1 (q % 32) = 2
        · exact hh
        · exfalso; rw [if_neg hh] at c27; exact c27 rfl
set_option maxHeartbeats 4000000 in
set_option maxRecDepth 100000 in
theorem c_X2_valueCell (l : Launch) (D : va_G) (cy : ClassId × ClassId) (g : GT) (V : VT) (a : Nat) (b : Int) (q : Int) (hap : Apart g) (hS : isSt g a b) (hw : swf V b) (hq9 : 0 ≤ q ∧ q < 3072) : MetI l yX2_valueCell cX2_valueCell 4 (some .int) 0 D cy g [.ref a, vI q] V (fun r V' => r = vcel V b q ∧ V' = V) := by
  obtain ⟨⟨ob, hob⟩, ps, hps, hq, hpgs⟩ := id hS
  refine MetI.of (by decide) (Nat.le_of_ble_eq_true rfl) hap ?_
  intro p_ e_ s_ m_ args_ below_ meth_ c_ C
  refine g_aload_n C 0 rfl dX2_valueCell_0 ?_
  refine gf_Store_pages C hob hps lf_X2_11 dX2_valueCell_1 ?_
  refine g_iload_n C 1 rfl dX2_valueCell_4 ?_
  refine g_bipush C 32 rfl dX2_valueCell_5 ?_
  refine g_idiv C (by omega) (by omega) dX2_valueCell_7 ?_
  obtain ⟨pg1, pg1e, pg1h⟩ := hpgs (q / 32) (by omega) (by omega)
  obtain ⟨-, pg1r1, pg1r2, pg1r3, pg1r4, ⟨pg1hr1, pg1ha1⟩, ⟨pg1hr2, pg1ha2⟩, ⟨pg1hr3, pg1ha3⟩, ⟨pg1hr4, pg1ha4⟩⟩ := id pg1h
  refine g_aald C hq ⟨by omega, by omega⟩ (by decide) pg1e dX2_valueCell_8 ?_
  refine g_astore_n C [(2, .ref pg1), (0, .ref a), (1, vI q)] dX2_valueCell_9 rfl (by decide) rfl ?_
  refine g_iload_n C 2 rfl dX2_valueCell_10 ?_
  refine g_bipush C 32 rfl dX2_valueCell_11 ?_
  refine g_irem C (by omega) (by omega) dX2_valueCell_13 ?_
  refine g_istore_n C [(3, vI (q % 32)), (2, .ref pg1), (0, .ref a), (1, vI q)] dX2_valueCell_14 rfl (by decide) rfl ?_
  refine g_aload_n C 1 rfl dX2_valueCell_15 ?_
  refine gfN_Page_kinds C pg1h.1 pg1hr1 lf_X2_30 dX2_valueCell_16 ?_
  refine g_iload_n C 0 rfl dX2_valueCell_19 ?_
  refine g_iald C pg1ha1 (by omega) (by decide) dX2_valueCell_20 ?_
  refine g_iconst C 2 rfl dX2_valueCell_21 ?_
  refine g_icmp_ne C (by have z := (hw (q / 32) (by omega) (by omega)).2.2.2.2.2.2 (q % 32) (by omega) (by omega); unfold rng; omega) (by unfold rng; omega) 34 dX2_valueCell_22 (by decide) (fun c22 => ?_) (fun c22 => ?_)
  · refine g_iload_n C 3 rfl dX2_valueCell_34 ?_
    refine g_iret C dX2_valueCell_35 ⟨?_, rfl⟩
    unfold vcel
    first | rw [if_pos (by assumption)] | rw [if_neg (by assumption)]
  · refine g_aload_n C 1 rfl dX2_valueCell_25 ?_
    refine gfN_Page_links C pg1h.1 pg1hr4 lf_X2_34 dX2_valueCell_26 ?_
    refine g_iload_n C 0 rfl dX2_valueCell_29 ?_
    refine g_iald C pg1ha4 (by omega) (by decide) dX2_valueCell_30 ?_
    refine g_goto C 35 dX2_valueCell_31 (by decide) ?_
    refine g_iret C dX2_valueCell_35 ⟨?_, rfl⟩
    unfold vcel
    first | rw [if_pos (by assumption)] | rw [if_neg (by assumption)]
set_option maxHeartbeats 4000000 in
set_option maxRecDepth 100000 in
theorem c_X2_lengthOf (l : Launch) (D : va_G) (cy : ClassId × ClassId) (g : GT) (V : VT) (a : Nat) (b : Int) (q : Int) (hap : Apart g) (hS : isSt g a b) (hw : swf V b) (hq9 : 0 ≤ q ∧ q < 3072) (hv : 0 ≤ vcel V b q ∧ vcel V b q < 3072) : MetI l yX2_lengthOf cX2_lengthOf 3 (some .int) 1 D cy g [.ref a, vI q] V (fun r V' => r = V (b + vcel V b q / 32) 2 (vcel V b q % 32) ∧ V' = V) := by
  obtain ⟨⟨ob, hob⟩, ps, hps, hq, hpgs⟩ := id hS
  refine MetI.of (by decide) (Nat.le_of_ble_eq_true rfl) hap ?_
  intro p_ e_ s_ m_ args_ below_ meth_ c_ C
  refine g_aload_n C 0 rfl dX2_lengthOf_0 ?_
  refine g_iload_n C 1 rfl dX2_lengthOf_1 ?_
  refine g_callI C [vI q] [] (c_X2_valueCell l D cy g V a b q hap hS hw hq9) lm_X2_37 (rcv_Store hob) rfl (Nat.le_of_ble_eq_true rfl) ⟨(Nat.le_of_ble_eq_true rfl), (Nat.le_of_ble_eq_true rfl)⟩ ⟨Nat.zero_le _, Nat.zero_le _⟩ dX2_lengthOf_2 ?_
  rintro _ V1 ⟨rfl, hV1⟩
  refine g_V hV1 ?_
  clear hV1 V1
  refine g_istore_n C [(2, vI (vcel V b q)), (0, .ref a), (1, vI q)] dX2_lengthOf_5 rfl (by decide) rfl ?_
  refine g_aload_n C 1 rfl dX2_lengthOf_6 ?_
  refine gf_Store_pages C hob hps lf_X2_11 dX2_lengthOf_7 ?_
  refine g_iload_n C 0 rfl dX2_lengthOf_10 ?_
  refine g_bipush C 32 rfl dX2_lengthOf_11 ?_
  refine g_idiv C (by omega) (by omega) dX2_lengthOf_13 ?_
  obtain ⟨pg1, pg1e, pg1h⟩ := hpgs ((vcel V b q) / 32) (by omega) (by omega)
  obtain ⟨-, pg1r1, pg1r2, pg1r3, pg1r4, ⟨pg1hr1, pg1ha1⟩, ⟨pg1hr2, pg1ha2⟩, ⟨pg1hr3, pg1ha3⟩, ⟨pg1hr4, pg1ha4⟩⟩ := id pg1h
  refine g_aald C hq ⟨by omega, by omega⟩ (by decide) pg1e dX2_lengthOf_14 ?_
  refine gfN_Page_lengths C pg1h.1 pg1hr2 lf_X2_40 dX2_lengthOf_15 ?_
  refine g_iload_n C 0 rfl dX2_lengthOf_18 ?_
  refine g_bipush C 32 rfl dX2_lengthOf_19 ?_
  refine g_irem C (by omega) (by omega) dX2_lengthOf_21 ?_
  refine g_iald C pg1ha2 (by omega) (by decide) dX2_lengthOf_22 ?_
  exact g_iret C dX2_lengthOf_23 ⟨rfl, rfl⟩
set_option maxHeartbeats 4000000 in
set_option maxRecDepth 100000 in
theorem c_X2_seedOf (l : Launch) (D : va_G) (cy : ClassId × ClassId) (g : GT) (V : VT) (a : Nat) (b : Int) (q : Int) (hap : Apart g) (hS : isSt g a b) (hw : swf V b) (hq9 : 0 ≤ q ∧ q < 3072) (hv : 0 ≤ vcel V b q ∧ vcel V b q < 3072) : MetI l yX2_seedOf cX2_seedOf 3 (some .int) 1 D cy g [.ref a, vI q] V (fun r V' => r = V (b + vcel V b q / 32) 3 (vcel V b q % 32) ∧ V' = V) := by
  obtain ⟨⟨ob, hob⟩, ps, hps, hq, hpgs⟩ := id hS
  refine MetI.of (by decide) (Nat.le_of_ble_eq_true rfl) hap ?_
  intro p_ e_ s_ m_ args_ below_ meth_ c_ C
  refine g_aload_n C 0 rfl dX2_seedOf_0 ?_
  refine g_iload_n C 1 rfl dX2_seedOf_1 ?_
  refine g_callI C [vI q] [] (c_X2_valueCell l D cy g V a b q hap hS hw hq9) lm_X2_37 (rcv_Store hob) rfl (Nat.le_of_ble_eq_true rfl) ⟨(Nat.le_of_ble_eq_true rfl), (Nat.le_of_ble_eq_true rfl)⟩ ⟨Nat.zero_le _, Nat.zero_le _⟩ dX2_seedOf_2 ?_
  rintro _ V1 ⟨rfl, hV1⟩
  refine g_V hV1 ?_
  clear hV1 V1
  refine g_istore_n C [(2, vI (vcel V b q)), (0, .ref a), (1, vI q)] dX2_seedOf_5 rfl (by decide) rfl ?_
  refine g_aload_n C 1 rfl dX2_seedOf_6 ?_
  refine gf_Store_pages C hob hps lf_X2_11 dX2_seedOf_7 ?_
  refine g_iload_n C 0 rfl dX2_seedOf_10 ?_
  refine g_bipush C 32 rfl dX2_seedOf_11 ?_
  refine g_idiv C (by omega) (by omega) dX2_seedOf_13 ?_
  obtain ⟨pg1, pg1e, pg1h⟩ := hpgs ((vcel V b q) / 32) (by omega) (by omega)
  obtain ⟨-, pg1r1, pg1r2, pg1r3, pg1r4, ⟨pg1hr1, pg1ha1⟩, ⟨pg1hr2, pg1ha2⟩, ⟨pg1hr3, pg1ha3⟩, ⟨pg1hr4, pg1ha4⟩⟩ := id pg1h
  refine g_aald C hq ⟨by omega, by omega⟩ (by decide) pg1e dX2_seedOf_14 ?_
  refine gfN_Page_seeds C pg1h.1 pg1hr3 lf_X2_43 dX2_seedOf_15 ?_
  refine g_iload_n C 0 rfl dX2_seedOf_18 ?_
  refine g_bipush C 32 rfl dX2_seedOf_19 ?_
  refine g_irem C (by omega) (by omega) dX2_seedOf_21 ?_
  refine g_iald C pg1ha3 (by omega) (by decide) dX2_seedOf_22 ?_
  exact g_iret C dX2_seedOf_23 ⟨rfl, rfl⟩
set_option maxHeartbeats 4000000 in
set_option maxRecDepth 100000 in
theorem c_X2_chainOf (l : Launch) (D : va_G) (cy : ClassId × ClassId) (g : GT) (V : VT) (a : Nat) (b : Int) (q : Int) (hap : Apart g) (hS : isSt g a b) (hw : swf V b) (hq9 : 0 ≤ q ∧ q < 3072) (hv : 0 ≤ vcel V b q ∧ vcel V b q < 3072) : MetI l yX2_chainOf cX2_chainOf 3 (some .int) 1 D cy g [.ref a, vI q] V (fun r V' => r = V (b + vcel V b q / 32) 4 (vcel V b q % 32) ∧ V' = V) := by
  obtain ⟨⟨ob, hob⟩, ps, hps, hq, hpgs⟩ := id hS
  refine MetI.of (by decide) (Nat.le_of_ble_eq_true rfl) hap ?_
  intro p_ e_ s_ m_ args_ below_ meth_ c_ C
  refine g_aload_n C 0 rfl dX2_chainOf_0 ?_
  refine g_iload_n C 1 rfl dX2_chainOf_1 ?_
  refine g_callI C [vI q] [] (c_X2_valueCell l D cy g V a b q hap hS hw hq9) lm_X2_37 (rcv_Store hob) rfl (Nat.le_of_ble_eq_true rfl) ⟨(Nat.le_of_ble_eq_true rfl), (Nat.le_of_ble_eq_true rfl)⟩ ⟨Nat.zero_le _, Nat.zero_le _⟩ dX2_chainOf_2 ?_
  rintro _ V1 ⟨rfl, hV1⟩
  refine g_V hV1 ?_
  clear hV1 V1
  refine g_istore_n C [(2, vI (vcel V b q)), (0, .ref a), (1, vI q)] dX2_chainOf_5 rfl (by decide) rfl ?_
  refine g_aload_n C 1 rfl dX2_chainOf_6 ?_
  refine gf_Store_pages C hob hps lf_X2_11 dX2_chainOf_7 ?_
  refine g_iload_n C 0 rfl dX2_chainOf_10 ?_
  refine g_bipush C 32 rfl dX2_chainOf_11 ?_
  refine g_idiv C (by omega) (by omega) dX2_chainOf_13 ?_
  obtain ⟨pg1, pg1e, pg1h⟩ := hpgs ((vcel V b q) / 32) (by omega) (by omega)
  obtain ⟨-, pg1r1, pg1r2, pg1r3, pg1r4, ⟨pg1hr1, pg1ha1⟩, ⟨pg1hr2, pg1ha2⟩, ⟨pg1hr3, pg1ha3⟩, ⟨pg1hr4, pg1ha4⟩⟩ := id pg1h
  refine g_aald C hq ⟨by omega, by omega⟩ (by decide) pg1e dX2_chainOf_14 ?_
  refine gfN_Page_links C pg1h.1 pg1hr4 lf_X2_34 dX2_chainOf_15 ?_
  refine g_iload_n C 0 rfl dX2_chainOf_18 ?_
  refine g_bipush C 32 rfl dX2_chainOf_19 ?_
  refine g_irem C (by omega) (by omega) dX2_chainOf_21 ?_
  refine g_iald C pg1ha4 (by omega) (by decide) dX2_chainOf_22 ?_
  exact g_iret C dX2_chainOf_23 ⟨rfl, rfl⟩
end
section
section
variable {p : Program} {l : Launch} {e : Env} {R : Room} {s : State} {m : MethodId} {args : Array Value} {below : List Frame} {meth : Method} {c : Code} {cells slots nL : Nat} {Q : State → Prop}
variable {cc : ByteArray} {own : String} {ret : Option FieldType} {D : va_G} {cy : ClassId × ClassId} {g : GT} {A : Nat → Prop} {H0 : Heap} {V : VT} {pc : Nat} {lv : List (Nat × Value)} {st : List Value}
theorem g_iincW (C : Cx p s m args meth c cc nL own ret D cy g A) {i : Nat} {n x : Int} (lv' : List (Nat × Value)) (j : Nat) (hk : lv[j]? = some (i, vI x)) (hd : decode cc pc = .ok (.iinc i n, 6)) (hn : i < nL) (hl' : (i, vI (x + n)) :: lv.filter (fun q => !(q.1 == i) && !(q.1 + 1 == i && q.2.category == 2)) = lv') (kk : G p l e R s m args below meth c nL cells slots Q D cy g A H0 V (pc + 6) lv' st) : G p l e R s m args below meth c nL cells slots Q D cy g A H0 V pc lv st := by
  intro H locs ls hP hS hl
  exact lv_iincW (x := iI x) (v := iI (x + n)) C.1.1 C.1.2.1 hd hl hk (iI_add x n) hn hl' (fun ls' hl2 => kk H locs ls' hP hS hl2)
end
theorem isLF_uniq {K : Int → Int} {f r r' : Int} (hf : 0 ≤ f) (h : isLF K f r) (h' : isLF K f r') : r = r' := by
  rcases h with ⟨e, k⟩ | ⟨k1, k2, k3, k4⟩ <;> rcases h' with ⟨e', k'⟩ | ⟨k1', k2', k3', k4'⟩
  · omega
  · exact absurd k3' (k r' k1' k2')
  · exact absurd k3 (k' r k1 k2)
  · rcases Int.lt_trichotomy r r' with q | q | q
    · exact absurd k3 (k4' r k1 q)
    · exact q
    · exact absurd k3' (k4 r' k1' q)
def lfn (K : Int → Int) : Nat → Int
  | 0 => -1
  | n + 1 => if lfn K n = -1 then (if K n = 0 then n else -1) else lfn K n
theorem lfn_ok (K : Int → Int) (n : Nat) : (lfn K n = -1 ∧ ∀ i : Int, 0 ≤ i → i < n → K i ≠ 0) ∨ (0 ≤ lfn K n ∧ lfn K n < n ∧ K (lfn K n) = 0 ∧ ∀ i : Int, 0 ≤ i → i < lfn K n → K i ≠ 0) := by
  induction n with
  | zero => exact Or.inl ⟨rfl, fun i h1 h2 => absurd h2 (by omega)⟩
  | succ n ih =>
    unfold lfn
    rcases ih with ⟨e, k⟩ | ⟨k1, k2, k3, k4⟩
    · rw [if_pos e]
      by_cases h : K n = 0
      · rw [if_pos h]
        exact Or.inr ⟨by omega, by omega, h, fun i h1 h2 => k i h1 h2⟩
      · rw [if_neg h]
        refine Or.inl ⟨rfl, fun i h1 h2 => ?_⟩
        by_cases hi : i = n
        · subst hi; exact h
        · exact k i h1 (by omega)
    · rw [if_neg (by omega)]
      exact Or.inr ⟨k1, by omega, k3, k4⟩
def lfr (K : Int → Int) : Int := lfn K 96
theorem lfr_LF (K : Int → Int) : isLF K 0 (lfr K) := by
  rcases lfn_ok K 96 with ⟨e, k⟩ | ⟨k1, k2, k3, k4⟩
  · exact Or.inl ⟨e, fun i h1 h2 => k i h1 (by omega)⟩
  · exact Or.inr ⟨k1, by unfold lfr; omega, k3, k4⟩
theorem cntK_congr {K K' : Int → Int} {k : Int} {n : Nat} (h : ∀ i : Int, 0 ≤ i → i < n → K i = K' i) : cntK K k n = cntK K' k n := by
  induction n with
  | zero => rfl
  | succ n ih =>
    unfold cntK
    rw [ih (fun i h1 h2 => h i h1 (by omega)), h n (by omega) (by omega)]
theorem cntK_set {K K' : Int → Int} {k r : Int} {n : Nat} (hr : 0 ≤ r ∧ r < n) (h1 : K r = k) (h2 : K' r ≠ k) (h : ∀ i : Int, 0 ≤ i → i < n → i ≠ r → K' i = K i) : cntK K' k n = cntK K k n - 1 := by
  induction n with
  | zero => omega
  | succ n ih =>
    unfold cntK
    by_cases hn : r = n
    · subst hn
      rw [if_neg h2, if_pos h1, cntK_congr (fun i q1 q2 => h i q1 (by omega) (by omega))]
      omega
    · rw [ih ⟨hr.1, by omega⟩ (fun i q1 q2 q3 => h i q1 (by omega) q3), h n (by omega) (by omega) (fun q => hn q.symm)]
      split <;> omega
theorem cntK_pos {K : Int → Int} {k : Int} {n : Nat} (h : 0 < cntK K k n) : ∃ i : Int, 0 ≤ i ∧ i < n ∧ K i = k := by
  induction n with
  | zero => exact absurd h (Int.lt_irrefl 0)
  | succ n ih =>
    unfold cntK at h
    by_cases hk : K n = k
    · exact ⟨n, by omega, by omega, hk⟩
    · rw [if_neg hk] at h
      obtain ⟨i, h1, h2, h3⟩ := ih h
      exact ⟨i, h1, by omega, h3⟩
/-- one page more of a chain: V, first, last, left -/
def tcStep (b : Int) (S : VT × Int × Int × Int) : VT × Int × Int × Int :=
  if S.2.2.1 = -1 then (setp S.1 (b + lfr (kd S.1 b)) (pChain (S.1 (b + lfr (kd S.1 b))) (if 240 < S.2.2.2 then 240 else S.2.2.2)), lfr (kd S.1 b), lfr (kd S.1 b), S.2.2.2 + (-240))
  else (up (setp S.1 (b + lfr (kd S.1 b)) (pChain (S.1 (b + lfr (kd S.1 b))) (if 240 < S.2.2.2 then 240 else S.2.2.2))) (b + S.2.2.1) 0 6 (lfr (kd S.1 b)), S.2.1, lfr (kd S.1 b), S.2.2.2 + (-240))
def tcN (b : Int) (V : VT) (len : Int) : Nat → VT × Int × Int × Int
  | 0 => (V, -1, -1, len)
  | k + 1 => tcStep b (tcN b V len k)
theorem pwf_chain {w : Int → Int → Int} (h : pwf w) (q : Int) : pwf (pChain w q) := by
  obtain ⟨z0, z1, z2, z3, z4, z5, z6⟩ := h
  refine ⟨by simp [pChain, upw, sm], by simpa [pChain, upw] using z1, by simpa [pChain, upw] using z2, by simpa [pChain, upw] using z3, by simpa [pChain, upw] using z4, by simpa [pChain, upw] using z5, fun s h1 h2 => by simpa [pChain, upw] using z6 s h1 h2⟩
theorem pwf_free {w : Int → Int → Int} (h : pwf w) : pwf (pFree w) := by
  obtain ⟨z0, z1, z2, z3, z4, z5, z6⟩ := h
  refine ⟨by simp [pFree, upw, sm], by simpa [pFree, upw] using z1, by simpa [pFree, upw] using z2, by simpa [pFree, upw] using z3, by simpa [pFree, upw] using z4, by simp [pFree, upw, sm], fun s h1 h2 => by simpa [pFree, upw] using z6 s h1 h2⟩
theorem pwf_next {V : VT} {o o' : Int} {v : Int} (h : pwf (V o)) : pwf (up V o' 0 6 v o) := by
  obtain ⟨z0, z1, z2, z3, z4, z5, z6⟩ := h
  refine ⟨by simpa [up] using z0, by simpa [up] using z1, by simpa [up] using z2, by simpa [up] using z3, by simpa [up] using z4, by simpa [up] using z5, fun s h1 h2 => by simpa [up] using z6 s h1 h2⟩
theorem swf_setp {V : VT} {b i : Int} {w : Int → Int → Int} (h : swf V b) (hw : pwf w) : swf (setp V (b + i) w) b := by
  intro j h1 h2
  by_cases hj : j = i
  · subst hj; rw [setp_at]; exact hw
  · rw [setp_ne (by omega)]; exact h j h1 h2
theorem swf_next {V : VT} {b o' v : Int} (h : swf V b) : swf (up V o' 0 6 v) b := fun j h1 h2 => pwf_next (h j h1 h2)
/-- what holds while a chain is taken -/
theorem tc_inv {b : Int} {V : VT} {len : Int} (hw : swf V b) (m : Nat) (hm : (m : Int) ≤ cntK (kd V b) 0 96) : ∀ k : Nat, k ≤ m → swf (tcN b V len k).1 b ∧ (-1 ≤ (tcN b V len k).2.2.1 ∧ (tcN b V len k).2.2.1 < 96) ∧ (∀ i, 0 ≤ i → i ≤ (tcN b V len k).2.2.1 → kd (tcN b V len k).1 b i ≠ 0) ∧ cntK (kd (tcN b V len k).1 b) 0 96 = cntK (kd V b) 0 96 - k ∧ (tcN b V len k).2.2.2 = len - 240 * k := by
  intro k
  induction k with
  | zero => intro _; exact ⟨hw, ⟨by simp only [tcN]; omega, by simp only [tcN]; omega⟩, fun i h1 h2 => absurd h2 (by simp only [tcN]; omega), by simp [tcN], by simp [tcN]⟩
  | succ k ih =>
    intro hk
    obtain ⟨i1, i2, i3, i4, i5⟩ := ih (by omega)
    have hpos : 0 < cntK (kd (tcN b V len k).1 b) 0 96 := by rw [i4]; omega
    obtain ⟨f, f1, f2, f3⟩ := cntK_pos hpos
    have hl := lfr_LF (kd (tcN b V len k).1 b)
    show swf (tcStep b (tcN b V len k)).1 b ∧ _
    simp only [tcN]
    generalize hS : tcN b V len k = S at *
    generalize hr : lfr (kd S.1 b) = r at *
    rcases hl with ⟨-, kk⟩ | ⟨k1, k2, k3, k4⟩
    · exact absurd f3 (kk f f1 (by omega))
    · have hne : ∀ q, kd (setp S.1 (b + r) (pChain (S.1 (b + r)) q)) b r ≠ 0 := by intro q; simp [kd, setp_at, pChain, upw]
      have hoth : ∀ q i, i ≠ r → kd (setp S.1 (b + r) (pChain (S.1 (b + r)) q)) b i = kd S.1 b i := by intro q i hi; simp only [kd]; rw [setp_ne (by omega)]
      have hup : ∀ (U : VT) o v, kd (up U o 0 6 v) b = kd U b := by intro U o v; funext i; simp [kd, up]
      have hfr : ∀ q i, 0 ≤ i → i ≤ r → kd (setp S.1 (b + r) (pChain (S.1 (b + r)) q)) b i ≠ 0 := by
        intro q i q1 q2
        by_cases hi : i = r
        · subst hi; exact hne q
        · rw [hoth q i hi]; exact k4 i q1 (by omega)
      have hct : ∀ q, cntK (kd (setp S.1 (b + r) (pChain (S.1 (b + r)) q)) b) 0 96 = cntK (kd S.1 b) 0 96 - 1 := fun q => cntK_set ⟨k1, by omega⟩ k3 (hne q) (fun i _ _ hi => hoth q i hi)
      have hsw : ∀ q, swf (setp S.1 (b + r) (pChain (S.1 (b + r)) q)) b := fun q => swf_setp i1 (pwf_chain (i1 r k1 k2) q)
      unfold tcStep
      rw [hr]
      split
      · exact ⟨hsw _, ⟨by show -1 ≤ r; omega, by show r < 96; omega⟩, fun i q1 q2 => hfr _ i q1 q2, by rw [hct, i4]; omega, by simp only; rw [i5]; omega⟩
      · exact ⟨swf_next (hsw _), ⟨by show -1 ≤ r; omega, by show r < 96; omega⟩, fun i q1 q2 hh => hfr _ i q1 q2 ((congrFun (hup (setp S.1 (b + r) (pChain (S.1 (b + r)) (if 240 < S.2.2.2 then 240 else S.2.2.2))) (b + S.2.2.1) r) i).symm.trans hh), by simp only [hup]; rw [hct, i4]; omega, by simp only; rw [i5]; omega⟩
theorem nx_free (V : VT) (b p : Int) : nx (setp V (b + p) (pFree (V (b + p)))) b = nx V b := by
  funext i
  simp only [nx]
  by_cases h : i = p
  · subst h; rw [setp_at]; simp [pFree, upw]
  · rw [setp_ne (by omega)]
set_option maxHeartbeats 4000000 in
set_option maxRecDepth 100000 in
theorem c_X2_takeChain (l : Launch) (D : va_G) (cy : ClassId × ClassId) (g : GT) (V : VT) (a : Nat) (b : Int) (q : Int) (hap : Apart g) (hS : isSt g a b) (hw : swf V b) (hn : 0 ≤ q ∧ q ≤ 1200) (hfree : chP q ≤ cntK (kd V b) 0 96) : MetI l yX2_takeChain cX2_takeChain 8 (some .int) 1 D cy g [.ref a, vI q] V (fun r V' => r = (tcN b V q (chP q).toNat).2.1 ∧ V' = (tcN b V q (chP q).toNat).1) := by
  obtain ⟨⟨ob, hob⟩, ps, hps, hq, hpgs⟩ := id hS
  have hc := chP_bd hn
  refine MetI.of (by decide) (Nat.le_of_ble_eq_true rfl) hap ?_
  intro p_ e_ s_ m_ args_ below_ meth_ c_ C
  have loop : ∀ (n : Nat) (k : Nat), k + n = (chP q).toNat → G p_ l e_ (rmd 1) s_ m_ args_ below_ meth_ c_ 8 0 0 (MQ below_ (QcI D cy g (fun r V' => r = (tcN b V q (chP q).toNat).2.1 ∧ V' = (tcN b V q (chP q).toNat).1)) args_ s_ 0 0 (fun q => q ∈ gL g)) D cy g (fun q => q ∈ gL g) s_.heap (tcN b V q k).1 16 [(6, vI ((k : Int))), (5, vI ((tcN b V q k).2.2.2)), (4, vI ((tcN b V q k).2.2.1)), (3, vI ((tcN b V q k).2.1)), (2, vI (chP q)), (0, .ref a), (1, vI q)] [] := by
    intro n
    induction n with
    | zero =>
      intro k hkn
      obtain ⟨i1, i2, i3, i4, i5⟩ := tc_inv (len := q) hw (chP q).toNat (by omega) k (by omega)
      generalize hSe : tcN b V q k = S at *
      refine g_iload C 0 rfl dX2_takeChain_16 ?_
      refine g_iload_n C 4 rfl dX2_takeChain_18 ?_
      refine g_icmp_ge C (by unfold rng; omega) (by unfold rng; omega) 99 dX2_takeChain_19 (by decide) (fun c19 => ?_) (fun c19 => absurd c19 (by omega))
      refine g_iload_n C 3 rfl dX2_takeChain_99 ?_
      have hkk : k = (chP q).toNat := by omega
      subst hkk
      rw [← hSe]
      exact g_iret C dX2_takeChain_100 ⟨rfl, rfl⟩
    | succ n ih =>
      intro k hkn
      obtain ⟨i1, i2, i3, i4, i5⟩ := tc_inv (len := q) hw (chP q).toNat (by omega) k (by omega)
      generalize hSe : tcN b V q k = S at *
      refine g_iload C 0 rfl dX2_takeChain_16 ?_
      refine g_iload_n C 4 rfl dX2_takeChain_18 ?_
      refine g_icmp_ge C (by unfold rng; omega) (by unfold rng; omega) 99 dX2_takeChain_19 (by decide) (fun c19 => absurd c19 (by omega)) (fun c19 => ?_)
      refine g_aload_n C 5 rfl dX2_takeChain_22 ?_
      refine g_iload C 2 rfl dX2_takeChain_23 ?_
      refine g_iconst C 1 rfl dX2_takeChain_25 ?_
      refine g_iadd C dX2_takeChain_26 ?_
      refine g_callI C [vI (S.2.2.1 + 1)] [] (c_X2_leastFreePage l D cy g S.1 a b (S.2.2.1 + 1) hap hS i1 (by omega)) lm_X2_95 (rcv_Store hob) rfl (Nat.le_of_ble_eq_true rfl) ⟨(Nat.le_of_ble_eq_true rfl), (Nat.le_of_ble_eq_true rfl)⟩ ⟨Nat.zero_le _, Nat.zero_le _⟩ dX2_takeChain_27 ?_
      rintro r V1 ⟨hr, hV1⟩
      refine g_V hV1 ?_
      clear hV1 V1
      have hr0 : isLF (kd S.1 b) 0 r := by
        rcases hr with ⟨e1, k2⟩ | ⟨k1, k2, k3, k4⟩
        · refine Or.inl ⟨e1, fun i q1 q2 => ?_⟩
          by_cases hi : i ≤ S.2.2.1
          · exact i3 i q1 hi
          · exact k2 i (by omega) q2
        · refine Or.inr ⟨by omega, k2, k3, fun i q1 q2 => ?_⟩
          by_cases hi : i ≤ S.2.2.1
          · exact i3 i q1 hi
          · exact k4 i (by omega) q2
      have hrl : r = lfr (kd S.1 b) := isLF_uniq (by decide) hr0 (lfr_LF _)
      have hrr : 0 ≤ r ∧ r < 96 := by
        rcases hr0 with ⟨e1, k2⟩ | ⟨k1, k2, -⟩
        · exfalso
          obtain ⟨f, f1, f2, f3⟩ := cntK_pos (K := kd S.1 b) (k := 0) (n := 96) (by rw [i4]; omega)
          exact k2 f f1 (by omega) f3
        · exact ⟨k1, k2⟩
      refine g_istore C [(7, vI r), (6, vI ((k : Int))), (5, vI S.2.2.2), (4, vI S.2.2.1), (3, vI S.2.1), (2, vI (chP q)), (0, .ref a), (1, vI q)] dX2_takeChain_30 (by decide) rfl ?_
      refine g_iload C 0 rfl dX2_takeChain_32 ?_
      refine g_iconst C (-1) rfl dX2_takeChain_34 ?_
      refine g_icmp_ne C (by unfold rng; omega) (by unfold rng; omega) 41 dX2_takeChain_35 (by decide) (fun c35 => ?_) (fun c35 => absurd c35 (by omega))
      refine g_aload_n C 6 rfl dX2_takeChain_41 ?_
      refine gf_Store_pages C hob hps lf_X2_11 dX2_takeChain_42 ?_
      refine g_iload C 0 rfl dX2_takeChain_45 ?_
      obtain ⟨pg1, pg1e, pg1h⟩ := hpgs r (by omega) (by omega)
      obtain ⟨-, pg1r1, pg1r2, pg1r3, pg1r4, ⟨pg1hr1, pg1ha1⟩, ⟨pg1hr2, pg1ha2⟩, ⟨pg1hr3, pg1ha3⟩, ⟨pg1hr4, pg1ha4⟩⟩ := id pg1h
      refine g_aald C hq ⟨by omega, by omega⟩ (by decide) pg1e dX2_takeChain_47 ?_
      refine g_iload C 2 rfl dX2_takeChain_48 ?_
      refine g_sipush C 240 rfl dX2_takeChain_50 ?_
      refine g_mmin C (by unfold rng; omega) (by unfold rng; omega) lmin1 lmin2 lmth lmin4 (Nat.le_of_ble_eq_true rfl) (Nat.le_of_ble_eq_true rfl) ⟨Nat.zero_le _, Nat.zero_le _⟩ dX2_takeChain_53 ?_
      refine g_callV C [vI (if 240 < S.2.2.2 then 240 else S.2.2.2)] [] (cv_X1_becomeChain l D cy g S.1 pg1 _ (if 240 < S.2.2.2 then 240 else S.2.2.2) hap pg1h) lm_X2_121 (rcv_Page pg1h.1) rfl (Nat.le_of_ble_eq_true rfl) ⟨(Nat.le_of_ble_eq_true rfl), (Nat.le_of_ble_eq_true rfl)⟩ ⟨Nat.zero_le _, Nat.zero_le _⟩ dX2_takeChain_56 ?_
      rintro V2 hV2
      refine g_iincW C [(5, vI (S.2.2.2 + (-240))), (7, vI r), (6, vI ((k : Int))), (4, vI S.2.2.1), (3, vI S.2.1), (2, vI (chP q)), (0, .ref a), (1, vI q)] 2 rfl dX2_takeChain_59 (by decide) rfl ?_
      refine g_iload C 3 rfl dX2_takeChain_65 ?_
      refine g_iconst C (-1) rfl dX2_takeChain_67 ?_
      refine g_icmp_ne C (by unfold rng; omega) (by unfold rng; omega) 77 dX2_takeChain_68 (by decide) (fun c68 => ?_) (fun c68 => ?_)
      · refine g_aload_n C 6 rfl dX2_takeChain_77 ?_
        refine gf_Store_pages C hob hps lf_X2_11 dX2_takeChain_78 ?_
        refine g_iload C 3 rfl dX2_takeChain_81 ?_
        obtain ⟨pg2, pg2e, pg2h⟩ := hpgs S.2.2.1 (by omega) (by omega)
        obtain ⟨-, pg2r1, pg2r2, pg2r3, pg2r4, ⟨pg2hr1, pg2ha1⟩, ⟨pg2hr2, pg2ha2⟩, ⟨pg2hr3, pg2ha3⟩, ⟨pg2hr4, pg2ha4⟩⟩ := id pg2h
        refine g_aald C hq ⟨by omega, by omega⟩ (by decide) pg2e dX2_takeChain_83 ?_
        refine g_iload C 1 rfl dX2_takeChain_84 ?_
        refine gpN_Page_chainNext C pg2h.1 lf_X2_124 dX2_takeChain_86 ?_
        refine g_iload C 1 rfl dX2_takeChain_89 ?_
        refine g_istore C [(4, vI r), (5, vI (S.2.2.2 + (-240))), (7, vI r), (6, vI ((k : Int))), (3, vI S.2.1), (2, vI (chP q)), (0, .ref a), (1, vI q)] dX2_takeChain_91 (by decide) rfl ?_
        refine g_iinc C [(6, vI (((k : Int)) + 1)), (4, vI r), (5, vI (S.2.2.2 + (-240))), (7, vI r), (3, vI S.2.1), (2, vI (chP q)), (0, .ref a), (1, vI q)] 3 rfl dX2_takeChain_93 (by decide) rfl ?_
        refine g_goto C 16 dX2_takeChain_96 (by decide) ?_
        refine g_sub [0, 2, 1, 4, 5, 6, 7] rfl ?_
        have hst : tcN b V q (k + 1) = tcStep b S := by rw [← hSe]; rfl
        have h9 := ih (k + 1) (by omega)
        rw [hst] at h9
        unfold tcStep at h9
        rw [if_neg c68, ← hrl] at h9
        rw [hV2]
        exact h9
      · refine g_iload C 1 rfl dX2_takeChain_71 ?_
        refine g_istore_n C [(3, vI r), (5, vI (S.2.2.2 + (-240))), (7, vI r), (6, vI ((k : Int))), (4, vI S.2.2.1), (2, vI (chP q)), (0, .ref a), (1, vI q)] dX2_takeChain_73 rfl (by decide) rfl ?_
        refine g_goto C 89 dX2_takeChain_74 (by decide) ?_
        refine g_iload C 2 rfl dX2_takeChain_89 ?_
        refine g_istore C [(4, vI r), (3, vI r), (5, vI (S.2.2.2 + (-240))), (7, vI r), (6, vI ((k : Int))), (2, vI (chP q)), (0, .ref a), (1, vI q)] dX2_takeChain_91 (by decide) rfl ?_
        refine g_iinc C [(6, vI (((k : Int)) + 1)), (4, vI r), (3, vI r), (5, vI (S.2.2.2 + (-240))), (7, vI r), (2, vI (chP q)), (0, .ref a), (1, vI q)] 4 rfl dX2_takeChain_93 (by decide) rfl ?_
        refine g_goto C 16 dX2_takeChain_96 (by decide) ?_
        refine g_sub [0, 3, 1, 2, 5, 6, 7] rfl ?_
        have hst : tcN b V q (k + 1) = tcStep b S := by rw [← hSe]; rfl
        have h9 := ih (k + 1) (by omega)
        rw [hst] at h9
        unfold tcStep at h9
        rw [if_pos c68, ← hrl] at h9
        rw [hV2]
        exact h9
  refine g_iload_n C 1 rfl dX2_takeChain_0 ?_
  refine g_callNI C [vI q] [] (c_X3_chainPages l D cy g _ q hap hn) lm_X2_110 rfl (Nat.le_of_ble_eq_true rfl) ⟨(Nat.le_of_ble_eq_true rfl), (Nat.le_of_ble_eq_true rfl)⟩ ⟨Nat.zero_le _, Nat.zero_le _⟩ dX2_takeChain_1 ?_
  rintro _ V1 ⟨rfl, hV1⟩
  refine g_V hV1 ?_
  clear hV1 V1
  refine g_istore_n C [(2, vI (chP q)), (0, .ref a), (1, vI q)] dX2_takeChain_4 rfl (by decide) rfl ?_
  refine g_iconst C (-1) rfl dX2_takeChain_5 ?_
  refine g_istore_n C [(3, vI ((-1))), (2, vI (chP q)), (0, .ref a), (1, vI q)] dX2_takeChain_6 rfl (by decide) rfl ?_
  refine g_iconst C (-1) rfl dX2_takeChain_7 ?_
  refine g_istore C [(4, vI ((-1))), (3, vI ((-1))), (2, vI (chP q)), (0, .ref a), (1, vI q)] dX2_takeChain_8 (by decide) rfl ?_
  refine g_iload_n C 4 rfl dX2_takeChain_10 ?_
  refine g_istore C [(5, vI q), (4, vI ((-1))), (3, vI ((-1))), (2, vI (chP q)), (0, .ref a), (1, vI q)] dX2_takeChain_11 (by decide) rfl ?_
  refine g_iconst C 0 rfl dX2_takeChain_13 ?_
  refine g_istore C [(6, vI 0), (5, vI q), (4, vI ((-1))), (3, vI ((-1))), (2, vI (chP q)), (0, .ref a), (1, vI q)] dX2_takeChain_14 (by decide) rfl ?_
  refine g_sub [0, 1, 2, 3, 4, 5, 6] rfl ?_
  exact loop (chP q).toNat 0 (by omega)
set_option maxHeartbeats 4000000 in
set_option maxRecDepth 100000 in
theorem c_X2_freeChain (l : Launch) (D : va_G) (cy : ClassId × ClassId) (g : GT) (V : VT) (a : Nat) (b : Int) (q : Int) (L0 : List Int) (hap : Apart g) (hS : isSt g a b) (hw : swf V b) (hq9 : -1 ≤ q ∧ q < 96) (hL : isCh (nx V b) L0 q) (hlen : L0.length ≤ 96) : MetV l yX2_freeChain cX2_freeChain 5 none 1 D cy g [.ref a, vI q] V (fun V' => V' = freeL V b L0) := by
  obtain ⟨⟨ob, hob⟩, ps, hps, hq, hpgs⟩ := id hS
  refine MetV.of (by decide) (Nat.le_of_ble_eq_true rfl) hap ?_
  intro p_ e_ s_ m_ args_ below_ meth_ c_ C
  have loop : ∀ (L : List Int) (U : VT) (f i : Int), isCh (nx U b) L f → swf U b → 0 ≤ i → i + L.length ≤ 96 → freeL U b L = freeL V b L0 → G p_ l e_ (rmd 1) s_ m_ args_ below_ meth_ c_ 5 0 0 (MQ below_ (QcV D cy g (fun V' => V' = freeL V b L0)) args_ s_ 0 0 (fun q => q ∈ gL g)) D cy g (fun q => q ∈ gL g) s_.heap U 4 [(3, vI i), (2, vI f), (0, .ref a), (1, vI q)] [] := by
    intro L
    induction L with
    | nil =>
      intro U f i h1 h2 h3 h4 h5
      have hf : f = -1 := h1
      simp only [List.length_nil] at h4
      refine g_iload_n C 0 rfl dX2_freeChain_4 ?_
      refine g_bipush C 96 rfl dX2_freeChain_5 ?_
      refine g_icmp_ge C (by unfold rng; omega) (by unfold rng; omega) 44 dX2_freeChain_7 (by decide) (fun c7 => ?_) (fun c7 => ?_)
      · exact g_vret C dX2_freeChain_44 h5
      · refine g_iload_n C 1 rfl dX2_freeChain_10 ?_
        refine g_iconst C (-1) rfl dX2_freeChain_11 ?_
        refine g_icmp_eq C (by unfold rng; omega) (by unfold rng; omega) 44 dX2_freeChain_12 (by decide) (fun c12 => ?_) (fun c12 => absurd c12 (by omega))
        exact g_vret C dX2_freeChain_44 h5
    | cons p L ih =>
      intro U f i h1 h2 h3 h4 h5
      obtain ⟨rfl, hp9, h1'⟩ := h1
      simp only [List.length_cons] at h4
      refine g_iload_n C 0 rfl dX2_freeChain_4 ?_
      refine g_bipush C 96 rfl dX2_freeChain_5 ?_
      refine g_icmp_ge C (by unfold rng; omega) (by unfold rng; omega) 44 dX2_freeChain_7 (by decide) (fun c7 => absurd c7 (by omega)) (fun c7 => ?_)
      refine g_iload_n C 1 rfl dX2_freeChain_10 ?_
      refine g_iconst C (-1) rfl dX2_freeChain_11 ?_
      refine g_icmp_eq C (by unfold rng; omega) (by unfold rng; omega) 44 dX2_freeChain_12 (by decide) (fun c12 => absurd c12 (by omega)) (fun c12 => ?_)
      refine g_aload_n C 2 rfl dX2_freeChain_15 ?_
      refine gf_Store_pages C hob hps lf_X2_11 dX2_freeChain_16 ?_
      refine g_iload_n C 1 rfl dX2_freeChain_19 ?_
      obtain ⟨pg1, pg1e, pg1h⟩ := hpgs f (by omega) (by omega)
      obtain ⟨-, pg1r1, pg1r2, pg1r3, pg1r4, ⟨pg1hr1, pg1ha1⟩, ⟨pg1hr2, pg1ha2⟩, ⟨pg1hr3, pg1ha3⟩, ⟨pg1hr4, pg1ha4⟩⟩ := id pg1h
      refine g_aald C hq ⟨by omega, by omega⟩ (by decide) pg1e dX2_freeChain_20 ?_
      refine gfN_Page_chainNext C pg1h.1 lf_X2_124 dX2_freeChain_21 ?_
      refine g_istore C [(4, vI (U (b + f) 0 6)), (3, vI i), (2, vI f), (0, .ref a), (1, vI q)] dX2_freeChain_24 (by decide) rfl ?_
      refine g_aload_n C 3 rfl dX2_freeChain_26 ?_
      refine gf_Store_pages C hob hps lf_X2_11 dX2_freeChain_27 ?_
      refine g_iload_n C 2 rfl dX2_freeChain_30 ?_
      obtain ⟨pg2, pg2e, pg2h⟩ := hpgs f (by omega) (by omega)
      obtain ⟨-, pg2r1, pg2r2, pg2r3, pg2r4, ⟨pg2hr1, pg2ha1⟩, ⟨pg2hr2, pg2ha2⟩, ⟨pg2hr3, pg2ha3⟩, ⟨pg2hr4, pg2ha4⟩⟩ := id pg2h
      refine g_aald C hq ⟨by omega, by omega⟩ (by decide) pg2e dX2_freeChain_31 ?_
      refine g_callV C [] [] (cv_X1_becomeFree l D cy g U pg2 _ hap pg2h) lm_X2_127 (rcv_Page pg2h.1) rfl (Nat.le_of_ble_eq_true rfl) ⟨(Nat.le_of_ble_eq_true rfl), (Nat.le_of_ble_eq_true rfl)⟩ ⟨Nat.zero_le _, Nat.zero_le _⟩ dX2_freeChain_32 ?_
      rintro V2 hV2
      refine g_iload C 0 rfl dX2_freeChain_35 ?_
      refine g_istore_n C [(2, vI (U (b + f) 0 6)), (4, vI (U (b + f) 0 6)), (3, vI i), (0, .ref a), (1, vI q)] dX2_freeChain_37 rfl (by decide) rfl ?_
      refine g_iinc C [(3, vI (i + 1)), (2, vI (U (b + f) 0 6)), (4, vI (U (b + f) 0 6)), (0, .ref a), (1, vI q)] 2 rfl dX2_freeChain_38 (by decide) rfl ?_
      refine g_goto C 4 dX2_freeChain_41 (by decide) ?_
      refine g_sub [0, 1, 3, 4] rfl ?_
      rw [hV2]
      exact ih _ _ _ (by rw [nx_free]; exact h1') (swf_setp h2 (pwf_free (h2 f hp9.1 hp9.2))) (by omega) (by omega) h5
  refine g_iload_n C 1 rfl dX2_freeChain_0 ?_
  refine g_istore_n C [(2, vI q), (0, .ref a), (1, vI q)] dX2_freeChain_1 rfl (by decide) rfl ?_
  refine g_iconst C 0 rfl dX2_freeChain_2 ?_
  refine g_istore_n C [(3, vI 0), (2, vI q), (0, .ref a), (1, vI q)] dX2_freeChain_3 rfl (by decide) rfl ?_
  refine g_sub [0, 1, 2, 3] rfl ?_
  exact loop L0 V q 0 hL hw (by omega) (by omega) rfl
set_option maxHeartbeats 4000000 in
set_option maxRecDepth 100000 in
theorem c_X2_firstRecordFrom (l : Launch) (D : va_G) (cy : ClassId × ClassId) (g : GT) (V : VT) (a : Nat) (b : Int) (q : Int) (hap : Apart g) (hS : isSt g a b) (hw : swf V b) (hsl : ∀ i s, 0 ≤ i → i < 96 → V (b + i) 0 1 ≤ s → s < 32 → V (b + i) 1 s = 0) (hq9 : 0 ≤ q ∧ q ≤ 3072) : MetI l yX2_firstRecordFrom cX2_firstRecordFrom 5 (some .int) 2 D cy g [.ref a, vI q] V (fun r V' => ((r = -1 ∧ ∀ j, q ≤ j → j < 3072 → ¬ isRec V b j) ∨ (q ≤ r ∧ r < 3072 ∧ isRec V b r ∧ ∀ j, q ≤ j → j < r → ¬ isRec V b j)) ∧ V' = V) := by
  obtain ⟨⟨ob, hob⟩, ps, hps, hq, hpgs⟩ := id hS
  refine MetI.of (by decide) (Nat.le_of_ble_eq_true rfl) hap ?_
  intro p_ e_ s_ m_ args_ below_ meth_ c_ C
  have loop : ∀ (n : Nat) (i sl : Int), 0 ≤ i ∧ i ≤ 96 ∧ q ≤ 32 * i + sl → 0 ≤ sl ∧ sl < 32 ∧ (i = 96 → sl = 0) → 96 - i ≤ n → (∀ j, q ≤ j → j < 32 * i + sl → ¬ isRec V b j) → G p_ l e_ (rmd 2) s_ m_ args_ below_ meth_ c_ 5 0 0 (MQ below_ (QcI D cy g (fun r V' => ((r = -1 ∧ ∀ j, q ≤ j → j < 3072 → ¬ isRec V b j) ∨ (q ≤ r ∧ r < 3072 ∧ isRec V b r ∧ ∀ j, q ≤ j → j < r → ¬ isRec V b j)) ∧ V' = V)) args_ s_ 0 0 (fun q => q ∈ gL g)) D cy g (fun q => q ∈ gL g) s_.heap V 10 [(3, vI i), (2, vI sl), (0, .ref a), (1, vI q)] [] := by
    intro n
    induction n with
    | zero =>
      intro i sl h1 h2 h3 h4
      refine g_iload_n C 0 rfl dX2_firstRecordFrom_10 ?_
      refine g_bipush C 96 rfl dX2_firstRecordFrom_11 ?_
      refine g_icmp_ge C (by unfold rng; omega) (by unfold rng; omega) 50 dX2_firstRecordFrom_13 (by decide) (fun c13 => ?_) (fun c13 => absurd c13 (by omega))
      refine g_iconst C (-1) rfl dX2_firstRecordFrom_50 ?_
      exact g_iret C dX2_firstRecordFrom_51 ⟨Or.inl ⟨rfl, fun j q1 q2 => h4 j q1 (by omega)⟩, rfl⟩
    | succ n ih =>
      intro i sl h1 h2 h3 h4
      refine g_iload_n C 0 rfl dX2_firstRecordFrom_10 ?_
      refine g_bipush C 96 rfl dX2_firstRecordFrom_11 ?_
      refine g_icmp_ge C (by unfold rng; omega) (by unfold rng; omega) 50 dX2_firstRecordFrom_13 (by decide) (fun c13 => ?_) (fun c13 => ?_)
      · refine g_iconst C (-1) rfl dX2_firstRecordFrom_50 ?_
        exact g_iret C dX2_firstRecordFrom_51 ⟨Or.inl ⟨rfl, fun j q1 q2 => h4 j q1 (by omega)⟩, rfl⟩
      · refine g_aload_n C 2 rfl dX2_firstRecordFrom_16 ?_
        refine gf_Store_pages C hob hps lf_X2_11 dX2_firstRecordFrom_17 ?_
        refine g_iload_n C 0 rfl dX2_firstRecordFrom_20 ?_
        obtain ⟨pg1, pg1e, pg1h⟩ := hpgs i (by omega) (by omega)
        obtain ⟨-, pg1r1, pg1r2, pg1r3, pg1r4, ⟨pg1hr1, pg1ha1⟩, ⟨pg1hr2, pg1ha2⟩, ⟨pg1hr3, pg1ha3⟩, ⟨pg1hr4, pg1ha4⟩⟩ := id pg1h
        refine g_aald C hq ⟨by omega, by omega⟩ (by decide) pg1e dX2_firstRecordFrom_21 ?_
        refine g_iload_n C 1 rfl dX2_firstRecordFrom_22 ?_
        refine g_callI C [vI sl] [] (cv_X1_firstHomeFrom l D cy g V pg1 _ sl hap pg1h (by omega) (hw _ (by omega) (by omega))) lm_X2_26 (rcv_Page pg1h.1) rfl (Nat.le_of_ble_eq_true rfl) ⟨(Nat.le_of_ble_eq_true rfl), (Nat.le_of_ble_eq_true rfl)⟩ ⟨Nat.zero_le _, Nat.zero_le _⟩ dX2_firstRecordFrom_23 ?_
        rintro r V1 ⟨hV1, hr⟩
        refine g_V hV1 ?_
        clear hV1 V1
        have z1 := (hw i (by omega) (by omega)).2.1
        have hr9 : -1 ≤ r ∧ r < 1000 := by rcases hr with ⟨k, -⟩ | ⟨k1, k2, -⟩ <;> omega
        refine g_istore C [(4, vI r), (3, vI i), (2, vI sl), (0, .ref a), (1, vI q)] dX2_firstRecordFrom_26 (by decide) rfl ?_
        refine g_iload C 0 rfl dX2_firstRecordFrom_28 ?_
        refine g_iconst C (-1) rfl dX2_firstRecordFrom_30 ?_
        refine g_icmp_eq C (by unfold rng; omega) (by unfold rng; omega) 42 dX2_firstRecordFrom_31 (by decide) (fun c31 => ?_) (fun c31 => ?_)
        · refine g_iconst C 0 rfl dX2_firstRecordFrom_42 ?_
          refine g_istore_n C [(2, vI 0), (4, vI r), (3, vI i), (0, .ref a), (1, vI q)] dX2_firstRecordFrom_43 rfl (by decide) rfl ?_
          refine g_iinc C [(3, vI (i + 1)), (2, vI 0), (4, vI r), (0, .ref a), (1, vI q)] 2 rfl dX2_firstRecordFrom_44 (by decide) rfl ?_
          refine g_goto C 10 dX2_firstRecordFrom_47 (by decide) ?_
          refine g_sub [0, 1, 3, 4] rfl ?_
          refine ih (i + 1) 0 (by omega) (by omega) (by omega) (fun j q1 q2 => ?_)
          by_cases hj : j < 32 * i + sl
          · exact h4 j q1 hj
          · rcases hr with ⟨-, k2⟩ | ⟨k1, -⟩
            · unfold isRec
              rw [show j / 32 = i by omega]
              by_cases hj2 : j % 32 < V (b + i) 0 1
              · exact k2 (j % 32) (by omega) hj2
              · intro hh; have := hsl i (j % 32) (by omega) (by omega) (by omega) (by omega); unfold pHome at hh; omega
            · exfalso; omega
        · refine g_iload_n C 1 rfl dX2_firstRecordFrom_34 ?_
          refine g_bipush C 32 rfl dX2_firstRecordFrom_35 ?_
          refine g_imul C dX2_firstRecordFrom_37 ?_
          refine g_iload C 0 rfl dX2_firstRecordFrom_38 ?_
          refine g_iadd C dX2_firstRecordFrom_40 ?_
          rcases hr with ⟨k1, -⟩ | ⟨k1, k2, k3, k4⟩
          · exact absurd k1 c31
          · refine g_iret C dX2_firstRecordFrom_41 ⟨Or.inr ⟨by omega, by omega, ?_, fun j q1 q2 => ?_⟩, rfl⟩
            · unfold isRec; rw [show (i * 32 + r) / 32 = i by omega, show (i * 32 + r) % 32 = r by omega]; exact k3
            · by_cases hj : j < 32 * i + sl
              · exact h4 j q1 hj
              · unfold isRec; rw [show j / 32 = i by omega]; exact k4 (j % 32) (by omega) (by omega)
  refine g_iload_n C 1 rfl dX2_firstRecordFrom_0 ?_
  refine g_bipush C 32 rfl dX2_firstRecordFrom_1 ?_
  refine g_irem C (by omega) (by omega) dX2_firstRecordFrom_3 ?_
  refine g_istore_n C [(2, vI (q % 32)), (0, .ref a), (1, vI q)] dX2_firstRecordFrom_4 rfl (by decide) rfl ?_
  refine g_iload_n C 2 rfl dX2_firstRecordFrom_5 ?_
  refine g_bipush C 32 rfl dX2_firstRecordFrom_6 ?_
  refine g_idiv C (by omega) (by omega) dX2_firstRecordFrom_8 ?_
  refine g_istore_n C [(3, vI (q / 32)), (2, vI (q % 32)), (0, .ref a), (1, vI q)] dX2_firstRecordFrom_9 rfl (by decide) rfl ?_
  refine g_sub [0, 1, 2, 3] rfl ?_
  exact loop 96 (q / 32) (q % 32) (by omega) (by omega) (by omega) (fun j q1 q2 => absurd q1 (by omega))
end
section
/-! what a page keeps: PI -/
def szf (w : Int → Int → Int) (s : Int) : Int := if w 1 s = 0 then 0 else cellB (w 1 s) (w 2 s)
def cef (w : Int → Int → Int) (s : Int) : Int := if w 1 s = 0 then 0 else 1
def stf (w : Int → Int → Int) (s : Int) : Int := if w 1 s = 2 then 1 else 0
def okc (w : Int → Int → Int) (s : Int) : Prop := (0 ≤ w 1 s ∧ w 1 s ≤ 3) ∧ (-1 ≤ w 2 s ∧ w 2 s ≤ 1200) ∧ (w 1 s = 2 → w 2 s = -1) ∧ (w 1 s = 1 ∨ w 1 s = 3 → 0 ≤ w 2 s)
def PI (w : Int → Int → Int) : Prop :=
  (∀ s, 0 ≤ s → s < 32 → okc w s) ∧ ((0 ≤ w 0 1 ∧ w 0 1 ≤ 32) ∧ (∀ s, w 0 1 ≤ s → s < 32 → w 1 s = 0) ∧ (0 < w 0 1 → w 1 (w 0 1 - 1) ≠ 0)) ∧
  w 0 2 = sumF (cef w) 32 ∧ w 0 3 = sumF (stf w) 32 ∧ w 0 4 = sumF (szf w) 32 ∧
  ((0 ≤ w 0 0 ∧ w 0 0 ≤ 2) ∧ (w 0 0 = 1 → 0 < w 0 2) ∧ (w 0 0 ≠ 1 → w 0 2 = 0 ∧ w 0 5 = 0)) ∧ (w 0 4 ≤ w 0 5 ∧ w 0 5 ≤ 248 - 4 * w 0 1)
theorem sumF_congr {F F' : Int → Int} {n : Nat} (h : ∀ i : Int, 0 ≤ i → i < n → F i = F' i) : sumF F n = sumF F' n := by
  induction n with
  | zero => rfl
  | succ n ih => unfold sumF; rw [ih (fun i h1 h2 => h i h1 (by omega)), h n (by omega) (by omega)]
theorem sumF_upd {F F' : Int → Int} {r : Int} {n : Nat} (hr : 0 ≤ r ∧ r < n) (h : ∀ i : Int, 0 ≤ i → i < n → i ≠ r → F' i = F i) : sumF F' n = sumF F n - F r + F' r := by
  induction n with
  | zero => omega
  | succ n ih =>
    unfold sumF
    by_cases hn : r = n
    · subst hn
      rw [sumF_congr (fun i q1 q2 => h i q1 (by omega) (by omega))]
      omega
    · rw [ih ⟨hr.1, by omega⟩ (fun i q1 q2 q3 => h i q1 (by omega) q3), h n (by omega) (by omega) (fun q => hn q.symm)]
      omega
theorem sumF_nonneg {F : Int → Int} {n : Nat} (h : ∀ i : Int, 0 ≤ i → i < n → 0 ≤ F i) : 0 ≤ sumF F n := by
  induction n with
  | zero => exact Int.le_refl _
  | succ n ih => unfold sumF; have := ih (fun i h1 h2 => h i h1 (by omega)); have := h n (by omega) (by omega); omega
theorem sumF_zero {F : Int → Int} {n : Nat} (h : ∀ i : Int, 0 ≤ i → i < n → 0 ≤ F i) (h0 : sumF F n = 0) : ∀ i : Int, 0 ≤ i → i < n → F i = 0 := by
  induction n with
  | zero => intro i h1 h2; omega
  | succ n ih =>
    unfold sumF at h0
    have h1 := sumF_nonneg (n := n) (fun i q1 q2 => h i q1 (by omega))
    have h2 := h n (by omega) (by omega)
    intro i q1 q2
    by_cases hi : i = n
    · subst hi; omega
    · exact ih (fun i q1 q2 => h i q1 (by omega)) (by omega) i q1 (by omega)
theorem sumF_le {F F' : Int → Int} {n : Nat} (h : ∀ i : Int, 0 ≤ i → i < n → F i ≤ F' i) : sumF F n ≤ sumF F' n := by
  induction n with
  | zero => exact Int.le_refl _
  | succ n ih => unfold sumF; have := ih (fun i h1 h2 => h i h1 (by omega)); have := h n (by omega) (by omega); omega
theorem sumF_mul (F : Int → Int) (c : Int) (n : Nat) : sumF (fun i => c * F i) n = c * sumF F n := by
  induction n with
  | zero => simp [sumF]
  | succ n ih => unfold sumF; rw [ih, Int.mul_add]
theorem cef_le_slots {w : Int → Int → Int} {n : Nat} (m : Int) (hm : 0 ≤ m) (h : ∀ s, m ≤ s → s < n → w 1 s = 0) : sumF (cef w) n ≤ m := by
  induction n with
  | zero => exact hm
  | succ n ih =>
    unfold sumF
    by_cases hn : m ≤ n
    · have h1 := ih (fun s q1 q2 => h s q1 (by omega))
      have : cef w n = 0 := by unfold cef; rw [if_pos (h n hn (by omega))]
      omega
    · have : cef w n ≤ 1 := by unfold cef; split <;> omega
      have : sumF (cef w) n ≤ n := by
        clear ih h hn this hm
        induction n with
        | zero => exact Int.le_refl _
        | succ n ih =>
          unfold sumF
          have h9 : cef w n ≤ 1 := by unfold cef; split <;> omega
          omega
      omega
/-- bounds that follow -/
theorem PI_bd {w : Int → Int → Int} (h : PI w) : 0 ≤ w 0 2 ∧ 5 * w 0 2 ≤ w 0 4 ∧ w 0 2 ≤ w 0 1 ∧ 0 ≤ w 0 3 ∧ w 0 3 ≤ w 0 2 ∧ w 0 1 + w 0 2 ≤ 62 ∧ 4 * w 0 1 + w 0 4 ≤ 248 ∧ 0 ≤ w 0 4 ∧ w 0 2 < 32 := by
  obtain ⟨h1, ⟨h2, h3, h4⟩, h5, h6, h7, h8, h9⟩ := h
  have a1 : 0 ≤ sumF (cef w) 32 := sumF_nonneg (fun i _ _ => by unfold cef; split <;> omega)
  have a2 : 0 ≤ sumF (stf w) 32 := sumF_nonneg (fun i _ _ => by unfold stf; split <;> omega)
  have a3 : sumF (stf w) 32 ≤ sumF (cef w) 32 := sumF_le (fun i _ _ => by unfold stf cef; repeat' split; all_goals omega)
  have a4 : 5 * sumF (cef w) 32 ≤ sumF (szf w) 32 := by
    rw [← sumF_mul]
    refine sumF_le (fun i q1 q2 => ?_)
    have := h1 i q1 (by omega)
    unfold cef szf
    split
    · omega
    · have := cellB_bd (k := w 1 i) this.2.1; omega
  have a5 : sumF (cef w) 32 ≤ w 0 1 := cef_le_slots (n := 32) _ h2.1 (fun s q1 q2 => h3 s q1 (by omega))
  refine ⟨by omega, by omega, by omega, by omega, by omega, by omega, by omega, by omega, by omega⟩
theorem PI_pwf {w : Int → Int → Int} (h : PI w) : pwf w := by
  have b := PI_bd h
  obtain ⟨h1, ⟨h2, h3, h4⟩, h5, h6, h7, h8, h9⟩ := h
  refine ⟨by unfold sm; omega, h2, by unfold sm; omega, by unfold sm; omega, by unfold sm; omega, by unfold sm; omega, fun s q1 q2 => ⟨(h1 s q1 q2).1, (h1 s q1 q2).2.1⟩⟩
theorem PI_room {w : Int → Int → Int} (h : PI w) : 0 ≤ pRoom w ∧ pRoom w ≤ 248 := by
  have b := PI_bd h
  obtain ⟨h1, ⟨h2, h3, h4⟩, h5, h6, h7, h8, h9⟩ := h
  unfold pRoom
  omega
theorem PI_erase {w : Int → Int → Int} {s : Int} (h : PI w) (hs : 0 ≤ s ∧ s < 32) : pwf (pErase w s) := by
  have b := PI_bd h
  have hp := PI_pwf h
  obtain ⟨h1, ⟨h2, h3, h4⟩, h5, h6, h7, h8, h9⟩ := h
  have hc := cellB_bd (k := w 1 s) (h1 s hs.1 hs.2).2.1
  refine ⟨by rw [pErase_0 _ _ _ (by decide) (by decide)]; exact hp.1, by rw [pErase_0 _ _ _ (by decide) (by decide)]; exact h2, by rw [pErase_0 _ _ _ (by decide) (by decide)]; exact hp.2.2.1, by rw [pErase_3]; unfold sm; split <;> omega, by rw [pErase_4]; unfold sm; omega, by rw [pErase_0 _ _ _ (by decide) (by decide)]; exact hp.2.2.2.2.2.1, fun j q1 q2 => ⟨?_, ?_⟩⟩
  · rw [pErase_1]; have := (h1 j q1 q2).1; split <;> omega
  · rw [pErase_t _ _ _ _ (by decide) (by decide)]; exact (h1 j q1 q2).2.1
/-- an empty slot below 32, for a page with PI -/
theorem PI_slot {w : Int → Int → Int} {r : Int} (h : PI w) (hr : pEmpty w r) : r < 32 := by
  have b := PI_bd h
  obtain ⟨h1, ⟨h2, h3, h4⟩, h5, h6, h7, h8, h9⟩ := h
  obtain ⟨r1, r2, r3⟩ := hr
  by_cases hq : r < 32
  · exact hq
  · exfalso
    have h9 : sumF (cef w) 32 = sumF (fun _ => 1) 32 := sumF_congr (fun i q1 q2 => by unfold cef; rw [if_neg (r2 i q1 (by omega))])
    have h10 : sumF (fun _ => 1) 32 = 32 := by decide
    omega
def nEnd (e u sl q : Int) : Int := if 248 - 4 * sl - e < q then u + q else e + q
def nCmp (e sl q : Int) : Int := if 248 - 4 * sl - e < q then 1 else 0
theorem pWrite_0 (w : Int → Int → Int) (s k n sd lk j : Int) (h4 : j ≠ 4) (h3 : j ≠ 3) : pWrite w s k n sd lk 0 j = w 0 j := by unfold pWrite; split <;> simp [upw, h4, h3]
theorem pWrite_4 (w : Int → Int → Int) (s k n sd lk : Int) : pWrite w s k n sd lk 0 4 = w 0 4 + cellB k n := by unfold pWrite; split <;> simp [upw]
theorem pWrite_3 (w : Int → Int → Int) (s k n sd lk : Int) : pWrite w s k n sd lk 0 3 = w 0 3 + if k = 2 then 1 else 0 := by unfold pWrite; split <;> simp [upw]
theorem pWrite_t1 (w : Int → Int → Int) (s k n sd lk j : Int) : pWrite w s k n sd lk 1 j = if j = s then k else w 1 j := by unfold pWrite; split <;> simp [upw]
theorem pWrite_t2 (w : Int → Int → Int) (s k n sd lk j : Int) : pWrite w s k n sd lk 2 j = if j = s then n else w 2 j := by unfold pWrite; split <;> simp [upw]
theorem pWrite_t3 (w : Int → Int → Int) (s k n sd lk j : Int) : pWrite w s k n sd lk 3 j = if j = s then sd else w 3 j := by unfold pWrite; split <;> simp [upw]
theorem pWrite_t4 (w : Int → Int → Int) (s k n sd lk j : Int) : pWrite w s k n sd lk 4 j = if j = s then lk else w 4 j := by unfold pWrite; split <;> simp [upw]
theorem pClaim_5 (w : Int → Int → Int) (q sb : Int) : pClaim w q sb 0 5 = if 248 - 4 * w 0 1 < w 0 5 + q + sb then w 0 4 + q else w 0 5 + q := by unfold pClaim; split <;> simp [upw]
theorem pClaim_8 (w : Int → Int → Int) (q sb : Int) : pClaim w q sb 0 8 = w 0 8 + if 248 - 4 * w 0 1 < w 0 5 + q + sb then 1 else 0 := by unfold pClaim; split <;> simp [upw]
/-- what put leaves, field by field -/
theorem pPut_f (w : Int → Int → Int) (r k n sd lk : Int) (hr : 0 ≤ r ∧ r ≤ w 0 1) :
    pPut w r k n sd lk 0 0 = 1 ∧ pPut w r k n sd lk 0 1 = (if r < w 0 1 then w 0 1 else r + 1) ∧ pPut w r k n sd lk 0 2 = w 0 2 + 1 ∧ pPut w r k n sd lk 0 3 = w 0 3 + (if k = 2 then 1 else 0) ∧ pPut w r k n sd lk 0 4 = w 0 4 + cellB k n ∧
    pPut w r k n sd lk 0 5 = nEnd (w 0 5) (w 0 4) (if r < w 0 1 then w 0 1 else r + 1) (cellB k n) ∧ pPut w r k n sd lk 0 6 = w 0 6 ∧ pPut w r k n sd lk 0 7 = w 0 7 ∧ pPut w r k n sd lk 0 8 = w 0 8 + nCmp (w 0 5) (if r < w 0 1 then w 0 1 else r + 1) (cellB k n) ∧
    (∀ j, pPut w r k n sd lk 1 j = if j = r then k else w 1 j) ∧ (∀ j, pPut w r k n sd lk 2 j = if j = r then n else w 2 j) ∧ (∀ j, pPut w r k n sd lk 3 j = if j = r then sd else w 3 j) ∧ (∀ j, pPut w r k n sd lk 4 j = if j = r then lk else w 4 j) := by
  have u0 : ∀ j, j ≠ 0 → upw w 0 0 1 0 j = w 0 j := fun j h => by simp [upw, h]
  have ut : ∀ t j, t ≠ 0 → upw w 0 0 1 t j = w t j := fun t j h => by simp [upw, h]
  unfold pPut
  by_cases hr2 : r < w 0 1
  · simp only [if_pos hr2]
    refine ⟨?_, ?_, ?_, ?_, ?_, ?_, ?_, ?_, ?_, fun j => ?_, fun j => ?_, fun j => ?_, fun j => ?_⟩
    · rw [pWrite_0 _ _ _ _ _ _ _ (by decide) (by decide), upw_j (by decide), pClaim_0 _ _ _ _ (by decide) (by decide)]; simp [upw]
    · rw [pWrite_0 _ _ _ _ _ _ _ (by decide) (by decide), upw_j (by decide), pClaim_0 _ _ _ _ (by decide) (by decide), u0 _ (by decide)]
    · rw [pWrite_0 _ _ _ _ _ _ _ (by decide) (by decide), upw_at, pClaim_0 _ _ _ _ (by decide) (by decide), u0 _ (by decide)]
    · rw [pWrite_3, upw_j (by decide), pClaim_0 _ _ _ _ (by decide) (by decide), u0 _ (by decide)]
    · rw [pWrite_4, upw_j (by decide), pClaim_0 _ _ _ _ (by decide) (by decide), u0 _ (by decide)]
    · rw [pWrite_0 _ _ _ _ _ _ _ (by decide) (by decide), upw_j (by decide), pClaim_5, u0 _ (by decide), u0 _ (by decide), u0 _ (by decide)]; unfold nEnd; split <;> split <;> omega
    · rw [pWrite_0 _ _ _ _ _ _ _ (by decide) (by decide), upw_j (by decide), pClaim_0 _ _ _ _ (by decide) (by decide), u0 _ (by decide)]
    · rw [pWrite_0 _ _ _ _ _ _ _ (by decide) (by decide), upw_j (by decide), pClaim_0 _ _ _ _ (by decide) (by decide), u0 _ (by decide)]
    · rw [pWrite_0 _ _ _ _ _ _ _ (by decide) (by decide), upw_j (by decide), pClaim_8, u0 _ (by decide), u0 _ (by decide), u0 _ (by decide)]; unfold nCmp; split <;> split <;> omega
    · rw [pWrite_t1, upw_t (by decide), pClaim_t _ _ _ _ _ (by decide), ut _ _ (by decide)]
    · rw [pWrite_t2, upw_t (by decide), pClaim_t _ _ _ _ _ (by decide), ut _ _ (by decide)]
    · rw [pWrite_t3, upw_t (by decide), pClaim_t _ _ _ _ _ (by decide), ut _ _ (by decide)]
    · rw [pWrite_t4, upw_t (by decide), pClaim_t _ _ _ _ _ (by decide), ut _ _ (by decide)]
  · have hre : r = w 0 1 := by omega
    simp only [if_neg hr2]
    refine ⟨?_, ?_, ?_, ?_, ?_, ?_, ?_, ?_, ?_, fun j => ?_, fun j => ?_, fun j => ?_, fun j => ?_⟩
    · rw [pWrite_0 _ _ _ _ _ _ _ (by decide) (by decide), upw_j (by decide), upw_j (by decide), pClaim_0 _ _ _ _ (by decide) (by decide)]; simp [upw]
    · rw [pWrite_0 _ _ _ _ _ _ _ (by decide) (by decide), upw_j (by decide), upw_at]
    · rw [pWrite_0 _ _ _ _ _ _ _ (by decide) (by decide), upw_at, pClaim_0 _ _ _ _ (by decide) (by decide), u0 _ (by decide)]
    · rw [pWrite_3, upw_j (by decide), upw_j (by decide), pClaim_0 _ _ _ _ (by decide) (by decide), u0 _ (by decide)]
    · rw [pWrite_4, upw_j (by decide), upw_j (by decide), pClaim_0 _ _ _ _ (by decide) (by decide), u0 _ (by decide)]
    · rw [pWrite_0 _ _ _ _ _ _ _ (by decide) (by decide), upw_j (by decide), upw_j (by decide), pClaim_5, u0 _ (by decide), u0 _ (by decide), u0 _ (by decide)]; unfold nEnd; split <;> split <;> omega
    · rw [pWrite_0 _ _ _ _ _ _ _ (by decide) (by decide), upw_j (by decide), upw_j (by decide), pClaim_0 _ _ _ _ (by decide) (by decide), u0 _ (by decide)]
    · rw [pWrite_0 _ _ _ _ _ _ _ (by decide) (by decide), upw_j (by decide), upw_j (by decide), pClaim_0 _ _ _ _ (by decide) (by decide), u0 _ (by decide)]
    · rw [pWrite_0 _ _ _ _ _ _ _ (by decide) (by decide), upw_j (by decide), upw_j (by decide), pClaim_8, u0 _ (by decide), u0 _ (by decide), u0 _ (by decide)]; unfold nCmp; split <;> split <;> omega
    · rw [pWrite_t1, upw_t (by decide), upw_t (by decide), pClaim_t _ _ _ _ _ (by decide), ut _ _ (by decide)]
    · rw [pWrite_t2, upw_t (by decide), upw_t (by decide), pClaim_t _ _ _ _ _ (by decide), ut _ _ (by decide)]
    · rw [pWrite_t3, upw_t (by decide), upw_t (by decide), pClaim_t _ _ _ _ _ (by decide), ut _ _ (by decide)]
    · rw [pWrite_t4, upw_t (by decide), upw_t (by decide), pClaim_t _ _ _ _ _ (by decide), ut _ _ (by decide)]
theorem pChange_f (w : Int → Int → Int) (s k n sd lk : Int) :
    pChange w s k n sd lk 0 0 = w 0 0 ∧ pChange w s k n sd lk 0 1 = w 0 1 ∧ pChange w s k n sd lk 0 2 = w 0 2 ∧ pChange w s k n sd lk 0 3 = w 0 3 - (if w 1 s = 2 then 1 else 0) + (if k = 2 then 1 else 0) ∧ pChange w s k n sd lk 0 4 = w 0 4 - pBytes w s + cellB k n ∧
    pChange w s k n sd lk 0 5 = (if cellB k n ≤ pBytes w s then w 0 5 else nEnd (w 0 5) (w 0 4 - pBytes w s) (w 0 1) (cellB k n)) ∧ pChange w s k n sd lk 0 6 = w 0 6 ∧ pChange w s k n sd lk 0 7 = w 0 7 ∧ pChange w s k n sd lk 0 8 = w 0 8 + (if cellB k n ≤ pBytes w s then 0 else nCmp (w 0 5) (w 0 1) (cellB k n)) ∧
    (∀ j, pChange w s k n sd lk 1 j = if j = s then k else w 1 j) ∧ (∀ j, pChange w s k n sd lk 2 j = if j = s then n else w 2 j) ∧ (∀ j, pChange w s k n sd lk 3 j = if j = s then sd else w 3 j) ∧ (∀ j, pChange w s k n sd lk 4 j = if j = s then lk else w 4 j) := by
  have e0 := pErase_0 w s
  unfold pChange
  by_cases hq : cellB k n ≤ pBytes w s
  · simp only [if_pos hq]
    refine ⟨?_, ?_, ?_, ?_, ?_, ?_, ?_, ?_, ?_, fun j => ?_, fun j => ?_, fun j => ?_, fun j => ?_⟩
    · rw [pWrite_0 _ _ _ _ _ _ _ (by decide) (by decide), e0 _ (by decide) (by decide)]
    · rw [pWrite_0 _ _ _ _ _ _ _ (by decide) (by decide), e0 _ (by decide) (by decide)]
    · rw [pWrite_0 _ _ _ _ _ _ _ (by decide) (by decide), e0 _ (by decide) (by decide)]
    · rw [pWrite_3, pErase_3]; split <;> omega
    · rw [pWrite_4, pErase_4]; unfold pBytes; rfl
    · rw [pWrite_0 _ _ _ _ _ _ _ (by decide) (by decide), e0 _ (by decide) (by decide)]
    · rw [pWrite_0 _ _ _ _ _ _ _ (by decide) (by decide), e0 _ (by decide) (by decide)]
    · rw [pWrite_0 _ _ _ _ _ _ _ (by decide) (by decide), e0 _ (by decide) (by decide)]
    · rw [pWrite_0 _ _ _ _ _ _ _ (by decide) (by decide), e0 _ (by decide) (by decide)]; omega
    · rw [pWrite_t1, pErase_1]; split <;> rfl
    · rw [pWrite_t2, pErase_t _ _ _ _ (by decide) (by decide)]
    · rw [pWrite_t3, pErase_t _ _ _ _ (by decide) (by decide)]
    · rw [pWrite_t4, pErase_t _ _ _ _ (by decide) (by decide)]
  · simp only [if_neg hq]
    refine ⟨?_, ?_, ?_, ?_, ?_, ?_, ?_, ?_, ?_, fun j => ?_, fun j => ?_, fun j => ?_, fun j => ?_⟩
    · rw [pWrite_0 _ _ _ _ _ _ _ (by decide) (by decide), pClaim_0 _ _ _ _ (by decide) (by decide), e0 _ (by decide) (by decide)]
    · rw [pWrite_0 _ _ _ _ _ _ _ (by decide) (by decide), pClaim_0 _ _ _ _ (by decide) (by decide), e0 _ (by decide) (by decide)]
    · rw [pWrite_0 _ _ _ _ _ _ _ (by decide) (by decide), pClaim_0 _ _ _ _ (by decide) (by decide), e0 _ (by decide) (by decide)]
    · rw [pWrite_3, pClaim_0 _ _ _ _ (by decide) (by decide), pErase_3]; split <;> omega
    · rw [pWrite_4, pClaim_0 _ _ _ _ (by decide) (by decide), pErase_4]; unfold pBytes; rfl
    · rw [pWrite_0 _ _ _ _ _ _ _ (by decide) (by decide), pClaim_5, e0 _ (by decide) (by decide), e0 _ (by decide) (by decide), pErase_4]; unfold nEnd pBytes; split <;> split <;> omega
    · rw [pWrite_0 _ _ _ _ _ _ _ (by decide) (by decide), pClaim_0 _ _ _ _ (by decide) (by decide), e0 _ (by decide) (by decide)]
    · rw [pWrite_0 _ _ _ _ _ _ _ (by decide) (by decide), pClaim_0 _ _ _ _ (by decide) (by decide), e0 _ (by decide) (by decide)]
    · rw [pWrite_0 _ _ _ _ _ _ _ (by decide) (by decide), pClaim_8, e0 _ (by decide) (by decide), e0 _ (by decide) (by decide), e0 _ (by decide) (by decide)]; unfold nCmp; split <;> split <;> omega
    · rw [pWrite_t1, pClaim_t _ _ _ _ _ (by decide), pErase_1]; split <;> rfl
    · rw [pWrite_t2, pClaim_t _ _ _ _ _ (by decide), pErase_t _ _ _ _ (by decide) (by decide)]
    · rw [pWrite_t3, pClaim_t _ _ _ _ _ (by decide), pErase_t _ _ _ _ (by decide) (by decide)]
    · rw [pWrite_t4, pClaim_t _ _ _ _ _ (by decide), pErase_t _ _ _ _ (by decide) (by decide)]
theorem pRem_f (w : Int → Int → Int) (s n : Int) :
    pRem w s n 0 0 = (if w 0 2 = 1 then 0 else w 0 0) ∧ pRem w s n 0 1 = n ∧ pRem w s n 0 2 = w 0 2 - 1 ∧ pRem w s n 0 3 = w 0 3 - (if w 1 s = 2 then 1 else 0) ∧ pRem w s n 0 4 = w 0 4 - pBytes w s ∧
    pRem w s n 0 5 = (if w 0 2 = 1 then 0 else w 0 5) ∧ pRem w s n 0 6 = w 0 6 ∧ pRem w s n 0 7 = w 0 7 ∧ pRem w s n 0 8 = w 0 8 ∧
    (∀ j, pRem w s n 1 j = if j = s then 0 else w 1 j) ∧ (∀ j, pRem w s n 2 j = w 2 j) ∧ (∀ j, pRem w s n 3 j = w 3 j) ∧ (∀ j, pRem w s n 4 j = w 4 j) := by
  have e0 := pErase_0 w s
  have e2 : pErase w s 0 2 = w 0 2 := e0 2 (by decide) (by decide)
  unfold pRem
  rw [e2]
  by_cases hq : w 0 2 = 1
  · simp only [if_pos hq, if_pos (show w 0 2 - 1 = 0 by omega)]
    unfold pFree
    refine ⟨?_, ?_, ?_, ?_, ?_, ?_, ?_, ?_, ?_, fun j => ?_, fun j => ?_, fun j => ?_, fun j => ?_⟩
    · simp [upw]
    · simp [upw]
    · simp [upw]
    · rw [upw_j (by decide), upw_j (by decide), upw_j (by decide), upw_j (by decide), pErase_3]; split <;> omega
    · rw [upw_j (by decide), upw_j (by decide), upw_j (by decide), upw_j (by decide), pErase_4]; rfl
    · simp [upw]
    · rw [upw_j (by decide), upw_j (by decide), upw_j (by decide), upw_j (by decide), e0 _ (by decide) (by decide)]
    · rw [upw_j (by decide), upw_j (by decide), upw_j (by decide), upw_j (by decide), e0 _ (by decide) (by decide)]
    · rw [upw_j (by decide), upw_j (by decide), upw_j (by decide), upw_j (by decide), e0 _ (by decide) (by decide)]
    · rw [upw_t (by decide), upw_t (by decide), upw_t (by decide), upw_t (by decide), pErase_1]
    · rw [upw_t (by decide), upw_t (by decide), upw_t (by decide), upw_t (by decide), pErase_t _ _ _ _ (by decide) (by decide)]
    · rw [upw_t (by decide), upw_t (by decide), upw_t (by decide), upw_t (by decide), pErase_t _ _ _ _ (by decide) (by decide)]
    · rw [upw_t (by decide), upw_t (by decide), upw_t (by decide), upw_t (by decide), pErase_t _ _ _ _ (by decide) (by decide)]
  · simp only [if_neg hq, if_neg (show ¬ w 0 2 - 1 = 0 by omega)]
    refine ⟨?_, ?_, ?_, ?_, ?_, ?_, ?_, ?_, ?_, fun j => ?_, fun j => ?_, fun j => ?_, fun j => ?_⟩
    · rw [upw_j (by decide), upw_j (by decide), e0 _ (by decide) (by decide)]
    · simp [upw]
    · simp [upw]
    · rw [upw_j (by decide), upw_j (by decide), pErase_3]; split <;> omega
    · rw [upw_j (by decide), upw_j (by decide), pErase_4]; rfl
    · rw [upw_j (by decide), upw_j (by decide), e0 _ (by decide) (by decide)]
    · rw [upw_j (by decide), upw_j (by decide), e0 _ (by decide) (by decide)]
    · rw [upw_j (by decide), upw_j (by decide), e0 _ (by decide) (by decide)]
    · rw [upw_j (by decide), upw_j (by decide), e0 _ (by decide) (by decide)]
    · rw [upw_t (by decide), upw_t (by decide), pErase_1]
    · rw [upw_t (by decide), upw_t (by decide), pErase_t _ _ _ _ (by decide) (by decide)]
    · rw [upw_t (by decide), upw_t (by decide), pErase_t _ _ _ _ (by decide) (by decide)]
    · rw [upw_t (by decide), upw_t (by decide), pErase_t _ _ _ _ (by decide) (by decide)]
end
section
theorem pEmpty_0 {w : Int → Int → Int} {r : Int} (h : PI w) (hr : pEmpty w r) : w 1 r = 0 := by
  have hlt := PI_slot h hr
  obtain ⟨r1, r2, r3⟩ := hr
  by_cases hq : r < w 0 1
  · exact r3 hq
  · exact h.2.1.2.1 r (by omega) hlt
theorem PI_put {w : Int → Int → Int} {r k n sd lk : Int} (h : PI w) (hr : pEmpty w r) (hk : k = 1 ∨ k = 3) (hn : 0 ≤ n ∧ n ≤ 1200) (hroom : cellB k n + 4 ≤ pRoom w) (hkd : w 0 0 = 0 ∨ w 0 0 = 1) : PI (pPut w r k n sd lk) := by
  have b := PI_bd h
  have hlt := PI_slot h hr
  have h0 := pEmpty_0 h hr
  obtain ⟨r1, r2, r3⟩ := hr
  obtain ⟨f0, f1, f2, f3, f4, f5, f6, f7, f8, g1, g2, g3, g4⟩ := pPut_f w r k n sd lk r1
  obtain ⟨h1, ⟨h2, h3, h4⟩, h5, h6, h7, h8, h9⟩ := h
  have hcb := cellB_bd (k := k) (len := n) ⟨by omega, hn.2⟩
  unfold pRoom at hroom
  refine ⟨fun s q1 q2 => ?_, ⟨?_, ?_, ?_⟩, ?_, ?_, ?_, ⟨by omega, by omega, by omega⟩, ?_⟩
  · unfold okc
    rw [g1, g2]
    by_cases hs : s = r
    · simp only [if_pos hs]; omega
    · simp only [if_neg hs]; exact h1 s q1 q2
  · rw [f1]; split <;> omega
  · intro s q1 q2
    rw [f1] at q1
    rw [g1]
    by_cases hq : r < w 0 1
    · rw [if_pos hq] at q1
      rw [if_neg (by omega)]; exact h3 s q1 q2
    · rw [if_neg hq] at q1
      rw [if_neg (by omega)]; exact h3 s (by omega) q2
  · intro q1
    rw [g1, f1]
    by_cases hq : r < w 0 1
    · rw [if_pos hq]
      split
      · omega
      · exact h4 (by omega)
    · rw [if_neg hq, if_pos (by omega)]; omega
  · rw [f2, sumF_upd (F := cef w) (r := r) (n := 32) ⟨r1.1, by omega⟩ (fun i _ _ hi => by unfold cef; rw [g1, if_neg hi])]
    have e1 : cef w r = 0 := by unfold cef; rw [if_pos h0]
    have e2 : cef (pPut w r k n sd lk) r = 1 := by unfold cef; rw [g1, if_pos rfl, if_neg (by omega)]
    omega
  · rw [f3, sumF_upd (F := stf w) (r := r) (n := 32) ⟨r1.1, by omega⟩ (fun i _ _ hi => by unfold stf; rw [g1, if_neg hi])]
    have e1 : stf w r = 0 := by unfold stf; rw [if_neg (by omega)]
    have e2 : stf (pPut w r k n sd lk) r = 0 := by unfold stf; rw [g1, if_pos rfl, if_neg (by omega)]
    rw [if_neg (by omega)]
    omega
  · rw [f4, sumF_upd (F := szf w) (r := r) (n := 32) ⟨r1.1, by omega⟩ (fun i _ _ hi => by unfold szf; rw [g1, g2, if_neg hi, if_neg hi])]
    have e1 : szf w r = 0 := by unfold szf; rw [if_pos h0]
    have e2 : szf (pPut w r k n sd lk) r = cellB k n := by unfold szf; rw [g1, g2, if_pos rfl, if_pos rfl, if_neg (by omega)]
    omega
  · rw [f4, f5, f1]
    unfold nEnd
    split <;> split <;> omega
theorem PI_change {w : Int → Int → Int} {s k n sd lk : Int} (h : PI w) (hs : 0 ≤ s ∧ s < 32) (h0 : w 1 s ≠ 0) (hk : 1 ≤ k ∧ k ≤ 3) (hn : (k = 2 → n = -1) ∧ (k ≠ 2 → 0 ≤ n ∧ n ≤ 1200)) (hroom : cellB k n ≤ pRoom w + pBytes w s) : PI (pChange w s k n sd lk) := by
  have b := PI_bd h
  obtain ⟨f0, f1, f2, f3, f4, f5, f6, f7, f8, g1, g2, g3, g4⟩ := pChange_f w s k n sd lk
  obtain ⟨h1, ⟨h2, h3, h4⟩, h5, h6, h7, h8, h9⟩ := h
  have hcb := cellB_bd (k := k) (len := n) ⟨by omega, by omega⟩
  have hsl : s < w 0 1 := by
    by_cases hq : s < w 0 1
    · exact hq
    · exact absurd (h3 s (by omega) hs.2) h0
  unfold pRoom at hroom
  have hz : szf w s = pBytes w s := by unfold szf pBytes; rw [if_neg h0]
  refine ⟨fun j q1 q2 => ?_, ⟨?_, ?_, ?_⟩, ?_, ?_, ?_, ⟨by omega, by omega, ?_⟩, ?_⟩
  · unfold okc
    rw [g1, g2]
    by_cases hj : j = s
    · simp only [if_pos hj]; omega
    · simp only [if_neg hj]; exact h1 j q1 q2
  · rw [f1]; exact h2
  · intro j q1 q2
    rw [f1] at q1
    rw [g1, if_neg (by omega)]; exact h3 j q1 q2
  · intro q1
    rw [g1, f1]
    split
    · omega
    · exact h4 (by omega)
  · rw [f2, h5]
    refine sumF_congr (fun i q1 q2 => ?_)
    unfold cef
    rw [g1]
    by_cases hi : i = s
    · subst hi; rw [if_pos rfl, if_neg h0, if_neg (by omega)]
    · rw [if_neg hi]
  · rw [f3, sumF_upd (F := stf w) (r := s) (n := 32) ⟨hs.1, by omega⟩ (fun i _ _ hi => by unfold stf; rw [g1, if_neg hi])]
    have e2 : stf (pChange w s k n sd lk) s = if k = 2 then 1 else 0 := by unfold stf; rw [g1, if_pos rfl]
    have e1 : stf w s = if w 1 s = 2 then 1 else 0 := rfl
    omega
  · rw [f4, sumF_upd (F := szf w) (r := s) (n := 32) ⟨hs.1, by omega⟩ (fun i _ _ hi => by unfold szf; rw [g1, g2, if_neg hi, if_neg hi])]
    have e2 : szf (pChange w s k n sd lk) s = cellB k n := by unfold szf; rw [g1, g2, if_pos rfl, if_pos rfl, if_neg (by omega)]
    omega
  · intro q
    rw [f0] at q
    have hc0 := (h8.2.2 q).1
    have hz0 := sumF_zero (F := cef w) (n := 32) (fun i _ _ => by unfold cef; split <;> omega) (by omega) s hs.1 (by omega)
    unfold cef at hz0
    rw [if_neg h0] at hz0
    exact absurd hz0 (by decide)
  · rw [f4, f5, f1]
    have hzb : 0 ≤ pBytes w s := by have := cellB_bd (k := w 1 s) (h1 s hs.1 hs.2).2.1; unfold pBytes; omega
    unfold nEnd
    split
    · omega
    · split <;> omega
theorem PI_rem {w : Int → Int → Int} {s n : Int} (h : PI w) (hs : 0 ≤ s ∧ s < 32) (h0 : w 1 s ≠ 0) (hn : (0 ≤ n ∧ n ≤ w 0 1) ∧ (∀ i, n ≤ i → i < w 0 1 → pErase w s 1 i = 0) ∧ (0 < n → pErase w s 1 (n - 1) ≠ 0)) : PI (pRem w s n) := by
  have b := PI_bd h
  obtain ⟨f0, f1, f2, f3, f4, f5, f6, f7, f8, g1, g2, g3, g4⟩ := pRem_f w s n
  obtain ⟨h1, ⟨h2, h3, h4⟩, h5, h6, h7, h8, h9⟩ := h
  obtain ⟨n1, n2, n3⟩ := hn
  have hk : w 0 0 = 1 := by
    by_cases hq : w 0 0 = 1
    · exact hq
    · exfalso
      have hc0 := (h8.2.2 hq).1
      have hz0 := sumF_zero (F := cef w) (n := 32) (fun i _ _ => by unfold cef; split <;> omega) (by omega) s hs.1 (by omega)
      unfold cef at hz0
      rw [if_neg h0] at hz0
      exact absurd hz0 (by decide)
  have hz : szf w s = pBytes w s := by unfold szf pBytes; rw [if_neg h0]
  have hzb : 0 ≤ pBytes w s := by have := cellB_bd (k := w 1 s) (h1 s hs.1 hs.2).2.1; unfold pBytes; omega
  have hce : sumF (cef (pRem w s n)) 32 = sumF (cef w) 32 - 1 := by
    rw [sumF_upd (F := cef w) (r := s) (n := 32) ⟨hs.1, by omega⟩ (fun i _ _ hi => by unfold cef; rw [g1, if_neg hi])]
    have e1 : cef w s = 1 := by unfold cef; rw [if_neg h0]
    have e2 : cef (pRem w s n) s = 0 := by unfold cef; rw [g1, if_pos rfl, if_pos rfl]
    omega
  have hsz : sumF (szf (pRem w s n)) 32 = sumF (szf w) 32 - pBytes w s := by
    rw [sumF_upd (F := szf w) (r := s) (n := 32) ⟨hs.1, by omega⟩ (fun i _ _ hi => by unfold szf; rw [g1, g2, if_neg hi])]
    have e2 : szf (pRem w s n) s = 0 := by unfold szf; rw [g1, if_pos rfl, if_pos rfl]
    omega
  have hzero : ∀ i, n ≤ i → i < 32 → pRem w s n 1 i = 0 := by
    intro i q1 q2
    rw [g1]
    by_cases hi : i < w 0 1
    · have := n2 i q1 hi; rwa [pErase_1] at this
    · split
      · rfl
      · exact h3 i (by omega) q2
  have hused : w 0 2 = 1 → w 0 4 - pBytes w s = 0 := by
    intro q
    have hz1 := sumF_zero (F := cef (pRem w s n)) (n := 32) (fun i _ _ => by unfold cef; split <;> omega) (by omega)
    have : sumF (szf (pRem w s n)) 32 = sumF (fun _ => 0) 32 := sumF_congr (fun i q1 q2 => by
      have := hz1 i q1 q2
      unfold cef at this
      unfold szf
      split
      · rfl
      · rename_i hh; rw [if_neg hh] at this; exact absurd this (by decide))
    have h00 : sumF (fun _ => 0) 32 = 0 := by decide
    omega
  refine ⟨fun j q1 q2 => ?_, ⟨?_, ?_, ?_⟩, ?_, ?_, ?_, ⟨?_, ?_, ?_⟩, ?_⟩
  · unfold okc
    rw [g1, g2]
    have := h1 j q1 q2
    unfold okc at this
    split <;> omega
  · rw [f1]; omega
  · intro j q1 q2; rw [f1] at q1; exact hzero j q1 q2
  · intro q; rw [f1] at q ⊢; rw [g1]; have := n3 q; rwa [pErase_1] at this
  · rw [f2]; omega
  · rw [f3, sumF_upd (F := stf w) (r := s) (n := 32) ⟨hs.1, by omega⟩ (fun i _ _ hi => by unfold stf; rw [g1, if_neg hi])]
    have e2 : stf (pRem w s n) s = 0 := by unfold stf; rw [g1, if_pos rfl, if_neg (by decide)]
    have e1 : stf w s = if w 1 s = 2 then 1 else 0 := rfl
    omega
  · rw [f4]; omega
  · rw [f0]; split <;> omega
  · intro q; rw [f0] at q; rw [f2]
    by_cases hq : w 0 2 = 1
    · rw [if_pos hq] at q; exact absurd q (by decide)
    · omega
  · intro q
    rw [f0] at q
    by_cases hq : w 0 2 = 1
    · rw [f2, f5, if_pos hq]; omega
    · rw [if_neg hq] at q; exact absurd hk q
  · rw [f4, f5, f1]
    by_cases hq : w 0 2 = 1
    · rw [if_pos hq]
      have := hused hq
      have hn0 : n = 0 := by
        by_cases hp : 0 < n
        · exfalso
          have hz1 := sumF_zero (F := cef (pRem w s n)) (n := 32) (fun i _ _ => by unfold cef; split <;> omega) (by omega) (n - 1) (by omega) (by omega)
          have h8' := n3 hp
          rw [pErase_1] at h8'
          unfold cef at hz1
          rw [g1] at hz1
          rw [if_neg h8'] at hz1
          exact absurd hz1 (by decide)
        · omega
      omega
    · rw [if_neg hq]; omega
theorem PI_same {w w' : Int → Int → Int} (h : PI w) (ht : ∀ t j, t ≠ 0 → w' t j = w t j) (h1 : w' 0 1 = w 0 1) (h2 : w' 0 2 = w 0 2) (h3 : w' 0 3 = w 0 3) (h4 : w' 0 4 = w 0 4) (h0 : (0 ≤ w' 0 0 ∧ w' 0 0 ≤ 2) ∧ (w' 0 0 = 1 ↔ w 0 0 = 1)) (h5 : w' 0 5 = if w 0 0 = 1 then w 0 5 else 0) : PI w' := by
  obtain ⟨k1, ⟨k2, k3, k4⟩, k5, k6, k7, k8, k9⟩ := h
  have e1 : cef w' = cef w := by funext s; unfold cef; rw [ht 1 s (by decide)]
  have e2 : stf w' = stf w := by funext s; unfold stf; rw [ht 1 s (by decide)]
  have e3 : szf w' = szf w := by funext s; unfold szf; rw [ht 1 s (by decide), ht 2 s (by decide)]
  refine ⟨fun s q1 q2 => by unfold okc; rw [ht 1 s (by decide), ht 2 s (by decide)]; exact k1 s q1 q2, ⟨by rw [h1]; exact k2, fun s q1 q2 => by rw [ht 1 s (by decide)]; exact k3 s (by omega) q2, fun q => by rw [h1, ht 1 _ (by decide)]; exact k4 (by omega)⟩, by rw [e1, h2]; exact k5, by rw [e2, h3]; exact k6, by rw [e3, h4]; exact k7, ⟨h0.1, fun q => by rw [h2]; exact k8.2.1 (h0.2.mp q), fun q => ?_⟩, ?_⟩
  · have hq : w 0 0 ≠ 1 := fun z => q (h0.2.mpr z)
    rw [h2, h5, if_neg hq]
    exact ⟨(k8.2.2 hq).1, rfl⟩
  · rw [h4, h5, h1]
    split
    · exact k9
    · rename_i hq
      have := k8.2.2 hq
      omega
theorem PI_chain {w : Int → Int → Int} (h : PI w) (h0 : w 0 0 = 0) (q : Int) : PI (pChain w q) :=
  PI_same h (fun t j ht => by simp [pChain, upw, ht]) (by simp [pChain, upw]) (by simp [pChain, upw]) (by simp [pChain, upw]) (by simp [pChain, upw]) ⟨by simp [pChain, upw], by simp [pChain, upw, h0]⟩ (by rw [if_neg (by omega)]; have := (h.2.2.2.2.2.1.2.2 (by omega)).2; simpa [pChain, upw] using this)
theorem PI_free {w : Int → Int → Int} (h : PI w) (h0 : w 0 0 ≠ 1) : PI (pFree w) :=
  PI_same h (fun t j ht => by simp [pFree, upw, ht]) (by simp [pFree, upw]) (by simp [pFree, upw]) (by simp [pFree, upw]) (by simp [pFree, upw]) ⟨by simp [pFree, upw], by simp [pFree, upw, h0]⟩ (by rw [if_neg h0]; simp [pFree, upw])
def SI (V : VT) (b : Int) : Prop := ∀ i, 0 ≤ i → i < 96 → PI (V (b + i))
theorem SI_swf {V : VT} {b : Int} (h : SI V b) : swf V b := fun i q1 q2 => PI_pwf (h i q1 q2)
theorem SI_room {V : VT} {b : Int} (h : SI V b) : ∀ i, 0 ≤ i → i < 96 → V (b + i) 0 0 = 1 → 0 ≤ pRoom (V (b + i)) ∧ pRoom (V (b + i)) ≤ 248 := fun i q1 q2 _ => PI_room (h i q1 q2)
theorem SI_setp {V : VT} {b i : Int} {w : Int → Int → Int} (h : SI V b) (hw : PI w) : SI (setp V (b + i) w) b := by
  intro j q1 q2
  by_cases hj : j = i
  · subst hj; rw [setp_at]; exact hw
  · rw [setp_ne (by omega)]; exact h j q1 q2
theorem SI_next {V : VT} {b o' v : Int} (h : SI V b) : SI (up V o' 0 6 v) b := by
  intro j q1 q2
  have h1 := h j q1 q2
  exact PI_same h1 (fun t i ht => by simp [up, ht]) (by simp [up]) (by simp [up]) (by simp [up]) (by simp [up]) ⟨by simpa [up] using h1.2.2.2.2.2.1.1, by simp [up]⟩ (by
    have : up V o' 0 6 v (b + j) 0 5 = V (b + j) 0 5 := by simp [up]
    rw [this]
    split
    · rfl
    · rename_i hq; exact (h1.2.2.2.2.2.1.2.2 hq).2)
/-- a chain is taken out of free pages: what stays, what comes -/
theorem tc_SI {b : Int} {V : VT} {len : Int} (h : SI V b) (m : Nat) (hm : (m : Int) ≤ cntK (kd V b) 0 96) : ∀ k : Nat, k ≤ m → SI (tcN b V len k).1 b := by
  intro k
  induction k with
  | zero => intro _; exact h
  | succ k ih =>
    intro hk
    have i0 := ih (by omega)
    obtain ⟨i1, i2, i3, i4, i5⟩ := tc_inv (len := len) (SI_swf h) m hm k (by omega)
    have hpos : 0 < cntK (kd (tcN b V len k).1 b) 0 96 := by rw [i4]; omega
    obtain ⟨f, f1, f2, f3⟩ := cntK_pos hpos
    have hl := lfr_LF (kd (tcN b V len k).1 b)
    show SI (tcStep b (tcN b V len k)).1 b
    generalize tcN b V len k = S at *
    generalize hr : lfr (kd S.1 b) = r at *
    rcases hl with ⟨-, kk⟩ | ⟨k1, k2, k3, k4⟩
    · exact absurd f3 (kk f f1 (by omega))
    · have hs : ∀ q, SI (setp S.1 (b + r) (pChain (S.1 (b + r)) q)) b := fun q => SI_setp i0 (PI_chain (i0 r k1 k2) k3 q)
      unfold tcStep
      rw [hr]
      split
      · exact hs _
      · exact SI_next (hs _)
end
section
/-! chains: segments -/
def isSeg (N : Int → Int) : List Int → Int → Int → Prop
  | [], f, z => f = z
  | p :: L, f, z => f = p ∧ (0 ≤ p ∧ p < 96) ∧ isSeg N L (N p) z
theorem isSeg_ch {N : Int → Int} {L : List Int} {f : Int} (h : isSeg N L f (-1)) : isCh N L f := by
  induction L generalizing f with
  | nil => exact h
  | cons p L ih => exact ⟨h.1, h.2.1, ih h.2.2⟩
theorem isSeg_congr {N N' : Int → Int} {L : List Int} {f z : Int} (hN : ∀ p ∈ L, N' p = N p) (h : isSeg N L f z) : isSeg N' L f z := by
  induction L generalizing f with
  | nil => exact h
  | cons p L ih => exact ⟨h.1, h.2.1, by rw [hN p List.mem_cons_self]; exact ih (fun q hq => hN q (List.mem_cons_of_mem _ hq)) h.2.2⟩
theorem isCh_congr {N N' : Int → Int} {L : List Int} {f : Int} (hN : ∀ p ∈ L, N' p = N p) (h : isCh N L f) : isCh N' L f := by
  induction L generalizing f with
  | nil => exact h
  | cons p L ih => exact ⟨h.1, h.2.1, by rw [hN p List.mem_cons_self]; exact ih (fun q hq => hN q (List.mem_cons_of_mem _ hq)) h.2.2⟩
theorem isSeg_snoc {N : Int → Int} {L : List Int} {f z : Int} (hz : 0 ≤ z ∧ z < 96) (h : isSeg N L f z) : isSeg N (L ++ [z]) f (N z) := by
  induction L generalizing f with
  | nil => exact ⟨h, hz, rfl⟩
  | cons p L ih => exact ⟨h.1, h.2.1, ih h.2.2⟩
theorem isCh_rng {N : Int → Int} {L : List Int} {f : Int} (h : isCh N L f) : (∀ p ∈ L, 0 ≤ p ∧ p < 96) ∧ -1 ≤ f ∧ f < 96 := by
  induction L generalizing f with
  | nil => have : f = -1 := h; exact ⟨fun _ hp => absurd hp List.not_mem_nil, by omega, by omega⟩
  | cons p L ih =>
    obtain ⟨h1, h2, h3⟩ := h
    refine ⟨fun q hq => ?_, by omega, by omega⟩
    rcases List.mem_cons.mp hq with rfl | hq
    · exact h2
    · exact (ih h3).1 q hq
/-- the chain that is taken: L its pages -/
theorem tc_chain {b : Int} {V : VT} {len : Int} (hw : swf V b) (m : Nat) (hm : (m : Int) ≤ cntK (kd V b) 0 96) : ∀ k : Nat, k ≤ m → ∃ L : List Int, L.length = k ∧ isCh (nx (tcN b V len k).1 b) L (tcN b V len k).2.1 ∧ (∀ p ∈ L, (0 ≤ p ∧ p < 96) ∧ kd V b p = 0 ∧ kd (tcN b V len k).1 b p = 2 ∧ p ≤ (tcN b V len k).2.2.1) ∧ L.Nodup ∧
    (∀ o, (∀ p ∈ L, o ≠ b + p) → (tcN b V len k).1 o = V o) ∧ (∀ p ∈ L, ∀ t j, (t ≠ 0 ∨ (j ≠ 0 ∧ j ≠ 6 ∧ j ≠ 7)) → (tcN b V len k).1 (b + p) t j = V (b + p) t j) ∧
    ((k = 0 ∧ L = [] ∧ (tcN b V len k).2.2.1 = -1 ∧ (tcN b V len k).2.1 = -1) ∨ (0 < k ∧ ∃ L', L = L' ++ [(tcN b V len k).2.2.1] ∧ isSeg (nx (tcN b V len k).1 b) L' (tcN b V len k).2.1 (tcN b V len k).2.2.1 ∧ nx (tcN b V len k).1 b (tcN b V len k).2.2.1 = -1 ∧ 0 ≤ (tcN b V len k).2.2.1)) := by
  intro k
  induction k with
  | zero => intro _; exact ⟨[], rfl, rfl, fun _ hp => absurd hp List.not_mem_nil, List.nodup_nil, fun _ _ => rfl, fun _ hp => absurd hp List.not_mem_nil, Or.inl ⟨rfl, rfl, rfl, rfl⟩⟩
  | succ k ih =>
    intro hk
    obtain ⟨L, l1, l2, l3, l4, l5, l6, l7⟩ := ih (by omega)
    obtain ⟨i1, i2, i3, i4, i5⟩ := tc_inv (len := len) hw m hm k (by omega)
    have hpos : 0 < cntK (kd (tcN b V len k).1 b) 0 96 := by rw [i4]; omega
    obtain ⟨f, f1, f2, f3⟩ := cntK_pos hpos
    have hl := lfr_LF (kd (tcN b V len k).1 b)
    have hst : tcN b V len (k + 1) = tcStep b (tcN b V len k) := rfl
    rw [hst]
    generalize tcN b V len k = S at *
    generalize hr : lfr (kd S.1 b) = r at *
    rcases hl with ⟨-, kk⟩ | ⟨k1, k2, k3, k4⟩
    · exact absurd f3 (kk f f1 (by omega))
    · have hrl : S.2.2.1 < r := by
        by_cases hq : S.2.2.1 < r
        · exact hq
        · exact absurd k3 (i3 r k1 (by omega))
      have hrL : r ∉ L := fun hp => by have := (l3 r hp).2.2.2; omega
      have hV0 : kd V b r = 0 := by
        have := l5 (b + r) (fun p hp q => hrL ((show p = r by omega) ▸ hp))
        simp only [kd] at k3 ⊢
        rw [← this]; exact k3
      refine ⟨L ++ [r], by simp [l1], ?_, ?_, ?_, ?_, ?_, ?_⟩
      -- the chain
      all_goals
        try unfold tcStep
        try rw [hr]
      · rcases l7 with ⟨e1, e2, e3, e4⟩ | ⟨e1, L', e2, e3, e4, e5⟩
        · rw [if_pos e3]
          subst e2
          refine ⟨rfl, ⟨k1, k2⟩, ?_⟩
          show nx (setp S.1 (b + r) (pChain (S.1 (b + r)) _)) b r = -1
          simp [nx, setp_at, pChain, upw]
        · rw [if_neg (by omega)]
          refine isSeg_ch ?_
          have hN : ∀ q p, p ≠ r → p ≠ S.2.2.1 → nx (up (setp S.1 (b + r) (pChain (S.1 (b + r)) q)) (b + S.2.2.1) 0 6 r) b p = nx S.1 b p := by
            intro q p h1 h2
            simp only [nx]
            rw [up_o (by omega), setp_ne (by omega)]
          have hNl : ∀ q, nx (up (setp S.1 (b + r) (pChain (S.1 (b + r)) q)) (b + S.2.2.1) 0 6 r) b S.2.2.1 = r := fun q => by simp [nx, up]
          have hNr : ∀ q, nx (up (setp S.1 (b + r) (pChain (S.1 (b + r)) q)) (b + S.2.2.1) 0 6 r) b r = -1 := by
            intro q
            simp only [nx]
            rw [up_o (by omega), setp_at]
            simp [pChain, upw]
          have hL' : ∀ p ∈ L', p ≠ r ∧ p ≠ S.2.2.1 := by
            intro p hp
            have hpL : p ∈ L := by rw [e2]; exact List.mem_append_left _ hp
            refine ⟨fun q => hrL (q ▸ hpL), fun q => ?_⟩
            rw [e2] at l4
            have := (List.nodup_append.mp l4).2.2 p hp S.2.2.1 (List.mem_singleton.mpr rfl)
            exact this q
          have s1 := isSeg_congr (N' := nx (up (setp S.1 (b + r) (pChain (S.1 (b + r)) (if 240 < S.2.2.2 then 240 else S.2.2.2))) (b + S.2.2.1) 0 6 r) b) (fun p hp => hN _ p (hL' p hp).1 (hL' p hp).2) e3
          have s2 := isSeg_snoc ⟨e5, i2.2⟩ s1
          rw [hNl, ← e2] at s2
          have s3 := isSeg_snoc ⟨k1, k2⟩ s2
          rw [hNr] at s3
          exact s3
      · intro p hp
        have hk2 : ∀ q, kd (setp S.1 (b + r) (pChain (S.1 (b + r)) q)) b r = 2 := fun q => by simp [kd, setp_at, pChain, upw]
        have hup : ∀ (U : VT) o v, kd (up U o 0 6 v) b = kd U b := by intro U o v; funext i; simp [kd, up]
        have hoth : ∀ q, p ≠ r → kd (setp S.1 (b + r) (pChain (S.1 (b + r)) q)) b p = kd S.1 b p := by intro q hi; simp only [kd]; rw [setp_ne (by omega)]
        rcases List.mem_append.mp hp with h | h
        · have hpr : p ≠ r := fun q => hrL (q ▸ h)
          obtain ⟨a1, a2, a3, a4⟩ := l3 p h
          split
          · exact ⟨a1, a2, (hoth _ hpr).trans a3, by show p ≤ r; omega⟩
          · exact ⟨a1, a2, (congrFun (hup _ _ _) p).trans ((hoth _ hpr).trans a3), by show p ≤ r; omega⟩
        · have hpr : p = r := List.mem_singleton.mp h
          subst hpr
          split
          · exact ⟨⟨k1, k2⟩, hV0, hk2 _, Int.le_refl _⟩
          · exact ⟨⟨k1, k2⟩, hV0, (congrFun (hup _ _ _) p).trans (hk2 _), Int.le_refl _⟩
      · exact List.nodup_append.mpr ⟨l4, List.nodup_cons.mpr ⟨List.not_mem_nil, List.nodup_nil⟩, fun p hp q hq e => hrL (by rw [List.mem_singleton] at hq; rw [← hq, ← e]; exact hp)⟩
      · intro o ho
        have h1 : o ≠ b + r := ho r (List.mem_append_right _ (List.mem_singleton.mpr rfl))
        have h2 := l5 o (fun p hp => ho p (List.mem_append_left _ hp))
        split
        · show setp S.1 (b + r) _ o = V o
          rw [setp_ne h1, h2]
        · rename_i hne
          show up (setp S.1 (b + r) _) (b + S.2.2.1) 0 6 r o = V o
          have h3 : o ≠ b + S.2.2.1 := by
            rcases l7 with ⟨-, -, e3, -⟩ | ⟨e1, L', e2, -⟩
            · exact absurd e3 hne
            · exact ho _ (List.mem_append_left _ (by rw [e2]; exact List.mem_append_right _ (List.mem_singleton.mpr rfl)))
          funext t j
          rw [up_o h3, setp_ne h1, h2]
      · intro p hp t j htj
        have hb : ∀ q, setp S.1 (b + r) (pChain (S.1 (b + r)) q) (b + p) t j = V (b + p) t j := by
          intro q
          rcases List.mem_append.mp hp with h | h
          · have hpr : p ≠ r := fun q => hrL (q ▸ h)
            rw [setp_ne (by omega)]
            exact l6 p h t j htj
          · have hpr : p = r := List.mem_singleton.mp h
            subst hpr
            rw [setp_at]
            have hs : S.1 (b + p) = V (b + p) := l5 (b + p) (fun p' hp' q => hrL ((show p' = p by omega) ▸ hp'))
            rw [hs]
            unfold pChain upw
            rcases htj with h | ⟨h1, h2, h3⟩
            · simp [h]
            · simp [h1, h2, h3]
        split
        · exact hb _
        · show up _ _ 0 6 r (b + p) t j = _
          have : up (setp S.1 (b + r) (pChain (S.1 (b + r)) (if 240 < S.2.2.2 then 240 else S.2.2.2))) (b + S.2.2.1) 0 6 r (b + p) t j = setp S.1 (b + r) (pChain (S.1 (b + r)) (if 240 < S.2.2.2 then 240 else S.2.2.2)) (b + p) t j := by
            rcases htj with h | ⟨h1, h2, h3⟩
            · exact up_t h
            · exact up_j h2
          rw [this]
          exact hb _
      · refine Or.inr ⟨by omega, L, ?_⟩
        rcases l7 with ⟨e1, e2, e3, e4⟩ | ⟨e1, L', e2, e3, e4, e5⟩
        · rw [if_pos e3]
          subst e2
          refine ⟨rfl, rfl, ?_, k1⟩
          show nx (setp S.1 (b + r) (pChain (S.1 (b + r)) _)) b r = -1
          simp [nx, setp_at, pChain, upw]
        · rw [if_neg (by omega)]
          refine ⟨rfl, ?_, ?_, k1⟩
          · have hL' : ∀ p ∈ L', p ≠ r ∧ p ≠ S.2.2.1 := by
              intro p hp
              have hpL : p ∈ L := by rw [e2]; exact List.mem_append_left _ hp
              refine ⟨fun q => hrL (q ▸ hpL), fun q => ?_⟩
              rw [e2] at l4
              have := (List.nodup_append.mp l4).2.2 p hp S.2.2.1 (List.mem_singleton.mpr rfl)
              exact this q
            have s1 : isSeg (nx (up (setp S.1 (b + r) (pChain (S.1 (b + r)) (if 240 < S.2.2.2 then 240 else S.2.2.2))) (b + S.2.2.1) 0 6 r) b) L' S.2.1 S.2.2.1 := isSeg_congr (fun p hp => by
              simp only [nx]
              have := hL' p hp
              rw [up_o (by omega), setp_ne (by omega)]) e3
            have s2 := isSeg_snoc ⟨e5, i2.2⟩ s1
            have hNl : nx (up (setp S.1 (b + r) (pChain (S.1 (b + r)) (if 240 < S.2.2.2 then 240 else S.2.2.2))) (b + S.2.2.1) 0 6 r) b S.2.2.1 = r := by simp [nx, up]
            rw [hNl, ← e2] at s2
            exact s2
          · show nx (up (setp S.1 (b + r) (pChain (S.1 (b + r)) _)) (b + S.2.2.1) 0 6 r) b r = -1
            simp only [nx]
            rw [up_o (by omega), setp_at]
            simp [pChain, upw]
theorem freeL_out {V : VT} {b : Int} {L : List Int} {o : Int} (h : ∀ p ∈ L, o ≠ b + p) : freeL V b L o = V o := by
  induction L generalizing V with
  | nil => rfl
  | cons p L ih =>
    show freeL (setp V (b + p) (pFree (V (b + p)))) b L o = V o
    rw [ih (fun q hq => h q (List.mem_cons_of_mem _ hq)), setp_ne (h p List.mem_cons_self)]
theorem freeL_SI {V : VT} {b : Int} {L : List Int} (h : SI V b) (hk : ∀ p ∈ L, (0 ≤ p ∧ p < 96) ∧ kd V b p ≠ 1) : SI (freeL V b L) b := by
  induction L generalizing V with
  | nil => exact h
  | cons p L ih =>
    refine ih (SI_setp h (PI_free (h p (hk p List.mem_cons_self).1.1 (hk p List.mem_cons_self).1.2) (hk p List.mem_cons_self).2)) (fun q hq => ⟨(hk q (List.mem_cons_of_mem _ hq)).1, ?_⟩)
    simp only [kd]
    by_cases hqp : q = p
    · subst hqp; rw [setp_at]; simp [pFree, upw]
    · rw [setp_ne (by omega)]; exact (hk q (List.mem_cons_of_mem _ hq)).2
theorem nx_setp {V : VT} {b p : Int} {w : Int → Int → Int} (h : w 0 6 = V (b + p) 0 6) : nx (setp V (b + p) w) b = nx V b := by
  funext i
  simp only [nx]
  by_cases hi : i = p
  · subst hi; rw [setp_at]; exact h
  · rw [setp_ne (by omega)]
/-- a place: its page -/
theorem isPl_ok {V : VT} {b q x y r : Int} (h : SI V b) (hq : q ≤ 248) (hp : isPl V b q x y r) : (r = -1 ∨ ((0 ≤ r ∧ r < 96) ∧ q ≤ pRoom (V (b + r)) ∧ (V (b + r) 0 0 = 0 ∨ (V (b + r) 0 0 = 1 ∧ r ≠ x ∧ r ≠ y)))) := by
  rcases hp with ⟨c, h1, h2⟩ | ⟨-, ⟨h1, h2⟩ | ⟨-, h2⟩⟩
  · rcases h2 with ⟨e, -⟩ | ⟨k1, k2, k3, k4, k5, -⟩
    · exact absurd e h1
    · refine Or.inr ⟨⟨k1, k2⟩, ?_, Or.inr ⟨k3.2.2.1, k3.1, k3.2.1⟩⟩
      have := PI_room (h r k1 k2)
      have e : pCls (V (b + r)) = pRoom (V (b + r)) / 31 := rfl
      omega
  · rcases h2 with ⟨e, -⟩ | ⟨k1, k2, k3, k4, -⟩
    · exact absurd e h1
    · exact Or.inr ⟨⟨k1, k2⟩, k4, Or.inr ⟨k3.2.2.1, k3.1, k3.2.1⟩⟩
  · rcases h2 with ⟨e, -⟩ | ⟨k1, k2, k3, -⟩
    · exact Or.inl e
    · refine Or.inr ⟨⟨k1, k2⟩, ?_, Or.inl k3⟩
      have hPI := h r k1 k2
      have hbd := PI_bd hPI
      obtain ⟨h1, ⟨g2, g3, g4⟩, h5, h6, h7, h8, h9⟩ := hPI
      have hk : kd V b r = V (b + r) 0 0 := rfl
      have h80 := h8.2.2 (by omega)
      unfold pRoom
      have hz := sumF_zero (F := cef (V (b + r))) (n := 32) (fun i _ _ => by unfold cef; split <;> omega) (by omega)
      have hs0 : V (b + r) 0 1 = 0 := by
        by_cases hp : 0 < V (b + r) 0 1
        · exfalso
          have h10 := hz (V (b + r) 0 1 - 1) (by omega) (by omega)
          unfold cef at h10
          rw [if_neg (g4 hp)] at h10
          exact absurd h10 (by decide)
        · omega
      omega
end
section
/-! the changes of a record, as they leave V -/
def rm9 (w : Int → Int → Int) (s n : Int) : Prop := (0 ≤ n ∧ n ≤ w 0 1) ∧ (∀ i, n ≤ i → i < w 0 1 → pErase w s 1 i = 0) ∧ (0 < n → pErase w s 1 (n - 1) ≠ 0)
def AddP (V : VT) (b q sd r : Int) (V' : VT) : Prop :=
  (¬ chP q ≤ cntK (kd V b) 0 96 ∧ r = -1 ∧ V' = V) ∨
  (chP q ≤ cntK (kd V b) 0 96 ∧ ∃ pl, isPl (tcN b V q (chP q).toNat).1 b (cellB 1 q + 4) (-1) (-1) pl ∧
    ((pl = -1 ∧ r = -1 ∧ ∃ L, isCh (nx (tcN b V q (chP q).toNat).1 b) L (tcN b V q (chP q).toNat).2.1 ∧ V' = freeL (tcN b V q (chP q).toNat).1 b L) ∨
     (pl ≠ -1 ∧ ∃ t, pEmpty ((tcN b V q (chP q).toNat).1 (b + pl)) t ∧ r = pl * 32 + t ∧ V' = setp (tcN b V q (chP q).toNat).1 (b + pl) (pPut ((tcN b V q (chP q).toNat).1 (b + pl)) t 1 q sd (tcN b V q (chP q).toNat).2.1))))
def HomeP (V : VT) (b x q sd ch r : Int) (V' : VT) : Prop :=
  (cellB 1 q ≤ pRoom (V (b + x / 32)) + pBytes (V (b + x / 32)) (x % 32) ∧ r = 1 ∧ V' = setp V (b + x / 32) (pChange (V (b + x / 32)) (x % 32) 1 q sd ch)) ∨
  (¬ cellB 1 q ≤ pRoom (V (b + x / 32)) + pBytes (V (b + x / 32)) (x % 32) ∧ ∃ pl, isPl V b (cellB 3 q + 4) (x / 32) (-1) pl ∧
    ((pl = -1 ∧ r = 0 ∧ V' = V) ∨
     (pl ≠ -1 ∧ r = 1 ∧ ∃ t, pEmpty (V (b + pl)) t ∧ V' = setp (setp V (b + pl) (pPut (V (b + pl)) t 3 q sd ch)) (b + x / 32) (pChange (V (b + x / 32)) (x % 32) 2 (-1) (-1) (pl * 32 + t)))))
def AwayP (V : VT) (b x c q sd ch r : Int) (V' : VT) : Prop :=
  (cellB 1 q ≤ pRoom (V (b + x / 32)) + pBytes (V (b + x / 32)) (x % 32) ∧ r = 1 ∧ ∃ n, rm9 (V (b + c / 32)) (c % 32) n ∧ V' = setp (setp V (b + x / 32) (pChange (V (b + x / 32)) (x % 32) 1 q sd ch)) (b + c / 32) (pRem (V (b + c / 32)) (c % 32) n)) ∨
  (¬ cellB 1 q ≤ pRoom (V (b + x / 32)) + pBytes (V (b + x / 32)) (x % 32) ∧ cellB 3 q ≤ pRoom (V (b + c / 32)) + pBytes (V (b + c / 32)) (c % 32) ∧ r = 1 ∧ V' = setp V (b + c / 32) (pChange (V (b + c / 32)) (c % 32) 3 q sd ch)) ∨
  (¬ cellB 1 q ≤ pRoom (V (b + x / 32)) + pBytes (V (b + x / 32)) (x % 32) ∧ ¬ cellB 3 q ≤ pRoom (V (b + c / 32)) + pBytes (V (b + c / 32)) (c % 32) ∧ ∃ pl, isPl V b (cellB 3 q + 4) (x / 32) (c / 32) pl ∧
    ((pl = -1 ∧ r = 0 ∧ V' = V) ∨
     (pl ≠ -1 ∧ r = 1 ∧ ∃ t n, pEmpty (V (b + pl)) t ∧ rm9 (V (b + c / 32)) (c % 32) n ∧ V' = setp (setp (setp V (b + pl) (pPut (V (b + pl)) t 3 q sd ch)) (b + c / 32) (pRem (V (b + c / 32)) (c % 32) n)) (b + x / 32) (pChange (V (b + x / 32)) (x % 32) 2 (-1) (-1) (pl * 32 + t)))))
def ChgP (V : VT) (b x q sd : Int) (L0 : List Int) (r : Int) (V' : VT) : Prop :=
  (¬ chP q ≤ cntK (kd V b) 0 96 ∧ r = 0 ∧ V' = V) ∨
  (chP q ≤ cntK (kd V b) 0 96 ∧ ∃ V1, ((vcel V b x = x ∧ HomeP (tcN b V q (chP q).toNat).1 b x q sd (tcN b V q (chP q).toNat).2.1 r V1) ∨ (vcel V b x ≠ x ∧ AwayP (tcN b V q (chP q).toNat).1 b x (vcel V b x) q sd (tcN b V q (chP q).toNat).2.1 r V1)) ∧
    ((r = 1 ∧ V' = freeL V1 b L0) ∨ (r = 0 ∧ ∃ L, isCh (nx V1 b) L (tcN b V q (chP q).toNat).2.1 ∧ V' = freeL V1 b L)))
def RemP (V : VT) (b x : Int) (L0 : List Int) (V' : VT) : Prop :=
  (vcel V b x = x ∧ ∃ n, rm9 (V (b + x / 32)) (x % 32) n ∧ V' = setp (freeL V b L0) (b + x / 32) (pRem (V (b + x / 32)) (x % 32) n)) ∨
  (vcel V b x ≠ x ∧ ∃ n n', rm9 (V (b + vcel V b x / 32)) (vcel V b x % 32) n ∧ rm9 (V (b + x / 32)) (x % 32) n' ∧ V' = setp (setp (freeL V b L0) (b + vcel V b x / 32) (pRem (V (b + vcel V b x / 32)) (vcel V b x % 32) n)) (b + x / 32) (pRem (V (b + x / 32)) (x % 32) n'))
set_option maxHeartbeats 4000000 in
set_option maxRecDepth 100000 in
theorem c_X2_addRecord (l : Launch) (D : va_G) (cy : ClassId × ClassId) (g : GT) (V : VT) (a : Nat) (b : Int) (q sd : Int) (hap : Apart g) (hS : isSt g a b) (hI : SI V b) (hn : 0 ≤ q ∧ q ≤ 1200) : MetI l yX2_addRecord cX2_addRecord 5 (some .int) 3 D cy g [.ref a, vI q, vI sd] V (fun r V' => AddP V b q sd r V') := by
  obtain ⟨⟨ob, hob⟩, ps, hps, hq, hpgs⟩ := id hS
  have hc := chP_bd hn
  have hcb := cellB_bd (k := 1) (len := q) ⟨by omega, hn.2⟩
  refine MetI.of (by decide) (Nat.le_of_ble_eq_true rfl) hap ?_
  intro p_ e_ s_ m_ args_ below_ meth_ c_ C
  refine g_aload_n C 0 rfl dX2_addRecord_0 ?_
  refine g_iload_n C 1 rfl dX2_addRecord_1 ?_
  refine g_callI C [vI q] [] (c_X2_hasPagesForChain l D cy g V a b q hap hS (SI_swf hI) hn) lm_X2_46 (rcv_Store hob) rfl (Nat.le_of_ble_eq_true rfl) ⟨(Nat.le_of_ble_eq_true rfl), (Nat.le_of_ble_eq_true rfl)⟩ ⟨Nat.zero_le _, Nat.zero_le _⟩ dX2_addRecord_2 ?_
  rintro _ V1 ⟨rfl, hV1⟩
  refine g_V hV1 ?_
  clear hV1 V1
  refine g_if_ne C (by split <;> exact ⟨by decide, by decide⟩) 10 dX2_addRecord_5 (by decide) (fun c5 => ?_) (fun c5 => ?_)
  · have hen : chP q ≤ cntK (kd V b) 0 96 := by
      by_cases hh : chP q ≤ cntK (kd V b) 0 96
      · exact hh
      · exfalso; rw [if_neg hh] at c5; exact c5 rfl
    have hSI := tc_SI (len := q) hI (chP q).toNat (by omega) (chP q).toNat (Nat.le_refl _)
    obtain ⟨L, l1, l2, l3, l4, l5, l6, -⟩ := tc_chain (len := q) (SI_swf hI) (chP q).toNat (by omega) (chP q).toNat (Nat.le_refl _)
    have hfr := isCh_rng l2
    refine g_aload_n C 0 rfl dX2_addRecord_10 ?_
    refine g_iload_n C 1 rfl dX2_addRecord_11 ?_
    refine g_callI C [vI q] [] (c_X2_takeChain l D cy g V a b q hap hS (SI_swf hI) hn hen) lm_X2_49 (rcv_Store hob) rfl (Nat.le_of_ble_eq_true rfl) ⟨(Nat.le_of_ble_eq_true rfl), (Nat.le_of_ble_eq_true rfl)⟩ ⟨Nat.zero_le _, Nat.zero_le _⟩ dX2_addRecord_12 ?_
    rintro _ V1 ⟨rfl, hV1⟩
    refine g_V hV1 ?_
    clear hV1 V1
    generalize hTe : tcN b V q (chP q).toNat = T at *
    refine g_istore_n C [(3, vI T.2.1), (0, .ref a), (1, vI q), (2, vI sd)] dX2_addRecord_15 rfl (by decide) rfl ?_
    refine g_aload_n C 1 rfl dX2_addRecord_16 ?_
    refine g_iconst C 1 rfl dX2_addRecord_17 ?_
    refine g_iload_n C 2 rfl dX2_addRecord_18 ?_
    refine g_callNI C [vI 1, vI q] [.ref a] (c_X3_cellBytes l D cy g _ 1 q hap (by omega) (by omega)) lm_X2_52 rfl (Nat.le_of_ble_eq_true rfl) ⟨(Nat.le_of_ble_eq_true rfl), (Nat.le_of_ble_eq_true rfl)⟩ ⟨Nat.zero_le _, Nat.zero_le _⟩ dX2_addRecord_19 ?_
    rintro _ V1 ⟨rfl, hV1⟩
    refine g_V hV1 ?_
    clear hV1 V1
    refine g_iconst C (-1) rfl dX2_addRecord_22 ?_
    refine g_iconst C (-1) rfl dX2_addRecord_23 ?_
    refine g_callI C [vI (cellB 1 q), vI ((-1)), vI ((-1))] [] (c_X2_placeFor l D cy g T.1 a b (cellB 1 q) (-1) (-1) hap hS (SI_swf hSI) (SI_room hSI) (by omega) (by omega) (by omega)) lm_X2_56 (rcv_Store hob) rfl (Nat.le_of_ble_eq_true rfl) ⟨(Nat.le_of_ble_eq_true rfl), (Nat.le_of_ble_eq_true rfl)⟩ ⟨Nat.zero_le _, Nat.zero_le _⟩ dX2_addRecord_24 ?_
    rintro pl V1 ⟨hpl, hV1⟩
    refine g_V hV1 ?_
    clear hV1 V1
    have hok := isPl_ok hSI (by omega) hpl
    have hpl9 : -1 ≤ pl ∧ pl < 96 := by rcases hok with k | ⟨k, -⟩ <;> omega
    refine g_istore C [(4, vI pl), (3, vI T.2.1), (0, .ref a), (1, vI q), (2, vI sd)] dX2_addRecord_27 (by decide) rfl ?_
    refine g_iload C 0 rfl dX2_addRecord_29 ?_
    refine g_iconst C (-1) rfl dX2_addRecord_31 ?_
    refine g_icmp_ne C (by unfold rng; omega) (by unfold rng; omega) 42 dX2_addRecord_32 (by decide) (fun c32 => ?_) (fun c32 => ?_)
    · have hok2 : (0 ≤ pl ∧ pl < 96) ∧ cellB 1 q + 4 ≤ pRoom (T.1 (b + pl)) ∧ (T.1 (b + pl) 0 0 = 0 ∨ (T.1 (b + pl) 0 0 = 1 ∧ pl ≠ -1 ∧ pl ≠ -1)) := hok.resolve_left c32
      have hPI := hSI pl hok2.1.1 hok2.1.2
      refine g_iload C 0 rfl dX2_addRecord_42 ?_
      refine g_bipush C 32 rfl dX2_addRecord_44 ?_
      refine g_imul C dX2_addRecord_46 ?_
      refine g_aload_n C 2 rfl dX2_addRecord_47 ?_
      refine gf_Store_pages C hob hps lf_X2_11 dX2_addRecord_48 ?_
      refine g_iload C 0 rfl dX2_addRecord_51 ?_
      obtain ⟨pg1, pg1e, pg1h⟩ := hpgs pl (by omega) (by omega)
      obtain ⟨-, pg1r1, pg1r2, pg1r3, pg1r4, ⟨pg1hr1, pg1ha1⟩, ⟨pg1hr2, pg1ha2⟩, ⟨pg1hr3, pg1ha3⟩, ⟨pg1hr4, pg1ha4⟩⟩ := id pg1h
      refine g_aald C hq ⟨by omega, by omega⟩ (by decide) pg1e dX2_addRecord_53 ?_
      refine g_iconst C 1 rfl dX2_addRecord_54 ?_
      refine g_iload_n C 3 rfl dX2_addRecord_55 ?_
      refine g_iload_n C 4 rfl dX2_addRecord_56 ?_
      refine g_iload_n C 1 rfl dX2_addRecord_57 ?_
      refine g_callI C [vI 1, vI q, vI sd, vI T.2.1] [vI (pl * 32)] (cv_X1_put l D cy g T.1 pg1 _ 1 q sd T.2.1 hap pg1h (PI_pwf hPI) (by omega) (by omega) (fun r hr => PI_slot hPI hr)) lm_X2_64 (rcv_Page pg1h.1) rfl (Nat.le_of_ble_eq_true rfl) ⟨(Nat.le_of_ble_eq_true rfl), (Nat.le_of_ble_eq_true rfl)⟩ ⟨Nat.zero_le _, Nat.zero_le _⟩ dX2_addRecord_58 ?_
      rintro t V2 ⟨ht, hV2⟩
      refine g_iadd C dX2_addRecord_61 ?_
      exact g_iret C dX2_addRecord_62 (Or.inr ⟨hen, pl, by rw [hTe]; exact hpl, Or.inr ⟨c32, t, by rw [hTe]; exact ht, rfl, by rw [hTe]; exact hV2⟩⟩)
    · refine g_aload_n C 2 rfl dX2_addRecord_35 ?_
      refine g_iload_n C 1 rfl dX2_addRecord_36 ?_
      refine g_callV C [vI T.2.1] [] (c_X2_freeChain l D cy g T.1 a b T.2.1 L hap hS (SI_swf hSI) (by omega) l2 (by omega)) lm_X2_60 (rcv_Store hob) rfl (Nat.le_of_ble_eq_true rfl) ⟨(Nat.le_of_ble_eq_true rfl), (Nat.le_of_ble_eq_true rfl)⟩ ⟨Nat.zero_le _, Nat.zero_le _⟩ dX2_addRecord_37 ?_
      rintro V2 hV2
      refine g_iconst C (-1) rfl dX2_addRecord_40 ?_
      exact g_iret C dX2_addRecord_41 (Or.inr ⟨hen, pl, by rw [hTe]; exact hpl, Or.inl ⟨c32, rfl, L, by rw [hTe]; exact l2, by rw [hTe]; exact hV2⟩⟩)
  · refine g_iconst C (-1) rfl dX2_addRecord_8 ?_
    refine g_iret C dX2_addRecord_9 (Or.inl ⟨?_, rfl, rfl⟩)
    intro hh; rw [if_pos hh] at c5; exact absurd c5 (by decide)
set_option maxHeartbeats 4000000 in
set_option maxRecDepth 100000 in
theorem c_X2_changeAtHome (l : Launch) (D : va_G) (cy : ClassId × ClassId) (g : GT) (V : VT) (a : Nat) (b : Int) (x q sd ch : Int) (hap : Apart g) (hS : isSt g a b) (hI : SI V b) (hx : 0 ≤ x ∧ x < 3072) (hn : 0 ≤ q ∧ q ≤ 1200) (hk1 : V (b + x / 32) 0 0 = 1) : MetI l yX2_changeAtHome cX2_changeAtHome 9 (some .boolean) 3 D cy g [.ref a, vI x, vI q, vI sd, vI ch] V (fun r V' => HomeP V b x q sd ch r V') := by
  obtain ⟨⟨ob, hob⟩, ps, hps, hq, hpgs⟩ := id hS
  have hcb := cellB_bd (k := 1) (len := q) ⟨by omega, hn.2⟩
  have hcb3 := cellB_bd (k := 3) (len := q) ⟨by omega, hn.2⟩
  have hH := hI (x / 32) (by omega) (by omega)
  refine MetI.of (by decide) (Nat.le_of_ble_eq_true rfl) hap ?_
  intro p_ e_ s_ m_ args_ below_ meth_ c_ C
  refine g_aload_n C 0 rfl dX2_changeAtHome_0 ?_
  refine gf_Store_pages C hob hps lf_X2_11 dX2_changeAtHome_1 ?_
  refine g_iload_n C 1 rfl dX2_changeAtHome_4 ?_
  refine g_bipush C 32 rfl dX2_changeAtHome_5 ?_
  refine g_idiv C (by omega) (by omega) dX2_changeAtHome_7 ?_
  obtain ⟨pg1, pg1e, pg1h⟩ := hpgs (x / 32) (by omega) (by omega)
  obtain ⟨-, pg1r1, pg1r2, pg1r3, pg1r4, ⟨pg1hr1, pg1ha1⟩, ⟨pg1hr2, pg1ha2⟩, ⟨pg1hr3, pg1ha3⟩, ⟨pg1hr4, pg1ha4⟩⟩ := id pg1h
  refine g_aald C hq ⟨by omega, by omega⟩ (by decide) pg1e dX2_changeAtHome_8 ?_
  refine g_astore C [(5, .ref pg1), (0, .ref a), (1, vI x), (2, vI q), (3, vI sd), (4, vI ch)] dX2_changeAtHome_9 (by decide) rfl ?_
  refine g_iload_n C 2 rfl dX2_changeAtHome_11 ?_
  refine g_bipush C 32 rfl dX2_changeAtHome_12 ?_
  refine g_irem C (by omega) (by omega) dX2_changeAtHome_14 ?_
  refine g_istore C [(6, vI (x % 32)), (5, .ref pg1), (0, .ref a), (1, vI x), (2, vI q), (3, vI sd), (4, vI ch)] dX2_changeAtHome_15 (by decide) rfl ?_
  refine g_aload C 1 rfl dX2_changeAtHome_17 ?_
  refine g_iload C 0 rfl dX2_changeAtHome_19 ?_
  refine g_iconst C 1 rfl dX2_changeAtHome_21 ?_
  refine g_iload_n C 4 rfl dX2_changeAtHome_22 ?_
  refine g_callNI C [vI 1, vI q] [vI (x % 32), .ref pg1] (c_X3_cellBytes l D cy g _ 1 q hap (by omega) (by omega)) lm_X2_52 rfl (Nat.le_of_ble_eq_true rfl) ⟨(Nat.le_of_ble_eq_true rfl), (Nat.le_of_ble_eq_true rfl)⟩ ⟨Nat.zero_le _, Nat.zero_le _⟩ dX2_changeAtHome_23 ?_
  rintro _ V1 ⟨rfl, hV1⟩
  refine g_V hV1 ?_
  clear hV1 V1
  refine g_callI C [vI (x % 32), vI (cellB 1 q)] [] (cv_X1_hasRoomInstead l D cy g V pg1 _ (x % 32) (cellB 1 q) hap pg1h (by omega) (PI_pwf hH) (by unfold sm; omega)) lm_X2_81 (rcv_Page pg1h.1) rfl (Nat.le_of_ble_eq_true rfl) ⟨(Nat.le_of_ble_eq_true rfl), (Nat.le_of_ble_eq_true rfl)⟩ ⟨Nat.zero_le _, Nat.zero_le _⟩ dX2_changeAtHome_26 ?_
  rintro _ V1 ⟨rfl, hV1⟩
  refine g_V hV1 ?_
  clear hV1 V1
  refine g_if_eq C (by split <;> exact ⟨by decide, by decide⟩) 46 dX2_changeAtHome_29 (by decide) (fun c29 => ?_) (fun c29 => ?_)
  · have hA : ¬ cellB 1 q ≤ pRoom (V (b + x / 32)) + pBytes (V (b + x / 32)) (x % 32) := by
      intro hh; rw [if_pos hh] at c29; exact absurd c29 (by decide)
    refine g_aload_n C 2 rfl dX2_changeAtHome_46 ?_
    refine g_iconst C 3 rfl dX2_changeAtHome_47 ?_
    refine g_iload_n C 4 rfl dX2_changeAtHome_48 ?_
    refine g_callNI C [vI 3, vI q] [.ref a] (c_X3_cellBytes l D cy g _ 3 q hap (by omega) (by omega)) lm_X2_52 rfl (Nat.le_of_ble_eq_true rfl) ⟨(Nat.le_of_ble_eq_true rfl), (Nat.le_of_ble_eq_true rfl)⟩ ⟨Nat.zero_le _, Nat.zero_le _⟩ dX2_changeAtHome_49 ?_
    rintro _ V1 ⟨rfl, hV1⟩
    refine g_V hV1 ?_
    clear hV1 V1
    refine g_iload_n C 3 rfl dX2_changeAtHome_52 ?_
    refine g_bipush C 32 rfl dX2_changeAtHome_53 ?_
    refine g_idiv C (by omega) (by omega) dX2_changeAtHome_55 ?_
    refine g_iconst C (-1) rfl dX2_changeAtHome_56 ?_
    refine g_callI C [vI (cellB 3 q), vI (x / 32), vI ((-1))] [] (c_X2_placeFor l D cy g V a b (cellB 3 q) (x / 32) (-1) hap hS (SI_swf hI) (SI_room hI) (by omega) (by omega) (by omega)) lm_X2_56 (rcv_Store hob) rfl (Nat.le_of_ble_eq_true rfl) ⟨(Nat.le_of_ble_eq_true rfl), (Nat.le_of_ble_eq_true rfl)⟩ ⟨Nat.zero_le _, Nat.zero_le _⟩ dX2_changeAtHome_57 ?_
    rintro pl V1 ⟨hpl, hV1⟩
    refine g_V hV1 ?_
    clear hV1 V1
    have hok := isPl_ok hI (by omega) hpl
    have hpl9 : -1 ≤ pl ∧ pl < 96 := by rcases hok with k | ⟨k, -⟩ <;> omega
    refine g_istore C [(7, vI pl), (6, vI (x % 32)), (5, .ref pg1), (0, .ref a), (1, vI x), (2, vI q), (3, vI sd), (4, vI ch)] dX2_changeAtHome_60 (by decide) rfl ?_
    refine g_iload C 0 rfl dX2_changeAtHome_62 ?_
    refine g_iconst C (-1) rfl dX2_changeAtHome_64 ?_
    refine g_icmp_ne C (by unfold rng; omega) (by unfold rng; omega) 70 dX2_changeAtHome_65 (by decide) (fun c65 => ?_) (fun c65 => ?_)
    · have hok2 := hok.resolve_left c65
      have hPI := hI pl hok2.1.1 hok2.1.2
      have hne : pl ≠ x / 32 := by
        rcases hok2.2.2 with k | k
        · intro e; rw [e] at k; omega
        · exact k.2.1
      refine g_iload C 0 rfl dX2_changeAtHome_70 ?_
      refine g_bipush C 32 rfl dX2_changeAtHome_72 ?_
      refine g_imul C dX2_changeAtHome_74 ?_
      refine g_aload_n C 3 rfl dX2_changeAtHome_75 ?_
      refine gf_Store_pages C hob hps lf_X2_11 dX2_changeAtHome_76 ?_
      refine g_iload C 0 rfl dX2_changeAtHome_79 ?_
      obtain ⟨pg2, pg2e, pg2h⟩ := hpgs pl (by omega) (by omega)
      obtain ⟨-, pg2r1, pg2r2, pg2r3, pg2r4, ⟨pg2hr1, pg2ha1⟩, ⟨pg2hr2, pg2ha2⟩, ⟨pg2hr3, pg2ha3⟩, ⟨pg2hr4, pg2ha4⟩⟩ := id pg2h
      refine g_aald C hq ⟨by omega, by omega⟩ (by decide) pg2e dX2_changeAtHome_81 ?_
      refine g_iconst C 3 rfl dX2_changeAtHome_82 ?_
      refine g_iload_n C 5 rfl dX2_changeAtHome_83 ?_
      refine g_iload_n C 6 rfl dX2_changeAtHome_84 ?_
      refine g_iload C 7 rfl dX2_changeAtHome_85 ?_
      refine g_callI C [vI 3, vI q, vI sd, vI ch] [vI (pl * 32)] (cv_X1_put l D cy g V pg2 _ 3 q sd ch hap pg2h (PI_pwf hPI) (by omega) (by omega) (fun r hr => PI_slot hPI hr)) lm_X2_64 (rcv_Page pg2h.1) rfl (Nat.le_of_ble_eq_true rfl) ⟨(Nat.le_of_ble_eq_true rfl), (Nat.le_of_ble_eq_true rfl)⟩ ⟨Nat.zero_le _, Nat.zero_le _⟩ dX2_changeAtHome_87 ?_
      rintro t V2 ⟨ht, hV2⟩
      have ht9 := PI_slot hPI ht
      have ht8 := ht.1.1
      have he2 : V2 (b + x / 32) = V (b + x / 32) := by rw [hV2, setp_ne (by omega)]
      refine g_iadd C dX2_changeAtHome_90 ?_
      refine g_istore C [(8, vI ((pl * 32) + t)), (7, vI pl), (6, vI (x % 32)), (5, .ref pg1), (0, .ref a), (1, vI x), (2, vI q), (3, vI sd), (4, vI ch)] dX2_changeAtHome_91 (by decide) rfl ?_
      refine g_aload C 3 rfl dX2_changeAtHome_93 ?_
      refine g_iload C 2 rfl dX2_changeAtHome_95 ?_
      refine g_iconst C 2 rfl dX2_changeAtHome_97 ?_
      refine g_iconst C (-1) rfl dX2_changeAtHome_98 ?_
      refine g_iconst C (-1) rfl dX2_changeAtHome_99 ?_
      refine g_iload C 0 rfl dX2_changeAtHome_100 ?_
      refine g_callV C [vI (x % 32), vI 2, vI ((-1)), vI ((-1)), vI ((pl * 32) + t)] [] (cv_X1_change l D cy g V2 pg1 _ (x % 32) 2 ((-1)) ((-1)) ((pl * 32) + t) hap pg1h (by rw [he2]; exact PI_pwf hH) (by rw [he2]; exact PI_erase hH (by omega)) (by omega) (by omega) (by omega)) lm_X2_85 (rcv_Page pg1h.1) rfl (Nat.le_of_ble_eq_true rfl) ⟨(Nat.le_of_ble_eq_true rfl), (Nat.le_of_ble_eq_true rfl)⟩ ⟨Nat.zero_le _, Nat.zero_le _⟩ dX2_changeAtHome_102 ?_
      rintro V3 hV3
      refine g_iconst C 1 rfl dX2_changeAtHome_105 ?_
      refine g_zret C (by omega) dX2_changeAtHome_106 (Or.inr ⟨hA, pl, hpl, Or.inr ⟨c65, rfl, t, ht, ?_⟩⟩)
      rw [hV3, he2, hV2]
    · refine g_iconst C 0 rfl dX2_changeAtHome_68 ?_
      exact g_zret C (by omega) dX2_changeAtHome_69 (Or.inr ⟨hA, pl, hpl, Or.inl ⟨c65, rfl, rfl⟩⟩)
  · have hA : cellB 1 q ≤ pRoom (V (b + x / 32)) + pBytes (V (b + x / 32)) (x % 32) := by
      by_cases hh : cellB 1 q ≤ pRoom (V (b + x / 32)) + pBytes (V (b + x / 32)) (x % 32)
      · exact hh
      · exfalso; rw [if_neg hh] at c29; exact c29 rfl
    refine g_aload C 1 rfl dX2_changeAtHome_32 ?_
    refine g_iload C 0 rfl dX2_changeAtHome_34 ?_
    refine g_iconst C 1 rfl dX2_changeAtHome_36 ?_
    refine g_iload_n C 4 rfl dX2_changeAtHome_37 ?_
    refine g_iload_n C 5 rfl dX2_changeAtHome_38 ?_
    refine g_iload C 6 rfl dX2_changeAtHome_39 ?_
    refine g_callV C [vI (x % 32), vI 1, vI q, vI sd, vI ch] [] (cv_X1_change l D cy g V pg1 _ (x % 32) 1 q sd ch hap pg1h (PI_pwf hH) (PI_erase hH (by omega)) (by omega) (by omega) (by omega)) lm_X2_85 (rcv_Page pg1h.1) rfl (Nat.le_of_ble_eq_true rfl) ⟨(Nat.le_of_ble_eq_true rfl), (Nat.le_of_ble_eq_true rfl)⟩ ⟨Nat.zero_le _, Nat.zero_le _⟩ dX2_changeAtHome_41 ?_
    rintro V3 hV3
    refine g_iconst C 1 rfl dX2_changeAtHome_44 ?_
    exact g_zret C (by omega) dX2_changeAtHome_45 (Or.inl ⟨hA, rfl, hV3⟩)
set_option maxHeartbeats 4000000 in
set_option maxRecDepth 100000 in
theorem c_X2_changeAway (l : Launch) (D : va_G) (cy : ClassId × ClassId) (g : GT) (V : VT) (a : Nat) (b : Int) (x q sd ch c : Int) (hap : Apart g) (hS : isSt g a b) (hI : SI V b) (hx : 0 ≤ x ∧ x < 3072) (hn : 0 ≤ q ∧ q ≤ 1200) (hk1 : V (b + x / 32) 0 0 = 1) (hc : V (b + x / 32) 4 (x % 32) = c) (hc9 : 0 ≤ c ∧ c < 3072) (hcx : c / 32 ≠ x / 32) (hk2 : V (b + c / 32) 0 0 = 1) : MetI l yX2_changeAway cX2_changeAway 12 (some .boolean) 3 D cy g [.ref a, vI x, vI q, vI sd, vI ch] V (fun r V' => AwayP V b x c q sd ch r V') := by
  obtain ⟨⟨ob, hob⟩, ps, hps, hq, hpgs⟩ := id hS
  have hcb := cellB_bd (k := 1) (len := q) ⟨by omega, hn.2⟩
  have hcb3 := cellB_bd (k := 3) (len := q) ⟨by omega, hn.2⟩
  have hH := hI (x / 32) (by omega) (by omega)
  have hA9 := hI (c / 32) (by omega) (by omega)
  refine MetI.of (by decide) (Nat.le_of_ble_eq_true rfl) hap ?_
  intro p_ e_ s_ m_ args_ below_ meth_ c_ C
  refine g_aload_n C 0 rfl dX2_changeAway_0 ?_
  refine gf_Store_pages C hob hps lf_X2_11 dX2_changeAway_1 ?_
  refine g_iload_n C 1 rfl dX2_changeAway_4 ?_
  refine g_bipush C 32 rfl dX2_changeAway_5 ?_
  refine g_idiv C (by omega) (by omega) dX2_changeAway_7 ?_
  obtain ⟨pg1, pg1e, pg1h⟩ := hpgs (x / 32) (by omega) (by omega)
  obtain ⟨-, pg1r1, pg1r2, pg1r3, pg1r4, ⟨pg1hr1, pg1ha1⟩, ⟨pg1hr2, pg1ha2⟩, ⟨pg1hr3, pg1ha3⟩, ⟨pg1hr4, pg1ha4⟩⟩ := id pg1h
  refine g_aald C hq ⟨by omega, by omega⟩ (by decide) pg1e dX2_changeAway_8 ?_
  refine g_astore C [(5, .ref pg1), (0, .ref a), (1, vI x), (2, vI q), (3, vI sd), (4, vI ch)] dX2_changeAway_9 (by decide) rfl ?_
  refine g_iload_n C 2 rfl dX2_changeAway_11 ?_
  refine g_bipush C 32 rfl dX2_changeAway_12 ?_
  refine g_irem C (by omega) (by omega) dX2_changeAway_14 ?_
  refine g_istore C [(6, vI (x % 32)), (5, .ref pg1), (0, .ref a), (1, vI x), (2, vI q), (3, vI sd), (4, vI ch)] dX2_changeAway_15 (by decide) rfl ?_
  refine g_aload C 1 rfl dX2_changeAway_17 ?_
  refine gfN_Page_links C pg1h.1 pg1hr4 lf_X2_34 dX2_changeAway_19 ?_
  refine g_iload C 0 rfl dX2_changeAway_22 ?_
  refine g_iald C pg1ha4 (by omega) (by decide) dX2_changeAway_24 ?_
  refine g_istore C [(7, vI (V (b + (x / 32)) 4 (x % 32))), (6, vI (x % 32)), (5, .ref pg1), (0, .ref a), (1, vI x), (2, vI q), (3, vI sd), (4, vI ch)] dX2_changeAway_25 (by decide) rfl ?_
  rw [hc]
  refine g_aload_n C 3 rfl dX2_changeAway_27 ?_
  refine gf_Store_pages C hob hps lf_X2_11 dX2_changeAway_28 ?_
  refine g_iload C 0 rfl dX2_changeAway_31 ?_
  refine g_bipush C 32 rfl dX2_changeAway_33 ?_
  refine g_idiv C (by omega) (by omega) dX2_changeAway_35 ?_
  obtain ⟨pg2, pg2e, pg2h⟩ := hpgs (c / 32) (by omega) (by omega)
  obtain ⟨-, pg2r1, pg2r2, pg2r3, pg2r4, ⟨pg2hr1, pg2ha1⟩, ⟨pg2hr2, pg2ha2⟩, ⟨pg2hr3, pg2ha3⟩, ⟨pg2hr4, pg2ha4⟩⟩ := id pg2h
  refine g_aald C hq ⟨by omega, by omega⟩ (by decide) pg2e dX2_changeAway_36 ?_
  refine g_astore C [(8, .ref pg2), (7, vI c), (6, vI (x % 32)), (5, .ref pg1), (0, .ref a), (1, vI x), (2, vI q), (3, vI sd), (4, vI ch)] dX2_changeAway_37 (by decide) rfl ?_
  refine g_iload C 1 rfl dX2_changeAway_39 ?_
  refine g_bipush C 32 rfl dX2_changeAway_41 ?_
  refine g_irem C (by omega) (by omega) dX2_changeAway_43 ?_
  refine g_istore C [(9, vI (c % 32)), (8, .ref pg2), (7, vI c), (6, vI (x % 32)), (5, .ref pg1), (0, .ref a), (1, vI x), (2, vI q), (3, vI sd), (4, vI ch)] dX2_changeAway_44 (by decide) rfl ?_
  refine g_aload C 4 rfl dX2_changeAway_46 ?_
  refine g_iload C 3 rfl dX2_changeAway_48 ?_
  refine g_iconst C 1 rfl dX2_changeAway_50 ?_
  refine g_iload_n C 7 rfl dX2_changeAway_51 ?_
  refine g_callNI C [vI 1, vI q] [vI (x % 32), .ref pg1] (c_X3_cellBytes l D cy g _ 1 q hap (by omega) (by omega)) lm_X2_52 rfl (Nat.le_of_ble_eq_true rfl) ⟨(Nat.le_of_ble_eq_true rfl), (Nat.le_of_ble_eq_true rfl)⟩ ⟨Nat.zero_le _, Nat.zero_le _⟩ dX2_changeAway_52 ?_
  rintro _ V1 ⟨rfl, hV1⟩
  refine g_V hV1 ?_
  clear hV1 V1
  refine g_callI C [vI (x % 32), vI (cellB 1 q)] [] (cv_X1_hasRoomInstead l D cy g V pg1 _ (x % 32) (cellB 1 q) hap pg1h (by omega) (PI_pwf hH) (by unfold sm; omega)) lm_X2_81 (rcv_Page pg1h.1) rfl (Nat.le_of_ble_eq_true rfl) ⟨(Nat.le_of_ble_eq_true rfl), (Nat.le_of_ble_eq_true rfl)⟩ ⟨Nat.zero_le _, Nat.zero_le _⟩ dX2_changeAway_55 ?_
  rintro _ V1 ⟨rfl, hV1⟩
  refine g_V hV1 ?_
  clear hV1 V1
  refine g_if_eq C (by split <;> exact ⟨by decide, by decide⟩) 82 dX2_changeAway_58 (by decide) (fun c58 => ?_) (fun c58 => ?_)
  · have hA : ¬ cellB 1 q ≤ pRoom (V (b + x / 32)) + pBytes (V (b + x / 32)) (x % 32) := by
      intro hh; rw [if_pos hh] at c58; exact absurd c58 (by decide)
    refine g_aload C 1 rfl dX2_changeAway_82 ?_
    refine g_iload C 0 rfl dX2_changeAway_84 ?_
    refine g_iconst C 3 rfl dX2_changeAway_86 ?_
    refine g_iload_n C 7 rfl dX2_changeAway_87 ?_
    refine g_callNI C [vI 3, vI q] [vI (c % 32), .ref pg2] (c_X3_cellBytes l D cy g _ 3 q hap (by omega) (by omega)) lm_X2_52 rfl (Nat.le_of_ble_eq_true rfl) ⟨(Nat.le_of_ble_eq_true rfl), (Nat.le_of_ble_eq_true rfl)⟩ ⟨Nat.zero_le _, Nat.zero_le _⟩ dX2_changeAway_88 ?_
    rintro _ V1 ⟨rfl, hV1⟩
    refine g_V hV1 ?_
    clear hV1 V1
    refine g_callI C [vI (c % 32), vI (cellB 3 q)] [] (cv_X1_hasRoomInstead l D cy g V pg2 _ (c % 32) (cellB 3 q) hap pg2h (by omega) (PI_pwf hA9) (by unfold sm; omega)) lm_X2_81 (rcv_Page pg2h.1) rfl (Nat.le_of_ble_eq_true rfl) ⟨(Nat.le_of_ble_eq_true rfl), (Nat.le_of_ble_eq_true rfl)⟩ ⟨Nat.zero_le _, Nat.zero_le _⟩ dX2_changeAway_91 ?_
    rintro _ V1 ⟨rfl, hV1⟩
    refine g_V hV1 ?_
    clear hV1 V1
    refine g_if_eq C (by split <;> exact ⟨by decide, by decide⟩) 111 dX2_changeAway_94 (by decide) (fun c94 => ?_) (fun c94 => ?_)
    · have hB : ¬ cellB 3 q ≤ pRoom (V (b + c / 32)) + pBytes (V (b + c / 32)) (c % 32) := by
        intro hh; rw [if_pos hh] at c94; exact absurd c94 (by decide)
      refine g_aload_n C 5 rfl dX2_changeAway_111 ?_
      refine g_iconst C 3 rfl dX2_changeAway_112 ?_
      refine g_iload_n C 7 rfl dX2_changeAway_113 ?_
      refine g_callNI C [vI 3, vI q] [.ref a] (c_X3_cellBytes l D cy g _ 3 q hap (by omega) (by omega)) lm_X2_52 rfl (Nat.le_of_ble_eq_true rfl) ⟨(Nat.le_of_ble_eq_true rfl), (Nat.le_of_ble_eq_true rfl)⟩ ⟨Nat.zero_le _, Nat.zero_le _⟩ dX2_changeAway_114 ?_
      rintro _ V1 ⟨rfl, hV1⟩
      refine g_V hV1 ?_
      clear hV1 V1
      refine g_iload_n C 6 rfl dX2_changeAway_117 ?_
      refine g_bipush C 32 rfl dX2_changeAway_118 ?_
      refine g_idiv C (by omega) (by omega) dX2_changeAway_120 ?_
      refine g_iload C 2 rfl dX2_changeAway_121 ?_
      refine g_bipush C 32 rfl dX2_changeAway_123 ?_
      refine g_idiv C (by omega) (by omega) dX2_changeAway_125 ?_
      refine g_callI C [vI (cellB 3 q), vI (x / 32), vI (c / 32)] [] (c_X2_placeFor l D cy g V a b (cellB 3 q) (x / 32) (c / 32) hap hS (SI_swf hI) (SI_room hI) (by omega) (by omega) (by omega)) lm_X2_56 (rcv_Store hob) rfl (Nat.le_of_ble_eq_true rfl) ⟨(Nat.le_of_ble_eq_true rfl), (Nat.le_of_ble_eq_true rfl)⟩ ⟨Nat.zero_le _, Nat.zero_le _⟩ dX2_changeAway_126 ?_
      rintro pl V1 ⟨hpl, hV1⟩
      refine g_V hV1 ?_
      clear hV1 V1
      have hok := isPl_ok hI (by omega) hpl
      have hpl9 : -1 ≤ pl ∧ pl < 96 := by rcases hok with k | ⟨k, -⟩ <;> omega
      refine g_istore C [(10, vI pl), (9, vI (c % 32)), (8, .ref pg2), (7, vI c), (6, vI (x % 32)), (5, .ref pg1), (0, .ref a), (1, vI x), (2, vI q), (3, vI sd), (4, vI ch)] dX2_changeAway_129 (by decide) rfl ?_
      refine g_iload C 0 rfl dX2_changeAway_131 ?_
      refine g_iconst C (-1) rfl dX2_changeAway_133 ?_
      refine g_icmp_ne C (by unfold rng; omega) (by unfold rng; omega) 139 dX2_changeAway_134 (by decide) (fun c134 => ?_) (fun c134 => ?_)
      · have hok2 := hok.resolve_left c134
        have hPI := hI pl hok2.1.1 hok2.1.2
        have hne : pl ≠ x / 32 ∧ pl ≠ c / 32 := by
          rcases hok2.2.2 with k | k
          · exact ⟨fun e => by rw [e] at k; omega, fun e => by rw [e] at k; omega⟩
          · exact k.2
        refine g_iload C 0 rfl dX2_changeAway_139 ?_
        refine g_bipush C 32 rfl dX2_changeAway_141 ?_
        refine g_imul C dX2_changeAway_143 ?_
        refine g_aload_n C 6 rfl dX2_changeAway_144 ?_
        refine gf_Store_pages C hob hps lf_X2_11 dX2_changeAway_145 ?_
        refine g_iload C 0 rfl dX2_changeAway_148 ?_
        obtain ⟨pg3, pg3e, pg3h⟩ := hpgs pl (by omega) (by omega)
        obtain ⟨-, pg3r1, pg3r2, pg3r3, pg3r4, ⟨pg3hr1, pg3ha1⟩, ⟨pg3hr2, pg3ha2⟩, ⟨pg3hr3, pg3ha3⟩, ⟨pg3hr4, pg3ha4⟩⟩ := id pg3h
        refine g_aald C hq ⟨by omega, by omega⟩ (by decide) pg3e dX2_changeAway_150 ?_
        refine g_iconst C 3 rfl dX2_changeAway_151 ?_
        refine g_iload_n C 8 rfl dX2_changeAway_152 ?_
        refine g_iload_n C 9 rfl dX2_changeAway_153 ?_
        refine g_iload C 10 rfl dX2_changeAway_154 ?_
        refine g_callI C [vI 3, vI q, vI sd, vI ch] [vI (pl * 32)] (cv_X1_put l D cy g V pg3 _ 3 q sd ch hap pg3h (PI_pwf hPI) (by omega) (by omega) (fun r hr => PI_slot hPI hr)) lm_X2_64 (rcv_Page pg3h.1) rfl (Nat.le_of_ble_eq_true rfl) ⟨(Nat.le_of_ble_eq_true rfl), (Nat.le_of_ble_eq_true rfl)⟩ ⟨Nat.zero_le _, Nat.zero_le _⟩ dX2_changeAway_156 ?_
        rintro t V2 ⟨ht, hV2⟩
        have ht9 := PI_slot hPI ht
        have ht8 := ht.1.1
        have he2c : V2 (b + c / 32) = V (b + c / 32) := by rw [hV2, setp_ne (by omega)]
        refine g_iadd C dX2_changeAway_159 ?_
        refine g_istore C [(11, vI ((pl * 32) + t)), (10, vI pl), (9, vI (c % 32)), (8, .ref pg2), (7, vI c), (6, vI (x % 32)), (5, .ref pg1), (0, .ref a), (1, vI x), (2, vI q), (3, vI sd), (4, vI ch)] dX2_changeAway_160 (by decide) rfl ?_
        refine g_aload C 3 rfl dX2_changeAway_162 ?_
        refine g_iload C 2 rfl dX2_changeAway_164 ?_
        refine g_callV C [vI (c % 32)] [] (cv_X1_remove l D cy g V2 pg2 _ (c % 32) hap pg2h (by rw [he2c]; exact PI_pwf hA9) (by omega)) lm_X2_78 (rcv_Page pg2h.1) rfl (Nat.le_of_ble_eq_true rfl) ⟨(Nat.le_of_ble_eq_true rfl), (Nat.le_of_ble_eq_true rfl)⟩ ⟨Nat.zero_le _, Nat.zero_le _⟩ dX2_changeAway_166 ?_
        rintro V4 ⟨n9, hn9, hV4⟩
        rw [he2c] at hn9 hV4
        have he4 : V4 (b + x / 32) = V (b + x / 32) := by rw [hV4, setp_ne (by omega), hV2, setp_ne (by omega)]
        refine g_aload C 6 rfl dX2_changeAway_169 ?_
        refine g_iload C 5 rfl dX2_changeAway_171 ?_
        refine g_iconst C 2 rfl dX2_changeAway_173 ?_
        refine g_iconst C (-1) rfl dX2_changeAway_174 ?_
        refine g_iconst C (-1) rfl dX2_changeAway_175 ?_
        refine g_iload C 0 rfl dX2_changeAway_176 ?_
        refine g_callV C [vI (x % 32), vI 2, vI ((-1)), vI ((-1)), vI ((pl * 32) + t)] [] (cv_X1_change l D cy g V4 pg1 _ (x % 32) 2 ((-1)) ((-1)) ((pl * 32) + t) hap pg1h (by rw [he4]; exact PI_pwf hH) (by rw [he4]; exact PI_erase hH (by omega)) (by omega) (by omega) (by omega)) lm_X2_85 (rcv_Page pg1h.1) rfl (Nat.le_of_ble_eq_true rfl) ⟨(Nat.le_of_ble_eq_true rfl), (Nat.le_of_ble_eq_true rfl)⟩ ⟨Nat.zero_le _, Nat.zero_le _⟩ dX2_changeAway_178 ?_
        rintro V3 hV3
        refine g_iconst C 1 rfl dX2_changeAway_181 ?_
        refine g_zret C (by omega) dX2_changeAway_182 (Or.inr (Or.inr ⟨hA, hB, pl, hpl, Or.inr ⟨c134, rfl, t, n9, ht, hn9, ?_⟩⟩))
        rw [hV3, he4, hV4, hV2]
      · refine g_iconst C 0 rfl dX2_changeAway_137 ?_
        exact g_zret C (by omega) dX2_changeAway_138 (Or.inr (Or.inr ⟨hA, hB, pl, hpl, Or.inl ⟨c134, rfl, rfl⟩⟩))
    · have hB : cellB 3 q ≤ pRoom (V (b + c / 32)) + pBytes (V (b + c / 32)) (c % 32) := by
        by_cases hh : cellB 3 q ≤ pRoom (V (b + c / 32)) + pBytes (V (b + c / 32)) (c % 32)
        · exact hh
        · exfalso; rw [if_neg hh] at c94; exact c94 rfl
      refine g_aload C 1 rfl dX2_changeAway_97 ?_
      refine g_iload C 0 rfl dX2_changeAway_99 ?_
      refine g_iconst C 3 rfl dX2_changeAway_101 ?_
      refine g_iload_n C 7 rfl dX2_changeAway_102 ?_
      refine g_iload_n C 8 rfl dX2_changeAway_103 ?_
      refine g_iload C 9 rfl dX2_changeAway_104 ?_
      refine g_callV C [vI (c % 32), vI 3, vI q, vI sd, vI ch] [] (cv_X1_change l D cy g V pg2 _ (c % 32) 3 q sd ch hap pg2h (PI_pwf hA9) (PI_erase hA9 (by omega)) (by omega) (by omega) (by omega)) lm_X2_85 (rcv_Page pg2h.1) rfl (Nat.le_of_ble_eq_true rfl) ⟨(Nat.le_of_ble_eq_true rfl), (Nat.le_of_ble_eq_true rfl)⟩ ⟨Nat.zero_le _, Nat.zero_le _⟩ dX2_changeAway_106 ?_
      rintro V3 hV3
      refine g_iconst C 1 rfl dX2_changeAway_109 ?_
      exact g_zret C (by omega) dX2_changeAway_110 (Or.inr (Or.inl ⟨hA, hB, rfl, hV3⟩))
  · have hA : cellB 1 q ≤ pRoom (V (b + x / 32)) + pBytes (V (b + x / 32)) (x % 32) := by
      by_cases hh : cellB 1 q ≤ pRoom (V (b + x / 32)) + pBytes (V (b + x / 32)) (x % 32)
      · exact hh
      · exfalso; rw [if_neg hh] at c58; exact c58 rfl
    refine g_aload C 4 rfl dX2_changeAway_61 ?_
    refine g_iload C 3 rfl dX2_changeAway_63 ?_
    refine g_iconst C 1 rfl dX2_changeAway_65 ?_
    refine g_iload_n C 7 rfl dX2_changeAway_66 ?_
    refine g_iload_n C 8 rfl dX2_changeAway_67 ?_
    refine g_iload C 9 rfl dX2_changeAway_68 ?_
    refine g_callV C [vI (x % 32), vI 1, vI q, vI sd, vI ch] [] (cv_X1_change l D cy g V pg1 _ (x % 32) 1 q sd ch hap pg1h (PI_pwf hH) (PI_erase hH (by omega)) (by omega) (by omega) (by omega)) lm_X2_85 (rcv_Page pg1h.1) rfl (Nat.le_of_ble_eq_true rfl) ⟨(Nat.le_of_ble_eq_true rfl), (Nat.le_of_ble_eq_true rfl)⟩ ⟨Nat.zero_le _, Nat.zero_le _⟩ dX2_changeAway_70 ?_
    rintro V3 hV3
    have he3 : V3 (b + c / 32) = V (b + c / 32) := by rw [hV3, setp_ne (by omega)]
    refine g_aload C 1 rfl dX2_changeAway_73 ?_
    refine g_iload C 0 rfl dX2_changeAway_75 ?_
    refine g_callV C [vI (c % 32)] [] (cv_X1_remove l D cy g V3 pg2 _ (c % 32) hap pg2h (by rw [he3]; exact PI_pwf hA9) (by omega)) lm_X2_78 (rcv_Page pg2h.1) rfl (Nat.le_of_ble_eq_true rfl) ⟨(Nat.le_of_ble_eq_true rfl), (Nat.le_of_ble_eq_true rfl)⟩ ⟨Nat.zero_le _, Nat.zero_le _⟩ dX2_changeAway_77 ?_
    rintro V4 ⟨n9, hn9, hV4⟩
    rw [he3] at hn9 hV4
    refine g_iconst C 1 rfl dX2_changeAway_80 ?_
    refine g_zret C (by omega) dX2_changeAway_81 (Or.inl ⟨hA, rfl, n9, hn9, ?_⟩)
    rw [hV4, hV3]
end
section
theorem HomeP_ok {V V' : VT} {b x q sd ch r : Int} (hI : SI V b) (hx : 0 ≤ x ∧ x < 3072) (hn : 0 ≤ q ∧ q ≤ 1200) (h0 : V (b + x / 32) 1 (x % 32) ≠ 0) (h : HomeP V b x q sd ch r V') : SI V' b ∧ nx V' b = nx V b ∧ (r = 0 ∨ r = 1) ∧ (r = 0 → V' = V) := by
  have hH := hI (x / 32) (by omega) (by omega)
  have hpb : 5 ≤ pBytes (V (b + x / 32)) (x % 32) := (cellB_bd (k := V (b + x / 32) 1 (x % 32)) (hH.1 (x % 32) (by omega) (by omega)).2.1).1
  have hcb3 := cellB_bd (k := 3) (len := q) ⟨by omega, hn.2⟩
  have hrm := PI_room hH
  rcases h with ⟨h1, rfl, rfl⟩ | ⟨h1, pl, h2, ⟨rfl, rfl, rfl⟩ | ⟨h3, rfl, t, h4, rfl⟩⟩
  · exact ⟨SI_setp hI (PI_change hH (by omega) h0 (by omega) ⟨by omega, by omega⟩ h1), nx_setp (pChange_f _ _ _ _ _ _).2.2.2.2.2.2.1, Or.inr rfl, fun q => absurd q (by decide)⟩
  · exact ⟨hI, rfl, Or.inl rfl, fun _ => rfl⟩
  · have hok := (isPl_ok hI (by omega) h2).resolve_left h3
    have hP := hI pl hok.1.1 hok.1.2
    have hne : pl ≠ x / 32 := by
      rcases hok.2.2 with k | k
      · intro e
        rw [e] at k
        have := (hH.2.2.2.2.2.1.2.2 (by omega)).1
        have hz := sumF_zero (F := cef (V (b + x / 32))) (n := 32) (fun i _ _ => by unfold cef; split <;> omega) (by have := hH.2.2.1; omega) (x % 32) (by omega) (by omega)
        unfold cef at hz
        rw [if_neg h0] at hz
        exact absurd hz (by decide)
      · exact k.2.1
    have e1 : setp V (b + pl) (pPut (V (b + pl)) t 3 q sd ch) (b + x / 32) = V (b + x / 32) := setp_ne (by omega)
    have s1 : SI (setp V (b + pl) (pPut (V (b + pl)) t 3 q sd ch)) b := SI_setp hI (PI_put hP h4 (by omega) hn hok.2.1 (by omega))
    refine ⟨SI_setp s1 (PI_change hH (by omega) h0 (by omega) ⟨by omega, by omega⟩ (by rw [show cellB 2 (-1) = 5 by decide]; omega)), ?_, Or.inr rfl, fun q => absurd q (by decide)⟩
    rw [nx_setp (by rw [e1]; exact (pChange_f _ _ _ _ _ _).2.2.2.2.2.2.1), nx_setp (pPut_f _ _ _ _ _ _ h4.1).2.2.2.2.2.2.1]
theorem AwayP_ok {V V' : VT} {b x c q sd ch r : Int} (hI : SI V b) (hx : 0 ≤ x ∧ x < 3072) (hc : 0 ≤ c ∧ c < 3072) (hcx : c / 32 ≠ x / 32) (hn : 0 ≤ q ∧ q ≤ 1200) (h0 : V (b + x / 32) 1 (x % 32) ≠ 0) (hk2 : V (b + x / 32) 0 0 = 1) (hk3 : V (b + c / 32) 0 0 = 1) (h0c : V (b + c / 32) 1 (c % 32) ≠ 0) (h : AwayP V b x c q sd ch r V') : SI V' b ∧ nx V' b = nx V b ∧ (r = 0 ∨ r = 1) ∧ (r = 0 → V' = V) := by
  have hH := hI (x / 32) (by omega) (by omega)
  have hA := hI (c / 32) (by omega) (by omega)
  have hpb : 5 ≤ pBytes (V (b + x / 32)) (x % 32) := (cellB_bd (k := V (b + x / 32) 1 (x % 32)) (hH.1 (x % 32) (by omega) (by omega)).2.1).1
  have hcb3 := cellB_bd (k := 3) (len := q) ⟨by omega, hn.2⟩
  have hrm := PI_room hH
  have h25 : cellB 2 (-1) = 5 := by decide
  rcases h with ⟨h1, rfl, n, h2, rfl⟩ | ⟨h1, h2, rfl, rfl⟩ | ⟨h1, h2, pl, h3, ⟨rfl, rfl, rfl⟩ | ⟨h4, rfl, t, n, h5, h6, rfl⟩⟩
  · have s1 : SI (setp V (b + x / 32) (pChange (V (b + x / 32)) (x % 32) 1 q sd ch)) b := SI_setp hI (PI_change hH (by omega) h0 (by omega) ⟨by omega, by omega⟩ h1)
    have e1 : setp V (b + x / 32) (pChange (V (b + x / 32)) (x % 32) 1 q sd ch) (b + c / 32) = V (b + c / 32) := setp_ne (by omega)
    refine ⟨SI_setp s1 (PI_rem hA (by omega) h0c h2), ?_, Or.inr rfl, fun q => absurd q (by decide)⟩
    rw [nx_setp (by rw [e1]; exact (pRem_f _ _ _).2.2.2.2.2.2.1), nx_setp (pChange_f _ _ _ _ _ _).2.2.2.2.2.2.1]
  · exact ⟨SI_setp hI (PI_change hA (by omega) h0c (by omega) ⟨by omega, by omega⟩ h2), nx_setp (pChange_f _ _ _ _ _ _).2.2.2.2.2.2.1, Or.inr rfl, fun q => absurd q (by decide)⟩
  · exact ⟨hI, rfl, Or.inl rfl, fun _ => rfl⟩
  · have hok := (isPl_ok hI (by omega) h3).resolve_left h4
    have hP := hI pl hok.1.1 hok.1.2
    have hne : pl ≠ x / 32 ∧ pl ≠ c / 32 := by
      rcases hok.2.2 with k | k
      · exact ⟨fun e => by rw [e] at k; omega, fun e => by rw [e] at k; omega⟩
      · exact k.2
    have s1 : SI (setp V (b + pl) (pPut (V (b + pl)) t 3 q sd ch)) b := SI_setp hI (PI_put hP h5 (by omega) hn hok.2.1 (by omega))
    have e1 : setp V (b + pl) (pPut (V (b + pl)) t 3 q sd ch) (b + c / 32) = V (b + c / 32) := setp_ne (by omega)
    have s2 : SI (setp (setp V (b + pl) (pPut (V (b + pl)) t 3 q sd ch)) (b + c / 32) (pRem (V (b + c / 32)) (c % 32) n)) b := SI_setp s1 (PI_rem hA (by omega) h0c h6)
    have e2 : setp (setp V (b + pl) (pPut (V (b + pl)) t 3 q sd ch)) (b + c / 32) (pRem (V (b + c / 32)) (c % 32) n) (b + x / 32) = V (b + x / 32) := by rw [setp_ne (by omega), setp_ne (by omega)]
    refine ⟨SI_setp s2 (PI_change hH (by omega) h0 (by omega) ⟨by omega, by omega⟩ (by omega)), ?_, Or.inr rfl, fun q => absurd q (by decide)⟩
    rw [nx_setp (by rw [e2]; exact (pChange_f _ _ _ _ _ _).2.2.2.2.2.2.1), nx_setp (by rw [e1]; exact (pRem_f _ _ _).2.2.2.2.2.2.1), nx_setp (pPut_f _ _ _ _ _ _ h5.1).2.2.2.2.2.2.1]
/-- what a record is, for its changes: its cell, its chain -/
def recOK (V : VT) (b x : Int) (L0 : List Int) : Prop :=
  (0 ≤ x ∧ x < 3072) ∧ V (b + x / 32) 0 0 = 1 ∧ (V (b + x / 32) 1 (x % 32) = 1 ∨ V (b + x / 32) 1 (x % 32) = 2) ∧ (V (b + x / 32) 1 (x % 32) = 2 → (0 ≤ V (b + x / 32) 4 (x % 32) ∧ V (b + x / 32) 4 (x % 32) < 3072) ∧ V (b + x / 32) 4 (x % 32) / 32 ≠ x / 32 ∧ V (b + V (b + x / 32) 4 (x % 32) / 32) 0 0 = 1 ∧ V (b + V (b + x / 32) 4 (x % 32) / 32) 1 (V (b + x / 32) 4 (x % 32) % 32) ≠ 0) ∧
  isCh (nx V b) L0 (V (b + vcel V b x / 32) 4 (vcel V b x % 32)) ∧ (∀ p ∈ L0, kd V b p = 2) ∧ L0.length ≤ 96
theorem recOK_vc {V : VT} {b x : Int} {L0 : List Int} (h : recOK V b x L0) : (0 ≤ vcel V b x ∧ vcel V b x < 3072) ∧ V (b + vcel V b x / 32) 0 0 = 1 ∧ V (b + vcel V b x / 32) 1 (vcel V b x % 32) ≠ 0 ∧ (vcel V b x = x ∨ (vcel V b x / 32 ≠ x / 32 ∧ vcel V b x = V (b + x / 32) 4 (x % 32))) := by
  obtain ⟨h1, h2, h3, h4, h5, h6, h7⟩ := h
  unfold vcel
  by_cases hk : V (b + x / 32) 1 (x % 32) = 2
  · rw [if_pos hk]
    obtain ⟨k1, k2, k3, k4⟩ := h4 hk
    exact ⟨k1, k3, k4, Or.inr ⟨k2, rfl⟩⟩
  · rw [if_neg hk]
    exact ⟨h1, h2, by omega, Or.inl rfl⟩
set_option maxHeartbeats 4000000 in
set_option maxRecDepth 100000 in
theorem c_X2_changeRecord (l : Launch) (D : va_G) (cy : ClassId × ClassId) (g : GT) (V : VT) (a : Nat) (b : Int) (x q sd : Int) (L0 : List Int) (hap : Apart g) (hS : isSt g a b) (hI : SI V b) (hn : 0 ≤ q ∧ q ≤ 1200) (hR : recOK V b x L0) : MetI l yX2_changeRecord cX2_changeRecord 7 (some .boolean) 4 D cy g [.ref a, vI x, vI q, vI sd] V (fun r V' => ChgP V b x q sd L0 r V') := by
  obtain ⟨⟨ob, hob⟩, ps, hps, hq, hpgs⟩ := id hS
  obtain ⟨hx, hk1, hkx, hst9, hL0, hL2, hLn⟩ := id hR
  obtain ⟨hvc, hvk, hvn, hvx⟩ := recOK_vc hR
  have hc := chP_bd hn
  refine MetI.of (by decide) (Nat.le_of_ble_eq_true rfl) hap ?_
  intro p_ e_ s_ m_ args_ below_ meth_ c_ C
  refine g_aload_n C 0 rfl dX2_changeRecord_0 ?_
  refine g_iload_n C 2 rfl dX2_changeRecord_1 ?_
  refine g_callI C [vI q] [] (c_X2_hasPagesForChain l D cy g V a b q hap hS (SI_swf hI) hn) lm_X2_46 (rcv_Store hob) rfl (Nat.le_of_ble_eq_true rfl) ⟨(Nat.le_of_ble_eq_true rfl), (Nat.le_of_ble_eq_true rfl)⟩ ⟨Nat.zero_le _, Nat.zero_le _⟩ dX2_changeRecord_2 ?_
  rintro _ V1 ⟨rfl, hV1⟩
  refine g_V hV1 ?_
  clear hV1 V1
  refine g_if_ne C (by split <;> exact ⟨by decide, by decide⟩) 10 dX2_changeRecord_5 (by decide) (fun c5 => ?_) (fun c5 => ?_)
  · have hen : chP q ≤ cntK (kd V b) 0 96 := by
      by_cases hh : chP q ≤ cntK (kd V b) 0 96
      · exact hh
      · exfalso; rw [if_neg hh] at c5; exact c5 rfl
    have hSI := tc_SI (len := q) hI (chP q).toNat (by omega) (chP q).toNat (Nat.le_refl _)
    obtain ⟨L, l1, l2, l3, l4, l5, l6, -⟩ := tc_chain (len := q) (SI_swf hI) (chP q).toNat (by omega) (chP q).toNat (Nat.le_refl _)
    have hfr := isCh_rng l2
    have hfr0 := isCh_rng hL0
    have hpg : ∀ i, kd V b i ≠ 0 → (tcN b V q (chP q).toNat).1 (b + i) = V (b + i) := fun i hi => l5 (b + i) (fun p hp e => hi ((show p = i by omega) ▸ (l3 p hp).2.1))
    have hpx := hpg (x / 32) (by simp only [kd]; omega)
    have hpc := hpg (vcel V b x / 32) (by simp only [kd]; omega)
    have hvT : vcel (tcN b V q (chP q).toNat).1 b x = vcel V b x := by unfold vcel; rw [hpx]
    have hnL : ∀ p ∈ L0, nx (tcN b V q (chP q).toNat).1 b p = nx V b p := fun p hp => by simp only [nx]; rw [hpg p (by rw [hL2 p hp]; decide)]
    refine g_aload_n C 0 rfl dX2_changeRecord_10 ?_
    refine g_iload_n C 1 rfl dX2_changeRecord_11 ?_
    refine g_callI C [vI x] [] (c_X2_chainOf l D cy g V a b x hap hS (SI_swf hI) hx hvc) lm_X2_68 (rcv_Store hob) rfl (Nat.le_of_ble_eq_true rfl) ⟨(Nat.le_of_ble_eq_true rfl), (Nat.le_of_ble_eq_true rfl)⟩ ⟨Nat.zero_le _, Nat.zero_le _⟩ dX2_changeRecord_12 ?_
    rintro _ V1 ⟨rfl, hV1⟩
    refine g_V hV1 ?_
    clear hV1 V1
    generalize hoe : V (b + vcel V b x / 32) 4 (vcel V b x % 32) = old at *
    refine g_istore C [(4, vI old), (0, .ref a), (1, vI x), (2, vI q), (3, vI sd)] dX2_changeRecord_15 (by decide) rfl ?_
    refine g_aload_n C 1 rfl dX2_changeRecord_17 ?_
    refine g_iload_n C 3 rfl dX2_changeRecord_18 ?_
    refine g_callI C [vI q] [] (c_X2_takeChain l D cy g V a b q hap hS (SI_swf hI) hn hen) lm_X2_49 (rcv_Store hob) rfl (Nat.le_of_ble_eq_true rfl) ⟨(Nat.le_of_ble_eq_true rfl), (Nat.le_of_ble_eq_true rfl)⟩ ⟨Nat.zero_le _, Nat.zero_le _⟩ dX2_changeRecord_19 ?_
    rintro _ V1 ⟨rfl, hV1⟩
    refine g_V hV1 ?_
    clear hV1 V1
    generalize hTe : tcN b V q (chP q).toNat = T at *
    refine g_istore C [(5, vI T.2.1), (4, vI old), (0, .ref a), (1, vI x), (2, vI q), (3, vI sd)] dX2_changeRecord_22 (by decide) rfl ?_
    refine g_aload_n C 2 rfl dX2_changeRecord_24 ?_
    refine g_iload_n C 3 rfl dX2_changeRecord_25 ?_
    refine g_callI C [vI x] [] (c_X2_valueCell l D cy g T.1 a b x hap hS (SI_swf hSI) hx) lm_X2_37 (rcv_Store hob) rfl (Nat.le_of_ble_eq_true rfl) ⟨(Nat.le_of_ble_eq_true rfl), (Nat.le_of_ble_eq_true rfl)⟩ ⟨Nat.zero_le _, Nat.zero_le _⟩ dX2_changeRecord_26 ?_
    rintro _ V1 ⟨rfl, hV1⟩
    refine g_V hV1 ?_
    clear hV1 V1
    rw [hvT]
    refine g_iload_n C 3 rfl dX2_changeRecord_29 ?_
    refine g_icmp_ne C (by unfold rng; omega) (by unfold rng; omega) 45 dX2_changeRecord_30 (by decide) (fun c30 => ?_) (fun c30 => ?_)
    · refine g_aload_n C 2 rfl dX2_changeRecord_45 ?_
      refine g_iload_n C 3 rfl dX2_changeRecord_46 ?_
      refine g_iload_n C 4 rfl dX2_changeRecord_47 ?_
      refine g_iload_n C 5 rfl dX2_changeRecord_48 ?_
      refine g_iload C 0 rfl dX2_changeRecord_49 ?_
      refine g_callI C [vI x, vI q, vI sd, vI T.2.1] [] (c_X2_changeAway l D cy g T.1 a b x q sd T.2.1 (vcel V b x) hap hS hSI hx hn (by rw [hpx]; exact hk1) (by rw [hpx]; exact (hvx.resolve_left c30).2.symm) hvc (hvx.resolve_left c30).1 (by rw [hpc]; exact hvk)) lm_X2_75 (rcv_Store hob) rfl (Nat.le_of_ble_eq_true rfl) ⟨(Nat.le_of_ble_eq_true rfl), (Nat.le_of_ble_eq_true rfl)⟩ ⟨Nat.zero_le _, Nat.zero_le _⟩ dX2_changeRecord_51 ?_
      rintro r1 V2 hP
      obtain ⟨o1, o2, o3, o4⟩ := AwayP_ok hSI hx hvc (hvx.resolve_left c30).1 hn (by rw [hpx]; omega) (by rw [hpx]; exact hk1) (by rw [hpc]; exact hvk) (by rw [hpc]; exact hvn) hP
      have hnV : isCh (nx V2 b) L0 old := by rw [o2]; exact isCh_congr hnL hL0
      have hpp : (vcel V b x = x ∧ HomeP T.1 b x q sd T.2.1 r1 V2) ∨ (vcel V b x ≠ x ∧ AwayP T.1 b x (vcel V b x) q sd T.2.1 r1 V2) := Or.inr ⟨c30, hP⟩
      refine g_istore C [(6, vI r1), (5, vI T.2.1), (4, vI old), (0, .ref a), (1, vI x), (2, vI q), (3, vI sd)] dX2_changeRecord_54 (by decide) rfl ?_
      refine g_aload_n C 3 rfl dX2_changeRecord_56 ?_
      refine g_iload C 0 rfl dX2_changeRecord_57 ?_
      refine g_if_eq C (by unfold rng; omega) 67 dX2_changeRecord_59 (by decide) (fun c59 => ?_) (fun c59 => ?_)
      · refine g_iload C 1 rfl dX2_changeRecord_67 ?_
        refine g_callV C [vI T.2.1] [] (c_X2_freeChain l D cy g V2 a b T.2.1 L hap hS (SI_swf o1) (by omega) (by rw [o2]; exact l2) (by omega)) lm_X2_60 (rcv_Store hob) rfl (Nat.le_of_ble_eq_true rfl) ⟨(Nat.le_of_ble_eq_true rfl), (Nat.le_of_ble_eq_true rfl)⟩ ⟨Nat.zero_le _, Nat.zero_le _⟩ dX2_changeRecord_69 ?_
        rintro V3 hV3
        refine g_iload C 0 rfl dX2_changeRecord_72 ?_
        exact g_zret C o3 dX2_changeRecord_74 (Or.inr ⟨hen, V2, by rw [hTe]; exact hpp, Or.inr ⟨by omega, L, by rw [hTe, o2]; exact l2, hV3⟩⟩)
      · refine g_iload C 2 rfl dX2_changeRecord_62 ?_
        refine g_goto C 69 dX2_changeRecord_64 (by decide) ?_
        refine g_callV C [vI old] [] (c_X2_freeChain l D cy g V2 a b old L0 hap hS (SI_swf o1) (by omega) hnV hLn) lm_X2_60 (rcv_Store hob) rfl (Nat.le_of_ble_eq_true rfl) ⟨(Nat.le_of_ble_eq_true rfl), (Nat.le_of_ble_eq_true rfl)⟩ ⟨Nat.zero_le _, Nat.zero_le _⟩ dX2_changeRecord_69 ?_
        rintro V3 hV3
        refine g_iload C 0 rfl dX2_changeRecord_72 ?_
        exact g_zret C o3 dX2_changeRecord_74 (Or.inr ⟨hen, V2, by rw [hTe]; exact hpp, Or.inl ⟨by omega, hV3⟩⟩)
    · refine g_aload_n C 2 rfl dX2_changeRecord_33 ?_
      refine g_iload_n C 3 rfl dX2_changeRecord_34 ?_
      refine g_iload_n C 4 rfl dX2_changeRecord_35 ?_
      refine g_iload_n C 5 rfl dX2_changeRecord_36 ?_
      refine g_iload C 0 rfl dX2_changeRecord_37 ?_
      refine g_callI C [vI x, vI q, vI sd, vI T.2.1] [] (c_X2_changeAtHome l D cy g T.1 a b x q sd T.2.1 hap hS hSI hx hn (by rw [hpx]; exact hk1)) lm_X2_71 (rcv_Store hob) rfl (Nat.le_of_ble_eq_true rfl) ⟨(Nat.le_of_ble_eq_true rfl), (Nat.le_of_ble_eq_true rfl)⟩ ⟨Nat.zero_le _, Nat.zero_le _⟩ dX2_changeRecord_39 ?_
      rintro r1 V2 hP
      obtain ⟨o1, o2, o3, o4⟩ := HomeP_ok hSI hx hn (by rw [hpx]; omega) hP
      have hnV : isCh (nx V2 b) L0 old := by rw [o2]; exact isCh_congr hnL hL0
      have hpp : (vcel V b x = x ∧ HomeP T.1 b x q sd T.2.1 r1 V2) ∨ (vcel V b x ≠ x ∧ AwayP T.1 b x (vcel V b x) q sd T.2.1 r1 V2) := Or.inl ⟨c30, hP⟩
      refine g_goto C 54 dX2_changeRecord_42 (by decide) ?_
      refine g_istore C [(6, vI r1), (5, vI T.2.1), (4, vI old), (0, .ref a), (1, vI x), (2, vI q), (3, vI sd)] dX2_changeRecord_54 (by decide) rfl ?_
      refine g_aload_n C 3 rfl dX2_changeRecord_56 ?_
      refine g_iload C 0 rfl dX2_changeRecord_57 ?_
      refine g_if_eq C (by unfold rng; omega) 67 dX2_changeRecord_59 (by decide) (fun c59 => ?_) (fun c59 => ?_)
      · refine g_iload C 1 rfl dX2_changeRecord_67 ?_
        refine g_callV C [vI T.2.1] [] (c_X2_freeChain l D cy g V2 a b T.2.1 L hap hS (SI_swf o1) (by omega) (by rw [o2]; exact l2) (by omega)) lm_X2_60 (rcv_Store hob) rfl (Nat.le_of_ble_eq_true rfl) ⟨(Nat.le_of_ble_eq_true rfl), (Nat.le_of_ble_eq_true rfl)⟩ ⟨Nat.zero_le _, Nat.zero_le _⟩ dX2_changeRecord_69 ?_
        rintro V3 hV3
        refine g_iload C 0 rfl dX2_changeRecord_72 ?_
        exact g_zret C o3 dX2_changeRecord_74 (Or.inr ⟨hen, V2, by rw [hTe]; exact hpp, Or.inr ⟨by omega, L, by rw [hTe, o2]; exact l2, hV3⟩⟩)
      · refine g_iload C 2 rfl dX2_changeRecord_62 ?_
        refine g_goto C 69 dX2_changeRecord_64 (by decide) ?_
        refine g_callV C [vI old] [] (c_X2_freeChain l D cy g V2 a b old L0 hap hS (SI_swf o1) (by omega) hnV hLn) lm_X2_60 (rcv_Store hob) rfl (Nat.le_of_ble_eq_true rfl) ⟨(Nat.le_of_ble_eq_true rfl), (Nat.le_of_ble_eq_true rfl)⟩ ⟨Nat.zero_le _, Nat.zero_le _⟩ dX2_changeRecord_69 ?_
        rintro V3 hV3
        refine g_iload C 0 rfl dX2_changeRecord_72 ?_
        exact g_zret C o3 dX2_changeRecord_74 (Or.inr ⟨hen, V2, by rw [hTe]; exact hpp, Or.inl ⟨by omega, hV3⟩⟩)
  · refine g_iconst C 0 rfl dX2_changeRecord_8 ?_
    refine g_zret C (by omega) dX2_changeRecord_9 (Or.inl ⟨?_, rfl, rfl⟩)
    intro hh; rw [if_pos hh] at c5; exact absurd c5 (by decide)
set_option maxHeartbeats 4000000 in
set_option maxRecDepth 100000 in
theorem c_X2_removeRecord (l : Launch) (D : va_G) (cy : ClassId × ClassId) (g : GT) (V : VT) (a : Nat) (b : Int) (x : Int) (L0 : List Int) (hap : Apart g) (hS : isSt g a b) (hI : SI V b) (hR : recOK V b x L0) : MetV l yX2_removeRecord cX2_removeRecord 3 none 3 D cy g [.ref a, vI x] V (fun V' => RemP V b x L0 V') := by
  obtain ⟨⟨ob, hob⟩, ps, hps, hq, hpgs⟩ := id hS
  obtain ⟨hx, hk1, hkx, hst9, hL0, hL2, hLn⟩ := id hR
  obtain ⟨hvc, hvk, hvn, hvx⟩ := recOK_vc hR
  have hfr0 := isCh_rng hL0
  have hH := hI (x / 32) (by omega) (by omega)
  have hA9 := hI (vcel V b x / 32) (by omega) (by omega)
  refine MetV.of (by decide) (Nat.le_of_ble_eq_true rfl) hap ?_
  intro p_ e_ s_ m_ args_ below_ meth_ c_ C
  refine g_aload_n C 0 rfl dX2_removeRecord_0 ?_
  refine g_iload_n C 1 rfl dX2_removeRecord_1 ?_
  refine g_callI C [vI x] [] (c_X2_valueCell l D cy g V a b x hap hS (SI_swf hI) hx) lm_X2_37 (rcv_Store hob) rfl (Nat.le_of_ble_eq_true rfl) ⟨(Nat.le_of_ble_eq_true rfl), (Nat.le_of_ble_eq_true rfl)⟩ ⟨Nat.zero_le _, Nat.zero_le _⟩ dX2_removeRecord_2 ?_
  rintro _ V1 ⟨rfl, hV1⟩
  refine g_V hV1 ?_
  clear hV1 V1
  refine g_istore_n C [(2, vI (vcel V b x)), (0, .ref a), (1, vI x)] dX2_removeRecord_5 rfl (by decide) rfl ?_
  refine g_aload_n C 1 rfl dX2_removeRecord_6 ?_
  refine g_aload_n C 1 rfl dX2_removeRecord_7 ?_
  refine g_iload_n C 2 rfl dX2_removeRecord_8 ?_
  refine g_callI C [vI x] [.ref a] (c_X2_chainOf l D cy g V a b x hap hS (SI_swf hI) hx hvc) lm_X2_68 (rcv_Store hob) rfl (Nat.le_of_ble_eq_true rfl) ⟨(Nat.le_of_ble_eq_true rfl), (Nat.le_of_ble_eq_true rfl)⟩ ⟨Nat.zero_le _, Nat.zero_le _⟩ dX2_removeRecord_9 ?_
  rintro _ V1 ⟨rfl, hV1⟩
  refine g_V hV1 ?_
  clear hV1 V1
  refine g_callV C [vI (V (b + vcel V b x / 32) 4 (vcel V b x % 32))] [] (c_X2_freeChain l D cy g V a b _ L0 hap hS (SI_swf hI) (by omega) hL0 hLn) lm_X2_60 (rcv_Store hob) rfl (Nat.le_of_ble_eq_true rfl) ⟨(Nat.le_of_ble_eq_true rfl), (Nat.le_of_ble_eq_true rfl)⟩ ⟨Nat.zero_le _, Nat.zero_le _⟩ dX2_removeRecord_12 ?_
  rintro V2 hV2
  have hpx : V2 (b + x / 32) = V (b + x / 32) := by rw [hV2]; exact freeL_out (fun p hp e => by have h2 := hL2 p hp; rw [show p = x / 32 by omega] at h2; simp only [kd] at h2; omega)
  have hpc : V2 (b + vcel V b x / 32) = V (b + vcel V b x / 32) := by rw [hV2]; exact freeL_out (fun p hp e => by have h2 := hL2 p hp; rw [show p = vcel V b x / 32 by omega] at h2; simp only [kd] at h2; omega)
  refine g_iload_n C 0 rfl dX2_removeRecord_15 ?_
  refine g_iload_n C 2 rfl dX2_removeRecord_16 ?_
  refine g_icmp_eq C (by unfold rng; omega) (by unfold rng; omega) 36 dX2_removeRecord_17 (by decide) (fun c17 => ?_) (fun c17 => ?_)
  · refine g_aload_n C 1 rfl dX2_removeRecord_36 ?_
    refine gf_Store_pages C hob hps lf_X2_11 dX2_removeRecord_37 ?_
    refine g_iload_n C 2 rfl dX2_removeRecord_40 ?_
    refine g_bipush C 32 rfl dX2_removeRecord_41 ?_
    refine g_idiv C (by omega) (by omega) dX2_removeRecord_43 ?_
    obtain ⟨pg1, pg1e, pg1h⟩ := hpgs (x / 32) (by omega) (by omega)
    obtain ⟨-, pg1r1, pg1r2, pg1r3, pg1r4, ⟨pg1hr1, pg1ha1⟩, ⟨pg1hr2, pg1ha2⟩, ⟨pg1hr3, pg1ha3⟩, ⟨pg1hr4, pg1ha4⟩⟩ := id pg1h
    refine g_aald C hq ⟨by omega, by omega⟩ (by decide) pg1e dX2_removeRecord_44 ?_
    refine g_iload_n C 2 rfl dX2_removeRecord_45 ?_
    refine g_bipush C 32 rfl dX2_removeRecord_46 ?_
    refine g_irem C (by omega) (by omega) dX2_removeRecord_48 ?_
    refine g_callV C [vI (x % 32)] [] (cv_X1_remove l D cy g V2 pg1 _ (x % 32) hap pg1h (by rw [hpx]; exact PI_pwf hH) (by omega)) lm_X2_78 (rcv_Page pg1h.1) rfl (Nat.le_of_ble_eq_true rfl) ⟨(Nat.le_of_ble_eq_true rfl), (Nat.le_of_ble_eq_true rfl)⟩ ⟨Nat.zero_le _, Nat.zero_le _⟩ dX2_removeRecord_49 ?_
    rintro V4 ⟨n9, hn9, hV4⟩
    rw [hpx] at hn9 hV4
    refine g_vret C dX2_removeRecord_52 (Or.inl ⟨c17, n9, hn9, ?_⟩)
    rw [hV4, hV2]
  · have hvx2 := (hvx.resolve_left c17).1
    refine g_aload_n C 1 rfl dX2_removeRecord_20 ?_
    refine gf_Store_pages C hob hps lf_X2_11 dX2_removeRecord_21 ?_
    refine g_iload_n C 0 rfl dX2_removeRecord_24 ?_
    refine g_bipush C 32 rfl dX2_removeRecord_25 ?_
    refine g_idiv C (by omega) (by omega) dX2_removeRecord_27 ?_
    obtain ⟨pg2, pg2e, pg2h⟩ := hpgs ((vcel V b x) / 32) (by omega) (by omega)
    obtain ⟨-, pg2r1, pg2r2, pg2r3, pg2r4, ⟨pg2hr1, pg2ha1⟩, ⟨pg2hr2, pg2ha2⟩, ⟨pg2hr3, pg2ha3⟩, ⟨pg2hr4, pg2ha4⟩⟩ := id pg2h
    refine g_aald C hq ⟨by omega, by omega⟩ (by decide) pg2e dX2_removeRecord_28 ?_
    refine g_iload_n C 0 rfl dX2_removeRecord_29 ?_
    refine g_bipush C 32 rfl dX2_removeRecord_30 ?_
    refine g_irem C (by omega) (by omega) dX2_removeRecord_32 ?_
    refine g_callV C [vI ((vcel V b x) % 32)] [] (cv_X1_remove l D cy g V2 pg2 _ ((vcel V b x) % 32) hap pg2h (by rw [hpc]; exact PI_pwf hA9) (by omega)) lm_X2_78 (rcv_Page pg2h.1) rfl (Nat.le_of_ble_eq_true rfl) ⟨(Nat.le_of_ble_eq_true rfl), (Nat.le_of_ble_eq_true rfl)⟩ ⟨Nat.zero_le _, Nat.zero_le _⟩ dX2_removeRecord_33 ?_
    rintro V3 ⟨n8, hn8, hV3⟩
    rw [hpc] at hn8 hV3
    have hpx3 : V3 (b + x / 32) = V (b + x / 32) := by rw [hV3, setp_ne (by omega), hpx]
    refine g_aload_n C 1 rfl dX2_removeRecord_36 ?_
    refine gf_Store_pages C hob hps lf_X2_11 dX2_removeRecord_37 ?_
    refine g_iload_n C 2 rfl dX2_removeRecord_40 ?_
    refine g_bipush C 32 rfl dX2_removeRecord_41 ?_
    refine g_idiv C (by omega) (by omega) dX2_removeRecord_43 ?_
    obtain ⟨pg3, pg3e, pg3h⟩ := hpgs (x / 32) (by omega) (by omega)
    obtain ⟨-, pg3r1, pg3r2, pg3r3, pg3r4, ⟨pg3hr1, pg3ha1⟩, ⟨pg3hr2, pg3ha2⟩, ⟨pg3hr3, pg3ha3⟩, ⟨pg3hr4, pg3ha4⟩⟩ := id pg3h
    refine g_aald C hq ⟨by omega, by omega⟩ (by decide) pg3e dX2_removeRecord_44 ?_
    refine g_iload_n C 2 rfl dX2_removeRecord_45 ?_
    refine g_bipush C 32 rfl dX2_removeRecord_46 ?_
    refine g_irem C (by omega) (by omega) dX2_removeRecord_48 ?_
    refine g_callV C [vI (x % 32)] [] (cv_X1_remove l D cy g V3 pg3 _ (x % 32) hap pg3h (by rw [hpx3]; exact PI_pwf hH) (by omega)) lm_X2_78 (rcv_Page pg3h.1) rfl (Nat.le_of_ble_eq_true rfl) ⟨(Nat.le_of_ble_eq_true rfl), (Nat.le_of_ble_eq_true rfl)⟩ ⟨Nat.zero_le _, Nat.zero_le _⟩ dX2_removeRecord_49 ?_
    rintro V4 ⟨n9, hn9, hV4⟩
    rw [hpx3] at hn9 hV4
    refine g_vret C dX2_removeRecord_52 (Or.inr ⟨c17, n8, n9, hn8, hn9, ?_⟩)
    rw [hV4, hV3, hV2]
end
section
/-! SlotFileModel: w 1 its d, w 2 its synced, w 3 its changes; w 0 3 .. w 0 7 its numbers -/
def isMod (g : GT) (a : Nat) (o : Int) : Prop := isO g 4 a o ∧ ∃ r1 r2 r3, (gR g a 0 = some r1 ∧ isA g r1 o 1 18816) ∧ (gR g a 1 = some r2 ∧ isA g r2 o 2 18816) ∧ (gR g a 2 = some r3 ∧ isA g r3 o 3 16000)
def mwf (w : Int → Int → Int) : Prop := ∀ k, 0 ≤ k → k < 18816 → sm (w 1 k)
def mSz (w : Int → Int → Int) (p s : Int) : Int := w 1 (384 + 32 * p + s)
def mSl (w : Int → Int → Int) (p : Int) : Nat → Int
  | 0 => 0
  | n + 1 => if 0 < mSz w p n then (n : Int) + 1 else mSl w p n
def mCf (w : Int → Int → Int) (p s : Int) : Int := if 0 < mSz w p s then 1 else 0
abbrev mCe (w : Int → Int → Int) (p : Int) : Int := sumF (mCf w p) 32
abbrev mTk (w : Int → Int → Int) (p : Int) : Int := sumF (mSz w p) 32
def mRoom (w : Int → Int → Int) (p : Int) : Int := 248 - 4 * mSl w p 32 - mTk w p
theorem mSl_bd (w : Int → Int → Int) (p : Int) (n : Nat) : 0 ≤ mSl w p n ∧ mSl w p n ≤ n := by
  induction n with
  | zero => exact ⟨Int.le_refl _, Int.le_refl _⟩
  | succ n ih => unfold mSl; split <;> omega
theorem mCf_bd (w : Int → Int → Int) (p : Int) (n : Nat) : 0 ≤ sumF (mCf w p) n ∧ sumF (mCf w p) n ≤ n := by
  induction n with
  | zero => exact ⟨Int.le_refl _, Int.le_refl _⟩
  | succ n ih => unfold sumF; have : 0 ≤ mCf w p n ∧ mCf w p n ≤ 1 := (by unfold mCf; split <;> omega); omega
theorem mTk_bd {w : Int → Int → Int} {p : Int} (hw : mwf w) (hp : 0 ≤ p ∧ p < 96) (n : Nat) (hn : n ≤ 32) : -1000000 * n ≤ sumF (mSz w p) n ∧ sumF (mSz w p) n ≤ 1000000 * n := by
  induction n with
  | zero => exact ⟨by simp [sumF], by simp [sumF]⟩
  | succ n ih =>
    unfold sumF
    have h1 := ih (by omega)
    have h2 : sm (mSz w p n) := hw _ (by omega) (by omega)
    unfold sm at h2
    omega
def mIsV (n s : Int) : Prop := (0 ≤ n ∧ n ≤ 1200) ∧ (0 ≤ s ∧ s ≤ 255)
def mIsR (w : Int → Int → Int) (x : Int) : Prop := (0 ≤ x ∧ x < 3072) ∧ w 1 (6528 + x) ≠ -1
def mKeep (w : Int → Int → Int) (x c n sd f : Int) : Int → Int → Int := upw (upw (upw (upw w 1 (6528 + x) c) 1 (9600 + x) n) 1 (12672 + x) sd) 1 (15744 + x) f
def mTake (w : Int → Int → Int) (p s : Int) : Int → Int → Int :=
  if mCe (upw w 1 (384 + 32 * p + s) 0) p = 0 then upw (upw (upw w 1 (384 + 32 * p + s) 0) 1 p 0) 1 (96 + p) 0 else upw w 1 (384 + 32 * p + s) 0
def mFreeL (w : Int → Int → Int) : List Int → (Int → Int → Int)
  | [] => w
  | p :: L => mFreeL (upw w 1 p 0) L
abbrev mNx (w : Int → Int → Int) : Int → Int := fun i => w 1 (192 + i)
def mNote (w : Int → Int → Int) (k x n sd : Int) : Int → Int → Int := upw (upw (upw (upw (upw w 3 (4 * w 0 3) k) 3 (4 * w 0 3 + 1) x) 3 (4 * w 0 3 + 2) n) 3 (4 * w 0 3 + 3) sd) 0 3 (w 0 3 + 1)
def mEmpty (w : Int → Int → Int) (p r : Int) : Prop := (0 ≤ r ∧ r < 32) ∧ mSz w p r ≤ 0 ∧ ∀ i, 0 ≤ i → i < r → 0 < mSz w p i
set_option maxHeartbeats 4000000 in
set_option maxRecDepth 100000 in
theorem c_X4_sizeOf (l : Launch) (D : va_G) (cy : ClassId × ClassId) (g : GT) (V : VT) (w : Int → Int → Int) (a : Nat) (o : Int) (p s : Int) (hap : Apart g) (hm : isMod g a o) (hp : 0 ≤ p ∧ p < 96) (hs : 0 ≤ s ∧ s < 32) : MetI l yX4_sizeOf cX4_sizeOf 3 (some .int) 0 D cy g [.ref a, vI p, vI s] (setp V o w) (fun r V' => r = mSz w p s ∧ V' = setp V o w) := by
  obtain ⟨hm1, r1, r2, r3, ⟨hr1, ha1⟩, ⟨hr2, ha2⟩, ⟨hr3, ha3⟩⟩ := id hm
  refine MetI.of (by decide) (Nat.le_of_ble_eq_true rfl) hap ?_
  intro p_ e_ s_ m_ args_ below_ meth_ c_ C
  refine g_aload_n C 0 rfl dX4_sizeOf_0 ?_
  refine gf_Mod_d C hm1 hr1 lf_X4_7 dX4_sizeOf_1 ?_
  refine g_sipush C 384 rfl dX4_sizeOf_4 ?_
  refine g_bipush C 32 rfl dX4_sizeOf_7 ?_
  refine g_iload_n C 1 rfl dX4_sizeOf_9 ?_
  refine g_imul C dX4_sizeOf_10 ?_
  refine g_iadd C dX4_sizeOf_11 ?_
  refine g_iload_n C 2 rfl dX4_sizeOf_12 ?_
  refine g_iadd C dX4_sizeOf_13 ?_
  refine s_iald C (w 1 ((384 + (32 * p)) + s)) ha1 (by omega) (by decide) rfl dX4_sizeOf_14 ?_
  exact g_iret C dX4_sizeOf_15 ⟨rfl, rfl⟩
set_option maxHeartbeats 4000000 in
set_option maxRecDepth 100000 in
theorem c_X4_slots (l : Launch) (D : va_G) (cy : ClassId × ClassId) (g : GT) (V : VT) (w : Int → Int → Int) (a : Nat) (o : Int) (p : Int) (hap : Apart g) (hm : isMod g a o) (hw : mwf w) (hp : 0 ≤ p ∧ p < 96) : MetI l yX4_slots cX4_slots 4 (some .int) 1 D cy g [.ref a, vI p] (setp V o w) (fun r V' => r = mSl w p 32 ∧ V' = setp V o w) := by
  obtain ⟨hm1, r1, r2, r3, ⟨hr1, ha1⟩, ⟨hr2, ha2⟩, ⟨hr3, ha3⟩⟩ := id hm
  refine MetI.of (by decide) (Nat.le_of_ble_eq_true rfl) hap ?_
  intro p_ e_ s_ m_ args_ below_ meth_ c_ C
  have loop : ∀ (n : Nat) (k : Nat), k + n = 32 → G p_ l e_ (rmd 1) s_ m_ args_ below_ meth_ c_ 4 0 0 (MQ below_ (QcI D cy g (fun r V' => r = mSl w p 32 ∧ V' = setp V o w)) args_ s_ 0 0 (fun q => q ∈ gL g)) D cy g (fun q => q ∈ gL g) s_.heap (setp V o w) 4 [(3, vI ((k : Int))), (2, vI (mSl w p k)), (0, .ref a), (1, vI p)] [] := by
    intro n
    induction n with
    | zero =>
      intro k hkn
      have hk : k = 32 := by omega
      subst hk
      refine g_iload_n C 0 rfl dX4_slots_4 ?_
      refine g_bipush C 32 rfl dX4_slots_5 ?_
      refine g_icmp_ge C (by unfold rng; omega) (by unfold rng; omega) 29 dX4_slots_7 (by decide) (fun c7 => ?_) (fun c7 => absurd c7 (by omega))
      refine g_iload_n C 1 rfl dX4_slots_29 ?_
      exact g_iret C dX4_slots_30 ⟨rfl, rfl⟩
    | succ n ih =>
      intro k hkn
      refine g_iload_n C 0 rfl dX4_slots_4 ?_
      refine g_bipush C 32 rfl dX4_slots_5 ?_
      refine g_icmp_ge C (by unfold rng; omega) (by unfold rng; omega) 29 dX4_slots_7 (by decide) (fun c7 => absurd c7 (by omega)) (fun c7 => ?_)
      refine g_aload_n C 2 rfl dX4_slots_10 ?_
      refine g_iload_n C 3 rfl dX4_slots_11 ?_
      refine g_iload_n C 0 rfl dX4_slots_12 ?_
      refine g_callI C [vI p, vI ((k : Int))] [] (c_X4_sizeOf l D cy g V w a o p ((k : Int)) hap hm (by omega) (by omega)) lm_X4_27 (rcv_Mod hm.1) rfl (Nat.le_of_ble_eq_true rfl) ⟨(Nat.le_of_ble_eq_true rfl), (Nat.le_of_ble_eq_true rfl)⟩ ⟨Nat.zero_le _, Nat.zero_le _⟩ dX4_slots_13 ?_
      rintro _ _ ⟨rfl, rfl⟩
      refine g_if_le C (by have z9 : sm (mSz w p k) := hw _ (by omega) (by omega); unfold sm at z9; unfold rng; omega) 23 dX4_slots_16 (by decide) (fun c16 => ?_) (fun c16 => ?_)
      · refine g_iinc C [(3, vI (((k : Int)) + 1)), (2, vI (mSl w p k)), (0, .ref a), (1, vI p)] 0 rfl dX4_slots_23 (by decide) rfl ?_
        refine g_goto C 4 dX4_slots_26 (by decide) ?_
        refine g_sub [0, 1, 2, 3] rfl ?_
        have e1 : mSl w p (k + 1) = mSl w p k := if_neg (by omega)
        have h9 := ih (k + 1) (by omega)
        rw [e1] at h9
        exact h9
      · refine g_iload_n C 0 rfl dX4_slots_19 ?_
        refine g_iconst C 1 rfl dX4_slots_20 ?_
        refine g_iadd C dX4_slots_21 ?_
        refine g_istore_n C [(2, vI (((k : Int)) + 1)), (3, vI ((k : Int))), (0, .ref a), (1, vI p)] dX4_slots_22 rfl (by decide) rfl ?_
        refine g_iinc C [(3, vI (((k : Int)) + 1)), (2, vI (((k : Int)) + 1)), (0, .ref a), (1, vI p)] 1 rfl dX4_slots_23 (by decide) rfl ?_
        refine g_goto C 4 dX4_slots_26 (by decide) ?_
        refine g_sub [0, 1, 2, 3] rfl ?_
        have e1 : mSl w p (k + 1) = (k : Int) + 1 := if_pos c16
        have h9 := ih (k + 1) (by omega)
        rw [e1] at h9
        exact h9
  refine g_iconst C 0 rfl dX4_slots_0 ?_
  refine g_istore_n C [(2, vI 0), (0, .ref a), (1, vI p)] dX4_slots_1 rfl (by decide) rfl ?_
  refine g_iconst C 0 rfl dX4_slots_2 ?_
  refine g_istore_n C [(3, vI 0), (2, vI 0), (0, .ref a), (1, vI p)] dX4_slots_3 rfl (by decide) rfl ?_
  refine g_sub [0, 1, 2, 3] rfl ?_
  exact loop 32 0 (by omega)
set_option maxHeartbeats 4000000 in
set_option maxRecDepth 100000 in
theorem c_X4_cells (l : Launch) (D : va_G) (cy : ClassId × ClassId) (g : GT) (V : VT) (w : Int → Int → Int) (a : Nat) (o : Int) (p : Int) (hap : Apart g) (hm : isMod g a o) (hw : mwf w) (hp : 0 ≤ p ∧ p < 96) : MetI l yX4_cells cX4_cells 4 (some .int) 1 D cy g [.ref a, vI p] (setp V o w) (fun r V' => r = mCe w p ∧ V' = setp V o w) := by
  obtain ⟨hm1, r1, r2, r3, ⟨hr1, ha1⟩, ⟨hr2, ha2⟩, ⟨hr3, ha3⟩⟩ := id hm
  refine MetI.of (by decide) (Nat.le_of_ble_eq_true rfl) hap ?_
  intro p_ e_ s_ m_ args_ below_ meth_ c_ C
  have loop : ∀ (n : Nat) (k : Nat), k + n = 32 → G p_ l e_ (rmd 1) s_ m_ args_ below_ meth_ c_ 4 0 0 (MQ below_ (QcI D cy g (fun r V' => r = mCe w p ∧ V' = setp V o w)) args_ s_ 0 0 (fun q => q ∈ gL g)) D cy g (fun q => q ∈ gL g) s_.heap (setp V o w) 4 [(3, vI ((k : Int))), (2, vI (sumF (mCf w p) k)), (0, .ref a), (1, vI p)] [] := by
    intro n
    induction n with
    | zero =>
      intro k hkn
      have hk : k = 32 := by omega
      subst hk
      refine g_iload_n C 0 rfl dX4_cells_4 ?_
      refine g_bipush C 32 rfl dX4_cells_5 ?_
      refine g_icmp_ge C (by unfold rng; omega) (by unfold rng; omega) 33 dX4_cells_7 (by decide) (fun c7 => ?_) (fun c7 => absurd c7 (by omega))
      refine g_iload_n C 1 rfl dX4_cells_33 ?_
      exact g_iret C dX4_cells_34 ⟨rfl, rfl⟩
    | succ n ih =>
      intro k hkn
      refine g_iload_n C 0 rfl dX4_cells_4 ?_
      refine g_bipush C 32 rfl dX4_cells_5 ?_
      refine g_icmp_ge C (by unfold rng; omega) (by unfold rng; omega) 33 dX4_cells_7 (by decide) (fun c7 => absurd c7 (by omega)) (fun c7 => ?_)
      refine g_iload_n C 1 rfl dX4_cells_10 ?_
      refine g_aload_n C 2 rfl dX4_cells_11 ?_
      refine g_iload_n C 3 rfl dX4_cells_12 ?_
      refine g_iload_n C 0 rfl dX4_cells_13 ?_
      refine g_callI C [vI p, vI ((k : Int))] [vI (sumF (mCf w p) k)] (c_X4_sizeOf l D cy g V w a o p ((k : Int)) hap hm (by omega) (by omega)) lm_X4_27 (rcv_Mod hm.1) rfl (Nat.le_of_ble_eq_true rfl) ⟨(Nat.le_of_ble_eq_true rfl), (Nat.le_of_ble_eq_true rfl)⟩ ⟨Nat.zero_le _, Nat.zero_le _⟩ dX4_cells_14 ?_
      rintro _ _ ⟨rfl, rfl⟩
      refine g_if_le C (by have z9 : sm (mSz w p k) := hw _ (by omega) (by omega); unfold sm at z9; unfold rng; omega) 24 dX4_cells_17 (by decide) (fun c17 => ?_) (fun c17 => ?_)
      · refine g_iconst C 0 rfl dX4_cells_24 ?_
        refine g_iadd C dX4_cells_25 ?_
        refine g_istore_n C [(2, vI ((sumF (mCf w p) k) + 0)), (3, vI ((k : Int))), (0, .ref a), (1, vI p)] dX4_cells_26 rfl (by decide) rfl ?_
        refine g_iinc C [(3, vI (((k : Int)) + 1)), (2, vI ((sumF (mCf w p) k) + 0)), (0, .ref a), (1, vI p)] 1 rfl dX4_cells_27 (by decide) rfl ?_
        refine g_goto C 4 dX4_cells_30 (by decide) ?_
        refine g_sub [0, 1, 2, 3] rfl ?_
        have e1 : sumF (mCf w p) (k + 1) = sumF (mCf w p) k + 0 := by show sumF (mCf w p) k + mCf w p k = _; unfold mCf; rw [if_neg (by omega)]
        have h9 := ih (k + 1) (by omega)
        rw [e1] at h9
        exact h9
      · refine g_iconst C 1 rfl dX4_cells_20 ?_
        refine g_goto C 25 dX4_cells_21 (by decide) ?_
        refine g_iadd C dX4_cells_25 ?_
        refine g_istore_n C [(2, vI ((sumF (mCf w p) k) + 1)), (3, vI ((k : Int))), (0, .ref a), (1, vI p)] dX4_cells_26 rfl (by decide) rfl ?_
        refine g_iinc C [(3, vI (((k : Int)) + 1)), (2, vI ((sumF (mCf w p) k) + 1)), (0, .ref a), (1, vI p)] 1 rfl dX4_cells_27 (by decide) rfl ?_
        refine g_goto C 4 dX4_cells_30 (by decide) ?_
        refine g_sub [0, 1, 2, 3] rfl ?_
        have e1 : sumF (mCf w p) (k + 1) = sumF (mCf w p) k + 1 := by show sumF (mCf w p) k + mCf w p k = _; unfold mCf; rw [if_pos c17]
        have h9 := ih (k + 1) (by omega)
        rw [e1] at h9
        exact h9
  refine g_iconst C 0 rfl dX4_cells_0 ?_
  refine g_istore_n C [(2, vI 0), (0, .ref a), (1, vI p)] dX4_cells_1 rfl (by decide) rfl ?_
  refine g_iconst C 0 rfl dX4_cells_2 ?_
  refine g_istore_n C [(3, vI 0), (2, vI 0), (0, .ref a), (1, vI p)] dX4_cells_3 rfl (by decide) rfl ?_
  refine g_sub [0, 1, 2, 3] rfl ?_
  exact loop 32 0 (by omega)
set_option maxHeartbeats 4000000 in
set_option maxRecDepth 100000 in
theorem c_X4_taken (l : Launch) (D : va_G) (cy : ClassId × ClassId) (g : GT) (V : VT) (w : Int → Int → Int) (a : Nat) (o : Int) (p : Int) (hap : Apart g) (hm : isMod g a o) (hw : mwf w) (hp : 0 ≤ p ∧ p < 96) : MetI l yX4_taken cX4_taken 4 (some .int) 1 D cy g [.ref a, vI p] (setp V o w) (fun r V' => r = mTk w p ∧ V' = setp V o w) := by
  obtain ⟨hm1, r1, r2, r3, ⟨hr1, ha1⟩, ⟨hr2, ha2⟩, ⟨hr3, ha3⟩⟩ := id hm
  refine MetI.of (by decide) (Nat.le_of_ble_eq_true rfl) hap ?_
  intro p_ e_ s_ m_ args_ below_ meth_ c_ C
  have loop : ∀ (n : Nat) (k : Nat), k + n = 32 → G p_ l e_ (rmd 1) s_ m_ args_ below_ meth_ c_ 4 0 0 (MQ below_ (QcI D cy g (fun r V' => r = mTk w p ∧ V' = setp V o w)) args_ s_ 0 0 (fun q => q ∈ gL g)) D cy g (fun q => q ∈ gL g) s_.heap (setp V o w) 4 [(3, vI ((k : Int))), (2, vI (sumF (mSz w p) k)), (0, .ref a), (1, vI p)] [] := by
    intro n
    induction n with
    | zero =>
      intro k hkn
      have hk : k = 32 := by omega
      subst hk
      refine g_iload_n C 0 rfl dX4_taken_4 ?_
      refine g_bipush C 32 rfl dX4_taken_5 ?_
      refine g_icmp_ge C (by unfold rng; omega) (by unfold rng; omega) 25 dX4_taken_7 (by decide) (fun c7 => ?_) (fun c7 => absurd c7 (by omega))
      refine g_iload_n C 1 rfl dX4_taken_25 ?_
      exact g_iret C dX4_taken_26 ⟨rfl, rfl⟩
    | succ n ih =>
      intro k hkn
      refine g_iload_n C 0 rfl dX4_taken_4 ?_
      refine g_bipush C 32 rfl dX4_taken_5 ?_
      refine g_icmp_ge C (by unfold rng; omega) (by unfold rng; omega) 25 dX4_taken_7 (by decide) (fun c7 => absurd c7 (by omega)) (fun c7 => ?_)
      refine g_iload_n C 1 rfl dX4_taken_10 ?_
      refine g_aload_n C 2 rfl dX4_taken_11 ?_
      refine g_iload_n C 3 rfl dX4_taken_12 ?_
      refine g_iload_n C 0 rfl dX4_taken_13 ?_
      refine g_callI C [vI p, vI ((k : Int))] [vI (sumF (mSz w p) k)] (c_X4_sizeOf l D cy g V w a o p ((k : Int)) hap hm (by omega) (by omega)) lm_X4_27 (rcv_Mod hm.1) rfl (Nat.le_of_ble_eq_true rfl) ⟨(Nat.le_of_ble_eq_true rfl), (Nat.le_of_ble_eq_true rfl)⟩ ⟨Nat.zero_le _, Nat.zero_le _⟩ dX4_taken_14 ?_
      rintro _ _ ⟨rfl, rfl⟩
      refine g_iadd C dX4_taken_17 ?_
      refine g_istore_n C [(2, vI ((sumF (mSz w p) k) + (mSz w p ((k : Int))))), (3, vI ((k : Int))), (0, .ref a), (1, vI p)] dX4_taken_18 rfl (by decide) rfl ?_
      refine g_iinc C [(3, vI (((k : Int)) + 1)), (2, vI ((sumF (mSz w p) k) + (mSz w p ((k : Int))))), (0, .ref a), (1, vI p)] 1 rfl dX4_taken_19 (by decide) rfl ?_
      refine g_goto C 4 dX4_taken_22 (by decide) ?_
      refine g_sub [0, 1, 2, 3] rfl ?_
      exact ih (k + 1) (by omega)
  refine g_iconst C 0 rfl dX4_taken_0 ?_
  refine g_istore_n C [(2, vI 0), (0, .ref a), (1, vI p)] dX4_taken_1 rfl (by decide) rfl ?_
  refine g_iconst C 0 rfl dX4_taken_2 ?_
  refine g_istore_n C [(3, vI 0), (2, vI 0), (0, .ref a), (1, vI p)] dX4_taken_3 rfl (by decide) rfl ?_
  refine g_sub [0, 1, 2, 3] rfl ?_
  exact loop 32 0 (by omega)
set_option maxHeartbeats 4000000 in
set_option maxRecDepth 100000 in
theorem c_X4_room (l : Launch) (D : va_G) (cy : ClassId × ClassId) (g : GT) (V : VT) (w : Int → Int → Int) (a : Nat) (o : Int) (p : Int) (hap : Apart g) (hm : isMod g a o) (hw : mwf w) (hp : 0 ≤ p ∧ p < 96) : MetI l yX4_room cX4_room 2 (some .int) 2 D cy g [.ref a, vI p] (setp V o w) (fun r V' => r = mRoom w p ∧ V' = setp V o w) := by
  obtain ⟨hm1, r1, r2, r3, ⟨hr1, ha1⟩, ⟨hr2, ha2⟩, ⟨hr3, ha3⟩⟩ := id hm
  refine MetI.of (by decide) (Nat.le_of_ble_eq_true rfl) hap ?_
  intro p_ e_ s_ m_ args_ below_ meth_ c_ C
  refine g_sipush C 248 rfl dX4_room_0 ?_
  refine g_iconst C 4 rfl dX4_room_3 ?_
  refine g_aload_n C 0 rfl dX4_room_4 ?_
  refine g_iload_n C 1 rfl dX4_room_5 ?_
  refine g_callI C [vI p] [vI 4, vI 248] (c_X4_slots l D cy g V w a o p hap hm hw (by omega)) lm_X4_31 (rcv_Mod hm.1) rfl (Nat.le_of_ble_eq_true rfl) ⟨(Nat.le_of_ble_eq_true rfl), (Nat.le_of_ble_eq_true rfl)⟩ ⟨Nat.zero_le _, Nat.zero_le _⟩ dX4_room_6 ?_
  rintro _ _ ⟨rfl, rfl⟩
  refine g_imul C dX4_room_9 ?_
  refine g_isub C dX4_room_10 ?_
  refine g_aload_n C 0 rfl dX4_room_11 ?_
  refine g_iload_n C 1 rfl dX4_room_12 ?_
  refine g_callI C [vI p] [vI (248 - (4 * (mSl w p 32)))] (c_X4_taken l D cy g V w a o p hap hm hw (by omega)) lm_X4_35 (rcv_Mod hm.1) rfl (Nat.le_of_ble_eq_true rfl) ⟨(Nat.le_of_ble_eq_true rfl), (Nat.le_of_ble_eq_true rfl)⟩ ⟨Nat.zero_le _, Nat.zero_le _⟩ dX4_room_13 ?_
  rintro _ _ ⟨rfl, rfl⟩
  refine g_isub C dX4_room_16 ?_
  exact g_iret C dX4_room_17 ⟨rfl, rfl⟩
set_option maxHeartbeats 4000000 in
set_option maxRecDepth 100000 in
theorem c_X4_firstFree (l : Launch) (D : va_G) (cy : ClassId × ClassId) (g : GT) (V : VT) (w : Int → Int → Int) (a : Nat) (o : Int) (hap : Apart g) (hm : isMod g a o) (hw : mwf w) : MetI l yX4_firstFree cX4_firstFree 2 (some .int) 0 D cy g [.ref a] (setp V o w) (fun r V' => isLF (w 1) 0 r ∧ V' = setp V o w) := by
  obtain ⟨hm1, r1, r2, r3, ⟨hr1, ha1⟩, ⟨hr2, ha2⟩, ⟨hr3, ha3⟩⟩ := id hm
  refine MetI.of (by decide) (Nat.le_of_ble_eq_true rfl) hap ?_
  intro p_ e_ s_ m_ args_ below_ meth_ c_ C
  have loop : ∀ (n : Nat) (i : Int), 0 ≤ i ∧ i ≤ 96 → 96 - i ≤ n → (∀ j, 0 ≤ j → j < i → w 1 j ≠ 0) → G p_ l e_ (rmd 0) s_ m_ args_ below_ meth_ c_ 2 0 0 (MQ below_ (QcI D cy g (fun r V' => isLF (w 1) 0 r ∧ V' = setp V o w)) args_ s_ 0 0 (fun q => q ∈ gL g)) D cy g (fun q => q ∈ gL g) s_.heap (setp V o w) 2 [(1, vI i), (0, .ref a)] [] := by
    intro n
    induction n with
    | zero =>
      intro i h1 h3 h4
      refine g_iload_n C 0 rfl dX4_firstFree_2 ?_
      refine g_bipush C 96 rfl dX4_firstFree_3 ?_
      refine g_icmp_ge C (by unfold rng; omega) (by unfold rng; omega) 25 dX4_firstFree_5 (by decide) (fun c5 => ?_) (fun c5 => absurd c5 (by omega))
      refine g_iconst C (-1) rfl dX4_firstFree_25 ?_
      exact g_iret C dX4_firstFree_26 ⟨Or.inl ⟨rfl, fun j q1 q2 => h4 j q1 (by omega)⟩, rfl⟩
    | succ n ih =>
      intro i h1 h3 h4
      refine g_iload_n C 0 rfl dX4_firstFree_2 ?_
      refine g_bipush C 96 rfl dX4_firstFree_3 ?_
      refine g_icmp_ge C (by unfold rng; omega) (by unfold rng; omega) 25 dX4_firstFree_5 (by decide) (fun c5 => ?_) (fun c5 => ?_)
      · refine g_iconst C (-1) rfl dX4_firstFree_25 ?_
        exact g_iret C dX4_firstFree_26 ⟨Or.inl ⟨rfl, fun j q1 q2 => h4 j q1 (by omega)⟩, rfl⟩
      · refine g_aload_n C 1 rfl dX4_firstFree_8 ?_
        refine gf_Mod_d C hm1 hr1 lf_X4_7 dX4_firstFree_9 ?_
        refine g_iload_n C 0 rfl dX4_firstFree_12 ?_
        refine s_iald C (w 1 i) ha1 (by omega) (by decide) rfl dX4_firstFree_13 ?_
        refine g_if_ne C (by have z9 := hw (i) (by omega) (by omega); unfold sm at z9; unfold rng; omega) 19 dX4_firstFree_14 (by decide) (fun c14 => ?_) (fun c14 => ?_)
        · refine g_iinc C [(1, vI (i + 1)), (0, .ref a)] 0 rfl dX4_firstFree_19 (by decide) rfl ?_
          refine g_goto C 2 dX4_firstFree_22 (by decide) ?_
          refine g_sub [0, 1] rfl ?_
          refine ih (i + 1) (by omega) (by omega) (fun j q1 q2 => ?_)
          by_cases hj : j = i
          · subst hj; exact c14
          · exact h4 j q1 (by omega)
        · refine g_iload_n C 0 rfl dX4_firstFree_17 ?_
          exact g_iret C dX4_firstFree_18 ⟨Or.inr ⟨by omega, by omega, c14, h4⟩, rfl⟩
  refine g_iconst C 0 rfl dX4_firstFree_0 ?_
  refine g_istore_n C [(1, vI 0), (0, .ref a)] dX4_firstFree_1 rfl (by decide) rfl ?_
  refine g_sub [0, 1] rfl ?_
  exact loop 96 0 (by omega) (by omega) (fun j q1 q2 => absurd q1 (by omega))
set_option maxHeartbeats 4000000 in
set_option maxRecDepth 100000 in
theorem c_X4_freePages (l : Launch) (D : va_G) (cy : ClassId × ClassId) (g : GT) (V : VT) (w : Int → Int → Int) (a : Nat) (o : Int) (hap : Apart g) (hm : isMod g a o) (hw : mwf w) : MetI l yX4_freePages cX4_freePages 3 (some .int) 0 D cy g [.ref a] (setp V o w) (fun r V' => r = cntK (w 1) 0 96 ∧ V' = setp V o w) := by
  obtain ⟨hm1, r1, r2, r3, ⟨hr1, ha1⟩, ⟨hr2, ha2⟩, ⟨hr3, ha3⟩⟩ := id hm
  refine MetI.of (by decide) (Nat.le_of_ble_eq_true rfl) hap ?_
  intro p_ e_ s_ m_ args_ below_ meth_ c_ C
  have loop : ∀ (n : Nat) (k : Nat), k + n = 96 → G p_ l e_ (rmd 0) s_ m_ args_ below_ meth_ c_ 3 0 0 (MQ below_ (QcI D cy g (fun r V' => r = cntK (w 1) 0 96 ∧ V' = setp V o w)) args_ s_ 0 0 (fun q => q ∈ gL g)) D cy g (fun q => q ∈ gL g) s_.heap (setp V o w) 4 [(2, vI ((k : Int))), (1, vI (cntK (w 1) 0 k)), (0, .ref a)] [] := by
    intro n
    induction n with
    | zero =>
      intro k hkn
      have hk : k = 96 := by omega
      subst hk
      refine g_iload_n C 0 rfl dX4_freePages_4 ?_
      refine g_bipush C 96 rfl dX4_freePages_5 ?_
      refine g_icmp_ge C (by unfold rng; omega) (by unfold rng; omega) 33 dX4_freePages_7 (by decide) (fun c7 => ?_) (fun c7 => absurd c7 (by omega))
      refine g_iload_n C 1 rfl dX4_freePages_33 ?_
      exact g_iret C dX4_freePages_34 ⟨rfl, rfl⟩
    | succ n ih =>
      intro k hkn
      refine g_iload_n C 0 rfl dX4_freePages_4 ?_
      refine g_bipush C 96 rfl dX4_freePages_5 ?_
      refine g_icmp_ge C (by unfold rng; omega) (by unfold rng; omega) 33 dX4_freePages_7 (by decide) (fun c7 => absurd c7 (by omega)) (fun c7 => ?_)
      refine g_iload_n C 1 rfl dX4_freePages_10 ?_
      refine g_aload_n C 2 rfl dX4_freePages_11 ?_
      refine gf_Mod_d C hm1 hr1 lf_X4_7 dX4_freePages_12 ?_
      refine g_iload_n C 0 rfl dX4_freePages_15 ?_
      refine s_iald C (w 1 ((k : Int))) ha1 (by omega) (by decide) rfl dX4_freePages_16 ?_
      refine g_if_ne C (by have z9 := hw ((k : Int)) (by omega) (by omega); unfold sm at z9; unfold rng; omega) 24 dX4_freePages_17 (by decide) (fun c17 => ?_) (fun c17 => ?_)
      · refine g_iconst C 0 rfl dX4_freePages_24 ?_
        refine g_iadd C dX4_freePages_25 ?_
        refine g_istore_n C [(1, vI ((cntK (w 1) 0 k) + 0)), (2, vI ((k : Int))), (0, .ref a)] dX4_freePages_26 rfl (by decide) rfl ?_
        refine g_iinc C [(2, vI (((k : Int)) + 1)), (1, vI ((cntK (w 1) 0 k) + 0)), (0, .ref a)] 1 rfl dX4_freePages_27 (by decide) rfl ?_
        refine g_goto C 4 dX4_freePages_30 (by decide) ?_
        refine g_sub [0, 1, 2] rfl ?_
        have e1 : cntK (w 1) 0 (k + 1) = cntK (w 1) 0 k + 0 := by rw [Int.add_zero]; exact if_neg c17
        have h9 := ih (k + 1) (by omega)
        rw [e1] at h9
        exact h9
      · refine g_iconst C 1 rfl dX4_freePages_20 ?_
        refine g_goto C 25 dX4_freePages_21 (by decide) ?_
        refine g_iadd C dX4_freePages_25 ?_
        refine g_istore_n C [(1, vI ((cntK (w 1) 0 k) + 1)), (2, vI ((k : Int))), (0, .ref a)] dX4_freePages_26 rfl (by decide) rfl ?_
        refine g_iinc C [(2, vI (((k : Int)) + 1)), (1, vI ((cntK (w 1) 0 k) + 1)), (0, .ref a)] 1 rfl dX4_freePages_27 (by decide) rfl ?_
        refine g_goto C 4 dX4_freePages_30 (by decide) ?_
        refine g_sub [0, 1, 2] rfl ?_
        have e1 : cntK (w 1) 0 (k + 1) = cntK (w 1) 0 k + 1 := by exact if_pos c17
        have h9 := ih (k + 1) (by omega)
        rw [e1] at h9
        exact h9
  refine g_iconst C 0 rfl dX4_freePages_0 ?_
  refine g_istore_n C [(1, vI 0), (0, .ref a)] dX4_freePages_1 rfl (by decide) rfl ?_
  refine g_iconst C 0 rfl dX4_freePages_2 ?_
  refine g_istore_n C [(2, vI 0), (1, vI 0), (0, .ref a)] dX4_freePages_3 rfl (by decide) rfl ?_
  refine g_sub [0, 1, 2] rfl ?_
  exact loop 96 0 (by omega)
set_option maxHeartbeats 4000000 in
set_option maxRecDepth 100000 in
theorem c_X4_pagesOf (l : Launch) (D : va_G) (cy : ClassId × ClassId) (g : GT) (V : VT) (w : Int → Int → Int) (a : Nat) (o : Int) (q : Int) (hap : Apart g) (hm : isMod g a o) (hw : mwf w) (hq : sm q) : MetI l yX4_pagesOf cX4_pagesOf 4 (some .int) 0 D cy g [.ref a, vI q] (setp V o w) (fun r V' => r = cntK (w 1) q 96 ∧ V' = setp V o w) := by
  obtain ⟨hm1, r1, r2, r3, ⟨hr1, ha1⟩, ⟨hr2, ha2⟩, ⟨hr3, ha3⟩⟩ := id hm
  simp only [sm] at hq
  refine MetI.of (by decide) (Nat.le_of_ble_eq_true rfl) hap ?_
  intro p_ e_ s_ m_ args_ below_ meth_ c_ C
  have loop : ∀ (n : Nat) (k : Nat), k + n = 96 → G p_ l e_ (rmd 0) s_ m_ args_ below_ meth_ c_ 4 0 0 (MQ below_ (QcI D cy g (fun r V' => r = cntK (w 1) q 96 ∧ V' = setp V o w)) args_ s_ 0 0 (fun q => q ∈ gL g)) D cy g (fun q => q ∈ gL g) s_.heap (setp V o w) 4 [(3, vI ((k : Int))), (2, vI (cntK (w 1) q k)), (0, .ref a), (1, vI q)] [] := by
    intro n
    induction n with
    | zero =>
      intro k hkn
      have hk : k = 96 := by omega
      subst hk
      refine g_iload_n C 0 rfl dX4_pagesOf_4 ?_
      refine g_bipush C 96 rfl dX4_pagesOf_5 ?_
      refine g_icmp_ge C (by unfold rng; omega) (by unfold rng; omega) 34 dX4_pagesOf_7 (by decide) (fun c7 => ?_) (fun c7 => absurd c7 (by omega))
      refine g_iload_n C 1 rfl dX4_pagesOf_34 ?_
      exact g_iret C dX4_pagesOf_35 ⟨rfl, rfl⟩
    | succ n ih =>
      intro k hkn
      refine g_iload_n C 0 rfl dX4_pagesOf_4 ?_
      refine g_bipush C 96 rfl dX4_pagesOf_5 ?_
      refine g_icmp_ge C (by unfold rng; omega) (by unfold rng; omega) 34 dX4_pagesOf_7 (by decide) (fun c7 => absurd c7 (by omega)) (fun c7 => ?_)
      refine g_iload_n C 1 rfl dX4_pagesOf_10 ?_
      refine g_aload_n C 2 rfl dX4_pagesOf_11 ?_
      refine gf_Mod_d C hm1 hr1 lf_X4_7 dX4_pagesOf_12 ?_
      refine g_iload_n C 0 rfl dX4_pagesOf_15 ?_
      refine s_iald C (w 1 ((k : Int))) ha1 (by omega) (by decide) rfl dX4_pagesOf_16 ?_
      refine g_iload_n C 3 rfl dX4_pagesOf_17 ?_
      refine g_icmp_ne C (by have z9 := hw ((k : Int)) (by omega) (by omega); unfold sm at z9; unfold rng; omega) (by unfold rng; omega) 25 dX4_pagesOf_18 (by decide) (fun c18 => ?_) (fun c18 => ?_)
      · refine g_iconst C 0 rfl dX4_pagesOf_25 ?_
        refine g_iadd C dX4_pagesOf_26 ?_
        refine g_istore_n C [(2, vI ((cntK (w 1) q k) + 0)), (3, vI ((k : Int))), (0, .ref a), (1, vI q)] dX4_pagesOf_27 rfl (by decide) rfl ?_
        refine g_iinc C [(3, vI (((k : Int)) + 1)), (2, vI ((cntK (w 1) q k) + 0)), (0, .ref a), (1, vI q)] 1 rfl dX4_pagesOf_28 (by decide) rfl ?_
        refine g_goto C 4 dX4_pagesOf_31 (by decide) ?_
        refine g_sub [0, 1, 2, 3] rfl ?_
        have e1 : cntK (w 1) q (k + 1) = cntK (w 1) q k + 0 := by rw [Int.add_zero]; exact if_neg c18
        have h9 := ih (k + 1) (by omega)
        rw [e1] at h9
        exact h9
      · refine g_iconst C 1 rfl dX4_pagesOf_21 ?_
        refine g_goto C 26 dX4_pagesOf_22 (by decide) ?_
        refine g_iadd C dX4_pagesOf_26 ?_
        refine g_istore_n C [(2, vI ((cntK (w 1) q k) + 1)), (3, vI ((k : Int))), (0, .ref a), (1, vI q)] dX4_pagesOf_27 rfl (by decide) rfl ?_
        refine g_iinc C [(3, vI (((k : Int)) + 1)), (2, vI ((cntK (w 1) q k) + 1)), (0, .ref a), (1, vI q)] 1 rfl dX4_pagesOf_28 (by decide) rfl ?_
        refine g_goto C 4 dX4_pagesOf_31 (by decide) ?_
        refine g_sub [0, 1, 2, 3] rfl ?_
        have e1 : cntK (w 1) q (k + 1) = cntK (w 1) q k + 1 := by exact if_pos c18
        have h9 := ih (k + 1) (by omega)
        rw [e1] at h9
        exact h9
  refine g_iconst C 0 rfl dX4_pagesOf_0 ?_
  refine g_istore_n C [(2, vI 0), (0, .ref a), (1, vI q)] dX4_pagesOf_1 rfl (by decide) rfl ?_
  refine g_iconst C 0 rfl dX4_pagesOf_2 ?_
  refine g_istore_n C [(3, vI 0), (2, vI 0), (0, .ref a), (1, vI q)] dX4_pagesOf_3 rfl (by decide) rfl ?_
  refine g_sub [0, 1, 2, 3] rfl ?_
  exact loop 96 0 (by omega)
set_option maxHeartbeats 4000000 in
set_option maxRecDepth 100000 in
theorem c_X4_slotIn (l : Launch) (D : va_G) (cy : ClassId × ClassId) (g : GT) (V : VT) (w : Int → Int → Int) (a : Nat) (o : Int) (p s0 : Int) (hap : Apart g) (hm : isMod g a o) (hw : mwf w) (hp : 0 ≤ p ∧ p < 96) (hs0 : (0 ≤ s0 ∧ s0 < 32) ∧ mSz w p s0 ≤ 0) : MetI l yX4_slotIn cX4_slotIn 3 (some .int) 1 D cy g [.ref a, vI p] (setp V o w) (fun r V' => mEmpty w p r ∧ V' = setp V o w) := by
  obtain ⟨hm1, r1, r2, r3, ⟨hr1, ha1⟩, ⟨hr2, ha2⟩, ⟨hr3, ha3⟩⟩ := id hm
  refine MetI.of (by decide) (Nat.le_of_ble_eq_true rfl) hap ?_
  intro p_ e_ s_ m_ args_ below_ meth_ c_ C
  have loop : ∀ (n : Nat) (i : Int), 0 ≤ i ∧ i ≤ s0 → 33 - i ≤ n → (∀ j, 0 ≤ j → j < i → 0 < mSz w p j) → G p_ l e_ (rmd 1) s_ m_ args_ below_ meth_ c_ 3 0 0 (MQ below_ (QcI D cy g (fun r V' => mEmpty w p r ∧ V' = setp V o w)) args_ s_ 0 0 (fun q => q ∈ gL g)) D cy g (fun q => q ∈ gL g) s_.heap (setp V o w) 2 [(2, vI i), (0, .ref a), (1, vI p)] [] := by
    intro n
    induction n with
    | zero =>
      intro i h1 h3 h4
      exact absurd h3 (by omega)
    | succ n ih =>
      intro i h1 h3 h4
      refine g_aload_n C 1 rfl dX4_slotIn_2 ?_
      refine g_iload_n C 2 rfl dX4_slotIn_3 ?_
      refine g_iload_n C 0 rfl dX4_slotIn_4 ?_
      refine g_callI C [vI p, vI i] [] (c_X4_sizeOf l D cy g V w a o p i hap hm (by omega) (by omega)) lm_X4_27 (rcv_Mod hm.1) rfl (Nat.le_of_ble_eq_true rfl) ⟨(Nat.le_of_ble_eq_true rfl), (Nat.le_of_ble_eq_true rfl)⟩ ⟨Nat.zero_le _, Nat.zero_le _⟩ dX4_slotIn_5 ?_
      rintro _ _ ⟨rfl, rfl⟩
      refine g_if_le C (by have z9 : sm (mSz w p i) := hw _ (by omega) (by omega); unfold sm at z9; unfold rng; omega) 17 dX4_slotIn_8 (by decide) (fun c8 => ?_) (fun c8 => ?_)
      · refine g_iload_n C 0 rfl dX4_slotIn_17 ?_
        exact g_iret C dX4_slotIn_18 ⟨⟨by omega, c8, h4⟩, rfl⟩
      · refine g_iinc C [(2, vI (i + 1)), (0, .ref a), (1, vI p)] 0 rfl dX4_slotIn_11 (by decide) rfl ?_
        refine g_goto C 2 dX4_slotIn_14 (by decide) ?_
        refine g_sub [0, 1, 2] rfl ?_
        refine ih (i + 1) ?_ (by omega) (fun j q1 q2 => ?_)
        · by_cases hi : i = s0
          · subst hi; omega
          · omega
        · by_cases hj : j = i
          · subst hj; exact c8
          · exact h4 j q1 (by omega)
  refine g_iconst C 0 rfl dX4_slotIn_0 ?_
  refine g_istore_n C [(2, vI 0), (0, .ref a), (1, vI p)] dX4_slotIn_1 rfl (by decide) rfl ?_
  refine g_sub [0, 1, 2] rfl ?_
  exact loop 33 0 (by omega) (by omega) (fun j q1 q2 => absurd q1 (by omega))
set_option maxHeartbeats 4000000 in
set_option maxRecDepth 100000 in
theorem c_X4_cellSize (l : Launch) (D : va_G) (cy : ClassId × ClassId) (g : GT) (V : VT) (n z : Int) (hap : Apart g) (hn : -1 ≤ n ∧ n ≤ 1200) (hz : z = 0 ∨ z = 1) : MetI l yX4_cellSize cX4_cellSize 3 (some .int) 0 D cy g [vI n, vI z] V (fun r V' => r = cellB (1 + 2 * z) n ∧ V' = V) := by
  refine MetI.of (by decide) (Nat.le_of_ble_eq_true rfl) hap ?_
  intro p_ e_ s_ m_ args_ below_ meth_ c_ C
  refine g_iload_n C 0 rfl dX4_cellSize_0 ?_
  refine g_bipush C 100 rfl dX4_cellSize_1 ?_
  refine g_icmp_le C (by unfold rng; omega) (by unfold rng; omega) 11 dX4_cellSize_3 (by decide) (fun c3 => ?_) (fun c3 => ?_)
  · refine g_iload_n C 0 rfl dX4_cellSize_11 ?_
    refine g_iconst C 1 rfl dX4_cellSize_12 ?_
    refine g_iadd C dX4_cellSize_13 ?_
    refine g_iload_n C 1 rfl dX4_cellSize_14 ?_
    refine g_if_eq C (by unfold rng; omega) 22 dX4_cellSize_15 (by decide) (fun c15 => ?_) (fun c15 => ?_)
    · refine g_iconst C 0 rfl dX4_cellSize_22 ?_
      refine g_iadd C dX4_cellSize_23 ?_
      refine g_istore_n C [(2, vI ((n + 1) + 0)), (0, vI n), (1, vI z)] dX4_cellSize_24 rfl (by decide) rfl ?_
      refine g_iload_n C 0 rfl dX4_cellSize_25 ?_
      refine g_iconst C 5 rfl dX4_cellSize_26 ?_
      refine g_icmp_ge C (by unfold rng; omega) (by unfold rng; omega) 34 dX4_cellSize_27 (by decide) (fun c27 => ?_) (fun c27 => ?_)
      · refine g_iload_n C 0 rfl dX4_cellSize_34 ?_
        exact g_iret C dX4_cellSize_35 ⟨by unfold cellB cellA cellH; repeat' split; all_goals omega, rfl⟩
      · refine g_iconst C 5 rfl dX4_cellSize_30 ?_
        refine g_goto C 35 dX4_cellSize_31 (by decide) ?_
        exact g_iret C dX4_cellSize_35 ⟨by unfold cellB cellA cellH; repeat' split; all_goals omega, rfl⟩
    · refine g_iconst C 4 rfl dX4_cellSize_18 ?_
      refine g_goto C 23 dX4_cellSize_19 (by decide) ?_
      refine g_iadd C dX4_cellSize_23 ?_
      refine g_istore_n C [(2, vI ((n + 1) + 4)), (0, vI n), (1, vI z)] dX4_cellSize_24 rfl (by decide) rfl ?_
      refine g_iload_n C 0 rfl dX4_cellSize_25 ?_
      refine g_iconst C 5 rfl dX4_cellSize_26 ?_
      refine g_icmp_ge C (by unfold rng; omega) (by unfold rng; omega) 34 dX4_cellSize_27 (by decide) (fun c27 => ?_) (fun c27 => ?_)
      · refine g_iload_n C 0 rfl dX4_cellSize_34 ?_
        exact g_iret C dX4_cellSize_35 ⟨by unfold cellB cellA cellH; repeat' split; all_goals omega, rfl⟩
      · refine g_iconst C 5 rfl dX4_cellSize_30 ?_
        refine g_goto C 35 dX4_cellSize_31 (by decide) ?_
        exact g_iret C dX4_cellSize_35 ⟨by unfold cellB cellA cellH; repeat' split; all_goals omega, rfl⟩
  · refine g_bipush C 9 rfl dX4_cellSize_6 ?_
    refine g_goto C 14 dX4_cellSize_8 (by decide) ?_
    refine g_iload_n C 1 rfl dX4_cellSize_14 ?_
    refine g_if_eq C (by unfold rng; omega) 22 dX4_cellSize_15 (by decide) (fun c15 => ?_) (fun c15 => ?_)
    · refine g_iconst C 0 rfl dX4_cellSize_22 ?_
      refine g_iadd C dX4_cellSize_23 ?_
      refine g_istore_n C [(2, vI (9 + 0)), (0, vI n), (1, vI z)] dX4_cellSize_24 rfl (by decide) rfl ?_
      refine g_iload_n C 0 rfl dX4_cellSize_25 ?_
      refine g_iconst C 5 rfl dX4_cellSize_26 ?_
      refine g_icmp_ge C (by unfold rng; omega) (by unfold rng; omega) 34 dX4_cellSize_27 (by decide) (fun c27 => ?_) (fun c27 => ?_)
      · refine g_iload_n C 0 rfl dX4_cellSize_34 ?_
        exact g_iret C dX4_cellSize_35 ⟨by unfold cellB cellA cellH; repeat' split; all_goals omega, rfl⟩
      · refine g_iconst C 5 rfl dX4_cellSize_30 ?_
        refine g_goto C 35 dX4_cellSize_31 (by decide) ?_
        exact g_iret C dX4_cellSize_35 ⟨by unfold cellB cellA cellH; repeat' split; all_goals omega, rfl⟩
    · refine g_iconst C 4 rfl dX4_cellSize_18 ?_
      refine g_goto C 23 dX4_cellSize_19 (by decide) ?_
      refine g_iadd C dX4_cellSize_23 ?_
      refine g_istore_n C [(2, vI (9 + 4)), (0, vI n), (1, vI z)] dX4_cellSize_24 rfl (by decide) rfl ?_
      refine g_iload_n C 0 rfl dX4_cellSize_25 ?_
      refine g_iconst C 5 rfl dX4_cellSize_26 ?_
      refine g_icmp_ge C (by unfold rng; omega) (by unfold rng; omega) 34 dX4_cellSize_27 (by decide) (fun c27 => ?_) (fun c27 => ?_)
      · refine g_iload_n C 0 rfl dX4_cellSize_34 ?_
        exact g_iret C dX4_cellSize_35 ⟨by unfold cellB cellA cellH; repeat' split; all_goals omega, rfl⟩
      · refine g_iconst C 5 rfl dX4_cellSize_30 ?_
        refine g_goto C 35 dX4_cellSize_31 (by decide) ?_
        exact g_iret C dX4_cellSize_35 ⟨by unfold cellB cellA cellH; repeat' split; all_goals omega, rfl⟩
set_option maxHeartbeats 4000000 in
set_option maxRecDepth 100000 in
theorem c_X4_chainSize (l : Launch) (D : va_G) (cy : ClassId × ClassId) (g : GT) (V : VT) (n : Int) (hap : Apart g) (hn : 0 ≤ n ∧ n ≤ 1200) : MetI l yX4_chainSize cX4_chainSize 1 (some .int) 0 D cy g [vI n] V (fun r V' => r = chP n ∧ V' = V) := by
  refine MetI.of (by decide) (Nat.le_of_ble_eq_true rfl) hap ?_
  intro p_ e_ s_ m_ args_ below_ meth_ c_ C
  refine g_iload_n C 0 rfl dX4_chainSize_0 ?_
  refine g_bipush C 100 rfl dX4_chainSize_1 ?_
  refine g_icmp_le C (by unfold rng; omega) (by unfold rng; omega) 20 dX4_chainSize_3 (by decide) (fun c3 => ?_) (fun c3 => ?_)
  · refine g_iconst C 0 rfl dX4_chainSize_20 ?_
    refine g_iret C dX4_chainSize_21 ⟨?_, rfl⟩
    unfold chP
    first | rw [if_pos (by omega)]; omega | rw [if_neg (by omega)]
  · refine g_iload_n C 0 rfl dX4_chainSize_6 ?_
    refine g_sipush C 240 rfl dX4_chainSize_7 ?_
    refine g_iadd C dX4_chainSize_10 ?_
    refine g_iconst C 1 rfl dX4_chainSize_11 ?_
    refine g_isub C dX4_chainSize_12 ?_
    refine g_sipush C 240 rfl dX4_chainSize_13 ?_
    refine g_idiv C (by omega) (by omega) dX4_chainSize_16 ?_
    refine g_goto C 21 dX4_chainSize_17 (by decide) ?_
    refine g_iret C dX4_chainSize_21 ⟨?_, rfl⟩
    unfold chP
    first | rw [if_pos (by omega)]; omega | rw [if_neg (by omega)]
set_option maxHeartbeats 4000000 in
set_option maxRecDepth 100000 in
theorem c_X4_isValue (l : Launch) (D : va_G) (cy : ClassId × ClassId) (g : GT) (V : VT) (n z : Int) (hap : Apart g) (hn : rng n) (hz : rng z) : MetI l yX4_isValue cX4_isValue 2 (some .boolean) 0 D cy g [vI n, vI z] V (fun r V' => r = (if (0 ≤ n ∧ n ≤ 1200) ∧ (0 ≤ z ∧ z ≤ 255) then 1 else 0) ∧ V' = V) := by
  unfold rng at hn hz
  refine MetI.of (by decide) (Nat.le_of_ble_eq_true rfl) hap ?_
  intro p_ e_ s_ m_ args_ below_ meth_ c_ C
  refine g_iload_n C 0 rfl dX4_isValue_0 ?_
  refine g_if_lt C (by unfold rng; omega) 26 dX4_isValue_1 (by decide) (fun c1 => ?_) (fun c1 => ?_)
  · refine g_iconst C 0 rfl dX4_isValue_26 ?_
    exact g_zret C (by omega) dX4_isValue_27 ⟨by first | rw [if_pos ⟨⟨by omega, by omega⟩, by omega, by omega⟩] | rw [if_neg (by omega)], rfl⟩
  · refine g_iload_n C 0 rfl dX4_isValue_4 ?_
    refine g_sipush C 1200 rfl dX4_isValue_5 ?_
    refine g_icmp_gt C (by unfold rng; omega) (by unfold rng; omega) 26 dX4_isValue_8 (by decide) (fun c8 => ?_) (fun c8 => ?_)
    · refine g_iconst C 0 rfl dX4_isValue_26 ?_
      exact g_zret C (by omega) dX4_isValue_27 ⟨by first | rw [if_pos ⟨⟨by omega, by omega⟩, by omega, by omega⟩] | rw [if_neg (by omega)], rfl⟩
    · refine g_iload_n C 1 rfl dX4_isValue_11 ?_
      refine g_if_lt C (by unfold rng; omega) 26 dX4_isValue_12 (by decide) (fun c12 => ?_) (fun c12 => ?_)
      · refine g_iconst C 0 rfl dX4_isValue_26 ?_
        exact g_zret C (by omega) dX4_isValue_27 ⟨by first | rw [if_pos ⟨⟨by omega, by omega⟩, by omega, by omega⟩] | rw [if_neg (by omega)], rfl⟩
      · refine g_iload_n C 1 rfl dX4_isValue_15 ?_
        refine g_sipush C 255 rfl dX4_isValue_16 ?_
        refine g_icmp_gt C (by unfold rng; omega) (by unfold rng; omega) 26 dX4_isValue_19 (by decide) (fun c19 => ?_) (fun c19 => ?_)
        · refine g_iconst C 0 rfl dX4_isValue_26 ?_
          exact g_zret C (by omega) dX4_isValue_27 ⟨by first | rw [if_pos ⟨⟨by omega, by omega⟩, by omega, by omega⟩] | rw [if_neg (by omega)], rfl⟩
        · refine g_iconst C 1 rfl dX4_isValue_22 ?_
          refine g_goto C 27 dX4_isValue_23 (by decide) ?_
          exact g_zret C (by omega) dX4_isValue_27 ⟨by first | rw [if_pos ⟨⟨by omega, by omega⟩, by omega, by omega⟩] | rw [if_neg (by omega)], rfl⟩
set_option maxHeartbeats 4000000 in
set_option maxRecDepth 100000 in
theorem c_X4_isRecord (l : Launch) (D : va_G) (cy : ClassId × ClassId) (g : GT) (V : VT) (w : Int → Int → Int) (a : Nat) (o : Int) (x : Int) (hap : Apart g) (hm : isMod g a o) (hw : mwf w) (hx : rng x) : MetI l yX4_isRecord cX4_isRecord 2 (some .boolean) 0 D cy g [.ref a, vI x] (setp V o w) (fun r V' => r = (if (0 ≤ x ∧ x < 3072) ∧ w 1 (6528 + x) ≠ -1 then 1 else 0) ∧ V' = setp V o w) := by
  obtain ⟨hm1, r1, r2, r3, ⟨hr1, ha1⟩, ⟨hr2, ha2⟩, ⟨hr3, ha3⟩⟩ := id hm
  unfold rng at hx
  refine MetI.of (by decide) (Nat.le_of_ble_eq_true rfl) hap ?_
  intro p_ e_ s_ m_ args_ below_ meth_ c_ C
  refine g_iload_n C 1 rfl dX4_isRecord_0 ?_
  refine g_if_lt C (by unfold rng; omega) 29 dX4_isRecord_1 (by decide) (fun c1 => ?_) (fun c1 => ?_)
  · refine g_iconst C 0 rfl dX4_isRecord_29 ?_
    exact g_zret C (by omega) dX4_isRecord_30 ⟨by first | rw [if_pos ⟨⟨by omega, by omega⟩, by omega⟩] | rw [if_neg (by omega)], rfl⟩
  · refine g_iload_n C 1 rfl dX4_isRecord_4 ?_
    refine g_sipush C 3072 rfl dX4_isRecord_5 ?_
    refine g_icmp_ge C (by unfold rng; omega) (by unfold rng; omega) 29 dX4_isRecord_8 (by decide) (fun c8 => ?_) (fun c8 => ?_)
    · refine g_iconst C 0 rfl dX4_isRecord_29 ?_
      exact g_zret C (by omega) dX4_isRecord_30 ⟨by first | rw [if_pos ⟨⟨by omega, by omega⟩, by omega⟩] | rw [if_neg (by omega)], rfl⟩
    · refine g_aload_n C 0 rfl dX4_isRecord_11 ?_
      refine gf_Mod_d C hm1 hr1 lf_X4_7 dX4_isRecord_12 ?_
      refine g_sipush C 6528 rfl dX4_isRecord_15 ?_
      refine g_iload_n C 1 rfl dX4_isRecord_18 ?_
      refine g_iadd C dX4_isRecord_19 ?_
      refine s_iald C (w 1 (6528 + x)) ha1 (by omega) (by decide) rfl dX4_isRecord_20 ?_
      refine g_iconst C (-1) rfl dX4_isRecord_21 ?_
      refine g_icmp_eq C (by have z9 := hw (6528 + x) (by omega) (by omega); unfold sm at z9; unfold rng; omega) (by unfold rng; omega) 29 dX4_isRecord_22 (by decide) (fun c22 => ?_) (fun c22 => ?_)
      · refine g_iconst C 0 rfl dX4_isRecord_29 ?_
        exact g_zret C (by omega) dX4_isRecord_30 ⟨by first | rw [if_pos ⟨⟨by omega, by omega⟩, by omega⟩] | rw [if_neg (by omega)], rfl⟩
      · refine g_iconst C 1 rfl dX4_isRecord_25 ?_
        refine g_goto C 30 dX4_isRecord_26 (by decide) ?_
        exact g_zret C (by omega) dX4_isRecord_30 ⟨by first | rw [if_pos ⟨⟨by omega, by omega⟩, by omega⟩] | rw [if_neg (by omega)], rfl⟩
set_option maxHeartbeats 4000000 in
set_option maxRecDepth 100000 in
theorem c_X4_keep (l : Launch) (D : va_G) (cy : ClassId × ClassId) (g : GT) (V : VT) (w : Int → Int → Int) (a : Nat) (o : Int) (x c n sd f : Int) (hap : Apart g) (hm : isMod g a o) (hx : 0 ≤ x ∧ x < 3072) : MetV l yX4_keep cX4_keep 6 none 0 D cy g [.ref a, vI x, vI c, vI n, vI sd, vI f] (setp V o w) (fun V' => V' = setp V o (mKeep w x c n sd f)) := by
  obtain ⟨hm1, r1, r2, r3, ⟨hr1, ha1⟩, ⟨hr2, ha2⟩, ⟨hr3, ha3⟩⟩ := id hm
  refine MetV.of (by decide) (Nat.le_of_ble_eq_true rfl) hap ?_
  intro p_ e_ s_ m_ args_ below_ meth_ c_ C
  refine g_aload_n C 0 rfl dX4_keep_0 ?_
  refine gf_Mod_d C hm1 hr1 lf_X4_7 dX4_keep_1 ?_
  refine g_sipush C 6528 rfl dX4_keep_4 ?_
  refine g_iload_n C 1 rfl dX4_keep_7 ?_
  refine g_iadd C dX4_keep_8 ?_
  refine g_iload_n C 2 rfl dX4_keep_9 ?_
  refine s_iast C ha1 (by omega) (by decide) dX4_keep_10 ?_
  refine g_aload_n C 0 rfl dX4_keep_11 ?_
  refine gf_Mod_d C hm1 hr1 lf_X4_7 dX4_keep_12 ?_
  refine g_sipush C 9600 rfl dX4_keep_15 ?_
  refine g_iload_n C 1 rfl dX4_keep_18 ?_
  refine g_iadd C dX4_keep_19 ?_
  refine g_iload_n C 3 rfl dX4_keep_20 ?_
  refine s_iast C ha1 (by omega) (by decide) dX4_keep_21 ?_
  refine g_aload_n C 0 rfl dX4_keep_22 ?_
  refine gf_Mod_d C hm1 hr1 lf_X4_7 dX4_keep_23 ?_
  refine g_sipush C 12672 rfl dX4_keep_26 ?_
  refine g_iload_n C 1 rfl dX4_keep_29 ?_
  refine g_iadd C dX4_keep_30 ?_
  refine g_iload C 4 rfl dX4_keep_31 ?_
  refine s_iast C ha1 (by omega) (by decide) dX4_keep_33 ?_
  refine g_aload_n C 0 rfl dX4_keep_34 ?_
  refine gf_Mod_d C hm1 hr1 lf_X4_7 dX4_keep_35 ?_
  refine g_sipush C 15744 rfl dX4_keep_38 ?_
  refine g_iload_n C 1 rfl dX4_keep_41 ?_
  refine g_iadd C dX4_keep_42 ?_
  refine g_iload C 5 rfl dX4_keep_43 ?_
  refine s_iast C ha1 (by omega) (by decide) dX4_keep_45 ?_
  exact g_vret C dX4_keep_46 rfl
set_option maxHeartbeats 4000000 in
set_option maxRecDepth 100000 in
theorem c_X4_note (l : Launch) (D : va_G) (cy : ClassId × ClassId) (g : GT) (V : VT) (w : Int → Int → Int) (a : Nat) (o : Int) (k x n sd : Int) (hap : Apart g) (hm : isMod g a o) (hc : 0 ≤ w 0 3 ∧ w 0 3 < 4000) : MetV l yX4_note cX4_note 6 none 0 D cy g [.ref a, vI k, vI x, vI n, vI sd] (setp V o w) (fun V' => V' = setp V o (mNote w k x n sd)) := by
  obtain ⟨hm1, r1, r2, r3, ⟨hr1, ha1⟩, ⟨hr2, ha2⟩, ⟨hr3, ha3⟩⟩ := id hm
  refine MetV.of (by decide) (Nat.le_of_ble_eq_true rfl) hap ?_
  intro p_ e_ s_ m_ args_ below_ meth_ c_ C
  refine g_iconst C 4 rfl dX4_note_0 ?_
  refine g_aload_n C 0 rfl dX4_note_1 ?_
  refine sf_Mod_changeCount C (w 0 3) hm1 rfl lf_X4_95 dX4_note_2 ?_
  refine g_imul C dX4_note_5 ?_
  refine g_istore C [(5, vI (4 * (w 0 3))), (0, .ref a), (1, vI k), (2, vI x), (3, vI n), (4, vI sd)] dX4_note_6 (by decide) rfl ?_
  refine g_aload_n C 1 rfl dX4_note_8 ?_
  refine gf_Mod_changes C hm1 hr3 lf_X4_16 dX4_note_9 ?_
  refine g_iload C 0 rfl dX4_note_12 ?_
  refine g_iload_n C 2 rfl dX4_note_14 ?_
  refine s_iast C ha3 (by omega) (by decide) dX4_note_15 ?_
  refine g_aload_n C 1 rfl dX4_note_16 ?_
  refine gf_Mod_changes C hm1 hr3 lf_X4_16 dX4_note_17 ?_
  refine g_iload C 0 rfl dX4_note_20 ?_
  refine g_iconst C 1 rfl dX4_note_22 ?_
  refine g_iadd C dX4_note_23 ?_
  refine g_iload_n C 3 rfl dX4_note_24 ?_
  refine s_iast C ha3 (by omega) (by decide) dX4_note_25 ?_
  refine g_aload_n C 1 rfl dX4_note_26 ?_
  refine gf_Mod_changes C hm1 hr3 lf_X4_16 dX4_note_27 ?_
  refine g_iload C 0 rfl dX4_note_30 ?_
  refine g_iconst C 2 rfl dX4_note_32 ?_
  refine g_iadd C dX4_note_33 ?_
  refine g_iload_n C 4 rfl dX4_note_34 ?_
  refine s_iast C ha3 (by omega) (by decide) dX4_note_35 ?_
  refine g_aload_n C 1 rfl dX4_note_36 ?_
  refine gf_Mod_changes C hm1 hr3 lf_X4_16 dX4_note_37 ?_
  refine g_iload C 0 rfl dX4_note_40 ?_
  refine g_iconst C 3 rfl dX4_note_42 ?_
  refine g_iadd C dX4_note_43 ?_
  refine g_iload C 5 rfl dX4_note_44 ?_
  refine s_iast C ha3 (by omega) (by decide) dX4_note_46 ?_
  refine g_aload_n C 1 rfl dX4_note_47 ?_
  refine g_dupR C dX4_note_48 ?_
  refine sf_Mod_changeCount C (w 0 3) hm1 (by simp [upw]) lf_X4_95 dX4_note_49 ?_
  refine g_iconst C 1 rfl dX4_note_52 ?_
  refine g_iadd C dX4_note_53 ?_
  refine sp_Mod_changeCount C hm1 lf_X4_95 dX4_note_54 ?_
  exact g_vret C dX4_note_57 rfl
set_option maxHeartbeats 4000000 in
set_option maxRecDepth 100000 in
theorem c_X4_fails (l : Launch) (D : va_G) (cy : ClassId × ClassId) (g : GT) (V : VT) (w : Int → Int → Int) (a : Nat) (o : Int) (z k : Int) (hap : Apart g) (hm : isMod g a o) (hz : z = 0 ∨ z = 1) : MetI l yX4_fails cX4_fails 3 (some .boolean) 0 D cy g [.ref a, vI z, vI k] (setp V o w) (fun r V' => r = z ∧ V' = setp V o (upw w 0 7 (if z = 1 then k else 0))) := by
  obtain ⟨hm1, r1, r2, r3, ⟨hr1, ha1⟩, ⟨hr2, ha2⟩, ⟨hr3, ha3⟩⟩ := id hm
  refine MetI.of (by decide) (Nat.le_of_ble_eq_true rfl) hap ?_
  intro p_ e_ s_ m_ args_ below_ meth_ c_ C
  refine g_aload_n C 0 rfl dX4_fails_0 ?_
  refine g_iload_n C 1 rfl dX4_fails_1 ?_
  refine g_if_eq C (by unfold rng; omega) 9 dX4_fails_2 (by decide) (fun c2 => ?_) (fun c2 => ?_)
  · refine g_iconst C 0 rfl dX4_fails_9 ?_
    refine sp_Mod_thrown C hm1 lf_X4_23 dX4_fails_10 ?_
    refine g_iload_n C 1 rfl dX4_fails_13 ?_
    refine g_zret C hz dX4_fails_14 ⟨rfl, ?_⟩
    congr 1
    first | rw [if_pos (by omega)] | rw [if_neg (by omega)]
  · refine g_iload_n C 2 rfl dX4_fails_5 ?_
    refine g_goto C 10 dX4_fails_6 (by decide) ?_
    refine sp_Mod_thrown C hm1 lf_X4_23 dX4_fails_10 ?_
    refine g_iload_n C 1 rfl dX4_fails_13 ?_
    refine g_zret C hz dX4_fails_14 ⟨rfl, ?_⟩
    congr 1
    first | rw [if_pos (by omega)] | rw [if_neg (by omega)]
set_option maxHeartbeats 4000000 in
set_option maxRecDepth 100000 in
theorem c_X4_thrown (l : Launch) (D : va_G) (cy : ClassId × ClassId) (g : GT) (V : VT) (w : Int → Int → Int) (a : Nat) (o : Int) (hap : Apart g) (hm : isMod g a o) : MetI l yX4_thrown cX4_thrown 1 (some .int) 0 D cy g [.ref a] (setp V o w) (fun r V' => r = w 0 7 ∧ V' = setp V o w) := by
  obtain ⟨hm1, r1, r2, r3, ⟨hr1, ha1⟩, ⟨hr2, ha2⟩, ⟨hr3, ha3⟩⟩ := id hm
  refine MetI.of (by decide) (Nat.le_of_ble_eq_true rfl) hap ?_
  intro p_ e_ s_ m_ args_ below_ meth_ c_ C
  refine g_aload_n C 0 rfl dX4_thrown_0 ?_
  refine sf_Mod_thrown C (w 0 7) hm1 rfl lf_X4_23 dX4_thrown_1 ?_
  exact g_iret C dX4_thrown_4 ⟨rfl, rfl⟩
end
section
theorem mwf_up {w : Int → Int → Int} {k v : Int} (h : mwf w) (hv : sm v) : mwf (upw w 1 k v) := by
  intro j h1 h2
  unfold upw
  split
  · exact hv
  · exact h j h1 h2
theorem mwf_up0 {w : Int → Int → Int} {t k v : Int} (h : mwf w) (ht : t ≠ 1) : mwf (upw w t k v) := by
  intro j h1 h2
  rw [upw_t (fun q => ht q.symm)]
  exact h j h1 h2
theorem mSz_low {w : Int → Int → Int} {k v p s : Int} (hk : k < 384) (hp : 0 ≤ p) (hs : 0 ≤ s) : mSz (upw w 1 k v) p s = mSz w p s := by unfold mSz; rw [upw_j (by omega)]
theorem mSl_congr {w u : Int → Int → Int} {p : Int} {n : Nat} (h : ∀ s : Int, 0 ≤ s → s < n → mSz u p s = mSz w p s) : mSl u p n = mSl w p n := by
  induction n with
  | zero => rfl
  | succ n ih => unfold mSl; rw [ih (fun s h1 h2 => h s h1 (by omega)), h n (by omega) (by omega)]
theorem mSl_low {w : Int → Int → Int} {k v p : Int} (hk : k < 384) (hp : 0 ≤ p) : mSl (upw w 1 k v) p 32 = mSl w p 32 := mSl_congr (fun s h1 _ => mSz_low hk hp h1)
theorem mTk_low {w : Int → Int → Int} {k v p : Int} (hk : k < 384) (hp : 0 ≤ p) : mTk (upw w 1 k v) p = mTk w p := sumF_congr (fun s h1 _ => mSz_low hk hp h1)
theorem mCe_low {w : Int → Int → Int} {k v p : Int} (hk : k < 384) (hp : 0 ≤ p) : mCe (upw w 1 k v) p = mCe w p := sumF_congr (fun s h1 _ => by unfold mCf; rw [mSz_low hk hp h1])
def mAll (w : Int → Int → Int) (p s : Int) : Int := if s < mSl w p 32 then mSl w p 32 else s + 1
def mE0 (w : Int → Int → Int) (p : Int) : Int := if w 1 p = 1 then w 1 (96 + p) else 0
def mPutE (w : Int → Int → Int) (p s z : Int) : Int := if mSz w p s = 0 ∨ mSz w p s < z then (if 248 - 4 * mAll w p s - mE0 w p < z then mTk w p - mSz w p s + z else mE0 w p + z) else mE0 w p
def mPutC (w : Int → Int → Int) (p s z : Int) : Int := if mSz w p s = 0 ∨ mSz w p s < z then (if 248 - 4 * mAll w p s - mE0 w p < z then (if w 0 6 = 0 then 1 else 0) else 0) else 0
def mPut (w : Int → Int → Int) (p s z ow : Int) : Int → Int → Int := upw (upw (upw (upw (upw w 1 p 1) 0 4 (w 0 4 + mPutC w p s z)) 1 (96 + p) (mPutE w p s z)) 1 (384 + 32 * p + s) z) 1 (3456 + 32 * p + s) ow
def okm (w : Int → Int → Int) (x y i : Int) : Prop := w 1 i = 1 ∧ i ≠ x ∧ i ≠ y ∧ mCe w i ≠ 32
def isLCd (ok : Int → Prop) (cl : Int → Int) (n m r : Int) : Prop := (r = -1 ∧ ∀ i, m ≤ i → i < 96 → ok i → 31 * cl i < n) ∨ (m ≤ r ∧ r < 96 ∧ ok r ∧ n ≤ 31 * cl r ∧ (∀ i, m ≤ i → i < 96 → ok i → n ≤ 31 * cl i → cl r ≤ cl i) ∧ ∀ i, m ≤ i → i < r → ok i → n ≤ 31 * cl i → cl r < cl i)
def isFRd (ok : Int → Prop) (rm : Int → Int) (n m r : Int) : Prop := (r = -1 ∧ ∀ i, m ≤ i → i < 96 → ok i → rm i < n) ∨ (m ≤ r ∧ r < 96 ∧ ok r ∧ n ≤ rm r ∧ ∀ i, m ≤ i → i < r → ok i → rm i < n)
def mCl (w : Int → Int → Int) (i : Int) : Int := mRoom w i / 31
def isPlM (w : Int → Int → Int) (n x y r : Int) : Prop := (r ≠ -1 ∧ isLCd (okm w x y) (mCl w) n 0 r) ∨ (isLCd (okm w x y) (mCl w) n 0 (-1) ∧ ((r ≠ -1 ∧ isFRd (okm w x y) (mRoom w) n 0 r) ∨ (isFRd (okm w x y) (mRoom w) n 0 (-1) ∧ isLF (w 1) 0 r)))
/-- one page more of a chain: w, first, last -/
def mtStep (len : Int) (k : Nat) (S : (Int → Int → Int) × Int × Int) : (Int → Int → Int) × Int × Int :=
  if S.2.2 = -1 then (upw (upw (upw S.1 1 (lfr (S.1 1)) 2) 1 (192 + lfr (S.1 1)) (-1)) 1 (288 + lfr (S.1 1)) (if len - 240 * k < 240 then len - 240 * k else 240), lfr (S.1 1), lfr (S.1 1))
  else (upw (upw (upw (upw S.1 1 (lfr (S.1 1)) 2) 1 (192 + lfr (S.1 1)) (-1)) 1 (288 + lfr (S.1 1)) (if len - 240 * k < 240 then len - 240 * k else 240)) 1 (192 + S.2.2) (lfr (S.1 1)), S.2.1, lfr (S.1 1))
def mtN (w : Int → Int → Int) (len : Int) : Nat → (Int → Int → Int) × Int × Int
  | 0 => (w, -1, -1)
  | k + 1 => mtStep len k (mtN w len k)
theorem mt_inv {w : Int → Int → Int} {len : Int} (hw : mwf w) (hn : 0 ≤ len ∧ len ≤ 1200) (m : Nat) (hm5 : m ≤ 5) (hm : (m : Int) ≤ cntK (w 1) 0 96) : ∀ k : Nat, k ≤ m → mwf (mtN w len k).1 ∧ (-1 ≤ (mtN w len k).2.2 ∧ (mtN w len k).2.2 < 96) ∧ cntK ((mtN w len k).1 1) 0 96 = cntK (w 1) 0 96 - k ∧ (-1 ≤ (mtN w len k).2.1 ∧ (mtN w len k).2.1 < 96) := by
  intro k
  induction k with
  | zero => intro _; exact ⟨hw, ⟨by simp only [mtN]; omega, by simp only [mtN]; omega⟩, by simp [mtN], ⟨by simp only [mtN]; omega, by simp only [mtN]; omega⟩⟩
  | succ k ih =>
    intro hk
    obtain ⟨i1, i2, i4, i5⟩ := ih (by omega)
    have hpos : 0 < cntK ((mtN w len k).1 1) 0 96 := by rw [i4]; omega
    obtain ⟨f, f1, f2, f3⟩ := cntK_pos hpos
    have hl := lfr_LF ((mtN w len k).1 1)
    have hst : mtN w len (k + 1) = mtStep len k (mtN w len k) := rfl
    rw [hst]
    generalize mtN w len k = S at *
    generalize hr : lfr (S.1 1) = r at *
    rcases hl with ⟨-, kk⟩ | ⟨k1, k2, k3, k4⟩
    · exact absurd f3 (kk f f1 (by omega))
    · have hv : sm (if len - 240 * (k : Int) < 240 then len - 240 * k else 240) := by unfold sm; split <;> omega
      have hs2 : sm 2 := ⟨by decide, by decide⟩
      have hs1 : sm (-1) := ⟨by decide, by decide⟩
      have m1 := mwf_up (k := 288 + r) (mwf_up (k := 192 + r) (mwf_up (k := r) i1 hs2) hs1) hv
      have hd : ∀ i : Int, 0 ≤ i → i < (96 : Nat) → upw (upw (upw S.1 1 r 2) 1 (192 + r) (-1)) 1 (288 + r) (if len - 240 * (k : Int) < 240 then len - 240 * k else 240) 1 i = upw S.1 1 r 2 1 i := by
        intro i q1 q2
        rw [upw_j (by omega), upw_j (by omega)]
      have hd2 : ∀ z v i : Int, 0 ≤ z → 0 ≤ i → i < (96 : Nat) → upw (upw (upw (upw S.1 1 r 2) 1 (192 + r) (-1)) 1 (288 + r) (if len - 240 * (k : Int) < 240 then len - 240 * k else 240)) 1 (192 + z) v 1 i = upw S.1 1 r 2 1 i := by
        intro z v i q0 q1 q2
        rw [upw_j (by omega), hd i q1 q2]
      have hct : cntK (upw S.1 1 r 2 1) 0 96 = cntK (S.1 1) 0 96 - 1 := cntK_set ⟨k1, by omega⟩ k3 (by rw [upw_at]; decide) (fun i _ _ hi => upw_j hi)
      unfold mtStep
      rw [hr]
      split
      · exact ⟨m1, ⟨by show -1 ≤ r; omega, by show r < 96; omega⟩, by rw [cntK_congr hd, hct, i4]; omega, ⟨by show -1 ≤ r; omega, by show r < 96; omega⟩⟩
      · exact ⟨mwf_up m1 (by unfold sm; omega), ⟨by show -1 ≤ r; omega, by show r < 96; omega⟩, by rw [cntK_congr (fun i q1 q2 => hd2 S.2.2 r i (by omega) q1 q2), hct, i4]; omega, i5⟩
set_option maxHeartbeats 4000000 in
set_option maxRecDepth 100000 in
theorem c_X4_takeCell (l : Launch) (D : va_G) (cy : ClassId × ClassId) (g : GT) (V : VT) (w : Int → Int → Int) (a : Nat) (o : Int) (p s : Int) (hap : Apart g) (hm : isMod g a o) (hw : mwf w) (hp : 0 ≤ p ∧ p < 96) (hs : 0 ≤ s ∧ s < 32) : MetV l yX4_takeCell cX4_takeCell 3 none 2 D cy g [.ref a, vI p, vI s] (setp V o w) (fun V' => V' = setp V o (mTake w p s)) := by
  obtain ⟨hm1, r1, r2, r3, ⟨hr1, ha1⟩, ⟨hr2, ha2⟩, ⟨hr3, ha3⟩⟩ := id hm
  refine MetV.of (by decide) (Nat.le_of_ble_eq_true rfl) hap ?_
  intro p_ e_ s_ m_ args_ below_ meth_ c_ C
  refine g_aload_n C 0 rfl dX4_takeCell_0 ?_
  refine gf_Mod_d C hm1 hr1 lf_X4_7 dX4_takeCell_1 ?_
  refine g_sipush C 384 rfl dX4_takeCell_4 ?_
  refine g_bipush C 32 rfl dX4_takeCell_7 ?_
  refine g_iload_n C 1 rfl dX4_takeCell_9 ?_
  refine g_imul C dX4_takeCell_10 ?_
  refine g_iadd C dX4_takeCell_11 ?_
  refine g_iload_n C 2 rfl dX4_takeCell_12 ?_
  refine g_iadd C dX4_takeCell_13 ?_
  refine g_iconst C 0 rfl dX4_takeCell_14 ?_
  refine s_iast C ha1 (by omega) (by decide) dX4_takeCell_15 ?_
  refine g_aload_n C 0 rfl dX4_takeCell_16 ?_
  refine g_iload_n C 1 rfl dX4_takeCell_17 ?_
  refine g_callI C [vI p] [] (c_X4_cells l D cy g V (upw w 1 (384 + 32 * p + s) 0) a o p hap hm (mwf_up hw (by unfold sm; omega)) hp) lm_X4_45 (rcv_Mod hm.1) rfl (Nat.le_of_ble_eq_true rfl) ⟨(Nat.le_of_ble_eq_true rfl), (Nat.le_of_ble_eq_true rfl)⟩ ⟨Nat.zero_le _, Nat.zero_le _⟩ dX4_takeCell_18 ?_
  rintro _ _ ⟨rfl, rfl⟩
  have hcb : 0 ≤ mCe (upw w 1 (384 + 32 * p + s) 0) p ∧ mCe (upw w 1 (384 + 32 * p + s) 0) p ≤ 32 := mCf_bd (upw w 1 (384 + 32 * p + s) 0) p 32
  refine g_if_ne C (by unfold rng; omega) 41 dX4_takeCell_21 (by decide) (fun c21 => ?_) (fun c21 => ?_)
  · refine g_vret C dX4_takeCell_41 ?_
    congr 1
    unfold mTake
    first | rw [if_pos (by assumption)] | rw [if_neg (by assumption)]
  · refine g_aload_n C 0 rfl dX4_takeCell_24 ?_
    refine gf_Mod_d C hm1 hr1 lf_X4_7 dX4_takeCell_25 ?_
    refine g_iload_n C 1 rfl dX4_takeCell_28 ?_
    refine g_iconst C 0 rfl dX4_takeCell_29 ?_
    refine s_iast C ha1 (by omega) (by decide) dX4_takeCell_30 ?_
    refine g_aload_n C 0 rfl dX4_takeCell_31 ?_
    refine gf_Mod_d C hm1 hr1 lf_X4_7 dX4_takeCell_32 ?_
    refine g_bipush C 96 rfl dX4_takeCell_35 ?_
    refine g_iload_n C 1 rfl dX4_takeCell_37 ?_
    refine g_iadd C dX4_takeCell_38 ?_
    refine g_iconst C 0 rfl dX4_takeCell_39 ?_
    refine s_iast C ha1 (by omega) (by decide) dX4_takeCell_40 ?_
    refine g_vret C dX4_takeCell_41 ?_
    congr 1
    unfold mTake
    first | rw [if_pos (by assumption)] | rw [if_neg (by assumption)]
set_option maxHeartbeats 4000000 in
set_option maxRecDepth 100000 in
theorem c_X4_putCell (l : Launch) (D : va_G) (cy : ClassId × ClassId) (g : GT) (V : VT) (w : Int → Int → Int) (a : Nat) (o : Int) (p s z ow : Int) (hap : Apart g) (hm : isMod g a o) (hw : mwf w) (hp : 0 ≤ p ∧ p < 96) (hs : 0 ≤ s ∧ s < 32) (hz : sm z) (hag : w 0 6 = 0 ∨ w 0 6 = 1) : MetV l yX4_putCell cX4_putCell 8 none 2 D cy g [.ref a, vI p, vI s, vI z, vI ow] (setp V o w) (fun V' => V' = setp V o (mPut w p s z ow)) := by
  obtain ⟨hm1, r1, r2, r3, ⟨hr1, ha1⟩, ⟨hr2, ha2⟩, ⟨hr3, ha3⟩⟩ := id hm
  simp only [sm] at hz
  have hsz : sm (mSz w p s) := hw _ (by omega) (by omega)
  have hen : sm (w 1 (96 + p)) := hw _ (by omega) (by omega)
  simp only [sm] at hsz hen
  have hsb := mSl_bd w p 32
  refine MetV.of (by decide) (Nat.le_of_ble_eq_true rfl) hap ?_
  intro p_ e_ s_ m_ args_ below_ meth_ c_ C
  have J : ∀ (u : Int → Int → Int) (e2 : Int), u = upw (upw w 1 p 1) 0 4 (w 0 4 + mPutC w p s z) → e2 = mPutE w p s z → G p_ l e_ (rmd 2) s_ m_ args_ below_ meth_ c_ 8 0 0 (MQ below_ (QcV D cy g (fun V' => V' = setp V o (mPut w p s z ow))) args_ s_ 0 0 (fun q => q ∈ gL g)) D cy g (fun q => q ∈ gL g) s_.heap (setp V o u) 124 [(0, .ref a), (1, vI p), (2, vI s), (3, vI z), (4, vI ow), (6, vI e2)] [] := by
    intro u e2 hu he
    refine g_aload_n C 0 rfl dX4_putCell_124 ?_
    refine gf_Mod_d C hm1 hr1 lf_X4_7 dX4_putCell_125 ?_
    refine g_bipush C 96 rfl dX4_putCell_128 ?_
    refine g_iload_n C 1 rfl dX4_putCell_130 ?_
    refine g_iadd C dX4_putCell_131 ?_
    refine g_iload C 5 rfl dX4_putCell_132 ?_
    refine s_iast C ha1 (by omega) (by decide) dX4_putCell_134 ?_
    refine g_aload_n C 0 rfl dX4_putCell_135 ?_
    refine gf_Mod_d C hm1 hr1 lf_X4_7 dX4_putCell_136 ?_
    refine g_sipush C 384 rfl dX4_putCell_139 ?_
    refine g_bipush C 32 rfl dX4_putCell_142 ?_
    refine g_iload_n C 1 rfl dX4_putCell_144 ?_
    refine g_imul C dX4_putCell_145 ?_
    refine g_iadd C dX4_putCell_146 ?_
    refine g_iload_n C 2 rfl dX4_putCell_147 ?_
    refine g_iadd C dX4_putCell_148 ?_
    refine g_iload_n C 3 rfl dX4_putCell_149 ?_
    refine s_iast C ha1 (by omega) (by decide) dX4_putCell_150 ?_
    refine g_aload_n C 0 rfl dX4_putCell_151 ?_
    refine gf_Mod_d C hm1 hr1 lf_X4_7 dX4_putCell_152 ?_
    refine g_sipush C 3456 rfl dX4_putCell_155 ?_
    refine g_bipush C 32 rfl dX4_putCell_158 ?_
    refine g_iload_n C 1 rfl dX4_putCell_160 ?_
    refine g_imul C dX4_putCell_161 ?_
    refine g_iadd C dX4_putCell_162 ?_
    refine g_iload_n C 2 rfl dX4_putCell_163 ?_
    refine g_iadd C dX4_putCell_164 ?_
    refine g_iload C 4 rfl dX4_putCell_165 ?_
    refine s_iast C ha1 (by omega) (by decide) dX4_putCell_167 ?_
    rw [hu, he]
    exact g_vret C dX4_putCell_168 rfl
  refine g_aload_n C 0 rfl dX4_putCell_0 ?_
  refine g_iload_n C 1 rfl dX4_putCell_1 ?_
  refine g_iload_n C 2 rfl dX4_putCell_2 ?_
  refine g_callI C [vI p, vI s] [] (c_X4_sizeOf l D cy g V w a o p s hap hm (by omega) (by omega)) lm_X4_27 (rcv_Mod hm.1) rfl (Nat.le_of_ble_eq_true rfl) ⟨(Nat.le_of_ble_eq_true rfl), (Nat.le_of_ble_eq_true rfl)⟩ ⟨Nat.zero_le _, Nat.zero_le _⟩ dX4_putCell_3 ?_
  rintro _ _ ⟨rfl, rfl⟩
  refine g_istore C [(5, vI (mSz w p s)), (0, .ref a), (1, vI p), (2, vI s), (3, vI z), (4, vI ow)] dX4_putCell_6 (by decide) rfl ?_
  refine g_aload_n C 1 rfl dX4_putCell_8 ?_
  refine gf_Mod_d C hm1 hr1 lf_X4_7 dX4_putCell_9 ?_
  refine g_bipush C 96 rfl dX4_putCell_12 ?_
  refine g_iload_n C 2 rfl dX4_putCell_14 ?_
  refine g_iadd C dX4_putCell_15 ?_
  refine s_iald C (w 1 (96 + p)) ha1 (by omega) (by decide) rfl dX4_putCell_16 ?_
  refine g_istore C [(6, vI (w 1 (96 + p))), (5, vI (mSz w p s)), (0, .ref a), (1, vI p), (2, vI s), (3, vI z), (4, vI ow)] dX4_putCell_17 (by decide) rfl ?_
  refine g_aload_n C 2 rfl dX4_putCell_19 ?_
  refine gf_Mod_d C hm1 hr1 lf_X4_7 dX4_putCell_20 ?_
  refine g_iload_n C 3 rfl dX4_putCell_23 ?_
  refine s_iald C (w 1 p) ha1 (by omega) (by decide) rfl dX4_putCell_24 ?_
  refine g_iconst C 1 rfl dX4_putCell_25 ?_
  refine g_icmp_eq C (by have z9 := hw (p) (by omega) (by omega); unfold sm at z9; unfold rng; omega) (by unfold rng; omega) 39 dX4_putCell_26 (by decide) (fun c26 => ?_) (fun c26 => ?_)
  · refine g_iload C 1 rfl dX4_putCell_39 ?_
    refine g_if_eq C (by unfold rng; omega) 50 dX4_putCell_41 (by decide) (fun c41 => ?_) (fun c41 => ?_)
    · refine g_aload_n C 2 rfl dX4_putCell_50 ?_
      refine g_iload_n C 3 rfl dX4_putCell_51 ?_
      refine g_callI C [vI p] [] (c_X4_slots l D cy g V w a o p hap hm hw hp) lm_X4_31 (rcv_Mod hm.1) rfl (Nat.le_of_ble_eq_true rfl) ⟨(Nat.le_of_ble_eq_true rfl), (Nat.le_of_ble_eq_true rfl)⟩ ⟨Nat.zero_le _, Nat.zero_le _⟩ dX4_putCell_52 ?_
      rintro _ _ ⟨rfl, rfl⟩
      refine g_iload_n C 4 rfl dX4_putCell_55 ?_
      refine g_icmp_le C (by unfold rng; omega) (by unfold rng; omega) 67 dX4_putCell_56 (by decide) (fun c56 => ?_) (fun c56 => ?_)
      · refine g_iload_n C 4 rfl dX4_putCell_67 ?_
        refine g_iconst C 1 rfl dX4_putCell_68 ?_
        refine g_iadd C dX4_putCell_69 ?_
        refine g_istore C [(7, vI (s + 1)), (6, vI (w 1 (96 + p))), (5, vI (mSz w p s)), (0, .ref a), (1, vI p), (2, vI s), (3, vI z), (4, vI ow)] dX4_putCell_70 (by decide) rfl ?_
        refine g_sipush C 248 rfl dX4_putCell_72 ?_
        refine g_iconst C 4 rfl dX4_putCell_75 ?_
        refine g_iload C 0 rfl dX4_putCell_76 ?_
        refine g_imul C dX4_putCell_78 ?_
        refine g_isub C dX4_putCell_79 ?_
        refine g_iload C 1 rfl dX4_putCell_80 ?_
        refine g_isub C dX4_putCell_82 ?_
        refine g_iload_n C 6 rfl dX4_putCell_83 ?_
        refine g_icmp_ge C (by unfold rng; omega) (by unfold rng; omega) 118 dX4_putCell_84 (by decide) (fun c84 => ?_) (fun c84 => ?_)
        · refine g_iload C 1 rfl dX4_putCell_118 ?_
          refine g_iload_n C 6 rfl dX4_putCell_120 ?_
          refine g_iadd C dX4_putCell_121 ?_
          refine g_istore C [(6, vI ((w 1 (96 + p)) + z)), (7, vI (s + 1)), (5, vI (mSz w p s)), (0, .ref a), (1, vI p), (2, vI s), (3, vI z), (4, vI ow)] dX4_putCell_122 (by decide) rfl ?_
          refine g_sub [3, 4, 5, 6, 7, 0] rfl ?_
          refine J _ _ ?_ ?_
          · have hC : mPutC w p s z = 0 := by unfold mPutC mAll mE0; repeat' split; all_goals first | rfl | omega
            rw [hC, Int.add_zero]
            rw [show upw w 1 p 1 = w from (congrArg (upw w 1 p) c26.symm).trans (upw_id w 1 p)]
            exact (upw_id w 0 4).symm
          · unfold mPutE mAll mE0; repeat' split; all_goals omega
        · refine g_aload_n C 3 rfl dX4_putCell_87 ?_
          refine g_iload_n C 4 rfl dX4_putCell_88 ?_
          refine g_callI C [vI p] [] (c_X4_taken l D cy g V w a o p hap hm hw hp) lm_X4_35 (rcv_Mod hm.1) rfl (Nat.le_of_ble_eq_true rfl) ⟨(Nat.le_of_ble_eq_true rfl), (Nat.le_of_ble_eq_true rfl)⟩ ⟨Nat.zero_le _, Nat.zero_le _⟩ dX4_putCell_89 ?_
          rintro _ _ ⟨rfl, rfl⟩
          refine g_iload C 2 rfl dX4_putCell_92 ?_
          refine g_isub C dX4_putCell_94 ?_
          refine g_istore C [(6, vI ((mTk w p) - (mSz w p s))), (7, vI (s + 1)), (5, vI (mSz w p s)), (0, .ref a), (1, vI p), (2, vI s), (3, vI z), (4, vI ow)] dX4_putCell_95 (by decide) rfl ?_
          refine g_aload_n C 3 rfl dX4_putCell_97 ?_
          refine g_dupR C dX4_putCell_98 ?_
          refine sf_Mod_compacted C (w 0 4) hm1 rfl lf_X4_38 dX4_putCell_99 ?_
          refine g_aload_n C 3 rfl dX4_putCell_102 ?_
          refine sf_Mod_again C (w 0 6) hm1 rfl lf_X4_41 dX4_putCell_103 ?_
          refine g_if_eq C (by unfold rng; omega) 113 dX4_putCell_106 (by decide) (fun c106 => ?_) (fun c106 => ?_)
          · refine g_iconst C 1 rfl dX4_putCell_113 ?_
            refine g_iadd C dX4_putCell_114 ?_
            refine sp_Mod_compacted C hm1 lf_X4_38 dX4_putCell_115 ?_
            refine g_iload C 0 rfl dX4_putCell_118 ?_
            refine g_iload_n C 6 rfl dX4_putCell_120 ?_
            refine g_iadd C dX4_putCell_121 ?_
            refine g_istore C [(6, vI (((mTk w p) - (mSz w p s)) + z)), (7, vI (s + 1)), (5, vI (mSz w p s)), (0, .ref a), (1, vI p), (2, vI s), (3, vI z), (4, vI ow)] dX4_putCell_122 (by decide) rfl ?_
            refine g_sub [3, 4, 5, 6, 7, 0] rfl ?_
            refine J _ _ ?_ ?_
            · have hC : mPutC w p s z = 1 := by unfold mPutC mAll mE0; repeat' split; all_goals first | rfl | omega
              rw [hC]
              rw [show upw w 1 p 1 = w from (congrArg (upw w 1 p) c26.symm).trans (upw_id w 1 p)]
            · unfold mPutE mAll mE0; repeat' split; all_goals omega
          · refine g_iconst C 0 rfl dX4_putCell_109 ?_
            refine g_goto C 114 dX4_putCell_110 (by decide) ?_
            refine g_iadd C dX4_putCell_114 ?_
            refine sp_Mod_compacted C hm1 lf_X4_38 dX4_putCell_115 ?_
            refine g_iload C 0 rfl dX4_putCell_118 ?_
            refine g_iload_n C 6 rfl dX4_putCell_120 ?_
            refine g_iadd C dX4_putCell_121 ?_
            refine g_istore C [(6, vI (((mTk w p) - (mSz w p s)) + z)), (7, vI (s + 1)), (5, vI (mSz w p s)), (0, .ref a), (1, vI p), (2, vI s), (3, vI z), (4, vI ow)] dX4_putCell_122 (by decide) rfl ?_
            refine g_sub [3, 4, 5, 6, 7, 0] rfl ?_
            refine J _ _ ?_ ?_
            · have hC : mPutC w p s z = 0 := by unfold mPutC mAll mE0; repeat' split; all_goals first | rfl | omega
              rw [hC]
              rw [show upw w 1 p 1 = w from (congrArg (upw w 1 p) c26.symm).trans (upw_id w 1 p)]
            · unfold mPutE mAll mE0; repeat' split; all_goals omega
      · refine g_aload_n C 2 rfl dX4_putCell_59 ?_
        refine g_iload_n C 3 rfl dX4_putCell_60 ?_
        refine g_callI C [vI p] [] (c_X4_slots l D cy g V w a o p hap hm hw hp) lm_X4_31 (rcv_Mod hm.1) rfl (Nat.le_of_ble_eq_true rfl) ⟨(Nat.le_of_ble_eq_true rfl), (Nat.le_of_ble_eq_true rfl)⟩ ⟨Nat.zero_le _, Nat.zero_le _⟩ dX4_putCell_61 ?_
        rintro _ _ ⟨rfl, rfl⟩
        refine g_goto C 70 dX4_putCell_64 (by decide) ?_
        refine g_istore C [(7, vI (mSl w p 32)), (6, vI (w 1 (96 + p))), (5, vI (mSz w p s)), (0, .ref a), (1, vI p), (2, vI s), (3, vI z), (4, vI ow)] dX4_putCell_70 (by decide) rfl ?_
        refine g_sipush C 248 rfl dX4_putCell_72 ?_
        refine g_iconst C 4 rfl dX4_putCell_75 ?_
        refine g_iload C 0 rfl dX4_putCell_76 ?_
        refine g_imul C dX4_putCell_78 ?_
        refine g_isub C dX4_putCell_79 ?_
        refine g_iload C 1 rfl dX4_putCell_80 ?_
        refine g_isub C dX4_putCell_82 ?_
        refine g_iload_n C 6 rfl dX4_putCell_83 ?_
        refine g_icmp_ge C (by unfold rng; omega) (by unfold rng; omega) 118 dX4_putCell_84 (by decide) (fun c84 => ?_) (fun c84 => ?_)
        · refine g_iload C 1 rfl dX4_putCell_118 ?_
          refine g_iload_n C 6 rfl dX4_putCell_120 ?_
          refine g_iadd C dX4_putCell_121 ?_
          refine g_istore C [(6, vI ((w 1 (96 + p)) + z)), (7, vI (mSl w p 32)), (5, vI (mSz w p s)), (0, .ref a), (1, vI p), (2, vI s), (3, vI z), (4, vI ow)] dX4_putCell_122 (by decide) rfl ?_
          refine g_sub [3, 4, 5, 6, 7, 0] rfl ?_
          refine J _ _ ?_ ?_
          · have hC : mPutC w p s z = 0 := by unfold mPutC mAll mE0; repeat' split; all_goals first | rfl | omega
            rw [hC, Int.add_zero]
            rw [show upw w 1 p 1 = w from (congrArg (upw w 1 p) c26.symm).trans (upw_id w 1 p)]
            exact (upw_id w 0 4).symm
          · unfold mPutE mAll mE0; repeat' split; all_goals omega
        · refine g_aload_n C 3 rfl dX4_putCell_87 ?_
          refine g_iload_n C 4 rfl dX4_putCell_88 ?_
          refine g_callI C [vI p] [] (c_X4_taken l D cy g V w a o p hap hm hw hp) lm_X4_35 (rcv_Mod hm.1) rfl (Nat.le_of_ble_eq_true rfl) ⟨(Nat.le_of_ble_eq_true rfl), (Nat.le_of_ble_eq_true rfl)⟩ ⟨Nat.zero_le _, Nat.zero_le _⟩ dX4_putCell_89 ?_
          rintro _ _ ⟨rfl, rfl⟩
          refine g_iload C 2 rfl dX4_putCell_92 ?_
          refine g_isub C dX4_putCell_94 ?_
          refine g_istore C [(6, vI ((mTk w p) - (mSz w p s))), (7, vI (mSl w p 32)), (5, vI (mSz w p s)), (0, .ref a), (1, vI p), (2, vI s), (3, vI z), (4, vI ow)] dX4_putCell_95 (by decide) rfl ?_
          refine g_aload_n C 3 rfl dX4_putCell_97 ?_
          refine g_dupR C dX4_putCell_98 ?_
          refine sf_Mod_compacted C (w 0 4) hm1 rfl lf_X4_38 dX4_putCell_99 ?_
          refine g_aload_n C 3 rfl dX4_putCell_102 ?_
          refine sf_Mod_again C (w 0 6) hm1 rfl lf_X4_41 dX4_putCell_103 ?_
          refine g_if_eq C (by unfold rng; omega) 113 dX4_putCell_106 (by decide) (fun c106 => ?_) (fun c106 => ?_)
          · refine g_iconst C 1 rfl dX4_putCell_113 ?_
            refine g_iadd C dX4_putCell_114 ?_
            refine sp_Mod_compacted C hm1 lf_X4_38 dX4_putCell_115 ?_
            refine g_iload C 0 rfl dX4_putCell_118 ?_
            refine g_iload_n C 6 rfl dX4_putCell_120 ?_
            refine g_iadd C dX4_putCell_121 ?_
            refine g_istore C [(6, vI (((mTk w p) - (mSz w p s)) + z)), (7, vI (mSl w p 32)), (5, vI (mSz w p s)), (0, .ref a), (1, vI p), (2, vI s), (3, vI z), (4, vI ow)] dX4_putCell_122 (by decide) rfl ?_
            refine g_sub [3, 4, 5, 6, 7, 0] rfl ?_
            refine J _ _ ?_ ?_
            · have hC : mPutC w p s z = 1 := by unfold mPutC mAll mE0; repeat' split; all_goals first | rfl | omega
              rw [hC]
              rw [show upw w 1 p 1 = w from (congrArg (upw w 1 p) c26.symm).trans (upw_id w 1 p)]
            · unfold mPutE mAll mE0; repeat' split; all_goals omega
          · refine g_iconst C 0 rfl dX4_putCell_109 ?_
            refine g_goto C 114 dX4_putCell_110 (by decide) ?_
            refine g_iadd C dX4_putCell_114 ?_
            refine sp_Mod_compacted C hm1 lf_X4_38 dX4_putCell_115 ?_
            refine g_iload C 0 rfl dX4_putCell_118 ?_
            refine g_iload_n C 6 rfl dX4_putCell_120 ?_
            refine g_iadd C dX4_putCell_121 ?_
            refine g_istore C [(6, vI (((mTk w p) - (mSz w p s)) + z)), (7, vI (mSl w p 32)), (5, vI (mSz w p s)), (0, .ref a), (1, vI p), (2, vI s), (3, vI z), (4, vI ow)] dX4_putCell_122 (by decide) rfl ?_
            refine g_sub [3, 4, 5, 6, 7, 0] rfl ?_
            refine J _ _ ?_ ?_
            · have hC : mPutC w p s z = 0 := by unfold mPutC mAll mE0; repeat' split; all_goals first | rfl | omega
              rw [hC]
              rw [show upw w 1 p 1 = w from (congrArg (upw w 1 p) c26.symm).trans (upw_id w 1 p)]
            · unfold mPutE mAll mE0; repeat' split; all_goals omega
    · refine g_iload_n C 5 rfl dX4_putCell_44 ?_
      refine g_iload C 1 rfl dX4_putCell_45 ?_
      refine g_icmp_le C (by unfold rng; omega) (by unfold rng; omega) 124 dX4_putCell_47 (by decide) (fun c47 => ?_) (fun c47 => ?_)
      · refine g_sub [2, 3, 4, 5, 6, 0] rfl ?_
        refine J _ _ ?_ ?_
        · have hC : mPutC w p s z = 0 := by unfold mPutC mAll mE0; repeat' split; all_goals first | rfl | omega
          rw [hC, Int.add_zero]
          rw [show upw w 1 p 1 = w from (congrArg (upw w 1 p) c26.symm).trans (upw_id w 1 p)]
          exact (upw_id w 0 4).symm
        · unfold mPutE mAll mE0; repeat' split; all_goals omega
      · refine g_aload_n C 2 rfl dX4_putCell_50 ?_
        refine g_iload_n C 3 rfl dX4_putCell_51 ?_
        refine g_callI C [vI p] [] (c_X4_slots l D cy g V w a o p hap hm hw hp) lm_X4_31 (rcv_Mod hm.1) rfl (Nat.le_of_ble_eq_true rfl) ⟨(Nat.le_of_ble_eq_true rfl), (Nat.le_of_ble_eq_true rfl)⟩ ⟨Nat.zero_le _, Nat.zero_le _⟩ dX4_putCell_52 ?_
        rintro _ _ ⟨rfl, rfl⟩
        refine g_iload_n C 4 rfl dX4_putCell_55 ?_
        refine g_icmp_le C (by unfold rng; omega) (by unfold rng; omega) 67 dX4_putCell_56 (by decide) (fun c56 => ?_) (fun c56 => ?_)
        · refine g_iload_n C 4 rfl dX4_putCell_67 ?_
          refine g_iconst C 1 rfl dX4_putCell_68 ?_
          refine g_iadd C dX4_putCell_69 ?_
          refine g_istore C [(7, vI (s + 1)), (6, vI (w 1 (96 + p))), (5, vI (mSz w p s)), (0, .ref a), (1, vI p), (2, vI s), (3, vI z), (4, vI ow)] dX4_putCell_70 (by decide) rfl ?_
          refine g_sipush C 248 rfl dX4_putCell_72 ?_
          refine g_iconst C 4 rfl dX4_putCell_75 ?_
          refine g_iload C 0 rfl dX4_putCell_76 ?_
          refine g_imul C dX4_putCell_78 ?_
          refine g_isub C dX4_putCell_79 ?_
          refine g_iload C 1 rfl dX4_putCell_80 ?_
          refine g_isub C dX4_putCell_82 ?_
          refine g_iload_n C 6 rfl dX4_putCell_83 ?_
          refine g_icmp_ge C (by unfold rng; omega) (by unfold rng; omega) 118 dX4_putCell_84 (by decide) (fun c84 => ?_) (fun c84 => ?_)
          · refine g_iload C 1 rfl dX4_putCell_118 ?_
            refine g_iload_n C 6 rfl dX4_putCell_120 ?_
            refine g_iadd C dX4_putCell_121 ?_
            refine g_istore C [(6, vI ((w 1 (96 + p)) + z)), (7, vI (s + 1)), (5, vI (mSz w p s)), (0, .ref a), (1, vI p), (2, vI s), (3, vI z), (4, vI ow)] dX4_putCell_122 (by decide) rfl ?_
            refine g_sub [3, 4, 5, 6, 7, 0] rfl ?_
            refine J _ _ ?_ ?_
            · have hC : mPutC w p s z = 0 := by unfold mPutC mAll mE0; repeat' split; all_goals first | rfl | omega
              rw [hC, Int.add_zero]
              rw [show upw w 1 p 1 = w from (congrArg (upw w 1 p) c26.symm).trans (upw_id w 1 p)]
              exact (upw_id w 0 4).symm
            · unfold mPutE mAll mE0; repeat' split; all_goals omega
          · refine g_aload_n C 3 rfl dX4_putCell_87 ?_
            refine g_iload_n C 4 rfl dX4_putCell_88 ?_
            refine g_callI C [vI p] [] (c_X4_taken l D cy g V w a o p hap hm hw hp) lm_X4_35 (rcv_Mod hm.1) rfl (Nat.le_of_ble_eq_true rfl) ⟨(Nat.le_of_ble_eq_true rfl), (Nat.le_of_ble_eq_true rfl)⟩ ⟨Nat.zero_le _, Nat.zero_le _⟩ dX4_putCell_89 ?_
            rintro _ _ ⟨rfl, rfl⟩
            refine g_iload C 2 rfl dX4_putCell_92 ?_
            refine g_isub C dX4_putCell_94 ?_
            refine g_istore C [(6, vI ((mTk w p) - (mSz w p s))), (7, vI (s + 1)), (5, vI (mSz w p s)), (0, .ref a), (1, vI p), (2, vI s), (3, vI z), (4, vI ow)] dX4_putCell_95 (by decide) rfl ?_
            refine g_aload_n C 3 rfl dX4_putCell_97 ?_
            refine g_dupR C dX4_putCell_98 ?_
            refine sf_Mod_compacted C (w 0 4) hm1 rfl lf_X4_38 dX4_putCell_99 ?_
            refine g_aload_n C 3 rfl dX4_putCell_102 ?_
            refine sf_Mod_again C (w 0 6) hm1 rfl lf_X4_41 dX4_putCell_103 ?_
            refine g_if_eq C (by unfold rng; omega) 113 dX4_putCell_106 (by decide) (fun c106 => ?_) (fun c106 => ?_)
            · refine g_iconst C 1 rfl dX4_putCell_113 ?_
              refine g_iadd C dX4_putCell_114 ?_
              refine sp_Mod_compacted C hm1 lf_X4_38 dX4_putCell_115 ?_
              refine g_iload C 0 rfl dX4_putCell_118 ?_
              refine g_iload_n C 6 rfl dX4_putCell_120 ?_
              refine g_iadd C dX4_putCell_121 ?_
              refine g_istore C [(6, vI (((mTk w p) - (mSz w p s)) + z)), (7, vI (s + 1)), (5, vI (mSz w p s)), (0, .ref a), (1, vI p), (2, vI s), (3, vI z), (4, vI ow)] dX4_putCell_122 (by decide) rfl ?_
              refine g_sub [3, 4, 5, 6, 7, 0] rfl ?_
              refine J _ _ ?_ ?_
              · have hC : mPutC w p s z = 1 := by unfold mPutC mAll mE0; repeat' split; all_goals first | rfl | omega
                rw [hC]
                rw [show upw w 1 p 1 = w from (congrArg (upw w 1 p) c26.symm).trans (upw_id w 1 p)]
              · unfold mPutE mAll mE0; repeat' split; all_goals omega
            · refine g_iconst C 0 rfl dX4_putCell_109 ?_
              refine g_goto C 114 dX4_putCell_110 (by decide) ?_
              refine g_iadd C dX4_putCell_114 ?_
              refine sp_Mod_compacted C hm1 lf_X4_38 dX4_putCell_115 ?_
              refine g_iload C 0 rfl dX4_putCell_118 ?_
              refine g_iload_n C 6 rfl dX4_putCell_120 ?_
              refine g_iadd C dX4_putCell_121 ?_
              refine g_istore C [(6, vI (((mTk w p) - (mSz w p s)) + z)), (7, vI (s + 1)), (5, vI (mSz w p s)), (0, .ref a), (1, vI p), (2, vI s), (3, vI z), (4, vI ow)] dX4_putCell_122 (by decide) rfl ?_
              refine g_sub [3, 4, 5, 6, 7, 0] rfl ?_
              refine J _ _ ?_ ?_
              · have hC : mPutC w p s z = 0 := by unfold mPutC mAll mE0; repeat' split; all_goals first | rfl | omega
                rw [hC]
                rw [show upw w 1 p 1 = w from (congrArg (upw w 1 p) c26.symm).trans (upw_id w 1 p)]
              · unfold mPutE mAll mE0; repeat' split; all_goals omega
        · refine g_aload_n C 2 rfl dX4_putCell_59 ?_
          refine g_iload_n C 3 rfl dX4_putCell_60 ?_
          refine g_callI C [vI p] [] (c_X4_slots l D cy g V w a o p hap hm hw hp) lm_X4_31 (rcv_Mod hm.1) rfl (Nat.le_of_ble_eq_true rfl) ⟨(Nat.le_of_ble_eq_true rfl), (Nat.le_of_ble_eq_true rfl)⟩ ⟨Nat.zero_le _, Nat.zero_le _⟩ dX4_putCell_61 ?_
          rintro _ _ ⟨rfl, rfl⟩
          refine g_goto C 70 dX4_putCell_64 (by decide) ?_
          refine g_istore C [(7, vI (mSl w p 32)), (6, vI (w 1 (96 + p))), (5, vI (mSz w p s)), (0, .ref a), (1, vI p), (2, vI s), (3, vI z), (4, vI ow)] dX4_putCell_70 (by decide) rfl ?_
          refine g_sipush C 248 rfl dX4_putCell_72 ?_
          refine g_iconst C 4 rfl dX4_putCell_75 ?_
          refine g_iload C 0 rfl dX4_putCell_76 ?_
          refine g_imul C dX4_putCell_78 ?_
          refine g_isub C dX4_putCell_79 ?_
          refine g_iload C 1 rfl dX4_putCell_80 ?_
          refine g_isub C dX4_putCell_82 ?_
          refine g_iload_n C 6 rfl dX4_putCell_83 ?_
          refine g_icmp_ge C (by unfold rng; omega) (by unfold rng; omega) 118 dX4_putCell_84 (by decide) (fun c84 => ?_) (fun c84 => ?_)
          · refine g_iload C 1 rfl dX4_putCell_118 ?_
            refine g_iload_n C 6 rfl dX4_putCell_120 ?_
            refine g_iadd C dX4_putCell_121 ?_
            refine g_istore C [(6, vI ((w 1 (96 + p)) + z)), (7, vI (mSl w p 32)), (5, vI (mSz w p s)), (0, .ref a), (1, vI p), (2, vI s), (3, vI z), (4, vI ow)] dX4_putCell_122 (by decide) rfl ?_
            refine g_sub [3, 4, 5, 6, 7, 0] rfl ?_
            refine J _ _ ?_ ?_
            · have hC : mPutC w p s z = 0 := by unfold mPutC mAll mE0; repeat' split; all_goals first | rfl | omega
              rw [hC, Int.add_zero]
              rw [show upw w 1 p 1 = w from (congrArg (upw w 1 p) c26.symm).trans (upw_id w 1 p)]
              exact (upw_id w 0 4).symm
            · unfold mPutE mAll mE0; repeat' split; all_goals omega
          · refine g_aload_n C 3 rfl dX4_putCell_87 ?_
            refine g_iload_n C 4 rfl dX4_putCell_88 ?_
            refine g_callI C [vI p] [] (c_X4_taken l D cy g V w a o p hap hm hw hp) lm_X4_35 (rcv_Mod hm.1) rfl (Nat.le_of_ble_eq_true rfl) ⟨(Nat.le_of_ble_eq_true rfl), (Nat.le_of_ble_eq_true rfl)⟩ ⟨Nat.zero_le _, Nat.zero_le _⟩ dX4_putCell_89 ?_
            rintro _ _ ⟨rfl, rfl⟩
            refine g_iload C 2 rfl dX4_putCell_92 ?_
            refine g_isub C dX4_putCell_94 ?_
            refine g_istore C [(6, vI ((mTk w p) - (mSz w p s))), (7, vI (mSl w p 32)), (5, vI (mSz w p s)), (0, .ref a), (1, vI p), (2, vI s), (3, vI z), (4, vI ow)] dX4_putCell_95 (by decide) rfl ?_
            refine g_aload_n C 3 rfl dX4_putCell_97 ?_
            refine g_dupR C dX4_putCell_98 ?_
            refine sf_Mod_compacted C (w 0 4) hm1 rfl lf_X4_38 dX4_putCell_99 ?_
            refine g_aload_n C 3 rfl dX4_putCell_102 ?_
            refine sf_Mod_again C (w 0 6) hm1 rfl lf_X4_41 dX4_putCell_103 ?_
            refine g_if_eq C (by unfold rng; omega) 113 dX4_putCell_106 (by decide) (fun c106 => ?_) (fun c106 => ?_)
            · refine g_iconst C 1 rfl dX4_putCell_113 ?_
              refine g_iadd C dX4_putCell_114 ?_
              refine sp_Mod_compacted C hm1 lf_X4_38 dX4_putCell_115 ?_
              refine g_iload C 0 rfl dX4_putCell_118 ?_
              refine g_iload_n C 6 rfl dX4_putCell_120 ?_
              refine g_iadd C dX4_putCell_121 ?_
              refine g_istore C [(6, vI (((mTk w p) - (mSz w p s)) + z)), (7, vI (mSl w p 32)), (5, vI (mSz w p s)), (0, .ref a), (1, vI p), (2, vI s), (3, vI z), (4, vI ow)] dX4_putCell_122 (by decide) rfl ?_
              refine g_sub [3, 4, 5, 6, 7, 0] rfl ?_
              refine J _ _ ?_ ?_
              · have hC : mPutC w p s z = 1 := by unfold mPutC mAll mE0; repeat' split; all_goals first | rfl | omega
                rw [hC]
                rw [show upw w 1 p 1 = w from (congrArg (upw w 1 p) c26.symm).trans (upw_id w 1 p)]
              · unfold mPutE mAll mE0; repeat' split; all_goals omega
            · refine g_iconst C 0 rfl dX4_putCell_109 ?_
              refine g_goto C 114 dX4_putCell_110 (by decide) ?_
              refine g_iadd C dX4_putCell_114 ?_
              refine sp_Mod_compacted C hm1 lf_X4_38 dX4_putCell_115 ?_
              refine g_iload C 0 rfl dX4_putCell_118 ?_
              refine g_iload_n C 6 rfl dX4_putCell_120 ?_
              refine g_iadd C dX4_putCell_121 ?_
              refine g_istore C [(6, vI (((mTk w p) - (mSz w p s)) + z)), (7, vI (mSl w p 32)), (5, vI (mSz w p s)), (0, .ref a), (1, vI p), (2, vI s), (3, vI z), (4, vI ow)] dX4_putCell_122 (by decide) rfl ?_
              refine g_sub [3, 4, 5, 6, 7, 0] rfl ?_
              refine J _ _ ?_ ?_
              · have hC : mPutC w p s z = 0 := by unfold mPutC mAll mE0; repeat' split; all_goals first | rfl | omega
                rw [hC]
                rw [show upw w 1 p 1 = w from (congrArg (upw w 1 p) c26.symm).trans (upw_id w 1 p)]
              · unfold mPutE mAll mE0; repeat' split; all_goals omega
  · refine g_aload_n C 2 rfl dX4_putCell_29 ?_
    refine gf_Mod_d C hm1 hr1 lf_X4_7 dX4_putCell_30 ?_
    refine g_iload_n C 3 rfl dX4_putCell_33 ?_
    refine g_iconst C 1 rfl dX4_putCell_34 ?_
    refine s_iast C ha1 (by omega) (by decide) dX4_putCell_35 ?_
    refine g_iconst C 0 rfl dX4_putCell_36 ?_
    refine g_istore C [(6, vI 0), (5, vI (mSz w p s)), (0, .ref a), (1, vI p), (2, vI s), (3, vI z), (4, vI ow)] dX4_putCell_37 (by decide) rfl ?_
    refine g_iload C 1 rfl dX4_putCell_39 ?_
    refine g_if_eq C (by unfold rng; omega) 50 dX4_putCell_41 (by decide) (fun c41 => ?_) (fun c41 => ?_)
    · refine g_aload_n C 2 rfl dX4_putCell_50 ?_
      refine g_iload_n C 3 rfl dX4_putCell_51 ?_
      refine g_callI C [vI p] [] (c_X4_slots l D cy g V (upw w 1 p 1) a o p hap hm (mwf_up hw (by unfold sm; omega)) hp) lm_X4_31 (rcv_Mod hm.1) rfl (Nat.le_of_ble_eq_true rfl) ⟨(Nat.le_of_ble_eq_true rfl), (Nat.le_of_ble_eq_true rfl)⟩ ⟨Nat.zero_le _, Nat.zero_le _⟩ dX4_putCell_52 ?_
      rintro _ _ ⟨rfl, rfl⟩
      rw [mSl_low (by omega) hp.1]
      refine g_iload_n C 4 rfl dX4_putCell_55 ?_
      refine g_icmp_le C (by unfold rng; omega) (by unfold rng; omega) 67 dX4_putCell_56 (by decide) (fun c56 => ?_) (fun c56 => ?_)
      · refine g_iload_n C 4 rfl dX4_putCell_67 ?_
        refine g_iconst C 1 rfl dX4_putCell_68 ?_
        refine g_iadd C dX4_putCell_69 ?_
        refine g_istore C [(7, vI (s + 1)), (6, vI 0), (5, vI (mSz w p s)), (0, .ref a), (1, vI p), (2, vI s), (3, vI z), (4, vI ow)] dX4_putCell_70 (by decide) rfl ?_
        refine g_sipush C 248 rfl dX4_putCell_72 ?_
        refine g_iconst C 4 rfl dX4_putCell_75 ?_
        refine g_iload C 0 rfl dX4_putCell_76 ?_
        refine g_imul C dX4_putCell_78 ?_
        refine g_isub C dX4_putCell_79 ?_
        refine g_iload C 1 rfl dX4_putCell_80 ?_
        refine g_isub C dX4_putCell_82 ?_
        refine g_iload_n C 6 rfl dX4_putCell_83 ?_
        refine g_icmp_ge C (by unfold rng; omega) (by unfold rng; omega) 118 dX4_putCell_84 (by decide) (fun c84 => ?_) (fun c84 => ?_)
        · refine g_iload C 1 rfl dX4_putCell_118 ?_
          refine g_iload_n C 6 rfl dX4_putCell_120 ?_
          refine g_iadd C dX4_putCell_121 ?_
          refine g_istore C [(6, vI (0 + z)), (7, vI (s + 1)), (5, vI (mSz w p s)), (0, .ref a), (1, vI p), (2, vI s), (3, vI z), (4, vI ow)] dX4_putCell_122 (by decide) rfl ?_
          refine g_sub [3, 4, 5, 6, 7, 0] rfl ?_
          refine J _ _ ?_ ?_
          · have hC : mPutC w p s z = 0 := by unfold mPutC mAll mE0; repeat' split; all_goals first | rfl | omega
            rw [hC, Int.add_zero]
            exact (show upw (upw w 1 p 1) 0 4 (w 0 4) = upw w 1 p 1 from upw_id (upw w 1 p 1) 0 4).symm
          · unfold mPutE mAll mE0; repeat' split; all_goals omega
        · refine g_aload_n C 3 rfl dX4_putCell_87 ?_
          refine g_iload_n C 4 rfl dX4_putCell_88 ?_
          refine g_callI C [vI p] [] (c_X4_taken l D cy g V (upw w 1 p 1) a o p hap hm (mwf_up hw (by unfold sm; omega)) hp) lm_X4_35 (rcv_Mod hm.1) rfl (Nat.le_of_ble_eq_true rfl) ⟨(Nat.le_of_ble_eq_true rfl), (Nat.le_of_ble_eq_true rfl)⟩ ⟨Nat.zero_le _, Nat.zero_le _⟩ dX4_putCell_89 ?_
          rintro _ _ ⟨rfl, rfl⟩
          rw [mTk_low (by omega) hp.1]
          refine g_iload C 2 rfl dX4_putCell_92 ?_
          refine g_isub C dX4_putCell_94 ?_
          refine g_istore C [(6, vI ((mTk w p) - (mSz w p s))), (7, vI (s + 1)), (5, vI (mSz w p s)), (0, .ref a), (1, vI p), (2, vI s), (3, vI z), (4, vI ow)] dX4_putCell_95 (by decide) rfl ?_
          refine g_aload_n C 3 rfl dX4_putCell_97 ?_
          refine g_dupR C dX4_putCell_98 ?_
          refine sf_Mod_compacted C (w 0 4) hm1 (by simp [upw]) lf_X4_38 dX4_putCell_99 ?_
          refine g_aload_n C 3 rfl dX4_putCell_102 ?_
          refine sf_Mod_again C (w 0 6) hm1 (by simp [upw]) lf_X4_41 dX4_putCell_103 ?_
          refine g_if_eq C (by unfold rng; omega) 113 dX4_putCell_106 (by decide) (fun c106 => ?_) (fun c106 => ?_)
          · refine g_iconst C 1 rfl dX4_putCell_113 ?_
            refine g_iadd C dX4_putCell_114 ?_
            refine sp_Mod_compacted C hm1 lf_X4_38 dX4_putCell_115 ?_
            refine g_iload C 0 rfl dX4_putCell_118 ?_
            refine g_iload_n C 6 rfl dX4_putCell_120 ?_
            refine g_iadd C dX4_putCell_121 ?_
            refine g_istore C [(6, vI (((mTk w p) - (mSz w p s)) + z)), (7, vI (s + 1)), (5, vI (mSz w p s)), (0, .ref a), (1, vI p), (2, vI s), (3, vI z), (4, vI ow)] dX4_putCell_122 (by decide) rfl ?_
            refine g_sub [3, 4, 5, 6, 7, 0] rfl ?_
            refine J _ _ ?_ ?_
            · have hC : mPutC w p s z = 1 := by unfold mPutC mAll mE0; repeat' split; all_goals first | rfl | omega
              rw [hC]
            · unfold mPutE mAll mE0; repeat' split; all_goals omega
          · refine g_iconst C 0 rfl dX4_putCell_109 ?_
            refine g_goto C 114 dX4_putCell_110 (by decide) ?_
            refine g_iadd C dX4_putCell_114 ?_
            refine sp_Mod_compacted C hm1 lf_X4_38 dX4_putCell_115 ?_
            refine g_iload C 0 rfl dX4_putCell_118 ?_
            refine g_iload_n C 6 rfl dX4_putCell_120 ?_
            refine g_iadd C dX4_putCell_121 ?_
            refine g_istore C [(6, vI (((mTk w p) - (mSz w p s)) + z)), (7, vI (s + 1)), (5, vI (mSz w p s)), (0, .ref a), (1, vI p), (2, vI s), (3, vI z), (4, vI ow)] dX4_putCell_122 (by decide) rfl ?_
            refine g_sub [3, 4, 5, 6, 7, 0] rfl ?_
            refine J _ _ ?_ ?_
            · have hC : mPutC w p s z = 0 := by unfold mPutC mAll mE0; repeat' split; all_goals first | rfl | omega
              rw [hC]
            · unfold mPutE mAll mE0; repeat' split; all_goals omega
      · refine g_aload_n C 2 rfl dX4_putCell_59 ?_
        refine g_iload_n C 3 rfl dX4_putCell_60 ?_
        refine g_callI C [vI p] [] (c_X4_slots l D cy g V (upw w 1 p 1) a o p hap hm (mwf_up hw (by unfold sm; omega)) hp) lm_X4_31 (rcv_Mod hm.1) rfl (Nat.le_of_ble_eq_true rfl) ⟨(Nat.le_of_ble_eq_true rfl), (Nat.le_of_ble_eq_true rfl)⟩ ⟨Nat.zero_le _, Nat.zero_le _⟩ dX4_putCell_61 ?_
        rintro _ _ ⟨rfl, rfl⟩
        rw [mSl_low (by omega) hp.1]
        refine g_goto C 70 dX4_putCell_64 (by decide) ?_
        refine g_istore C [(7, vI (mSl w p 32)), (6, vI 0), (5, vI (mSz w p s)), (0, .ref a), (1, vI p), (2, vI s), (3, vI z), (4, vI ow)] dX4_putCell_70 (by decide) rfl ?_
        refine g_sipush C 248 rfl dX4_putCell_72 ?_
        refine g_iconst C 4 rfl dX4_putCell_75 ?_
        refine g_iload C 0 rfl dX4_putCell_76 ?_
        refine g_imul C dX4_putCell_78 ?_
        refine g_isub C dX4_putCell_79 ?_
        refine g_iload C 1 rfl dX4_putCell_80 ?_
        refine g_isub C dX4_putCell_82 ?_
        refine g_iload_n C 6 rfl dX4_putCell_83 ?_
        refine g_icmp_ge C (by unfold rng; omega) (by unfold rng; omega) 118 dX4_putCell_84 (by decide) (fun c84 => ?_) (fun c84 => ?_)
        · refine g_iload C 1 rfl dX4_putCell_118 ?_
          refine g_iload_n C 6 rfl dX4_putCell_120 ?_
          refine g_iadd C dX4_putCell_121 ?_
          refine g_istore C [(6, vI (0 + z)), (7, vI (mSl w p 32)), (5, vI (mSz w p s)), (0, .ref a), (1, vI p), (2, vI s), (3, vI z), (4, vI ow)] dX4_putCell_122 (by decide) rfl ?_
          refine g_sub [3, 4, 5, 6, 7, 0] rfl ?_
          refine J _ _ ?_ ?_
          · have hC : mPutC w p s z = 0 := by unfold mPutC mAll mE0; repeat' split; all_goals first | rfl | omega
            rw [hC, Int.add_zero]
            exact (show upw (upw w 1 p 1) 0 4 (w 0 4) = upw w 1 p 1 from upw_id (upw w 1 p 1) 0 4).symm
          · unfold mPutE mAll mE0; repeat' split; all_goals omega
        · refine g_aload_n C 3 rfl dX4_putCell_87 ?_
          refine g_iload_n C 4 rfl dX4_putCell_88 ?_
          refine g_callI C [vI p] [] (c_X4_taken l D cy g V (upw w 1 p 1) a o p hap hm (mwf_up hw (by unfold sm; omega)) hp) lm_X4_35 (rcv_Mod hm.1) rfl (Nat.le_of_ble_eq_true rfl) ⟨(Nat.le_of_ble_eq_true rfl), (Nat.le_of_ble_eq_true rfl)⟩ ⟨Nat.zero_le _, Nat.zero_le _⟩ dX4_putCell_89 ?_
          rintro _ _ ⟨rfl, rfl⟩
          rw [mTk_low (by omega) hp.1]
          refine g_iload C 2 rfl dX4_putCell_92 ?_
          refine g_isub C dX4_putCell_94 ?_
          refine g_istore C [(6, vI ((mTk w p) - (mSz w p s))), (7, vI (mSl w p 32)), (5, vI (mSz w p s)), (0, .ref a), (1, vI p), (2, vI s), (3, vI z), (4, vI ow)] dX4_putCell_95 (by decide) rfl ?_
          refine g_aload_n C 3 rfl dX4_putCell_97 ?_
          refine g_dupR C dX4_putCell_98 ?_
          refine sf_Mod_compacted C (w 0 4) hm1 (by simp [upw]) lf_X4_38 dX4_putCell_99 ?_
          refine g_aload_n C 3 rfl dX4_putCell_102 ?_
          refine sf_Mod_again C (w 0 6) hm1 (by simp [upw]) lf_X4_41 dX4_putCell_103 ?_
          refine g_if_eq C (by unfold rng; omega) 113 dX4_putCell_106 (by decide) (fun c106 => ?_) (fun c106 => ?_)
          · refine g_iconst C 1 rfl dX4_putCell_113 ?_
            refine g_iadd C dX4_putCell_114 ?_
            refine sp_Mod_compacted C hm1 lf_X4_38 dX4_putCell_115 ?_
            refine g_iload C 0 rfl dX4_putCell_118 ?_
            refine g_iload_n C 6 rfl dX4_putCell_120 ?_
            refine g_iadd C dX4_putCell_121 ?_
            refine g_istore C [(6, vI (((mTk w p) - (mSz w p s)) + z)), (7, vI (mSl w p 32)), (5, vI (mSz w p s)), (0, .ref a), (1, vI p), (2, vI s), (3, vI z), (4, vI ow)] dX4_putCell_122 (by decide) rfl ?_
            refine g_sub [3, 4, 5, 6, 7, 0] rfl ?_
            refine J _ _ ?_ ?_
            · have hC : mPutC w p s z = 1 := by unfold mPutC mAll mE0; repeat' split; all_goals first | rfl | omega
              rw [hC]
            · unfold mPutE mAll mE0; repeat' split; all_goals omega
          · refine g_iconst C 0 rfl dX4_putCell_109 ?_
            refine g_goto C 114 dX4_putCell_110 (by decide) ?_
            refine g_iadd C dX4_putCell_114 ?_
            refine sp_Mod_compacted C hm1 lf_X4_38 dX4_putCell_115 ?_
            refine g_iload C 0 rfl dX4_putCell_118 ?_
            refine g_iload_n C 6 rfl dX4_putCell_120 ?_
            refine g_iadd C dX4_putCell_121 ?_
            refine g_istore C [(6, vI (((mTk w p) - (mSz w p s)) + z)), (7, vI (mSl w p 32)), (5, vI (mSz w p s)), (0, .ref a), (1, vI p), (2, vI s), (3, vI z), (4, vI ow)] dX4_putCell_122 (by decide) rfl ?_
            refine g_sub [3, 4, 5, 6, 7, 0] rfl ?_
            refine J _ _ ?_ ?_
            · have hC : mPutC w p s z = 0 := by unfold mPutC mAll mE0; repeat' split; all_goals first | rfl | omega
              rw [hC]
            · unfold mPutE mAll mE0; repeat' split; all_goals omega
    · refine g_iload_n C 5 rfl dX4_putCell_44 ?_
      refine g_iload C 1 rfl dX4_putCell_45 ?_
      refine g_icmp_le C (by unfold rng; omega) (by unfold rng; omega) 124 dX4_putCell_47 (by decide) (fun c47 => ?_) (fun c47 => ?_)
      · refine g_sub [2, 3, 4, 5, 6, 0] rfl ?_
        refine J _ _ ?_ ?_
        · have hC : mPutC w p s z = 0 := by unfold mPutC mAll mE0; repeat' split; all_goals first | rfl | omega
          rw [hC, Int.add_zero]
          exact (show upw (upw w 1 p 1) 0 4 (w 0 4) = upw w 1 p 1 from upw_id (upw w 1 p 1) 0 4).symm
        · unfold mPutE mAll mE0; repeat' split; all_goals omega
      · refine g_aload_n C 2 rfl dX4_putCell_50 ?_
        refine g_iload_n C 3 rfl dX4_putCell_51 ?_
        refine g_callI C [vI p] [] (c_X4_slots l D cy g V (upw w 1 p 1) a o p hap hm (mwf_up hw (by unfold sm; omega)) hp) lm_X4_31 (rcv_Mod hm.1) rfl (Nat.le_of_ble_eq_true rfl) ⟨(Nat.le_of_ble_eq_true rfl), (Nat.le_of_ble_eq_true rfl)⟩ ⟨Nat.zero_le _, Nat.zero_le _⟩ dX4_putCell_52 ?_
        rintro _ _ ⟨rfl, rfl⟩
        rw [mSl_low (by omega) hp.1]
        refine g_iload_n C 4 rfl dX4_putCell_55 ?_
        refine g_icmp_le C (by unfold rng; omega) (by unfold rng; omega) 67 dX4_putCell_56 (by decide) (fun c56 => ?_) (fun c56 => ?_)
        · refine g_iload_n C 4 rfl dX4_putCell_67 ?_
          refine g_iconst C 1 rfl dX4_putCell_68 ?_
          refine g_iadd C dX4_putCell_69 ?_
          refine g_istore C [(7, vI (s + 1)), (6, vI 0), (5, vI (mSz w p s)), (0, .ref a), (1, vI p), (2, vI s), (3, vI z), (4, vI ow)] dX4_putCell_70 (by decide) rfl ?_
          refine g_sipush C 248 rfl dX4_putCell_72 ?_
          refine g_iconst C 4 rfl dX4_putCell_75 ?_
          refine g_iload C 0 rfl dX4_putCell_76 ?_
          refine g_imul C dX4_putCell_78 ?_
          refine g_isub C dX4_putCell_79 ?_
          refine g_iload C 1 rfl dX4_putCell_80 ?_
          refine g_isub C dX4_putCell_82 ?_
          refine g_iload_n C 6 rfl dX4_putCell_83 ?_
          refine g_icmp_ge C (by unfold rng; omega) (by unfold rng; omega) 118 dX4_putCell_84 (by decide) (fun c84 => ?_) (fun c84 => ?_)
          · refine g_iload C 1 rfl dX4_putCell_118 ?_
            refine g_iload_n C 6 rfl dX4_putCell_120 ?_
            refine g_iadd C dX4_putCell_121 ?_
            refine g_istore C [(6, vI (0 + z)), (7, vI (s + 1)), (5, vI (mSz w p s)), (0, .ref a), (1, vI p), (2, vI s), (3, vI z), (4, vI ow)] dX4_putCell_122 (by decide) rfl ?_
            refine g_sub [3, 4, 5, 6, 7, 0] rfl ?_
            refine J _ _ ?_ ?_
            · have hC : mPutC w p s z = 0 := by unfold mPutC mAll mE0; repeat' split; all_goals first | rfl | omega
              rw [hC, Int.add_zero]
              exact (show upw (upw w 1 p 1) 0 4 (w 0 4) = upw w 1 p 1 from upw_id (upw w 1 p 1) 0 4).symm
            · unfold mPutE mAll mE0; repeat' split; all_goals omega
          · refine g_aload_n C 3 rfl dX4_putCell_87 ?_
            refine g_iload_n C 4 rfl dX4_putCell_88 ?_
            refine g_callI C [vI p] [] (c_X4_taken l D cy g V (upw w 1 p 1) a o p hap hm (mwf_up hw (by unfold sm; omega)) hp) lm_X4_35 (rcv_Mod hm.1) rfl (Nat.le_of_ble_eq_true rfl) ⟨(Nat.le_of_ble_eq_true rfl), (Nat.le_of_ble_eq_true rfl)⟩ ⟨Nat.zero_le _, Nat.zero_le _⟩ dX4_putCell_89 ?_
            rintro _ _ ⟨rfl, rfl⟩
            rw [mTk_low (by omega) hp.1]
            refine g_iload C 2 rfl dX4_putCell_92 ?_
            refine g_isub C dX4_putCell_94 ?_
            refine g_istore C [(6, vI ((mTk w p) - (mSz w p s))), (7, vI (s + 1)), (5, vI (mSz w p s)), (0, .ref a), (1, vI p), (2, vI s), (3, vI z), (4, vI ow)] dX4_putCell_95 (by decide) rfl ?_
            refine g_aload_n C 3 rfl dX4_putCell_97 ?_
            refine g_dupR C dX4_putCell_98 ?_
            refine sf_Mod_compacted C (w 0 4) hm1 (by simp [upw]) lf_X4_38 dX4_putCell_99 ?_
            refine g_aload_n C 3 rfl dX4_putCell_102 ?_
            refine sf_Mod_again C (w 0 6) hm1 (by simp [upw]) lf_X4_41 dX4_putCell_103 ?_
            refine g_if_eq C (by unfold rng; omega) 113 dX4_putCell_106 (by decide) (fun c106 => ?_) (fun c106 => ?_)
            · refine g_iconst C 1 rfl dX4_putCell_113 ?_
              refine g_iadd C dX4_putCell_114 ?_
              refine sp_Mod_compacted C hm1 lf_X4_38 dX4_putCell_115 ?_
              refine g_iload C 0 rfl dX4_putCell_118 ?_
              refine g_iload_n C 6 rfl dX4_putCell_120 ?_
              refine g_iadd C dX4_putCell_121 ?_
              refine g_istore C [(6, vI (((mTk w p) - (mSz w p s)) + z)), (7, vI (s + 1)), (5, vI (mSz w p s)), (0, .ref a), (1, vI p), (2, vI s), (3, vI z), (4, vI ow)] dX4_putCell_122 (by decide) rfl ?_
              refine g_sub [3, 4, 5, 6, 7, 0] rfl ?_
              refine J _ _ ?_ ?_
              · have hC : mPutC w p s z = 1 := by unfold mPutC mAll mE0; repeat' split; all_goals first | rfl | omega
                rw [hC]
              · unfold mPutE mAll mE0; repeat' split; all_goals omega
            · refine g_iconst C 0 rfl dX4_putCell_109 ?_
              refine g_goto C 114 dX4_putCell_110 (by decide) ?_
              refine g_iadd C dX4_putCell_114 ?_
              refine sp_Mod_compacted C hm1 lf_X4_38 dX4_putCell_115 ?_
              refine g_iload C 0 rfl dX4_putCell_118 ?_
              refine g_iload_n C 6 rfl dX4_putCell_120 ?_
              refine g_iadd C dX4_putCell_121 ?_
              refine g_istore C [(6, vI (((mTk w p) - (mSz w p s)) + z)), (7, vI (s + 1)), (5, vI (mSz w p s)), (0, .ref a), (1, vI p), (2, vI s), (3, vI z), (4, vI ow)] dX4_putCell_122 (by decide) rfl ?_
              refine g_sub [3, 4, 5, 6, 7, 0] rfl ?_
              refine J _ _ ?_ ?_
              · have hC : mPutC w p s z = 0 := by unfold mPutC mAll mE0; repeat' split; all_goals first | rfl | omega
                rw [hC]
              · unfold mPutE mAll mE0; repeat' split; all_goals omega
        · refine g_aload_n C 2 rfl dX4_putCell_59 ?_
          refine g_iload_n C 3 rfl dX4_putCell_60 ?_
          refine g_callI C [vI p] [] (c_X4_slots l D cy g V (upw w 1 p 1) a o p hap hm (mwf_up hw (by unfold sm; omega)) hp) lm_X4_31 (rcv_Mod hm.1) rfl (Nat.le_of_ble_eq_true rfl) ⟨(Nat.le_of_ble_eq_true rfl), (Nat.le_of_ble_eq_true rfl)⟩ ⟨Nat.zero_le _, Nat.zero_le _⟩ dX4_putCell_61 ?_
          rintro _ _ ⟨rfl, rfl⟩
          rw [mSl_low (by omega) hp.1]
          refine g_goto C 70 dX4_putCell_64 (by decide) ?_
          refine g_istore C [(7, vI (mSl w p 32)), (6, vI 0), (5, vI (mSz w p s)), (0, .ref a), (1, vI p), (2, vI s), (3, vI z), (4, vI ow)] dX4_putCell_70 (by decide) rfl ?_
          refine g_sipush C 248 rfl dX4_putCell_72 ?_
          refine g_iconst C 4 rfl dX4_putCell_75 ?_
          refine g_iload C 0 rfl dX4_putCell_76 ?_
          refine g_imul C dX4_putCell_78 ?_
          refine g_isub C dX4_putCell_79 ?_
          refine g_iload C 1 rfl dX4_putCell_80 ?_
          refine g_isub C dX4_putCell_82 ?_
          refine g_iload_n C 6 rfl dX4_putCell_83 ?_
          refine g_icmp_ge C (by unfold rng; omega) (by unfold rng; omega) 118 dX4_putCell_84 (by decide) (fun c84 => ?_) (fun c84 => ?_)
          · refine g_iload C 1 rfl dX4_putCell_118 ?_
            refine g_iload_n C 6 rfl dX4_putCell_120 ?_
            refine g_iadd C dX4_putCell_121 ?_
            refine g_istore C [(6, vI (0 + z)), (7, vI (mSl w p 32)), (5, vI (mSz w p s)), (0, .ref a), (1, vI p), (2, vI s), (3, vI z), (4, vI ow)] dX4_putCell_122 (by decide) rfl ?_
            refine g_sub [3, 4, 5, 6, 7, 0] rfl ?_
            refine J _ _ ?_ ?_
            · have hC : mPutC w p s z = 0 := by unfold mPutC mAll mE0; repeat' split; all_goals first | rfl | omega
              rw [hC, Int.add_zero]
              exact (show upw (upw w 1 p 1) 0 4 (w 0 4) = upw w 1 p 1 from upw_id (upw w 1 p 1) 0 4).symm
            · unfold mPutE mAll mE0; repeat' split; all_goals omega
          · refine g_aload_n C 3 rfl dX4_putCell_87 ?_
            refine g_iload_n C 4 rfl dX4_putCell_88 ?_
            refine g_callI C [vI p] [] (c_X4_taken l D cy g V (upw w 1 p 1) a o p hap hm (mwf_up hw (by unfold sm; omega)) hp) lm_X4_35 (rcv_Mod hm.1) rfl (Nat.le_of_ble_eq_true rfl) ⟨(Nat.le_of_ble_eq_true rfl), (Nat.le_of_ble_eq_true rfl)⟩ ⟨Nat.zero_le _, Nat.zero_le _⟩ dX4_putCell_89 ?_
            rintro _ _ ⟨rfl, rfl⟩
            rw [mTk_low (by omega) hp.1]
            refine g_iload C 2 rfl dX4_putCell_92 ?_
            refine g_isub C dX4_putCell_94 ?_
            refine g_istore C [(6, vI ((mTk w p) - (mSz w p s))), (7, vI (mSl w p 32)), (5, vI (mSz w p s)), (0, .ref a), (1, vI p), (2, vI s), (3, vI z), (4, vI ow)] dX4_putCell_95 (by decide) rfl ?_
            refine g_aload_n C 3 rfl dX4_putCell_97 ?_
            refine g_dupR C dX4_putCell_98 ?_
            refine sf_Mod_compacted C (w 0 4) hm1 (by simp [upw]) lf_X4_38 dX4_putCell_99 ?_
            refine g_aload_n C 3 rfl dX4_putCell_102 ?_
            refine sf_Mod_again C (w 0 6) hm1 (by simp [upw]) lf_X4_41 dX4_putCell_103 ?_
            refine g_if_eq C (by unfold rng; omega) 113 dX4_putCell_106 (by decide) (fun c106 => ?_) (fun c106 => ?_)
            · refine g_iconst C 1 rfl dX4_putCell_113 ?_
              refine g_iadd C dX4_putCell_114 ?_
              refine sp_Mod_compacted C hm1 lf_X4_38 dX4_putCell_115 ?_
              refine g_iload C 0 rfl dX4_putCell_118 ?_
              refine g_iload_n C 6 rfl dX4_putCell_120 ?_
              refine g_iadd C dX4_putCell_121 ?_
              refine g_istore C [(6, vI (((mTk w p) - (mSz w p s)) + z)), (7, vI (mSl w p 32)), (5, vI (mSz w p s)), (0, .ref a), (1, vI p), (2, vI s), (3, vI z), (4, vI ow)] dX4_putCell_122 (by decide) rfl ?_
              refine g_sub [3, 4, 5, 6, 7, 0] rfl ?_
              refine J _ _ ?_ ?_
              · have hC : mPutC w p s z = 1 := by unfold mPutC mAll mE0; repeat' split; all_goals first | rfl | omega
                rw [hC]
              · unfold mPutE mAll mE0; repeat' split; all_goals omega
            · refine g_iconst C 0 rfl dX4_putCell_109 ?_
              refine g_goto C 114 dX4_putCell_110 (by decide) ?_
              refine g_iadd C dX4_putCell_114 ?_
              refine sp_Mod_compacted C hm1 lf_X4_38 dX4_putCell_115 ?_
              refine g_iload C 0 rfl dX4_putCell_118 ?_
              refine g_iload_n C 6 rfl dX4_putCell_120 ?_
              refine g_iadd C dX4_putCell_121 ?_
              refine g_istore C [(6, vI (((mTk w p) - (mSz w p s)) + z)), (7, vI (mSl w p 32)), (5, vI (mSz w p s)), (0, .ref a), (1, vI p), (2, vI s), (3, vI z), (4, vI ow)] dX4_putCell_122 (by decide) rfl ?_
              refine g_sub [3, 4, 5, 6, 7, 0] rfl ?_
              refine J _ _ ?_ ?_
              · have hC : mPutC w p s z = 0 := by unfold mPutC mAll mE0; repeat' split; all_goals first | rfl | omega
                rw [hC]
              · unfold mPutE mAll mE0; repeat' split; all_goals omega
set_option maxHeartbeats 4000000 in
set_option maxRecDepth 100000 in
theorem c_X4_freeChain (l : Launch) (D : va_G) (cy : ClassId × ClassId) (g : GT) (V : VT) (w : Int → Int → Int) (a : Nat) (o : Int) (q : Int) (L0 : List Int) (hap : Apart g) (hm : isMod g a o) (hL : isCh (mNx w) L0 q) : MetV l yX4_freeChain cX4_freeChain 3 none 0 D cy g [.ref a, vI q] (setp V o w) (fun V' => V' = setp V o (mFreeL w L0)) := by
  obtain ⟨hm1, r1, r2, r3, ⟨hr1, ha1⟩, ⟨hr2, ha2⟩, ⟨hr3, ha3⟩⟩ := id hm
  refine MetV.of (by decide) (Nat.le_of_ble_eq_true rfl) hap ?_
  intro p_ e_ s_ m_ args_ below_ meth_ c_ C
  have loop : ∀ (L : List Int) (u : Int → Int → Int) (f : Int), isCh (mNx u) L f → mFreeL u L = mFreeL w L0 → G p_ l e_ (rmd 0) s_ m_ args_ below_ meth_ c_ 3 0 0 (MQ below_ (QcV D cy g (fun V' => V' = setp V o (mFreeL w L0))) args_ s_ 0 0 (fun q => q ∈ gL g)) D cy g (fun q => q ∈ gL g) s_.heap (setp V o u) 2 [(2, vI f), (0, .ref a), (1, vI q)] [] := by
    intro L
    induction L with
    | nil =>
      intro u f h1 h5
      have hf : f = -1 := h1
      refine g_iload_n C 0 rfl dX4_freeChain_2 ?_
      refine g_iconst C (-1) rfl dX4_freeChain_3 ?_
      refine g_icmp_eq C (by unfold rng; omega) (by unfold rng; omega) 28 dX4_freeChain_4 (by decide) (fun c4 => ?_) (fun c4 => absurd c4 (by omega))
      exact g_vret C dX4_freeChain_28 (congrArg (setp V o) h5)
    | cons p L ih =>
      intro u f h1 h5
      obtain ⟨rfl, hp9, h1'⟩ := h1
      refine g_iload_n C 0 rfl dX4_freeChain_2 ?_
      refine g_iconst C (-1) rfl dX4_freeChain_3 ?_
      refine g_icmp_eq C (by unfold rng; omega) (by unfold rng; omega) 28 dX4_freeChain_4 (by decide) (fun c4 => absurd c4 (by omega)) (fun c4 => ?_)
      refine g_aload_n C 1 rfl dX4_freeChain_7 ?_
      refine gf_Mod_d C hm1 hr1 lf_X4_7 dX4_freeChain_8 ?_
      refine g_iload_n C 0 rfl dX4_freeChain_11 ?_
      refine g_iconst C 0 rfl dX4_freeChain_12 ?_
      refine s_iast C ha1 (by omega) (by decide) dX4_freeChain_13 ?_
      refine g_aload_n C 1 rfl dX4_freeChain_14 ?_
      refine gf_Mod_d C hm1 hr1 lf_X4_7 dX4_freeChain_15 ?_
      refine g_sipush C 192 rfl dX4_freeChain_18 ?_
      refine g_iload_n C 0 rfl dX4_freeChain_21 ?_
      refine g_iadd C dX4_freeChain_22 ?_
      refine s_iald C (u 1 (192 + f)) ha1 (by omega) (by decide) (upw_j (by omega)) dX4_freeChain_23 ?_
      refine g_istore_n C [(2, vI (u 1 (192 + f))), (0, .ref a), (1, vI q)] dX4_freeChain_24 rfl (by decide) rfl ?_
      refine g_goto C 2 dX4_freeChain_25 (by decide) ?_
      refine g_sub [0, 1, 2] rfl ?_
      exact ih (upw u 1 f 0) _ (isCh_congr (fun q hq => by have := (isCh_rng h1').1 q hq; exact upw_j (by omega)) h1') h5
  refine g_iload_n C 1 rfl dX4_freeChain_0 ?_
  refine g_istore_n C [(2, vI q), (0, .ref a), (1, vI q)] dX4_freeChain_1 rfl (by decide) rfl ?_
  refine g_sub [0, 1, 2] rfl ?_
  exact loop L0 w q hL rfl
set_option maxHeartbeats 4000000 in
set_option maxRecDepth 100000 in
theorem c_X4_takeChain (l : Launch) (D : va_G) (cy : ClassId × ClassId) (g : GT) (V : VT) (w : Int → Int → Int) (a : Nat) (o : Int) (q : Int) (hap : Apart g) (hm : isMod g a o) (hw : mwf w) (hn : 0 ≤ q ∧ q ≤ 1200) (hfree : chP q ≤ cntK (w 1) 0 96) : MetI l yX4_takeChain cX4_takeChain 7 (some .int) 1 D cy g [.ref a, vI q] (setp V o w) (fun r V' => r = (mtN w q (chP q).toNat).2.1 ∧ V' = setp V o (mtN w q (chP q).toNat).1) := by
  obtain ⟨hm1, r1, r2, r3, ⟨hr1, ha1⟩, ⟨hr2, ha2⟩, ⟨hr3, ha3⟩⟩ := id hm
  have hc := chP_bd hn
  refine MetI.of (by decide) (Nat.le_of_ble_eq_true rfl) hap ?_
  intro p_ e_ s_ m_ args_ below_ meth_ c_ C
  have loop : ∀ (n : Nat) (k : Nat), k + n = (chP q).toNat → G p_ l e_ (rmd 1) s_ m_ args_ below_ meth_ c_ 7 0 0 (MQ below_ (QcI D cy g (fun r V' => r = (mtN w q (chP q).toNat).2.1 ∧ V' = setp V o (mtN w q (chP q).toNat).1)) args_ s_ 0 0 (fun q => q ∈ gL g)) D cy g (fun q => q ∈ gL g) s_.heap (setp V o (mtN w q k).1) 7 [(4, vI ((k : Int))), (3, vI ((mtN w q k).2.2)), (2, vI ((mtN w q k).2.1)), (0, .ref a), (1, vI q)] [] := by
    intro n
    induction n with
    | zero =>
      intro k hkn
      obtain ⟨i1, i2, i4, i5⟩ := mt_inv hw hn (chP q).toNat (by omega) (by omega) k (by omega)
      generalize hSe : mtN w q k = S at *
      refine g_iload C 0 rfl dX4_takeChain_7 ?_
      refine g_iload_n C 4 rfl dX4_takeChain_9 ?_
      refine g_callSI C [vI q] [vI ((k : Int))] (c_X4_chainSize l D cy g _ q hap hn) lm_X4_55 rfl (Nat.le_of_ble_eq_true rfl) ⟨(Nat.le_of_ble_eq_true rfl), (Nat.le_of_ble_eq_true rfl)⟩ ⟨Nat.zero_le _, Nat.zero_le _⟩ dX4_takeChain_10 ?_
      rintro _ _ ⟨rfl, rfl⟩
      refine g_icmp_ge C (by unfold rng; omega) (by unfold rng; omega) 111 dX4_takeChain_13 (by decide) (fun c13 => ?_) (fun c13 => absurd c13 (by omega))
      refine g_iload_n C 2 rfl dX4_takeChain_111 ?_
      have hkk : k = (chP q).toNat := by omega
      subst hkk
      rw [← hSe]
      exact g_iret C dX4_takeChain_112 ⟨rfl, rfl⟩
    | succ n ih =>
      intro k hkn
      obtain ⟨i1, i2, i4, i5⟩ := mt_inv hw hn (chP q).toNat (by omega) (by omega) k (by omega)
      generalize hSe : mtN w q k = S at *
      refine g_iload C 0 rfl dX4_takeChain_7 ?_
      refine g_iload_n C 4 rfl dX4_takeChain_9 ?_
      refine g_callSI C [vI q] [vI ((k : Int))] (c_X4_chainSize l D cy g _ q hap hn) lm_X4_55 rfl (Nat.le_of_ble_eq_true rfl) ⟨(Nat.le_of_ble_eq_true rfl), (Nat.le_of_ble_eq_true rfl)⟩ ⟨Nat.zero_le _, Nat.zero_le _⟩ dX4_takeChain_10 ?_
      rintro _ _ ⟨rfl, rfl⟩
      refine g_icmp_ge C (by unfold rng; omega) (by unfold rng; omega) 111 dX4_takeChain_13 (by decide) (fun c13 => absurd c13 (by omega)) (fun c13 => ?_)
      refine g_aload_n C 3 rfl dX4_takeChain_16 ?_
      refine g_callI C [] [] (c_X4_firstFree l D cy g V S.1 a o hap hm i1) lm_X4_51 (rcv_Mod hm.1) rfl (Nat.le_of_ble_eq_true rfl) ⟨(Nat.le_of_ble_eq_true rfl), (Nat.le_of_ble_eq_true rfl)⟩ ⟨Nat.zero_le _, Nat.zero_le _⟩ dX4_takeChain_17 ?_
      rintro r _ ⟨hr, rfl⟩
      have hrl : r = lfr (S.1 1) := isLF_uniq (by decide) hr (lfr_LF _)
      have hrr : 0 ≤ r ∧ r < 96 := by
        rcases hr with ⟨e1, k2⟩ | ⟨k1, k2, -⟩
        · exfalso
          obtain ⟨f, f1, f2, f3⟩ := cntK_pos (K := S.1 1) (k := 0) (n := 96) (by rw [i4]; omega)
          exact k2 f f1 (by omega) f3
        · exact ⟨k1, k2⟩
      refine g_istore C [(5, vI r), (4, vI ((k : Int))), (3, vI S.2.2), (2, vI S.2.1), (0, .ref a), (1, vI q)] dX4_takeChain_20 (by decide) rfl ?_
      refine g_aload_n C 4 rfl dX4_takeChain_22 ?_
      refine gf_Mod_d C hm1 hr1 lf_X4_7 dX4_takeChain_23 ?_
      refine g_iload C 0 rfl dX4_takeChain_26 ?_
      refine g_iconst C 2 rfl dX4_takeChain_28 ?_
      refine s_iast C ha1 (by omega) (by decide) dX4_takeChain_29 ?_
      refine g_aload_n C 4 rfl dX4_takeChain_30 ?_
      refine gf_Mod_d C hm1 hr1 lf_X4_7 dX4_takeChain_31 ?_
      refine g_sipush C 192 rfl dX4_takeChain_34 ?_
      refine g_iload C 0 rfl dX4_takeChain_37 ?_
      refine g_iadd C dX4_takeChain_39 ?_
      refine g_iconst C (-1) rfl dX4_takeChain_40 ?_
      refine s_iast C ha1 (by omega) (by decide) dX4_takeChain_41 ?_
      refine g_iload_n C 5 rfl dX4_takeChain_42 ?_
      refine g_sipush C 240 rfl dX4_takeChain_43 ?_
      refine g_iload C 1 rfl dX4_takeChain_46 ?_
      refine g_imul C dX4_takeChain_48 ?_
      refine g_isub C dX4_takeChain_49 ?_
      refine g_istore C [(6, vI (q - (240 * ((k : Int))))), (5, vI r), (4, vI ((k : Int))), (3, vI S.2.2), (2, vI S.2.1), (0, .ref a), (1, vI q)] dX4_takeChain_50 (by decide) rfl ?_
      refine g_aload_n C 5 rfl dX4_takeChain_52 ?_
      refine gf_Mod_d C hm1 hr1 lf_X4_7 dX4_takeChain_53 ?_
      refine g_sipush C 288 rfl dX4_takeChain_56 ?_
      refine g_iload C 1 rfl dX4_takeChain_59 ?_
      refine g_iadd C dX4_takeChain_61 ?_
      refine g_iload C 0 rfl dX4_takeChain_62 ?_
      refine g_sipush C 240 rfl dX4_takeChain_64 ?_
      refine g_icmp_ge C (by unfold rng; omega) (by unfold rng; omega) 75 dX4_takeChain_67 (by decide) (fun c67 => ?_) (fun c67 => ?_)
      · refine g_sipush C 240 rfl dX4_takeChain_75 ?_
        refine s_iast C ha1 (by omega) (by decide) dX4_takeChain_78 ?_
        refine g_iload_n C 3 rfl dX4_takeChain_79 ?_
        refine g_iconst C (-1) rfl dX4_takeChain_80 ?_
        refine g_icmp_ne C (by unfold rng; omega) (by unfold rng; omega) 90 dX4_takeChain_81 (by decide) (fun c81 => ?_) (fun c81 => ?_)
        · refine g_aload_n C 5 rfl dX4_takeChain_90 ?_
          refine gf_Mod_d C hm1 hr1 lf_X4_7 dX4_takeChain_91 ?_
          refine g_sipush C 192 rfl dX4_takeChain_94 ?_
          refine g_iload_n C 3 rfl dX4_takeChain_97 ?_
          refine g_iadd C dX4_takeChain_98 ?_
          refine g_iload C 1 rfl dX4_takeChain_99 ?_
          refine s_iast C ha1 (by omega) (by decide) dX4_takeChain_101 ?_
          refine g_iload C 1 rfl dX4_takeChain_102 ?_
          refine g_istore_n C [(3, vI r), (6, vI (q - (240 * ((k : Int))))), (5, vI r), (4, vI ((k : Int))), (2, vI S.2.1), (0, .ref a), (1, vI q)] dX4_takeChain_104 rfl (by decide) rfl ?_
          refine g_iinc C [(4, vI (((k : Int)) + 1)), (3, vI r), (6, vI (q - (240 * ((k : Int))))), (5, vI r), (2, vI S.2.1), (0, .ref a), (1, vI q)] 3 rfl dX4_takeChain_105 (by decide) rfl ?_
          refine g_goto C 7 dX4_takeChain_108 (by decide) ?_
          refine g_sub [0, 1, 4, 5, 6] rfl ?_
          have hst : mtN w q (k + 1) = mtStep q k S := by rw [← hSe]; rfl
          have h9 := ih (k + 1) (by omega)
          rw [hst] at h9
          unfold mtStep at h9
          rw [if_neg c81, ← hrl] at h9
          rw [show (if q - 240 * (k : Int) < 240 then q - 240 * (k : Int) else 240) = 240 by split <;> omega] at h9
          exact h9
        · refine g_iload C 1 rfl dX4_takeChain_84 ?_
          refine g_istore_n C [(2, vI r), (6, vI (q - (240 * ((k : Int))))), (5, vI r), (4, vI ((k : Int))), (3, vI S.2.2), (0, .ref a), (1, vI q)] dX4_takeChain_86 rfl (by decide) rfl ?_
          refine g_goto C 102 dX4_takeChain_87 (by decide) ?_
          refine g_iload C 2 rfl dX4_takeChain_102 ?_
          refine g_istore_n C [(3, vI r), (2, vI r), (6, vI (q - (240 * ((k : Int))))), (5, vI r), (4, vI ((k : Int))), (0, .ref a), (1, vI q)] dX4_takeChain_104 rfl (by decide) rfl ?_
          refine g_iinc C [(4, vI (((k : Int)) + 1)), (3, vI r), (2, vI r), (6, vI (q - (240 * ((k : Int))))), (5, vI r), (0, .ref a), (1, vI q)] 4 rfl dX4_takeChain_105 (by decide) rfl ?_
          refine g_goto C 7 dX4_takeChain_108 (by decide) ?_
          refine g_sub [0, 1, 2, 5, 6] rfl ?_
          have hst : mtN w q (k + 1) = mtStep q k S := by rw [← hSe]; rfl
          have h9 := ih (k + 1) (by omega)
          rw [hst] at h9
          unfold mtStep at h9
          rw [if_pos c81, ← hrl] at h9
          rw [show (if q - 240 * (k : Int) < 240 then q - 240 * (k : Int) else 240) = 240 by split <;> omega] at h9
          exact h9
      · refine g_iload C 0 rfl dX4_takeChain_70 ?_
        refine g_goto C 78 dX4_takeChain_72 (by decide) ?_
        refine s_iast C ha1 (by omega) (by decide) dX4_takeChain_78 ?_
        refine g_iload_n C 3 rfl dX4_takeChain_79 ?_
        refine g_iconst C (-1) rfl dX4_takeChain_80 ?_
        refine g_icmp_ne C (by unfold rng; omega) (by unfold rng; omega) 90 dX4_takeChain_81 (by decide) (fun c81 => ?_) (fun c81 => ?_)
        · refine g_aload_n C 5 rfl dX4_takeChain_90 ?_
          refine gf_Mod_d C hm1 hr1 lf_X4_7 dX4_takeChain_91 ?_
          refine g_sipush C 192 rfl dX4_takeChain_94 ?_
          refine g_iload_n C 3 rfl dX4_takeChain_97 ?_
          refine g_iadd C dX4_takeChain_98 ?_
          refine g_iload C 1 rfl dX4_takeChain_99 ?_
          refine s_iast C ha1 (by omega) (by decide) dX4_takeChain_101 ?_
          refine g_iload C 1 rfl dX4_takeChain_102 ?_
          refine g_istore_n C [(3, vI r), (6, vI (q - (240 * ((k : Int))))), (5, vI r), (4, vI ((k : Int))), (2, vI S.2.1), (0, .ref a), (1, vI q)] dX4_takeChain_104 rfl (by decide) rfl ?_
          refine g_iinc C [(4, vI (((k : Int)) + 1)), (3, vI r), (6, vI (q - (240 * ((k : Int))))), (5, vI r), (2, vI S.2.1), (0, .ref a), (1, vI q)] 3 rfl dX4_takeChain_105 (by decide) rfl ?_
          refine g_goto C 7 dX4_takeChain_108 (by decide) ?_
          refine g_sub [0, 1, 4, 5, 6] rfl ?_
          have hst : mtN w q (k + 1) = mtStep q k S := by rw [← hSe]; rfl
          have h9 := ih (k + 1) (by omega)
          rw [hst] at h9
          unfold mtStep at h9
          rw [if_neg c81, ← hrl] at h9
          rw [show (if q - 240 * (k : Int) < 240 then q - 240 * (k : Int) else 240) = q - (240 * ((k : Int))) by split <;> omega] at h9
          exact h9
        · refine g_iload C 1 rfl dX4_takeChain_84 ?_
          refine g_istore_n C [(2, vI r), (6, vI (q - (240 * ((k : Int))))), (5, vI r), (4, vI ((k : Int))), (3, vI S.2.2), (0, .ref a), (1, vI q)] dX4_takeChain_86 rfl (by decide) rfl ?_
          refine g_goto C 102 dX4_takeChain_87 (by decide) ?_
          refine g_iload C 2 rfl dX4_takeChain_102 ?_
          refine g_istore_n C [(3, vI r), (2, vI r), (6, vI (q - (240 * ((k : Int))))), (5, vI r), (4, vI ((k : Int))), (0, .ref a), (1, vI q)] dX4_takeChain_104 rfl (by decide) rfl ?_
          refine g_iinc C [(4, vI (((k : Int)) + 1)), (3, vI r), (2, vI r), (6, vI (q - (240 * ((k : Int))))), (5, vI r), (0, .ref a), (1, vI q)] 4 rfl dX4_takeChain_105 (by decide) rfl ?_
          refine g_goto C 7 dX4_takeChain_108 (by decide) ?_
          refine g_sub [0, 1, 2, 5, 6] rfl ?_
          have hst : mtN w q (k + 1) = mtStep q k S := by rw [← hSe]; rfl
          have h9 := ih (k + 1) (by omega)
          rw [hst] at h9
          unfold mtStep at h9
          rw [if_pos c81, ← hrl] at h9
          rw [show (if q - 240 * (k : Int) < 240 then q - 240 * (k : Int) else 240) = q - (240 * ((k : Int))) by split <;> omega] at h9
          exact h9
  refine g_iconst C (-1) rfl dX4_takeChain_0 ?_
  refine g_istore_n C [(2, vI ((-1))), (0, .ref a), (1, vI q)] dX4_takeChain_1 rfl (by decide) rfl ?_
  refine g_iconst C (-1) rfl dX4_takeChain_2 ?_
  refine g_istore_n C [(3, vI ((-1))), (2, vI ((-1))), (0, .ref a), (1, vI q)] dX4_takeChain_3 rfl (by decide) rfl ?_
  refine g_iconst C 0 rfl dX4_takeChain_4 ?_
  refine g_istore C [(4, vI 0), (3, vI ((-1))), (2, vI ((-1))), (0, .ref a), (1, vI q)] dX4_takeChain_5 (by decide) rfl ?_
  refine g_sub [0, 1, 2, 3, 4] rfl ?_
  exact loop (chP q).toNat 0 (by omega)
set_option maxHeartbeats 4000000 in
set_option maxRecDepth 100000 in
theorem c_X4_placeFor (l : Launch) (D : va_G) (cy : ClassId × ClassId) (g : GT) (V : VT) (w : Int → Int → Int) (a : Nat) (o : Int) (q x y : Int) (hap : Apart g) (hm : isMod g a o) (hw : mwf w) (hroom : ∀ i, 0 ≤ i → i < 96 → w 1 i = 1 → 0 ≤ mRoom w i ∧ mRoom w i ≤ 248) (hq9 : 0 ≤ q ∧ q ≤ 1000) (hx : -1 ≤ x ∧ x ≤ 96) (hy : -1 ≤ y ∧ y ≤ 96) : MetI l yX4_placeFor cX4_placeFor 9 (some .int) 3 D cy g [.ref a, vI q, vI x, vI y] (setp V o w) (fun r V' => isPlM w (q + 4) x y r ∧ V' = setp V o w) := by
  obtain ⟨hm1, r1, r2, r3, ⟨hr1, ha1⟩, ⟨hr2, ha2⟩, ⟨hr3, ha3⟩⟩ := id hm
  refine MetI.of (by decide) (Nat.le_of_ble_eq_true rfl) hap ?_
  intro p_ e_ s_ m_ args_ below_ meth_ c_ C
  have loop : ∀ (n : Nat) (i be fi : Int), -1 ≤ i ∧ i < 96 → (-1 ≤ be ∧ be < 96) ∧ (-1 ≤ fi ∧ fi < 96) → i + 1 ≤ n → isLCd (okm w x y) (mCl w) (q + 4) (i + 1) be → isFRd (okm w x y) (mRoom w) (q + 4) (i + 1) fi → G p_ l e_ (rmd 3) s_ m_ args_ below_ meth_ c_ 9 0 0 (MQ below_ (QcI D cy g (fun r V' => isPlM w (q + 4) x y r ∧ V' = setp V o w)) args_ s_ 0 0 (fun q => q ∈ gL g)) D cy g (fun q => q ∈ gL g) s_.heap (setp V o w) 15 [(7, vI i), (5, vI be), (6, vI fi), (4, vI (q + 4)), (0, .ref a), (1, vI q), (2, vI x), (3, vI y)] [] := by
    intro n
    induction n with
    | zero =>
      intro i be fi h1 h2 h3 h4 h5
      refine g_iload C 0 rfl dX4_placeFor_15 ?_
      refine g_if_lt C (by unfold rng; omega) 123 dX4_placeFor_17 (by decide) (fun c17 => ?_) (fun c17 => absurd c17 (by omega))
      refine g_iload C 1 rfl dX4_placeFor_123 ?_
      refine g_iconst C (-1) rfl dX4_placeFor_125 ?_
      refine g_icmp_eq C (by unfold rng; omega) (by unfold rng; omega) 134 dX4_placeFor_126 (by decide) (fun c126 => ?_) (fun c126 => ?_)
      · refine g_iload C 2 rfl dX4_placeFor_134 ?_
        refine g_iconst C (-1) rfl dX4_placeFor_136 ?_
        refine g_icmp_eq C (by unfold rng; omega) (by unfold rng; omega) 145 dX4_placeFor_137 (by decide) (fun c137 => ?_) (fun c137 => ?_)
        · refine g_aload_n C 4 rfl dX4_placeFor_145 ?_
          refine g_callI C [] [] (c_X4_firstFree l D cy g V w a o hap hm hw) lm_X4_51 (rcv_Mod hm.1) rfl (Nat.le_of_ble_eq_true rfl) ⟨(Nat.le_of_ble_eq_true rfl), (Nat.le_of_ble_eq_true rfl)⟩ ⟨Nat.zero_le _, Nat.zero_le _⟩ dX4_placeFor_146 ?_
          rintro r3 _ ⟨h3f, rfl⟩
          have hi0 : i + 1 = 0 := by omega
          rw [hi0] at h4 h5
          have e1 : be = -1 := c126
          subst e1
          have e2 : fi = -1 := c137
          subst e2
          exact g_iret C dX4_placeFor_149 ⟨Or.inr ⟨h4, Or.inr ⟨h5, h3f⟩⟩, rfl⟩
        · refine g_iload C 2 rfl dX4_placeFor_140 ?_
          refine g_goto C 149 dX4_placeFor_142 (by decide) ?_
          have hi0 : i + 1 = 0 := by omega
          rw [hi0] at h4 h5
          have e1 : be = -1 := c126
          subst e1
          exact g_iret C dX4_placeFor_149 ⟨Or.inr ⟨h4, Or.inl ⟨c137, h5⟩⟩, rfl⟩
      · refine g_iload C 1 rfl dX4_placeFor_129 ?_
        refine g_goto C 149 dX4_placeFor_131 (by decide) ?_
        have hi0 : i + 1 = 0 := by omega
        rw [hi0] at h4 h5
        exact g_iret C dX4_placeFor_149 ⟨Or.inl ⟨c126, h4⟩, rfl⟩
    | succ n ih =>
      intro i be fi h1 h2 h3 h4 h5
      refine g_iload C 0 rfl dX4_placeFor_15 ?_
      refine g_if_lt C (by unfold rng; omega) 123 dX4_placeFor_17 (by decide) (fun c17 => ?_) (fun c17 => ?_)
      · refine g_iload C 1 rfl dX4_placeFor_123 ?_
        refine g_iconst C (-1) rfl dX4_placeFor_125 ?_
        refine g_icmp_eq C (by unfold rng; omega) (by unfold rng; omega) 134 dX4_placeFor_126 (by decide) (fun c126 => ?_) (fun c126 => ?_)
        · refine g_iload C 2 rfl dX4_placeFor_134 ?_
          refine g_iconst C (-1) rfl dX4_placeFor_136 ?_
          refine g_icmp_eq C (by unfold rng; omega) (by unfold rng; omega) 145 dX4_placeFor_137 (by decide) (fun c137 => ?_) (fun c137 => ?_)
          · refine g_aload_n C 4 rfl dX4_placeFor_145 ?_
            refine g_callI C [] [] (c_X4_firstFree l D cy g V w a o hap hm hw) lm_X4_51 (rcv_Mod hm.1) rfl (Nat.le_of_ble_eq_true rfl) ⟨(Nat.le_of_ble_eq_true rfl), (Nat.le_of_ble_eq_true rfl)⟩ ⟨Nat.zero_le _, Nat.zero_le _⟩ dX4_placeFor_146 ?_
            rintro r3 _ ⟨h3f, rfl⟩
            have hi0 : i + 1 = 0 := by omega
            rw [hi0] at h4 h5
            have e1 : be = -1 := c126
            subst e1
            have e2 : fi = -1 := c137
            subst e2
            exact g_iret C dX4_placeFor_149 ⟨Or.inr ⟨h4, Or.inr ⟨h5, h3f⟩⟩, rfl⟩
          · refine g_iload C 2 rfl dX4_placeFor_140 ?_
            refine g_goto C 149 dX4_placeFor_142 (by decide) ?_
            have hi0 : i + 1 = 0 := by omega
            rw [hi0] at h4 h5
            have e1 : be = -1 := c126
            subst e1
            exact g_iret C dX4_placeFor_149 ⟨Or.inr ⟨h4, Or.inl ⟨c137, h5⟩⟩, rfl⟩
        · refine g_iload C 1 rfl dX4_placeFor_129 ?_
          refine g_goto C 149 dX4_placeFor_131 (by decide) ?_
          have hi0 : i + 1 = 0 := by omega
          rw [hi0] at h4 h5
          exact g_iret C dX4_placeFor_149 ⟨Or.inl ⟨c126, h4⟩, rfl⟩
      · refine g_aload_n C 4 rfl dX4_placeFor_20 ?_
        refine gf_Mod_d C hm1 hr1 lf_X4_7 dX4_placeFor_21 ?_
        refine g_iload C 0 rfl dX4_placeFor_24 ?_
        refine s_iald C (w 1 i) ha1 (by omega) (by decide) rfl dX4_placeFor_26 ?_
        refine g_iconst C 1 rfl dX4_placeFor_27 ?_
        refine g_icmp_ne C (by have z9 := hw (i) (by omega) (by omega); unfold sm at z9; unfold rng; omega) (by unfold rng; omega) 117 dX4_placeFor_28 (by decide) (fun c28 => ?_) (fun c28 => ?_)
        · refine g_iinc C [(7, vI (i + (-1))), (5, vI be), (6, vI fi), (4, vI (q + 4)), (0, .ref a), (1, vI q), (2, vI x), (3, vI y)] 0 rfl dX4_placeFor_117 (by decide) rfl ?_
          refine g_goto C 15 dX4_placeFor_120 (by decide) ?_
          refine g_sub [0, 1, 2, 3, 4, 5, 6, 7] rfl ?_
          refine ih (i + (-1)) be fi (by omega) (by omega) ?_ ?_ ?_
          · omega
          · rw [show i + (-1) + 1 = i by omega]
            have hno : okm w x y i → q + 4 ≤ 31 * mCl w i → (0 ≤ be ∧ mCl w be < mCl w i) := by
              rintro ⟨k1, k2, k3, k4⟩ hq8
              have hrm9 := hroom i (by omega) (by omega) k1
              unfold mCl at *
              first | (exact absurd k1 (by assumption)) | (exact absurd (by assumption) k2) | (exact absurd (by assumption) k3) | (exact absurd (by assumption) k4) | (exfalso; omega) | (exact ⟨hbe.1.1, by omega⟩)
            rcases h4 with ⟨k1, k2⟩ | ⟨k1, k2, k3, k4, k5, k6⟩
            · refine Or.inl ⟨k1, fun j q1 q2 q3 => ?_⟩
              by_cases hj : j = i
              · subst hj; exact Int.not_le.mp (fun q5 => by have := hno q3 q5; omega)
              · exact k2 j (by omega) q2 q3
            · refine Or.inr ⟨by omega, k2, k3, k4, fun j q1 q2 q3 q4 => ?_, fun j q1 q2 q3 q4 => ?_⟩
              · by_cases hj : j = i
                · subst hj; exact Int.le_of_lt (hno q3 q4).2
                · exact k5 j (by omega) q2 q3 q4
              · by_cases hj : j = i
                · subst hj; exact (hno q3 q4).2
                · exact k6 j (by omega) q2 q3 q4
          · rw [show i + (-1) + 1 = i by omega]
            have hno : okm w x y i → mRoom w i < q + 4 := by
              rintro ⟨k1, k2, k3, k4⟩
              first | (exact absurd k1 (by assumption)) | (exact absurd (by assumption) k2) | (exact absurd (by assumption) k3) | (exact absurd (by assumption) k4) | omega
            rcases h5 with ⟨k1, k2⟩ | ⟨k1, k2, k3, k4, k5⟩
            · refine Or.inl ⟨k1, fun j q1 q2 q3 => ?_⟩
              by_cases hj : j = i
              · subst hj; exact hno q3
              · exact k2 j (by omega) q2 q3
            · refine Or.inr ⟨by omega, k2, k3, k4, fun j q1 q2 q3 => ?_⟩
              by_cases hj : j = i
              · subst hj; exact hno q3
              · exact k5 j (by omega) q2 q3
        · refine g_iload C 0 rfl dX4_placeFor_31 ?_
          refine g_iload_n C 6 rfl dX4_placeFor_33 ?_
          refine g_icmp_eq C (by unfold rng; omega) (by unfold rng; omega) 117 dX4_placeFor_34 (by decide) (fun c34 => ?_) (fun c34 => ?_)
          · refine g_iinc C [(7, vI (i + (-1))), (5, vI be), (6, vI fi), (4, vI (q + 4)), (0, .ref a), (1, vI q), (2, vI x), (3, vI y)] 0 rfl dX4_placeFor_117 (by decide) rfl ?_
            refine g_goto C 15 dX4_placeFor_120 (by decide) ?_
            refine g_sub [0, 1, 2, 3, 4, 5, 6, 7] rfl ?_
            refine ih (i + (-1)) be fi (by omega) (by omega) ?_ ?_ ?_
            · omega
            · rw [show i + (-1) + 1 = i by omega]
              have hno : okm w x y i → q + 4 ≤ 31 * mCl w i → (0 ≤ be ∧ mCl w be < mCl w i) := by
                rintro ⟨k1, k2, k3, k4⟩ hq8
                have hrm9 := hroom i (by omega) (by omega) k1
                unfold mCl at *
                first | (exact absurd k1 (by assumption)) | (exact absurd (by assumption) k2) | (exact absurd (by assumption) k3) | (exact absurd (by assumption) k4) | (exfalso; omega) | (exact ⟨hbe.1.1, by omega⟩)
              rcases h4 with ⟨k1, k2⟩ | ⟨k1, k2, k3, k4, k5, k6⟩
              · refine Or.inl ⟨k1, fun j q1 q2 q3 => ?_⟩
                by_cases hj : j = i
                · subst hj; exact Int.not_le.mp (fun q5 => by have := hno q3 q5; omega)
                · exact k2 j (by omega) q2 q3
              · refine Or.inr ⟨by omega, k2, k3, k4, fun j q1 q2 q3 q4 => ?_, fun j q1 q2 q3 q4 => ?_⟩
                · by_cases hj : j = i
                  · subst hj; exact Int.le_of_lt (hno q3 q4).2
                  · exact k5 j (by omega) q2 q3 q4
                · by_cases hj : j = i
                  · subst hj; exact (hno q3 q4).2
                  · exact k6 j (by omega) q2 q3 q4
            · rw [show i + (-1) + 1 = i by omega]
              have hno : okm w x y i → mRoom w i < q + 4 := by
                rintro ⟨k1, k2, k3, k4⟩
                first | (exact absurd k1 (by assumption)) | (exact absurd (by assumption) k2) | (exact absurd (by assumption) k3) | (exact absurd (by assumption) k4) | omega
              rcases h5 with ⟨k1, k2⟩ | ⟨k1, k2, k3, k4, k5⟩
              · refine Or.inl ⟨k1, fun j q1 q2 q3 => ?_⟩
                by_cases hj : j = i
                · subst hj; exact hno q3
                · exact k2 j (by omega) q2 q3
              · refine Or.inr ⟨by omega, k2, k3, k4, fun j q1 q2 q3 => ?_⟩
                by_cases hj : j = i
                · subst hj; exact hno q3
                · exact k5 j (by omega) q2 q3
          · refine g_iload C 0 rfl dX4_placeFor_37 ?_
            refine g_iload_n C 7 rfl dX4_placeFor_39 ?_
            refine g_icmp_eq C (by unfold rng; omega) (by unfold rng; omega) 117 dX4_placeFor_40 (by decide) (fun c40 => ?_) (fun c40 => ?_)
            · refine g_iinc C [(7, vI (i + (-1))), (5, vI be), (6, vI fi), (4, vI (q + 4)), (0, .ref a), (1, vI q), (2, vI x), (3, vI y)] 0 rfl dX4_placeFor_117 (by decide) rfl ?_
              refine g_goto C 15 dX4_placeFor_120 (by decide) ?_
              refine g_sub [0, 1, 2, 3, 4, 5, 6, 7] rfl ?_
              refine ih (i + (-1)) be fi (by omega) (by omega) ?_ ?_ ?_
              · omega
              · rw [show i + (-1) + 1 = i by omega]
                have hno : okm w x y i → q + 4 ≤ 31 * mCl w i → (0 ≤ be ∧ mCl w be < mCl w i) := by
                  rintro ⟨k1, k2, k3, k4⟩ hq8
                  have hrm9 := hroom i (by omega) (by omega) k1
                  unfold mCl at *
                  first | (exact absurd k1 (by assumption)) | (exact absurd (by assumption) k2) | (exact absurd (by assumption) k3) | (exact absurd (by assumption) k4) | (exfalso; omega) | (exact ⟨hbe.1.1, by omega⟩)
                rcases h4 with ⟨k1, k2⟩ | ⟨k1, k2, k3, k4, k5, k6⟩
                · refine Or.inl ⟨k1, fun j q1 q2 q3 => ?_⟩
                  by_cases hj : j = i
                  · subst hj; exact Int.not_le.mp (fun q5 => by have := hno q3 q5; omega)
                  · exact k2 j (by omega) q2 q3
                · refine Or.inr ⟨by omega, k2, k3, k4, fun j q1 q2 q3 q4 => ?_, fun j q1 q2 q3 q4 => ?_⟩
                  · by_cases hj : j = i
                    · subst hj; exact Int.le_of_lt (hno q3 q4).2
                    · exact k5 j (by omega) q2 q3 q4
                  · by_cases hj : j = i
                    · subst hj; exact (hno q3 q4).2
                    · exact k6 j (by omega) q2 q3 q4
              · rw [show i + (-1) + 1 = i by omega]
                have hno : okm w x y i → mRoom w i < q + 4 := by
                  rintro ⟨k1, k2, k3, k4⟩
                  first | (exact absurd k1 (by assumption)) | (exact absurd (by assumption) k2) | (exact absurd (by assumption) k3) | (exact absurd (by assumption) k4) | omega
                rcases h5 with ⟨k1, k2⟩ | ⟨k1, k2, k3, k4, k5⟩
                · refine Or.inl ⟨k1, fun j q1 q2 q3 => ?_⟩
                  by_cases hj : j = i
                  · subst hj; exact hno q3
                  · exact k2 j (by omega) q2 q3
                · refine Or.inr ⟨by omega, k2, k3, k4, fun j q1 q2 q3 => ?_⟩
                  by_cases hj : j = i
                  · subst hj; exact hno q3
                  · exact k5 j (by omega) q2 q3
            · refine g_aload_n C 4 rfl dX4_placeFor_43 ?_
              refine g_iload C 0 rfl dX4_placeFor_44 ?_
              refine g_callI C [vI i] [] (c_X4_cells l D cy g V w a o i hap hm hw (by omega)) lm_X4_45 (rcv_Mod hm.1) rfl (Nat.le_of_ble_eq_true rfl) ⟨(Nat.le_of_ble_eq_true rfl), (Nat.le_of_ble_eq_true rfl)⟩ ⟨Nat.zero_le _, Nat.zero_le _⟩ dX4_placeFor_46 ?_
              rintro _ _ ⟨rfl, rfl⟩
              have hcb : 0 ≤ mCe w i ∧ mCe w i ≤ 32 := mCf_bd w i 32
              refine g_bipush C 32 rfl dX4_placeFor_49 ?_
              refine g_icmp_ne C (by unfold rng; omega) (by unfold rng; omega) 57 dX4_placeFor_51 (by decide) (fun c51 => ?_) (fun c51 => ?_)
              · have hok : okm w x y i := ⟨c28, c34, c40, c51⟩
                have hrm := hroom i (by omega) (by omega) c28
                refine g_aload_n C 4 rfl dX4_placeFor_57 ?_
                refine g_iload C 0 rfl dX4_placeFor_58 ?_
                refine g_callI C [vI i] [] (c_X4_room l D cy g V w a o i hap hm hw (by omega)) lm_X4_48 (rcv_Mod hm.1) rfl (Nat.le_of_ble_eq_true rfl) ⟨(Nat.le_of_ble_eq_true rfl), (Nat.le_of_ble_eq_true rfl)⟩ ⟨Nat.zero_le _, Nat.zero_le _⟩ dX4_placeFor_60 ?_
                rintro _ _ ⟨rfl, rfl⟩
                refine g_bipush C 31 rfl dX4_placeFor_63 ?_
                refine g_idiv C (by omega) (by omega) dX4_placeFor_65 ?_
                refine g_istore C [(8, vI ((mRoom w i) / 31)), (7, vI i), (5, vI be), (6, vI fi), (4, vI (q + 4)), (0, .ref a), (1, vI q), (2, vI x), (3, vI y)] dX4_placeFor_66 (by decide) rfl ?_
                refine g_bipush C 31 rfl dX4_placeFor_68 ?_
                refine g_iload C 0 rfl dX4_placeFor_70 ?_
                refine g_imul C dX4_placeFor_72 ?_
                refine g_iload C 4 rfl dX4_placeFor_73 ?_
                refine g_icmp_lt C (by unfold rng; omega) (by unfold rng; omega) 102 dX4_placeFor_75 (by decide) (fun c75 => ?_) (fun c75 => ?_)
                · refine g_aload_n C 5 rfl dX4_placeFor_102 ?_
                  refine g_iload C 1 rfl dX4_placeFor_103 ?_
                  refine g_callI C [vI i] [] (c_X4_room l D cy g V w a o i hap hm hw (by omega)) lm_X4_48 (rcv_Mod hm.1) rfl (Nat.le_of_ble_eq_true rfl) ⟨(Nat.le_of_ble_eq_true rfl), (Nat.le_of_ble_eq_true rfl)⟩ ⟨Nat.zero_le _, Nat.zero_le _⟩ dX4_placeFor_105 ?_
                  rintro _ _ ⟨rfl, rfl⟩
                  refine g_iload C 4 rfl dX4_placeFor_108 ?_
                  refine g_icmp_lt C (by unfold rng; omega) (by unfold rng; omega) 117 dX4_placeFor_110 (by decide) (fun c110 => ?_) (fun c110 => ?_)
                  · refine g_iinc C [(7, vI (i + (-1))), (8, vI ((mRoom w i) / 31)), (5, vI be), (6, vI fi), (4, vI (q + 4)), (0, .ref a), (1, vI q), (2, vI x), (3, vI y)] 1 rfl dX4_placeFor_117 (by decide) rfl ?_
                    refine g_goto C 15 dX4_placeFor_120 (by decide) ?_
                    refine g_sub [0, 2, 3, 4, 5, 6, 7, 8] rfl ?_
                    refine ih (i + (-1)) be fi (by omega) (by omega) ?_ ?_ ?_
                    · omega
                    · rw [show i + (-1) + 1 = i by omega]
                      have hno : okm w x y i → q + 4 ≤ 31 * mCl w i → (0 ≤ be ∧ mCl w be < mCl w i) := by
                        rintro ⟨k1, k2, k3, k4⟩ hq8
                        have hrm9 := hroom i (by omega) (by omega) k1
                        unfold mCl at *
                        first | (exact absurd k1 (by assumption)) | (exact absurd (by assumption) k2) | (exact absurd (by assumption) k3) | (exact absurd (by assumption) k4) | (exfalso; omega) | (exact ⟨hbe.1.1, by omega⟩)
                      rcases h4 with ⟨k1, k2⟩ | ⟨k1, k2, k3, k4, k5, k6⟩
                      · refine Or.inl ⟨k1, fun j q1 q2 q3 => ?_⟩
                        by_cases hj : j = i
                        · subst hj; exact Int.not_le.mp (fun q5 => by have := hno q3 q5; omega)
                        · exact k2 j (by omega) q2 q3
                      · refine Or.inr ⟨by omega, k2, k3, k4, fun j q1 q2 q3 q4 => ?_, fun j q1 q2 q3 q4 => ?_⟩
                        · by_cases hj : j = i
                          · subst hj; exact Int.le_of_lt (hno q3 q4).2
                          · exact k5 j (by omega) q2 q3 q4
                        · by_cases hj : j = i
                          · subst hj; exact (hno q3 q4).2
                          · exact k6 j (by omega) q2 q3 q4
                    · rw [show i + (-1) + 1 = i by omega]
                      have hno : okm w x y i → mRoom w i < q + 4 := by
                        rintro ⟨k1, k2, k3, k4⟩
                        first | (exact absurd k1 (by assumption)) | (exact absurd (by assumption) k2) | (exact absurd (by assumption) k3) | (exact absurd (by assumption) k4) | omega
                      rcases h5 with ⟨k1, k2⟩ | ⟨k1, k2, k3, k4, k5⟩
                      · refine Or.inl ⟨k1, fun j q1 q2 q3 => ?_⟩
                        by_cases hj : j = i
                        · subst hj; exact hno q3
                        · exact k2 j (by omega) q2 q3
                      · refine Or.inr ⟨by omega, k2, k3, k4, fun j q1 q2 q3 => ?_⟩
                        by_cases hj : j = i
                        · subst hj; exact hno q3
                        · exact k5 j (by omega) q2 q3
                  · refine g_iload C 1 rfl dX4_placeFor_113 ?_
                    refine g_istore C [(6, vI i), (8, vI ((mRoom w i) / 31)), (7, vI i), (5, vI be), (4, vI (q + 4)), (0, .ref a), (1, vI q), (2, vI x), (3, vI y)] dX4_placeFor_115 (by decide) rfl ?_
                    refine g_iinc C [(7, vI (i + (-1))), (6, vI i), (8, vI ((mRoom w i) / 31)), (5, vI be), (4, vI (q + 4)), (0, .ref a), (1, vI q), (2, vI x), (3, vI y)] 2 rfl dX4_placeFor_117 (by decide) rfl ?_
                    refine g_goto C 15 dX4_placeFor_120 (by decide) ?_
                    refine g_sub [0, 3, 1, 4, 5, 6, 7, 8] rfl ?_
                    refine ih (i + (-1)) be i (by omega) (by omega) ?_ ?_ ?_
                    · omega
                    · rw [show i + (-1) + 1 = i by omega]
                      have hno : okm w x y i → q + 4 ≤ 31 * mCl w i → (0 ≤ be ∧ mCl w be < mCl w i) := by
                        rintro ⟨k1, k2, k3, k4⟩ hq8
                        have hrm9 := hroom i (by omega) (by omega) k1
                        unfold mCl at *
                        first | (exact absurd k1 (by assumption)) | (exact absurd (by assumption) k2) | (exact absurd (by assumption) k3) | (exact absurd (by assumption) k4) | (exfalso; omega) | (exact ⟨hbe.1.1, by omega⟩)
                      rcases h4 with ⟨k1, k2⟩ | ⟨k1, k2, k3, k4, k5, k6⟩
                      · refine Or.inl ⟨k1, fun j q1 q2 q3 => ?_⟩
                        by_cases hj : j = i
                        · subst hj; exact Int.not_le.mp (fun q5 => by have := hno q3 q5; omega)
                        · exact k2 j (by omega) q2 q3
                      · refine Or.inr ⟨by omega, k2, k3, k4, fun j q1 q2 q3 q4 => ?_, fun j q1 q2 q3 q4 => ?_⟩
                        · by_cases hj : j = i
                          · subst hj; exact Int.le_of_lt (hno q3 q4).2
                          · exact k5 j (by omega) q2 q3 q4
                        · by_cases hj : j = i
                          · subst hj; exact (hno q3 q4).2
                          · exact k6 j (by omega) q2 q3 q4
                    · rw [show i + (-1) + 1 = i by omega]
                      exact Or.inr ⟨Int.le_refl _, by omega, hok, by omega, fun j q1 q2 => absurd q1 (by omega)⟩
                · refine g_iload C 2 rfl dX4_placeFor_78 ?_
                  refine g_iconst C (-1) rfl dX4_placeFor_80 ?_
                  refine g_icmp_eq C (by unfold rng; omega) (by unfold rng; omega) 98 dX4_placeFor_81 (by decide) (fun c81 => ?_) (fun c81 => ?_)
                  · refine g_iload C 1 rfl dX4_placeFor_98 ?_
                    refine g_istore C [(5, vI i), (8, vI ((mRoom w i) / 31)), (7, vI i), (6, vI fi), (4, vI (q + 4)), (0, .ref a), (1, vI q), (2, vI x), (3, vI y)] dX4_placeFor_100 (by decide) rfl ?_
                    refine g_aload_n C 5 rfl dX4_placeFor_102 ?_
                    refine g_iload C 2 rfl dX4_placeFor_103 ?_
                    refine g_callI C [vI i] [] (c_X4_room l D cy g V w a o i hap hm hw (by omega)) lm_X4_48 (rcv_Mod hm.1) rfl (Nat.le_of_ble_eq_true rfl) ⟨(Nat.le_of_ble_eq_true rfl), (Nat.le_of_ble_eq_true rfl)⟩ ⟨Nat.zero_le _, Nat.zero_le _⟩ dX4_placeFor_105 ?_
                    rintro _ _ ⟨rfl, rfl⟩
                    refine g_iload C 4 rfl dX4_placeFor_108 ?_
                    refine g_icmp_lt C (by unfold rng; omega) (by unfold rng; omega) 117 dX4_placeFor_110 (by decide) (fun c110 => ?_) (fun c110 => ?_)
                    · refine g_iinc C [(7, vI (i + (-1))), (5, vI i), (8, vI ((mRoom w i) / 31)), (6, vI fi), (4, vI (q + 4)), (0, .ref a), (1, vI q), (2, vI x), (3, vI y)] 2 rfl dX4_placeFor_117 (by decide) rfl ?_
                      refine g_goto C 15 dX4_placeFor_120 (by decide) ?_
                      refine g_sub [0, 1, 3, 4, 5, 6, 7, 8] rfl ?_
                      refine ih (i + (-1)) i fi (by omega) (by omega) ?_ ?_ ?_
                      · omega
                      · rw [show i + (-1) + 1 = i by omega]
                        refine Or.inr ⟨Int.le_refl _, by omega, hok, by unfold mCl; omega, fun j q1 q2 q3 q4 => ?_, fun j q1 q2 => absurd q1 (by omega)⟩
                        by_cases hj : j = i
                        · subst hj; exact Int.le_refl _
                        · rcases h4 with ⟨-, k2⟩ | ⟨k1, k2, k3, k4, k5, k6⟩
                          · exact absurd q4 (by have := k2 j (by omega) q2 q3; omega)
                          · have := k5 j (by omega) q2 q3 q4
                            unfold mCl at *
                            first | omega | (exfalso; omega)
                      · rw [show i + (-1) + 1 = i by omega]
                        have hno : okm w x y i → mRoom w i < q + 4 := by
                          rintro ⟨k1, k2, k3, k4⟩
                          first | (exact absurd k1 (by assumption)) | (exact absurd (by assumption) k2) | (exact absurd (by assumption) k3) | (exact absurd (by assumption) k4) | omega
                        rcases h5 with ⟨k1, k2⟩ | ⟨k1, k2, k3, k4, k5⟩
                        · refine Or.inl ⟨k1, fun j q1 q2 q3 => ?_⟩
                          by_cases hj : j = i
                          · subst hj; exact hno q3
                          · exact k2 j (by omega) q2 q3
                        · refine Or.inr ⟨by omega, k2, k3, k4, fun j q1 q2 q3 => ?_⟩
                          by_cases hj : j = i
                          · subst hj; exact hno q3
                          · exact k5 j (by omega) q2 q3
                    · refine g_iload C 2 rfl dX4_placeFor_113 ?_
                      refine g_istore C [(6, vI i), (5, vI i), (8, vI ((mRoom w i) / 31)), (7, vI i), (4, vI (q + 4)), (0, .ref a), (1, vI q), (2, vI x), (3, vI y)] dX4_placeFor_115 (by decide) rfl ?_
                      refine g_iinc C [(7, vI (i + (-1))), (6, vI i), (5, vI i), (8, vI ((mRoom w i) / 31)), (4, vI (q + 4)), (0, .ref a), (1, vI q), (2, vI x), (3, vI y)] 3 rfl dX4_placeFor_117 (by decide) rfl ?_
                      refine g_goto C 15 dX4_placeFor_120 (by decide) ?_
                      refine g_sub [0, 2, 1, 4, 5, 6, 7, 8] rfl ?_
                      refine ih (i + (-1)) i i (by omega) (by omega) ?_ ?_ ?_
                      · omega
                      · rw [show i + (-1) + 1 = i by omega]
                        refine Or.inr ⟨Int.le_refl _, by omega, hok, by unfold mCl; omega, fun j q1 q2 q3 q4 => ?_, fun j q1 q2 => absurd q1 (by omega)⟩
                        by_cases hj : j = i
                        · subst hj; exact Int.le_refl _
                        · rcases h4 with ⟨-, k2⟩ | ⟨k1, k2, k3, k4, k5, k6⟩
                          · exact absurd q4 (by have := k2 j (by omega) q2 q3; omega)
                          · have := k5 j (by omega) q2 q3 q4
                            unfold mCl at *
                            first | omega | (exfalso; omega)
                      · rw [show i + (-1) + 1 = i by omega]
                        exact Or.inr ⟨Int.le_refl _, by omega, hok, by omega, fun j q1 q2 => absurd q1 (by omega)⟩
                  · have hbe : (0 ≤ be ∧ be < 96) ∧ okm w x y be := by
                      rcases h4 with ⟨k, -⟩ | ⟨k1, k2, k3, -⟩
                      · exact absurd k c81
                      · exact ⟨⟨by omega, k2⟩, k3⟩
                    have hrb := hroom be hbe.1.1 hbe.1.2 hbe.2.1
                    refine g_iload C 0 rfl dX4_placeFor_84 ?_
                    refine g_aload_n C 5 rfl dX4_placeFor_86 ?_
                    refine g_iload C 2 rfl dX4_placeFor_87 ?_
                    refine g_callI C [vI be] [vI ((mRoom w i) / 31)] (c_X4_room l D cy g V w a o be hap hm hw (by omega)) lm_X4_48 (rcv_Mod hm.1) rfl (Nat.le_of_ble_eq_true rfl) ⟨(Nat.le_of_ble_eq_true rfl), (Nat.le_of_ble_eq_true rfl)⟩ ⟨Nat.zero_le _, Nat.zero_le _⟩ dX4_placeFor_89 ?_
                    rintro _ _ ⟨rfl, rfl⟩
                    refine g_bipush C 31 rfl dX4_placeFor_92 ?_
                    refine g_idiv C (by omega) (by omega) dX4_placeFor_94 ?_
                    refine g_icmp_gt C (by unfold rng; omega) (by unfold rng; omega) 102 dX4_placeFor_95 (by decide) (fun c95 => ?_) (fun c95 => ?_)
                    · refine g_aload_n C 5 rfl dX4_placeFor_102 ?_
                      refine g_iload C 1 rfl dX4_placeFor_103 ?_
                      refine g_callI C [vI i] [] (c_X4_room l D cy g V w a o i hap hm hw (by omega)) lm_X4_48 (rcv_Mod hm.1) rfl (Nat.le_of_ble_eq_true rfl) ⟨(Nat.le_of_ble_eq_true rfl), (Nat.le_of_ble_eq_true rfl)⟩ ⟨Nat.zero_le _, Nat.zero_le _⟩ dX4_placeFor_105 ?_
                      rintro _ _ ⟨rfl, rfl⟩
                      refine g_iload C 4 rfl dX4_placeFor_108 ?_
                      refine g_icmp_lt C (by unfold rng; omega) (by unfold rng; omega) 117 dX4_placeFor_110 (by decide) (fun c110 => ?_) (fun c110 => ?_)
                      · refine g_iinc C [(7, vI (i + (-1))), (8, vI ((mRoom w i) / 31)), (5, vI be), (6, vI fi), (4, vI (q + 4)), (0, .ref a), (1, vI q), (2, vI x), (3, vI y)] 1 rfl dX4_placeFor_117 (by decide) rfl ?_
                        refine g_goto C 15 dX4_placeFor_120 (by decide) ?_
                        refine g_sub [0, 2, 3, 4, 5, 6, 7, 8] rfl ?_
                        refine ih (i + (-1)) be fi (by omega) (by omega) ?_ ?_ ?_
                        · omega
                        · rw [show i + (-1) + 1 = i by omega]
                          have hno : okm w x y i → q + 4 ≤ 31 * mCl w i → (0 ≤ be ∧ mCl w be < mCl w i) := by
                            rintro ⟨k1, k2, k3, k4⟩ hq8
                            have hrm9 := hroom i (by omega) (by omega) k1
                            unfold mCl at *
                            first | (exact absurd k1 (by assumption)) | (exact absurd (by assumption) k2) | (exact absurd (by assumption) k3) | (exact absurd (by assumption) k4) | (exfalso; omega) | (exact ⟨hbe.1.1, by omega⟩)
                          rcases h4 with ⟨k1, k2⟩ | ⟨k1, k2, k3, k4, k5, k6⟩
                          · refine Or.inl ⟨k1, fun j q1 q2 q3 => ?_⟩
                            by_cases hj : j = i
                            · subst hj; exact Int.not_le.mp (fun q5 => by have := hno q3 q5; omega)
                            · exact k2 j (by omega) q2 q3
                          · refine Or.inr ⟨by omega, k2, k3, k4, fun j q1 q2 q3 q4 => ?_, fun j q1 q2 q3 q4 => ?_⟩
                            · by_cases hj : j = i
                              · subst hj; exact Int.le_of_lt (hno q3 q4).2
                              · exact k5 j (by omega) q2 q3 q4
                            · by_cases hj : j = i
                              · subst hj; exact (hno q3 q4).2
                              · exact k6 j (by omega) q2 q3 q4
                        · rw [show i + (-1) + 1 = i by omega]
                          have hno : okm w x y i → mRoom w i < q + 4 := by
                            rintro ⟨k1, k2, k3, k4⟩
                            first | (exact absurd k1 (by assumption)) | (exact absurd (by assumption) k2) | (exact absurd (by assumption) k3) | (exact absurd (by assumption) k4) | omega
                          rcases h5 with ⟨k1, k2⟩ | ⟨k1, k2, k3, k4, k5⟩
                          · refine Or.inl ⟨k1, fun j q1 q2 q3 => ?_⟩
                            by_cases hj : j = i
                            · subst hj; exact hno q3
                            · exact k2 j (by omega) q2 q3
                          · refine Or.inr ⟨by omega, k2, k3, k4, fun j q1 q2 q3 => ?_⟩
                            by_cases hj : j = i
                            · subst hj; exact hno q3
                            · exact k5 j (by omega) q2 q3
                      · refine g_iload C 1 rfl dX4_placeFor_113 ?_
                        refine g_istore C [(6, vI i), (8, vI ((mRoom w i) / 31)), (7, vI i), (5, vI be), (4, vI (q + 4)), (0, .ref a), (1, vI q), (2, vI x), (3, vI y)] dX4_placeFor_115 (by decide) rfl ?_
                        refine g_iinc C [(7, vI (i + (-1))), (6, vI i), (8, vI ((mRoom w i) / 31)), (5, vI be), (4, vI (q + 4)), (0, .ref a), (1, vI q), (2, vI x), (3, vI y)] 2 rfl dX4_placeFor_117 (by decide) rfl ?_
                        refine g_goto C 15 dX4_placeFor_120 (by decide) ?_
                        refine g_sub [0, 3, 1, 4, 5, 6, 7, 8] rfl ?_
                        refine ih (i + (-1)) be i (by omega) (by omega) ?_ ?_ ?_
                        · omega
                        · rw [show i + (-1) + 1 = i by omega]
                          have hno : okm w x y i → q + 4 ≤ 31 * mCl w i → (0 ≤ be ∧ mCl w be < mCl w i) := by
                            rintro ⟨k1, k2, k3, k4⟩ hq8
                            have hrm9 := hroom i (by omega) (by omega) k1
                            unfold mCl at *
                            first | (exact absurd k1 (by assumption)) | (exact absurd (by assumption) k2) | (exact absurd (by assumption) k3) | (exact absurd (by assumption) k4) | (exfalso; omega) | (exact ⟨hbe.1.1, by omega⟩)
                          rcases h4 with ⟨k1, k2⟩ | ⟨k1, k2, k3, k4, k5, k6⟩
                          · refine Or.inl ⟨k1, fun j q1 q2 q3 => ?_⟩
                            by_cases hj : j = i
                            · subst hj; exact Int.not_le.mp (fun q5 => by have := hno q3 q5; omega)
                            · exact k2 j (by omega) q2 q3
                          · refine Or.inr ⟨by omega, k2, k3, k4, fun j q1 q2 q3 q4 => ?_, fun j q1 q2 q3 q4 => ?_⟩
                            · by_cases hj : j = i
                              · subst hj; exact Int.le_of_lt (hno q3 q4).2
                              · exact k5 j (by omega) q2 q3 q4
                            · by_cases hj : j = i
                              · subst hj; exact (hno q3 q4).2
                              · exact k6 j (by omega) q2 q3 q4
                        · rw [show i + (-1) + 1 = i by omega]
                          exact Or.inr ⟨Int.le_refl _, by omega, hok, by omega, fun j q1 q2 => absurd q1 (by omega)⟩
                    · refine g_iload C 1 rfl dX4_placeFor_98 ?_
                      refine g_istore C [(5, vI i), (8, vI ((mRoom w i) / 31)), (7, vI i), (6, vI fi), (4, vI (q + 4)), (0, .ref a), (1, vI q), (2, vI x), (3, vI y)] dX4_placeFor_100 (by decide) rfl ?_
                      refine g_aload_n C 5 rfl dX4_placeFor_102 ?_
                      refine g_iload C 2 rfl dX4_placeFor_103 ?_
                      refine g_callI C [vI i] [] (c_X4_room l D cy g V w a o i hap hm hw (by omega)) lm_X4_48 (rcv_Mod hm.1) rfl (Nat.le_of_ble_eq_true rfl) ⟨(Nat.le_of_ble_eq_true rfl), (Nat.le_of_ble_eq_true rfl)⟩ ⟨Nat.zero_le _, Nat.zero_le _⟩ dX4_placeFor_105 ?_
                      rintro _ _ ⟨rfl, rfl⟩
                      refine g_iload C 4 rfl dX4_placeFor_108 ?_
                      refine g_icmp_lt C (by unfold rng; omega) (by unfold rng; omega) 117 dX4_placeFor_110 (by decide) (fun c110 => ?_) (fun c110 => ?_)
                      · refine g_iinc C [(7, vI (i + (-1))), (5, vI i), (8, vI ((mRoom w i) / 31)), (6, vI fi), (4, vI (q + 4)), (0, .ref a), (1, vI q), (2, vI x), (3, vI y)] 2 rfl dX4_placeFor_117 (by decide) rfl ?_
                        refine g_goto C 15 dX4_placeFor_120 (by decide) ?_
                        refine g_sub [0, 1, 3, 4, 5, 6, 7, 8] rfl ?_
                        refine ih (i + (-1)) i fi (by omega) (by omega) ?_ ?_ ?_
                        · omega
                        · rw [show i + (-1) + 1 = i by omega]
                          refine Or.inr ⟨Int.le_refl _, by omega, hok, by unfold mCl; omega, fun j q1 q2 q3 q4 => ?_, fun j q1 q2 => absurd q1 (by omega)⟩
                          by_cases hj : j = i
                          · subst hj; exact Int.le_refl _
                          · rcases h4 with ⟨-, k2⟩ | ⟨k1, k2, k3, k4, k5, k6⟩
                            · exact absurd q4 (by have := k2 j (by omega) q2 q3; omega)
                            · have := k5 j (by omega) q2 q3 q4
                              unfold mCl at *
                              first | omega | (exfalso; omega)
                        · rw [show i + (-1) + 1 = i by omega]
                          have hno : okm w x y i → mRoom w i < q + 4 := by
                            rintro ⟨k1, k2, k3, k4⟩
                            first | (exact absurd k1 (by assumption)) | (exact absurd (by assumption) k2) | (exact absurd (by assumption) k3) | (exact absurd (by assumption) k4) | omega
                          rcases h5 with ⟨k1, k2⟩ | ⟨k1, k2, k3, k4, k5⟩
                          · refine Or.inl ⟨k1, fun j q1 q2 q3 => ?_⟩
                            by_cases hj : j = i
                            · subst hj; exact hno q3
                            · exact k2 j (by omega) q2 q3
                          · refine Or.inr ⟨by omega, k2, k3, k4, fun j q1 q2 q3 => ?_⟩
                            by_cases hj : j = i
                            · subst hj; exact hno q3
                            · exact k5 j (by omega) q2 q3
                      · refine g_iload C 2 rfl dX4_placeFor_113 ?_
                        refine g_istore C [(6, vI i), (5, vI i), (8, vI ((mRoom w i) / 31)), (7, vI i), (4, vI (q + 4)), (0, .ref a), (1, vI q), (2, vI x), (3, vI y)] dX4_placeFor_115 (by decide) rfl ?_
                        refine g_iinc C [(7, vI (i + (-1))), (6, vI i), (5, vI i), (8, vI ((mRoom w i) / 31)), (4, vI (q + 4)), (0, .ref a), (1, vI q), (2, vI x), (3, vI y)] 3 rfl dX4_placeFor_117 (by decide) rfl ?_
                        refine g_goto C 15 dX4_placeFor_120 (by decide) ?_
                        refine g_sub [0, 2, 1, 4, 5, 6, 7, 8] rfl ?_
                        refine ih (i + (-1)) i i (by omega) (by omega) ?_ ?_ ?_
                        · omega
                        · rw [show i + (-1) + 1 = i by omega]
                          refine Or.inr ⟨Int.le_refl _, by omega, hok, by unfold mCl; omega, fun j q1 q2 q3 q4 => ?_, fun j q1 q2 => absurd q1 (by omega)⟩
                          by_cases hj : j = i
                          · subst hj; exact Int.le_refl _
                          · rcases h4 with ⟨-, k2⟩ | ⟨k1, k2, k3, k4, k5, k6⟩
                            · exact absurd q4 (by have := k2 j (by omega) q2 q3; omega)
                            · have := k5 j (by omega) q2 q3 q4
                              unfold mCl at *
                              first | omega | (exfalso; omega)
                        · rw [show i + (-1) + 1 = i by omega]
                          exact Or.inr ⟨Int.le_refl _, by omega, hok, by omega, fun j q1 q2 => absurd q1 (by omega)⟩
              · refine g_goto C 117 dX4_placeFor_54 (by decide) ?_
                refine g_iinc C [(7, vI (i + (-1))), (5, vI be), (6, vI fi), (4, vI (q + 4)), (0, .ref a), (1, vI q), (2, vI x), (3, vI y)] 0 rfl dX4_placeFor_117 (by decide) rfl ?_
                refine g_goto C 15 dX4_placeFor_120 (by decide) ?_
                refine g_sub [0, 1, 2, 3, 4, 5, 6, 7] rfl ?_
                refine ih (i + (-1)) be fi (by omega) (by omega) ?_ ?_ ?_
                · omega
                · rw [show i + (-1) + 1 = i by omega]
                  have hno : okm w x y i → q + 4 ≤ 31 * mCl w i → (0 ≤ be ∧ mCl w be < mCl w i) := by
                    rintro ⟨k1, k2, k3, k4⟩ hq8
                    have hrm9 := hroom i (by omega) (by omega) k1
                    unfold mCl at *
                    first | (exact absurd k1 (by assumption)) | (exact absurd (by assumption) k2) | (exact absurd (by assumption) k3) | (exact absurd (by assumption) k4) | (exfalso; omega) | (exact ⟨hbe.1.1, by omega⟩)
                  rcases h4 with ⟨k1, k2⟩ | ⟨k1, k2, k3, k4, k5, k6⟩
                  · refine Or.inl ⟨k1, fun j q1 q2 q3 => ?_⟩
                    by_cases hj : j = i
                    · subst hj; exact Int.not_le.mp (fun q5 => by have := hno q3 q5; omega)
                    · exact k2 j (by omega) q2 q3
                  · refine Or.inr ⟨by omega, k2, k3, k4, fun j q1 q2 q3 q4 => ?_, fun j q1 q2 q3 q4 => ?_⟩
                    · by_cases hj : j = i
                      · subst hj; exact Int.le_of_lt (hno q3 q4).2
                      · exact k5 j (by omega) q2 q3 q4
                    · by_cases hj : j = i
                      · subst hj; exact (hno q3 q4).2
                      · exact k6 j (by omega) q2 q3 q4
                · rw [show i + (-1) + 1 = i by omega]
                  have hno : okm w x y i → mRoom w i < q + 4 := by
                    rintro ⟨k1, k2, k3, k4⟩
                    first | (exact absurd k1 (by assumption)) | (exact absurd (by assumption) k2) | (exact absurd (by assumption) k3) | (exact absurd (by assumption) k4) | omega
                  rcases h5 with ⟨k1, k2⟩ | ⟨k1, k2, k3, k4, k5⟩
                  · refine Or.inl ⟨k1, fun j q1 q2 q3 => ?_⟩
                    by_cases hj : j = i
                    · subst hj; exact hno q3
                    · exact k2 j (by omega) q2 q3
                  · refine Or.inr ⟨by omega, k2, k3, k4, fun j q1 q2 q3 => ?_⟩
                    by_cases hj : j = i
                    · subst hj; exact hno q3
                    · exact k5 j (by omega) q2 q3
  refine g_iload_n C 1 rfl dX4_placeFor_0 ?_
  refine g_iconst C 4 rfl dX4_placeFor_1 ?_
  refine g_iadd C dX4_placeFor_2 ?_
  refine g_istore C [(4, vI (q + 4)), (0, .ref a), (1, vI q), (2, vI x), (3, vI y)] dX4_placeFor_3 (by decide) rfl ?_
  refine g_iconst C (-1) rfl dX4_placeFor_5 ?_
  refine g_istore C [(5, vI ((-1))), (4, vI (q + 4)), (0, .ref a), (1, vI q), (2, vI x), (3, vI y)] dX4_placeFor_6 (by decide) rfl ?_
  refine g_iconst C (-1) rfl dX4_placeFor_8 ?_
  refine g_istore C [(6, vI ((-1))), (5, vI ((-1))), (4, vI (q + 4)), (0, .ref a), (1, vI q), (2, vI x), (3, vI y)] dX4_placeFor_9 (by decide) rfl ?_
  refine g_bipush C 95 rfl dX4_placeFor_11 ?_
  refine g_istore C [(7, vI 95), (6, vI ((-1))), (5, vI ((-1))), (4, vI (q + 4)), (0, .ref a), (1, vI q), (2, vI x), (3, vI y)] dX4_placeFor_13 (by decide) rfl ?_
  refine g_sub [0, 2, 1, 3, 4, 5, 6, 7] rfl ?_
  exact loop 96 95 (-1) (-1) (by omega) (by omega) (by omega) (Or.inl ⟨rfl, fun j q1 q2 => absurd q1 (by omega)⟩) (Or.inl ⟨rfl, fun j q1 q2 => absurd q1 (by omega)⟩)
end
