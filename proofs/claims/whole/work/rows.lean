section
-- ===== PART A: goes FIRST, ahead of the names: the tables' words, and 'selects' of the private methods out of them =====
/-- a private method of a class that the tables say can be made, by its rows of tables_1 -/
def lw_okq (q : MethodName × Nat) : Prop := (q.1.cls ≠ "java/lang/invoke/MethodHandle" ∧ q.1.cls ≠ "java/lang/invoke/VarHandle") ∧ Cond.instantiable q.1.cls q.2 ∈ tables_1 ∧ Cond.privateMethod q.1 ∈ tables_1 ∧ Cond.instanceMethod q.1 ∈ tables_1
theorem lw_p0 : lw_okq (⟨"VolumeShepherd$Store", "countLost", "()I"⟩, 13) := ⟨⟨by decide +kernel, by decide +kernel⟩, List.mem_of_getElem? (i := 36) (by decide +kernel), List.mem_of_getElem? (i := 228) (by decide +kernel), List.mem_of_getElem? (i := 229) (by decide +kernel)⟩
theorem lw_p1 : lw_okq (⟨"VolumeShepherd$Store", "hasLost", "(I)Z"⟩, 13) := ⟨⟨by decide +kernel, by decide +kernel⟩, List.mem_of_getElem? (i := 36) (by decide +kernel), List.mem_of_getElem? (i := 232) (by decide +kernel), List.mem_of_getElem? (i := 233) (by decide +kernel)⟩
theorem lw_p2 : lw_okq (⟨"VolumeShepherd$Store", "disksWithGoodCopy", "(I)I"⟩, 13) := ⟨⟨by decide +kernel, by decide +kernel⟩, List.mem_of_getElem? (i := 36) (by decide +kernel), List.mem_of_getElem? (i := 236) (by decide +kernel), List.mem_of_getElem? (i := 237) (by decide +kernel)⟩
theorem lw_p3 : lw_okq (⟨"VolumeShepherd$Store", "addressOf", "(II)I"⟩, 13) := ⟨⟨by decide +kernel, by decide +kernel⟩, List.mem_of_getElem? (i := 36) (by decide +kernel), List.mem_of_getElem? (i := 240) (by decide +kernel), List.mem_of_getElem? (i := 241) (by decide +kernel)⟩
theorem lw_p4 : lw_okq (⟨"VolumeShepherd$Store", "countDegraded", "()I"⟩, 13) := ⟨⟨by decide +kernel, by decide +kernel⟩, List.mem_of_getElem? (i := 36) (by decide +kernel), List.mem_of_getElem? (i := 248) (by decide +kernel), List.mem_of_getElem? (i := 249) (by decide +kernel)⟩
theorem lw_p5 : lw_okq (⟨"VolumeShepherd$Store", "wantedOf", "(I)I"⟩, 13) := ⟨⟨by decide +kernel, by decide +kernel⟩, List.mem_of_getElem? (i := 36) (by decide +kernel), List.mem_of_getElem? (i := 252) (by decide +kernel), List.mem_of_getElem? (i := 253) (by decide +kernel)⟩
theorem lw_p6 : lw_okq (⟨"VolumeShepherd$Store", "copyFrom", "(LVolumeShepherd$Store;)V"⟩, 13) := ⟨⟨by decide +kernel, by decide +kernel⟩, List.mem_of_getElem? (i := 36) (by decide +kernel), List.mem_of_getElem? (i := 264) (by decide +kernel), List.mem_of_getElem? (i := 265) (by decide +kernel)⟩
theorem lw_p7 : lw_okq (⟨"VolumeShepherd$Store", "rebuild", "(I)I"⟩, 13) := ⟨⟨by decide +kernel, by decide +kernel⟩, List.mem_of_getElem? (i := 36) (by decide +kernel), List.mem_of_getElem? (i := 272) (by decide +kernel), List.mem_of_getElem? (i := 273) (by decide +kernel)⟩
theorem lw_p8 : lw_okq (⟨"VolumeShepherd$Store", "completeBlock", "(II)I"⟩, 13) := ⟨⟨by decide +kernel, by decide +kernel⟩, List.mem_of_getElem? (i := 36) (by decide +kernel), List.mem_of_getElem? (i := 276) (by decide +kernel), List.mem_of_getElem? (i := 277) (by decide +kernel)⟩
theorem lw_p9 : lw_okq (⟨"VolumeShepherd$Store", "disksWithCopy", "(I)I"⟩, 13) := ⟨⟨by decide +kernel, by decide +kernel⟩, List.mem_of_getElem? (i := 36) (by decide +kernel), List.mem_of_getElem? (i := 283) (by decide +kernel), List.mem_of_getElem? (i := 284) (by decide +kernel)⟩
theorem lw_p10 : lw_okq (⟨"VolumeShepherd$Store", "findPlace", "(I)I"⟩, 13) := ⟨⟨by decide +kernel, by decide +kernel⟩, List.mem_of_getElem? (i := 36) (by decide +kernel), List.mem_of_getElem? (i := 287) (by decide +kernel), List.mem_of_getElem? (i := 288) (by decide +kernel)⟩
theorem lw_p11 : lw_okq (⟨"VolumeShepherd$Store", "freeOn", "(I)I"⟩, 13) := ⟨⟨by decide +kernel, by decide +kernel⟩, List.mem_of_getElem? (i := 36) (by decide +kernel), List.mem_of_getElem? (i := 291) (by decide +kernel), List.mem_of_getElem? (i := 292) (by decide +kernel)⟩
theorem lw_p12 : lw_okq (⟨"VolumeShepherd$Store", "firstFreeOn", "(I)I"⟩, 13) := ⟨⟨by decide +kernel, by decide +kernel⟩, List.mem_of_getElem? (i := 36) (by decide +kernel), List.mem_of_getElem? (i := 295) (by decide +kernel), List.mem_of_getElem? (i := 296) (by decide +kernel)⟩
theorem lw_p13 : lw_okq (⟨"VolumeShepherd$Store", "addCopy", "(II)V"⟩, 13) := ⟨⟨by decide +kernel, by decide +kernel⟩, List.mem_of_getElem? (i := 36) (by decide +kernel), List.mem_of_getElem? (i := 299) (by decide +kernel), List.mem_of_getElem? (i := 300) (by decide +kernel)⟩
theorem lw_p14 : lw_okq (⟨"VolumeShepherd$Store", "emptyWarnedDisks", "(II)I"⟩, 13) := ⟨⟨by decide +kernel, by decide +kernel⟩, List.mem_of_getElem? (i := 36) (by decide +kernel), List.mem_of_getElem? (i := 306) (by decide +kernel), List.mem_of_getElem? (i := 307) (by decide +kernel)⟩
theorem lw_p15 : lw_okq (⟨"VolumeShepherd$Store", "removeCopy", "(II)V"⟩, 13) := ⟨⟨by decide +kernel, by decide +kernel⟩, List.mem_of_getElem? (i := 36) (by decide +kernel), List.mem_of_getElem? (i := 310) (by decide +kernel), List.mem_of_getElem? (i := 311) (by decide +kernel)⟩
def lw_privs_1 : List (MethodName × Nat) := [(⟨"VolumeShepherd$Store", "countLost", "()I"⟩, 13), (⟨"VolumeShepherd$Store", "hasLost", "(I)Z"⟩, 13), (⟨"VolumeShepherd$Store", "disksWithGoodCopy", "(I)I"⟩, 13), (⟨"VolumeShepherd$Store", "addressOf", "(II)I"⟩, 13), (⟨"VolumeShepherd$Store", "countDegraded", "()I"⟩, 13), (⟨"VolumeShepherd$Store", "wantedOf", "(I)I"⟩, 13), (⟨"VolumeShepherd$Store", "copyFrom", "(LVolumeShepherd$Store;)V"⟩, 13), (⟨"VolumeShepherd$Store", "rebuild", "(I)I"⟩, 13), (⟨"VolumeShepherd$Store", "completeBlock", "(II)I"⟩, 13), (⟨"VolumeShepherd$Store", "disksWithCopy", "(I)I"⟩, 13), (⟨"VolumeShepherd$Store", "findPlace", "(I)I"⟩, 13), (⟨"VolumeShepherd$Store", "freeOn", "(I)I"⟩, 13), (⟨"VolumeShepherd$Store", "firstFreeOn", "(I)I"⟩, 13), (⟨"VolumeShepherd$Store", "addCopy", "(II)V"⟩, 13), (⟨"VolumeShepherd$Store", "emptyWarnedDisks", "(II)I"⟩, 13), (⟨"VolumeShepherd$Store", "removeCopy", "(II)V"⟩, 13)]
theorem lw_r1 : ∀ q ∈ lw_privs_1, lw_okq q := List.forall_mem_cons.mpr ⟨lw_p0, List.forall_mem_cons.mpr ⟨lw_p1, List.forall_mem_cons.mpr ⟨lw_p2, List.forall_mem_cons.mpr ⟨lw_p3, List.forall_mem_cons.mpr ⟨lw_p4, List.forall_mem_cons.mpr ⟨lw_p5, List.forall_mem_cons.mpr ⟨lw_p6, List.forall_mem_cons.mpr ⟨lw_p7, List.forall_mem_cons.mpr ⟨lw_p8, List.forall_mem_cons.mpr ⟨lw_p9, List.forall_mem_cons.mpr ⟨lw_p10, List.forall_mem_cons.mpr ⟨lw_p11, List.forall_mem_cons.mpr ⟨lw_p12, List.forall_mem_cons.mpr ⟨lw_p13, List.forall_mem_cons.mpr ⟨lw_p14, List.forall_mem_cons.mpr ⟨lw_p15, fun _ h => absurd h List.not_mem_nil⟩⟩⟩⟩⟩⟩⟩⟩⟩⟩⟩⟩⟩⟩⟩⟩
theorem lw_p16 : lw_okq (⟨"VolumeShepherd$Store", "agreesWithDisks", "()Z"⟩, 13) := ⟨⟨by decide +kernel, by decide +kernel⟩, List.mem_of_getElem? (i := 36) (by decide +kernel), List.mem_of_getElem? (i := 318) (by decide +kernel), List.mem_of_getElem? (i := 319) (by decide +kernel)⟩
theorem lw_p17 : lw_okq (⟨"VolumeShepherd$Store", "disksInState", "(C)I"⟩, 13) := ⟨⟨by decide +kernel, by decide +kernel⟩, List.mem_of_getElem? (i := 36) (by decide +kernel), List.mem_of_getElem? (i := 322) (by decide +kernel), List.mem_of_getElem? (i := 323) (by decide +kernel)⟩
theorem lw_p18 : lw_okq (⟨"VolumeShepherd$Store", "countInSlots", "(I)I"⟩, 13) := ⟨⟨by decide +kernel, by decide +kernel⟩, List.mem_of_getElem? (i := 36) (by decide +kernel), List.mem_of_getElem? (i := 326) (by decide +kernel), List.mem_of_getElem? (i := 327) (by decide +kernel)⟩
theorem lw_p19 : lw_okq (⟨"java/lang/Throwable", "fillInStackTrace", "(I)Ljava/lang/Throwable;"⟩, 6) := ⟨⟨by decide +kernel, by decide +kernel⟩, List.mem_of_getElem? (i := 387) (by decide +kernel), List.mem_of_getElem? (i := 385) (by decide +kernel), List.mem_of_getElem? (i := 386) (by decide +kernel)⟩
theorem lw_p20 : lw_okq (⟨"VolumeShepherd$Store", "installDisk", "(I)I"⟩, 13) := ⟨⟨by decide +kernel, by decide +kernel⟩, List.mem_of_getElem? (i := 36) (by decide +kernel), List.mem_of_getElem? (i := 432) (by decide +kernel), List.mem_of_getElem? (i := 433) (by decide +kernel)⟩
theorem lw_p21 : lw_okq (⟨"VolumeShepherd", "checkDisk", "(I)V"⟩, 7) := ⟨⟨by decide +kernel, by decide +kernel⟩, List.mem_of_getElem? (i := 28) (by decide +kernel), List.mem_of_getElem? (i := 467) (by decide +kernel), List.mem_of_getElem? (i := 468) (by decide +kernel)⟩
theorem lw_p22 : lw_okq (⟨"VolumeShepherd$Desk", "admitTenant", "(I)I"⟩, 14) := ⟨⟨by decide +kernel, by decide +kernel⟩, List.mem_of_getElem? (i := 98) (by decide +kernel), List.mem_of_getElem? (i := 501) (by decide +kernel), List.mem_of_getElem? (i := 502) (by decide +kernel)⟩
theorem lw_p23 : lw_okq (⟨"VolumeShepherd", "checkBlock", "(II)V"⟩, 7) := ⟨⟨by decide +kernel, by decide +kernel⟩, List.mem_of_getElem? (i := 28) (by decide +kernel), List.mem_of_getElem? (i := 520) (by decide +kernel), List.mem_of_getElem? (i := 521) (by decide +kernel)⟩
theorem lw_p24 : lw_okq (⟨"VolumeShepherd", "checkTenant", "(I)V"⟩, 7) := ⟨⟨by decide +kernel, by decide +kernel⟩, List.mem_of_getElem? (i := 28) (by decide +kernel), List.mem_of_getElem? (i := 524) (by decide +kernel), List.mem_of_getElem? (i := 525) (by decide +kernel)⟩
theorem lw_p25 : lw_okq (⟨"VolumeShepherd", "checkRoomForRequest", "()V"⟩, 7) := ⟨⟨by decide +kernel, by decide +kernel⟩, List.mem_of_getElem? (i := 28) (by decide +kernel), List.mem_of_getElem? (i := 530) (by decide +kernel), List.mem_of_getElem? (i := 531) (by decide +kernel)⟩
theorem lw_p26 : lw_okq (⟨"VolumeShepherd$Desk", "enqueue", "(IIZI)I"⟩, 14) := ⟨⟨by decide +kernel, by decide +kernel⟩, List.mem_of_getElem? (i := 98) (by decide +kernel), List.mem_of_getElem? (i := 539) (by decide +kernel), List.mem_of_getElem? (i := 540) (by decide +kernel)⟩
theorem lw_p27 : lw_okq (⟨"VolumeShepherd", "checkRequest", "(I)V"⟩, 7) := ⟨⟨by decide +kernel, by decide +kernel⟩, List.mem_of_getElem? (i := 28) (by decide +kernel), List.mem_of_getElem? (i := 558) (by decide +kernel), List.mem_of_getElem? (i := 559) (by decide +kernel)⟩
theorem lw_p28 : lw_okq (⟨"VolumeShepherd$Desk", "countWaiting", "(I)I"⟩, 14) := ⟨⟨by decide +kernel, by decide +kernel⟩, List.mem_of_getElem? (i := 98) (by decide +kernel), List.mem_of_getElem? (i := 594) (by decide +kernel), List.mem_of_getElem? (i := 595) (by decide +kernel)⟩
theorem lw_p29 : lw_okq (⟨"VolumeShepherd$Desk", "beginTick", "()V"⟩, 14) := ⟨⟨by decide +kernel, by decide +kernel⟩, List.mem_of_getElem? (i := 98) (by decide +kernel), List.mem_of_getElem? (i := 628) (by decide +kernel), List.mem_of_getElem? (i := 629) (by decide +kernel)⟩
theorem lw_p30 : lw_okq (⟨"VolumeShepherd", "serveRounds", "(I)V"⟩, 7) := ⟨⟨by decide +kernel, by decide +kernel⟩, List.mem_of_getElem? (i := 28) (by decide +kernel), List.mem_of_getElem? (i := 634) (by decide +kernel), List.mem_of_getElem? (i := 635) (by decide +kernel)⟩
theorem lw_p31 : lw_okq (⟨"VolumeShepherd", "serveOldest", "(II)I"⟩, 7) := ⟨⟨by decide +kernel, by decide +kernel⟩, List.mem_of_getElem? (i := 28) (by decide +kernel), List.mem_of_getElem? (i := 638) (by decide +kernel), List.mem_of_getElem? (i := 639) (by decide +kernel)⟩
def lw_privs_2 : List (MethodName × Nat) := [(⟨"VolumeShepherd$Store", "agreesWithDisks", "()Z"⟩, 13), (⟨"VolumeShepherd$Store", "disksInState", "(C)I"⟩, 13), (⟨"VolumeShepherd$Store", "countInSlots", "(I)I"⟩, 13), (⟨"java/lang/Throwable", "fillInStackTrace", "(I)Ljava/lang/Throwable;"⟩, 6), (⟨"VolumeShepherd$Store", "installDisk", "(I)I"⟩, 13), (⟨"VolumeShepherd", "checkDisk", "(I)V"⟩, 7), (⟨"VolumeShepherd$Desk", "admitTenant", "(I)I"⟩, 14), (⟨"VolumeShepherd", "checkBlock", "(II)V"⟩, 7), (⟨"VolumeShepherd", "checkTenant", "(I)V"⟩, 7), (⟨"VolumeShepherd", "checkRoomForRequest", "()V"⟩, 7), (⟨"VolumeShepherd$Desk", "enqueue", "(IIZI)I"⟩, 14), (⟨"VolumeShepherd", "checkRequest", "(I)V"⟩, 7), (⟨"VolumeShepherd$Desk", "countWaiting", "(I)I"⟩, 14), (⟨"VolumeShepherd$Desk", "beginTick", "()V"⟩, 14), (⟨"VolumeShepherd", "serveRounds", "(I)V"⟩, 7), (⟨"VolumeShepherd", "serveOldest", "(II)I"⟩, 7)]
theorem lw_r2 : ∀ q ∈ lw_privs_2, lw_okq q := List.forall_mem_cons.mpr ⟨lw_p16, List.forall_mem_cons.mpr ⟨lw_p17, List.forall_mem_cons.mpr ⟨lw_p18, List.forall_mem_cons.mpr ⟨lw_p19, List.forall_mem_cons.mpr ⟨lw_p20, List.forall_mem_cons.mpr ⟨lw_p21, List.forall_mem_cons.mpr ⟨lw_p22, List.forall_mem_cons.mpr ⟨lw_p23, List.forall_mem_cons.mpr ⟨lw_p24, List.forall_mem_cons.mpr ⟨lw_p25, List.forall_mem_cons.mpr ⟨lw_p26, List.forall_mem_cons.mpr ⟨lw_p27, List.forall_mem_cons.mpr ⟨lw_p28, List.forall_mem_cons.mpr ⟨lw_p29, List.forall_mem_cons.mpr ⟨lw_p30, List.forall_mem_cons.mpr ⟨lw_p31, fun _ h => absurd h List.not_mem_nil⟩⟩⟩⟩⟩⟩⟩⟩⟩⟩⟩⟩⟩⟩⟩⟩
theorem lw_p32 : lw_okq (⟨"VolumeShepherd$Desk", "oldestWaiting", "(I)I"⟩, 14) := ⟨⟨by decide +kernel, by decide +kernel⟩, List.mem_of_getElem? (i := 98) (by decide +kernel), List.mem_of_getElem? (i := 642) (by decide +kernel), List.mem_of_getElem? (i := 643) (by decide +kernel)⟩
theorem lw_p33 : lw_okq (⟨"VolumeShepherd$Store", "putValue", "(II)Z"⟩, 13) := ⟨⟨by decide +kernel, by decide +kernel⟩, List.mem_of_getElem? (i := 36) (by decide +kernel), List.mem_of_getElem? (i := 646) (by decide +kernel), List.mem_of_getElem? (i := 647) (by decide +kernel)⟩
theorem lw_p34 : lw_okq (⟨"VolumeShepherd$Store", "renewCopies", "(I)V"⟩, 13) := ⟨⟨by decide +kernel, by decide +kernel⟩, List.mem_of_getElem? (i := 36) (by decide +kernel), List.mem_of_getElem? (i := 650) (by decide +kernel), List.mem_of_getElem? (i := 651) (by decide +kernel)⟩
theorem lw_p35 : lw_okq (⟨"VolumeShepherd$Store", "countPlacesAnew", "(I)I"⟩, 13) := ⟨⟨by decide +kernel, by decide +kernel⟩, List.mem_of_getElem? (i := 36) (by decide +kernel), List.mem_of_getElem? (i := 654) (by decide +kernel), List.mem_of_getElem? (i := 655) (by decide +kernel)⟩
theorem lw_p36 : lw_okq (⟨"VolumeShepherd$Store", "removeCopies", "(I)V"⟩, 13) := ⟨⟨by decide +kernel, by decide +kernel⟩, List.mem_of_getElem? (i := 36) (by decide +kernel), List.mem_of_getElem? (i := 658) (by decide +kernel), List.mem_of_getElem? (i := 659) (by decide +kernel)⟩
theorem lw_p37 : lw_okq (⟨"VolumeShepherd", "serveRead", "(I)Z"⟩, 7) := ⟨⟨by decide +kernel, by decide +kernel⟩, List.mem_of_getElem? (i := 28) (by decide +kernel), List.mem_of_getElem? (i := 662) (by decide +kernel), List.mem_of_getElem? (i := 663) (by decide +kernel)⟩
theorem lw_p38 : lw_okq (⟨"VolumeShepherd$Desk", "markServed", "(IIZ)V"⟩, 14) := ⟨⟨by decide +kernel, by decide +kernel⟩, List.mem_of_getElem? (i := 98) (by decide +kernel), List.mem_of_getElem? (i := 667) (by decide +kernel), List.mem_of_getElem? (i := 668) (by decide +kernel)⟩
theorem lw_p39 : lw_okq (⟨"VolumeShepherd$Desk", "giveCredits", "()V"⟩, 14) := ⟨⟨by decide +kernel, by decide +kernel⟩, List.mem_of_getElem? (i := 98) (by decide +kernel), List.mem_of_getElem? (i := 671) (by decide +kernel), List.mem_of_getElem? (i := 672) (by decide +kernel)⟩
theorem lw_p40 : lw_okq (⟨"VolumeShepherd$Store", "countWritten", "(I)I"⟩, 13) := ⟨⟨by decide +kernel, by decide +kernel⟩, List.mem_of_getElem? (i := 36) (by decide +kernel), List.mem_of_getElem? (i := 682) (by decide +kernel), List.mem_of_getElem? (i := 683) (by decide +kernel)⟩
theorem lw_p41 : lw_okq (⟨"VolumeShepherd$Store", "bearsByCounting", "(I)Z"⟩, 13) := ⟨⟨by decide +kernel, by decide +kernel⟩, List.mem_of_getElem? (i := 36) (by decide +kernel), List.mem_of_getElem? (i := 737) (by decide +kernel), List.mem_of_getElem? (i := 738) (by decide +kernel)⟩
theorem lw_p42 : lw_okq (⟨"VolumeShepherd$Store", "bearsByTrying", "(I)Z"⟩, 13) := ⟨⟨by decide +kernel, by decide +kernel⟩, List.mem_of_getElem? (i := 36) (by decide +kernel), List.mem_of_getElem? (i := 748) (by decide +kernel), List.mem_of_getElem? (i := 749) (by decide +kernel)⟩
theorem lw_p43 : lw_okq (⟨"VolumeShepherd$Store", "doesLose", "(I)Z"⟩, 13) := ⟨⟨by decide +kernel, by decide +kernel⟩, List.mem_of_getElem? (i := 36) (by decide +kernel), List.mem_of_getElem? (i := 752) (by decide +kernel), List.mem_of_getElem? (i := 753) (by decide +kernel)⟩
theorem lw_p44 : lw_okq (⟨"VolumeShepherd", "checkNotFailed", "(I)V"⟩, 7) := ⟨⟨by decide +kernel, by decide +kernel⟩, List.mem_of_getElem? (i := 28) (by decide +kernel), List.mem_of_getElem? (i := 763) (by decide +kernel), List.mem_of_getElem? (i := 764) (by decide +kernel)⟩
theorem lw_p45 : lw_okq (⟨"VolumeShepherd$Store", "breakDisk", "(I)I"⟩, 13) := ⟨⟨by decide +kernel, by decide +kernel⟩, List.mem_of_getElem? (i := 36) (by decide +kernel), List.mem_of_getElem? (i := 768) (by decide +kernel), List.mem_of_getElem? (i := 769) (by decide +kernel)⟩
theorem lw_p46 : lw_okq (⟨"VolumeShepherd$Store", "removeCopyAt", "(I)V"⟩, 13) := ⟨⟨by decide +kernel, by decide +kernel⟩, List.mem_of_getElem? (i := 36) (by decide +kernel), List.mem_of_getElem? (i := 772) (by decide +kernel), List.mem_of_getElem? (i := 773) (by decide +kernel)⟩
theorem lw_p47 : lw_okq (⟨"VolumeShepherd$Store", "healDisk", "(I)I"⟩, 13) := ⟨⟨by decide +kernel, by decide +kernel⟩, List.mem_of_getElem? (i := 36) (by decide +kernel), List.mem_of_getElem? (i := 810) (by decide +kernel), List.mem_of_getElem? (i := 811) (by decide +kernel)⟩
def lw_privs_3 : List (MethodName × Nat) := [(⟨"VolumeShepherd$Desk", "oldestWaiting", "(I)I"⟩, 14), (⟨"VolumeShepherd$Store", "putValue", "(II)Z"⟩, 13), (⟨"VolumeShepherd$Store", "renewCopies", "(I)V"⟩, 13), (⟨"VolumeShepherd$Store", "countPlacesAnew", "(I)I"⟩, 13), (⟨"VolumeShepherd$Store", "removeCopies", "(I)V"⟩, 13), (⟨"VolumeShepherd", "serveRead", "(I)Z"⟩, 7), (⟨"VolumeShepherd$Desk", "markServed", "(IIZ)V"⟩, 14), (⟨"VolumeShepherd$Desk", "giveCredits", "()V"⟩, 14), (⟨"VolumeShepherd$Store", "countWritten", "(I)I"⟩, 13), (⟨"VolumeShepherd$Store", "bearsByCounting", "(I)Z"⟩, 13), (⟨"VolumeShepherd$Store", "bearsByTrying", "(I)Z"⟩, 13), (⟨"VolumeShepherd$Store", "doesLose", "(I)Z"⟩, 13), (⟨"VolumeShepherd", "checkNotFailed", "(I)V"⟩, 7), (⟨"VolumeShepherd$Store", "breakDisk", "(I)I"⟩, 13), (⟨"VolumeShepherd$Store", "removeCopyAt", "(I)V"⟩, 13), (⟨"VolumeShepherd$Store", "healDisk", "(I)I"⟩, 13)]
theorem lw_r3 : ∀ q ∈ lw_privs_3, lw_okq q := List.forall_mem_cons.mpr ⟨lw_p32, List.forall_mem_cons.mpr ⟨lw_p33, List.forall_mem_cons.mpr ⟨lw_p34, List.forall_mem_cons.mpr ⟨lw_p35, List.forall_mem_cons.mpr ⟨lw_p36, List.forall_mem_cons.mpr ⟨lw_p37, List.forall_mem_cons.mpr ⟨lw_p38, List.forall_mem_cons.mpr ⟨lw_p39, List.forall_mem_cons.mpr ⟨lw_p40, List.forall_mem_cons.mpr ⟨lw_p41, List.forall_mem_cons.mpr ⟨lw_p42, List.forall_mem_cons.mpr ⟨lw_p43, List.forall_mem_cons.mpr ⟨lw_p44, List.forall_mem_cons.mpr ⟨lw_p45, List.forall_mem_cons.mpr ⟨lw_p46, List.forall_mem_cons.mpr ⟨lw_p47, fun _ h => absurd h List.not_mem_nil⟩⟩⟩⟩⟩⟩⟩⟩⟩⟩⟩⟩⟩⟩⟩⟩
theorem lw_p48 : lw_okq (⟨"VolumeShepherd$Store", "countRotten", "(I)I"⟩, 13) := ⟨⟨by decide +kernel, by decide +kernel⟩, List.mem_of_getElem? (i := 36) (by decide +kernel), List.mem_of_getElem? (i := 821) (by decide +kernel), List.mem_of_getElem? (i := 822) (by decide +kernel)⟩
theorem lw_p49 : lw_okq (⟨"VolumeShepherd$Store", "countCopies", "()I"⟩, 13) := ⟨⟨by decide +kernel, by decide +kernel⟩, List.mem_of_getElem? (i := 36) (by decide +kernel), List.mem_of_getElem? (i := 849) (by decide +kernel), List.mem_of_getElem? (i := 850) (by decide +kernel)⟩
theorem lw_p50 : lw_okq (⟨"VolumeShepherd$Store", "countSlots", "()I"⟩, 13) := ⟨⟨by decide +kernel, by decide +kernel⟩, List.mem_of_getElem? (i := 36) (by decide +kernel), List.mem_of_getElem? (i := 860) (by decide +kernel), List.mem_of_getElem? (i := 861) (by decide +kernel)⟩
theorem lw_p51 : lw_okq (⟨"VolumeShepherd", "appendCopy", "(IZ)V"⟩, 7) := ⟨⟨by decide +kernel, by decide +kernel⟩, List.mem_of_getElem? (i := 28) (by decide +kernel), List.mem_of_getElem? (i := 1145) (by decide +kernel), List.mem_of_getElem? (i := 1146) (by decide +kernel)⟩
theorem lw_p52 : lw_okq (⟨"VolumeShepherdModel", "fails", "(I)I"⟩, 33) := ⟨⟨by decide +kernel, by decide +kernel⟩, List.mem_of_getElem? (i := 1169) (by decide +kernel), List.mem_of_getElem? (i := 1289) (by decide +kernel), List.mem_of_getElem? (i := 1290) (by decide +kernel)⟩
theorem lw_p53 : lw_okq (⟨"VolumeShepherdModel", "isNoDisk", "(I)Z"⟩, 33) := ⟨⟨by decide +kernel, by decide +kernel⟩, List.mem_of_getElem? (i := 1169) (by decide +kernel), List.mem_of_getElem? (i := 1301) (by decide +kernel), List.mem_of_getElem? (i := 1302) (by decide +kernel)⟩
theorem lw_p54 : lw_okq (⟨"VolumeShepherdModel", "isDisk", "(I)Z"⟩, 33) := ⟨⟨by decide +kernel, by decide +kernel⟩, List.mem_of_getElem? (i := 1169) (by decide +kernel), List.mem_of_getElem? (i := 1305) (by decide +kernel), List.mem_of_getElem? (i := 1306) (by decide +kernel)⟩
theorem lw_p55 : lw_okq (⟨"VolumeShepherdModel", "usedOf", "(I)I"⟩, 33) := ⟨⟨by decide +kernel, by decide +kernel⟩, List.mem_of_getElem? (i := 1169) (by decide +kernel), List.mem_of_getElem? (i := 1313) (by decide +kernel), List.mem_of_getElem? (i := 1314) (by decide +kernel)⟩
theorem lw_p56 : lw_okq (⟨"VolumeShepherdModel", "isNone", "(II)Z"⟩, 33) := ⟨⟨by decide +kernel, by decide +kernel⟩, List.mem_of_getElem? (i := 1169) (by decide +kernel), List.mem_of_getElem? (i := 1333) (by decide +kernel), List.mem_of_getElem? (i := 1334) (by decide +kernel)⟩
theorem lw_p57 : lw_okq (⟨"VolumeShepherdModel", "isTenant", "(I)Z"⟩, 33) := ⟨⟨by decide +kernel, by decide +kernel⟩, List.mem_of_getElem? (i := 1169) (by decide +kernel), List.mem_of_getElem? (i := 1337) (by decide +kernel), List.mem_of_getElem? (i := 1338) (by decide +kernel)⟩
theorem lw_p58 : lw_okq (⟨"VolumeShepherdModel", "asks", "(III)I"⟩, 33) := ⟨⟨by decide +kernel, by decide +kernel⟩, List.mem_of_getElem? (i := 1169) (by decide +kernel), List.mem_of_getElem? (i := 1341) (by decide +kernel), List.mem_of_getElem? (i := 1342) (by decide +kernel)⟩
theorem lw_p59 : lw_okq (⟨"VolumeShepherdModel", "waitingMany", "(I)I"⟩, 33) := ⟨⟨by decide +kernel, by decide +kernel⟩, List.mem_of_getElem? (i := 1169) (by decide +kernel), List.mem_of_getElem? (i := 1345) (by decide +kernel), List.mem_of_getElem? (i := 1346) (by decide +kernel)⟩
theorem lw_p60 : lw_okq (⟨"VolumeShepherdModel", "isNoRequest", "(I)Z"⟩, 33) := ⟨⟨by decide +kernel, by decide +kernel⟩, List.mem_of_getElem? (i := 1169) (by decide +kernel), List.mem_of_getElem? (i := 1357) (by decide +kernel), List.mem_of_getElem? (i := 1358) (by decide +kernel)⟩
theorem lw_p61 : lw_okq (⟨"VolumeShepherdModel", "isRequest", "(I)Z"⟩, 33) := ⟨⟨by decide +kernel, by decide +kernel⟩, List.mem_of_getElem? (i := 1169) (by decide +kernel), List.mem_of_getElem? (i := 1361) (by decide +kernel), List.mem_of_getElem? (i := 1362) (by decide +kernel)⟩
theorem lw_p62 : lw_okq (⟨"VolumeShepherdModel", "isNobody", "(I)Z"⟩, 33) := ⟨⟨by decide +kernel, by decide +kernel⟩, List.mem_of_getElem? (i := 1169) (by decide +kernel), List.mem_of_getElem? (i := 1373) (by decide +kernel), List.mem_of_getElem? (i := 1374) (by decide +kernel)⟩
theorem lw_p63 : lw_okq (⟨"VolumeShepherdModel", "ticks", "()V"⟩, 33) := ⟨⟨by decide +kernel, by decide +kernel⟩, List.mem_of_getElem? (i := 1169) (by decide +kernel), List.mem_of_getElem? (i := 1393) (by decide +kernel), List.mem_of_getElem? (i := 1394) (by decide +kernel)⟩
def lw_privs_4 : List (MethodName × Nat) := [(⟨"VolumeShepherd$Store", "countRotten", "(I)I"⟩, 13), (⟨"VolumeShepherd$Store", "countCopies", "()I"⟩, 13), (⟨"VolumeShepherd$Store", "countSlots", "()I"⟩, 13), (⟨"VolumeShepherd", "appendCopy", "(IZ)V"⟩, 7), (⟨"VolumeShepherdModel", "fails", "(I)I"⟩, 33), (⟨"VolumeShepherdModel", "isNoDisk", "(I)Z"⟩, 33), (⟨"VolumeShepherdModel", "isDisk", "(I)Z"⟩, 33), (⟨"VolumeShepherdModel", "usedOf", "(I)I"⟩, 33), (⟨"VolumeShepherdModel", "isNone", "(II)Z"⟩, 33), (⟨"VolumeShepherdModel", "isTenant", "(I)Z"⟩, 33), (⟨"VolumeShepherdModel", "asks", "(III)I"⟩, 33), (⟨"VolumeShepherdModel", "waitingMany", "(I)I"⟩, 33), (⟨"VolumeShepherdModel", "isNoRequest", "(I)Z"⟩, 33), (⟨"VolumeShepherdModel", "isRequest", "(I)Z"⟩, 33), (⟨"VolumeShepherdModel", "isNobody", "(I)Z"⟩, 33), (⟨"VolumeShepherdModel", "ticks", "()V"⟩, 33)]
theorem lw_r4 : ∀ q ∈ lw_privs_4, lw_okq q := List.forall_mem_cons.mpr ⟨lw_p48, List.forall_mem_cons.mpr ⟨lw_p49, List.forall_mem_cons.mpr ⟨lw_p50, List.forall_mem_cons.mpr ⟨lw_p51, List.forall_mem_cons.mpr ⟨lw_p52, List.forall_mem_cons.mpr ⟨lw_p53, List.forall_mem_cons.mpr ⟨lw_p54, List.forall_mem_cons.mpr ⟨lw_p55, List.forall_mem_cons.mpr ⟨lw_p56, List.forall_mem_cons.mpr ⟨lw_p57, List.forall_mem_cons.mpr ⟨lw_p58, List.forall_mem_cons.mpr ⟨lw_p59, List.forall_mem_cons.mpr ⟨lw_p60, List.forall_mem_cons.mpr ⟨lw_p61, List.forall_mem_cons.mpr ⟨lw_p62, List.forall_mem_cons.mpr ⟨lw_p63, fun _ h => absurd h List.not_mem_nil⟩⟩⟩⟩⟩⟩⟩⟩⟩⟩⟩⟩⟩⟩⟩⟩
theorem lw_p64 : lw_okq (⟨"VolumeShepherdModel", "rebuilds", "(I)I"⟩, 33) := ⟨⟨by decide +kernel, by decide +kernel⟩, List.mem_of_getElem? (i := 1169) (by decide +kernel), List.mem_of_getElem? (i := 1397) (by decide +kernel), List.mem_of_getElem? (i := 1398) (by decide +kernel)⟩
theorem lw_p65 : lw_okq (⟨"VolumeShepherdModel", "degraded", "(I)Z"⟩, 33) := ⟨⟨by decide +kernel, by decide +kernel⟩, List.mem_of_getElem? (i := 1169) (by decide +kernel), List.mem_of_getElem? (i := 1401) (by decide +kernel), List.mem_of_getElem? (i := 1402) (by decide +kernel)⟩
theorem lw_p66 : lw_okq (⟨"VolumeShepherdModel", "lost", "(I)Z"⟩, 33) := ⟨⟨by decide +kernel, by decide +kernel⟩, List.mem_of_getElem? (i := 1169) (by decide +kernel), List.mem_of_getElem? (i := 1405) (by decide +kernel), List.mem_of_getElem? (i := 1406) (by decide +kernel)⟩
theorem lw_p67 : lw_okq (⟨"VolumeShepherdModel", "goodOf", "(I)I"⟩, 33) := ⟨⟨by decide +kernel, by decide +kernel⟩, List.mem_of_getElem? (i := 1169) (by decide +kernel), List.mem_of_getElem? (i := 1409) (by decide +kernel), List.mem_of_getElem? (i := 1410) (by decide +kernel)⟩
theorem lw_p68 : lw_okq (⟨"VolumeShepherdModel", "place", "(I)I"⟩, 33) := ⟨⟨by decide +kernel, by decide +kernel⟩, List.mem_of_getElem? (i := 1169) (by decide +kernel), List.mem_of_getElem? (i := 1413) (by decide +kernel), List.mem_of_getElem? (i := 1414) (by decide +kernel)⟩
theorem lw_p69 : lw_okq (⟨"VolumeShepherdModel", "has", "(II)Z"⟩, 33) := ⟨⟨by decide +kernel, by decide +kernel⟩, List.mem_of_getElem? (i := 1169) (by decide +kernel), List.mem_of_getElem? (i := 1417) (by decide +kernel), List.mem_of_getElem? (i := 1418) (by decide +kernel)⟩
theorem lw_p70 : lw_okq (⟨"VolumeShepherdModel", "puts", "(II)V"⟩, 33) := ⟨⟨by decide +kernel, by decide +kernel⟩, List.mem_of_getElem? (i := 1169) (by decide +kernel), List.mem_of_getElem? (i := 1421) (by decide +kernel), List.mem_of_getElem? (i := 1422) (by decide +kernel)⟩
theorem lw_p71 : lw_okq (⟨"VolumeShepherdModel", "moves", "(II)I"⟩, 33) := ⟨⟨by decide +kernel, by decide +kernel⟩, List.mem_of_getElem? (i := 1169) (by decide +kernel), List.mem_of_getElem? (i := 1425) (by decide +kernel), List.mem_of_getElem? (i := 1426) (by decide +kernel)⟩
theorem lw_p72 : lw_okq (⟨"VolumeShepherdModel", "takes", "(II)V"⟩, 33) := ⟨⟨by decide +kernel, by decide +kernel⟩, List.mem_of_getElem? (i := 1169) (by decide +kernel), List.mem_of_getElem? (i := 1429) (by decide +kernel), List.mem_of_getElem? (i := 1430) (by decide +kernel)⟩
theorem lw_p73 : lw_okq (⟨"VolumeShepherdModel", "servesAll", "(I)V"⟩, 33) := ⟨⟨by decide +kernel, by decide +kernel⟩, List.mem_of_getElem? (i := 1169) (by decide +kernel), List.mem_of_getElem? (i := 1433) (by decide +kernel), List.mem_of_getElem? (i := 1434) (by decide +kernel)⟩
theorem lw_p74 : lw_okq (⟨"VolumeShepherdModel", "oldestOf", "(I)I"⟩, 33) := ⟨⟨by decide +kernel, by decide +kernel⟩, List.mem_of_getElem? (i := 1169) (by decide +kernel), List.mem_of_getElem? (i := 1437) (by decide +kernel), List.mem_of_getElem? (i := 1438) (by decide +kernel)⟩
theorem lw_p75 : lw_okq (⟨"VolumeShepherdModel", "serves", "(I)V"⟩, 33) := ⟨⟨by decide +kernel, by decide +kernel⟩, List.mem_of_getElem? (i := 1169) (by decide +kernel), List.mem_of_getElem? (i := 1441) (by decide +kernel), List.mem_of_getElem? (i := 1442) (by decide +kernel)⟩
theorem lw_p76 : lw_okq (⟨"VolumeShepherdModel", "writes", "(II)Z"⟩, 33) := ⟨⟨by decide +kernel, by decide +kernel⟩, List.mem_of_getElem? (i := 1169) (by decide +kernel), List.mem_of_getElem? (i := 1445) (by decide +kernel), List.mem_of_getElem? (i := 1446) (by decide +kernel)⟩
theorem lw_p77 : lw_okq (⟨"VolumeShepherdModel", "putsAnew", "(I)Z"⟩, 33) := ⟨⟨by decide +kernel, by decide +kernel⟩, List.mem_of_getElem? (i := 1169) (by decide +kernel), List.mem_of_getElem? (i := 1449) (by decide +kernel), List.mem_of_getElem? (i := 1450) (by decide +kernel)⟩
theorem lw_p78 : lw_okq (⟨"VolumeShepherdModel", "keepsAll", "()V"⟩, 33) := ⟨⟨by decide +kernel, by decide +kernel⟩, List.mem_of_getElem? (i := 1169) (by decide +kernel), List.mem_of_getElem? (i := 1453) (by decide +kernel), List.mem_of_getElem? (i := 1454) (by decide +kernel)⟩
theorem lw_p79 : lw_okq (⟨"VolumeShepherdModel", "laysBack", "()V"⟩, 33) := ⟨⟨by decide +kernel, by decide +kernel⟩, List.mem_of_getElem? (i := 1169) (by decide +kernel), List.mem_of_getElem? (i := 1457) (by decide +kernel), List.mem_of_getElem? (i := 1458) (by decide +kernel)⟩
def lw_privs_5 : List (MethodName × Nat) := [(⟨"VolumeShepherdModel", "rebuilds", "(I)I"⟩, 33), (⟨"VolumeShepherdModel", "degraded", "(I)Z"⟩, 33), (⟨"VolumeShepherdModel", "lost", "(I)Z"⟩, 33), (⟨"VolumeShepherdModel", "goodOf", "(I)I"⟩, 33), (⟨"VolumeShepherdModel", "place", "(I)I"⟩, 33), (⟨"VolumeShepherdModel", "has", "(II)Z"⟩, 33), (⟨"VolumeShepherdModel", "puts", "(II)V"⟩, 33), (⟨"VolumeShepherdModel", "moves", "(II)I"⟩, 33), (⟨"VolumeShepherdModel", "takes", "(II)V"⟩, 33), (⟨"VolumeShepherdModel", "servesAll", "(I)V"⟩, 33), (⟨"VolumeShepherdModel", "oldestOf", "(I)I"⟩, 33), (⟨"VolumeShepherdModel", "serves", "(I)V"⟩, 33), (⟨"VolumeShepherdModel", "writes", "(II)Z"⟩, 33), (⟨"VolumeShepherdModel", "putsAnew", "(I)Z"⟩, 33), (⟨"VolumeShepherdModel", "keepsAll", "()V"⟩, 33), (⟨"VolumeShepherdModel", "laysBack", "()V"⟩, 33)]
theorem lw_r5 : ∀ q ∈ lw_privs_5, lw_okq q := List.forall_mem_cons.mpr ⟨lw_p64, List.forall_mem_cons.mpr ⟨lw_p65, List.forall_mem_cons.mpr ⟨lw_p66, List.forall_mem_cons.mpr ⟨lw_p67, List.forall_mem_cons.mpr ⟨lw_p68, List.forall_mem_cons.mpr ⟨lw_p69, List.forall_mem_cons.mpr ⟨lw_p70, List.forall_mem_cons.mpr ⟨lw_p71, List.forall_mem_cons.mpr ⟨lw_p72, List.forall_mem_cons.mpr ⟨lw_p73, List.forall_mem_cons.mpr ⟨lw_p74, List.forall_mem_cons.mpr ⟨lw_p75, List.forall_mem_cons.mpr ⟨lw_p76, List.forall_mem_cons.mpr ⟨lw_p77, List.forall_mem_cons.mpr ⟨lw_p78, List.forall_mem_cons.mpr ⟨lw_p79, fun _ h => absurd h List.not_mem_nil⟩⟩⟩⟩⟩⟩⟩⟩⟩⟩⟩⟩⟩⟩⟩⟩
theorem lw_p80 : lw_okq (⟨"VolumeShepherdModel", "sound", "()I"⟩, 33) := ⟨⟨by decide +kernel, by decide +kernel⟩, List.mem_of_getElem? (i := 1169) (by decide +kernel), List.mem_of_getElem? (i := 1516) (by decide +kernel), List.mem_of_getElem? (i := 1517) (by decide +kernel)⟩
def lw_privs_6 : List (MethodName × Nat) := [(⟨"VolumeShepherdModel", "sound", "()I"⟩, 33)]
theorem lw_r6 : ∀ q ∈ lw_privs_6, lw_okq q := List.forall_mem_cons.mpr ⟨lw_p80, fun _ h => absurd h List.not_mem_nil⟩
def lw_privs : List (MethodName × Nat) := lw_privs_1 ++ (lw_privs_2 ++ (lw_privs_3 ++ (lw_privs_4 ++ (lw_privs_5 ++ (lw_privs_6)))))
def lw_tbl : List Cond := k2_sels lw_privs ++ tables_1
theorem lw_privs_ok : ∀ q ∈ lw_privs, lw_okq q := by
  show ∀ q ∈ lw_privs_1 ++ (lw_privs_2 ++ (lw_privs_3 ++ (lw_privs_4 ++ (lw_privs_5 ++ (lw_privs_6))))), lw_okq q
  exact List.forall_mem_append.mpr ⟨lw_r1, List.forall_mem_append.mpr ⟨lw_r2, List.forall_mem_append.mpr ⟨lw_r3, List.forall_mem_append.mpr ⟨lw_r4, List.forall_mem_append.mpr ⟨lw_r5, lw_r6⟩⟩⟩⟩⟩
/-- the streams that the claim lets the run draw from -/
abbrev lw_cs : List Choice := [Jvm.Choice.named "NaN.bits"]
theorem lw_bits : nanBits ∈ lw_cs := by first | decide | exact List.mem_cons_self | simp [lw_cs, nanBits]
/-- (the printed rows below speak of va_AOA and nothing declares it: the sister of the kit word for arrays of objects) -/
def va_AOA (ty : FieldType) (U : State) : Prop := (Cond.arrayOver (.array ty)).before #[] U = true
theorem va_AOA.use {ty : FieldType} {A : Array Value} {U : State} (h : va_AOA ty U) : (Cond.arrayOver (.array ty)).before A U = true := h
/-! ===== BEGIN words of one list among another's, by their places ===== -/
theorem goodIn_r {big : List Cond} (ws : List Cond) (ps : List Nat) (hp : ws = ps.filterMap (fun i => big[i]?)) (h : ws.all goodWord = true) : GoodIn big ws := by
  intro w hw
  have h1 := List.all_eq_true.mp h w hw
  rw [hp] at hw
  obtain ⟨i, -, hi⟩ := List.mem_filterMap.mp hw
  have hm : w ∈ big := by first | exact List.mem_of_getElem? hi | exact List.getElem?_mem hi
  exact ⟨hm, good_of_word h1⟩
theorem goodIn_app {big a b : List Cond} (ha : GoodIn big a) (hb : GoodIn big b) : GoodIn big (a ++ b) := fun w h => (List.mem_append.mp h).elim (ha w) (hb w)
theorem goodIn_ca {big a b : List Cond} {c : Cond} (ha : GoodIn big (c :: a)) (hb : GoodIn big b) : GoodIn big (c :: (a ++ b)) := fun w h => (List.mem_cons.mp h).elim (fun e => ha w (List.mem_cons.mpr (Or.inl e))) (fun h => (List.mem_append.mp h).elim (fun h => ha w (List.mem_cons.mpr (Or.inr h))) (hb w))
theorem goodIn_sub {big ws : List Cond} (hm : ∀ w ∈ ws, w ∈ big) (h : ws.all goodWord = true) : GoodIn big ws := fun w hw => ⟨hm w hw, good_of_word (List.all_eq_true.mp h w hw)⟩
/-! ===== END ===== -/

/-! ===== BEGIN new T[n][m]: the outer array a place, the inner ones among the pooled ===== -/
/-- f, but v at every address of l -/
def vr_up {α : Type} (f : Nat → α) (l : List Nat) (v : α) : Nat → α := fun a => if a ∈ l then v else f a
theorem vr_up_in {α : Type} {f : Nat → α} {l : List Nat} {v : α} {a : Nat} (h : a ∈ l) : vr_up f l v a = v := if_pos h
theorem vr_up_ne {α : Type} {f : Nat → α} {l : List Nat} {v : α} {a : Nat} (h : a ∉ l) : vr_up f l v a = f a := if_neg h
theorem vr_rows {L l : List Nat} {f : Nat → va_E} {e : va_E} (h : ∀ a, a ∈ l → a ∉ L) : va_pl L f ++ l.map (fun a => (a, e)) = va_pl (L ++ l) (vr_up f l e) := by
  unfold va_pl
  rw [List.map_append]
  congr 1
  · apply List.map_congr_left
    intro a ha
    rw [vr_up_ne (fun q => h a q ha)]
  · apply List.map_congr_left
    intro a ha
    rw [vr_up_in ha]
theorem vr_lay {X rows : va_W} {x : Nat × va_E} {pl : va_W} {D : va_G} {cl : List vw_C} {H : Heap} (hP : va_P D cl (((X ++ pl) ++ [x]) ++ rows) H) : va_P D cl ((X ++ [x]) ++ (pl ++ rows)) H := by
  rw [List.append_assoc (X ++ pl)] at hP
  have h := va_P.swap hP
  rw [← List.append_assoc X] at h
  have h2 := va_P.swap h
  rw [List.append_assoc (X ++ [x])] at h2
  exact h2
theorem vr_layD {X rows : va_W} {x : Nat × va_E} {pl : va_W} {A : Nat → Prop} (hD : va_D A (((X ++ pl) ++ [x]) ++ rows)) : va_D A ((X ++ [x]) ++ (pl ++ rows)) := by
  rw [List.append_assoc (X ++ pl)] at hD
  have h := va_D.swap hD
  rw [← List.append_assoc X] at h
  have h2 := va_D.swap h
  rw [List.append_assoc (X ++ [x])] at h2
  exact h2
theorem vr_outer (c : ClassId) (N h0 : Nat) : ∀ i : Nat, Jvm.Free.Multi.outerC c N h0 i = arrV c N (fun j => va_rf (if j < i then some (h0 + 1 + j) else none))
  | 0 => by
    show ({ cls := c, slots := Array.replicate N .null, vm := .none } : Cell) = _
    rw [arrV_new]
    refine congrArg (arrV c N) (funext fun j => ?_)
    simp [va_rf]
  | i + 1 => by
    show (Jvm.Free.Multi.outerC c N h0 i).setSlot i (.ref (h0 + 1 + i)) = _
    rw [vr_outer c N h0 i, arrV_store]
    refine congrArg (arrV c N) (funext fun j => ?_)
    by_cases e : j = i
    · subst e
      simp [updV, va_rf]
    · by_cases h : j < i
      · simp [updV, e, h, Nat.lt_succ_of_lt h]
      · simp [updV, e, h, show ¬ j < i + 1 by omega]
section VGM
variable {p : Program} {l : Launch} {e : Env} {R : Room} {s : State} {m : MethodId} {args : Array Value} {below : List Frame} {meth : Method} {c : Code} {H : Heap} {locs : List Loc} {cells slots : Nat} {Q : State → Prop}
variable {cc : ByteArray} {pc : Nat} {ls : Array Slot} {rest : List Value} {D : va_G} {cl : List vw_C} {A : Nat → Prop} {a : Nat} {tys : List (ClassId × FieldType)} {ws : va_W} {H0 : Heap}
theorem va_mna {X : va_W} {L : List Nat} {f : Nat → va_E} {cc : ByteArray} (hexec : p.tables.exec = Jvm.exec) (hb : c.code = cc) {own : String} {index : Nat} {ty : FieldType} {cy : ClassId} (hown : s.vm.findClass own = some m.cls) (hclink : (Cond.classLink own index ("[" ++ (FieldType.array ty).toString)).before args s = true) (hover : va_AOA ty s) (harr : (Cond.arrayClass ty).before args s = true) (hcy : s.vm.findClass (FieldType.array ty).toString = some cy)
    (hK : va_K D cl tys s) (hP : va_P D cl (X ++ va_pl L f) H) (hD : va_D A (X ++ va_pl L f)) (hS : va_S A H0 H locs) (hA : ∀ q, H0.size ≤ q → A q) {n k : Int32} {N' K' : Nat} {z : vp_A} (hn : ¬ n < 0) (hk : ¬ k < 0) (hN : n.toNatClampNeg = N') (hM : k.toNatClampNeg = K')
    (hb1 : N' * 4 ≤ 536870912) (hb2 : K' * componentBytes ty ≤ 536870912) (hb3 : K' ≤ 536870912) (hdf : fits ty (defaultValue ty) = true) (hdd : (defaultValue ty).isDefault = true) (hcells : cells + (1 + N') ≤ R.cells) (hslots : slots + (N' + N' * K') ≤ R.slots) (hz : ∀ c : ClassId, Jvm.Free.Multi.innerC c K' (defaultValue ty) = vp_cell c z) (hdg : decode cc pc = .ok (.multianewarray index 2, 4))
    (kk : ∀ (q : Nat) (r : Nat → Nat) (cA : ClassId) (H1 : Heap), (∀ i j : Nat, i < N' → j < N' → r i = r j → i = j) → (∀ i : Nat, i < N' → r i ∉ L) → va_K D cl (tys ++ [(cA, .array ty)]) s →
      va_P D cl ((X ++ [(q, .inl (cA, N', .inr (.inr (.inr (.inr (fun i => if i < N' then some (r i) else none))))))]) ++ va_pl (L ++ (List.range N').map r) (vr_up f ((List.range N').map r) (.inl (cy, z)))) H1 → va_D A ((X ++ [(q, .inl (cA, N', .inr (.inr (.inr (.inr (fun i => if i < N' then some (r i) else none))))))]) ++ va_pl (L ++ (List.range N').map r) (vr_up f ((List.range N').map r) (.inl (cy, z)))) → va_S A H0 H1 locs →
      W p l e R s m args below meth c H1 locs (cells + 1 + N') (slots + N' + N' * K') Q (F0 m (pc + 4) ls (.ref q :: rest))) : W p l e R s m args below meth c H locs cells slots Q (F0 m pc ls (.int k :: .int n :: rest)) := by
  subst hN
  subst hM
  intro T hT Xs
  obtain ⟨vm₁, cA, comp, -, fA, fC, hO, -, X', step⟩ := Xs.multianewarray2F hexec hown hclink (va_AOA.use hover) harr (g := F0 m pc ls (.int k :: .int n :: rest)) rfl (by rw [hb]; exact hdg) rfl hn hk hb1 hb2 hb3 hdf hdd hcells hslots
  have ec : some cy = some comp := hcy.symm.trans fC
  cases ec
  generalize hF : Jvm.Free.Multi.fill (T.setVm vm₁) cA cy n.toNatClampNeg k.toNatClampNeg (defaultValue ty) n.toNatClampNeg = F at X' step
  have hTh : (T.setVm vm₁).heap = H := hT
  obtain ⟨f1, f2, -, -⟩ := Jvm.Free.Multi.fill_facts (T.setVm vm₁) cA cy n.toNatClampNeg k.toNatClampNeg (defaultValue ty) n.toNatClampNeg
  rw [hF, hTh] at f1 f2
  have hold : ∀ x : Nat, x < H.size → F.heap[x]? = H[x]? := fun x hx => by
    have := Jvm.Free.Multi.fill_old (T.setVm vm₁) cA cy n.toNatClampNeg k.toNatClampNeg (defaultValue ty) (a := x) (by rw [hTh]; exact hx) n.toNatClampNeg
    rw [hF, hTh] at this
    exact this
  have hrow : ∀ j : Nat, j < n.toNatClampNeg → F.heap[H.size + 1 + j]? = some (vp_cell cy z) := fun j hj => by
    have := Jvm.Free.Multi.fill_inner (T.setVm vm₁) cA cy n.toNatClampNeg k.toNatClampNeg (defaultValue ty) n.toNatClampNeg j hj
    rw [hF, hTh, hz] at this
    exact this
  have hout : Jvm.Free.Multi.outerC cA n.toNatClampNeg H.size n.toNatClampNeg = vp_cell cA (n.toNatClampNeg, .inr (.inr (.inr (.inr (fun i => if i < n.toNatClampNeg then some (H.size + 1 + i) else none))))) := by
    rw [vp_cell_q]
    exact vr_outer cA n.toNatClampNeg H.size n.toNatClampNeg
  rw [hout] at f2
  have hlt : ∀ a, a ∈ L → a < H.size := fun a ha => by
    obtain ⟨k9, hk9⟩ := va_pl_get (X := X) (f := f) ha
    exact (hP k9 _ hk9).lt
  have hnl : ∀ i : Nat, i < n.toNatClampNeg → H.size + 1 + i ∉ L := fun i _ h => by
    have := hlt _ h
    omega
  have hnm : ∀ a, a ∈ (List.range n.toNatClampNeg).map (fun i => H.size + 1 + i) → a ∉ L := fun a ha h => by
    obtain ⟨i, -, rfl⟩ := List.mem_map.mp ha
    have := hlt _ h
    omega
  have hP0 : va_P D cl (X ++ va_pl L f) F.heap := hP.kept (fun k9 x hx => hold x.1 ((hP k9 x hx).lt))
  have hP1 : va_P D cl ((X ++ va_pl L f) ++ [(H.size, .inl (cA, n.toNatClampNeg, .inr (.inr (.inr (.inr (fun i => if i < n.toNatClampNeg then some (H.size + 1 + i) else none))))))]) F.heap := hP0.app (fun k9 x hx => by
    have h0 : k9 < 1 := (List.getElem?_eq_some_iff.mp hx).1
    rw [show k9 = 0 by omega] at hx
    cases hx
    exact f2)
  have hP2 : va_P D cl (((X ++ va_pl L f) ++ [(H.size, .inl (cA, n.toNatClampNeg, .inr (.inr (.inr (.inr (fun i => if i < n.toNatClampNeg then some (H.size + 1 + i) else none))))))]) ++ ((List.range n.toNatClampNeg).map (fun i => H.size + 1 + i)).map (fun a => (a, .inl (cy, z)))) F.heap := hP1.app (fun k9 x hx => by
    obtain ⟨a, ha, rfl⟩ := List.mem_map.mp (List.mem_of_getElem? hx)
    obtain ⟨i, hi, rfl⟩ := List.mem_map.mp ha
    exact hrow i (List.mem_range.mp hi))
  have hD2 : va_D A (((X ++ va_pl L f) ++ [(H.size, .inl (cA, n.toNatClampNeg, .inr (.inr (.inr (.inr (fun i => if i < n.toNatClampNeg then some (H.size + 1 + i) else none))))))]) ++ ((List.range n.toNatClampNeg).map (fun i => H.size + 1 + i)).map (fun a => (a, .inl (cy, z)))) := by
    have hD1 := hD.push (e := .inl (cA, n.toNatClampNeg, .inr (.inr (.inr (.inr (fun i => if i < n.toNatClampNeg then some (H.size + 1 + i) else none)))))) hP rfl (hA _ hS.1)
    generalize hW1 : (X ++ va_pl L f) ++ [(H.size, .inl (cA, n.toNatClampNeg, .inr (.inr (.inr (.inr (fun i => if i < n.toNatClampNeg then some (H.size + 1 + i) else none))))))] = W1 at hD1 hP1 ⊢
    have hle : ∀ (k9 : Nat) (x : Nat × va_E), W1[k9]? = some x → x.1 ≤ H.size := fun k9 x hx => by
      rw [← hW1] at hx
      by_cases hl : k9 < (X ++ va_pl L f).length
      · rw [List.getElem?_append_left hl] at hx
        exact Nat.le_of_lt ((hP k9 x hx).lt)
      · rw [List.getElem?_append_right (by omega)] at hx
        have h0 : k9 - (X ++ va_pl L f).length < 1 := (List.getElem?_eq_some_iff.mp hx).1
        rw [show k9 - (X ++ va_pl L f).length = 0 by omega] at hx
        cases hx
        exact Nat.le_refl _
    have hr : ∀ (k9 : Nat) (x : Nat × va_E), (((List.range n.toNatClampNeg).map (fun i => H.size + 1 + i)).map (fun a => ((a, .inl (cy, z)) : Nat × va_E)))[k9]? = some x → x.1 = H.size + 1 + k9 := fun k9 x hx => by
      rw [List.getElem?_map, List.getElem?_map] at hx
      by_cases h9 : k9 < n.toNatClampNeg
      · rw [List.getElem?_range h9] at hx
        cases hx
        rfl
      · have hn0 : (List.range n.toNatClampNeg)[k9]? = none := List.getElem?_eq_none (by rw [List.length_range]; omega)
        rw [hn0] at hx
        cases hx
    refine ⟨fun i j x y hi hj hxy => ?_, fun k9 x hx => ?_⟩
    · by_cases h1 : i < W1.length <;> by_cases h2 : j < W1.length
      · rw [List.getElem?_append_left h1] at hi
        rw [List.getElem?_append_left h2] at hj
        exact hD1.1 i j x y hi hj hxy
      · rw [List.getElem?_append_left h1] at hi
        rw [List.getElem?_append_right (by omega)] at hj
        have := hle _ _ hi
        have := hr _ _ hj
        omega
      · rw [List.getElem?_append_right (by omega)] at hi
        rw [List.getElem?_append_left h2] at hj
        have := hle _ _ hj
        have := hr _ _ hi
        omega
      · rw [List.getElem?_append_right (by omega)] at hi hj
        have := hr _ _ hi
        have := hr _ _ hj
        omega
    · by_cases h1 : k9 < W1.length
      · rw [List.getElem?_append_left h1] at hx
        exact hD1.2 k9 x hx
      · rw [List.getElem?_append_right (by omega)] at hx
        have := hr _ _ hx
        exact hA _ (by have := hS.1; omega)
  have hAr : ArrOfT s cA (.array ty) := fun N9 z9 => by
    obtain ⟨-, k9, hk9, cm9, hkk9⟩ := (hO 0 0 0).1
    exact ⟨(fun q hq => by cases hq), k9, hk9, cm9, hkk9⟩
  have hK2 : va_K D cl (tys ++ [(cA, .array ty)]) s := ⟨hK.1, fun k9 x hx => by
    by_cases hl : k9 < tys.length
    · rw [List.getElem?_append_left hl] at hx
      exact hK.2 k9 x hx
    · rw [List.getElem?_append_right (by omega)] at hx
      have h0 : k9 - tys.length < 1 := (List.getElem?_eq_some_iff.mp hx).1
      rw [show k9 - tys.length = 0 by omega] at hx
      cases hx
      exact ⟨hAr, fA⟩⟩
  obtain ⟨t, a1, b1⟩ := kk H.size (fun i => H.size + 1 + i) cA F.heap (fun i j _ _ h => by have h9 : H.size + 1 + i = H.size + 1 + j := h; omega) hnl hK2 (by rw [← vr_rows hnm]; exact vr_lay hP2) (by rw [← vr_rows hnm]; exact vr_layD hD2) ⟨by rw [f1]; have := hS.1; omega, fun x h1 h2 => (hold x (Nat.lt_of_lt_of_le h1 hS.1)).trans (hS.2.1 x h1 h2), hS.2.2⟩ F rfl X'
  refine ⟨t, step t ?_, b1⟩
  have e : T.heap.size = H.size := by rw [hT]
  rw [e]
  exact a1
end VGM
/-! ===== END ===== -/

/-! ===== BEGIN exceptions that leave a method, and their catching by the caller (launches without stack traces) ===== -/
section VXA
/-! The laws vx_back, vx_callV, vx_callS, vx_callSW, vx_throw0, vx_throwS follow proofs of the library, with one case more: JvmDerived/Free/Laws.lean (Back.of_free), Shelf42/LK1.lean (callV, callS), Shelf/KitTraced.lean (throwNew0V, throwNewS). -/
/-- where a method has thrown q: the class by its name, the cell, what was written, the world -/
def vx_T (XC : String → State → State → Prop) (st : State) (q : Addr) (t : State) (mc ms : Nat) (free : Addr → Prop) : Prop :=
  ∃ (E : String) (ce : Cell) (L : List Loc), XC E st t ∧ t.heap[q]? = some ce ∧ ce.vm = .none ∧ st.vm.findClass E = some ce.cls ∧ st.WarmedH t.vm ∧ st.sameButNew ({ t with vm := st.vm } : State) L mc ms ∧ ∀ z ∈ L, free z.base
def vx_Q (Qc : Array Value → State → Outcome → State → Prop) (XC : String → State → State → Prop) (mc ms : Nat) (free : Addr → Prop) : Array Value → State → Outcome → State → Prop := fun a st o t =>
  (Qc a st o t ∧ ∃ L, FrameEnd st o t L mc ms ∧ ∀ q ∈ L, free q.base) ∨ ∃ q, o = .threw q ∧ vx_T XC st q t mc ms free
/-- a callee that returns or throws -/
def vx_Met (l : Launch) (y : MethodName) (ws : List Cond) (rm : Room) (Pc : Array Value → State → Prop) (Qc : Array Value → State → Outcome → State → Prop) (XC : String → State → State → Prop) (mc ms : Nat) (free : Addr → Prop) : Prop :=
  MetFree l y (headSpec ws rm) Pc (fun _ _ _ _ _ => True) (vx_Q Qc XC mc ms free)
def vx_Post (XC : String → State → State → Prop) (mc ms : Nat) (free : Addr → Prop) : Pt → Array Value → Addr → Pt → Prop := fun A a q B =>
  ∃ (g : JFrame) (mk : MethodId) (t : State) (L : List Loc) (E : String) (ce : Cell), B.U.heap = t.heap ∧ B.U.vm = t.vm ∧ XC E (A.U.calling g mk a) t ∧ t.heap[q]? = some ce ∧ ce.vm = .none ∧ A.U.vm.findClass E = some ce.cls ∧ B.locs = A.locs ++ L ∧ (∀ z ∈ L, free z.base) ∧ B.cells = A.cells + mc ∧ B.slots = A.slots + ms
def vx_Back (l : Launch) (R : Room) (p : Program) (e : Env) (below : List Frame) (s : State) (sargs : Array Value) (y : MethodName) (len W9 : Nat)
    (Pre : Pt → Array Value → Prop) (Post : Pt → Array Value → Option Value → Pt → Prop) (PostX : Pt → Array Value → Addr → Pt → Prop) : Prop :=
  ∀ (m : MethodId) (meth : Method) (c : Code) (A : Pt) (g : JFrame) (ig : Instr) (mk : MethodId) (a : Array Value),
    Stand p l e R s m sargs below meth c A.U A.locs A.cells A.slots → g.method = m → g.locals.size = c.maxLocals → decode c.code g.pc = .ok (ig, len) →
    2 * g.monitorRoom + (g.stack.map fun v => v.category).sum ≤ W9 → A.U.methodNamed? y = some mk → Pre A a →
    (∃ (v : Option Value) (B : Pt), Stand p l e R s m sargs below meth c B.U B.locs B.cells B.slots ∧ Post A a v B ∧
      Steps p.tables e below (doInvoke e (A.U.setTop g) [] mk a).1 (B.U.setTop { g with pc := g.pc + len, stack := v.toList ++ g.stack })) ∨
    (∃ (q : Addr) (B : Pt), Stand p l e R s m sargs below meth c B.U B.locs B.cells B.slots ∧ PostX A a q B ∧
      Steps p.tables e below (doInvoke e (A.U.setTop g) [] mk a).1 ((B.U.setTop g).pushFrame (.throwing q)))
section Payer
variable {l : Launch} {R : Room} {p : Program} {e : Env} {below : List Frame} {s : State} {sargs : Array Value} {y : MethodName} {len W9 : Nat}
theorem vx_back {ws : List Cond} {rm : Room} {Pc : Array Value → State → Prop} {Qc : Array Value → State → Outcome → State → Prop} {XC : String → State → State → Prop} {mc ms : Nat} {free : Addr → Prop} {bytes : ByteArray} {maxL : Nat} {ret : Option FieldType}
    (hM : vx_Met l y ws rm Pc Qc XC mc ms free) (hblind : FrameBlind Pc) (hrc : rm.cells = mc) (hrs : rm.slots = ms)
    (hframes : rm.frames + 1 ≤ R.frames) (hlocals : W9 + (maxL + 11) + rm.locals ≤ R.locals)
    (hws : ∀ w ∈ ws, ∀ a' U, s.WarmedH U.vm → w.before a' U = true) (hcode : Cond.code y bytes maxL ret ∈ ws) (hinit : ∀ a' U, s.WarmedH U.vm → (Cond.initialized y.cls).before a' U = true) :
    vx_Back l R p e below s sargs y len W9 (PreOf R mc ms Pc) (PostOf Qc mc ms free) (vx_Post XC mc ms free) := by
  intro m meth c A g ig mk a X hg hsize hdg hW hn hp
  have h1 : (headSpec ws rm).pre.before a A.U = true := atoms_intro fun w hw => hws w hw _ _ X.warmed
  have h2 : (Cond.code y bytes maxL ret).before a A.U = true := hws _ hcode _ _ X.warmed
  have h3 : (Cond.initialized y.cls).before a A.U = true := hinit _ _ X.warmed
  have h4 : A.cells + (headSpec ws rm).room.cells ≤ R.cells := by rw [show (headSpec ws rm).room.cells = mc from hrc]; exact hp.1
  have h5 : A.slots + (headSpec ws rm).room.slots ≤ R.slots := by rw [show (headSpec ws rm).room.slots = ms from hrs]; exact hp.2.1
  have hPc : Pc a (A.U.calling g mk a) := hblind _ _ _ _ hp.2.2
  obtain ⟨U, Ls, c0, s0⟩ := A
  dsimp only [Pt.U, Pt.locs, Pt.cells, Pt.slots] at h1 h2 h3 h4 h5 X hn hPc ⊢
  obtain ⟨methY, cY, hmY, hcY, -, hlY, -, -, -, -⟩ := Cond.code_spec hn h2
  obtain ⟨kY, hkY, -⟩ := className_of_methodNamed hn
  have hinitY : kY.init = .initialized := Cond.initialized_spec (findClass_of_methodNamed hn) hkY h3
  have h : At U g.method c below := by rw [hg]; exact X.here
  have hlocals9 : W9 + (maxL + 11) + (headSpec ws rm).room.locals ≤ R.locals := hlocals
  have happ : (headSpec ws rm).appliesLoose y e.platform (U.calling g mk a) = true :=
    Spec.appliesLoose_calling (g := g) h hdg hn hkY hinitY
      (X.room_calling (g := g) (R' := (headSpec ws rm).room) hsize hmY hcY hframes (by rw [hlY]; omega) h4 h5) h1
  obtain ⟨mid, hmid⟩ := h.above
  have hfr : (U.setTop g).frames = (.java g :: mid) ++ below := by rw [State.frames_setTop' g h.top, hmid]; rfl
  obtain ⟨o, s₂, hsteps, -, hend, hq⟩ := Steps.callFree hM p X.admits X.cas X.clock (acts := []) hfr happ hPc trivial
  have hq' : vx_Q Qc XC mc ms free a (U.calling g mk a) o s₂ := hq
  rw [State.frames_setTop' g h.top] at hend
  obtain ⟨g₀, hg0⟩ := Option.isSome_iff_exists.mp h.top
  obtain ⟨r, hr⟩ := State.topJava?_eq_some.mp hg0
  have hr' : (({ U with heap := s₂.heap, slotsUsed := s₂.slotsUsed } : State).setVm s₂.vm).frames = .java g₀ :: r := hr
  rcases hq' with ⟨hqc, L, hfe, hL⟩ | ⟨q, rfl, E, ce, L, hx, hce, hcv, hcl, hW₂, hsm, hL⟩
  · obtain ⟨⟨v, rfl⟩, hW₂, e2, q2, q3, q4, q5, q6⟩ := id hfe
    have e3 : s₂ = ({ (U.calling g mk a).setFrames s₂.frames with heap := s₂.heap, slotsUsed := s₂.slotsUsed } : State).setVm s₂.vm := by
      have : s₂ = ({ s₂ with vm := (U.calling g mk a).vm } : State).setVm s₂.vm := rfl
      rw [e2] at this
      exact this
    obtain ⟨c₂, i₂, len₂, hc₂, hd₂, hf₂⟩ := hend
    have hW' : U.WarmedH s₂.vm := hW₂
    have hcc : c₂ = c := by
      have h1 : s₂.code? g.method = U.code? g.method := by
        rw [State.code?_eq, State.code?_eq, hW'.alike.method?]
      exact Option.some.inj (hc₂.symm.trans (h1.trans h.code))
    subst hcc
    have hlen : len₂ = len := by rw [hdg] at hd₂; cases hd₂; rfl
    subst hlen
    have hs₂ : s₂ = (({ U with heap := s₂.heap, slotsUsed := s₂.slotsUsed } : State).setVm s₂.vm).setTop { g with pc := g.pc + len₂, stack := v.toList ++ g.stack } := by
      refine e3.trans ?_
      rw [hf₂, State.calling_eq h.top, State.setFrames_setFrames, State.setTop_of_frames _ hr', hr]
      rfl
    have hsame : U.sameButNew ({ U with heap := s₂.heap, slotsUsed := s₂.slotsUsed } : State) L mc ms := by
      refine ⟨?_, q2, q3, q4, q5, q6⟩
      obtain ⟨t, ht, -⟩ := State.frames_cons hr
      show ({ U with heap := s₂.heap, slotsUsed := s₂.slotsUsed } : State) = { U.setFrames U.frames with heap := s₂.heap, slotsUsed := s₂.slotsUsed }
      rw [State.setFrames_self ht]
    subst hg
    refine Or.inl ⟨v, ⟨(({ U with heap := s₂.heap, slotsUsed := s₂.slotsUsed } : State).setVm s₂.vm), Ls ++ L, c0 + mc, s0 + ms⟩,
      ⟨X.admits, X.cas, X.clock, X.frames, X.room, X.hears, X.method, X.code, (X.here.setHeapUsed s₂.heap s₂.slotsUsed).setVm hW'.alike, X.tail, State.WarmedH.trans X.warmed hW', X.limits, X.bytes, X.same.trans (hsame.setVm s.vm)⟩,
      ⟨g, mk, s₂, L, rfl, rfl, hqc, rfl, hL, rfl, rfl⟩, ?_⟩
    show Steps p.tables e below _ ((({ U with heap := s₂.heap, slotsUsed := s₂.slotsUsed } : State).setVm s₂.vm).setTop { g with pc := g.pc + len₂, stack := v.toList ++ g.stack })
    rw [← hs₂]
    exact hsteps
  · obtain ⟨e2, q2, q3, q4, q5, q6⟩ := id hsm
    have e3 : s₂ = ({ (U.calling g mk a).setFrames s₂.frames with heap := s₂.heap, slotsUsed := s₂.slotsUsed } : State).setVm s₂.vm := by
      have : s₂ = ({ s₂ with vm := (U.calling g mk a).vm } : State).setVm s₂.vm := rfl
      rw [e2] at this
      exact this
    have hf₂ : s₂.frames = .throwing q :: .java g :: U.frames.tail := hend
    have hW' : U.WarmedH s₂.vm := hW₂
    have hs₂ : s₂ = ((({ U with heap := s₂.heap, slotsUsed := s₂.slotsUsed } : State).setVm s₂.vm).setTop g).pushFrame (.throwing q) := by
      refine e3.trans ?_
      rw [hf₂, State.calling_eq h.top, State.setFrames_setFrames, State.pushFrame, State.frames_setTop _ hr', State.setTop_of_frames _ hr', State.setFrames_setFrames, hr]
      rfl
    have hsame : U.sameButNew ({ U with heap := s₂.heap, slotsUsed := s₂.slotsUsed } : State) L mc ms := by
      refine ⟨?_, q2, q3, q4, q5, q6⟩
      obtain ⟨t, ht, -⟩ := State.frames_cons hr
      show ({ U with heap := s₂.heap, slotsUsed := s₂.slotsUsed } : State) = { U.setFrames U.frames with heap := s₂.heap, slotsUsed := s₂.slotsUsed }
      rw [State.setFrames_self ht]
    subst hg
    refine Or.inr ⟨q, ⟨(({ U with heap := s₂.heap, slotsUsed := s₂.slotsUsed } : State).setVm s₂.vm), Ls ++ L, c0 + mc, s0 + ms⟩,
      ⟨X.admits, X.cas, X.clock, X.frames, X.room, X.hears, X.method, X.code, (X.here.setHeapUsed s₂.heap s₂.slotsUsed).setVm hW'.alike, X.tail, State.WarmedH.trans X.warmed hW', X.limits, X.bytes, X.same.trans (hsame.setVm s.vm)⟩,
      ⟨g, mk, s₂, L, E, ce, rfl, rfl, hx, hce, hcv, hcl, rfl, hL, rfl, rfl⟩, ?_⟩
    show Steps p.tables e below _ (((({ U with heap := s₂.heap, slotsUsed := s₂.slotsUsed } : State).setVm s₂.vm).setTop g).pushFrame (.throwing q))
    rw [← hs₂]
    exact hsteps
end Payer
section Calls
variable {p : Program} {l : Launch} {e : Env} {R : Room} {s : State} {m : MethodId} {args : Array Value} {below : List Frame} {meth : Method} {c : Code} {T : State} {locs : List Loc} {cells slots : Nat}
theorem vx_callV (X : Stand p l e R s m args below meth c T locs cells slots) (hexec : p.tables.exec = Jvm.exec) {own C : String} {index : Nat} {y : MethodName} {bytes : ByteArray} {maxL : Nat} {ret : Option FieldType}
    (hown : s.vm.findClass own = some m.cls) (hlink : (Cond.methodLink own index y).before args s = true) (hinst : (Cond.instanceMethod y).before args s = true) (hsel : (Cond.selects C y y).before args s = true)
    (hcode : (Cond.code y bytes maxL ret).before args s = true) (hy : y.cls ≠ "java/lang/invoke/MethodHandle" ∧ y.cls ≠ "java/lang/invoke/VarHandle")
    {W9 : Nat} {Pre : Pt → Array Value → Prop} {Post : Pt → Array Value → Option Value → Pt → Prop} {PostX : Pt → Array Value → Addr → Pt → Prop} (hK : vx_Back l R p e below s args y 3 W9 Pre Post PostX)
    {b : Addr} {cellB : Cell} (hcell : T.heap[b]? = some cellB) (hobj : cellB.vm.isStatics = false) (hcls : s.vm.findClass C = some cellB.cls)
    {g : JFrame} (hg : g.method = m) (hsize : g.locals.size = c.maxLocals) {argsL rest : List Value} (hlen : ∀ sig, parseMethodDescriptor y.desc = some sig → argsL.length = sig.parameters.length)
    (hstack : g.stack = argsL.reverse ++ .ref b :: rest) (hW : 2 * g.monitorRoom + (rest.map fun v => v.category).sum ≤ W9) (hdg : decode c.code g.pc = .ok (.invokevirtual index, 3))
    (hpre : ∀ vm₁, s.WarmedH vm₁ → Pre ⟨T.setVm vm₁, locs, cells, slots⟩ (Value.ref b :: argsL).toArray) :
    (∃ (v : Option Value) (vm₁ : Vm) (B : Pt), s.WarmedH vm₁ ∧ Stand p l e R s m args below meth c B.U B.locs B.cells B.slots ∧ Post ⟨T.setVm vm₁, locs, cells, slots⟩ (Value.ref b :: argsL).toArray v B ∧
      ∀ target, Steps p.tables e below (B.U.setTop { g with pc := g.pc + 3, stack := v.toList ++ rest }) target → Steps p.tables e below (T.setTop g) target) ∨
    (∃ (q : Addr) (vm₁ : Vm) (B : Pt), s.WarmedH vm₁ ∧ Stand p l e R s m args below meth c B.U B.locs B.cells B.slots ∧ PostX ⟨T.setVm vm₁, locs, cells, slots⟩ (Value.ref b :: argsL).toArray q B ∧
      Steps p.tables e below (T.setTop g) ((B.U.setTop { g with stack := rest }).pushFrame (.throwing q))) := by
  obtain ⟨mk, methM, hnamed, hmethM, hstM, habM⟩ := Cond.instanceMethod_spec hinst
  obtain ⟨methM', cM, hmethM', -, -, -, -, -, -, hsigM⟩ := Cond.code_spec hnamed hcode
  cases hmethM.symm.trans hmethM'
  obtain ⟨c2, r2, m2, q1, q2, q3, q4, kP, hkP, hkPi⟩ := Cond.selects_spec hsel
  cases hcls.symm.trans q1
  cases (State.methodFound?_of_named hnamed hy).symm.trans q2
  cases hnamed.symm.trans q3
  have hselP : selectMethod e.platform s.vm cellB.cls mk = .method mk := by rw [Launch.admits_selectMethod X.admits]; exact q4
  obtain ⟨vm₁, X₁, hstep₁⟩ := X.invokevirtual hexec hown hlink hnamed hmethM hstM hkP hkPi hy (a := b) (cell := cellB) hcell
    (fun z h => by rw [h] at hobj; cases hobj) hselP hmethM habM hkP hkPi (g := g) hg (argsL := argsL) (rest := rest) (hlen _ hsigM) hstack hdg
  rcases hK m meth c ⟨T.setVm vm₁, locs, cells, slots⟩ { g with stack := rest } (.invokevirtual index) mk (Value.ref b :: argsL).toArray X₁ hg hsize hdg hW (X₁.named hnamed) (hpre vm₁ X₁.warmed) with ⟨v, B, X', hpost, hsteps⟩ | ⟨q, B, X', hpost, hsteps⟩
  · exact Or.inl ⟨v, vm₁, B, X₁.warmed, X', hpost, fun target h => hstep₁ _ fun acts => by rw [doInvoke_state]; exact hsteps.trans h⟩
  · exact Or.inr ⟨q, vm₁, B, X₁.warmed, X', hpost, hstep₁ _ fun acts => by rw [doInvoke_state]; exact hsteps⟩
theorem vx_callS (X : Stand p l e R s m args below meth c T locs cells slots) (hexec : p.tables.exec = Jvm.exec) {own : String} {index : Nat} {y : MethodName} {bytes : ByteArray} {maxL : Nat} {ret : Option FieldType}
    (hown : s.vm.findClass own = some m.cls) (hlink : (Cond.methodLink own index y).before args s = true) (hstat : (Cond.static y).before args s = true) (hinit : (Cond.initialized y.cls).before args s = true)
    (hcode : (Cond.code y bytes maxL ret).before args s = true) (hy : y.cls ≠ "java/lang/invoke/MethodHandle" ∧ y.cls ≠ "java/lang/invoke/VarHandle")
    {W9 : Nat} {Pre : Pt → Array Value → Prop} {Post : Pt → Array Value → Option Value → Pt → Prop} {PostX : Pt → Array Value → Addr → Pt → Prop} (hK : vx_Back l R p e below s args y 3 W9 Pre Post PostX)
    {g : JFrame} (hg : g.method = m) (hsize : g.locals.size = c.maxLocals) {argsL rest : List Value} (hlen : ∀ sig, parseMethodDescriptor y.desc = some sig → argsL.length = sig.parameters.length)
    (hstack : g.stack = argsL.reverse ++ rest) (hW : 2 * g.monitorRoom + (rest.map fun v => v.category).sum ≤ W9) (hdg : decode c.code g.pc = .ok (.invokestatic index, 3))
    (hpre : ∀ vm₁, s.WarmedH vm₁ → Pre ⟨T.setVm vm₁, locs, cells, slots⟩ argsL.toArray) :
    (∃ (v : Option Value) (vm₁ : Vm) (B : Pt), s.WarmedH vm₁ ∧ Stand p l e R s m args below meth c B.U B.locs B.cells B.slots ∧ Post ⟨T.setVm vm₁, locs, cells, slots⟩ argsL.toArray v B ∧
      ∀ target, Steps p.tables e below (B.U.setTop { g with pc := g.pc + 3, stack := v.toList ++ rest }) target → Steps p.tables e below (T.setTop g) target) ∨
    (∃ (q : Addr) (vm₁ : Vm) (B : Pt), s.WarmedH vm₁ ∧ Stand p l e R s m args below meth c B.U B.locs B.cells B.slots ∧ PostX ⟨T.setVm vm₁, locs, cells, slots⟩ argsL.toArray q B ∧
      Steps p.tables e below (T.setTop g) ((B.U.setTop { g with stack := rest }).pushFrame (.throwing q))) := by
  obtain ⟨mk, hnamed⟩ := Cond.code_named hcode
  obtain ⟨methM, cM, hmethM, -, -, -, -, -, -, hsigM⟩ := Cond.code_spec hnamed hcode
  have hstatic : methM.isStatic = true := Cond.static_spec hnamed hmethM hstat
  obtain ⟨kP, hkP, -⟩ := className_of_methodNamed hnamed
  have hinitP : kP.init = .initialized := Cond.initialized_spec (findClass_of_methodNamed hnamed) hkP hinit
  obtain ⟨vm₁, X₁, hstep₁⟩ := X.invokestatic hexec hown hlink hnamed hmethM hstatic hkP hinitP hy (g := g) hg (argsL := argsL) (rest := rest) (hlen _ hsigM) hstack hdg
  rcases hK m meth c ⟨T.setVm vm₁, locs, cells, slots⟩ { g with stack := rest } (.invokestatic index) mk argsL.toArray X₁ hg hsize hdg hW (X₁.named hnamed) (hpre vm₁ X₁.warmed) with ⟨v, B, X', hpost, hsteps⟩ | ⟨q, B, X', hpost, hsteps⟩
  · exact Or.inl ⟨v, vm₁, B, X₁.warmed, X', hpost, fun target h => hstep₁ _ fun acts => by rw [doInvoke_state]; exact hsteps.trans h⟩
  · exact Or.inr ⟨q, vm₁, B, X₁.warmed, X', hpost, hstep₁ _ fun acts => by rw [doInvoke_state]; exact hsteps⟩
end Calls
theorem vx_cls {s : State} {T : State} {vm₁ : Vm} {E : String} {k : ClassId} (hW : s.WarmedH vm₁) (h : (T.setVm vm₁).vm.findClass E = some k) : s.vm.findClass E = some k := by
  have h1 : vm₁.findClass E = some k := h
  rw [hW.alike.findClass] at h1
  exact h1
/-- the method's frame g, with q thrown over it -/
def vx_W (p : Program) (l : Launch) (e : Env) (R : Room) (s : State) (m : MethodId) (args : Array Value) (below : List Frame) (meth : Method) (c : Code) (H : Heap) (locs : List Loc) (cells slots : Nat) (Q : State → Prop) (g : JFrame) (q : Addr) : Prop :=
  ∀ T : State, T.heap = H → Stand p l e R s m args below meth c T locs cells slots → ∃ t, Steps p.tables e below ((T.setTop g).pushFrame (.throwing q)) t ∧ Q t
def vx_Run (p : Program) (l : Launch) (e : Env) (R : Room) (s : State) (m : MethodId) (args : Array Value) (below : List Frame) (meth : Method) (c : Code) (H : Heap) (locs : List Loc) (cells slots mc ms : Nat) (g : JFrame) (rest : List Value) (Qa : State → Outcome → State → Prop) (XC : String → State → State → Prop) (free : Addr → Prop) : Prop :=
  ∀ T : State, T.heap = H → Stand p l e R s m args below meth c T locs cells slots →
    (∃ (v : Option Value) (st₀ t T' : State) (L : List Loc), st₀.heap = H ∧ Stand p l e R s m args below meth c T' (locs ++ L) (cells + mc) (slots + ms) ∧ (∀ q ∈ L, free q.base) ∧ T'.heap = t.heap ∧ T'.vm = t.vm ∧ Qa st₀ (.returned v) t ∧
      Goes p e below T g T' { g with pc := g.pc + 3, stack := v.toList ++ rest }) ∨
    (∃ (q : Addr) (st₀ t T' : State) (L : List Loc) (E : String) (ce : Cell), st₀.heap = H ∧ Stand p l e R s m args below meth c T' (locs ++ L) (cells + mc) (slots + ms) ∧ (∀ z ∈ L, free z.base) ∧ T'.heap = t.heap ∧ T'.vm = t.vm ∧ XC E st₀ t ∧ t.heap[q]? = some ce ∧ ce.vm = .none ∧ s.vm.findClass E = some ce.cls ∧
      Steps p.tables e below (T.setTop g) ((T'.setTop { g with stack := rest }).pushFrame (.throwing q)))
def vx_X {S : Type} (px : S → Prop) (B : String → S → State → Prop) (A : Nat → Prop) : String → State → State → Prop := fun E st t => ∃ u : S, px u ∧ B E u t ∧ va_F A st t
section Runs
variable {p : Program} {l : Launch} {e : Env} {R : Room} {s : State} {m : MethodId} {args : Array Value} {below : List Frame} {meth : Method} {c : Code} {H : Heap} {locs : List Loc} {cells slots : Nat}
variable {y : MethodName} {bytes cc : ByteArray} {maxL nL mc ms n index : Nat} {ret : Option FieldType} {ws : List Cond} {rm : Room} {Pc : Array Value → State → Prop} {Qc : Array Value → State → Outcome → State → Prop} {XC : String → State → State → Prop} {free : Addr → Prop} {Ts : List Cond} {own C : String} {b : Addr} {As rest : List Value} {g : JFrame}
theorem vx_callBack (cb : CallB R s args own index y bytes maxL ret ws rm mc ms n) (hM : vx_Met l y ws rm Pc Qc XC mc ms free) (hbl : FrameBlind Pc) : vx_Back l R p e below s args y 3 8 (PreOf R mc ms Pc) (PostOf Qc mc ms free) (vx_Post XC mc ms free) := by
  obtain ⟨hrc, hrs, hfr, hlo, hws, hcw, -, hini, -⟩ := cb
  exact vx_back (bytes := bytes) (maxL := maxL) (ret := ret) hM hbl hrc hrs hfr hlo hws hcw (fun a' U hW => word_at hW (Or.inl (by first | rfl | simp [Cond.onTables, Cond.keeps, Cond.steady])) hini)
theorem vx_runV (S : CallFix p m c cc nL s args Ts own) (hM : vx_Met l y ws rm Pc Qc XC mc ms free) (cw : CallW R s args own C index y bytes maxL ret ws rm mc ms n) (hp : PreV s H C b Pc As)
    (hg : g.method = m) (hn : As.length = n) (hsize : g.locals.size = nL) (hstack : g.stack = As.reverse ++ .ref b :: rest) (hW : 2 * g.monitorRoom + (rest.map fun v => v.category).sum ≤ 8) (hdg : decode cc g.pc = .ok (.invokevirtual index, 3)) (hf : cells + mc ≤ R.cells ∧ slots + ms ≤ R.slots) :
    vx_Run p l e R s m args below meth c H locs cells slots mc ms g rest (Qc (Value.ref b :: As).toArray) XC free := by
  have hK : vx_Back l R p e below s args y 3 8 (PreOf R mc ms Pc) (PostOf Qc mc ms free) (vx_Post XC mc ms free) := vx_callBack cw.1 hM hp.1
  obtain ⟨⟨-, -, -, -, -, -, hcode, -, hy, hlen, hl⟩, hin, hse⟩ := cw
  obtain ⟨hx, hb, hml, ho, -⟩ := S
  obtain ⟨-, ⟨cellB, hcB, hoB, hclB⟩, hPc⟩ := hp
  intro T hT X
  rcases vx_callV X hx (C := C) (bytes := bytes) (maxL := maxL) (ret := ret) ho hl hin hse hcode hy hK (by rw [hT]; exact hcB) hoB hclB hg (hsize.trans hml.symm) (argsL := As) (rest := rest) (fun sig h => hn.trans (hlen sig h)) hstack hW (by rw [hb]; exact hdg)
    (fun vm₁ hW₁ => ⟨hf.1, hf.2, hPc (T.setVm vm₁) hT hW₁⟩) with ⟨v, vm₁, ⟨U', l2, c2, s2⟩, hW₁, X', ⟨g', mk, t, L, e1, e2, hq, h1, hL, h2, h3⟩, st⟩ | ⟨q, vm₁, ⟨U', l2, c2, s2⟩, hW₁, X', ⟨g', mk, t, L, E, ce, e1, e2, hq, hce, hcv, hcl, h1, hL, h2, h3⟩, st⟩
  · dsimp only [Pt.U, Pt.locs, Pt.cells, Pt.slots] at X' e1 e2 h1 h2 h3 st
    subst h1; subst h2; subst h3
    exact Or.inl ⟨v, (T.setVm vm₁).calling g' mk (Value.ref b :: As).toArray, t, U', L, hT, X', hL, e1, e2, hq, st⟩
  · dsimp only [Pt.U, Pt.locs, Pt.cells, Pt.slots] at X' e1 e2 h1 h2 h3 st hcl
    subst h1; subst h2; subst h3
    exact Or.inr ⟨q, (T.setVm vm₁).calling g' mk (Value.ref b :: As).toArray, t, U', L, E, ce, hT, X', hL, e1, e2, hq, hce, hcv, vx_cls hW₁ hcl, st⟩
theorem vx_runS (S : CallFix p m c cc nL s args Ts own) (hM : vx_Met l y ws rm Pc Qc XC mc ms free) (cw : CallB R s args own index y bytes maxL ret ws rm mc ms n ∧ (Cond.static y).before args s = true) (hp : PreS s H Pc As)
    (hg : g.method = m) (hn : As.length = n) (hsize : g.locals.size = nL) (hstack : g.stack = As.reverse ++ rest) (hW : 2 * g.monitorRoom + (rest.map fun v => v.category).sum ≤ 8) (hdg : decode cc g.pc = .ok (.invokestatic index, 3)) (hf : cells + mc ≤ R.cells ∧ slots + ms ≤ R.slots) :
    vx_Run p l e R s m args below meth c H locs cells slots mc ms g rest (Qc As.toArray) XC free := by
  have hK : vx_Back l R p e below s args y 3 8 (PreOf R mc ms Pc) (PostOf Qc mc ms free) (vx_Post XC mc ms free) := vx_callBack cw.1 hM hp.1
  obtain ⟨⟨-, -, -, -, -, -, hcode, hini, hy, hlen, hl⟩, hstt⟩ := cw
  obtain ⟨hx, hb, hml, ho, -⟩ := S
  intro T hT X
  rcases vx_callS X hx (bytes := bytes) (maxL := maxL) (ret := ret) ho hl hstt hini hcode hy hK hg (hsize.trans hml.symm) (argsL := As) (rest := rest) (fun sig h => hn.trans (hlen sig h)) hstack hW (by rw [hb]; exact hdg)
    (fun vm₁ hW₁ => ⟨hf.1, hf.2, hp.2 (T.setVm vm₁) hT hW₁⟩) with ⟨v, vm₁, ⟨U', l2, c2, s2⟩, hW₁, X', ⟨g', mk, t, L, e1, e2, hq, h1, hL, h2, h3⟩, st⟩ | ⟨q, vm₁, ⟨U', l2, c2, s2⟩, hW₁, X', ⟨g', mk, t, L, E, ce, e1, e2, hq, hce, hcv, hcl, h1, hL, h2, h3⟩, st⟩
  · dsimp only [Pt.U, Pt.locs, Pt.cells, Pt.slots] at X' e1 e2 h1 h2 h3 st
    subst h1; subst h2; subst h3
    exact Or.inl ⟨v, (T.setVm vm₁).calling g' mk As.toArray, t, U', L, hT, X', hL, e1, e2, hq, st⟩
  · dsimp only [Pt.U, Pt.locs, Pt.cells, Pt.slots] at X' e1 e2 h1 h2 h3 st hcl
    subst h1; subst h2; subst h3
    exact Or.inr ⟨q, (T.setVm vm₁).calling g' mk As.toArray, t, U', L, E, ce, hT, X', hL, e1, e2, hq, hce, hcv, vx_cls hW₁ hcl, st⟩
end Runs
section Rows
variable {p : Program} {l : Launch} {e : Env} {R : Room} {s : State} {m : MethodId} {args : Array Value} {below : List Frame} {meth : Method} {c : Code} {H : Heap} {locs : List Loc} {cells slots : Nat} {Q : State → Prop}
variable {mc ms : Nat} {free : Addr → Prop} {A0 A1 : Nat → Prop} {H0 : Heap} {a : Array Value} {pc : Nat} {ls : Array Slot} {st0 rest : List Value}
theorem vx_keep {st₀ t T' : State} {L : List Loc} (h0 : st₀.heap = H) (e1 : T'.heap = t.heap) (hS : va_S A0 H0 H locs) (hA : ∀ q, q < H.size → A1 q → A0 q) (hf : ∀ q, free q → A0 q) (hL : ∀ q ∈ L, free q.base) (hF : va_F A1 st₀ t) :
    H.size ≤ T'.heap.size ∧ (∀ q : Nat, q < H.size → ¬ A1 q → T'.heap[q]? = H[q]?) ∧ va_S A0 H0 T'.heap (locs ++ L) := by
  obtain ⟨hz, hk⟩ := hF
  rw [h0] at hz hk
  exact ⟨by rw [e1]; exact hz, fun q h1 h2 => by rw [e1]; exact hk q h1 h2,
    ⟨Nat.le_trans hS.1 (by rw [e1]; exact hz), fun q h1 h2 => by rw [e1, hk q (Nat.lt_of_lt_of_le h1 hS.1) (fun z => h2 (hA q (Nat.lt_of_lt_of_le h1 hS.1) z))]; exact hS.2.1 q h1 h2, fun q hq => by
      rcases List.mem_append.mp hq with h | h
      · exact hS.2.2 q h
      · exact hf _ (hL q h)⟩⟩
theorem vx_calli {S SX : Type} {post : Int32 → S → Prop} {px : SX → Prop} {B : S → State → Prop} {BX : String → SX → State → Prop} {AX : Nat → Prop} (hr : vx_Run p l e R s m args below meth c H locs cells slots mc ms (F0 m pc ls st0) rest (va_Qi post B A1 a) (vx_X px BX AX) free) (hS : va_S A0 H0 H locs) (hA : ∀ q, q < H.size → A1 q → A0 q) (hf : ∀ q, free q → A0 q) (hAX : ∀ q, q < H.size → AX q → A0 q)
    (kx : ∀ (E : String) (ce : Cell) (q9 : Addr) (u : SX) (t : State) (H1 : Heap) (locs1 : List Loc), t.heap = H1 → s.vm.Alike t.vm → px u → BX E u t → H.size ≤ H1.size → (∀ q : Nat, q < H.size → ¬ AX q → H1[q]? = H[q]?) → va_S A0 H0 H1 locs1 → H1[q9]? = some ce → ce.vm = .none → s.vm.findClass E = some ce.cls → vx_W p l e R s m args below meth c H1 locs1 (cells + mc) (slots + ms) Q (F0 m pc ls rest) q9)
    (kk : ∀ (r : Int32) (u : S) (t : State) (H1 : Heap) (locs1 : List Loc), t.heap = H1 → s.vm.Alike t.vm → post r u → B u t → H.size ≤ H1.size → (∀ q : Nat, q < H.size → ¬ A1 q → H1[q]? = H[q]?) → va_S A0 H0 H1 locs1 → W p l e R s m args below meth c H1 locs1 (cells + mc) (slots + ms) Q (F0 m (pc + 3) ls (.int r :: rest))) : W p l e R s m args below meth c H locs cells slots Q (F0 m pc ls st0) := by
  intro T hT X
  rcases hr T hT X with ⟨v, st₀, t, T', L, h0, X', hL, e1, e2, ⟨⟨r, u, hv, hp, hb⟩, hF⟩, st⟩ | ⟨q, st₀, t, T', L, E, ce, h0, X', hL, e1, e2, ⟨u, hp, hb, hF⟩, hce, hcv, hcl, st⟩
  · cases hv
    obtain ⟨k1, k2, k3⟩ := vx_keep h0 e1 hS hA hf hL hF
    obtain ⟨t2, a1, b1⟩ := kk r u t T'.heap (locs ++ L) e1.symm (by rw [← e2]; exact X'.warmed.alike) hp hb k1 k2 k3 T' rfl X'
    exact ⟨t2, st t2 a1, b1⟩
  · obtain ⟨k1, k2, k3⟩ := vx_keep h0 e1 hS hAX hf hL hF
    obtain ⟨t2, a1, b1⟩ := kx E ce q u t T'.heap (locs ++ L) e1.symm (by rw [← e2]; exact X'.warmed.alike) hp hb k1 k2 k3 (by rw [e1]; exact hce) hcv hcl T' rfl X'
    exact ⟨t2, st.trans a1, b1⟩
theorem vx_calll {S SX : Type} {post : Int64 → S → Prop} {px : SX → Prop} {B : S → State → Prop} {BX : String → SX → State → Prop} {AX : Nat → Prop} (hr : vx_Run p l e R s m args below meth c H locs cells slots mc ms (F0 m pc ls st0) rest (va_Ql post B A1 a) (vx_X px BX AX) free) (hS : va_S A0 H0 H locs) (hA : ∀ q, q < H.size → A1 q → A0 q) (hf : ∀ q, free q → A0 q) (hAX : ∀ q, q < H.size → AX q → A0 q)
    (kx : ∀ (E : String) (ce : Cell) (q9 : Addr) (u : SX) (t : State) (H1 : Heap) (locs1 : List Loc), t.heap = H1 → s.vm.Alike t.vm → px u → BX E u t → H.size ≤ H1.size → (∀ q : Nat, q < H.size → ¬ AX q → H1[q]? = H[q]?) → va_S A0 H0 H1 locs1 → H1[q9]? = some ce → ce.vm = .none → s.vm.findClass E = some ce.cls → vx_W p l e R s m args below meth c H1 locs1 (cells + mc) (slots + ms) Q (F0 m pc ls rest) q9)
    (kk : ∀ (r : Int64) (u : S) (t : State) (H1 : Heap) (locs1 : List Loc), t.heap = H1 → s.vm.Alike t.vm → post r u → B u t → H.size ≤ H1.size → (∀ q : Nat, q < H.size → ¬ A1 q → H1[q]? = H[q]?) → va_S A0 H0 H1 locs1 → W p l e R s m args below meth c H1 locs1 (cells + mc) (slots + ms) Q (F0 m (pc + 3) ls (.long r :: rest))) : W p l e R s m args below meth c H locs cells slots Q (F0 m pc ls st0) := by
  intro T hT X
  rcases hr T hT X with ⟨v, st₀, t, T', L, h0, X', hL, e1, e2, ⟨⟨r, u, hv, hp, hb⟩, hF⟩, st⟩ | ⟨q, st₀, t, T', L, E, ce, h0, X', hL, e1, e2, ⟨u, hp, hb, hF⟩, hce, hcv, hcl, st⟩
  · cases hv
    obtain ⟨k1, k2, k3⟩ := vx_keep h0 e1 hS hA hf hL hF
    obtain ⟨t2, a1, b1⟩ := kk r u t T'.heap (locs ++ L) e1.symm (by rw [← e2]; exact X'.warmed.alike) hp hb k1 k2 k3 T' rfl X'
    exact ⟨t2, st t2 a1, b1⟩
  · obtain ⟨k1, k2, k3⟩ := vx_keep h0 e1 hS hAX hf hL hF
    obtain ⟨t2, a1, b1⟩ := kx E ce q u t T'.heap (locs ++ L) e1.symm (by rw [← e2]; exact X'.warmed.alike) hp hb k1 k2 k3 (by rw [e1]; exact hce) hcv hcl T' rfl X'
    exact ⟨t2, st.trans a1, b1⟩
theorem vx_callf {S SX : Type} {post : UInt32 → S → Prop} {px : SX → Prop} {B : S → State → Prop} {BX : String → SX → State → Prop} {AX : Nat → Prop} (hr : vx_Run p l e R s m args below meth c H locs cells slots mc ms (F0 m pc ls st0) rest (va_Qf post B A1 a) (vx_X px BX AX) free) (hS : va_S A0 H0 H locs) (hA : ∀ q, q < H.size → A1 q → A0 q) (hf : ∀ q, free q → A0 q) (hAX : ∀ q, q < H.size → AX q → A0 q)
    (kx : ∀ (E : String) (ce : Cell) (q9 : Addr) (u : SX) (t : State) (H1 : Heap) (locs1 : List Loc), t.heap = H1 → s.vm.Alike t.vm → px u → BX E u t → H.size ≤ H1.size → (∀ q : Nat, q < H.size → ¬ AX q → H1[q]? = H[q]?) → va_S A0 H0 H1 locs1 → H1[q9]? = some ce → ce.vm = .none → s.vm.findClass E = some ce.cls → vx_W p l e R s m args below meth c H1 locs1 (cells + mc) (slots + ms) Q (F0 m pc ls rest) q9)
    (kk : ∀ (r : UInt32) (u : S) (t : State) (H1 : Heap) (locs1 : List Loc), t.heap = H1 → s.vm.Alike t.vm → post r u → B u t → H.size ≤ H1.size → (∀ q : Nat, q < H.size → ¬ A1 q → H1[q]? = H[q]?) → va_S A0 H0 H1 locs1 → W p l e R s m args below meth c H1 locs1 (cells + mc) (slots + ms) Q (F0 m (pc + 3) ls (.float r :: rest))) : W p l e R s m args below meth c H locs cells slots Q (F0 m pc ls st0) := by
  intro T hT X
  rcases hr T hT X with ⟨v, st₀, t, T', L, h0, X', hL, e1, e2, ⟨⟨r, u, hv, hp, hb⟩, hF⟩, st⟩ | ⟨q, st₀, t, T', L, E, ce, h0, X', hL, e1, e2, ⟨u, hp, hb, hF⟩, hce, hcv, hcl, st⟩
  · cases hv
    obtain ⟨k1, k2, k3⟩ := vx_keep h0 e1 hS hA hf hL hF
    obtain ⟨t2, a1, b1⟩ := kk r u t T'.heap (locs ++ L) e1.symm (by rw [← e2]; exact X'.warmed.alike) hp hb k1 k2 k3 T' rfl X'
    exact ⟨t2, st t2 a1, b1⟩
  · obtain ⟨k1, k2, k3⟩ := vx_keep h0 e1 hS hAX hf hL hF
    obtain ⟨t2, a1, b1⟩ := kx E ce q u t T'.heap (locs ++ L) e1.symm (by rw [← e2]; exact X'.warmed.alike) hp hb k1 k2 k3 (by rw [e1]; exact hce) hcv hcl T' rfl X'
    exact ⟨t2, st.trans a1, b1⟩
theorem vx_calld {S SX : Type} {post : UInt64 → S → Prop} {px : SX → Prop} {B : S → State → Prop} {BX : String → SX → State → Prop} {AX : Nat → Prop} (hr : vx_Run p l e R s m args below meth c H locs cells slots mc ms (F0 m pc ls st0) rest (va_Qd post B A1 a) (vx_X px BX AX) free) (hS : va_S A0 H0 H locs) (hA : ∀ q, q < H.size → A1 q → A0 q) (hf : ∀ q, free q → A0 q) (hAX : ∀ q, q < H.size → AX q → A0 q)
    (kx : ∀ (E : String) (ce : Cell) (q9 : Addr) (u : SX) (t : State) (H1 : Heap) (locs1 : List Loc), t.heap = H1 → s.vm.Alike t.vm → px u → BX E u t → H.size ≤ H1.size → (∀ q : Nat, q < H.size → ¬ AX q → H1[q]? = H[q]?) → va_S A0 H0 H1 locs1 → H1[q9]? = some ce → ce.vm = .none → s.vm.findClass E = some ce.cls → vx_W p l e R s m args below meth c H1 locs1 (cells + mc) (slots + ms) Q (F0 m pc ls rest) q9)
    (kk : ∀ (r : UInt64) (u : S) (t : State) (H1 : Heap) (locs1 : List Loc), t.heap = H1 → s.vm.Alike t.vm → post r u → B u t → H.size ≤ H1.size → (∀ q : Nat, q < H.size → ¬ A1 q → H1[q]? = H[q]?) → va_S A0 H0 H1 locs1 → W p l e R s m args below meth c H1 locs1 (cells + mc) (slots + ms) Q (F0 m (pc + 3) ls (.double r :: rest))) : W p l e R s m args below meth c H locs cells slots Q (F0 m pc ls st0) := by
  intro T hT X
  rcases hr T hT X with ⟨v, st₀, t, T', L, h0, X', hL, e1, e2, ⟨⟨r, u, hv, hp, hb⟩, hF⟩, st⟩ | ⟨q, st₀, t, T', L, E, ce, h0, X', hL, e1, e2, ⟨u, hp, hb, hF⟩, hce, hcv, hcl, st⟩
  · cases hv
    obtain ⟨k1, k2, k3⟩ := vx_keep h0 e1 hS hA hf hL hF
    obtain ⟨t2, a1, b1⟩ := kk r u t T'.heap (locs ++ L) e1.symm (by rw [← e2]; exact X'.warmed.alike) hp hb k1 k2 k3 T' rfl X'
    exact ⟨t2, st t2 a1, b1⟩
  · obtain ⟨k1, k2, k3⟩ := vx_keep h0 e1 hS hAX hf hL hF
    obtain ⟨t2, a1, b1⟩ := kx E ce q u t T'.heap (locs ++ L) e1.symm (by rw [← e2]; exact X'.warmed.alike) hp hb k1 k2 k3 (by rw [e1]; exact hce) hcv hcl T' rfl X'
    exact ⟨t2, st.trans a1, b1⟩
theorem vx_callv {S SX : Type} {post : S → Prop} {px : SX → Prop} {B : S → State → Prop} {BX : String → SX → State → Prop} {AX : Nat → Prop} (hr : vx_Run p l e R s m args below meth c H locs cells slots mc ms (F0 m pc ls st0) rest (va_Qv post B A1 a) (vx_X px BX AX) free) (hS : va_S A0 H0 H locs) (hA : ∀ q, q < H.size → A1 q → A0 q) (hf : ∀ q, free q → A0 q) (hAX : ∀ q, q < H.size → AX q → A0 q)
    (kx : ∀ (E : String) (ce : Cell) (q9 : Addr) (u : SX) (t : State) (H1 : Heap) (locs1 : List Loc), t.heap = H1 → s.vm.Alike t.vm → px u → BX E u t → H.size ≤ H1.size → (∀ q : Nat, q < H.size → ¬ AX q → H1[q]? = H[q]?) → va_S A0 H0 H1 locs1 → H1[q9]? = some ce → ce.vm = .none → s.vm.findClass E = some ce.cls → vx_W p l e R s m args below meth c H1 locs1 (cells + mc) (slots + ms) Q (F0 m pc ls rest) q9)
    (kk : ∀ (u : S) (t : State) (H1 : Heap) (locs1 : List Loc), t.heap = H1 → s.vm.Alike t.vm → post u → B u t → H.size ≤ H1.size → (∀ q : Nat, q < H.size → ¬ A1 q → H1[q]? = H[q]?) → va_S A0 H0 H1 locs1 → W p l e R s m args below meth c H1 locs1 (cells + mc) (slots + ms) Q (F0 m (pc + 3) ls (rest))) : W p l e R s m args below meth c H locs cells slots Q (F0 m pc ls st0) := by
  intro T hT X
  rcases hr T hT X with ⟨v, st₀, t, T', L, h0, X', hL, e1, e2, ⟨⟨u, hv, hp, hb⟩, hF⟩, st⟩ | ⟨q, st₀, t, T', L, E, ce, h0, X', hL, e1, e2, ⟨u, hp, hb, hF⟩, hce, hcv, hcl, st⟩
  · cases hv
    obtain ⟨k1, k2, k3⟩ := vx_keep h0 e1 hS hA hf hL hF
    obtain ⟨t2, a1, b1⟩ := kk u t T'.heap (locs ++ L) e1.symm (by rw [← e2]; exact X'.warmed.alike) hp hb k1 k2 k3 T' rfl X'
    exact ⟨t2, st t2 a1, b1⟩
  · obtain ⟨k1, k2, k3⟩ := vx_keep h0 e1 hS hAX hf hL hF
    obtain ⟨t2, a1, b1⟩ := kx E ce q u t T'.heap (locs ++ L) e1.symm (by rw [← e2]; exact X'.warmed.alike) hp hb k1 k2 k3 (by rw [e1]; exact hce) hcv hcl T' rfl X'
    exact ⟨t2, st.trans a1, b1⟩
/-- caught by the row x of this method's table; the rows ahead don't take it -/
theorem vx_catch {own name : String} {E : String} {ce : Cell} {q : Addr} (hown : s.vm.findClass own = some m.cls) (pre : List ExceptionTableEntry) (x : ExceptionTableEntry) (suf : List ExceptionTableEntry) (hsplit : c.exceptionTable.toList = pre ++ x :: suf)
    (hpass : ∀ z ∈ pre, covers z pc = false ∨ (z.catchType ≠ 0 ∧ ∃ nm : String, (Cond.classLink own z.catchType nm).before args s = true ∧ va_Nc E nm s)) (hx : covers x pc = true) (h0 : x.catchType ≠ 0)
    (hlink : (Cond.classLink own x.catchType name).before args s = true) (hcast : (Cond.castable E name).before args s = true) (hcell : H[q]? = some ce) (hv : ce.vm = .none) (hcl : s.vm.findClass E = some ce.cls)
    (kk : W p l e R s m args below meth c H locs cells slots Q (F0 m x.handlerPc ls [.ref q])) : vx_W p l e R s m args below meth c H locs cells slots Q (F0 m pc ls rest) q := by
  intro T hT X
  have hpl : e.platform.magicAccessors = ({} : Platform).magicAccessors := by rw [X.admits.platform]
  obtain ⟨c3, c4, hc3, hc4, hasg⟩ := Cond.castable_spec hcast
  cases Option.some.inj (hc3.symm.trans hcl)
  obtain ⟨c5, hc5, hcl5⟩ := Cond.classLink_spec hown hlink e.platform hpl
  cases Option.some.inj (hc4.symm.trans hc5)
  obtain ⟨vm', X', st⟩ := X.thenCaughtThrough q (g := F0 m pc ls rest) rfl (Steps.refl _) (by rw [hT]; exact hcell) (by rw [hv]; rfl) (by obtain ⟨k9, h9, -⟩ := Vm.findClass_spec hcl; exact ⟨k9, h9⟩) pre x suf hsplit
    (fun z hz => by
      rcases hpass z hz with h | ⟨hz0, nm, hl1, hn1⟩
      · exact Or.inl h
      · obtain ⟨c6, hc6, hcl6⟩ := Cond.classLink_spec hown hl1 e.platform hpl
        obtain ⟨a8, b8, h1, h2, h3⟩ := hn1
        cases Option.some.inj (h1.symm.trans hcl)
        cases Option.some.inj (h2.symm.trans hc6)
        exact Or.inr ⟨hz0, _, hcl6, h3⟩) hx (Or.inr ⟨h0, c4, hcl5, hasg⟩)
  obtain ⟨t, a1, b1⟩ := kk (T.setVm vm') hT X'
  exact ⟨t, st.trans a1, b1⟩
end Rows
section Ends
variable {p : Program} {l : Launch} {e : Env} {R : Room} {s : State} {m : MethodId} {args : Array Value} {below : List Frame} {meth : Method} {c : Code} {H : Heap} {locs : List Loc} {cells slots : Nat} {Q : State → Prop}
variable {mc ms : Nat} {free : Addr → Prop} {A0 A1 : Nat → Prop} {H0 : Heap} {a : Array Value} {ls : Array Slot} {st0 rest : List Value}
variable {Qc : Array Value → State → Outcome → State → Prop} {XC : String → State → State → Prop}
/-- what a body that may throw owes at its end -/
def vx_MQ (below : List Frame) (Qc : Array Value → State → Outcome → State → Prop) (XC : String → State → State → Prop) (a : Array Value) (s : State) (mc ms : Nat) (free : Addr → Prop) : State → Prop := fun t =>
  ∃ o, t.status = .running ∧ Ended t below o ∧ vx_Q Qc XC mc ms free a s o t
theorem vx_ret {g : JFrame} {mc ms : Nat} (k : W p l e R s m args below meth c H locs cells slots (MQ below Qc args s mc ms free) g) : W p l e R s m args below meth c H locs cells slots (vx_MQ below Qc XC args s mc ms free) g := by
  intro T hT X
  obtain ⟨t, a1, o, b1, b2, b3, b4⟩ := k T hT X
  exact ⟨t, a1, o, b1, b2, Or.inl ⟨b3, b4⟩⟩
/-- not caught here: it goes on to the caller -/
theorem vx_widen {g : JFrame} {q : Addr} {k n : Nat} (h1 : cells ≤ k) (h2 : slots ≤ n) (kk : vx_W p l e R s m args below meth c H locs k n Q g q) : vx_W p l e R s m args below meth c H locs cells slots Q g q := fun T hT X => kk T hT (stand_widen X h1 h2)
theorem vx_out {pc : Nat} {E : String} {ce : Cell} {q : Addr} {mc ms : Nat} (hout : ∀ x ∈ c.exceptionTable.toList, covers x pc = false) (hlocks : meth.locks = false) (hcell : H[q]? = some ce) (hv : ce.vm = .none) (hcl : s.vm.findClass E = some ce.cls)
    (hx : ∀ t : State, t.heap = H → s.vm.Alike t.vm → XC E s t) (hf : ∀ z ∈ locs, free z.base) (hc : cells ≤ mc) (hs : slots ≤ ms) :
    vx_W p l e R s m args below meth c H locs cells slots (vx_MQ below Qc XC args s mc ms free) (F0 m pc ls rest) q := by
  intro T hT X
  obtain ⟨st1, hrun, hend, hW, hsm⟩ := X.leaveThrown q (g := F0 m pc ls rest) rfl rfl rfl hout hlocks
  have hcell9 : (T.setFrames (.throwing q :: below)).heap[q]? = some ce := by
    show T.heap[q]? = some ce
    rw [hT]; exact hcell
  exact ⟨_, st1, .threw q, hrun, hend, Or.inr ⟨q, rfl, E, ce, locs, hx _ hT hW.alike, hcell9, hv, hcl, hW, hsm.mono hc hs, hf⟩⟩
theorem vx_frame {U : State} {k n : Nat} (h : s.sameButNew ({ U with vm := s.vm } : State) locs k n) : s.heap.size ≤ U.heap.size ∧ ∀ q : Nat, q < s.heap.size → (∀ z ∈ locs, z.base ≠ q) → U.heap[q]? = s.heap[q]? := by
  obtain ⟨-, h2, -, -, -, h6⟩ := h
  refine ⟨h2, fun q hq hz => ?_⟩
  obtain ⟨c9, e1, e2, e3, e4⟩ := h6 q _ (Array.getElem?_eq_getElem hq)
  have hs : c9.slots = (s.heap[q]).slots := Array.ext_getElem? fun i => e4 i fun hm => hz _ hm rfl
  have h9 : c9 = s.heap[q] := by
    rw [hs] at e2
    exact e2
  have e5 : U.heap[q]? = some c9 := e1
  rw [e5, h9, Array.getElem?_eq_getElem hq]
/-- the words of a throw but the four that speak of the heap -/
def vx_no (w : Cond) : Bool := decide (w ≠ .isRef (.static Bundle.tN "UNASSIGNED_STACK" Bundle.steD)) && decide (w ≠ .isRef (.static Bundle.tN "SUPPRESSED_SENTINEL" Bundle.listD)) && decide (w ≠ .laysStatic Bundle.tN "UNASSIGNED_STACK" Bundle.steD) && decide (w ≠ .laysStatic Bundle.tN "SUPPRESSED_SENTINEL" Bundle.listD)
def vx_at0 (own : String) (ic : Nat) (X : String) (names : List String) : List Cond := (Bundle.ownAtoms0 own ic X names).filter vx_no
def vx_atS (own : String) (ic : Nat) (X : String) (names : List String) : List Cond := (Bundle.ownAtoms own ic X names).filter vx_no
/-- a word that the tables alone decide, or a good one -/
def vx_ot (w : Cond) : Bool := w.onTables || goodWord w
theorem vx_ot_at {args a' : Array Value} {s U : State} {w : Cond} (hW : s.WarmedH U.vm) (hvm : s.vm = U.vm) (hg : vx_ot w = true) (h : w.before args s = true) : w.before a' U = true := by
  simp only [vx_ot, Bool.or_eq_true] at hg
  rcases hg with hg | hg
  · exact va_tabs hg hvm h
  · exact word_at hW (good_of_word hg) h
/-- a list's words: the good ones out of the method's own list, the others by premises of their own -/
theorem vx_hat {args : Array Value} {s : State} {L B : List Cond} (h1 : ∀ w ∈ L.filter goodWord, w.before args s = true) (h2 : ∀ w ∈ L.filter (fun w => !goodWord w), w ∈ B) (h3 : ∀ w ∈ B, w.before args s = true) : ∀ w ∈ L, w.before args s = true := by
  intro w hw
  by_cases g : goodWord w = true
  · exact h1 w (List.mem_filter.mpr ⟨hw, g⟩)
  · refine h3 w (h2 w (List.mem_filter.mpr ⟨hw, ?_⟩))
    show (!goodWord w) = true
    cases hgw : goodWord w
    · rfl
    · exact absurd hgw g
theorem vx_c {args : Array Value} {s : State} {w : Cond} {B : List Cond} (h : w.before args s = true) (t : ∀ w ∈ B, w.before args s = true) : ∀ w' ∈ w :: B, w'.before args s = true := fun w' h' => (List.mem_cons.mp h').elim (fun e => by rw [e]; exact h) (t w')
theorem vx_n {args : Array Value} {s : State} : ∀ w ∈ ([] : List Cond), w.before args s = true := fun _ h => nomatch h
theorem vx_own {args : Array Value} {s : State} {L : List Cond} (h1 : ∀ w ∈ L.filter vx_no, w.before args s = true)
    (hU : (Cond.isRef (.static Bundle.tN "UNASSIGNED_STACK" Bundle.steD)).before args s = true) (hN : (Cond.isRef (.static Bundle.tN "SUPPRESSED_SENTINEL" Bundle.listD)).before args s = true)
    (lU : (Cond.laysStatic Bundle.tN "UNASSIGNED_STACK" Bundle.steD).before args s = true) (lN : (Cond.laysStatic Bundle.tN "SUPPRESSED_SENTINEL" Bundle.listD).before args s = true) : ∀ w ∈ L, w.before args s = true := by
  intro w hw
  by_cases e1 : w = .isRef (.static Bundle.tN "UNASSIGNED_STACK" Bundle.steD)
  · rw [e1]; exact hU
  · by_cases e2 : w = .isRef (.static Bundle.tN "SUPPRESSED_SENTINEL" Bundle.listD)
    · rw [e2]; exact hN
    · by_cases e3 : w = .laysStatic Bundle.tN "UNASSIGNED_STACK" Bundle.steD
      · rw [e3]; exact lU
      · by_cases e4 : w = .laysStatic Bundle.tN "SUPPRESSED_SENTINEL" Bundle.listD
        · rw [e4]; exact lN
        · exact h1 w (List.mem_filter.mpr ⟨hw, by unfold vx_no; rw [decide_eq_true e1, decide_eq_true e2, decide_eq_true e3, decide_eq_true e4]; rfl⟩)
/-- where a static field lies, its class's statics cell in H -/
def vx_L (C n d : String) (A : Nat → Prop) (U : State) (H : Heap) : Prop := ∃ (c : ClassId) (k : Class) (i : Nat) (f : Field) (a : Nat) (cell : Cell), U.vm.findClass C = some c ∧ U.fieldFound? C n d = some (c, k, i, f) ∧ f.isStatic = true ∧ k.statics = some a ∧ H[a]? = some cell ∧ cell.vm.isStatics = true ∧ cell.cls = c ∧ f.slot < cell.slots.size ∧ k.staticTypes[f.slot]? = some f.type ∧ ¬ A a
theorem vx_L.moved {C n d : String} {A : Nat → Prop} {u U : State} {H : Heap} (hvm : u.vm.Alike U.vm) (h : vx_L C n d A u H) : vx_L C n d A U H := by
  obtain ⟨c, k, i, f, a, cell, h1, h2, h3, h4, h5, h6, h7, h8, h9, h10⟩ := h
  obtain ⟨k', hi', he⟩ := State.fieldFound?_setVm hvm h2
  exact ⟨c, k', i, f, a, cell, by rw [hvm.findClass]; exact h1, hi', h3, by rw [he]; exact h4, h5, h6, h7, h8, by rw [he]; exact h9, h10⟩
theorem vx_L.kept {C n d : String} {A : Nat → Prop} {U : State} {H H1 : Heap} (h : vx_L C n d A U H) (hq : ∀ a : Nat, a < H.size → ¬ A a → H1[a]? = H[a]?) : vx_L C n d A U H1 := by
  obtain ⟨c, k, i, f, a, cell, h1, h2, h3, h4, h5, h6, h7, h8, h9, h10⟩ := h
  exact ⟨c, k, i, f, a, cell, h1, h2, h3, h4, by rw [hq a (Array.getElem?_eq_some_iff.mp h5).1 h10]; exact h5, h6, h7, h8, h9, h10⟩
theorem vx_L.narrow {C n d : String} {A B : Nat → Prop} {U : State} {H : Heap} (h : vx_L C n d A U H) (hAB : ∀ q, B q → A q) : vx_L C n d B U H := by
  obtain ⟨c, k, i, f, a, cell, h1, h2, h3, h4, h5, h6, h7, h8, h9, h10⟩ := h
  exact ⟨c, k, i, f, a, cell, h1, h2, h3, h4, h5, h6, h7, h8, h9, fun z => h10 (hAB _ z)⟩
theorem vx_L.word {C n d : String} {A : Nat → Prop} {s : State} {args : Array Value} (h : vx_L C n d A s s.heap) : (Cond.laysStatic C n d).before args s = true := by
  obtain ⟨c, k, i, f, a, cell, h1, h2, h3, h4, h5, h6, h7, h8, h9, -⟩ := h
  show (Cond.laysStatic C n d).holds args s none s [] = true
  exact Cond.laysStatic_of h1 h2 h3 h4 h5 h6 h7 h8 h9
/-- .. and what it holds: null or some reference -/
def vx_Zq (C n d : String) (A : Nat → Prop) (U : State) (H : Heap) : Prop := va_Zq C n d A U H ∧ vx_L C n d A U H
theorem vx_Zq.moved {C n d : String} {A : Nat → Prop} {u U : State} {H : Heap} (hvm : u.vm.Alike U.vm) (h : vx_Zq C n d A u H) : vx_Zq C n d A U H := ⟨va_Zq.moved hvm h.1, vx_L.moved hvm h.2⟩
theorem vx_Zq.kept {C n d : String} {A : Nat → Prop} {U : State} {H H1 : Heap} (h : vx_Zq C n d A U H) (hq : ∀ a : Nat, a < H.size → ¬ A a → H1[a]? = H[a]?) : vx_Zq C n d A U H1 := ⟨va_Zq.kept h.1 hq, vx_L.kept h.2 hq⟩
theorem vx_Zq.narrow {C n d : String} {A B : Nat → Prop} {U : State} {H : Heap} (h : vx_Zq C n d A U H) (hAB : ∀ q, B q → A q) : vx_Zq C n d B U H := ⟨va_Zq.narrow h.1 hAB, vx_L.narrow h.2 hAB⟩
theorem vx_Zqof {args : Array Value} {s : State} {C n d : String} {A : Nat → Prop} (hl : (Cond.laysStatic C n d).before args s = true) (hini : (Cond.initialized C).before args s = true) (h : (Cond.isRef (.static C n d)).before args s = true) (hA : ∀ a : Nat, a < s.heap.size → ¬ A a) : vx_Zq C n d A s s.heap := by
  refine ⟨va_Zqof hl hini h hA, ?_⟩
  obtain ⟨c, k, i, f, a, cell, h1, h2, h3, h4, h5, h6, h7, h8, h9⟩ := Cond.laysStatic_spec hl
  exact ⟨c, k, i, f, a, cell, h1, h2, h3, h4, h5, h6, h7, h8, h9, hA a (Array.getElem?_eq_some_iff.mp h5).1⟩
theorem vx_isRef {C n d : String} {v : Value} {A : Nat → Prop} {s : State} {args : Array Value} (h : va_Z C n d v A s s.heap) (hv : v.isRef = true) : (Cond.isRef (.static C n d)).before args s = true := by
  obtain ⟨cf, kf, fi, f, a, cell, h1, h2, h3, h4, h5, h6, h7, -⟩ := h
  have he : (Term.static C n d).eval args s none [] s = some v := by
    simp [Term.eval, State.fieldNamed?, h1, h2, h4, h5, h6, h7]
  simp only [Cond.before, Cond.holds, Cond.value, he]
  cases v <;> simp_all [Value.isRef]
theorem vx_isRefq {C n d : String} {A : Nat → Prop} {s : State} {args : Array Value} (h : va_Zq C n d A s s.heap) : (Cond.isRef (.static C n d)).before args s = true := by
  rcases h with h | ⟨t, h⟩
  · exact vx_isRef h rfl
  · exact vx_isRef h rfl
/-- the same frame, seen from here: as if the method were called anew in this heap -/
theorem vx_rebase {T : State} (X : Stand p l e R s m args below meth c T locs cells slots) {R' : Room} (hf : R'.frames ≤ R.frames) (hl : R'.locals ≤ R.locals) (hc : cells + R'.cells ≤ R.cells) (hs : slots + R'.slots ≤ R.slots) :
    Stand p l e R' ((T.setVm s.vm).setFrames (.invoking m args :: below)) m args below meth c T [] 0 0 := by
  have htop : (T.setVm s.vm).topJava?.isSome := X.here.top
  have hF : ((T.setVm s.vm).setFrames (.invoking m args :: below)).frames = .invoking m args :: below := State.frames_setFrames _ (State.cur_lt_of_top htop)
  obtain ⟨g₀, hg0⟩ := Option.isSome_iff_exists.mp htop
  obtain ⟨r, hr⟩ := State.topJava?_eq_some.mp hg0
  have hl9 : e.platform.stackLimits (T.setVm s.vm).me = e.platform.stackLimits s.me := X.limits
  have hb9 : (T.setVm s.vm).me.stackBytes = s.me.stackBytes := X.bytes
  refine ⟨X.admits, X.cas, X.clock, hF, ?_, X.hears, X.method, X.code, X.here, X.tail, X.warmed, ?_, ?_, ?_⟩
  · have h := X.room
    have hU : ((T.setVm s.vm).setFrames (.invoking m args :: below)).localsInUse = s.localsInUse := by
      rw [State.localsInUse_invoking hF (meth := meth) (c := c) X.method X.code, State.localsInUse_invoking X.frames X.method X.code]
    simp only [State.hasRoom, Bool.and_eq_true, decide_eq_true_eq] at h ⊢
    obtain ⟨⟨⟨⟨h1, h2, h3, h4, h5, h6⟩, h7⟩, h8⟩, h9⟩ := h
    rw [X.frames, List.length_cons] at h2 h3
    have q1 := X.heapSize
    have q2 := X.used
    simp only [hF, hU, List.length_cons, State.stackLimits_setFrames, State.stackBytes_setFrames, hl9, hb9]
    refine ⟨⟨⟨⟨by omega, by omega, by omega, by omega, by omega, h6⟩, ?_⟩, ?_⟩, X.book⟩
    · show T.heap.size + R'.cells ≤ e.platform.maxCells
      omega
    · show T.slotsUsed + R'.slots ≤ e.platform.maxSlots
      omega
  · rw [State.stackLimits_setFrames]; rfl
  · rw [State.stackBytes_setFrames]; rfl
  · refine ⟨?_, Nat.le_refl _, Nat.le_refl _, ?_, ?_, fun a c9 h9 => ⟨c9, h9, rfl, rfl, fun _ _ => rfl⟩⟩
    · obtain ⟨t, ht, -⟩ := State.frames_cons hr
      show T.setVm s.vm = { ((T.setVm s.vm).setFrames (.invoking m args :: below)).setFrames (T.setVm s.vm).frames with heap := T.heap, slotsUsed := T.slotsUsed }
      rw [State.setFrames_setFrames, State.setFrames_self ht]
      rfl
    · show T.slotsUsed = T.slotsUsed + ((T.heap.toList.drop T.heap.size).map (·.slots.size)).sum
      rw [List.drop_eq_nil_of_le (Nat.le_of_eq Array.length_toList)]
      rfl
    · show ((T.heap.toList.drop T.heap.size).map (·.slots.size)).sum ≤ 0
      rw [List.drop_eq_nil_of_le (Nat.le_of_eq Array.length_toList)]
      exact Nat.le_refl _
/-- 'throw new E()': new; dup; invokespecial; athrow -/
theorem vx_throw0 {cc : ByteArray} {pc : Nat} (hexec : p.tables.exec = Jvm.exec) (hb : c.code = cc) (hl : l.stackTraces = false) {own cls : String} {names : List String} {ik ic mc ms : Nat} {A : Nat → Prop}
    (hown : s.vm.findClass own = some m.cls) (hcls : Bundle.fit cls = true) (hnames : ∀ n ∈ names, Bundle.fit n = true)
    (hk : (Cond.classLink own ik cls).before args s = true) (hini : (Cond.initialized cls).before args s = true) (hat : ∀ w ∈ vx_at0 own ic cls names, w.before args s = true)
    (hgood : ∀ w ∈ Cond.classLink own ik cls :: Cond.initialized cls :: vx_at0 own ic cls names, vx_ot w = true)
    (hU : vx_Zq Bundle.tN "UNASSIGNED_STACK" Bundle.steD A s s.heap) (hN : vx_Zq Bundle.tN "SUPPRESSED_SENTINEL" Bundle.listD A s s.heap) (hS : va_S A s.heap H locs) (hsize : ls.size = c.maxLocals)
    (d0 : decode cc pc = .ok (.new ik, 3)) (d3 : decode cc (pc + 3) = .ok (.dup, 1)) (d4 : decode cc (pc + 4) = .ok (.invokespecial ic, 3)) (d7 : decode cc (pc + 7) = .ok (.athrow, 1))
    (hout : ∀ x ∈ c.exceptionTable.toList, covers x (pc + 7) = false)
    (hRframes : names.length + 3 < R.frames) (hRlocals : (rest.map fun v => v.category).sum + (13 * (names.length + 1) + 42) ≤ R.locals) (hRcells : cells + 1 ≤ R.cells) (hRslots : slots + 6 ≤ R.slots) (hlocks : meth.locks = false)
    (hx : ∀ t : State, s.vm.Alike t.vm → H.size ≤ t.heap.size → (∀ q : Nat, q < H.size → t.heap[q]? = H[q]?) → XC cls s t)
    (hf : ∀ z ∈ locs, free z.base) (hc : cells + 1 ≤ mc) (hs : slots + 6 ≤ ms) :
    W p l e R s m args below meth c H locs cells slots (vx_MQ below Qc XC args s mc ms free) (F0 m pc ls rest) := by
  intro T hT X
  have htr : e.platform.stackTraces = false := (show e.platform.stackTraces = l.stackTraces by rw [X.admits.platform]).trans hl
  have Y := vx_rebase X (R' := { frames := R.frames, locals := R.locals, cells := 1, slots := 6 }) (Nat.le_refl _) (Nat.le_refl _) hRcells hRslots
  obtain ⟨s', hA⟩ : ∃ z, z = (T.setVm s.vm).setFrames (.invoking m args :: below) := ⟨_, rfl⟩
  rw [← hA] at Y
  have hvm : s'.vm = s.vm := by rw [hA]; rfl
  have hhp : s'.heap = H := by rw [hA]; exact hT
  have hW0 : s.WarmedH s'.vm := by rw [hvm]; exact State.WarmedH.refl s
  have hat' : ∀ w ∈ vx_at0 own ic cls names, w.before args s' = true := fun w hw => vx_ot_at hW0 hvm.symm (hgood w (List.mem_cons_of_mem _ (List.mem_cons_of_mem _ hw))) (hat w hw)
  have hk' : (Cond.classLink own ik cls).before args s' = true := vx_ot_at hW0 hvm.symm (hgood _ List.mem_cons_self) hk
  have hini' : (Cond.initialized cls).before args s' = true := vx_ot_at hW0 hvm.symm (hgood _ (List.mem_cons_of_mem _ List.mem_cons_self)) hini
  have hU' : vx_Zq Bundle.tN "UNASSIGNED_STACK" Bundle.steD A s' s'.heap := by rw [hhp]; exact vx_Zq.moved hW0.alike (hU.kept hS.2.1)
  have hN' : vx_Zq Bundle.tN "SUPPRESSED_SENTINEL" Bundle.listD A s' s'.heap := by rw [hhp]; exact vx_Zq.moved hW0.alike (hN.kept hS.2.1)
  have h : ∀ w ∈ Bundle.ownAtoms0 own ic cls names, w.before args s' = true := vx_own hat' (vx_isRefq hU'.1) (vx_isRefq hN'.1) hU'.2.word hN'.2.word
  have hown' : s'.vm.findClass own = some m.cls := by rw [hvm]; exact hown
  have hins : (Cond.instantiable cls 6).before args s' = true := h _ (by simp [Bundle.ownAtoms0])
  obtain ⟨vm₁, cX, kX, hfX, hkX, -, -, X₁, st1⟩ := Y.newCold hexec (own := own) (C := cls) (index := ik) (n := 6) hown' hk' hins hini'
    (g := F0 m pc ls rest) rfl (by rw [hb]; exact d0) (Nat.le_refl _) (Nat.le_refl _)
  generalize hT1 : (T.setVm vm₁).pushCell { cls := cX, slots := kX.instanceTypes.map defaultValue, vm := .none } = T1 at X₁ st1
  have hcat : (Value.ref T.heap.size).category = 1 := rfl
  have hcellA : T1.heap[T.heap.size]? = some (freshCell cX kX) := by rw [← hT1]; exact State.heap_pushCell_size _ _
  have d3' : decode c.code (pc + 3) = .ok (.dup, 1) := by rw [hb]; exact d3
  obtain ⟨U, hsteps, hrun, hend, hW, hsame, ce, hce, hO⟩ := X₁.ctorThrow0 hexec htr (own := own) (cls := cls) (names := names) (ic := ic) hown' hcls hnames h (fun x hx => nomatch hx) hfX hkX hcellA (by rw [hhp, hT]; exact Nat.le_refl _)
    (g := { method := m, pc := pc + 4, locals := ls, stack := .ref T.heap.size :: .ref T.heap.size :: rest, locked := none }) rfl hsize rfl rfl (rest := rest) rfl
    (by rw [hb]; exact d4) (by rw [hb]; exact d7) hout hRframes (by simp only [List.map_cons, List.sum_cons, hcat]; omega) hlocks
  obtain ⟨f1, f2⟩ := vx_frame hsame
  rw [hhp] at f1 f2
  have hWs : s.WarmedH U.vm := State.WarmedH.trans hW0 hW
  have hcl : s.vm.findClass cls = some ce.cls := by
    have h9 := hO.cls
    rw [hvm] at h9
    exact h9
  have hall : s.sameButNew ({ U with vm := s.vm } : State) locs mc ms := by
    subst hA
    obtain ⟨e1, e2⟩ := hsame
    rw [State.setFrames_setFrames] at e1
    have h2 : (T.setVm s.vm).sameButNew ({ U with vm := s.vm } : State) [] (0 + 1) (0 + 6) := ⟨e1, e2⟩
    have h3 := X.same.trans h2
    rw [List.append_nil] at h3
    exact h3.mono hc hs
  refine ⟨U, ?_, .threw T.heap.size, hrun, hend, Or.inr ⟨T.heap.size, rfl, cls, ce, locs, hx U hWs.alike f1 (fun q hq => f2 q hq (fun z hz => nomatch hz)), hce, hO.vm, hcl, hWs, hall, hf⟩⟩
  refine st1 _ ?_
  show Steps p.tables e below (T1.setTop { method := m, pc := pc + 3, locals := ls, stack := .ref T.heap.size :: rest, locked := none }) _
  jvm_step X₁.here [X₁.here.top, hexec, d3', Value.category]
  exact hsteps
/-- 'throw new E("text")': new; dup; ldc; invokespecial; athrow -/
theorem vx_throwS {cc : ByteArray} {pc : Nat} (hexec : p.tables.exec = Jvm.exec) (hb : c.code = cc) (hl : l.stackTraces = false) {own cls text : String} {names : List String} {ik is ic mc ms sa : Nat} {A : Nat → Prop}
    (hown : s.vm.findClass own = some m.cls) (hcls : Bundle.fit cls = true) (hnames : ∀ n ∈ names, Bundle.fit n = true)
    (hk : (Cond.classLink own ik cls).before args s = true) (hini : (Cond.initialized cls).before args s = true) (hstr : vk_R own is text sa s) (hat : ∀ w ∈ vx_atS own ic cls names, w.before args s = true)
    (hgood : ∀ w ∈ Cond.classLink own ik cls :: Cond.initialized cls :: vx_atS own ic cls names, vx_ot w = true)
    (hU : vx_Zq Bundle.tN "UNASSIGNED_STACK" Bundle.steD A s s.heap) (hN : vx_Zq Bundle.tN "SUPPRESSED_SENTINEL" Bundle.listD A s s.heap) (hS : va_S A s.heap H locs) (hsize : ls.size = c.maxLocals)
    (d0 : decode cc pc = .ok (.new ik, 3)) (d3 : decode cc (pc + 3) = .ok (.dup, 1)) (d4 : decode cc (pc + 4) = .ok (.ldc is, 2)) (d6 : decode cc (pc + 6) = .ok (.invokespecial ic, 3)) (d9 : decode cc (pc + 9) = .ok (.athrow, 1))
    (hout : ∀ x ∈ c.exceptionTable.toList, covers x (pc + 9) = false)
    (hRframes : names.length + 3 < R.frames) (hRlocals : (rest.map fun v => v.category).sum + (13 * (names.length + 1) + 43) ≤ R.locals) (hRcells : cells + 1 ≤ R.cells) (hRslots : slots + 6 ≤ R.slots) (hlocks : meth.locks = false)
    (hx : ∀ t : State, s.vm.Alike t.vm → H.size ≤ t.heap.size → (∀ q : Nat, q < H.size → t.heap[q]? = H[q]?) → XC cls s t)
    (hf : ∀ z ∈ locs, free z.base) (hc : cells + 1 ≤ mc) (hs : slots + 6 ≤ ms) :
    W p l e R s m args below meth c H locs cells slots (vx_MQ below Qc XC args s mc ms free) (F0 m pc ls rest) := by
  intro T hT X
  have htr : e.platform.stackTraces = false := (show e.platform.stackTraces = l.stackTraces by rw [X.admits.platform]).trans hl
  have Y := vx_rebase X (R' := { frames := R.frames, locals := R.locals, cells := 1, slots := 6 }) (Nat.le_refl _) (Nat.le_refl _) hRcells hRslots
  obtain ⟨s', hA⟩ : ∃ z, z = (T.setVm s.vm).setFrames (.invoking m args :: below) := ⟨_, rfl⟩
  rw [← hA] at Y
  have hvm : s'.vm = s.vm := by rw [hA]; rfl
  have hhp : s'.heap = H := by rw [hA]; exact hT
  have hW0 : s.WarmedH s'.vm := by rw [hvm]; exact State.WarmedH.refl s
  have hat' : ∀ w ∈ vx_atS own ic cls names, w.before args s' = true := fun w hw => vx_ot_at hW0 hvm.symm (hgood w (List.mem_cons_of_mem _ (List.mem_cons_of_mem _ hw))) (hat w hw)
  have hk' : (Cond.classLink own ik cls).before args s' = true := vx_ot_at hW0 hvm.symm (hgood _ List.mem_cons_self) hk
  have hini' : (Cond.initialized cls).before args s' = true := vx_ot_at hW0 hvm.symm (hgood _ (List.mem_cons_of_mem _ List.mem_cons_self)) hini
  have hU' : vx_Zq Bundle.tN "UNASSIGNED_STACK" Bundle.steD A s' s'.heap := by rw [hhp]; exact vx_Zq.moved hW0.alike (hU.kept hS.2.1)
  have hN' : vx_Zq Bundle.tN "SUPPRESSED_SENTINEL" Bundle.listD A s' s'.heap := by rw [hhp]; exact vx_Zq.moved hW0.alike (hN.kept hS.2.1)
  have h : ∀ w ∈ Bundle.ownAtoms own ic cls names, w.before args s' = true := vx_own hat' (vx_isRefq hU'.1) (vx_isRefq hN'.1) hU'.2.word hN'.2.word
  have hown' : s'.vm.findClass own = some m.cls := by rw [hvm]; exact hown
  have hins : (Cond.instantiable cls 6).before args s' = true := h _ (by simp [Bundle.ownAtoms])
  obtain ⟨vm₁, cX, kX, hfX, hkX, -, -, X₁, st1⟩ := Y.newCold hexec (own := own) (C := cls) (index := ik) (n := 6) hown' hk' hins hini'
    (g := F0 m pc ls rest) rfl (by rw [hb]; exact d0) (Nat.le_refl _) (Nat.le_refl _)
  generalize hT1 : (T.setVm vm₁).pushCell { cls := cX, slots := kX.instanceTypes.map defaultValue, vm := .none } = T1 at X₁ st1
  have hcat : (Value.ref T.heap.size).category = 1 := rfl
  have hcellA : T1.heap[T.heap.size]? = some (freshCell cX kX) := by rw [← hT1]; exact State.heap_pushCell_size _ _
  have d3' : decode c.code (pc + 3) = .ok (.dup, 1) := by rw [hb]; exact d3
  have d4' : decode c.code (pc + 4) = .ok (.ldc is, 2) := by rw [hb]; exact d4
  have hstr' : vk_R own is text sa s' := vk_R.warm hW0 hstr
  obtain ⟨U, hsteps, hrun, hend, hW, hsame, ce, hce, hO⟩ := X₁.ctorThrowS hexec htr (own := own) (cls := cls) (names := names) (ic := ic) hown' hcls hnames h (fun x hx => nomatch hx) hfX hkX hcellA (by rw [hhp, hT]; exact Nat.le_refl _) (msg := .ref sa) rfl
    (g := { method := m, pc := pc + 6, locals := ls, stack := .ref sa :: .ref T.heap.size :: .ref T.heap.size :: rest, locked := none }) rfl hsize rfl rfl (rest := rest) rfl
    (by rw [hb]; exact d6) (by rw [hb]; exact d9) hout hRframes (by simp only [List.map_cons, List.sum_cons, hcat]; omega) hlocks
  obtain ⟨f1, f2⟩ := vx_frame hsame
  rw [hhp] at f1 f2
  have hWs : s.WarmedH U.vm := State.WarmedH.trans hW0 hW
  have hcl : s.vm.findClass cls = some ce.cls := by
    have h9 := hO.cls
    rw [hvm] at h9
    exact h9
  have hall : s.sameButNew ({ U with vm := s.vm } : State) locs mc ms := by
    subst hA
    obtain ⟨e1, e2⟩ := hsame
    rw [State.setFrames_setFrames] at e1
    have h2 : (T.setVm s.vm).sameButNew ({ U with vm := s.vm } : State) [] (0 + 1) (0 + 6) := ⟨e1, e2⟩
    have h3 := X.same.trans h2
    rw [List.append_nil] at h3
    exact h3.mono hc hs
  refine ⟨U, ?_, .threw T.heap.size, hrun, hend, Or.inr ⟨T.heap.size, rfl, cls, ce, locs, hx U hWs.alike f1 (fun q hq => f2 q hq (fun z hz => nomatch hz)), hce, hO.vm, hcl, hWs, hall, hf⟩⟩
  refine st1 _ ?_
  show Steps p.tables e below (T1.setTop { method := m, pc := pc + 3, locals := ls, stack := .ref T.heap.size :: rest, locked := none }) _
  jvm_step X₁.here [X₁.here.top, hexec, d3', Value.category]
  exact X₁.ldcString hexec (own := own) (text := text) (index := is) (a := sa) hown' hstr'.1 hstr'.2
    (g := { method := m, pc := pc + 4, locals := ls, stack := .ref T.heap.size :: .ref T.heap.size :: rest, locked := none }) rfl d4' _ hsteps
/-- 'throw new E("text")', the text by a wide index -/
theorem vx_throwSW {cc : ByteArray} {pc : Nat} (hexec : p.tables.exec = Jvm.exec) (hb : c.code = cc) (hl : l.stackTraces = false) {own cls text : String} {names : List String} {ik is ic mc ms sa : Nat} {A : Nat → Prop}
    (hown : s.vm.findClass own = some m.cls) (hcls : Bundle.fit cls = true) (hnames : ∀ n ∈ names, Bundle.fit n = true)
    (hk : (Cond.classLink own ik cls).before args s = true) (hini : (Cond.initialized cls).before args s = true) (hstr : vk_R own is text sa s) (hat : ∀ w ∈ vx_atS own ic cls names, w.before args s = true)
    (hgood : ∀ w ∈ Cond.classLink own ik cls :: Cond.initialized cls :: vx_atS own ic cls names, vx_ot w = true)
    (hU : vx_Zq Bundle.tN "UNASSIGNED_STACK" Bundle.steD A s s.heap) (hN : vx_Zq Bundle.tN "SUPPRESSED_SENTINEL" Bundle.listD A s s.heap) (hS : va_S A s.heap H locs) (hsize : ls.size = c.maxLocals)
    (d0 : decode cc pc = .ok (.new ik, 3)) (d3 : decode cc (pc + 3) = .ok (.dup, 1)) (d4 : decode cc (pc + 4) = .ok (.ldc_w is, 3)) (d7 : decode cc (pc + 7) = .ok (.invokespecial ic, 3)) (d10 : decode cc (pc + 10) = .ok (.athrow, 1))
    (hout : ∀ x ∈ c.exceptionTable.toList, covers x (pc + 10) = false)
    (hRframes : names.length + 3 < R.frames) (hRlocals : (rest.map fun v => v.category).sum + (13 * (names.length + 1) + 43) ≤ R.locals) (hRcells : cells + 1 ≤ R.cells) (hRslots : slots + 6 ≤ R.slots) (hlocks : meth.locks = false)
    (hx : ∀ t : State, s.vm.Alike t.vm → H.size ≤ t.heap.size → (∀ q : Nat, q < H.size → t.heap[q]? = H[q]?) → XC cls s t)
    (hf : ∀ z ∈ locs, free z.base) (hc : cells + 1 ≤ mc) (hs : slots + 6 ≤ ms) :
    W p l e R s m args below meth c H locs cells slots (vx_MQ below Qc XC args s mc ms free) (F0 m pc ls rest) := by
  intro T hT X
  have htr : e.platform.stackTraces = false := (show e.platform.stackTraces = l.stackTraces by rw [X.admits.platform]).trans hl
  have Y := vx_rebase X (R' := { frames := R.frames, locals := R.locals, cells := 1, slots := 6 }) (Nat.le_refl _) (Nat.le_refl _) hRcells hRslots
  obtain ⟨s', hA⟩ : ∃ z, z = (T.setVm s.vm).setFrames (.invoking m args :: below) := ⟨_, rfl⟩
  rw [← hA] at Y
  have hvm : s'.vm = s.vm := by rw [hA]; rfl
  have hhp : s'.heap = H := by rw [hA]; exact hT
  have hW0 : s.WarmedH s'.vm := by rw [hvm]; exact State.WarmedH.refl s
  have hat' : ∀ w ∈ vx_atS own ic cls names, w.before args s' = true := fun w hw => vx_ot_at hW0 hvm.symm (hgood w (List.mem_cons_of_mem _ (List.mem_cons_of_mem _ hw))) (hat w hw)
  have hk' : (Cond.classLink own ik cls).before args s' = true := vx_ot_at hW0 hvm.symm (hgood _ List.mem_cons_self) hk
  have hini' : (Cond.initialized cls).before args s' = true := vx_ot_at hW0 hvm.symm (hgood _ (List.mem_cons_of_mem _ List.mem_cons_self)) hini
  have hU' : vx_Zq Bundle.tN "UNASSIGNED_STACK" Bundle.steD A s' s'.heap := by rw [hhp]; exact vx_Zq.moved hW0.alike (hU.kept hS.2.1)
  have hN' : vx_Zq Bundle.tN "SUPPRESSED_SENTINEL" Bundle.listD A s' s'.heap := by rw [hhp]; exact vx_Zq.moved hW0.alike (hN.kept hS.2.1)
  have h : ∀ w ∈ Bundle.ownAtoms own ic cls names, w.before args s' = true := vx_own hat' (vx_isRefq hU'.1) (vx_isRefq hN'.1) hU'.2.word hN'.2.word
  have hown' : s'.vm.findClass own = some m.cls := by rw [hvm]; exact hown
  have hins : (Cond.instantiable cls 6).before args s' = true := h _ (by simp [Bundle.ownAtoms])
  obtain ⟨vm₁, cX, kX, hfX, hkX, -, -, X₁, st1⟩ := Y.newCold hexec (own := own) (C := cls) (index := ik) (n := 6) hown' hk' hins hini'
    (g := F0 m pc ls rest) rfl (by rw [hb]; exact d0) (Nat.le_refl _) (Nat.le_refl _)
  generalize hT1 : (T.setVm vm₁).pushCell { cls := cX, slots := kX.instanceTypes.map defaultValue, vm := .none } = T1 at X₁ st1
  have hcat : (Value.ref T.heap.size).category = 1 := rfl
  have hcellA : T1.heap[T.heap.size]? = some (freshCell cX kX) := by rw [← hT1]; exact State.heap_pushCell_size _ _
  have d3' : decode c.code (pc + 3) = .ok (.dup, 1) := by rw [hb]; exact d3
  have d4' : decode c.code (pc + 4) = .ok (.ldc_w is, 3) := by rw [hb]; exact d4
  have hstr' : vk_R own is text sa s' := vk_R.warm hW0 hstr
  obtain ⟨U, hsteps, hrun, hend, hW, hsame, ce, hce, hO⟩ := X₁.ctorThrowS hexec htr (own := own) (cls := cls) (names := names) (ic := ic) hown' hcls hnames h (fun x hx => nomatch hx) hfX hkX hcellA (by rw [hhp, hT]; exact Nat.le_refl _) (msg := .ref sa) rfl
    (g := { method := m, pc := pc + 7, locals := ls, stack := .ref sa :: .ref T.heap.size :: .ref T.heap.size :: rest, locked := none }) rfl hsize rfl rfl (rest := rest) rfl
    (by rw [hb]; exact d7) (by rw [hb]; exact d10) hout hRframes (by simp only [List.map_cons, List.sum_cons, hcat]; omega) hlocks
  obtain ⟨f1, f2⟩ := vx_frame hsame
  rw [hhp] at f1 f2
  have hWs : s.WarmedH U.vm := State.WarmedH.trans hW0 hW
  have hcl : s.vm.findClass cls = some ce.cls := by
    have h9 := hO.cls
    rw [hvm] at h9
    exact h9
  have hall : s.sameButNew ({ U with vm := s.vm } : State) locs mc ms := by
    subst hA
    obtain ⟨e1, e2⟩ := hsame
    rw [State.setFrames_setFrames] at e1
    have h2 : (T.setVm s.vm).sameButNew ({ U with vm := s.vm } : State) [] (0 + 1) (0 + 6) := ⟨e1, e2⟩
    have h3 := X.same.trans h2
    rw [List.append_nil] at h3
    exact h3.mono hc hs
  refine ⟨U, ?_, .threw T.heap.size, hrun, hend, Or.inr ⟨T.heap.size, rfl, cls, ce, locs, hx U hWs.alike f1 (fun q hq => f2 q hq (fun z hz => nomatch hz)), hce, hO.vm, hcl, hWs, hall, hf⟩⟩
  refine st1 _ ?_
  show Steps p.tables e below (T1.setTop { method := m, pc := pc + 3, locals := ls, stack := .ref T.heap.size :: rest, locked := none }) _
  jvm_step X₁.here [X₁.here.top, hexec, d3', Value.category]
  exact X₁.ldcStringW hexec (own := own) (text := text) (index := is) (a := sa) hown' hstr'.1 hstr'.2
    (g := { method := m, pc := pc + 4, locals := ls, stack := .ref T.heap.size :: .ref T.heap.size :: rest, locked := none }) rfl d4' _ hsteps
end Ends
section Bodies
variable {l : Launch}
theorem vx_ofW {y : MethodName} {ws ws' : List Cond} {rm : Room} {Pc : Array Value → State → Prop} {Qc : Array Value → State → Outcome → State → Prop} {XC : String → State → State → Prop} {mc ms : Nat} {free : Addr → Prop} {cc : ByteArray} {maxL : Nat} {ret : Option FieldType}
    (hy : plainName y.cls = true) (hw : ws = Cond.code y cc maxL ret :: ws')
    (body : ∀ p e s m args below meth c s₁, BodyLoose p l y (headSpec ws rm) cc maxL ret e s m args below meth c s₁ → c.maxLocals = maxL → (∀ x ∈ c.exceptionTable.toList, False) → Pc args s →
      W p l e (headSpec ws rm).room s m args below meth c s.heap [] 0 0 (vx_MQ below Qc XC args s mc ms free) (entryFrame m args maxL)) : vx_Met l y ws rm Pc Qc XC mc ms free := by
  refine MetFree.of_bodyS (code := cc) (maxLocals := maxL) (ret := ret) hy ?_ ?_
  · intro args s m h hn
    obtain ⟨meth, c, h1, h2, h3, h4, h5, h6, -, -⟩ := Cond.code_spec hn (atoms_spec (ws := ws) h _ (by rw [hw]; exact List.mem_cons_self))
    exact ⟨meth, c, h1, h2, h3, h4, h5, h6⟩
  · intro p e s m args below meth c s₁ B hml hP _
    have hh0 : s₁.heap = s.heap := by rw [B.state]; rfl
    have ht : ∀ x ∈ c.exceptionTable.toList, False := by
      obtain ⟨meth9, c9, h1, h2, -, -, -, -, h7, -⟩ := Cond.code_spec B.named (atoms_spec (ws := ws) B.pre _ (by rw [hw]; exact List.mem_cons_self))
      cases Option.some.inj (h1.symm.trans B.method)
      cases Option.some.inj (h2.symm.trans (Stand.of_body B).code)
      intro x hx
      rw [Array.isEmpty_iff.mp h7] at hx
      cases hx
    obtain ⟨t, a1, o, b1, b2, b3⟩ := body p e s m args below meth c s₁ B hml ht hP s₁ hh0 (Stand.of_body B)
    exact ⟨t, o, a1, b1, b2, b3⟩
/-- the table of a body with handlers -/
theorem vx_table {p : Program} {x y : MethodName} {S : Spec} {cc bytes : ByteArray} {maxL maxL' : Nat} {ret ret' : Option FieldType} {e : Env} {s s₁ : State} {m : MethodId} {args : Array Value} {below : List Frame} {meth : Method} {c : Code} {hh : List (Nat × Nat × Nat × Nat)}
    (B : BodyLoose p l y S cc maxL ret e s m args below meth c s₁) (h : (Cond.codeWith y bytes maxL' ret' hh).before args s = true) : c.exceptionTable.toList = tableOf hh := by
  obtain ⟨m9, meth9, c9, hn9, h1, h2, -, -, h6, -⟩ := Cond.codeWith_spec h
  cases Option.some.inj (hn9.symm.trans B.named)
  cases Option.some.inj (h1.symm.trans B.method)
  cases Option.some.inj (h2.symm.trans (Stand.of_body B).code)
  rw [← h6, table_eq]
end Bodies
end VXA
/-! ===== END ===== -/
/-! ===== BEGIN a static call of a method with an exception table ===== -/
section VXS
variable {p : Program} {l : Launch} {e : Env} {R : Room} {s : State} {m : MethodId} {args : Array Value} {below : List Frame} {meth : Method} {c : Code} {T : State} {H : Heap} {locs : List Loc} {cells slots : Nat}
abbrev vx_CSW (R : Room) (s : State) (args : Array Value) (own : String) (index : Nat) (y : MethodName) (bytes : ByteArray) (maxL : Nat) (ret : Option FieldType) (hh : List (Nat × Nat × Nat × Nat)) (ws : List Cond) (rm : Room) (mc ms n : Nat) : Prop :=
  (rm.cells = mc ∧ rm.slots = ms ∧ rm.frames + 1 ≤ R.frames ∧ 8 + (maxL + 11) + rm.locals ≤ R.locals ∧ (∀ w ∈ ws, ∀ (a' : Array Value) (U : State), s.WarmedH U.vm → w.before a' U = true) ∧ Cond.codeWith y bytes maxL ret hh ∈ ws) ∧
  (Cond.codeWith y bytes maxL ret hh).before args s = true ∧ (Cond.initialized y.cls).before args s = true ∧ (y.cls ≠ "java/lang/invoke/MethodHandle" ∧ y.cls ≠ "java/lang/invoke/VarHandle") ∧
  (∀ sig, parseMethodDescriptor y.desc = some sig → n = sig.parameters.length) ∧ (Cond.methodLink own index y).before args s = true ∧ (Cond.static y).before args s = true
theorem vx_cwSW {own : String} {index maxL mc ms : Nat} {y : MethodName} {bytes : ByteArray} {ret : Option FieldType} {hh : List (Nat × Nat × Nat × Nat)} {Ts ws ws' : List Cond} {rm : Room} (n : Nat) (ht : ∀ w ∈ Ts, w.before args s = true) (hT : GoodIn Ts (va_wsS own index y ws)) (hw : ws = Cond.codeWith y bytes maxL ret hh :: ws') (hrc : rm.cells = mc) (hrs : rm.slots = ms)
    (hd : y.cls ≠ "java/lang/invoke/MethodHandle" ∧ y.cls ≠ "java/lang/invoke/VarHandle" ∧ (parseMethodDescriptor y.desc).map (fun d => d.parameters.length) = some n) (hR : rm.frames + 1 ≤ R.frames ∧ 8 + (maxL + 11) + rm.locals ≤ R.locals) :
    vx_CSW R s args own index y bytes maxL ret hh ws rm mc ms n := by
  have ok : ∀ w ∈ va_wsS own index y ws, w.before args s = true := fun w h => ht w (hT w h).1
  have hG : GoodIn Ts ws := fun w h => hT w (by unfold va_wsS; exact List.mem_append_right _ h)
  have hc : Cond.codeWith y bytes maxL ret hh ∈ ws := by rw [hw]; exact List.mem_cons_self
  refine ⟨⟨hrc, hrs, hR.1, hR.2, pay_in ht hG, hc⟩, ht _ (hG _ hc).1, ok _ (by simp [va_wsS]), ⟨hd.1, hd.2.1⟩, fun sig h => ?_, ok _ (by simp [va_wsS]), ok _ (by simp [va_wsS])⟩
  have h2 := hd.2.2
  rw [h] at h2
  exact (Option.some.inj h2).symm
theorem vx_callSW (X : Stand p l e R s m args below meth c T locs cells slots) (hexec : p.tables.exec = Jvm.exec) {own : String} {index : Nat} {y : MethodName} {bytes : ByteArray} {maxL : Nat} {ret : Option FieldType} {hh : List (Nat × Nat × Nat × Nat)}
    (hown : s.vm.findClass own = some m.cls) (hlink : (Cond.methodLink own index y).before args s = true) (hstat : (Cond.static y).before args s = true) (hinit : (Cond.initialized y.cls).before args s = true)
    (hcode : (Cond.codeWith y bytes maxL ret hh).before args s = true) (hy : y.cls ≠ "java/lang/invoke/MethodHandle" ∧ y.cls ≠ "java/lang/invoke/VarHandle")
    {W9 : Nat} {Pre : Pt → Array Value → Prop} {Post : Pt → Array Value → Option Value → Pt → Prop} (hK : Back l R p e below s args y 3 W9 Pre Post)
    {g : JFrame} (hg : g.method = m) (hsize : g.locals.size = c.maxLocals) {argsL rest : List Value} (hlen : ∀ sig, parseMethodDescriptor y.desc = some sig → argsL.length = sig.parameters.length)
    (hstack : g.stack = argsL.reverse ++ rest) (hW : 2 * g.monitorRoom + (rest.map fun v => v.category).sum ≤ W9) (hdg : decode c.code g.pc = .ok (.invokestatic index, 3))
    (hpre : ∀ vm₁, s.WarmedH vm₁ → Pre ⟨T.setVm vm₁, locs, cells, slots⟩ argsL.toArray) :
    ∃ (v : Option Value) (vm₁ : Vm) (B : Pt), s.WarmedH vm₁ ∧ Stand p l e R s m args below meth c B.U B.locs B.cells B.slots ∧ Post ⟨T.setVm vm₁, locs, cells, slots⟩ argsL.toArray v B ∧
      ∀ target, Steps p.tables e below (B.U.setTop { g with pc := g.pc + 3, stack := v.toList ++ rest }) target → Steps p.tables e below (T.setTop g) target := by
  obtain ⟨mk, methM, cM, hnamed, hmethM, -, -, -, -, -, -, hsigM⟩ := Cond.codeWith_spec hcode
  have hstatic : methM.isStatic = true := Cond.static_spec hnamed hmethM hstat
  obtain ⟨kP, hkP, -⟩ := className_of_methodNamed hnamed
  have hinitP : kP.init = .initialized := Cond.initialized_spec (findClass_of_methodNamed hnamed) hkP hinit
  obtain ⟨vm₁, X₁, hstep₁⟩ := X.invokestatic hexec hown hlink hnamed hmethM hstatic hkP hinitP hy (g := g) hg (argsL := argsL) (rest := rest) (hlen _ hsigM) hstack hdg
  obtain ⟨v, B, X', hpost, hsteps⟩ := hK m meth c ⟨T.setVm vm₁, locs, cells, slots⟩ { g with stack := rest } (.invokestatic index) mk argsL.toArray X₁ hg hsize hdg hW (X₁.named hnamed) (hpre vm₁ X₁.warmed)
  exact ⟨v, vm₁, B, X₁.warmed, X', hpost, fun target h => hstep₁ _ fun acts => by rw [doInvoke_state]; exact hsteps.trans h⟩
theorem vx_runSW {y : MethodName} {bytes cc : ByteArray} {maxL nL mc ms n index : Nat} {ret : Option FieldType} {hh : List (Nat × Nat × Nat × Nat)} {ws : List Cond} {rm : Room} {Pc : Array Value → State → Prop} {Qc : Array Value → State → Outcome → State → Prop} {free : Addr → Prop} {Ts : List Cond} {own : String} {As rest : List Value} {g : JFrame}
    (S : CallFix p m c cc nL s args Ts own) (hM : Met l y ws rm Pc Qc mc ms free) (cw : vx_CSW R s args own index y bytes maxL ret hh ws rm mc ms n) (hp : PreS s H Pc As)
    (hg : g.method = m) (hn : As.length = n) (hsize : g.locals.size = nL) (hstack : g.stack = As.reverse ++ rest) (hW : 2 * g.monitorRoom + (rest.map fun v => v.category).sum ≤ 8) (hdg : decode cc g.pc = .ok (.invokestatic index, 3)) (hf : cells + mc ≤ R.cells ∧ slots + ms ≤ R.slots) :
    va_Run p l e R s m args below meth c H locs cells slots mc ms g rest (Qc As.toArray) (free) := by
  obtain ⟨⟨hrc, hrs, hfr, hlo, hws, hcw⟩, hcode, hini, hy, hlen, hl, hstt⟩ := cw
  have hK : Back l R p e below s args y 3 8 (PreOf R mc ms Pc) (PostOf Qc mc ms free) := va_backW (hh := hh) (bytes := bytes) (maxL := maxL) (ret := ret) hM hp.1 hrc hrs hfr hlo hws hcw (fun a' U hW => word_at hW (Or.inl (by first | rfl | simp [Cond.onTables, Cond.keeps, Cond.steady])) hini)
  obtain ⟨hx, hb, hml, ho, -⟩ := S
  intro T hT X
  obtain ⟨v, vm₁, ⟨U', l2, c2, s2⟩, hW₁, X', ⟨g', mk, t, L, e1, e2, hq, h1, hL, h2, h3⟩, st⟩ := vx_callSW X hx (hh := hh) (bytes := bytes) (maxL := maxL) (ret := ret) ho hl hstt hini hcode hy hK hg (hsize.trans hml.symm) (argsL := As) (rest := rest) (fun sig h => hn.trans (hlen sig h)) hstack hW (by rw [hb]; exact hdg)
    (fun vm₁ hW₁ => ⟨hf.1, hf.2, hp.2 (T.setVm vm₁) hT hW₁⟩)
  dsimp only [Pt.U, Pt.locs, Pt.cells, Pt.slots] at X' e1 e2 h1 h2 h3 st
  subst h1; subst h2; subst h3
  exact ⟨v, (T.setVm vm₁).calling g' mk As.toArray, t, U', L, hT, X', hL, e1, e2, hq, st⟩
/-- not caught here, past rows that name other classes: it goes on to the caller -/
theorem vx_outP {p : Program} {l : Launch} {e : Env} {R : Room} {s : State} {m : MethodId} {args : Array Value} {below : List Frame} {meth : Method} {c : Code} {H : Heap} {locs : List Loc} {cells slots : Nat} {free : Addr → Prop} {ls : Array Slot} {rest : List Value} {Qc : Array Value → State → Outcome → State → Prop} {XC : String → State → State → Prop}
    {pc : Nat} {own E : String} {ce : Cell} {q : Addr} {mc ms : Nat} (hown : s.vm.findClass own = some m.cls) (hlocks : meth.locks = false)
    (hpass : ∀ z ∈ c.exceptionTable.toList, covers z pc = false ∨ (z.catchType ≠ 0 ∧ ∃ nm : String, (Cond.classLink own z.catchType nm).before args s = true ∧ va_Nc E nm s)) (hcell : H[q]? = some ce) (hv : ce.vm = .none) (hcl : s.vm.findClass E = some ce.cls)
    (hx : ∀ t : State, t.heap = H → s.vm.Alike t.vm → XC E s t) (hf : ∀ z ∈ locs, free z.base) (hc : cells ≤ mc) (hs : slots ≤ ms) :
    vx_W p l e R s m args below meth c H locs cells slots (vx_MQ below Qc XC args s mc ms free) (F0 m pc ls rest) q := by
  intro T hT X
  have hpl : e.platform.magicAccessors = ({} : Platform).magicAccessors := by rw [X.admits.platform]
  obtain ⟨vm', hW', X', st⟩ := X.outThrough hlocks q (g := F0 m pc ls rest) rfl rfl rfl (cell := ce) (by rw [hT]; exact hcell) (by rw [hv]; rfl)
    (by obtain ⟨k9, h9, -⟩ := Vm.findClass_spec hcl; exact ⟨k9, h9⟩) (fun z hz => by
      rcases hpass z hz with h | ⟨hz0, nm, hl1, hn1⟩
      · exact Or.inl h
      · obtain ⟨c6, hc6, hcl6⟩ := Cond.classLink_spec hown hl1 e.platform hpl
        obtain ⟨a8, b8, h1, h2, h3⟩ := hn1
        cases Option.some.inj (h1.symm.trans hcl)
        cases Option.some.inj (h2.symm.trans hc6)
        exact Or.inr ⟨hz0, _, hcl6, h3⟩)
  obtain ⟨g₀, hfr⟩ := X'.frames_eq
  have hcell9 : ((T.setVm vm').setFrames (.throwing q :: below)).heap[q]? = some ce := by
    show T.heap[q]? = some ce
    rw [hT]; exact hcell
  have hend : Ended ((T.setVm vm').setFrames (.throwing q :: below)) below (.threw q) := State.frames_setFrames _ (State.cur_lt_of_frames hfr)
  refine ⟨(T.setVm vm').setFrames (.throwing q :: below), ?_, .threw q, X'.here.running, hend, Or.inr ⟨q, rfl, E, ce, locs, hx _ hT (X'.ends _).1.alike, hcell9, hv, hcl, (X'.ends _).1, (X'.ends _).2.mono hc hs, hf⟩⟩
  rw [X.pushThrowing_eq]
  exact st
/-- a thing of a world lies in the heap -/
theorem vx_lt {D : va_G} {cl : List vw_C} {ws : va_W} {H1 : Heap} (h : va_P D cl ws H1) {k : Nat} {q : Nat × va_E} (hk : ws[k]? = some q) : q.1 < H1.size := (h k q hk).lt
end VXS
/-! ===== END ===== -/
/-! ===== BEGIN methods with a table of their own: called by a name, returning or throwing ===== -/
section VXH
/-! vx_backW, vx_callVX, vx_callSX, vx_callVW, vx_runVW, vx_runVX, vx_runSX, vx_ofWH follow the same proofs as their sisters above (Free/Laws.lean, Shelf42/LK1.lean); vx_outP calls Shelf42/NT130.lean (outThrough). -/
section
variable {l : Launch} {R : Room} {p : Program} {e : Env} {below : List Frame} {s : State} {sargs : Array Value} {y : MethodName} {len W9 : Nat}
theorem vx_backW {ws : List Cond} {rm : Room} {Pc : Array Value → State → Prop} {Qc : Array Value → State → Outcome → State → Prop} {XC : String → State → State → Prop} {mc ms : Nat} {free : Addr → Prop} {bytes : ByteArray} {maxL : Nat} {ret : Option FieldType} {hh : List (Nat × Nat × Nat × Nat)}
    (hM : vx_Met l y ws rm Pc Qc XC mc ms free) (hblind : FrameBlind Pc) (hrc : rm.cells = mc) (hrs : rm.slots = ms)
    (hframes : rm.frames + 1 ≤ R.frames) (hlocals : W9 + (maxL + 11) + rm.locals ≤ R.locals)
    (hws : ∀ w ∈ ws, ∀ a' U, s.WarmedH U.vm → w.before a' U = true) (hcode : Cond.codeWith y bytes maxL ret hh ∈ ws) (hinit : ∀ a' U, s.WarmedH U.vm → (Cond.initialized y.cls).before a' U = true) :
    vx_Back l R p e below s sargs y len W9 (PreOf R mc ms Pc) (PostOf Qc mc ms free) (vx_Post XC mc ms free) := by
  intro m meth c A g ig mk a X hg hsize hdg hW hn hp
  have h1 : (headSpec ws rm).pre.before a A.U = true := atoms_intro fun w hw => hws w hw _ _ X.warmed
  have h2 : (Cond.codeWith y bytes maxL ret hh).before a A.U = true := hws _ hcode _ _ X.warmed
  have h3 : (Cond.initialized y.cls).before a A.U = true := hinit _ _ X.warmed
  have h4 : A.cells + (headSpec ws rm).room.cells ≤ R.cells := by rw [show (headSpec ws rm).room.cells = mc from hrc]; exact hp.1
  have h5 : A.slots + (headSpec ws rm).room.slots ≤ R.slots := by rw [show (headSpec ws rm).room.slots = ms from hrs]; exact hp.2.1
  have hPc : Pc a (A.U.calling g mk a) := hblind _ _ _ _ hp.2.2
  obtain ⟨U, Ls, c0, s0⟩ := A
  dsimp only [Pt.U, Pt.locs, Pt.cells, Pt.slots] at h1 h2 h3 h4 h5 X hn hPc ⊢
  obtain ⟨m9, methY, cY, hn9, hmY, hcY, -, hlY, -⟩ := Cond.codeWith_spec h2
  cases Option.some.inj (hn9.symm.trans hn)
  obtain ⟨kY, hkY, -⟩ := className_of_methodNamed hn
  have hinitY : kY.init = .initialized := Cond.initialized_spec (findClass_of_methodNamed hn) hkY h3
  have h : At U g.method c below := by rw [hg]; exact X.here
  have hlocals9 : W9 + (maxL + 11) + (headSpec ws rm).room.locals ≤ R.locals := hlocals
  have happ : (headSpec ws rm).appliesLoose y e.platform (U.calling g mk a) = true :=
    Spec.appliesLoose_calling (g := g) h hdg hn hkY hinitY
      (X.room_calling (g := g) (R' := (headSpec ws rm).room) hsize hmY hcY hframes (by rw [hlY]; omega) h4 h5) h1
  obtain ⟨mid, hmid⟩ := h.above
  have hfr : (U.setTop g).frames = (.java g :: mid) ++ below := by rw [State.frames_setTop' g h.top, hmid]; rfl
  obtain ⟨o, s₂, hsteps, -, hend, hq⟩ := Steps.callFree hM p X.admits X.cas X.clock (acts := []) hfr happ hPc trivial
  have hq' : vx_Q Qc XC mc ms free a (U.calling g mk a) o s₂ := hq
  rw [State.frames_setTop' g h.top] at hend
  obtain ⟨g₀, hg0⟩ := Option.isSome_iff_exists.mp h.top
  obtain ⟨r, hr⟩ := State.topJava?_eq_some.mp hg0
  have hr' : (({ U with heap := s₂.heap, slotsUsed := s₂.slotsUsed } : State).setVm s₂.vm).frames = .java g₀ :: r := hr
  rcases hq' with ⟨hqc, L, hfe, hL⟩ | ⟨q, rfl, E, ce, L, hx, hce, hcv, hcl, hW₂, hsm, hL⟩
  · obtain ⟨⟨v, rfl⟩, hW₂, e2, q2, q3, q4, q5, q6⟩ := id hfe
    have e3 : s₂ = ({ (U.calling g mk a).setFrames s₂.frames with heap := s₂.heap, slotsUsed := s₂.slotsUsed } : State).setVm s₂.vm := by
      have : s₂ = ({ s₂ with vm := (U.calling g mk a).vm } : State).setVm s₂.vm := rfl
      rw [e2] at this
      exact this
    obtain ⟨c₂, i₂, len₂, hc₂, hd₂, hf₂⟩ := hend
    have hW' : U.WarmedH s₂.vm := hW₂
    have hcc : c₂ = c := by
      have h1 : s₂.code? g.method = U.code? g.method := by
        rw [State.code?_eq, State.code?_eq, hW'.alike.method?]
      exact Option.some.inj (hc₂.symm.trans (h1.trans h.code))
    subst hcc
    have hlen : len₂ = len := by rw [hdg] at hd₂; cases hd₂; rfl
    subst hlen
    have hs₂ : s₂ = (({ U with heap := s₂.heap, slotsUsed := s₂.slotsUsed } : State).setVm s₂.vm).setTop { g with pc := g.pc + len₂, stack := v.toList ++ g.stack } := by
      refine e3.trans ?_
      rw [hf₂, State.calling_eq h.top, State.setFrames_setFrames, State.setTop_of_frames _ hr', hr]
      rfl
    have hsame : U.sameButNew ({ U with heap := s₂.heap, slotsUsed := s₂.slotsUsed } : State) L mc ms := by
      refine ⟨?_, q2, q3, q4, q5, q6⟩
      obtain ⟨t, ht, -⟩ := State.frames_cons hr
      show ({ U with heap := s₂.heap, slotsUsed := s₂.slotsUsed } : State) = { U.setFrames U.frames with heap := s₂.heap, slotsUsed := s₂.slotsUsed }
      rw [State.setFrames_self ht]
    subst hg
    refine Or.inl ⟨v, ⟨(({ U with heap := s₂.heap, slotsUsed := s₂.slotsUsed } : State).setVm s₂.vm), Ls ++ L, c0 + mc, s0 + ms⟩,
      ⟨X.admits, X.cas, X.clock, X.frames, X.room, X.hears, X.method, X.code, (X.here.setHeapUsed s₂.heap s₂.slotsUsed).setVm hW'.alike, X.tail, State.WarmedH.trans X.warmed hW', X.limits, X.bytes, X.same.trans (hsame.setVm s.vm)⟩,
      ⟨g, mk, s₂, L, rfl, rfl, hqc, rfl, hL, rfl, rfl⟩, ?_⟩
    show Steps p.tables e below _ ((({ U with heap := s₂.heap, slotsUsed := s₂.slotsUsed } : State).setVm s₂.vm).setTop { g with pc := g.pc + len₂, stack := v.toList ++ g.stack })
    rw [← hs₂]
    exact hsteps
  · obtain ⟨e2, q2, q3, q4, q5, q6⟩ := id hsm
    have e3 : s₂ = ({ (U.calling g mk a).setFrames s₂.frames with heap := s₂.heap, slotsUsed := s₂.slotsUsed } : State).setVm s₂.vm := by
      have : s₂ = ({ s₂ with vm := (U.calling g mk a).vm } : State).setVm s₂.vm := rfl
      rw [e2] at this
      exact this
    have hf₂ : s₂.frames = .throwing q :: .java g :: U.frames.tail := hend
    have hW' : U.WarmedH s₂.vm := hW₂
    have hs₂ : s₂ = ((({ U with heap := s₂.heap, slotsUsed := s₂.slotsUsed } : State).setVm s₂.vm).setTop g).pushFrame (.throwing q) := by
      refine e3.trans ?_
      rw [hf₂, State.calling_eq h.top, State.setFrames_setFrames, State.pushFrame, State.frames_setTop _ hr', State.setTop_of_frames _ hr', State.setFrames_setFrames, hr]
      rfl
    have hsame : U.sameButNew ({ U with heap := s₂.heap, slotsUsed := s₂.slotsUsed } : State) L mc ms := by
      refine ⟨?_, q2, q3, q4, q5, q6⟩
      obtain ⟨t, ht, -⟩ := State.frames_cons hr
      show ({ U with heap := s₂.heap, slotsUsed := s₂.slotsUsed } : State) = { U.setFrames U.frames with heap := s₂.heap, slotsUsed := s₂.slotsUsed }
      rw [State.setFrames_self ht]
    subst hg
    refine Or.inr ⟨q, ⟨(({ U with heap := s₂.heap, slotsUsed := s₂.slotsUsed } : State).setVm s₂.vm), Ls ++ L, c0 + mc, s0 + ms⟩,
      ⟨X.admits, X.cas, X.clock, X.frames, X.room, X.hears, X.method, X.code, (X.here.setHeapUsed s₂.heap s₂.slotsUsed).setVm hW'.alike, X.tail, State.WarmedH.trans X.warmed hW', X.limits, X.bytes, X.same.trans (hsame.setVm s.vm)⟩,
      ⟨g, mk, s₂, L, E, ce, rfl, rfl, hx, hce, hcv, hcl, rfl, hL, rfl, rfl⟩, ?_⟩
    show Steps p.tables e below _ (((({ U with heap := s₂.heap, slotsUsed := s₂.slotsUsed } : State).setVm s₂.vm).setTop g).pushFrame (.throwing q))
    rw [← hs₂]
    exact hsteps
end
variable {p : Program} {l : Launch} {e : Env} {R : Room} {s : State} {m : MethodId} {args : Array Value} {below : List Frame} {meth : Method} {c : Code} {T : State} {H : Heap} {locs : List Loc} {cells slots : Nat}
theorem vx_callVX (X : Stand p l e R s m args below meth c T locs cells slots) (hexec : p.tables.exec = Jvm.exec) {own C : String} {index : Nat} {y : MethodName} {bytes : ByteArray} {maxL : Nat} {ret : Option FieldType} {hh : List (Nat × Nat × Nat × Nat)}
    (hown : s.vm.findClass own = some m.cls) (hlink : (Cond.methodLink own index y).before args s = true) (hinst : (Cond.instanceMethod y).before args s = true) (hsel : (Cond.selects C y y).before args s = true)
    (hcode : (Cond.codeWith y bytes maxL ret hh).before args s = true) (hy : y.cls ≠ "java/lang/invoke/MethodHandle" ∧ y.cls ≠ "java/lang/invoke/VarHandle")
    {W9 : Nat} {Pre : Pt → Array Value → Prop} {Post : Pt → Array Value → Option Value → Pt → Prop} {PostX : Pt → Array Value → Addr → Pt → Prop} (hK : vx_Back l R p e below s args y 3 W9 Pre Post PostX)
    {b : Addr} {cellB : Cell} (hcell : T.heap[b]? = some cellB) (hobj : cellB.vm.isStatics = false) (hcls : s.vm.findClass C = some cellB.cls)
    {g : JFrame} (hg : g.method = m) (hsize : g.locals.size = c.maxLocals) {argsL rest : List Value} (hlen : ∀ sig, parseMethodDescriptor y.desc = some sig → argsL.length = sig.parameters.length)
    (hstack : g.stack = argsL.reverse ++ .ref b :: rest) (hW : 2 * g.monitorRoom + (rest.map fun v => v.category).sum ≤ W9) (hdg : decode c.code g.pc = .ok (.invokevirtual index, 3))
    (hpre : ∀ vm₁, s.WarmedH vm₁ → Pre ⟨T.setVm vm₁, locs, cells, slots⟩ (Value.ref b :: argsL).toArray) :
    (∃ (v : Option Value) (vm₁ : Vm) (B : Pt), s.WarmedH vm₁ ∧ Stand p l e R s m args below meth c B.U B.locs B.cells B.slots ∧ Post ⟨T.setVm vm₁, locs, cells, slots⟩ (Value.ref b :: argsL).toArray v B ∧
      ∀ target, Steps p.tables e below (B.U.setTop { g with pc := g.pc + 3, stack := v.toList ++ rest }) target → Steps p.tables e below (T.setTop g) target) ∨
    (∃ (q : Addr) (vm₁ : Vm) (B : Pt), s.WarmedH vm₁ ∧ Stand p l e R s m args below meth c B.U B.locs B.cells B.slots ∧ PostX ⟨T.setVm vm₁, locs, cells, slots⟩ (Value.ref b :: argsL).toArray q B ∧
      Steps p.tables e below (T.setTop g) ((B.U.setTop { g with stack := rest }).pushFrame (.throwing q))) := by
  obtain ⟨mk, methM, hnamed, hmethM, hstM, habM⟩ := Cond.instanceMethod_spec hinst
  obtain ⟨m8, methM', cM, hn8, hmethM', -, -, -, -, -, -, hsigM⟩ := Cond.codeWith_spec hcode
  cases Option.some.inj (hn8.symm.trans hnamed)
  cases hmethM.symm.trans hmethM'
  obtain ⟨c2, r2, m2, q1, q2, q3, q4, kP, hkP, hkPi⟩ := Cond.selects_spec hsel
  cases hcls.symm.trans q1
  cases (State.methodFound?_of_named hnamed hy).symm.trans q2
  cases hnamed.symm.trans q3
  have hselP : selectMethod e.platform s.vm cellB.cls mk = .method mk := by rw [Launch.admits_selectMethod X.admits]; exact q4
  obtain ⟨vm₁, X₁, hstep₁⟩ := X.invokevirtual hexec hown hlink hnamed hmethM hstM hkP hkPi hy (a := b) (cell := cellB) hcell
    (fun z h => by rw [h] at hobj; cases hobj) hselP hmethM habM hkP hkPi (g := g) hg (argsL := argsL) (rest := rest) (hlen _ hsigM) hstack hdg
  rcases hK m meth c ⟨T.setVm vm₁, locs, cells, slots⟩ { g with stack := rest } (.invokevirtual index) mk (Value.ref b :: argsL).toArray X₁ hg hsize hdg hW (X₁.named hnamed) (hpre vm₁ X₁.warmed) with ⟨v, B, X', hpost, hsteps⟩ | ⟨q, B, X', hpost, hsteps⟩
  · exact Or.inl ⟨v, vm₁, B, X₁.warmed, X', hpost, fun target h => hstep₁ _ fun acts => by rw [doInvoke_state]; exact hsteps.trans h⟩
  · exact Or.inr ⟨q, vm₁, B, X₁.warmed, X', hpost, hstep₁ _ fun acts => by rw [doInvoke_state]; exact hsteps⟩
theorem vx_callSX (X : Stand p l e R s m args below meth c T locs cells slots) (hexec : p.tables.exec = Jvm.exec) {own : String} {index : Nat} {y : MethodName} {bytes : ByteArray} {maxL : Nat} {ret : Option FieldType} {hh : List (Nat × Nat × Nat × Nat)}
    (hown : s.vm.findClass own = some m.cls) (hlink : (Cond.methodLink own index y).before args s = true) (hstat : (Cond.static y).before args s = true) (hinit : (Cond.initialized y.cls).before args s = true)
    (hcode : (Cond.codeWith y bytes maxL ret hh).before args s = true) (hy : y.cls ≠ "java/lang/invoke/MethodHandle" ∧ y.cls ≠ "java/lang/invoke/VarHandle")
    {W9 : Nat} {Pre : Pt → Array Value → Prop} {Post : Pt → Array Value → Option Value → Pt → Prop} {PostX : Pt → Array Value → Addr → Pt → Prop} (hK : vx_Back l R p e below s args y 3 W9 Pre Post PostX)
    {g : JFrame} (hg : g.method = m) (hsize : g.locals.size = c.maxLocals) {argsL rest : List Value} (hlen : ∀ sig, parseMethodDescriptor y.desc = some sig → argsL.length = sig.parameters.length)
    (hstack : g.stack = argsL.reverse ++ rest) (hW : 2 * g.monitorRoom + (rest.map fun v => v.category).sum ≤ W9) (hdg : decode c.code g.pc = .ok (.invokestatic index, 3))
    (hpre : ∀ vm₁, s.WarmedH vm₁ → Pre ⟨T.setVm vm₁, locs, cells, slots⟩ argsL.toArray) :
    (∃ (v : Option Value) (vm₁ : Vm) (B : Pt), s.WarmedH vm₁ ∧ Stand p l e R s m args below meth c B.U B.locs B.cells B.slots ∧ Post ⟨T.setVm vm₁, locs, cells, slots⟩ argsL.toArray v B ∧
      ∀ target, Steps p.tables e below (B.U.setTop { g with pc := g.pc + 3, stack := v.toList ++ rest }) target → Steps p.tables e below (T.setTop g) target) ∨
    (∃ (q : Addr) (vm₁ : Vm) (B : Pt), s.WarmedH vm₁ ∧ Stand p l e R s m args below meth c B.U B.locs B.cells B.slots ∧ PostX ⟨T.setVm vm₁, locs, cells, slots⟩ argsL.toArray q B ∧
      Steps p.tables e below (T.setTop g) ((B.U.setTop { g with stack := rest }).pushFrame (.throwing q))) := by
  obtain ⟨mk, methM, cM, hnamed, hmethM, -, -, -, -, -, -, hsigM⟩ := Cond.codeWith_spec hcode
  have hstatic : methM.isStatic = true := Cond.static_spec hnamed hmethM hstat
  obtain ⟨kP, hkP, -⟩ := className_of_methodNamed hnamed
  have hinitP : kP.init = .initialized := Cond.initialized_spec (findClass_of_methodNamed hnamed) hkP hinit
  obtain ⟨vm₁, X₁, hstep₁⟩ := X.invokestatic hexec hown hlink hnamed hmethM hstatic hkP hinitP hy (g := g) hg (argsL := argsL) (rest := rest) (hlen _ hsigM) hstack hdg
  rcases hK m meth c ⟨T.setVm vm₁, locs, cells, slots⟩ { g with stack := rest } (.invokestatic index) mk argsL.toArray X₁ hg hsize hdg hW (X₁.named hnamed) (hpre vm₁ X₁.warmed) with ⟨v, B, X', hpost, hsteps⟩ | ⟨q, B, X', hpost, hsteps⟩
  · exact Or.inl ⟨v, vm₁, B, X₁.warmed, X', hpost, fun target h => hstep₁ _ fun acts => by rw [doInvoke_state]; exact hsteps.trans h⟩
  · exact Or.inr ⟨q, vm₁, B, X₁.warmed, X', hpost, hstep₁ _ fun acts => by rw [doInvoke_state]; exact hsteps⟩
theorem vx_callVW (X : Stand p l e R s m args below meth c T locs cells slots) (hexec : p.tables.exec = Jvm.exec) {own C : String} {index : Nat} {y : MethodName} {bytes : ByteArray} {maxL : Nat} {ret : Option FieldType} {hh : List (Nat × Nat × Nat × Nat)}
    (hown : s.vm.findClass own = some m.cls) (hlink : (Cond.methodLink own index y).before args s = true) (hinst : (Cond.instanceMethod y).before args s = true) (hsel : (Cond.selects C y y).before args s = true)
    (hcode : (Cond.codeWith y bytes maxL ret hh).before args s = true) (hy : y.cls ≠ "java/lang/invoke/MethodHandle" ∧ y.cls ≠ "java/lang/invoke/VarHandle")
    {W9 : Nat} {Pre : Pt → Array Value → Prop} {Post : Pt → Array Value → Option Value → Pt → Prop} (hK : Back l R p e below s args y 3 W9 Pre Post)
    {b : Addr} {cellB : Cell} (hcell : T.heap[b]? = some cellB) (hobj : cellB.vm.isStatics = false) (hcls : s.vm.findClass C = some cellB.cls)
    {g : JFrame} (hg : g.method = m) (hsize : g.locals.size = c.maxLocals) {argsL rest : List Value} (hlen : ∀ sig, parseMethodDescriptor y.desc = some sig → argsL.length = sig.parameters.length)
    (hstack : g.stack = argsL.reverse ++ .ref b :: rest) (hW : 2 * g.monitorRoom + (rest.map fun v => v.category).sum ≤ W9) (hdg : decode c.code g.pc = .ok (.invokevirtual index, 3))
    (hpre : ∀ vm₁, s.WarmedH vm₁ → Pre ⟨T.setVm vm₁, locs, cells, slots⟩ (Value.ref b :: argsL).toArray) :
    ∃ (v : Option Value) (vm₁ : Vm) (B : Pt), s.WarmedH vm₁ ∧ Stand p l e R s m args below meth c B.U B.locs B.cells B.slots ∧ Post ⟨T.setVm vm₁, locs, cells, slots⟩ (Value.ref b :: argsL).toArray v B ∧
      ∀ target, Steps p.tables e below (B.U.setTop { g with pc := g.pc + 3, stack := v.toList ++ rest }) target → Steps p.tables e below (T.setTop g) target := by
  obtain ⟨mk, methM, hnamed, hmethM, hstM, habM⟩ := Cond.instanceMethod_spec hinst
  obtain ⟨m8, methM', cM, hn8, hmethM', -, -, -, -, -, -, hsigM⟩ := Cond.codeWith_spec hcode
  cases Option.some.inj (hn8.symm.trans hnamed)
  cases hmethM.symm.trans hmethM'
  obtain ⟨c2, r2, m2, q1, q2, q3, q4, kP, hkP, hkPi⟩ := Cond.selects_spec hsel
  cases hcls.symm.trans q1
  cases (State.methodFound?_of_named hnamed hy).symm.trans q2
  cases hnamed.symm.trans q3
  have hselP : selectMethod e.platform s.vm cellB.cls mk = .method mk := by rw [Launch.admits_selectMethod X.admits]; exact q4
  obtain ⟨vm₁, X₁, hstep₁⟩ := X.invokevirtual hexec hown hlink hnamed hmethM hstM hkP hkPi hy (a := b) (cell := cellB) hcell
    (fun z h => by rw [h] at hobj; cases hobj) hselP hmethM habM hkP hkPi (g := g) hg (argsL := argsL) (rest := rest) (hlen _ hsigM) hstack hdg
  obtain ⟨v, B, X', hpost, hsteps⟩ := hK m meth c ⟨T.setVm vm₁, locs, cells, slots⟩ { g with stack := rest } (.invokevirtual index) mk (Value.ref b :: argsL).toArray X₁ hg hsize hdg hW (X₁.named hnamed) (hpre vm₁ X₁.warmed)
  exact ⟨v, vm₁, B, X₁.warmed, X', hpost, fun target h => hstep₁ _ fun acts => by rw [doInvoke_state]; exact hsteps.trans h⟩
abbrev vx_CVW (R : Room) (s : State) (args : Array Value) (own C : String) (index : Nat) (y : MethodName) (bytes : ByteArray) (maxL : Nat) (ret : Option FieldType) (hh : List (Nat × Nat × Nat × Nat)) (ws : List Cond) (rm : Room) (mc ms n : Nat) : Prop :=
  (rm.cells = mc ∧ rm.slots = ms ∧ rm.frames + 1 ≤ R.frames ∧ 8 + (maxL + 11) + rm.locals ≤ R.locals ∧ (∀ w ∈ ws, ∀ (a' : Array Value) (U : State), s.WarmedH U.vm → w.before a' U = true) ∧ Cond.codeWith y bytes maxL ret hh ∈ ws) ∧
  (Cond.codeWith y bytes maxL ret hh).before args s = true ∧ (Cond.initialized y.cls).before args s = true ∧ (y.cls ≠ "java/lang/invoke/MethodHandle" ∧ y.cls ≠ "java/lang/invoke/VarHandle") ∧
  (∀ sig, parseMethodDescriptor y.desc = some sig → n = sig.parameters.length) ∧ (Cond.methodLink own index y).before args s = true ∧ (Cond.instanceMethod y).before args s = true ∧ (Cond.selects C y y).before args s = true
theorem vx_cwVW {own C : String} {index maxL mc ms : Nat} {y : MethodName} {bytes : ByteArray} {ret : Option FieldType} {hh : List (Nat × Nat × Nat × Nat)} {Ts ws ws' : List Cond} {rm : Room} (n : Nat) (ht : ∀ w ∈ Ts, w.before args s = true) (hT : GoodIn Ts (wsV own index C y ws)) (hw : ws = Cond.codeWith y bytes maxL ret hh :: ws') (hrc : rm.cells = mc) (hrs : rm.slots = ms)
    (hd : y.cls = C ∧ y.cls ≠ "java/lang/invoke/MethodHandle" ∧ y.cls ≠ "java/lang/invoke/VarHandle" ∧ (parseMethodDescriptor y.desc).map (fun d => d.parameters.length) = some n) (hR : rm.frames + 1 ≤ R.frames ∧ 8 + (maxL + 11) + rm.locals ≤ R.locals) :
    vx_CVW R s args own C index y bytes maxL ret hh ws rm mc ms n := by
  obtain ⟨hC, hd⟩ := hd
  subst hC
  have ok : ∀ w ∈ wsV own index y.cls y ws, w.before args s = true := fun w h => ht w (hT w h).1
  have hG : GoodIn Ts ws := fun w h => hT w (by unfold wsV; exact List.mem_append_right _ h)
  have hc : Cond.codeWith y bytes maxL ret hh ∈ ws := by rw [hw]; exact List.mem_cons_self
  refine ⟨⟨hrc, hrs, hR.1, hR.2, pay_in ht hG, hc⟩, ht _ (hG _ hc).1, ok _ (by simp [wsV]), ⟨hd.1, hd.2.1⟩, fun sig h => ?_, ok _ (by simp [wsV]), ok _ (by simp [wsV]), ok _ (by simp [wsV])⟩
  have h2 := hd.2.2
  rw [h] at h2
  exact (Option.some.inj h2).symm
theorem vx_runVW {y : MethodName} {bytes cc : ByteArray} {maxL nL mc ms n index : Nat} {ret : Option FieldType} {hh : List (Nat × Nat × Nat × Nat)} {ws : List Cond} {rm : Room} {Pc : Array Value → State → Prop} {Qc : Array Value → State → Outcome → State → Prop} {free : Addr → Prop} {Ts : List Cond} {own C : String} {b : Addr} {As rest : List Value} {g : JFrame}
    (S : CallFix p m c cc nL s args Ts own) (hM : Met l y ws rm Pc Qc mc ms free) (cw : vx_CVW R s args own C index y bytes maxL ret hh ws rm mc ms n) (hp : PreV s H C b Pc As)
    (hg : g.method = m) (hn : As.length = n) (hsize : g.locals.size = nL) (hstack : g.stack = As.reverse ++ .ref b :: rest) (hW : 2 * g.monitorRoom + (rest.map fun v => v.category).sum ≤ 8) (hdg : decode cc g.pc = .ok (.invokevirtual index, 3)) (hf : cells + mc ≤ R.cells ∧ slots + ms ≤ R.slots) :
    va_Run p l e R s m args below meth c H locs cells slots mc ms g rest (Qc (Value.ref b :: As).toArray) free := by
  obtain ⟨⟨hrc, hrs, hfr, hlo, hws, hcw⟩, hcode, hini, hy, hlen, hl, hin, hse⟩ := cw
  have hK : Back l R p e below s args y 3 8 (PreOf R mc ms Pc) (PostOf Qc mc ms free) := va_backW (hh := hh) (bytes := bytes) (maxL := maxL) (ret := ret) hM hp.1 hrc hrs hfr hlo hws hcw (fun a' U hW => word_at hW (Or.inl (by first | rfl | simp [Cond.onTables, Cond.keeps, Cond.steady])) hini)
  obtain ⟨hx, hb, hml, ho, -⟩ := S
  obtain ⟨-, ⟨cellB, hcB, hoB, hclB⟩, hPc⟩ := hp
  intro T hT X
  obtain ⟨v, vm₁, ⟨U', l2, c2, s2⟩, hW₁, X', ⟨g', mk, t, L, e1, e2, hq, h1, hL, h2, h3⟩, st⟩ := vx_callVW X hx (C := C) (hh := hh) (bytes := bytes) (maxL := maxL) (ret := ret) ho hl hin hse hcode hy hK (by rw [hT]; exact hcB) hoB hclB hg (hsize.trans hml.symm) (argsL := As) (rest := rest) (fun sig h => hn.trans (hlen sig h)) hstack hW (by rw [hb]; exact hdg)
    (fun vm₁ hW₁ => ⟨hf.1, hf.2, hPc (T.setVm vm₁) hT hW₁⟩)
  dsimp only [Pt.U, Pt.locs, Pt.cells, Pt.slots] at X' e1 e2 h1 h2 h3 st
  subst h1; subst h2; subst h3
  exact ⟨v, (T.setVm vm₁).calling g' mk (Value.ref b :: As).toArray, t, U', L, hT, X', hL, e1, e2, hq, st⟩
section
variable {y : MethodName} {bytes cc : ByteArray} {maxL nL mc ms n index : Nat} {ret : Option FieldType} {ws : List Cond} {rm : Room} {Pc : Array Value → State → Prop} {Qc : Array Value → State → Outcome → State → Prop} {XC : String → State → State → Prop} {free : Addr → Prop} {Ts : List Cond} {own C : String} {b : Addr} {As rest : List Value} {g : JFrame}
theorem vx_runVX {hh : List (Nat × Nat × Nat × Nat)} (S : CallFix p m c cc nL s args Ts own) (hM : vx_Met l y ws rm Pc Qc XC mc ms free) (cw : vx_CVW R s args own C index y bytes maxL ret hh ws rm mc ms n) (hp : PreV s H C b Pc As)
    (hg : g.method = m) (hn : As.length = n) (hsize : g.locals.size = nL) (hstack : g.stack = As.reverse ++ .ref b :: rest) (hW : 2 * g.monitorRoom + (rest.map fun v => v.category).sum ≤ 8) (hdg : decode cc g.pc = .ok (.invokevirtual index, 3)) (hf : cells + mc ≤ R.cells ∧ slots + ms ≤ R.slots) :
    vx_Run p l e R s m args below meth c H locs cells slots mc ms g rest (Qc (Value.ref b :: As).toArray) XC free := by
  obtain ⟨⟨hrc, hrs, hfr, hlo, hws, hcw⟩, hcode, hini, hy, hlen, hl, hin, hse⟩ := cw
  have hK : vx_Back l R p e below s args y 3 8 (PreOf R mc ms Pc) (PostOf Qc mc ms free) (vx_Post XC mc ms free) := vx_backW (hh := hh) (bytes := bytes) (maxL := maxL) (ret := ret) hM hp.1 hrc hrs hfr hlo hws hcw (fun a' U hW => word_at hW (Or.inl (by first | rfl | simp [Cond.onTables, Cond.keeps, Cond.steady])) hini)
  obtain ⟨hx, hb, hml, ho, -⟩ := S
  obtain ⟨-, ⟨cellB, hcB, hoB, hclB⟩, hPc⟩ := hp
  intro T hT X
  rcases vx_callVX X hx (C := C) (hh := hh) (bytes := bytes) (maxL := maxL) (ret := ret) ho hl hin hse hcode hy hK (by rw [hT]; exact hcB) hoB hclB hg (hsize.trans hml.symm) (argsL := As) (rest := rest) (fun sig h => hn.trans (hlen sig h)) hstack hW (by rw [hb]; exact hdg)
    (fun vm₁ hW₁ => ⟨hf.1, hf.2, hPc (T.setVm vm₁) hT hW₁⟩) with ⟨v, vm₁, ⟨U', l2, c2, s2⟩, hW₁, X', ⟨g', mk, t, L, e1, e2, hq, h1, hL, h2, h3⟩, st⟩ | ⟨q, vm₁, ⟨U', l2, c2, s2⟩, hW₁, X', ⟨g', mk, t, L, E, ce, e1, e2, hq, hce, hcv, hcl, h1, hL, h2, h3⟩, st⟩
  · dsimp only [Pt.U, Pt.locs, Pt.cells, Pt.slots] at X' e1 e2 h1 h2 h3 st
    subst h1; subst h2; subst h3
    exact Or.inl ⟨v, (T.setVm vm₁).calling g' mk (Value.ref b :: As).toArray, t, U', L, hT, X', hL, e1, e2, hq, st⟩
  · dsimp only [Pt.U, Pt.locs, Pt.cells, Pt.slots] at X' e1 e2 h1 h2 h3 st hcl
    subst h1; subst h2; subst h3
    exact Or.inr ⟨q, (T.setVm vm₁).calling g' mk (Value.ref b :: As).toArray, t, U', L, E, ce, hT, X', hL, e1, e2, hq, hce, hcv, vx_cls hW₁ hcl, st⟩
theorem vx_runSX {hh : List (Nat × Nat × Nat × Nat)} (S : CallFix p m c cc nL s args Ts own) (hM : vx_Met l y ws rm Pc Qc XC mc ms free) (cw : vx_CSW R s args own index y bytes maxL ret hh ws rm mc ms n) (hp : PreS s H Pc As)
    (hg : g.method = m) (hn : As.length = n) (hsize : g.locals.size = nL) (hstack : g.stack = As.reverse ++ rest) (hW : 2 * g.monitorRoom + (rest.map fun v => v.category).sum ≤ 8) (hdg : decode cc g.pc = .ok (.invokestatic index, 3)) (hf : cells + mc ≤ R.cells ∧ slots + ms ≤ R.slots) :
    vx_Run p l e R s m args below meth c H locs cells slots mc ms g rest (Qc As.toArray) XC free := by
  obtain ⟨⟨hrc, hrs, hfr, hlo, hws, hcw⟩, hcode, hini, hy, hlen, hl, hstt⟩ := cw
  have hK : vx_Back l R p e below s args y 3 8 (PreOf R mc ms Pc) (PostOf Qc mc ms free) (vx_Post XC mc ms free) := vx_backW (hh := hh) (bytes := bytes) (maxL := maxL) (ret := ret) hM hp.1 hrc hrs hfr hlo hws hcw (fun a' U hW => word_at hW (Or.inl (by first | rfl | simp [Cond.onTables, Cond.keeps, Cond.steady])) hini)
  obtain ⟨hx, hb, hml, ho, -⟩ := S
  intro T hT X
  rcases vx_callSX X hx (hh := hh) (bytes := bytes) (maxL := maxL) (ret := ret) ho hl hstt hini hcode hy hK hg (hsize.trans hml.symm) (argsL := As) (rest := rest) (fun sig h => hn.trans (hlen sig h)) hstack hW (by rw [hb]; exact hdg)
    (fun vm₁ hW₁ => ⟨hf.1, hf.2, hp.2 (T.setVm vm₁) hT hW₁⟩) with ⟨v, vm₁, ⟨U', l2, c2, s2⟩, hW₁, X', ⟨g', mk, t, L, e1, e2, hq, h1, hL, h2, h3⟩, st⟩ | ⟨q, vm₁, ⟨U', l2, c2, s2⟩, hW₁, X', ⟨g', mk, t, L, E, ce, e1, e2, hq, hce, hcv, hcl, h1, hL, h2, h3⟩, st⟩
  · dsimp only [Pt.U, Pt.locs, Pt.cells, Pt.slots] at X' e1 e2 h1 h2 h3 st
    subst h1; subst h2; subst h3
    exact Or.inl ⟨v, (T.setVm vm₁).calling g' mk As.toArray, t, U', L, hT, X', hL, e1, e2, hq, st⟩
  · dsimp only [Pt.U, Pt.locs, Pt.cells, Pt.slots] at X' e1 e2 h1 h2 h3 st hcl
    subst h1; subst h2; subst h3
    exact Or.inr ⟨q, (T.setVm vm₁).calling g' mk As.toArray, t, U', L, E, ce, hT, X', hL, e1, e2, hq, hce, hcv, vx_cls hW₁ hcl, st⟩
end
end VXH
theorem vx_ofWH {l : Launch} {y : MethodName} {ws ws' : List Cond} {rm : Room} {Pc : Array Value → State → Prop} {Qc : Array Value → State → Outcome → State → Prop} {XC : String → State → State → Prop} {mc ms : Nat} {free : Addr → Prop} {cc : ByteArray} {maxL : Nat} {ret : Option FieldType} {hh : List (Nat × Nat × Nat × Nat)}
    (hy : plainName y.cls = true) (hw : ws = Cond.codeWith y cc maxL ret hh :: ws')
    (body : ∀ p e s m args below meth c s₁, BodyLoose p l y (headSpec ws rm) cc maxL ret e s m args below meth c s₁ → c.maxLocals = maxL → Pc args s →
      W p l e (headSpec ws rm).room s m args below meth c s.heap [] 0 0 (vx_MQ below Qc XC args s mc ms free) (entryFrame m args maxL)) : vx_Met l y ws rm Pc Qc XC mc ms free := by
  refine MetFree.of_bodyS (code := cc) (maxLocals := maxL) (ret := ret) hy ?_ ?_
  · intro args s m h hn
    obtain ⟨m9, meth, c, hn9, h1, h2, h3, h4, -, h5, h6, -⟩ := Cond.codeWith_spec (atoms_spec (ws := ws) h _ (by rw [hw]; exact List.mem_cons_self))
    cases hn.symm.trans hn9
    exact ⟨meth, c, h1, h2, h3, h4, h5, h6⟩
  · intro p e s m args below meth c s₁ B hml hP _
    have hh0 : s₁.heap = s.heap := by rw [B.state]; rfl
    obtain ⟨t, a1, o, b1, b2, b3⟩ := body p e s m args below meth c s₁ B hml hP s₁ hh0 (Stand.of_body B)
    exact ⟨t, o, a1, b1, b2, b3⟩
/-! ===== END ===== -/
end
section
def RX0 : String := "VolumeShepherd$Desk"
def TX0 : u_T := fun k => match k with
  | 0 => ("VolumeShepherd$Desk", "tenants", "I", false)
  | 1 => ("VolumeShepherd$Desk", "promise", "[I", true)
  | 2 => ("VolumeShepherd$Desk", "asked", "[I", true)
  | 3 => ("VolumeShepherd$Desk", "served", "[I", true)
  | 4 => ("VolumeShepherd$Desk", "due", "[I", true)
  | 5 => ("VolumeShepherd$Desk", "credits", "[I", true)
  | 6 => ("VolumeShepherd$Desk", "breaches", "[I", true)
  | 7 => ("VolumeShepherd$Desk", "queue", "[I", true)
  | 8 => ("VolumeShepherd$Desk", "requests", "I", false)
  | 9 => ("VolumeShepherd$Desk", "waiting", "I", false)
  | 10 => ("VolumeShepherd$Desk", "block", "[I", true)
  | 11 => ("VolumeShepherd$Desk", "isWrite", "[Z", true)
  | 12 => ("VolumeShepherd$Desk", "value", "[I", true)
  | _ => ("VolumeShepherd$Desk", "state", "[C", true)
def tyX0 : Nat → FieldType := fun k => match k with
  | 0 => .int
  | 1 => .array .int
  | 2 => .array .int
  | 3 => .array .int
  | 4 => .array .int
  | 5 => .array .int
  | 6 => .array .int
  | 7 => .array .int
  | 8 => .int
  | 9 => .int
  | 10 => .array .int
  | 11 => .array .boolean
  | 12 => .array .int
  | _ => .array .char
theorem nmX0 : ∀ a, a < 14 → ∀ b, b < 14 → a ≠ b → (TX0 a).2.1 ≠ (TX0 b).2.1 := by decide +kernel
theorem tyX0_ok : ∀ k, k < 14 → parseFieldDescriptor (TX0 k).2.2.1 = some (tyX0 k) := by decide +kernel
abbrev cX0_init : ByteArray := prog_2_method_1_code
def yX0_init : MethodName := ⟨RX0, "<init>", "()V"⟩
abbrev cX0_admitTenant : ByteArray := prog_2_method_2_code
def yX0_admitTenant : MethodName := ⟨RX0, "admitTenant", "(I)I"⟩
abbrev cX0_enqueue : ByteArray := prog_2_method_3_code
def yX0_enqueue : MethodName := ⟨RX0, "enqueue", "(IIZI)I"⟩
abbrev cX0_countWaiting : ByteArray := prog_2_method_4_code
def yX0_countWaiting : MethodName := ⟨RX0, "countWaiting", "(I)I"⟩
abbrev cX0_oldestWaiting : ByteArray := prog_2_method_5_code
def yX0_oldestWaiting : MethodName := ⟨RX0, "oldestWaiting", "(I)I"⟩
abbrev cX0_markServed : ByteArray := prog_2_method_6_code
def yX0_markServed : MethodName := ⟨RX0, "markServed", "(IIZ)V"⟩
abbrev cX0_beginTick : ByteArray := prog_2_method_7_code
def yX0_beginTick : MethodName := ⟨RX0, "beginTick", "()V"⟩
abbrev cX0_giveCredits : ByteArray := prog_2_method_8_code
def yX0_giveCredits : MethodName := ⟨RX0, "giveCredits", "()V"⟩
def RX1 : String := "VolumeShepherd$Store"
def TX1 : u_T := fun k => match k with
  | 0 => ("VolumeShepherd$Store", "disks", "I", false)
  | 1 => ("VolumeShepherd$Store", "size", "[I", true)
  | 2 => ("VolumeShepherd$Store", "used", "[I", true)
  | 3 => ("VolumeShepherd$Store", "state", "[C", true)
  | 4 => ("VolumeShepherd$Store", "holder", "[I", true)
  | 5 => ("VolumeShepherd$Store", "rotten", "[Z", true)
  | 6 => ("VolumeShepherd$Store", "wanted", "[I", true)
  | 7 => ("VolumeShepherd$Store", "value", "[I", true)
  | 8 => ("VolumeShepherd$Store", "copies", "[I", true)
  | 9 => ("VolumeShepherd$Store", "addresses", "[I", true)
  | 10 => ("VolumeShepherd$Store", "written", "I", false)
  | 11 => ("VolumeShepherd$Store", "order", "[I", true)
  | _ => ("VolumeShepherd$Store", "goodDisks", "[I", true)
def tyX1 : Nat → FieldType := fun k => match k with
  | 0 => .int
  | 1 => .array .int
  | 2 => .array .int
  | 3 => .array .char
  | 4 => .array .int
  | 5 => .array .boolean
  | 6 => .array .int
  | 7 => .array .int
  | 8 => .array .int
  | 9 => .array .int
  | 10 => .int
  | 11 => .array .int
  | _ => .array .int
theorem nmX1 : ∀ a, a < 13 → ∀ b, b < 13 → a ≠ b → (TX1 a).2.1 ≠ (TX1 b).2.1 := by decide +kernel
theorem tyX1_ok : ∀ k, k < 13 → parseFieldDescriptor (TX1 k).2.2.1 = some (tyX1 k) := by decide +kernel
abbrev cX1_init : ByteArray := prog_3_method_1_code
def yX1_init : MethodName := ⟨RX1, "<init>", "()V"⟩
abbrev cX1_copyFrom : ByteArray := prog_3_method_2_code
def yX1_copyFrom : MethodName := ⟨RX1, "copyFrom", "(LVolumeShepherd$Store;)V"⟩
abbrev cX1_installDisk : ByteArray := prog_3_method_3_code
def yX1_installDisk : MethodName := ⟨RX1, "installDisk", "(I)I"⟩
abbrev cX1_disksInState : ByteArray := prog_3_method_4_code
def yX1_disksInState : MethodName := ⟨RX1, "disksInState", "(C)I"⟩
abbrev cX1_wantedOf : ByteArray := prog_3_method_5_code
def yX1_wantedOf : MethodName := ⟨RX1, "wantedOf", "(I)I"⟩
abbrev cX1_addressOf : ByteArray := prog_3_method_6_code
def yX1_addressOf : MethodName := ⟨RX1, "addressOf", "(II)I"⟩
abbrev cX1_disksWithCopy : ByteArray := prog_3_method_7_code
def yX1_disksWithCopy : MethodName := ⟨RX1, "disksWithCopy", "(I)I"⟩
abbrev cX1_disksWithGoodCopy : ByteArray := prog_3_method_8_code
def yX1_disksWithGoodCopy : MethodName := ⟨RX1, "disksWithGoodCopy", "(I)I"⟩
abbrev cX1_hasLost : ByteArray := prog_3_method_9_code
def yX1_hasLost : MethodName := ⟨RX1, "hasLost", "(I)Z"⟩
abbrev cX1_countWritten : ByteArray := prog_3_method_10_code
def yX1_countWritten : MethodName := ⟨RX1, "countWritten", "(I)I"⟩
abbrev cX1_countLost : ByteArray := prog_3_method_11_code
def yX1_countLost : MethodName := ⟨RX1, "countLost", "()I"⟩
abbrev cX1_countDegraded : ByteArray := prog_3_method_12_code
def yX1_countDegraded : MethodName := ⟨RX1, "countDegraded", "()I"⟩
abbrev cX1_countInSlots : ByteArray := prog_3_method_13_code
def yX1_countInSlots : MethodName := ⟨RX1, "countInSlots", "(I)I"⟩
abbrev cX1_freeOn : ByteArray := prog_3_method_14_code
def yX1_freeOn : MethodName := ⟨RX1, "freeOn", "(I)I"⟩
abbrev cX1_findPlace : ByteArray := prog_3_method_15_code
def yX1_findPlace : MethodName := ⟨RX1, "findPlace", "(I)I"⟩
abbrev cX1_firstFreeOn : ByteArray := prog_3_method_16_code
def yX1_firstFreeOn : MethodName := ⟨RX1, "firstFreeOn", "(I)I"⟩
abbrev cX1_addCopy : ByteArray := prog_3_method_17_code
def yX1_addCopy : MethodName := ⟨RX1, "addCopy", "(II)V"⟩
abbrev cX1_removeCopy : ByteArray := prog_3_method_18_code
def yX1_removeCopy : MethodName := ⟨RX1, "removeCopy", "(II)V"⟩
abbrev cX1_putValue : ByteArray := prog_3_method_19_code
def yX1_putValue : MethodName := ⟨RX1, "putValue", "(II)Z"⟩
abbrev cX1_renewCopies : ByteArray := prog_3_method_20_code
def yX1_renewCopies : MethodName := ⟨RX1, "renewCopies", "(I)V"⟩
abbrev cX1_countPlacesAnew : ByteArray := prog_3_method_21_code
def yX1_countPlacesAnew : MethodName := ⟨RX1, "countPlacesAnew", "(I)I"⟩
abbrev cX1_removeCopies : ByteArray := prog_3_method_22_code
def yX1_removeCopies : MethodName := ⟨RX1, "removeCopies", "(I)V"⟩
abbrev cX1_rebuild : ByteArray := prog_3_method_23_code
def yX1_rebuild : MethodName := ⟨RX1, "rebuild", "(I)I"⟩
abbrev cX1_completeBlock : ByteArray := prog_3_method_24_code
def yX1_completeBlock : MethodName := ⟨RX1, "completeBlock", "(II)I"⟩
abbrev cX1_emptyWarnedDisks : ByteArray := prog_3_method_25_code
def yX1_emptyWarnedDisks : MethodName := ⟨RX1, "emptyWarnedDisks", "(II)I"⟩
abbrev cX1_breakDisk : ByteArray := prog_3_method_26_code
def yX1_breakDisk : MethodName := ⟨RX1, "breakDisk", "(I)I"⟩
abbrev cX1_removeCopyAt : ByteArray := prog_3_method_27_code
def yX1_removeCopyAt : MethodName := ⟨RX1, "removeCopyAt", "(I)V"⟩
abbrev cX1_healDisk : ByteArray := prog_3_method_28_code
def yX1_healDisk : MethodName := ⟨RX1, "healDisk", "(I)I"⟩
abbrev cX1_countRotten : ByteArray := prog_3_method_29_code
def yX1_countRotten : MethodName := ⟨RX1, "countRotten", "(I)I"⟩
abbrev cX1_bearsByCounting : ByteArray := prog_3_method_30_code
def yX1_bearsByCounting : MethodName := ⟨RX1, "bearsByCounting", "(I)Z"⟩
abbrev cX1_bearsByTrying : ByteArray := prog_3_method_31_code
def yX1_bearsByTrying : MethodName := ⟨RX1, "bearsByTrying", "(I)Z"⟩
abbrev cX1_doesLose : ByteArray := prog_3_method_32_code
def yX1_doesLose : MethodName := ⟨RX1, "doesLose", "(I)Z"⟩
abbrev cX1_countCopies : ByteArray := prog_3_method_33_code
def yX1_countCopies : MethodName := ⟨RX1, "countCopies", "()I"⟩
abbrev cX1_countSlots : ByteArray := prog_3_method_34_code
def yX1_countSlots : MethodName := ⟨RX1, "countSlots", "()I"⟩
abbrev cX1_agreesWithDisks : ByteArray := prog_3_method_35_code
def yX1_agreesWithDisks : MethodName := ⟨RX1, "agreesWithDisks", "()Z"⟩
def RX2 : String := "VolumeShepherd"
def TX2 : u_T := fun k => match k with
  | 0 => ("VolumeShepherd", "store", "LVolumeShepherd$Store;", true)
  | 1 => ("VolumeShepherd", "trial", "LVolumeShepherd$Store;", true)
  | 2 => ("VolumeShepherd", "desk", "LVolumeShepherd$Desk;", true)
  | 3 => ("VolumeShepherd", "line", "Ljava/lang/StringBuilder;", true)
  | 4 => ("VolumeShepherd", "hurry", "I", false)
  | 5 => ("VolumeShepherd", "now", "I", false)
  | _ => ("VolumeShepherd", "rebuiltCopies", "I", false)
def tyX2 : Nat → FieldType := fun k => match k with
  | 0 => .object "VolumeShepherd$Store"
  | 1 => .object "VolumeShepherd$Store"
  | 2 => .object "VolumeShepherd$Desk"
  | 3 => .object "java/lang/StringBuilder"
  | 4 => .int
  | 5 => .int
  | _ => .int
theorem nmX2 : ∀ a, a < 7 → ∀ b, b < 7 → a ≠ b → (TX2 a).2.1 ≠ (TX2 b).2.1 := by decide +kernel
theorem tyX2_ok : ∀ k, k < 7 → parseFieldDescriptor (TX2 k).2.2.1 = some (tyX2 k) := by decide +kernel
abbrev cX2_init : ByteArray := prog_1_method_1_code
def yX2_init : MethodName := ⟨RX2, "<init>", "()V"⟩
abbrev cX2_addDisk : ByteArray := prog_1_method_2_code
def yX2_addDisk : MethodName := ⟨RX2, "addDisk", "(I)I"⟩
abbrev cX2_diskCount : ByteArray := prog_1_method_3_code
def yX2_diskCount : MethodName := ⟨RX2, "diskCount", "()I"⟩
abbrev cX2_diskState : ByteArray := prog_1_method_4_code
def yX2_diskState : MethodName := ⟨RX2, "diskState", "(I)C"⟩
abbrev cX2_usedOn : ByteArray := prog_1_method_5_code
def yX2_usedOn : MethodName := ⟨RX2, "usedOn", "(I)I"⟩
abbrev cX2_addTenant : ByteArray := prog_1_method_6_code
def yX2_addTenant : MethodName := ⟨RX2, "addTenant", "(II)I"⟩
abbrev cX2_tenantCount : ByteArray := prog_1_method_7_code
def yX2_tenantCount : MethodName := ⟨RX2, "tenantCount", "()I"⟩
abbrev cX2_setHurry : ByteArray := prog_1_method_8_code
def yX2_setHurry : MethodName := ⟨RX2, "setHurry", "(I)I"⟩
abbrev cX2_read : ByteArray := prog_1_method_9_code
def yX2_read : MethodName := ⟨RX2, "read", "(II)I"⟩
abbrev cX2_write : ByteArray := prog_1_method_10_code
def yX2_write : MethodName := ⟨RX2, "write", "(III)I"⟩
abbrev cX2_stateOf : ByteArray := prog_1_method_11_code
def yX2_stateOf : MethodName := ⟨RX2, "stateOf", "(I)C"⟩
abbrev cX2_answerTo : ByteArray := prog_1_method_12_code
def yX2_answerTo : MethodName := ⟨RX2, "answerTo", "(I)I"⟩
abbrev cX2_waitingOf : ByteArray := prog_1_method_13_code
def yX2_waitingOf : MethodName := ⟨RX2, "waitingOf", "(I)I"⟩
abbrev cX2_servedOf : ByteArray := prog_1_method_14_code
def yX2_servedOf : MethodName := ⟨RX2, "servedOf", "(I)I"⟩
abbrev cX2_creditsOf : ByteArray := prog_1_method_15_code
def yX2_creditsOf : MethodName := ⟨RX2, "creditsOf", "(I)I"⟩
abbrev cX2_breachesOf : ByteArray := prog_1_method_16_code
def yX2_breachesOf : MethodName := ⟨RX2, "breachesOf", "(I)I"⟩
abbrev cX2_pass : ByteArray := prog_1_method_17_code
def yX2_pass : MethodName := ⟨RX2, "pass", "(I)I"⟩
abbrev cX2_clock : ByteArray := prog_1_method_18_code
def yX2_clock : MethodName := ⟨RX2, "clock", "()I"⟩
abbrev cX2_blocksOf : ByteArray := prog_1_method_19_code
def yX2_blocksOf : MethodName := ⟨RX2, "blocksOf", "(I)I"⟩
abbrev cX2_copiesOf : ByteArray := prog_1_method_20_code
def yX2_copiesOf : MethodName := ⟨RX2, "copiesOf", "(II)I"⟩
abbrev cX2_copiesByDisks : ByteArray := prog_1_method_21_code
def yX2_copiesByDisks : MethodName := ⟨RX2, "copiesByDisks", "(II)I"⟩
abbrev cX2_diskOfCopy : ByteArray := prog_1_method_22_code
def yX2_diskOfCopy : MethodName := ⟨RX2, "diskOfCopy", "(III)I"⟩
abbrev cX2_valueOf : ByteArray := prog_1_method_23_code
def yX2_valueOf : MethodName := ⟨RX2, "valueOf", "(II)I"⟩
abbrev cX2_isLost : ByteArray := prog_1_method_24_code
def yX2_isLost : MethodName := ⟨RX2, "isLost", "(II)Z"⟩
abbrev cX2_lostBlocks : ByteArray := prog_1_method_25_code
def yX2_lostBlocks : MethodName := ⟨RX2, "lostBlocks", "()I"⟩
abbrev cX2_degradedBlocks : ByteArray := prog_1_method_26_code
def yX2_degradedBlocks : MethodName := ⟨RX2, "degradedBlocks", "()I"⟩
abbrev cX2_doesBear : ByteArray := prog_1_method_27_code
def yX2_doesBear : MethodName := ⟨RX2, "doesBear", "(I)Z"⟩
abbrev cX2_doesBearByTrying : ByteArray := prog_1_method_28_code
def yX2_doesBearByTrying : MethodName := ⟨RX2, "doesBearByTrying", "(I)Z"⟩
abbrev cX2_fail : ByteArray := prog_1_method_29_code
def yX2_fail : MethodName := ⟨RX2, "fail", "(I)I"⟩
abbrev cX2_replace : ByteArray := prog_1_method_30_code
def yX2_replace : MethodName := ⟨RX2, "replace", "(I)I"⟩
abbrev cX2_warn : ByteArray := prog_1_method_31_code
def yX2_warn : MethodName := ⟨RX2, "warn", "(I)I"⟩
abbrev cX2_rot : ByteArray := prog_1_method_32_code
def yX2_rot : MethodName := ⟨RX2, "rot", "(II)Z"⟩
abbrev cX2_scrub : ByteArray := prog_1_method_33_code
def yX2_scrub : MethodName := ⟨RX2, "scrub", "(I)I"⟩
abbrev cX2_rottenOn : ByteArray := prog_1_method_34_code
def yX2_rottenOn : MethodName := ⟨RX2, "rottenOn", "(I)I"⟩
abbrev cX2_rebuilt : ByteArray := prog_1_method_35_code
def yX2_rebuilt : MethodName := ⟨RX2, "rebuilt", "()I"⟩
abbrev cX2_openRebuilds : ByteArray := prog_1_method_36_code
def yX2_openRebuilds : MethodName := ⟨RX2, "openRebuilds", "()I"⟩
abbrev cX2_meanCopies : ByteArray := prog_1_method_37_code
def yX2_meanCopies : MethodName := ⟨RX2, "meanCopies", "()D"⟩
abbrev cX2_usedShare : ByteArray := prog_1_method_38_code
def yX2_usedShare : MethodName := ⟨RX2, "usedShare", "()F"⟩
abbrev cX2_isConsistent : ByteArray := prog_1_method_39_code
def yX2_isConsistent : MethodName := ⟨RX2, "isConsistent", "()Z"⟩
abbrev cX2_writeDisk : ByteArray := prog_1_method_40_code
def yX2_writeDisk : MethodName := ⟨RX2, "writeDisk", "(I)I"⟩
abbrev cX2_lineAt : ByteArray := prog_1_method_41_code
def yX2_lineAt : MethodName := ⟨RX2, "lineAt", "(I)C"⟩
abbrev cX2_checkDisk : ByteArray := prog_1_method_42_code
def yX2_checkDisk : MethodName := ⟨RX2, "checkDisk", "(I)V"⟩
abbrev cX2_checkNotFailed : ByteArray := prog_1_method_43_code
def yX2_checkNotFailed : MethodName := ⟨RX2, "checkNotFailed", "(I)V"⟩
abbrev cX2_checkTenant : ByteArray := prog_1_method_44_code
def yX2_checkTenant : MethodName := ⟨RX2, "checkTenant", "(I)V"⟩
abbrev cX2_checkBlock : ByteArray := prog_1_method_45_code
def yX2_checkBlock : MethodName := ⟨RX2, "checkBlock", "(II)V"⟩
abbrev cX2_checkRequest : ByteArray := prog_1_method_46_code
def yX2_checkRequest : MethodName := ⟨RX2, "checkRequest", "(I)V"⟩
abbrev cX2_checkRoomForRequest : ByteArray := prog_1_method_47_code
def yX2_checkRoomForRequest : MethodName := ⟨RX2, "checkRoomForRequest", "()V"⟩
abbrev cX2_checkLosses : ByteArray := prog_1_method_48_code
def yX2_checkLosses : MethodName := ⟨RX2, "checkLosses", "(I)V"⟩
abbrev cX2_blockId : ByteArray := prog_1_method_49_code
def yX2_blockId : MethodName := ⟨RX2, "blockId", "(II)I"⟩
abbrev cX2_appendCopy : ByteArray := prog_1_method_50_code
def yX2_appendCopy : MethodName := ⟨RX2, "appendCopy", "(IZ)V"⟩
abbrev cX2_serveRounds : ByteArray := prog_1_method_51_code
def yX2_serveRounds : MethodName := ⟨RX2, "serveRounds", "(I)V"⟩
abbrev cX2_serveOldest : ByteArray := prog_1_method_52_code
def yX2_serveOldest : MethodName := ⟨RX2, "serveOldest", "(II)I"⟩
abbrev cX2_serveRead : ByteArray := prog_1_method_53_code
def yX2_serveRead : MethodName := ⟨RX2, "serveRead", "(I)Z"⟩
def RX3 : String := "VolumeShepherdModel"
def TX3 : u_T := fun k => match k with
  | 0 => ("VolumeShepherdModel", "thrown", "I", false)
  | 1 => ("VolumeShepherdModel", "sizes", "[I", true)
  | 2 => ("VolumeShepherdModel", "states", "[C", true)
  | 3 => ("VolumeShepherdModel", "held", "[I", true)
  | 4 => ("VolumeShepherdModel", "heldBefore", "[I", true)
  | 5 => ("VolumeShepherdModel", "rotten", "[Z", true)
  | 6 => ("VolumeShepherdModel", "rottenBefore", "[Z", true)
  | 7 => ("VolumeShepherdModel", "disks", "I", false)
  | 8 => ("VolumeShepherdModel", "copies", "[[I", true)
  | 9 => ("VolumeShepherdModel", "copiesBefore", "[[I", true)
  | 10 => ("VolumeShepherdModel", "many", "[I", true)
  | 11 => ("VolumeShepherdModel", "manyBefore", "[I", true)
  | 12 => ("VolumeShepherdModel", "values", "[I", true)
  | 13 => ("VolumeShepherdModel", "order", "[I", true)
  | 14 => ("VolumeShepherdModel", "isWritten", "[Z", true)
  | 15 => ("VolumeShepherdModel", "written", "I", false)
  | 16 => ("VolumeShepherdModel", "wanted", "[I", true)
  | 17 => ("VolumeShepherdModel", "promises", "[I", true)
  | 18 => ("VolumeShepherdModel", "served", "[I", true)
  | 19 => ("VolumeShepherdModel", "credits", "[I", true)
  | 20 => ("VolumeShepherdModel", "breaches", "[I", true)
  | 21 => ("VolumeShepherdModel", "began", "[I", true)
  | 22 => ("VolumeShepherdModel", "did", "[I", true)
  | 23 => ("VolumeShepherdModel", "blocks", "[I", true)
  | 24 => ("VolumeShepherdModel", "news", "[I", true)
  | 25 => ("VolumeShepherdModel", "answers", "[I", true)
  | 26 => ("VolumeShepherdModel", "requestStates", "[C", true)
  | 27 => ("VolumeShepherdModel", "tenants", "I", false)
  | 28 => ("VolumeShepherdModel", "requests", "I", false)
  | 29 => ("VolumeShepherdModel", "hurry", "I", false)
  | 30 => ("VolumeShepherdModel", "clock", "I", false)
  | 31 => ("VolumeShepherdModel", "rebuilt", "I", false)
  | _ => ("VolumeShepherdModel", "line", "Ljava/lang/String;", false)
def tyX3 : Nat → FieldType := fun k => match k with
  | 0 => .int
  | 1 => .array .int
  | 2 => .array .char
  | 3 => .array .int
  | 4 => .array .int
  | 5 => .array .boolean
  | 6 => .array .boolean
  | 7 => .int
  | 8 => .array (.array .int)
  | 9 => .array (.array .int)
  | 10 => .array .int
  | 11 => .array .int
  | 12 => .array .int
  | 13 => .array .int
  | 14 => .array .boolean
  | 15 => .int
  | 16 => .array .int
  | 17 => .array .int
  | 18 => .array .int
  | 19 => .array .int
  | 20 => .array .int
  | 21 => .array .int
  | 22 => .array .int
  | 23 => .array .int
  | 24 => .array .int
  | 25 => .array .int
  | 26 => .array .char
  | 27 => .int
  | 28 => .int
  | 29 => .int
  | 30 => .int
  | 31 => .int
  | _ => .object "java/lang/String"
theorem nmX3 : ∀ a, a < 33 → ∀ b, b < 33 → a ≠ b → (TX3 a).2.1 ≠ (TX3 b).2.1 := by decide +kernel
theorem tyX3_ok : ∀ k, k < 33 → parseFieldDescriptor (TX3 k).2.2.1 = some (tyX3 k) := by decide +kernel
abbrev cX3_init : ByteArray := prog_5_method_1_code
def yX3_init : MethodName := ⟨RX3, "<init>", "()V"⟩
abbrev cX3_thrown : ByteArray := prog_5_method_2_code
def yX3_thrown : MethodName := ⟨RX3, "thrown", "()I"⟩
abbrev cX3_fails : ByteArray := prog_5_method_3_code
def yX3_fails : MethodName := ⟨RX3, "fails", "(I)I"⟩
abbrev cX3_isBetween : ByteArray := prog_5_method_4_code
def yX3_isBetween : MethodName := ⟨RX3, "isBetween", "(III)Z"⟩
abbrev cX3_isDisk : ByteArray := prog_5_method_5_code
def yX3_isDisk : MethodName := ⟨RX3, "isDisk", "(I)Z"⟩
abbrev cX3_isTenant : ByteArray := prog_5_method_6_code
def yX3_isTenant : MethodName := ⟨RX3, "isTenant", "(I)Z"⟩
abbrev cX3_isRequest : ByteArray := prog_5_method_7_code
def yX3_isRequest : MethodName := ⟨RX3, "isRequest", "(I)Z"⟩
abbrev cX3_usedOf : ByteArray := prog_5_method_8_code
def yX3_usedOf : MethodName := ⟨RX3, "usedOf", "(I)I"⟩
abbrev cX3_has : ByteArray := prog_5_method_9_code
def yX3_has : MethodName := ⟨RX3, "has", "(II)Z"⟩
abbrev cX3_place : ByteArray := prog_5_method_10_code
def yX3_place : MethodName := ⟨RX3, "place", "(I)I"⟩
abbrev cX3_puts : ByteArray := prog_5_method_11_code
def yX3_puts : MethodName := ⟨RX3, "puts", "(II)V"⟩
abbrev cX3_takes : ByteArray := prog_5_method_12_code
def yX3_takes : MethodName := ⟨RX3, "takes", "(II)V"⟩
abbrev cX3_goodOf : ByteArray := prog_5_method_13_code
def yX3_goodOf : MethodName := ⟨RX3, "goodOf", "(I)I"⟩
abbrev cX3_lost : ByteArray := prog_5_method_14_code
def yX3_lost : MethodName := ⟨RX3, "lost", "(I)Z"⟩
abbrev cX3_degraded : ByteArray := prog_5_method_15_code
def yX3_degraded : MethodName := ⟨RX3, "degraded", "(I)Z"⟩
abbrev cX3_keepsAll : ByteArray := prog_5_method_16_code
def yX3_keepsAll : MethodName := ⟨RX3, "keepsAll", "()V"⟩
abbrev cX3_laysBack : ByteArray := prog_5_method_17_code
def yX3_laysBack : MethodName := ⟨RX3, "laysBack", "()V"⟩
abbrev cX3_addDisk : ByteArray := prog_5_method_18_code
def yX3_addDisk : MethodName := ⟨RX3, "addDisk", "(I)I"⟩
abbrev cX3_diskCount : ByteArray := prog_5_method_19_code
def yX3_diskCount : MethodName := ⟨RX3, "diskCount", "()I"⟩
abbrev cX3_isNoDisk : ByteArray := prog_5_method_20_code
def yX3_isNoDisk : MethodName := ⟨RX3, "isNoDisk", "(I)Z"⟩
abbrev cX3_diskState : ByteArray := prog_5_method_21_code
def yX3_diskState : MethodName := ⟨RX3, "diskState", "(I)C"⟩
abbrev cX3_usedOn : ByteArray := prog_5_method_22_code
def yX3_usedOn : MethodName := ⟨RX3, "usedOn", "(I)I"⟩
abbrev cX3_addTenant : ByteArray := prog_5_method_23_code
def yX3_addTenant : MethodName := ⟨RX3, "addTenant", "(II)I"⟩
abbrev cX3_tenantCount : ByteArray := prog_5_method_24_code
def yX3_tenantCount : MethodName := ⟨RX3, "tenantCount", "()I"⟩
abbrev cX3_setHurry : ByteArray := prog_5_method_25_code
def yX3_setHurry : MethodName := ⟨RX3, "setHurry", "(I)I"⟩
abbrev cX3_isNone : ByteArray := prog_5_method_26_code
def yX3_isNone : MethodName := ⟨RX3, "isNone", "(II)Z"⟩
abbrev cX3_waitingMany : ByteArray := prog_5_method_27_code
def yX3_waitingMany : MethodName := ⟨RX3, "waitingMany", "(I)I"⟩
abbrev cX3_asks : ByteArray := prog_5_method_28_code
def yX3_asks : MethodName := ⟨RX3, "asks", "(III)I"⟩
abbrev cX3_read : ByteArray := prog_5_method_29_code
def yX3_read : MethodName := ⟨RX3, "read", "(II)I"⟩
abbrev cX3_write : ByteArray := prog_5_method_30_code
def yX3_write : MethodName := ⟨RX3, "write", "(III)I"⟩
abbrev cX3_isNoRequest : ByteArray := prog_5_method_31_code
def yX3_isNoRequest : MethodName := ⟨RX3, "isNoRequest", "(I)Z"⟩
abbrev cX3_stateOf : ByteArray := prog_5_method_32_code
def yX3_stateOf : MethodName := ⟨RX3, "stateOf", "(I)C"⟩
abbrev cX3_answerTo : ByteArray := prog_5_method_33_code
def yX3_answerTo : MethodName := ⟨RX3, "answerTo", "(I)I"⟩
abbrev cX3_isNobody : ByteArray := prog_5_method_34_code
def yX3_isNobody : MethodName := ⟨RX3, "isNobody", "(I)Z"⟩
abbrev cX3_waitingOf : ByteArray := prog_5_method_35_code
def yX3_waitingOf : MethodName := ⟨RX3, "waitingOf", "(I)I"⟩
abbrev cX3_servedOf : ByteArray := prog_5_method_36_code
def yX3_servedOf : MethodName := ⟨RX3, "servedOf", "(I)I"⟩
abbrev cX3_creditsOf : ByteArray := prog_5_method_37_code
def yX3_creditsOf : MethodName := ⟨RX3, "creditsOf", "(I)I"⟩
abbrev cX3_breachesOf : ByteArray := prog_5_method_38_code
def yX3_breachesOf : MethodName := ⟨RX3, "breachesOf", "(I)I"⟩
abbrev cX3_putsAnew : ByteArray := prog_5_method_39_code
def yX3_putsAnew : MethodName := ⟨RX3, "putsAnew", "(I)Z"⟩
abbrev cX3_writes : ByteArray := prog_5_method_40_code
def yX3_writes : MethodName := ⟨RX3, "writes", "(II)Z"⟩
abbrev cX3_serves : ByteArray := prog_5_method_41_code
def yX3_serves : MethodName := ⟨RX3, "serves", "(I)V"⟩
abbrev cX3_oldestOf : ByteArray := prog_5_method_42_code
def yX3_oldestOf : MethodName := ⟨RX3, "oldestOf", "(I)I"⟩
abbrev cX3_servesAll : ByteArray := prog_5_method_43_code
def yX3_servesAll : MethodName := ⟨RX3, "servesAll", "(I)V"⟩
abbrev cX3_rebuilds : ByteArray := prog_5_method_44_code
def yX3_rebuilds : MethodName := ⟨RX3, "rebuilds", "(I)I"⟩
abbrev cX3_moves : ByteArray := prog_5_method_45_code
def yX3_moves : MethodName := ⟨RX3, "moves", "(II)I"⟩
abbrev cX3_ticks : ByteArray := prog_5_method_46_code
def yX3_ticks : MethodName := ⟨RX3, "ticks", "()V"⟩
abbrev cX3_pass : ByteArray := prog_5_method_47_code
def yX3_pass : MethodName := ⟨RX3, "pass", "(I)I"⟩
abbrev cX3_clock : ByteArray := prog_5_method_48_code
def yX3_clock : MethodName := ⟨RX3, "clock", "()I"⟩
abbrev cX3_blocksOf : ByteArray := prog_5_method_49_code
def yX3_blocksOf : MethodName := ⟨RX3, "blocksOf", "(I)I"⟩
abbrev cX3_copiesOf : ByteArray := prog_5_method_50_code
def yX3_copiesOf : MethodName := ⟨RX3, "copiesOf", "(II)I"⟩
abbrev cX3_copiesByDisks : ByteArray := prog_5_method_51_code
def yX3_copiesByDisks : MethodName := ⟨RX3, "copiesByDisks", "(II)I"⟩
abbrev cX3_diskOfCopy : ByteArray := prog_5_method_52_code
def yX3_diskOfCopy : MethodName := ⟨RX3, "diskOfCopy", "(III)I"⟩
abbrev cX3_valueOf : ByteArray := prog_5_method_53_code
def yX3_valueOf : MethodName := ⟨RX3, "valueOf", "(II)I"⟩
abbrev cX3_isLost : ByteArray := prog_5_method_54_code
def yX3_isLost : MethodName := ⟨RX3, "isLost", "(II)Z"⟩
abbrev cX3_lostBlocks : ByteArray := prog_5_method_55_code
def yX3_lostBlocks : MethodName := ⟨RX3, "lostBlocks", "()I"⟩
abbrev cX3_degradedBlocks : ByteArray := prog_5_method_56_code
def yX3_degradedBlocks : MethodName := ⟨RX3, "degradedBlocks", "()I"⟩
abbrev cX3_doesBear : ByteArray := prog_5_method_57_code
def yX3_doesBear : MethodName := ⟨RX3, "doesBear", "(I)Z"⟩
abbrev cX3_doesBearByTrying : ByteArray := prog_5_method_58_code
def yX3_doesBearByTrying : MethodName := ⟨RX3, "doesBearByTrying", "(I)Z"⟩
abbrev cX3_fail : ByteArray := prog_5_method_59_code
def yX3_fail : MethodName := ⟨RX3, "fail", "(I)I"⟩
abbrev cX3_sound : ByteArray := prog_5_method_60_code
def yX3_sound : MethodName := ⟨RX3, "sound", "()I"⟩
abbrev cX3_replace : ByteArray := prog_5_method_61_code
def yX3_replace : MethodName := ⟨RX3, "replace", "(I)I"⟩
abbrev cX3_warn : ByteArray := prog_5_method_62_code
def yX3_warn : MethodName := ⟨RX3, "warn", "(I)I"⟩
abbrev cX3_rot : ByteArray := prog_5_method_63_code
def yX3_rot : MethodName := ⟨RX3, "rot", "(II)Z"⟩
abbrev cX3_scrub : ByteArray := prog_5_method_64_code
def yX3_scrub : MethodName := ⟨RX3, "scrub", "(I)I"⟩
abbrev cX3_rottenOn : ByteArray := prog_5_method_65_code
def yX3_rottenOn : MethodName := ⟨RX3, "rottenOn", "(I)I"⟩
abbrev cX3_rebuilt : ByteArray := prog_5_method_66_code
def yX3_rebuilt : MethodName := ⟨RX3, "rebuilt", "()I"⟩
abbrev cX3_openRebuilds : ByteArray := prog_5_method_67_code
def yX3_openRebuilds : MethodName := ⟨RX3, "openRebuilds", "()I"⟩
abbrev cX3_meanCopies : ByteArray := prog_5_method_68_code
def yX3_meanCopies : MethodName := ⟨RX3, "meanCopies", "()D"⟩
abbrev cX3_usedShare : ByteArray := prog_5_method_69_code
def yX3_usedShare : MethodName := ⟨RX3, "usedShare", "()F"⟩
abbrev cX3_isConsistent : ByteArray := prog_5_method_70_code
def yX3_isConsistent : MethodName := ⟨RX3, "isConsistent", "()Z"⟩
abbrev cX3_writeDisk : ByteArray := prog_5_method_71_code
def yX3_writeDisk : MethodName := ⟨RX3, "writeDisk", "(I)I"⟩
abbrev cX3_lineAt : ByteArray := prog_5_method_72_code
def yX3_lineAt : MethodName := ⟨RX3, "lineAt", "(I)C"⟩
def RJx145de : String := "java/io/Serializable"
def TJx145de : u_T := fun k => match k with
  | _ => ("", "", "", false)
def tyJx145de : Nat → FieldType := fun k => match k with
  | _ => .int
theorem nmJx145de : ∀ a, a < 0 → ∀ b, b < 0 → a ≠ b → (TJx145de a).2.1 ≠ (TJx145de b).2.1 := by decide +kernel
theorem tyJx145de_ok : ∀ k, k < 0 → parseFieldDescriptor (TJx145de k).2.2.1 = some (tyJx145de k) := by decide +kernel
def RJ5 : String := "java/lang/AbstractStringBuilder"
def TJ5 : u_T := fun k => match k with
  | _ => ("", "", "", false)
def tyJ5 : Nat → FieldType := fun k => match k with
  | _ => .int
theorem nmJ5 : ∀ a, a < 0 → ∀ b, b < 0 → a ≠ b → (TJ5 a).2.1 ≠ (TJ5 b).2.1 := by decide +kernel
theorem tyJ5_ok : ∀ k, k < 0 → parseFieldDescriptor (TJ5 k).2.2.1 = some (tyJ5 k) := by decide +kernel
abbrev cJ5_init_d00df : ByteArray := prog_7_method_2_code
def yJ5_init_d00df : MethodName := ⟨RJ5, "<init>", "(I)V"⟩
abbrev cJ5_length_8abf5 : ByteArray := prog_7_method_6_code
def yJ5_length_8abf5 : MethodName := ⟨RJ5, "length", "()I"⟩
abbrev cJ5_ensureCapacityInternal_d00df : ByteArray := prog_7_method_9_code
def yJ5_ensureCapacityInternal_d00df : MethodName := ⟨RJ5, "ensureCapacityInternal", "(I)V"⟩
abbrev cJ5_newCapacity_0f7a4 : ByteArray := prog_7_method_10_code
def yJ5_newCapacity_0f7a4 : MethodName := ⟨RJ5, "newCapacity", "(I)I"⟩
abbrev cJ5_inflate_da8c8 : ByteArray := prog_7_method_11_code
def yJ5_inflate_da8c8 : MethodName := ⟨RJ5, "inflate", "()V"⟩
abbrev cJ5_setLength_d00df : ByteArray := prog_7_method_13_code
def yJ5_setLength_d00df : MethodName := ⟨RJ5, "setLength", "(I)V"⟩
abbrev cJ5_charAt_5068e : ByteArray := prog_7_method_14_code
def yJ5_charAt_5068e : MethodName := ⟨RJ5, "charAt", "(I)C"⟩
abbrev cJ5_append_cf1ce : ByteArray := prog_7_method_22_code
def yJ5_append_cf1ce : MethodName := ⟨RJ5, "append", "(Ljava/lang/String;)Ljava/lang/AbstractStringBuilder;"⟩
abbrev cJ5_appendNull_278bc : ByteArray := prog_7_method_26_code
def yJ5_appendNull_278bc : MethodName := ⟨RJ5, "appendNull", "()Ljava/lang/AbstractStringBuilder;"⟩
abbrev cJ5_append_3fe6f : ByteArray := prog_7_method_31_code
def yJ5_append_3fe6f : MethodName := ⟨RJ5, "append", "(C)Ljava/lang/AbstractStringBuilder;"⟩
abbrev cJ5_append_c97b9 : ByteArray := prog_7_method_32_code
def yJ5_append_c97b9 : MethodName := ⟨RJ5, "append", "(I)Ljava/lang/AbstractStringBuilder;"⟩
abbrev cJ5_getValue_6d5f1 : ByteArray := prog_7_method_64_code
def yJ5_getValue_6d5f1 : MethodName := ⟨RJ5, "getValue", "()[B"⟩
abbrev cJ5_isLatin1_aae02 : ByteArray := prog_7_method_68_code
def yJ5_isLatin1_aae02 : MethodName := ⟨RJ5, "isLatin1", "()Z"⟩
abbrev cJ5_inflateIfNeededFor_a7421 : ByteArray := prog_7_method_71_code
def yJ5_inflateIfNeededFor_a7421 : MethodName := ⟨RJ5, "inflateIfNeededFor", "(Ljava/lang/String;)V"⟩
abbrev cJ5_putStringAt_47b60 : ByteArray := prog_7_method_73_code
def yJ5_putStringAt_47b60 : MethodName := ⟨RJ5, "putStringAt", "(ILjava/lang/String;)V"⟩
def RJx2cfe8 : String := "java/lang/Appendable"
def TJx2cfe8 : u_T := fun k => match k with
  | _ => ("", "", "", false)
def tyJx2cfe8 : Nat → FieldType := fun k => match k with
  | _ => .int
theorem nmJx2cfe8 : ∀ a, a < 0 → ∀ b, b < 0 → a ≠ b → (TJx2cfe8 a).2.1 ≠ (TJx2cfe8 b).2.1 := by decide +kernel
theorem tyJx2cfe8_ok : ∀ k, k < 0 → parseFieldDescriptor (TJx2cfe8 k).2.2.1 = some (tyJx2cfe8 k) := by decide +kernel
def RJx00060 : String := "java/lang/ArrayIndexOutOfBoundsException"
def TJx00060 : u_T := fun k => match k with
  | 0 => ("java/lang/Throwable", "backtrace", "Ljava/lang/Object;", false)
  | 1 => ("java/lang/Throwable", "detailMessage", "Ljava/lang/String;", false)
  | 2 => ("java/lang/Throwable", "cause", "Ljava/lang/Throwable;", false)
  | 3 => ("java/lang/Throwable", "stackTrace", "[Ljava/lang/StackTraceElement;", false)
  | 4 => ("java/lang/Throwable", "depth", "I", false)
  | _ => ("java/lang/Throwable", "suppressedExceptions", "Ljava/util/List;", false)
def tyJx00060 : Nat → FieldType := fun k => match k with
  | 0 => .object "java/lang/Object"
  | 1 => .object "java/lang/String"
  | 2 => .object "java/lang/Throwable"
  | 3 => .array (.object "java/lang/StackTraceElement")
  | 4 => .int
  | _ => .object "java/util/List"
theorem nmJx00060 : ∀ a, a < 6 → ∀ b, b < 6 → a ≠ b → (TJx00060 a).2.1 ≠ (TJx00060 b).2.1 := by decide +kernel
theorem tyJx00060_ok : ∀ k, k < 6 → parseFieldDescriptor (TJx00060 k).2.2.1 = some (tyJx00060 k) := by decide +kernel
abbrev cJx00060_init_a7421 : ByteArray := prog_10_method_2_code
def yJx00060_init_a7421 : MethodName := ⟨RJx00060, "<init>", "(Ljava/lang/String;)V"⟩
abbrev cJx00060_init_d00df : ByteArray := prog_10_method_3_code
def yJx00060_init_d00df : MethodName := ⟨RJx00060, "<init>", "(I)V"⟩
def RJx9f9b0 : String := "java/lang/CharSequence"
def TJx9f9b0 : u_T := fun k => match k with
  | _ => ("", "", "", false)
def tyJx9f9b0 : Nat → FieldType := fun k => match k with
  | _ => .int
theorem nmJx9f9b0 : ∀ a, a < 0 → ∀ b, b < 0 → a ≠ b → (TJx9f9b0 a).2.1 ≠ (TJx9f9b0 b).2.1 := by decide +kernel
theorem tyJx9f9b0_ok : ∀ k, k < 0 → parseFieldDescriptor (TJx9f9b0 k).2.2.1 = some (tyJx9f9b0 k) := by decide +kernel
def RJx8e188 : String := "java/lang/Cloneable"
def TJx8e188 : u_T := fun k => match k with
  | _ => ("", "", "", false)
def tyJx8e188 : Nat → FieldType := fun k => match k with
  | _ => .int
theorem nmJx8e188 : ∀ a, a < 0 → ∀ b, b < 0 → a ≠ b → (TJx8e188 a).2.1 ≠ (TJx8e188 b).2.1 := by decide +kernel
theorem tyJx8e188_ok : ∀ k, k < 0 → parseFieldDescriptor (TJx8e188 k).2.2.1 = some (tyJx8e188 k) := by decide +kernel
def RJxb160c : String := "java/lang/Comparable"
def TJxb160c : u_T := fun k => match k with
  | _ => ("", "", "", false)
def tyJxb160c : Nat → FieldType := fun k => match k with
  | _ => .int
theorem nmJxb160c : ∀ a, a < 0 → ∀ b, b < 0 → a ≠ b → (TJxb160c a).2.1 ≠ (TJxb160c b).2.1 := by decide +kernel
theorem tyJxb160c_ok : ∀ k, k < 0 → parseFieldDescriptor (TJxb160c k).2.2.1 = some (tyJxb160c k) := by decide +kernel
def RJ6 : String := "java/lang/Integer"
def TJ6 : u_T := fun k => match k with
  | _ => ("", "", "", false)
def tyJ6 : Nat → FieldType := fun k => match k with
  | _ => .int
theorem nmJ6 : ∀ a, a < 0 → ∀ b, b < 0 → a ≠ b → (TJ6 a).2.1 ≠ (TJ6 b).2.1 := by decide +kernel
theorem tyJ6_ok : ∀ k, k < 0 → parseFieldDescriptor (TJ6 k).2.2.1 = some (tyJ6 k) := by decide +kernel
abbrev cJ6_getChars_ba4f3 : ByteArray := prog_18_method_12_code
def yJ6_getChars_ba4f3 : MethodName := ⟨RJ6, "getChars", "(II[B)I"⟩
abbrev cJ6_stringSize_0f7a4 : ByteArray := prog_18_method_13_code
def yJ6_stringSize_0f7a4 : MethodName := ⟨RJ6, "stringSize", "(I)I"⟩
abbrev cJ6_bitCount_0f7a4 : ByteArray := prog_18_method_49_code
def yJ6_bitCount_0f7a4 : MethodName := ⟨RJ6, "bitCount", "(I)I"⟩
def RJ9 : String := "java/lang/Math"
def TJ9 : u_T := fun k => match k with
  | _ => ("", "", "", false)
def tyJ9 : Nat → FieldType := fun k => match k with
  | _ => .int
theorem nmJ9 : ∀ a, a < 0 → ∀ b, b < 0 → a ≠ b → (TJ9 a).2.1 ≠ (TJ9 b).2.1 := by decide +kernel
theorem tyJ9_ok : ∀ k, k < 0 → parseFieldDescriptor (TJ9 k).2.2.1 = some (tyJ9 k) := by decide +kernel
abbrev cJ9_max_7cf53 : ByteArray := prog_19_method_65_code
def yJ9_max_7cf53 : MethodName := ⟨RJ9, "max", "(II)I"⟩
abbrev cJ9_min_7cf53 : ByteArray := prog_19_method_69_code
def yJ9_min_7cf53 : MethodName := ⟨RJ9, "min", "(II)I"⟩
def RJxd2413 : String := "java/lang/Number"
def TJxd2413 : u_T := fun k => match k with
  | _ => ("", "", "", false)
def tyJxd2413 : Nat → FieldType := fun k => match k with
  | _ => .int
theorem nmJxd2413 : ∀ a, a < 0 → ∀ b, b < 0 → a ≠ b → (TJxd2413 a).2.1 ≠ (TJxd2413 b).2.1 := by decide +kernel
theorem tyJxd2413_ok : ∀ k, k < 0 → parseFieldDescriptor (TJxd2413 k).2.2.1 = some (tyJxd2413 k) := by decide +kernel
def RJ0 : String := "java/lang/String"
def TJ0 : u_T := fun k => match k with
  | 0 => ("java/lang/String", "value", "[B", true)
  | 1 => ("java/lang/String", "coder", "B", true)
  | 2 => ("java/lang/String", "hash", "I", false)
  | _ => ("java/lang/String", "hashIsZero", "Z", false)
def tyJ0 : Nat → FieldType := fun k => match k with
  | 0 => .array .byte
  | 1 => .byte
  | 2 => .int
  | _ => .boolean
theorem nmJ0 : ∀ a, a < 4 → ∀ b, b < 4 → a ≠ b → (TJ0 a).2.1 ≠ (TJ0 b).2.1 := by decide +kernel
theorem tyJ0_ok : ∀ k, k < 4 → parseFieldDescriptor (TJ0 k).2.2.1 = some (tyJ0 k) := by decide +kernel
abbrev cJ0_init_81219 : ByteArray := prog_22_method_53_code
def yJ0_init_81219 : MethodName := ⟨RJ0, "<init>", "(Ljava/lang/StringBuilder;)V"⟩
abbrev cJ0_length_8abf5 : ByteArray := prog_22_method_54_code
def yJ0_length_8abf5 : MethodName := ⟨RJ0, "length", "()I"⟩
abbrev cJ0_charAt_5068e : ByteArray := prog_22_method_56_code
def yJ0_charAt_5068e : MethodName := ⟨RJ0, "charAt", "(I)C"⟩
abbrev cJ0_getBytes_840e7 : ByteArray := prog_22_method_147_code
def yJ0_getBytes_840e7 : MethodName := ⟨RJ0, "getBytes", "([BIB)V"⟩
abbrev cJ0_init_db425 : ByteArray := prog_22_method_150_code
def yJ0_init_db425 : MethodName := ⟨RJ0, "<init>", "(Ljava/lang/AbstractStringBuilder;Ljava/lang/Void;)V"⟩
abbrev cJ0_coder_7d493 : ByteArray := prog_22_method_152_code
def yJ0_coder_7d493 : MethodName := ⟨RJ0, "coder", "()B"⟩
abbrev cJ0_isLatin1_aae02 : ByteArray := prog_22_method_154_code
def yJ0_isLatin1_aae02 : MethodName := ⟨RJ0, "isLatin1", "()Z"⟩
abbrev cJ0_checkIndex_df160 : ByteArray := prog_22_method_155_code
def yJ0_checkIndex_df160 : MethodName := ⟨RJ0, "checkIndex", "(II)V"⟩
abbrev cJ0_checkBoundsOffCount_cabcc : ByteArray := prog_22_method_157_code
def yJ0_checkBoundsOffCount_cabcc : MethodName := ⟨RJ0, "checkBoundsOffCount", "(III)I"⟩
abbrev cJ0_checkBoundsBeginEnd_23922 : ByteArray := prog_22_method_158_code
def yJ0_checkBoundsBeginEnd_23922 : MethodName := ⟨RJ0, "checkBoundsBeginEnd", "(III)V"⟩
def RJ4 : String := "java/lang/StringBuilder"
def TJ4 : u_T := fun k => match k with
  | 0 => ("java/lang/AbstractStringBuilder", "value", "[B", false)
  | 1 => ("java/lang/AbstractStringBuilder", "coder", "B", false)
  | 2 => ("java/lang/AbstractStringBuilder", "maybeLatin1", "Z", false)
  | _ => ("java/lang/AbstractStringBuilder", "count", "I", false)
def tyJ4 : Nat → FieldType := fun k => match k with
  | 0 => .array .byte
  | 1 => .byte
  | 2 => .boolean
  | _ => .int
theorem nmJ4 : ∀ a, a < 4 → ∀ b, b < 4 → a ≠ b → (TJ4 a).2.1 ≠ (TJ4 b).2.1 := by decide +kernel
theorem tyJ4_ok : ∀ k, k < 4 → parseFieldDescriptor (TJ4 k).2.2.1 = some (tyJ4 k) := by decide +kernel
abbrev cJ4_init_da8c8 : ByteArray := prog_23_method_1_code
def yJ4_init_da8c8 : MethodName := ⟨RJ4, "<init>", "()V"⟩
abbrev cJ4_append_15ec4 : ByteArray := prog_23_method_7_code
def yJ4_append_15ec4 : MethodName := ⟨RJ4, "append", "(Ljava/lang/String;)Ljava/lang/StringBuilder;"⟩
abbrev cJ4_append_cf468 : ByteArray := prog_23_method_14_code
def yJ4_append_cf468 : MethodName := ⟨RJ4, "append", "(C)Ljava/lang/StringBuilder;"⟩
abbrev cJ4_append_bf812 : ByteArray := prog_23_method_15_code
def yJ4_append_bf812 : MethodName := ⟨RJ4, "append", "(I)Ljava/lang/StringBuilder;"⟩
abbrev cJ4_toString_0e30d : ByteArray := prog_23_method_42_code
def yJ4_toString_0e30d : MethodName := ⟨RJ4, "toString", "()Ljava/lang/String;"⟩
abbrev cJ4_charAt_5068e : ByteArray := prog_23_method_88_code
def yJ4_charAt_5068e : MethodName := ⟨RJ4, "charAt", "(I)C"⟩
abbrev cJ4_setLength_d00df : ByteArray := prog_23_method_89_code
def yJ4_setLength_d00df : MethodName := ⟨RJ4, "setLength", "(I)V"⟩
abbrev cJ4_length_8abf5 : ByteArray := prog_23_method_93_code
def yJ4_length_8abf5 : MethodName := ⟨RJ4, "length", "()I"⟩
def RJx7c733 : String := "java/lang/StringIndexOutOfBoundsException"
def TJx7c733 : u_T := fun k => match k with
  | 0 => ("java/lang/Throwable", "backtrace", "Ljava/lang/Object;", false)
  | 1 => ("java/lang/Throwable", "detailMessage", "Ljava/lang/String;", false)
  | 2 => ("java/lang/Throwable", "cause", "Ljava/lang/Throwable;", false)
  | 3 => ("java/lang/Throwable", "stackTrace", "[Ljava/lang/StackTraceElement;", false)
  | 4 => ("java/lang/Throwable", "depth", "I", false)
  | _ => ("java/lang/Throwable", "suppressedExceptions", "Ljava/util/List;", false)
def tyJx7c733 : Nat → FieldType := fun k => match k with
  | 0 => .object "java/lang/Object"
  | 1 => .object "java/lang/String"
  | 2 => .object "java/lang/Throwable"
  | 3 => .array (.object "java/lang/StackTraceElement")
  | 4 => .int
  | _ => .object "java/util/List"
theorem nmJx7c733 : ∀ a, a < 6 → ∀ b, b < 6 → a ≠ b → (TJx7c733 a).2.1 ≠ (TJx7c733 b).2.1 := by decide +kernel
theorem tyJx7c733_ok : ∀ k, k < 6 → parseFieldDescriptor (TJx7c733 k).2.2.1 = some (tyJx7c733 k) := by decide +kernel
abbrev cJx7c733_init_d00df : ByteArray := prog_24_method_3_code
def yJx7c733_init_d00df : MethodName := ⟨RJx7c733, "<init>", "(I)V"⟩
def RJ1 : String := "java/lang/StringLatin1"
def TJ1 : u_T := fun k => match k with
  | _ => ("", "", "", false)
def tyJ1 : Nat → FieldType := fun k => match k with
  | _ => .int
theorem nmJ1 : ∀ a, a < 0 → ∀ b, b < 0 → a ≠ b → (TJ1 a).2.1 ≠ (TJ1 b).2.1 := by decide +kernel
theorem tyJ1_ok : ∀ k, k < 0 → parseFieldDescriptor (TJ1 k).2.2.1 = some (tyJ1 k) := by decide +kernel
abbrev cJ1_charAt_3b067 : ByteArray := prog_25_method_2_code
def yJ1_charAt_3b067 : MethodName := ⟨RJ1, "charAt", "([BI)C"⟩
abbrev cJ1_canEncode_fc78d : ByteArray := prog_25_method_3_code
def yJ1_canEncode_fc78d : MethodName := ⟨RJ1, "canEncode", "(C)Z"⟩
abbrev cJ1_fillNull_b72d1 : ByteArray := prog_25_method_48_code
def yJ1_fillNull_b72d1 : MethodName := ⟨RJ1, "fillNull", "([BII)V"⟩
abbrev cJ1_inflate_0e8fd : ByteArray := prog_25_method_50_code
def yJ1_inflate_0e8fd : MethodName := ⟨RJ1, "inflate", "([BI[BII)V"⟩
def RJ2 : String := "java/lang/StringUTF16"
def TJ2 : u_T := fun k => match k with
  | _ => ("", "", "", false)
def tyJ2 : Nat → FieldType := fun k => match k with
  | _ => .int
theorem nmJ2 : ∀ a, a < 0 → ∀ b, b < 0 → a ≠ b → (TJ2 a).2.1 ≠ (TJ2 b).2.1 := by decide +kernel
theorem tyJ2_ok : ∀ k, k < 0 → parseFieldDescriptor (TJ2 k).2.2.1 = some (tyJ2 k) := by decide +kernel
abbrev cJ2_newBytesFor_77867 : ByteArray := prog_26_method_2_code
def yJ2_newBytesFor_77867 : MethodName := ⟨RJ2, "newBytesFor", "(I)[B"⟩
abbrev cJ2_newBytesLength_0f7a4 : ByteArray := prog_26_method_3_code
def yJ2_newBytesLength_0f7a4 : MethodName := ⟨RJ2, "newBytesLength", "(I)I"⟩
abbrev cJ2_putChar_b72d1 : ByteArray := prog_26_method_4_code
def yJ2_putChar_b72d1 : MethodName := ⟨RJ2, "putChar", "([BII)V"⟩
abbrev cJ2_getChar_3b067 : ByteArray := prog_26_method_5_code
def yJ2_getChar_3b067 : MethodName := ⟨RJ2, "getChar", "([BI)C"⟩
abbrev cJ2_length_9d52b : ByteArray := prog_26_method_6_code
def yJ2_length_9d52b : MethodName := ⟨RJ2, "length", "([B)I"⟩
abbrev cJ2_coderFromArrayLen_85cad : ByteArray := prog_26_method_15_code
def yJ2_coderFromArrayLen_85cad : MethodName := ⟨RJ2, "coderFromArrayLen", "([BI)B"⟩
abbrev cJ2_compress_39247 : ByteArray := prog_26_method_17_code
def yJ2_compress_39247 : MethodName := ⟨RJ2, "compress", "([BII)[B"⟩
abbrev cJ2_compress_5af95 : ByteArray := prog_26_method_22_code
def yJ2_compress_5af95 : MethodName := ⟨RJ2, "compress", "([BI[BII)I"⟩
abbrev cJ2_fillNull_b72d1 : ByteArray := prog_26_method_70_code
def yJ2_fillNull_b72d1 : MethodName := ⟨RJ2, "fillNull", "([BII)V"⟩
abbrev cJ2_putCharSB_b72d1 : ByteArray := prog_26_method_71_code
def yJ2_putCharSB_b72d1 : MethodName := ⟨RJ2, "putCharSB", "([BII)V"⟩
abbrev cJ2_getChars_46870 : ByteArray := prog_26_method_77_code
def yJ2_getChars_46870 : MethodName := ⟨RJ2, "getChars", "(III[B)I"⟩
abbrev cJ2_putCharsAt_cd4e5 : ByteArray := prog_26_method_81_code
def yJ2_putCharsAt_cd4e5 : MethodName := ⟨RJ2, "putCharsAt", "([BICCCC)I"⟩
abbrev cJ2_charAt_3b067 : ByteArray := prog_26_method_83_code
def yJ2_charAt_3b067 : MethodName := ⟨RJ2, "charAt", "([BI)C"⟩
abbrev cJ2_inflate_0e8fd : ByteArray := prog_26_method_86_code
def yJ2_inflate_0e8fd : MethodName := ⟨RJ2, "inflate", "([BI[BII)V"⟩
abbrev cJ2_getChars_ba4f3 : ByteArray := prog_26_method_89_code
def yJ2_getChars_ba4f3 : MethodName := ⟨RJ2, "getChars", "(II[B)I"⟩
abbrev cJ2_checkIndex_2214a : ByteArray := prog_26_method_91_code
def yJ2_checkIndex_2214a : MethodName := ⟨RJ2, "checkIndex", "(I[B)V"⟩
abbrev cJ2_checkBoundsBeginEnd_d044e : ByteArray := prog_26_method_93_code
def yJ2_checkBoundsBeginEnd_d044e : MethodName := ⟨RJ2, "checkBoundsBeginEnd", "(II[B)V"⟩
abbrev cJ2_checkBoundsOffCount_d044e : ByteArray := prog_26_method_94_code
def yJ2_checkBoundsOffCount_d044e : MethodName := ⟨RJ2, "checkBoundsOffCount", "(II[B)V"⟩
def RJ10 : String := "java/lang/System"
def TJ10 : u_T := fun k => match k with
  | _ => ("", "", "", false)
def tyJ10 : Nat → FieldType := fun k => match k with
  | _ => .int
theorem nmJ10 : ∀ a, a < 0 → ∀ b, b < 0 → a ≠ b → (TJ10 a).2.1 ≠ (TJ10 b).2.1 := by decide +kernel
theorem tyJ10_ok : ∀ k, k < 0 → parseFieldDescriptor (TJ10 k).2.2.1 = some (tyJ10 k) := by decide +kernel
def RJxfd54e : String := "java/lang/constant/Constable"
def TJxfd54e : u_T := fun k => match k with
  | _ => ("", "", "", false)
def tyJxfd54e : Nat → FieldType := fun k => match k with
  | _ => .int
theorem nmJxfd54e : ∀ a, a < 0 → ∀ b, b < 0 → a ≠ b → (TJxfd54e a).2.1 ≠ (TJxfd54e b).2.1 := by decide +kernel
theorem tyJxfd54e_ok : ∀ k, k < 0 → parseFieldDescriptor (TJxfd54e k).2.2.1 = some (tyJxfd54e k) := by decide +kernel
def RJx3cf43 : String := "java/lang/constant/ConstantDesc"
def TJx3cf43 : u_T := fun k => match k with
  | _ => ("", "", "", false)
def tyJx3cf43 : Nat → FieldType := fun k => match k with
  | _ => .int
theorem nmJx3cf43 : ∀ a, a < 0 → ∀ b, b < 0 → a ≠ b → (TJx3cf43 a).2.1 ≠ (TJx3cf43 b).2.1 := by decide +kernel
theorem tyJx3cf43_ok : ∀ k, k < 0 → parseFieldDescriptor (TJx3cf43 k).2.2.1 = some (tyJx3cf43 k) := by decide +kernel
def RJ7 : String := "java/util/Arrays"
def TJ7 : u_T := fun k => match k with
  | _ => ("", "", "", false)
def tyJ7 : Nat → FieldType := fun k => match k with
  | _ => .int
theorem nmJ7 : ∀ a, a < 0 → ∀ b, b < 0 → a ≠ b → (TJ7 a).2.1 ≠ (TJ7 b).2.1 := by decide +kernel
theorem tyJ7_ok : ∀ k, k < 0 → parseFieldDescriptor (TJ7 k).2.2.1 = some (tyJ7 k) := by decide +kernel
abbrev cJ7_rangeCheck_23922 : ByteArray := prog_31_method_30_code
def yJ7_rangeCheck_23922 : MethodName := ⟨RJ7, "rangeCheck", "(III)V"⟩
abbrev cJ7_fill_53178 : ByteArray := prog_31_method_103_code
def yJ7_fill_53178 : MethodName := ⟨RJ7, "fill", "([II)V"⟩
abbrev cJ7_fill_eb02e : ByteArray := prog_31_method_110_code
def yJ7_fill_eb02e : MethodName := ⟨RJ7, "fill", "([BIIB)V"⟩
abbrev cJ7_copyOf_9075b : ByteArray := prog_31_method_121_code
def yJ7_copyOf_9075b : MethodName := ⟨RJ7, "copyOf", "([BI)[B"⟩
abbrev cJ7_checkLength_df160 : ByteArray := prog_31_method_131_code
def yJ7_checkLength_df160 : MethodName := ⟨RJ7, "checkLength", "(II)V"⟩
abbrev cJ7_copyOfRange_39247 : ByteArray := prog_31_method_132_code
def yJ7_copyOfRange_39247 : MethodName := ⟨RJ7, "copyOfRange", "([BII)[B"⟩
abbrev cJ7_copyOfRangeByte_39247 : ByteArray := prog_31_method_133_code
def yJ7_copyOfRangeByte_39247 : MethodName := ⟨RJ7, "copyOfRangeByte", "([BII)[B"⟩
def RJ8 : String := "jdk/internal/util/ArraysSupport"
def TJ8 : u_T := fun k => match k with
  | _ => ("", "", "", false)
def tyJ8 : Nat → FieldType := fun k => match k with
  | _ => .int
theorem nmJ8 : ∀ a, a < 0 → ∀ b, b < 0 → a ≠ b → (TJ8 a).2.1 ≠ (TJ8 b).2.1 := by decide +kernel
theorem tyJ8_ok : ∀ k, k < 0 → parseFieldDescriptor (TJ8 k).2.2.1 = some (tyJ8 k) := by decide +kernel
abbrev cJ8_newLength_cabcc : ByteArray := prog_33_method_27_code
def yJ8_newLength_cabcc : MethodName := ⟨RJ8, "newLength", "(III)I"⟩
abbrev cJ8_hugeLength_7cf53 : ByteArray := prog_33_method_28_code
def yJ8_hugeLength_7cf53 : MethodName := ⟨RJ8, "hugeLength", "(II)I"⟩
def RJ3 : String := "jdk/internal/util/Preconditions"
def TJ3 : u_T := fun k => match k with
  | _ => ("", "", "", false)
def tyJ3 : Nat → FieldType := fun k => match k with
  | _ => .int
theorem nmJ3 : ∀ a, a < 0 → ∀ b, b < 0 → a ≠ b → (TJ3 a).2.1 ≠ (TJ3 b).2.1 := by decide +kernel
theorem tyJ3_ok : ∀ k, k < 0 → parseFieldDescriptor (TJ3 k).2.2.1 = some (tyJ3 k) := by decide +kernel
abbrev cJ3_checkIndex_8e157 : ByteArray := prog_34_method_11_code
def yJ3_checkIndex_8e157 : MethodName := ⟨RJ3, "checkIndex", "(IILjava/util/function/BiFunction;)I"⟩
abbrev cJ3_checkFromToIndex_8c36e : ByteArray := prog_34_method_12_code
def yJ3_checkFromToIndex_8c36e : MethodName := ⟨RJ3, "checkFromToIndex", "(IIILjava/util/function/BiFunction;)I"⟩
abbrev cJ3_checkFromIndexSize_8c36e : ByteArray := prog_34_method_13_code
def yJ3_checkFromIndexSize_8c36e : MethodName := ⟨RJ3, "checkFromIndexSize", "(IIILjava/util/function/BiFunction;)I"⟩
def RL : String := "VolumeShepherdLaw"
abbrev cL_addDisk : ByteArray := method_3_code
def yL_addDisk : MethodName := ⟨RL, "addDisk", "(LVolumeShepherd;I[J)I"⟩
abbrev cL_diskState : ByteArray := method_4_code
def yL_diskState : MethodName := ⟨RL, "diskState", "(LVolumeShepherd;I[J)I"⟩
abbrev cL_usedOn : ByteArray := method_5_code
def yL_usedOn : MethodName := ⟨RL, "usedOn", "(LVolumeShepherd;I[J)I"⟩
abbrev cL_addTenant : ByteArray := method_6_code
def yL_addTenant : MethodName := ⟨RL, "addTenant", "(LVolumeShepherd;II[J)I"⟩
abbrev cL_setHurry : ByteArray := method_7_code
def yL_setHurry : MethodName := ⟨RL, "setHurry", "(LVolumeShepherd;I[J)I"⟩
abbrev cL_read : ByteArray := method_8_code
def yL_read : MethodName := ⟨RL, "read", "(LVolumeShepherd;II[J)I"⟩
abbrev cL_write : ByteArray := method_9_code
def yL_write : MethodName := ⟨RL, "write", "(LVolumeShepherd;III[J)I"⟩
abbrev cL_stateOf : ByteArray := method_10_code
def yL_stateOf : MethodName := ⟨RL, "stateOf", "(LVolumeShepherd;I[J)I"⟩
abbrev cL_answerTo : ByteArray := method_11_code
def yL_answerTo : MethodName := ⟨RL, "answerTo", "(LVolumeShepherd;I[J)I"⟩
abbrev cL_waitingOf : ByteArray := method_12_code
def yL_waitingOf : MethodName := ⟨RL, "waitingOf", "(LVolumeShepherd;I[J)I"⟩
abbrev cL_servedOf : ByteArray := method_13_code
def yL_servedOf : MethodName := ⟨RL, "servedOf", "(LVolumeShepherd;I[J)I"⟩
abbrev cL_creditsOf : ByteArray := method_14_code
def yL_creditsOf : MethodName := ⟨RL, "creditsOf", "(LVolumeShepherd;I[J)I"⟩
abbrev cL_breachesOf : ByteArray := method_15_code
def yL_breachesOf : MethodName := ⟨RL, "breachesOf", "(LVolumeShepherd;I[J)I"⟩
abbrev cL_pass : ByteArray := method_16_code
def yL_pass : MethodName := ⟨RL, "pass", "(LVolumeShepherd;I[J)I"⟩
abbrev cL_blocksOf : ByteArray := method_17_code
def yL_blocksOf : MethodName := ⟨RL, "blocksOf", "(LVolumeShepherd;I[J)I"⟩
abbrev cL_copiesOf : ByteArray := method_18_code
def yL_copiesOf : MethodName := ⟨RL, "copiesOf", "(LVolumeShepherd;II[J)I"⟩
abbrev cL_copiesByDisks : ByteArray := method_19_code
def yL_copiesByDisks : MethodName := ⟨RL, "copiesByDisks", "(LVolumeShepherd;II[J)I"⟩
abbrev cL_diskOfCopy : ByteArray := method_20_code
def yL_diskOfCopy : MethodName := ⟨RL, "diskOfCopy", "(LVolumeShepherd;III[J)I"⟩
abbrev cL_valueOf : ByteArray := method_21_code
def yL_valueOf : MethodName := ⟨RL, "valueOf", "(LVolumeShepherd;II[J)I"⟩
abbrev cL_isLost : ByteArray := method_22_code
def yL_isLost : MethodName := ⟨RL, "isLost", "(LVolumeShepherd;II[J)I"⟩
abbrev cL_doesBear : ByteArray := method_23_code
def yL_doesBear : MethodName := ⟨RL, "doesBear", "(LVolumeShepherd;I[J)I"⟩
abbrev cL_doesBearByTrying : ByteArray := method_24_code
def yL_doesBearByTrying : MethodName := ⟨RL, "doesBearByTrying", "(LVolumeShepherd;I[J)I"⟩
abbrev cL_fail : ByteArray := method_25_code
def yL_fail : MethodName := ⟨RL, "fail", "(LVolumeShepherd;I[J)I"⟩
abbrev cL_replace : ByteArray := method_26_code
def yL_replace : MethodName := ⟨RL, "replace", "(LVolumeShepherd;I[J)I"⟩
abbrev cL_warn : ByteArray := method_27_code
def yL_warn : MethodName := ⟨RL, "warn", "(LVolumeShepherd;I[J)I"⟩
abbrev cL_rot : ByteArray := method_28_code
def yL_rot : MethodName := ⟨RL, "rot", "(LVolumeShepherd;II[J)I"⟩
abbrev cL_scrub : ByteArray := method_29_code
def yL_scrub : MethodName := ⟨RL, "scrub", "(LVolumeShepherd;I[J)I"⟩
abbrev cL_rottenOn : ByteArray := method_30_code
def yL_rottenOn : MethodName := ⟨RL, "rottenOn", "(LVolumeShepherd;I[J)I"⟩
abbrev cL_meanCopies : ByteArray := method_31_code
def yL_meanCopies : MethodName := ⟨RL, "meanCopies", "(LVolumeShepherd;[D)I"⟩
abbrev cL_usedShare : ByteArray := method_32_code
def yL_usedShare : MethodName := ⟨RL, "usedShare", "(LVolumeShepherd;[D)I"⟩
abbrev cL_writeDisk : ByteArray := method_33_code
def yL_writeDisk : MethodName := ⟨RL, "writeDisk", "(LVolumeShepherd;I[J)I"⟩
abbrev cL_lineAt : ByteArray := method_34_code
def yL_lineAt : MethodName := ⟨RL, "lineAt", "(LVolumeShepherd;I[J)I"⟩
abbrev cL_law : ByteArray := code
def yL_law : MethodName := ⟨RL, "law", "([I)Z"⟩
abbrev vwCl : List vw_C := [(RJ0, TJ0, 4), (RJ4, TJ4, 4), (RJx00060, TJx00060, 6), (RJx7c733, TJx7c733, 6), (RX0, TX0, 14), (RX1, TX1, 13), (RX2, TX2, 7), (RX3, TX3, 33)]
end
section
theorem dX0_init_0 : decode cX0_init 0 = .ok (.aload_n 0, 1) := by decide +kernel
theorem dX0_init_1 : decode cX0_init 1 = .ok (.invokespecial 3, 3) := by decide +kernel
theorem dX0_init_4 : decode cX0_init 4 = .ok (.aload_n 0, 1) := by decide +kernel
theorem dX0_init_5 : decode cX0_init 5 = .ok (.iconst 4, 1) := by decide +kernel
theorem dX0_init_6 : decode cX0_init 6 = .ok (.newarray .int, 2) := by decide +kernel
theorem dX0_init_8 : decode cX0_init 8 = .ok (.putfield 9, 3) := by decide +kernel
theorem dX0_init_11 : decode cX0_init 11 = .ok (.aload_n 0, 1) := by decide +kernel
theorem dX0_init_12 : decode cX0_init 12 = .ok (.iconst 4, 1) := by decide +kernel
theorem dX0_init_13 : decode cX0_init 13 = .ok (.newarray .int, 2) := by decide +kernel
theorem dX0_init_15 : decode cX0_init 15 = .ok (.putfield 15, 3) := by decide +kernel
theorem dX0_init_18 : decode cX0_init 18 = .ok (.aload_n 0, 1) := by decide +kernel
theorem dX0_init_19 : decode cX0_init 19 = .ok (.iconst 4, 1) := by decide +kernel
theorem dX0_init_20 : decode cX0_init 20 = .ok (.newarray .int, 2) := by decide +kernel
theorem dX0_init_22 : decode cX0_init 22 = .ok (.putfield 18, 3) := by decide +kernel
theorem dX0_init_25 : decode cX0_init 25 = .ok (.aload_n 0, 1) := by decide +kernel
theorem dX0_init_26 : decode cX0_init 26 = .ok (.iconst 4, 1) := by decide +kernel
theorem dX0_init_27 : decode cX0_init 27 = .ok (.newarray .int, 2) := by decide +kernel
theorem dX0_init_29 : decode cX0_init 29 = .ok (.putfield 21, 3) := by decide +kernel
theorem dX0_init_32 : decode cX0_init 32 = .ok (.aload_n 0, 1) := by decide +kernel
theorem dX0_init_33 : decode cX0_init 33 = .ok (.iconst 4, 1) := by decide +kernel
theorem dX0_init_34 : decode cX0_init 34 = .ok (.newarray .int, 2) := by decide +kernel
theorem dX0_init_36 : decode cX0_init 36 = .ok (.putfield 24, 3) := by decide +kernel
theorem dX0_init_39 : decode cX0_init 39 = .ok (.aload_n 0, 1) := by decide +kernel
theorem dX0_init_40 : decode cX0_init 40 = .ok (.iconst 4, 1) := by decide +kernel
theorem dX0_init_41 : decode cX0_init 41 = .ok (.newarray .int, 2) := by decide +kernel
theorem dX0_init_43 : decode cX0_init 43 = .ok (.putfield 27, 3) := by decide +kernel
theorem dX0_init_46 : decode cX0_init 46 = .ok (.aload_n 0, 1) := by decide +kernel
theorem dX0_init_47 : decode cX0_init 47 = .ok (.sipush 1200, 3) := by decide +kernel
theorem dX0_init_50 : decode cX0_init 50 = .ok (.newarray .int, 2) := by decide +kernel
theorem dX0_init_52 : decode cX0_init 52 = .ok (.putfield 30, 3) := by decide +kernel
theorem dX0_init_55 : decode cX0_init 55 = .ok (.aload_n 0, 1) := by decide +kernel
theorem dX0_init_56 : decode cX0_init 56 = .ok (.sipush 300, 3) := by decide +kernel
theorem dX0_init_59 : decode cX0_init 59 = .ok (.newarray .int, 2) := by decide +kernel
theorem dX0_init_61 : decode cX0_init 61 = .ok (.putfield 33, 3) := by decide +kernel
theorem dX0_init_64 : decode cX0_init 64 = .ok (.aload_n 0, 1) := by decide +kernel
theorem dX0_init_65 : decode cX0_init 65 = .ok (.sipush 300, 3) := by decide +kernel
theorem dX0_init_68 : decode cX0_init 68 = .ok (.newarray .boolean, 2) := by decide +kernel
theorem dX0_init_70 : decode cX0_init 70 = .ok (.putfield 36, 3) := by decide +kernel
theorem dX0_init_73 : decode cX0_init 73 = .ok (.aload_n 0, 1) := by decide +kernel
theorem dX0_init_74 : decode cX0_init 74 = .ok (.sipush 300, 3) := by decide +kernel
theorem dX0_init_77 : decode cX0_init 77 = .ok (.newarray .int, 2) := by decide +kernel
theorem dX0_init_79 : decode cX0_init 79 = .ok (.putfield 40, 3) := by decide +kernel
theorem dX0_init_82 : decode cX0_init 82 = .ok (.aload_n 0, 1) := by decide +kernel
theorem dX0_init_83 : decode cX0_init 83 = .ok (.sipush 300, 3) := by decide +kernel
theorem dX0_init_86 : decode cX0_init 86 = .ok (.newarray .char, 2) := by decide +kernel
theorem dX0_init_88 : decode cX0_init 88 = .ok (.putfield 43, 3) := by decide +kernel
theorem dX0_init_91 : decode cX0_init 91 = .ok (.return_, 1) := by decide +kernel
theorem dX0_admitTenant_0 : decode cX0_admitTenant 0 = .ok (.aload_n 0, 1) := by decide +kernel
theorem dX0_admitTenant_1 : decode cX0_admitTenant 1 = .ok (.getfield 9, 3) := by decide +kernel
theorem dX0_admitTenant_4 : decode cX0_admitTenant 4 = .ok (.aload_n 0, 1) := by decide +kernel
theorem dX0_admitTenant_5 : decode cX0_admitTenant 5 = .ok (.getfield 47, 3) := by decide +kernel
theorem dX0_admitTenant_8 : decode cX0_admitTenant 8 = .ok (.iload_n 1, 1) := by decide +kernel
theorem dX0_admitTenant_9 : decode cX0_admitTenant 9 = .ok (.iastore, 1) := by decide +kernel
theorem dX0_admitTenant_10 : decode cX0_admitTenant 10 = .ok (.aload_n 0, 1) := by decide +kernel
theorem dX0_admitTenant_11 : decode cX0_admitTenant 11 = .ok (.dup, 1) := by decide +kernel
theorem dX0_admitTenant_12 : decode cX0_admitTenant 12 = .ok (.getfield 47, 3) := by decide +kernel
theorem dX0_admitTenant_15 : decode cX0_admitTenant 15 = .ok (.dup_x1, 1) := by decide +kernel
theorem dX0_admitTenant_16 : decode cX0_admitTenant 16 = .ok (.iconst 1, 1) := by decide +kernel
theorem dX0_admitTenant_17 : decode cX0_admitTenant 17 = .ok (.iadd, 1) := by decide +kernel
theorem dX0_admitTenant_18 : decode cX0_admitTenant 18 = .ok (.putfield 47, 3) := by decide +kernel
theorem dX0_admitTenant_21 : decode cX0_admitTenant 21 = .ok (.ireturn, 1) := by decide +kernel
theorem dX0_enqueue_0 : decode cX0_enqueue 0 = .ok (.aload_n 0, 1) := by decide +kernel
theorem dX0_enqueue_1 : decode cX0_enqueue 1 = .ok (.getfield 51, 3) := by decide +kernel
theorem dX0_enqueue_4 : decode cX0_enqueue 4 = .ok (.istore 5, 2) := by decide +kernel
theorem dX0_enqueue_6 : decode cX0_enqueue 6 = .ok (.aload_n 0, 1) := by decide +kernel
theorem dX0_enqueue_7 : decode cX0_enqueue 7 = .ok (.getfield 33, 3) := by decide +kernel
theorem dX0_enqueue_10 : decode cX0_enqueue 10 = .ok (.iload 5, 2) := by decide +kernel
theorem dX0_enqueue_12 : decode cX0_enqueue 12 = .ok (.iload_n 2, 1) := by decide +kernel
theorem dX0_enqueue_13 : decode cX0_enqueue 13 = .ok (.iastore, 1) := by decide +kernel
theorem dX0_enqueue_14 : decode cX0_enqueue 14 = .ok (.aload_n 0, 1) := by decide +kernel
theorem dX0_enqueue_15 : decode cX0_enqueue 15 = .ok (.getfield 36, 3) := by decide +kernel
theorem dX0_enqueue_18 : decode cX0_enqueue 18 = .ok (.iload 5, 2) := by decide +kernel
theorem dX0_enqueue_20 : decode cX0_enqueue 20 = .ok (.iload_n 3, 1) := by decide +kernel
theorem dX0_enqueue_21 : decode cX0_enqueue 21 = .ok (.bastore, 1) := by decide +kernel
theorem dX0_enqueue_22 : decode cX0_enqueue 22 = .ok (.aload_n 0, 1) := by decide +kernel
theorem dX0_enqueue_23 : decode cX0_enqueue 23 = .ok (.getfield 40, 3) := by decide +kernel
theorem dX0_enqueue_26 : decode cX0_enqueue 26 = .ok (.iload 5, 2) := by decide +kernel
theorem dX0_enqueue_28 : decode cX0_enqueue 28 = .ok (.iload 4, 2) := by decide +kernel
theorem dX0_enqueue_30 : decode cX0_enqueue 30 = .ok (.iastore, 1) := by decide +kernel
theorem dX0_enqueue_31 : decode cX0_enqueue 31 = .ok (.aload_n 0, 1) := by decide +kernel
theorem dX0_enqueue_32 : decode cX0_enqueue 32 = .ok (.getfield 43, 3) := by decide +kernel
theorem dX0_enqueue_35 : decode cX0_enqueue 35 = .ok (.iload 5, 2) := by decide +kernel
theorem dX0_enqueue_37 : decode cX0_enqueue 37 = .ok (.bipush 119, 2) := by decide +kernel
theorem dX0_enqueue_39 : decode cX0_enqueue 39 = .ok (.castore, 1) := by decide +kernel
theorem dX0_enqueue_40 : decode cX0_enqueue 40 = .ok (.aload_n 0, 1) := by decide +kernel
theorem dX0_enqueue_41 : decode cX0_enqueue 41 = .ok (.getfield 30, 3) := by decide +kernel
theorem dX0_enqueue_44 : decode cX0_enqueue 44 = .ok (.iload_n 1, 1) := by decide +kernel
theorem dX0_enqueue_45 : decode cX0_enqueue 45 = .ok (.sipush 300, 3) := by decide +kernel
theorem dX0_enqueue_48 : decode cX0_enqueue 48 = .ok (.imul, 1) := by decide +kernel
theorem dX0_enqueue_49 : decode cX0_enqueue 49 = .ok (.aload_n 0, 1) := by decide +kernel
theorem dX0_enqueue_50 : decode cX0_enqueue 50 = .ok (.getfield 15, 3) := by decide +kernel
theorem dX0_enqueue_53 : decode cX0_enqueue 53 = .ok (.iload_n 1, 1) := by decide +kernel
theorem dX0_enqueue_54 : decode cX0_enqueue 54 = .ok (.iaload, 1) := by decide +kernel
theorem dX0_enqueue_55 : decode cX0_enqueue 55 = .ok (.iadd, 1) := by decide +kernel
theorem dX0_enqueue_56 : decode cX0_enqueue 56 = .ok (.iload 5, 2) := by decide +kernel
theorem dX0_enqueue_58 : decode cX0_enqueue 58 = .ok (.iastore, 1) := by decide +kernel
theorem dX0_enqueue_59 : decode cX0_enqueue 59 = .ok (.aload_n 0, 1) := by decide +kernel
theorem dX0_enqueue_60 : decode cX0_enqueue 60 = .ok (.getfield 15, 3) := by decide +kernel
theorem dX0_enqueue_63 : decode cX0_enqueue 63 = .ok (.iload_n 1, 1) := by decide +kernel
theorem dX0_enqueue_64 : decode cX0_enqueue 64 = .ok (.dup2, 1) := by decide +kernel
theorem dX0_enqueue_65 : decode cX0_enqueue 65 = .ok (.iaload, 1) := by decide +kernel
theorem dX0_enqueue_66 : decode cX0_enqueue 66 = .ok (.iconst 1, 1) := by decide +kernel
theorem dX0_enqueue_67 : decode cX0_enqueue 67 = .ok (.iadd, 1) := by decide +kernel
theorem dX0_enqueue_68 : decode cX0_enqueue 68 = .ok (.iastore, 1) := by decide +kernel
theorem dX0_enqueue_69 : decode cX0_enqueue 69 = .ok (.aload_n 0, 1) := by decide +kernel
theorem dX0_enqueue_70 : decode cX0_enqueue 70 = .ok (.dup, 1) := by decide +kernel
theorem dX0_enqueue_71 : decode cX0_enqueue 71 = .ok (.getfield 54, 3) := by decide +kernel
theorem dX0_enqueue_74 : decode cX0_enqueue 74 = .ok (.iconst 1, 1) := by decide +kernel
theorem dX0_enqueue_75 : decode cX0_enqueue 75 = .ok (.iadd, 1) := by decide +kernel
theorem dX0_enqueue_76 : decode cX0_enqueue 76 = .ok (.putfield 54, 3) := by decide +kernel
theorem dX0_enqueue_79 : decode cX0_enqueue 79 = .ok (.aload_n 0, 1) := by decide +kernel
theorem dX0_enqueue_80 : decode cX0_enqueue 80 = .ok (.dup, 1) := by decide +kernel
theorem dX0_enqueue_81 : decode cX0_enqueue 81 = .ok (.getfield 51, 3) := by decide +kernel
theorem dX0_enqueue_84 : decode cX0_enqueue 84 = .ok (.iconst 1, 1) := by decide +kernel
theorem dX0_enqueue_85 : decode cX0_enqueue 85 = .ok (.iadd, 1) := by decide +kernel
theorem dX0_enqueue_86 : decode cX0_enqueue 86 = .ok (.putfield 51, 3) := by decide +kernel
theorem dX0_enqueue_89 : decode cX0_enqueue 89 = .ok (.iload 5, 2) := by decide +kernel
theorem dX0_enqueue_91 : decode cX0_enqueue 91 = .ok (.ireturn, 1) := by decide +kernel
theorem dX0_countWaiting_0 : decode cX0_countWaiting 0 = .ok (.aload_n 0, 1) := by decide +kernel
theorem dX0_countWaiting_1 : decode cX0_countWaiting 1 = .ok (.getfield 15, 3) := by decide +kernel
theorem dX0_countWaiting_4 : decode cX0_countWaiting 4 = .ok (.iload_n 1, 1) := by decide +kernel
theorem dX0_countWaiting_5 : decode cX0_countWaiting 5 = .ok (.iaload, 1) := by decide +kernel
theorem dX0_countWaiting_6 : decode cX0_countWaiting 6 = .ok (.aload_n 0, 1) := by decide +kernel
theorem dX0_countWaiting_7 : decode cX0_countWaiting 7 = .ok (.getfield 18, 3) := by decide +kernel
theorem dX0_countWaiting_10 : decode cX0_countWaiting 10 = .ok (.iload_n 1, 1) := by decide +kernel
theorem dX0_countWaiting_11 : decode cX0_countWaiting 11 = .ok (.iaload, 1) := by decide +kernel
theorem dX0_countWaiting_12 : decode cX0_countWaiting 12 = .ok (.isub, 1) := by decide +kernel
theorem dX0_countWaiting_13 : decode cX0_countWaiting 13 = .ok (.ireturn, 1) := by decide +kernel
theorem dX0_oldestWaiting_0 : decode cX0_oldestWaiting 0 = .ok (.aload_n 0, 1) := by decide +kernel
theorem dX0_oldestWaiting_1 : decode cX0_oldestWaiting 1 = .ok (.getfield 30, 3) := by decide +kernel
theorem dX0_oldestWaiting_4 : decode cX0_oldestWaiting 4 = .ok (.iload_n 1, 1) := by decide +kernel
theorem dX0_oldestWaiting_5 : decode cX0_oldestWaiting 5 = .ok (.sipush 300, 3) := by decide +kernel
theorem dX0_oldestWaiting_8 : decode cX0_oldestWaiting 8 = .ok (.imul, 1) := by decide +kernel
theorem dX0_oldestWaiting_9 : decode cX0_oldestWaiting 9 = .ok (.aload_n 0, 1) := by decide +kernel
theorem dX0_oldestWaiting_10 : decode cX0_oldestWaiting 10 = .ok (.getfield 18, 3) := by decide +kernel
theorem dX0_oldestWaiting_13 : decode cX0_oldestWaiting 13 = .ok (.iload_n 1, 1) := by decide +kernel
theorem dX0_oldestWaiting_14 : decode cX0_oldestWaiting 14 = .ok (.iaload, 1) := by decide +kernel
theorem dX0_oldestWaiting_15 : decode cX0_oldestWaiting 15 = .ok (.iadd, 1) := by decide +kernel
theorem dX0_oldestWaiting_16 : decode cX0_oldestWaiting 16 = .ok (.iaload, 1) := by decide +kernel
theorem dX0_oldestWaiting_17 : decode cX0_oldestWaiting 17 = .ok (.ireturn, 1) := by decide +kernel
theorem dX0_markServed_0 : decode cX0_markServed 0 = .ok (.aload_n 0, 1) := by decide +kernel
theorem dX0_markServed_1 : decode cX0_markServed 1 = .ok (.getfield 43, 3) := by decide +kernel
theorem dX0_markServed_4 : decode cX0_markServed 4 = .ok (.iload_n 2, 1) := by decide +kernel
theorem dX0_markServed_5 : decode cX0_markServed 5 = .ok (.iload_n 3, 1) := by decide +kernel
theorem dX0_markServed_6 : decode cX0_markServed 6 = .ok (.ifCond .eq 8, 3) := by decide +kernel
theorem dX0_markServed_9 : decode cX0_markServed 9 = .ok (.bipush 100, 2) := by decide +kernel
theorem dX0_markServed_11 : decode cX0_markServed 11 = .ok (.goto 5, 3) := by decide +kernel
theorem dX0_markServed_14 : decode cX0_markServed 14 = .ok (.bipush 120, 2) := by decide +kernel
theorem dX0_markServed_16 : decode cX0_markServed 16 = .ok (.castore, 1) := by decide +kernel
theorem dX0_markServed_17 : decode cX0_markServed 17 = .ok (.aload_n 0, 1) := by decide +kernel
theorem dX0_markServed_18 : decode cX0_markServed 18 = .ok (.getfield 18, 3) := by decide +kernel
theorem dX0_markServed_21 : decode cX0_markServed 21 = .ok (.iload_n 1, 1) := by decide +kernel
theorem dX0_markServed_22 : decode cX0_markServed 22 = .ok (.dup2, 1) := by decide +kernel
theorem dX0_markServed_23 : decode cX0_markServed 23 = .ok (.iaload, 1) := by decide +kernel
theorem dX0_markServed_24 : decode cX0_markServed 24 = .ok (.iconst 1, 1) := by decide +kernel
theorem dX0_markServed_25 : decode cX0_markServed 25 = .ok (.iadd, 1) := by decide +kernel
theorem dX0_markServed_26 : decode cX0_markServed 26 = .ok (.iastore, 1) := by decide +kernel
theorem dX0_markServed_27 : decode cX0_markServed 27 = .ok (.aload_n 0, 1) := by decide +kernel
theorem dX0_markServed_28 : decode cX0_markServed 28 = .ok (.dup, 1) := by decide +kernel
theorem dX0_markServed_29 : decode cX0_markServed 29 = .ok (.getfield 54, 3) := by decide +kernel
theorem dX0_markServed_32 : decode cX0_markServed 32 = .ok (.iconst 1, 1) := by decide +kernel
theorem dX0_markServed_33 : decode cX0_markServed 33 = .ok (.isub, 1) := by decide +kernel
theorem dX0_markServed_34 : decode cX0_markServed 34 = .ok (.putfield 54, 3) := by decide +kernel
theorem dX0_markServed_37 : decode cX0_markServed 37 = .ok (.return_, 1) := by decide +kernel
theorem dX0_beginTick_0 : decode cX0_beginTick 0 = .ok (.iconst 0, 1) := by decide +kernel
theorem dX0_beginTick_1 : decode cX0_beginTick 1 = .ok (.istore_n 1, 1) := by decide +kernel
theorem dX0_beginTick_2 : decode cX0_beginTick 2 = .ok (.iload_n 1, 1) := by decide +kernel
theorem dX0_beginTick_3 : decode cX0_beginTick 3 = .ok (.aload_n 0, 1) := by decide +kernel
theorem dX0_beginTick_4 : decode cX0_beginTick 4 = .ok (.getfield 47, 3) := by decide +kernel
theorem dX0_beginTick_7 : decode cX0_beginTick 7 = .ok (.if_icmp .ge 36, 3) := by decide +kernel
theorem dX0_beginTick_10 : decode cX0_beginTick 10 = .ok (.aload_n 0, 1) := by decide +kernel
theorem dX0_beginTick_11 : decode cX0_beginTick 11 = .ok (.getfield 21, 3) := by decide +kernel
theorem dX0_beginTick_14 : decode cX0_beginTick 14 = .ok (.iload_n 1, 1) := by decide +kernel
theorem dX0_beginTick_15 : decode cX0_beginTick 15 = .ok (.aload_n 0, 1) := by decide +kernel
theorem dX0_beginTick_16 : decode cX0_beginTick 16 = .ok (.getfield 18, 3) := by decide +kernel
theorem dX0_beginTick_19 : decode cX0_beginTick 19 = .ok (.iload_n 1, 1) := by decide +kernel
theorem dX0_beginTick_20 : decode cX0_beginTick 20 = .ok (.iaload, 1) := by decide +kernel
theorem dX0_beginTick_21 : decode cX0_beginTick 21 = .ok (.aload_n 0, 1) := by decide +kernel
theorem dX0_beginTick_22 : decode cX0_beginTick 22 = .ok (.getfield 9, 3) := by decide +kernel
theorem dX0_beginTick_25 : decode cX0_beginTick 25 = .ok (.iload_n 1, 1) := by decide +kernel
theorem dX0_beginTick_26 : decode cX0_beginTick 26 = .ok (.iaload, 1) := by decide +kernel
theorem dX0_beginTick_27 : decode cX0_beginTick 27 = .ok (.aload_n 0, 1) := by decide +kernel
theorem dX0_beginTick_28 : decode cX0_beginTick 28 = .ok (.iload_n 1, 1) := by decide +kernel
theorem dX0_beginTick_29 : decode cX0_beginTick 29 = .ok (.invokevirtual 57, 3) := by decide +kernel
theorem dX0_beginTick_32 : decode cX0_beginTick 32 = .ok (.invokestatic 61, 3) := by decide +kernel
theorem dX0_beginTick_35 : decode cX0_beginTick 35 = .ok (.iadd, 1) := by decide +kernel
theorem dX0_beginTick_36 : decode cX0_beginTick 36 = .ok (.iastore, 1) := by decide +kernel
theorem dX0_beginTick_37 : decode cX0_beginTick 37 = .ok (.iinc 1 1, 3) := by decide +kernel
theorem dX0_beginTick_40 : decode cX0_beginTick 40 = .ok (.goto (-38), 3) := by decide +kernel
theorem dX0_beginTick_43 : decode cX0_beginTick 43 = .ok (.return_, 1) := by decide +kernel
theorem dX0_giveCredits_0 : decode cX0_giveCredits 0 = .ok (.iconst 0, 1) := by decide +kernel
theorem dX0_giveCredits_1 : decode cX0_giveCredits 1 = .ok (.istore_n 1, 1) := by decide +kernel
theorem dX0_giveCredits_2 : decode cX0_giveCredits 2 = .ok (.iload_n 1, 1) := by decide +kernel
theorem dX0_giveCredits_3 : decode cX0_giveCredits 3 = .ok (.aload_n 0, 1) := by decide +kernel
theorem dX0_giveCredits_4 : decode cX0_giveCredits 4 = .ok (.getfield 47, 3) := by decide +kernel
theorem dX0_giveCredits_7 : decode cX0_giveCredits 7 = .ok (.if_icmp .ge 47, 3) := by decide +kernel
theorem dX0_giveCredits_10 : decode cX0_giveCredits 10 = .ok (.aload_n 0, 1) := by decide +kernel
theorem dX0_giveCredits_11 : decode cX0_giveCredits 11 = .ok (.getfield 21, 3) := by decide +kernel
theorem dX0_giveCredits_14 : decode cX0_giveCredits 14 = .ok (.iload_n 1, 1) := by decide +kernel
theorem dX0_giveCredits_15 : decode cX0_giveCredits 15 = .ok (.iaload, 1) := by decide +kernel
theorem dX0_giveCredits_16 : decode cX0_giveCredits 16 = .ok (.aload_n 0, 1) := by decide +kernel
theorem dX0_giveCredits_17 : decode cX0_giveCredits 17 = .ok (.getfield 18, 3) := by decide +kernel
theorem dX0_giveCredits_20 : decode cX0_giveCredits 20 = .ok (.iload_n 1, 1) := by decide +kernel
theorem dX0_giveCredits_21 : decode cX0_giveCredits 21 = .ok (.iaload, 1) := by decide +kernel
theorem dX0_giveCredits_22 : decode cX0_giveCredits 22 = .ok (.isub, 1) := by decide +kernel
theorem dX0_giveCredits_23 : decode cX0_giveCredits 23 = .ok (.istore_n 2, 1) := by decide +kernel
theorem dX0_giveCredits_24 : decode cX0_giveCredits 24 = .ok (.iload_n 2, 1) := by decide +kernel
theorem dX0_giveCredits_25 : decode cX0_giveCredits 25 = .ok (.ifCond .le 23, 3) := by decide +kernel
theorem dX0_giveCredits_28 : decode cX0_giveCredits 28 = .ok (.aload_n 0, 1) := by decide +kernel
theorem dX0_giveCredits_29 : decode cX0_giveCredits 29 = .ok (.getfield 24, 3) := by decide +kernel
theorem dX0_giveCredits_32 : decode cX0_giveCredits 32 = .ok (.iload_n 1, 1) := by decide +kernel
theorem dX0_giveCredits_33 : decode cX0_giveCredits 33 = .ok (.dup2, 1) := by decide +kernel
theorem dX0_giveCredits_34 : decode cX0_giveCredits 34 = .ok (.iaload, 1) := by decide +kernel
theorem dX0_giveCredits_35 : decode cX0_giveCredits 35 = .ok (.iload_n 2, 1) := by decide +kernel
theorem dX0_giveCredits_36 : decode cX0_giveCredits 36 = .ok (.iadd, 1) := by decide +kernel
theorem dX0_giveCredits_37 : decode cX0_giveCredits 37 = .ok (.iastore, 1) := by decide +kernel
theorem dX0_giveCredits_38 : decode cX0_giveCredits 38 = .ok (.aload_n 0, 1) := by decide +kernel
theorem dX0_giveCredits_39 : decode cX0_giveCredits 39 = .ok (.getfield 27, 3) := by decide +kernel
theorem dX0_giveCredits_42 : decode cX0_giveCredits 42 = .ok (.iload_n 1, 1) := by decide +kernel
theorem dX0_giveCredits_43 : decode cX0_giveCredits 43 = .ok (.dup2, 1) := by decide +kernel
theorem dX0_giveCredits_44 : decode cX0_giveCredits 44 = .ok (.iaload, 1) := by decide +kernel
theorem dX0_giveCredits_45 : decode cX0_giveCredits 45 = .ok (.iconst 1, 1) := by decide +kernel
theorem dX0_giveCredits_46 : decode cX0_giveCredits 46 = .ok (.iadd, 1) := by decide +kernel
theorem dX0_giveCredits_47 : decode cX0_giveCredits 47 = .ok (.iastore, 1) := by decide +kernel
theorem dX0_giveCredits_48 : decode cX0_giveCredits 48 = .ok (.iinc 1 1, 3) := by decide +kernel
theorem dX0_giveCredits_51 : decode cX0_giveCredits 51 = .ok (.goto (-49), 3) := by decide +kernel
theorem dX0_giveCredits_54 : decode cX0_giveCredits 54 = .ok (.return_, 1) := by decide +kernel
theorem dX1_init_0 : decode cX1_init 0 = .ok (.aload_n 0, 1) := by decide +kernel
theorem dX1_init_1 : decode cX1_init 1 = .ok (.invokespecial 3, 3) := by decide +kernel
theorem dX1_init_4 : decode cX1_init 4 = .ok (.aload_n 0, 1) := by decide +kernel
theorem dX1_init_5 : decode cX1_init 5 = .ok (.bipush 8, 2) := by decide +kernel
theorem dX1_init_7 : decode cX1_init 7 = .ok (.newarray .int, 2) := by decide +kernel
theorem dX1_init_9 : decode cX1_init 9 = .ok (.putfield 9, 3) := by decide +kernel
theorem dX1_init_12 : decode cX1_init 12 = .ok (.aload_n 0, 1) := by decide +kernel
theorem dX1_init_13 : decode cX1_init 13 = .ok (.bipush 8, 2) := by decide +kernel
theorem dX1_init_15 : decode cX1_init 15 = .ok (.newarray .int, 2) := by decide +kernel
theorem dX1_init_17 : decode cX1_init 17 = .ok (.putfield 15, 3) := by decide +kernel
theorem dX1_init_20 : decode cX1_init 20 = .ok (.aload_n 0, 1) := by decide +kernel
theorem dX1_init_21 : decode cX1_init 21 = .ok (.bipush 8, 2) := by decide +kernel
theorem dX1_init_23 : decode cX1_init 23 = .ok (.newarray .char, 2) := by decide +kernel
theorem dX1_init_25 : decode cX1_init 25 = .ok (.putfield 18, 3) := by decide +kernel
theorem dX1_init_28 : decode cX1_init 28 = .ok (.aload_n 0, 1) := by decide +kernel
theorem dX1_init_29 : decode cX1_init 29 = .ok (.sipush 256, 3) := by decide +kernel
theorem dX1_init_32 : decode cX1_init 32 = .ok (.newarray .int, 2) := by decide +kernel
theorem dX1_init_34 : decode cX1_init 34 = .ok (.putfield 22, 3) := by decide +kernel
theorem dX1_init_37 : decode cX1_init 37 = .ok (.aload_n 0, 1) := by decide +kernel
theorem dX1_init_38 : decode cX1_init 38 = .ok (.sipush 256, 3) := by decide +kernel
theorem dX1_init_41 : decode cX1_init 41 = .ok (.newarray .boolean, 2) := by decide +kernel
theorem dX1_init_43 : decode cX1_init 43 = .ok (.putfield 25, 3) := by decide +kernel
theorem dX1_init_46 : decode cX1_init 46 = .ok (.aload_n 0, 1) := by decide +kernel
theorem dX1_init_47 : decode cX1_init 47 = .ok (.iconst 4, 1) := by decide +kernel
theorem dX1_init_48 : decode cX1_init 48 = .ok (.newarray .int, 2) := by decide +kernel
theorem dX1_init_50 : decode cX1_init 50 = .ok (.putfield 29, 3) := by decide +kernel
theorem dX1_init_53 : decode cX1_init 53 = .ok (.aload_n 0, 1) := by decide +kernel
theorem dX1_init_54 : decode cX1_init 54 = .ok (.sipush 400, 3) := by decide +kernel
theorem dX1_init_57 : decode cX1_init 57 = .ok (.newarray .int, 2) := by decide +kernel
theorem dX1_init_59 : decode cX1_init 59 = .ok (.putfield 32, 3) := by decide +kernel
theorem dX1_init_62 : decode cX1_init 62 = .ok (.aload_n 0, 1) := by decide +kernel
theorem dX1_init_63 : decode cX1_init 63 = .ok (.sipush 400, 3) := by decide +kernel
theorem dX1_init_66 : decode cX1_init 66 = .ok (.newarray .int, 2) := by decide +kernel
theorem dX1_init_68 : decode cX1_init 68 = .ok (.putfield 35, 3) := by decide +kernel
theorem dX1_init_71 : decode cX1_init 71 = .ok (.aload_n 0, 1) := by decide +kernel
theorem dX1_init_72 : decode cX1_init 72 = .ok (.sipush 1200, 3) := by decide +kernel
theorem dX1_init_75 : decode cX1_init 75 = .ok (.newarray .int, 2) := by decide +kernel
theorem dX1_init_77 : decode cX1_init 77 = .ok (.putfield 38, 3) := by decide +kernel
theorem dX1_init_80 : decode cX1_init 80 = .ok (.aload_n 0, 1) := by decide +kernel
theorem dX1_init_81 : decode cX1_init 81 = .ok (.sipush 400, 3) := by decide +kernel
theorem dX1_init_84 : decode cX1_init 84 = .ok (.newarray .int, 2) := by decide +kernel
theorem dX1_init_86 : decode cX1_init 86 = .ok (.putfield 41, 3) := by decide +kernel
theorem dX1_init_89 : decode cX1_init 89 = .ok (.aload_n 0, 1) := by decide +kernel
theorem dX1_init_90 : decode cX1_init 90 = .ok (.sipush 400, 3) := by decide +kernel
theorem dX1_init_93 : decode cX1_init 93 = .ok (.newarray .int, 2) := by decide +kernel
theorem dX1_init_95 : decode cX1_init 95 = .ok (.putfield 44, 3) := by decide +kernel
theorem dX1_init_98 : decode cX1_init 98 = .ok (.aload_n 0, 1) := by decide +kernel
theorem dX1_init_99 : decode cX1_init 99 = .ok (.getfield 22, 3) := by decide +kernel
theorem dX1_init_102 : decode cX1_init 102 = .ok (.iconst (-1), 1) := by decide +kernel
theorem dX1_init_103 : decode cX1_init 103 = .ok (.invokestatic 47, 3) := by decide +kernel
theorem dX1_init_106 : decode cX1_init 106 = .ok (.aload_n 0, 1) := by decide +kernel
theorem dX1_init_107 : decode cX1_init 107 = .ok (.getfield 32, 3) := by decide +kernel
theorem dX1_init_110 : decode cX1_init 110 = .ok (.iconst (-1), 1) := by decide +kernel
theorem dX1_init_111 : decode cX1_init 111 = .ok (.invokestatic 47, 3) := by decide +kernel
theorem dX1_init_114 : decode cX1_init 114 = .ok (.return_, 1) := by decide +kernel
theorem dX1_copyFrom_0 : decode cX1_copyFrom 0 = .ok (.aload_n 0, 1) := by decide +kernel
theorem dX1_copyFrom_1 : decode cX1_copyFrom 1 = .ok (.aload_n 1, 1) := by decide +kernel
theorem dX1_copyFrom_2 : decode cX1_copyFrom 2 = .ok (.getfield 53, 3) := by decide +kernel
theorem dX1_copyFrom_5 : decode cX1_copyFrom 5 = .ok (.putfield 53, 3) := by decide +kernel
theorem dX1_copyFrom_8 : decode cX1_copyFrom 8 = .ok (.aload_n 0, 1) := by decide +kernel
theorem dX1_copyFrom_9 : decode cX1_copyFrom 9 = .ok (.aload_n 1, 1) := by decide +kernel
theorem dX1_copyFrom_10 : decode cX1_copyFrom 10 = .ok (.getfield 57, 3) := by decide +kernel
theorem dX1_copyFrom_13 : decode cX1_copyFrom 13 = .ok (.putfield 57, 3) := by decide +kernel
theorem dX1_copyFrom_16 : decode cX1_copyFrom 16 = .ok (.iconst 0, 1) := by decide +kernel
theorem dX1_copyFrom_17 : decode cX1_copyFrom 17 = .ok (.istore_n 2, 1) := by decide +kernel
theorem dX1_copyFrom_18 : decode cX1_copyFrom 18 = .ok (.iload_n 2, 1) := by decide +kernel
theorem dX1_copyFrom_19 : decode cX1_copyFrom 19 = .ok (.bipush 8, 2) := by decide +kernel
theorem dX1_copyFrom_21 : decode cX1_copyFrom 21 = .ok (.if_icmp .ge 45, 3) := by decide +kernel
theorem dX1_copyFrom_24 : decode cX1_copyFrom 24 = .ok (.aload_n 0, 1) := by decide +kernel
theorem dX1_copyFrom_25 : decode cX1_copyFrom 25 = .ok (.getfield 9, 3) := by decide +kernel
theorem dX1_copyFrom_28 : decode cX1_copyFrom 28 = .ok (.iload_n 2, 1) := by decide +kernel
theorem dX1_copyFrom_29 : decode cX1_copyFrom 29 = .ok (.aload_n 1, 1) := by decide +kernel
theorem dX1_copyFrom_30 : decode cX1_copyFrom 30 = .ok (.getfield 9, 3) := by decide +kernel
theorem dX1_copyFrom_33 : decode cX1_copyFrom 33 = .ok (.iload_n 2, 1) := by decide +kernel
theorem dX1_copyFrom_34 : decode cX1_copyFrom 34 = .ok (.iaload, 1) := by decide +kernel
theorem dX1_copyFrom_35 : decode cX1_copyFrom 35 = .ok (.iastore, 1) := by decide +kernel
theorem dX1_copyFrom_36 : decode cX1_copyFrom 36 = .ok (.aload_n 0, 1) := by decide +kernel
theorem dX1_copyFrom_37 : decode cX1_copyFrom 37 = .ok (.getfield 15, 3) := by decide +kernel
theorem dX1_copyFrom_40 : decode cX1_copyFrom 40 = .ok (.iload_n 2, 1) := by decide +kernel
theorem dX1_copyFrom_41 : decode cX1_copyFrom 41 = .ok (.aload_n 1, 1) := by decide +kernel
theorem dX1_copyFrom_42 : decode cX1_copyFrom 42 = .ok (.getfield 15, 3) := by decide +kernel
theorem dX1_copyFrom_45 : decode cX1_copyFrom 45 = .ok (.iload_n 2, 1) := by decide +kernel
theorem dX1_copyFrom_46 : decode cX1_copyFrom 46 = .ok (.iaload, 1) := by decide +kernel
theorem dX1_copyFrom_47 : decode cX1_copyFrom 47 = .ok (.iastore, 1) := by decide +kernel
theorem dX1_copyFrom_48 : decode cX1_copyFrom 48 = .ok (.aload_n 0, 1) := by decide +kernel
theorem dX1_copyFrom_49 : decode cX1_copyFrom 49 = .ok (.getfield 18, 3) := by decide +kernel
theorem dX1_copyFrom_52 : decode cX1_copyFrom 52 = .ok (.iload_n 2, 1) := by decide +kernel
theorem dX1_copyFrom_53 : decode cX1_copyFrom 53 = .ok (.aload_n 1, 1) := by decide +kernel
theorem dX1_copyFrom_54 : decode cX1_copyFrom 54 = .ok (.getfield 18, 3) := by decide +kernel
theorem dX1_copyFrom_57 : decode cX1_copyFrom 57 = .ok (.iload_n 2, 1) := by decide +kernel
theorem dX1_copyFrom_58 : decode cX1_copyFrom 58 = .ok (.caload, 1) := by decide +kernel
theorem dX1_copyFrom_59 : decode cX1_copyFrom 59 = .ok (.castore, 1) := by decide +kernel
theorem dX1_copyFrom_60 : decode cX1_copyFrom 60 = .ok (.iinc 2 1, 3) := by decide +kernel
theorem dX1_copyFrom_63 : decode cX1_copyFrom 63 = .ok (.goto (-45), 3) := by decide +kernel
theorem dX1_copyFrom_66 : decode cX1_copyFrom 66 = .ok (.iconst 0, 1) := by decide +kernel
theorem dX1_copyFrom_67 : decode cX1_copyFrom 67 = .ok (.istore_n 2, 1) := by decide +kernel
theorem dX1_copyFrom_68 : decode cX1_copyFrom 68 = .ok (.iload_n 2, 1) := by decide +kernel
theorem dX1_copyFrom_69 : decode cX1_copyFrom 69 = .ok (.sipush 256, 3) := by decide +kernel
theorem dX1_copyFrom_72 : decode cX1_copyFrom 72 = .ok (.if_icmp .ge 21, 3) := by decide +kernel
theorem dX1_copyFrom_75 : decode cX1_copyFrom 75 = .ok (.aload_n 0, 1) := by decide +kernel
theorem dX1_copyFrom_76 : decode cX1_copyFrom 76 = .ok (.getfield 25, 3) := by decide +kernel
theorem dX1_copyFrom_79 : decode cX1_copyFrom 79 = .ok (.iload_n 2, 1) := by decide +kernel
theorem dX1_copyFrom_80 : decode cX1_copyFrom 80 = .ok (.aload_n 1, 1) := by decide +kernel
theorem dX1_copyFrom_81 : decode cX1_copyFrom 81 = .ok (.getfield 25, 3) := by decide +kernel
theorem dX1_copyFrom_84 : decode cX1_copyFrom 84 = .ok (.iload_n 2, 1) := by decide +kernel
theorem dX1_copyFrom_85 : decode cX1_copyFrom 85 = .ok (.baload, 1) := by decide +kernel
theorem dX1_copyFrom_86 : decode cX1_copyFrom 86 = .ok (.bastore, 1) := by decide +kernel
theorem dX1_copyFrom_87 : decode cX1_copyFrom 87 = .ok (.iinc 2 1, 3) := by decide +kernel
theorem dX1_copyFrom_90 : decode cX1_copyFrom 90 = .ok (.goto (-22), 3) := by decide +kernel
theorem dX1_copyFrom_93 : decode cX1_copyFrom 93 = .ok (.aload_n 1, 1) := by decide +kernel
theorem dX1_copyFrom_94 : decode cX1_copyFrom 94 = .ok (.getfield 22, 3) := by decide +kernel
theorem dX1_copyFrom_97 : decode cX1_copyFrom 97 = .ok (.iconst 0, 1) := by decide +kernel
theorem dX1_copyFrom_98 : decode cX1_copyFrom 98 = .ok (.aload_n 0, 1) := by decide +kernel
theorem dX1_copyFrom_99 : decode cX1_copyFrom 99 = .ok (.getfield 22, 3) := by decide +kernel
theorem dX1_copyFrom_102 : decode cX1_copyFrom 102 = .ok (.iconst 0, 1) := by decide +kernel
theorem dX1_copyFrom_103 : decode cX1_copyFrom 103 = .ok (.sipush 256, 3) := by decide +kernel
theorem dX1_copyFrom_106 : decode cX1_copyFrom 106 = .ok (.invokestatic 60, 3) := by decide +kernel
theorem dX1_copyFrom_109 : decode cX1_copyFrom 109 = .ok (.aload_n 1, 1) := by decide +kernel
theorem dX1_copyFrom_110 : decode cX1_copyFrom 110 = .ok (.getfield 29, 3) := by decide +kernel
theorem dX1_copyFrom_113 : decode cX1_copyFrom 113 = .ok (.iconst 0, 1) := by decide +kernel
theorem dX1_copyFrom_114 : decode cX1_copyFrom 114 = .ok (.aload_n 0, 1) := by decide +kernel
theorem dX1_copyFrom_115 : decode cX1_copyFrom 115 = .ok (.getfield 29, 3) := by decide +kernel
theorem dX1_copyFrom_118 : decode cX1_copyFrom 118 = .ok (.iconst 0, 1) := by decide +kernel
theorem dX1_copyFrom_119 : decode cX1_copyFrom 119 = .ok (.iconst 4, 1) := by decide +kernel
theorem dX1_copyFrom_120 : decode cX1_copyFrom 120 = .ok (.invokestatic 60, 3) := by decide +kernel
theorem dX1_copyFrom_123 : decode cX1_copyFrom 123 = .ok (.aload_n 1, 1) := by decide +kernel
theorem dX1_copyFrom_124 : decode cX1_copyFrom 124 = .ok (.getfield 32, 3) := by decide +kernel
theorem dX1_copyFrom_127 : decode cX1_copyFrom 127 = .ok (.iconst 0, 1) := by decide +kernel
theorem dX1_copyFrom_128 : decode cX1_copyFrom 128 = .ok (.aload_n 0, 1) := by decide +kernel
theorem dX1_copyFrom_129 : decode cX1_copyFrom 129 = .ok (.getfield 32, 3) := by decide +kernel
theorem dX1_copyFrom_132 : decode cX1_copyFrom 132 = .ok (.iconst 0, 1) := by decide +kernel
theorem dX1_copyFrom_133 : decode cX1_copyFrom 133 = .ok (.sipush 400, 3) := by decide +kernel
theorem dX1_copyFrom_136 : decode cX1_copyFrom 136 = .ok (.invokestatic 60, 3) := by decide +kernel
theorem dX1_copyFrom_139 : decode cX1_copyFrom 139 = .ok (.aload_n 1, 1) := by decide +kernel
theorem dX1_copyFrom_140 : decode cX1_copyFrom 140 = .ok (.getfield 35, 3) := by decide +kernel
theorem dX1_copyFrom_143 : decode cX1_copyFrom 143 = .ok (.iconst 0, 1) := by decide +kernel
theorem dX1_copyFrom_144 : decode cX1_copyFrom 144 = .ok (.aload_n 0, 1) := by decide +kernel
theorem dX1_copyFrom_145 : decode cX1_copyFrom 145 = .ok (.getfield 35, 3) := by decide +kernel
theorem dX1_copyFrom_148 : decode cX1_copyFrom 148 = .ok (.iconst 0, 1) := by decide +kernel
theorem dX1_copyFrom_149 : decode cX1_copyFrom 149 = .ok (.sipush 400, 3) := by decide +kernel
theorem dX1_copyFrom_152 : decode cX1_copyFrom 152 = .ok (.invokestatic 60, 3) := by decide +kernel
theorem dX1_copyFrom_155 : decode cX1_copyFrom 155 = .ok (.aload_n 1, 1) := by decide +kernel
theorem dX1_copyFrom_156 : decode cX1_copyFrom 156 = .ok (.getfield 38, 3) := by decide +kernel
theorem dX1_copyFrom_159 : decode cX1_copyFrom 159 = .ok (.iconst 0, 1) := by decide +kernel
theorem dX1_copyFrom_160 : decode cX1_copyFrom 160 = .ok (.aload_n 0, 1) := by decide +kernel
theorem dX1_copyFrom_161 : decode cX1_copyFrom 161 = .ok (.getfield 38, 3) := by decide +kernel
theorem dX1_copyFrom_164 : decode cX1_copyFrom 164 = .ok (.iconst 0, 1) := by decide +kernel
theorem dX1_copyFrom_165 : decode cX1_copyFrom 165 = .ok (.sipush 1200, 3) := by decide +kernel
theorem dX1_copyFrom_168 : decode cX1_copyFrom 168 = .ok (.invokestatic 60, 3) := by decide +kernel
theorem dX1_copyFrom_171 : decode cX1_copyFrom 171 = .ok (.aload_n 1, 1) := by decide +kernel
theorem dX1_copyFrom_172 : decode cX1_copyFrom 172 = .ok (.getfield 41, 3) := by decide +kernel
theorem dX1_copyFrom_175 : decode cX1_copyFrom 175 = .ok (.iconst 0, 1) := by decide +kernel
theorem dX1_copyFrom_176 : decode cX1_copyFrom 176 = .ok (.aload_n 0, 1) := by decide +kernel
theorem dX1_copyFrom_177 : decode cX1_copyFrom 177 = .ok (.getfield 41, 3) := by decide +kernel
theorem dX1_copyFrom_180 : decode cX1_copyFrom 180 = .ok (.iconst 0, 1) := by decide +kernel
theorem dX1_copyFrom_181 : decode cX1_copyFrom 181 = .ok (.sipush 400, 3) := by decide +kernel
theorem dX1_copyFrom_184 : decode cX1_copyFrom 184 = .ok (.invokestatic 60, 3) := by decide +kernel
theorem dX1_copyFrom_187 : decode cX1_copyFrom 187 = .ok (.return_, 1) := by decide +kernel
theorem dX1_installDisk_0 : decode cX1_installDisk 0 = .ok (.aload_n 0, 1) := by decide +kernel
theorem dX1_installDisk_1 : decode cX1_installDisk 1 = .ok (.getfield 9, 3) := by decide +kernel
theorem dX1_installDisk_4 : decode cX1_installDisk 4 = .ok (.aload_n 0, 1) := by decide +kernel
theorem dX1_installDisk_5 : decode cX1_installDisk 5 = .ok (.getfield 53, 3) := by decide +kernel
theorem dX1_installDisk_8 : decode cX1_installDisk 8 = .ok (.iload_n 1, 1) := by decide +kernel
theorem dX1_installDisk_9 : decode cX1_installDisk 9 = .ok (.iastore, 1) := by decide +kernel
theorem dX1_installDisk_10 : decode cX1_installDisk 10 = .ok (.aload_n 0, 1) := by decide +kernel
theorem dX1_installDisk_11 : decode cX1_installDisk 11 = .ok (.getfield 18, 3) := by decide +kernel
theorem dX1_installDisk_14 : decode cX1_installDisk 14 = .ok (.aload_n 0, 1) := by decide +kernel
theorem dX1_installDisk_15 : decode cX1_installDisk 15 = .ok (.getfield 53, 3) := by decide +kernel
theorem dX1_installDisk_18 : decode cX1_installDisk 18 = .ok (.bipush 115, 2) := by decide +kernel
theorem dX1_installDisk_20 : decode cX1_installDisk 20 = .ok (.castore, 1) := by decide +kernel
theorem dX1_installDisk_21 : decode cX1_installDisk 21 = .ok (.aload_n 0, 1) := by decide +kernel
theorem dX1_installDisk_22 : decode cX1_installDisk 22 = .ok (.dup, 1) := by decide +kernel
theorem dX1_installDisk_23 : decode cX1_installDisk 23 = .ok (.getfield 53, 3) := by decide +kernel
theorem dX1_installDisk_26 : decode cX1_installDisk 26 = .ok (.dup_x1, 1) := by decide +kernel
theorem dX1_installDisk_27 : decode cX1_installDisk 27 = .ok (.iconst 1, 1) := by decide +kernel
theorem dX1_installDisk_28 : decode cX1_installDisk 28 = .ok (.iadd, 1) := by decide +kernel
theorem dX1_installDisk_29 : decode cX1_installDisk 29 = .ok (.putfield 53, 3) := by decide +kernel
theorem dX1_installDisk_32 : decode cX1_installDisk 32 = .ok (.ireturn, 1) := by decide +kernel
theorem dX1_disksInState_0 : decode cX1_disksInState 0 = .ok (.iconst 0, 1) := by decide +kernel
theorem dX1_disksInState_1 : decode cX1_disksInState 1 = .ok (.istore_n 2, 1) := by decide +kernel
theorem dX1_disksInState_2 : decode cX1_disksInState 2 = .ok (.iconst 0, 1) := by decide +kernel
theorem dX1_disksInState_3 : decode cX1_disksInState 3 = .ok (.istore_n 3, 1) := by decide +kernel
theorem dX1_disksInState_4 : decode cX1_disksInState 4 = .ok (.iload_n 3, 1) := by decide +kernel
theorem dX1_disksInState_5 : decode cX1_disksInState 5 = .ok (.aload_n 0, 1) := by decide +kernel
theorem dX1_disksInState_6 : decode cX1_disksInState 6 = .ok (.getfield 53, 3) := by decide +kernel
theorem dX1_disksInState_9 : decode cX1_disksInState 9 = .ok (.if_icmp .ge 25, 3) := by decide +kernel
theorem dX1_disksInState_12 : decode cX1_disksInState 12 = .ok (.aload_n 0, 1) := by decide +kernel
theorem dX1_disksInState_13 : decode cX1_disksInState 13 = .ok (.getfield 18, 3) := by decide +kernel
theorem dX1_disksInState_16 : decode cX1_disksInState 16 = .ok (.iload_n 3, 1) := by decide +kernel
theorem dX1_disksInState_17 : decode cX1_disksInState 17 = .ok (.caload, 1) := by decide +kernel
theorem dX1_disksInState_18 : decode cX1_disksInState 18 = .ok (.iload_n 1, 1) := by decide +kernel
theorem dX1_disksInState_19 : decode cX1_disksInState 19 = .ok (.if_icmp .ne 9, 3) := by decide +kernel
theorem dX1_disksInState_22 : decode cX1_disksInState 22 = .ok (.iload_n 2, 1) := by decide +kernel
theorem dX1_disksInState_23 : decode cX1_disksInState 23 = .ok (.iconst 1, 1) := by decide +kernel
theorem dX1_disksInState_24 : decode cX1_disksInState 24 = .ok (.iload_n 3, 1) := by decide +kernel
theorem dX1_disksInState_25 : decode cX1_disksInState 25 = .ok (.ishl, 1) := by decide +kernel
theorem dX1_disksInState_26 : decode cX1_disksInState 26 = .ok (.ior, 1) := by decide +kernel
theorem dX1_disksInState_27 : decode cX1_disksInState 27 = .ok (.istore_n 2, 1) := by decide +kernel
theorem dX1_disksInState_28 : decode cX1_disksInState 28 = .ok (.iinc 3 1, 3) := by decide +kernel
theorem dX1_disksInState_31 : decode cX1_disksInState 31 = .ok (.goto (-27), 3) := by decide +kernel
theorem dX1_disksInState_34 : decode cX1_disksInState 34 = .ok (.iload_n 2, 1) := by decide +kernel
theorem dX1_disksInState_35 : decode cX1_disksInState 35 = .ok (.ireturn, 1) := by decide +kernel
theorem dX1_wantedOf_0 : decode cX1_wantedOf 0 = .ok (.aload_n 0, 1) := by decide +kernel
theorem dX1_wantedOf_1 : decode cX1_wantedOf 1 = .ok (.getfield 29, 3) := by decide +kernel
theorem dX1_wantedOf_4 : decode cX1_wantedOf 4 = .ok (.iload_n 1, 1) := by decide +kernel
theorem dX1_wantedOf_5 : decode cX1_wantedOf 5 = .ok (.bipush 100, 2) := by decide +kernel
theorem dX1_wantedOf_7 : decode cX1_wantedOf 7 = .ok (.idiv, 1) := by decide +kernel
theorem dX1_wantedOf_8 : decode cX1_wantedOf 8 = .ok (.iaload, 1) := by decide +kernel
theorem dX1_wantedOf_9 : decode cX1_wantedOf 9 = .ok (.ireturn, 1) := by decide +kernel
theorem dX1_addressOf_0 : decode cX1_addressOf 0 = .ok (.aload_n 0, 1) := by decide +kernel
theorem dX1_addressOf_1 : decode cX1_addressOf 1 = .ok (.getfield 38, 3) := by decide +kernel
theorem dX1_addressOf_4 : decode cX1_addressOf 4 = .ok (.iload_n 1, 1) := by decide +kernel
theorem dX1_addressOf_5 : decode cX1_addressOf 5 = .ok (.iconst 3, 1) := by decide +kernel
theorem dX1_addressOf_6 : decode cX1_addressOf 6 = .ok (.imul, 1) := by decide +kernel
theorem dX1_addressOf_7 : decode cX1_addressOf 7 = .ok (.iload_n 2, 1) := by decide +kernel
theorem dX1_addressOf_8 : decode cX1_addressOf 8 = .ok (.iadd, 1) := by decide +kernel
theorem dX1_addressOf_9 : decode cX1_addressOf 9 = .ok (.iaload, 1) := by decide +kernel
theorem dX1_addressOf_10 : decode cX1_addressOf 10 = .ok (.ireturn, 1) := by decide +kernel
theorem dX1_disksWithCopy_0 : decode cX1_disksWithCopy 0 = .ok (.iconst 0, 1) := by decide +kernel
theorem dX1_disksWithCopy_1 : decode cX1_disksWithCopy 1 = .ok (.istore_n 2, 1) := by decide +kernel
theorem dX1_disksWithCopy_2 : decode cX1_disksWithCopy 2 = .ok (.iconst 0, 1) := by decide +kernel
theorem dX1_disksWithCopy_3 : decode cX1_disksWithCopy 3 = .ok (.istore_n 3, 1) := by decide +kernel
theorem dX1_disksWithCopy_4 : decode cX1_disksWithCopy 4 = .ok (.iload_n 3, 1) := by decide +kernel
theorem dX1_disksWithCopy_5 : decode cX1_disksWithCopy 5 = .ok (.aload_n 0, 1) := by decide +kernel
theorem dX1_disksWithCopy_6 : decode cX1_disksWithCopy 6 = .ok (.getfield 35, 3) := by decide +kernel
theorem dX1_disksWithCopy_9 : decode cX1_disksWithCopy 9 = .ok (.iload_n 1, 1) := by decide +kernel
theorem dX1_disksWithCopy_10 : decode cX1_disksWithCopy 10 = .ok (.iaload, 1) := by decide +kernel
theorem dX1_disksWithCopy_11 : decode cX1_disksWithCopy 11 = .ok (.if_icmp .ge 23, 3) := by decide +kernel
theorem dX1_disksWithCopy_14 : decode cX1_disksWithCopy 14 = .ok (.iload_n 2, 1) := by decide +kernel
theorem dX1_disksWithCopy_15 : decode cX1_disksWithCopy 15 = .ok (.iconst 1, 1) := by decide +kernel
theorem dX1_disksWithCopy_16 : decode cX1_disksWithCopy 16 = .ok (.aload_n 0, 1) := by decide +kernel
theorem dX1_disksWithCopy_17 : decode cX1_disksWithCopy 17 = .ok (.iload_n 1, 1) := by decide +kernel
theorem dX1_disksWithCopy_18 : decode cX1_disksWithCopy 18 = .ok (.iload_n 3, 1) := by decide +kernel
theorem dX1_disksWithCopy_19 : decode cX1_disksWithCopy 19 = .ok (.invokevirtual 66, 3) := by decide +kernel
theorem dX1_disksWithCopy_22 : decode cX1_disksWithCopy 22 = .ok (.bipush 32, 2) := by decide +kernel
theorem dX1_disksWithCopy_24 : decode cX1_disksWithCopy 24 = .ok (.idiv, 1) := by decide +kernel
theorem dX1_disksWithCopy_25 : decode cX1_disksWithCopy 25 = .ok (.ishl, 1) := by decide +kernel
theorem dX1_disksWithCopy_26 : decode cX1_disksWithCopy 26 = .ok (.ior, 1) := by decide +kernel
theorem dX1_disksWithCopy_27 : decode cX1_disksWithCopy 27 = .ok (.istore_n 2, 1) := by decide +kernel
theorem dX1_disksWithCopy_28 : decode cX1_disksWithCopy 28 = .ok (.iinc 3 1, 3) := by decide +kernel
theorem dX1_disksWithCopy_31 : decode cX1_disksWithCopy 31 = .ok (.goto (-27), 3) := by decide +kernel
theorem dX1_disksWithCopy_34 : decode cX1_disksWithCopy 34 = .ok (.iload_n 2, 1) := by decide +kernel
theorem dX1_disksWithCopy_35 : decode cX1_disksWithCopy 35 = .ok (.ireturn, 1) := by decide +kernel
theorem dX1_disksWithGoodCopy_0 : decode cX1_disksWithGoodCopy 0 = .ok (.iconst 0, 1) := by decide +kernel
theorem dX1_disksWithGoodCopy_1 : decode cX1_disksWithGoodCopy 1 = .ok (.istore_n 2, 1) := by decide +kernel
theorem dX1_disksWithGoodCopy_2 : decode cX1_disksWithGoodCopy 2 = .ok (.iconst 0, 1) := by decide +kernel
theorem dX1_disksWithGoodCopy_3 : decode cX1_disksWithGoodCopy 3 = .ok (.istore_n 3, 1) := by decide +kernel
theorem dX1_disksWithGoodCopy_4 : decode cX1_disksWithGoodCopy 4 = .ok (.iload_n 3, 1) := by decide +kernel
theorem dX1_disksWithGoodCopy_5 : decode cX1_disksWithGoodCopy 5 = .ok (.aload_n 0, 1) := by decide +kernel
theorem dX1_disksWithGoodCopy_6 : decode cX1_disksWithGoodCopy 6 = .ok (.getfield 35, 3) := by decide +kernel
theorem dX1_disksWithGoodCopy_9 : decode cX1_disksWithGoodCopy 9 = .ok (.iload_n 1, 1) := by decide +kernel
theorem dX1_disksWithGoodCopy_10 : decode cX1_disksWithGoodCopy 10 = .ok (.iaload, 1) := by decide +kernel
theorem dX1_disksWithGoodCopy_11 : decode cX1_disksWithGoodCopy 11 = .ok (.if_icmp .ge 37, 3) := by decide +kernel
theorem dX1_disksWithGoodCopy_14 : decode cX1_disksWithGoodCopy 14 = .ok (.aload_n 0, 1) := by decide +kernel
theorem dX1_disksWithGoodCopy_15 : decode cX1_disksWithGoodCopy 15 = .ok (.iload_n 1, 1) := by decide +kernel
theorem dX1_disksWithGoodCopy_16 : decode cX1_disksWithGoodCopy 16 = .ok (.iload_n 3, 1) := by decide +kernel
theorem dX1_disksWithGoodCopy_17 : decode cX1_disksWithGoodCopy 17 = .ok (.invokevirtual 66, 3) := by decide +kernel
theorem dX1_disksWithGoodCopy_20 : decode cX1_disksWithGoodCopy 20 = .ok (.istore 4, 2) := by decide +kernel
theorem dX1_disksWithGoodCopy_22 : decode cX1_disksWithGoodCopy 22 = .ok (.aload_n 0, 1) := by decide +kernel
theorem dX1_disksWithGoodCopy_23 : decode cX1_disksWithGoodCopy 23 = .ok (.getfield 25, 3) := by decide +kernel
theorem dX1_disksWithGoodCopy_26 : decode cX1_disksWithGoodCopy 26 = .ok (.iload 4, 2) := by decide +kernel
theorem dX1_disksWithGoodCopy_28 : decode cX1_disksWithGoodCopy 28 = .ok (.baload, 1) := by decide +kernel
theorem dX1_disksWithGoodCopy_29 : decode cX1_disksWithGoodCopy 29 = .ok (.ifCond .ne 13, 3) := by decide +kernel
theorem dX1_disksWithGoodCopy_32 : decode cX1_disksWithGoodCopy 32 = .ok (.iload_n 2, 1) := by decide +kernel
theorem dX1_disksWithGoodCopy_33 : decode cX1_disksWithGoodCopy 33 = .ok (.iconst 1, 1) := by decide +kernel
theorem dX1_disksWithGoodCopy_34 : decode cX1_disksWithGoodCopy 34 = .ok (.iload 4, 2) := by decide +kernel
theorem dX1_disksWithGoodCopy_36 : decode cX1_disksWithGoodCopy 36 = .ok (.bipush 32, 2) := by decide +kernel
theorem dX1_disksWithGoodCopy_38 : decode cX1_disksWithGoodCopy 38 = .ok (.idiv, 1) := by decide +kernel
theorem dX1_disksWithGoodCopy_39 : decode cX1_disksWithGoodCopy 39 = .ok (.ishl, 1) := by decide +kernel
theorem dX1_disksWithGoodCopy_40 : decode cX1_disksWithGoodCopy 40 = .ok (.ior, 1) := by decide +kernel
theorem dX1_disksWithGoodCopy_41 : decode cX1_disksWithGoodCopy 41 = .ok (.istore_n 2, 1) := by decide +kernel
theorem dX1_disksWithGoodCopy_42 : decode cX1_disksWithGoodCopy 42 = .ok (.iinc 3 1, 3) := by decide +kernel
theorem dX1_disksWithGoodCopy_45 : decode cX1_disksWithGoodCopy 45 = .ok (.goto (-41), 3) := by decide +kernel
theorem dX1_disksWithGoodCopy_48 : decode cX1_disksWithGoodCopy 48 = .ok (.iload_n 2, 1) := by decide +kernel
theorem dX1_disksWithGoodCopy_49 : decode cX1_disksWithGoodCopy 49 = .ok (.ireturn, 1) := by decide +kernel
theorem dX1_hasLost_0 : decode cX1_hasLost 0 = .ok (.aload_n 0, 1) := by decide +kernel
theorem dX1_hasLost_1 : decode cX1_hasLost 1 = .ok (.getfield 32, 3) := by decide +kernel
theorem dX1_hasLost_4 : decode cX1_hasLost 4 = .ok (.iload_n 1, 1) := by decide +kernel
theorem dX1_hasLost_5 : decode cX1_hasLost 5 = .ok (.iaload, 1) := by decide +kernel
theorem dX1_hasLost_6 : decode cX1_hasLost 6 = .ok (.iconst (-1), 1) := by decide +kernel
theorem dX1_hasLost_7 : decode cX1_hasLost 7 = .ok (.if_icmp .eq 15, 3) := by decide +kernel
theorem dX1_hasLost_10 : decode cX1_hasLost 10 = .ok (.aload_n 0, 1) := by decide +kernel
theorem dX1_hasLost_11 : decode cX1_hasLost 11 = .ok (.iload_n 1, 1) := by decide +kernel
theorem dX1_hasLost_12 : decode cX1_hasLost 12 = .ok (.invokevirtual 70, 3) := by decide +kernel
theorem dX1_hasLost_15 : decode cX1_hasLost 15 = .ok (.ifCond .ne 7, 3) := by decide +kernel
theorem dX1_hasLost_18 : decode cX1_hasLost 18 = .ok (.iconst 1, 1) := by decide +kernel
theorem dX1_hasLost_19 : decode cX1_hasLost 19 = .ok (.goto 4, 3) := by decide +kernel
theorem dX1_hasLost_22 : decode cX1_hasLost 22 = .ok (.iconst 0, 1) := by decide +kernel
theorem dX1_hasLost_23 : decode cX1_hasLost 23 = .ok (.ireturn, 1) := by decide +kernel
theorem dX1_countWritten_0 : decode cX1_countWritten 0 = .ok (.iconst 0, 1) := by decide +kernel
theorem dX1_countWritten_1 : decode cX1_countWritten 1 = .ok (.istore_n 2, 1) := by decide +kernel
theorem dX1_countWritten_2 : decode cX1_countWritten 2 = .ok (.iconst 0, 1) := by decide +kernel
theorem dX1_countWritten_3 : decode cX1_countWritten 3 = .ok (.istore_n 3, 1) := by decide +kernel
theorem dX1_countWritten_4 : decode cX1_countWritten 4 = .ok (.iload_n 3, 1) := by decide +kernel
theorem dX1_countWritten_5 : decode cX1_countWritten 5 = .ok (.aload_n 0, 1) := by decide +kernel
theorem dX1_countWritten_6 : decode cX1_countWritten 6 = .ok (.getfield 57, 3) := by decide +kernel
theorem dX1_countWritten_9 : decode cX1_countWritten 9 = .ok (.if_icmp .ge 25, 3) := by decide +kernel
theorem dX1_countWritten_12 : decode cX1_countWritten 12 = .ok (.aload_n 0, 1) := by decide +kernel
theorem dX1_countWritten_13 : decode cX1_countWritten 13 = .ok (.getfield 41, 3) := by decide +kernel
theorem dX1_countWritten_16 : decode cX1_countWritten 16 = .ok (.iload_n 3, 1) := by decide +kernel
theorem dX1_countWritten_17 : decode cX1_countWritten 17 = .ok (.iaload, 1) := by decide +kernel
theorem dX1_countWritten_18 : decode cX1_countWritten 18 = .ok (.bipush 100, 2) := by decide +kernel
theorem dX1_countWritten_20 : decode cX1_countWritten 20 = .ok (.idiv, 1) := by decide +kernel
theorem dX1_countWritten_21 : decode cX1_countWritten 21 = .ok (.iload_n 1, 1) := by decide +kernel
theorem dX1_countWritten_22 : decode cX1_countWritten 22 = .ok (.if_icmp .ne 6, 3) := by decide +kernel
theorem dX1_countWritten_25 : decode cX1_countWritten 25 = .ok (.iinc 2 1, 3) := by decide +kernel
theorem dX1_countWritten_28 : decode cX1_countWritten 28 = .ok (.iinc 3 1, 3) := by decide +kernel
theorem dX1_countWritten_31 : decode cX1_countWritten 31 = .ok (.goto (-27), 3) := by decide +kernel
theorem dX1_countWritten_34 : decode cX1_countWritten 34 = .ok (.iload_n 2, 1) := by decide +kernel
theorem dX1_countWritten_35 : decode cX1_countWritten 35 = .ok (.ireturn, 1) := by decide +kernel
theorem dX1_countLost_0 : decode cX1_countLost 0 = .ok (.iconst 0, 1) := by decide +kernel
theorem dX1_countLost_1 : decode cX1_countLost 1 = .ok (.istore_n 1, 1) := by decide +kernel
theorem dX1_countLost_2 : decode cX1_countLost 2 = .ok (.iconst 0, 1) := by decide +kernel
theorem dX1_countLost_3 : decode cX1_countLost 3 = .ok (.istore_n 2, 1) := by decide +kernel
theorem dX1_countLost_4 : decode cX1_countLost 4 = .ok (.iload_n 2, 1) := by decide +kernel
theorem dX1_countLost_5 : decode cX1_countLost 5 = .ok (.aload_n 0, 1) := by decide +kernel
theorem dX1_countLost_6 : decode cX1_countLost 6 = .ok (.getfield 57, 3) := by decide +kernel
theorem dX1_countLost_9 : decode cX1_countLost 9 = .ok (.if_icmp .ge 25, 3) := by decide +kernel
theorem dX1_countLost_12 : decode cX1_countLost 12 = .ok (.aload_n 0, 1) := by decide +kernel
theorem dX1_countLost_13 : decode cX1_countLost 13 = .ok (.aload_n 0, 1) := by decide +kernel
theorem dX1_countLost_14 : decode cX1_countLost 14 = .ok (.getfield 41, 3) := by decide +kernel
theorem dX1_countLost_17 : decode cX1_countLost 17 = .ok (.iload_n 2, 1) := by decide +kernel
theorem dX1_countLost_18 : decode cX1_countLost 18 = .ok (.iaload, 1) := by decide +kernel
theorem dX1_countLost_19 : decode cX1_countLost 19 = .ok (.invokevirtual 74, 3) := by decide +kernel
theorem dX1_countLost_22 : decode cX1_countLost 22 = .ok (.ifCond .eq 6, 3) := by decide +kernel
theorem dX1_countLost_25 : decode cX1_countLost 25 = .ok (.iinc 1 1, 3) := by decide +kernel
theorem dX1_countLost_28 : decode cX1_countLost 28 = .ok (.iinc 2 1, 3) := by decide +kernel
theorem dX1_countLost_31 : decode cX1_countLost 31 = .ok (.goto (-27), 3) := by decide +kernel
theorem dX1_countLost_34 : decode cX1_countLost 34 = .ok (.iload_n 1, 1) := by decide +kernel
theorem dX1_countLost_35 : decode cX1_countLost 35 = .ok (.ireturn, 1) := by decide +kernel
theorem dX1_countDegraded_0 : decode cX1_countDegraded 0 = .ok (.iconst 0, 1) := by decide +kernel
theorem dX1_countDegraded_1 : decode cX1_countDegraded 1 = .ok (.istore_n 1, 1) := by decide +kernel
theorem dX1_countDegraded_2 : decode cX1_countDegraded 2 = .ok (.iconst 0, 1) := by decide +kernel
theorem dX1_countDegraded_3 : decode cX1_countDegraded 3 = .ok (.istore_n 2, 1) := by decide +kernel
theorem dX1_countDegraded_4 : decode cX1_countDegraded 4 = .ok (.iload_n 2, 1) := by decide +kernel
theorem dX1_countDegraded_5 : decode cX1_countDegraded 5 = .ok (.aload_n 0, 1) := by decide +kernel
theorem dX1_countDegraded_6 : decode cX1_countDegraded 6 = .ok (.getfield 57, 3) := by decide +kernel
theorem dX1_countDegraded_9 : decode cX1_countDegraded 9 = .ok (.if_icmp .ge 36, 3) := by decide +kernel
theorem dX1_countDegraded_12 : decode cX1_countDegraded 12 = .ok (.aload_n 0, 1) := by decide +kernel
theorem dX1_countDegraded_13 : decode cX1_countDegraded 13 = .ok (.getfield 35, 3) := by decide +kernel
theorem dX1_countDegraded_16 : decode cX1_countDegraded 16 = .ok (.aload_n 0, 1) := by decide +kernel
theorem dX1_countDegraded_17 : decode cX1_countDegraded 17 = .ok (.getfield 41, 3) := by decide +kernel
theorem dX1_countDegraded_20 : decode cX1_countDegraded 20 = .ok (.iload_n 2, 1) := by decide +kernel
theorem dX1_countDegraded_21 : decode cX1_countDegraded 21 = .ok (.iaload, 1) := by decide +kernel
theorem dX1_countDegraded_22 : decode cX1_countDegraded 22 = .ok (.iaload, 1) := by decide +kernel
theorem dX1_countDegraded_23 : decode cX1_countDegraded 23 = .ok (.aload_n 0, 1) := by decide +kernel
theorem dX1_countDegraded_24 : decode cX1_countDegraded 24 = .ok (.aload_n 0, 1) := by decide +kernel
theorem dX1_countDegraded_25 : decode cX1_countDegraded 25 = .ok (.getfield 41, 3) := by decide +kernel
theorem dX1_countDegraded_28 : decode cX1_countDegraded 28 = .ok (.iload_n 2, 1) := by decide +kernel
theorem dX1_countDegraded_29 : decode cX1_countDegraded 29 = .ok (.iaload, 1) := by decide +kernel
theorem dX1_countDegraded_30 : decode cX1_countDegraded 30 = .ok (.invokevirtual 78, 3) := by decide +kernel
theorem dX1_countDegraded_33 : decode cX1_countDegraded 33 = .ok (.if_icmp .ge 6, 3) := by decide +kernel
theorem dX1_countDegraded_36 : decode cX1_countDegraded 36 = .ok (.iinc 1 1, 3) := by decide +kernel
theorem dX1_countDegraded_39 : decode cX1_countDegraded 39 = .ok (.iinc 2 1, 3) := by decide +kernel
theorem dX1_countDegraded_42 : decode cX1_countDegraded 42 = .ok (.goto (-38), 3) := by decide +kernel
theorem dX1_countDegraded_45 : decode cX1_countDegraded 45 = .ok (.iload_n 1, 1) := by decide +kernel
theorem dX1_countDegraded_46 : decode cX1_countDegraded 46 = .ok (.ireturn, 1) := by decide +kernel
theorem dX1_countInSlots_0 : decode cX1_countInSlots 0 = .ok (.iconst 0, 1) := by decide +kernel
theorem dX1_countInSlots_1 : decode cX1_countInSlots 1 = .ok (.istore_n 2, 1) := by decide +kernel
theorem dX1_countInSlots_2 : decode cX1_countInSlots 2 = .ok (.iconst 0, 1) := by decide +kernel
theorem dX1_countInSlots_3 : decode cX1_countInSlots 3 = .ok (.istore_n 3, 1) := by decide +kernel
theorem dX1_countInSlots_4 : decode cX1_countInSlots 4 = .ok (.iload_n 3, 1) := by decide +kernel
theorem dX1_countInSlots_5 : decode cX1_countInSlots 5 = .ok (.sipush 256, 3) := by decide +kernel
theorem dX1_countInSlots_8 : decode cX1_countInSlots 8 = .ok (.if_icmp .ge 22, 3) := by decide +kernel
theorem dX1_countInSlots_11 : decode cX1_countInSlots 11 = .ok (.aload_n 0, 1) := by decide +kernel
theorem dX1_countInSlots_12 : decode cX1_countInSlots 12 = .ok (.getfield 22, 3) := by decide +kernel
theorem dX1_countInSlots_15 : decode cX1_countInSlots 15 = .ok (.iload_n 3, 1) := by decide +kernel
theorem dX1_countInSlots_16 : decode cX1_countInSlots 16 = .ok (.iaload, 1) := by decide +kernel
theorem dX1_countInSlots_17 : decode cX1_countInSlots 17 = .ok (.iload_n 1, 1) := by decide +kernel
theorem dX1_countInSlots_18 : decode cX1_countInSlots 18 = .ok (.if_icmp .ne 6, 3) := by decide +kernel
theorem dX1_countInSlots_21 : decode cX1_countInSlots 21 = .ok (.iinc 2 1, 3) := by decide +kernel
theorem dX1_countInSlots_24 : decode cX1_countInSlots 24 = .ok (.iinc 3 1, 3) := by decide +kernel
theorem dX1_countInSlots_27 : decode cX1_countInSlots 27 = .ok (.goto (-23), 3) := by decide +kernel
theorem dX1_countInSlots_30 : decode cX1_countInSlots 30 = .ok (.iload_n 2, 1) := by decide +kernel
theorem dX1_countInSlots_31 : decode cX1_countInSlots 31 = .ok (.ireturn, 1) := by decide +kernel
theorem dX1_freeOn_0 : decode cX1_freeOn 0 = .ok (.aload_n 0, 1) := by decide +kernel
theorem dX1_freeOn_1 : decode cX1_freeOn 1 = .ok (.getfield 9, 3) := by decide +kernel
theorem dX1_freeOn_4 : decode cX1_freeOn 4 = .ok (.iload_n 1, 1) := by decide +kernel
theorem dX1_freeOn_5 : decode cX1_freeOn 5 = .ok (.iaload, 1) := by decide +kernel
theorem dX1_freeOn_6 : decode cX1_freeOn 6 = .ok (.aload_n 0, 1) := by decide +kernel
theorem dX1_freeOn_7 : decode cX1_freeOn 7 = .ok (.getfield 15, 3) := by decide +kernel
theorem dX1_freeOn_10 : decode cX1_freeOn 10 = .ok (.iload_n 1, 1) := by decide +kernel
theorem dX1_freeOn_11 : decode cX1_freeOn 11 = .ok (.iaload, 1) := by decide +kernel
theorem dX1_freeOn_12 : decode cX1_freeOn 12 = .ok (.isub, 1) := by decide +kernel
theorem dX1_freeOn_13 : decode cX1_freeOn 13 = .ok (.ireturn, 1) := by decide +kernel
theorem dX1_findPlace_0 : decode cX1_findPlace 0 = .ok (.iconst (-1), 1) := by decide +kernel
theorem dX1_findPlace_1 : decode cX1_findPlace 1 = .ok (.istore_n 2, 1) := by decide +kernel
theorem dX1_findPlace_2 : decode cX1_findPlace 2 = .ok (.iconst 0, 1) := by decide +kernel
theorem dX1_findPlace_3 : decode cX1_findPlace 3 = .ok (.istore_n 3, 1) := by decide +kernel
theorem dX1_findPlace_4 : decode cX1_findPlace 4 = .ok (.iconst 0, 1) := by decide +kernel
theorem dX1_findPlace_5 : decode cX1_findPlace 5 = .ok (.istore 4, 2) := by decide +kernel
theorem dX1_findPlace_7 : decode cX1_findPlace 7 = .ok (.iload 4, 2) := by decide +kernel
theorem dX1_findPlace_9 : decode cX1_findPlace 9 = .ok (.aload_n 0, 1) := by decide +kernel
theorem dX1_findPlace_10 : decode cX1_findPlace 10 = .ok (.getfield 53, 3) := by decide +kernel
theorem dX1_findPlace_13 : decode cX1_findPlace 13 = .ok (.if_icmp .ge 62, 3) := by decide +kernel
theorem dX1_findPlace_16 : decode cX1_findPlace 16 = .ok (.aload_n 0, 1) := by decide +kernel
theorem dX1_findPlace_17 : decode cX1_findPlace 17 = .ok (.getfield 18, 3) := by decide +kernel
theorem dX1_findPlace_20 : decode cX1_findPlace 20 = .ok (.iload 4, 2) := by decide +kernel
theorem dX1_findPlace_22 : decode cX1_findPlace 22 = .ok (.caload, 1) := by decide +kernel
theorem dX1_findPlace_23 : decode cX1_findPlace 23 = .ok (.bipush 115, 2) := by decide +kernel
theorem dX1_findPlace_25 : decode cX1_findPlace 25 = .ok (.if_icmp .ne 16, 3) := by decide +kernel
theorem dX1_findPlace_28 : decode cX1_findPlace 28 = .ok (.iload_n 1, 1) := by decide +kernel
theorem dX1_findPlace_29 : decode cX1_findPlace 29 = .ok (.iload 4, 2) := by decide +kernel
theorem dX1_findPlace_31 : decode cX1_findPlace 31 = .ok (.ishr, 1) := by decide +kernel
theorem dX1_findPlace_32 : decode cX1_findPlace 32 = .ok (.iconst 1, 1) := by decide +kernel
theorem dX1_findPlace_33 : decode cX1_findPlace 33 = .ok (.iand, 1) := by decide +kernel
theorem dX1_findPlace_34 : decode cX1_findPlace 34 = .ok (.ifCond .ne 7, 3) := by decide +kernel
theorem dX1_findPlace_37 : decode cX1_findPlace 37 = .ok (.iconst 1, 1) := by decide +kernel
theorem dX1_findPlace_38 : decode cX1_findPlace 38 = .ok (.goto 4, 3) := by decide +kernel
theorem dX1_findPlace_41 : decode cX1_findPlace 41 = .ok (.iconst 0, 1) := by decide +kernel
theorem dX1_findPlace_42 : decode cX1_findPlace 42 = .ok (.istore 5, 2) := by decide +kernel
theorem dX1_findPlace_44 : decode cX1_findPlace 44 = .ok (.iload 5, 2) := by decide +kernel
theorem dX1_findPlace_46 : decode cX1_findPlace 46 = .ok (.ifCond .eq 23, 3) := by decide +kernel
theorem dX1_findPlace_49 : decode cX1_findPlace 49 = .ok (.aload_n 0, 1) := by decide +kernel
theorem dX1_findPlace_50 : decode cX1_findPlace 50 = .ok (.iload 4, 2) := by decide +kernel
theorem dX1_findPlace_52 : decode cX1_findPlace 52 = .ok (.invokevirtual 81, 3) := by decide +kernel
theorem dX1_findPlace_55 : decode cX1_findPlace 55 = .ok (.iload_n 3, 1) := by decide +kernel
theorem dX1_findPlace_56 : decode cX1_findPlace 56 = .ok (.if_icmp .le 13, 3) := by decide +kernel
theorem dX1_findPlace_59 : decode cX1_findPlace 59 = .ok (.iload 4, 2) := by decide +kernel
theorem dX1_findPlace_61 : decode cX1_findPlace 61 = .ok (.istore_n 2, 1) := by decide +kernel
theorem dX1_findPlace_62 : decode cX1_findPlace 62 = .ok (.aload_n 0, 1) := by decide +kernel
theorem dX1_findPlace_63 : decode cX1_findPlace 63 = .ok (.iload 4, 2) := by decide +kernel
theorem dX1_findPlace_65 : decode cX1_findPlace 65 = .ok (.invokevirtual 81, 3) := by decide +kernel
theorem dX1_findPlace_68 : decode cX1_findPlace 68 = .ok (.istore_n 3, 1) := by decide +kernel
theorem dX1_findPlace_69 : decode cX1_findPlace 69 = .ok (.iinc 4 1, 3) := by decide +kernel
theorem dX1_findPlace_72 : decode cX1_findPlace 72 = .ok (.goto (-65), 3) := by decide +kernel
theorem dX1_findPlace_75 : decode cX1_findPlace 75 = .ok (.iload_n 2, 1) := by decide +kernel
theorem dX1_findPlace_76 : decode cX1_findPlace 76 = .ok (.iconst (-1), 1) := by decide +kernel
theorem dX1_findPlace_77 : decode cX1_findPlace 77 = .ok (.if_icmp .ne 7, 3) := by decide +kernel
theorem dX1_findPlace_80 : decode cX1_findPlace 80 = .ok (.iconst (-1), 1) := by decide +kernel
theorem dX1_findPlace_81 : decode cX1_findPlace 81 = .ok (.goto 8, 3) := by decide +kernel
theorem dX1_findPlace_84 : decode cX1_findPlace 84 = .ok (.aload_n 0, 1) := by decide +kernel
theorem dX1_findPlace_85 : decode cX1_findPlace 85 = .ok (.iload_n 2, 1) := by decide +kernel
theorem dX1_findPlace_86 : decode cX1_findPlace 86 = .ok (.invokevirtual 84, 3) := by decide +kernel
theorem dX1_findPlace_89 : decode cX1_findPlace 89 = .ok (.ireturn, 1) := by decide +kernel
theorem dX1_firstFreeOn_0 : decode cX1_firstFreeOn 0 = .ok (.iload_n 1, 1) := by decide +kernel
theorem dX1_firstFreeOn_1 : decode cX1_firstFreeOn 1 = .ok (.bipush 32, 2) := by decide +kernel
theorem dX1_firstFreeOn_3 : decode cX1_firstFreeOn 3 = .ok (.imul, 1) := by decide +kernel
theorem dX1_firstFreeOn_4 : decode cX1_firstFreeOn 4 = .ok (.istore_n 2, 1) := by decide +kernel
theorem dX1_firstFreeOn_5 : decode cX1_firstFreeOn 5 = .ok (.iload_n 2, 1) := by decide +kernel
theorem dX1_firstFreeOn_6 : decode cX1_firstFreeOn 6 = .ok (.istore_n 3, 1) := by decide +kernel
theorem dX1_firstFreeOn_7 : decode cX1_firstFreeOn 7 = .ok (.iload_n 3, 1) := by decide +kernel
theorem dX1_firstFreeOn_8 : decode cX1_firstFreeOn 8 = .ok (.iload_n 2, 1) := by decide +kernel
theorem dX1_firstFreeOn_9 : decode cX1_firstFreeOn 9 = .ok (.aload_n 0, 1) := by decide +kernel
theorem dX1_firstFreeOn_10 : decode cX1_firstFreeOn 10 = .ok (.getfield 9, 3) := by decide +kernel
theorem dX1_firstFreeOn_13 : decode cX1_firstFreeOn 13 = .ok (.iload_n 1, 1) := by decide +kernel
theorem dX1_firstFreeOn_14 : decode cX1_firstFreeOn 14 = .ok (.iaload, 1) := by decide +kernel
theorem dX1_firstFreeOn_15 : decode cX1_firstFreeOn 15 = .ok (.iadd, 1) := by decide +kernel
theorem dX1_firstFreeOn_16 : decode cX1_firstFreeOn 16 = .ok (.if_icmp .ge 21, 3) := by decide +kernel
theorem dX1_firstFreeOn_19 : decode cX1_firstFreeOn 19 = .ok (.aload_n 0, 1) := by decide +kernel
theorem dX1_firstFreeOn_20 : decode cX1_firstFreeOn 20 = .ok (.getfield 22, 3) := by decide +kernel
theorem dX1_firstFreeOn_23 : decode cX1_firstFreeOn 23 = .ok (.iload_n 3, 1) := by decide +kernel
theorem dX1_firstFreeOn_24 : decode cX1_firstFreeOn 24 = .ok (.iaload, 1) := by decide +kernel
theorem dX1_firstFreeOn_25 : decode cX1_firstFreeOn 25 = .ok (.iconst (-1), 1) := by decide +kernel
theorem dX1_firstFreeOn_26 : decode cX1_firstFreeOn 26 = .ok (.if_icmp .ne 5, 3) := by decide +kernel
theorem dX1_firstFreeOn_29 : decode cX1_firstFreeOn 29 = .ok (.iload_n 3, 1) := by decide +kernel
theorem dX1_firstFreeOn_30 : decode cX1_firstFreeOn 30 = .ok (.ireturn, 1) := by decide +kernel
theorem dX1_firstFreeOn_31 : decode cX1_firstFreeOn 31 = .ok (.iinc 3 1, 3) := by decide +kernel
theorem dX1_firstFreeOn_34 : decode cX1_firstFreeOn 34 = .ok (.goto (-27), 3) := by decide +kernel
theorem dX1_firstFreeOn_37 : decode cX1_firstFreeOn 37 = .ok (.iconst (-1), 1) := by decide +kernel
theorem dX1_firstFreeOn_38 : decode cX1_firstFreeOn 38 = .ok (.ireturn, 1) := by decide +kernel
theorem dX1_addCopy_0 : decode cX1_addCopy 0 = .ok (.aload_n 0, 1) := by decide +kernel
theorem dX1_addCopy_1 : decode cX1_addCopy 1 = .ok (.getfield 22, 3) := by decide +kernel
theorem dX1_addCopy_4 : decode cX1_addCopy 4 = .ok (.iload_n 2, 1) := by decide +kernel
theorem dX1_addCopy_5 : decode cX1_addCopy 5 = .ok (.iload_n 1, 1) := by decide +kernel
theorem dX1_addCopy_6 : decode cX1_addCopy 6 = .ok (.iastore, 1) := by decide +kernel
theorem dX1_addCopy_7 : decode cX1_addCopy 7 = .ok (.aload_n 0, 1) := by decide +kernel
theorem dX1_addCopy_8 : decode cX1_addCopy 8 = .ok (.getfield 25, 3) := by decide +kernel
theorem dX1_addCopy_11 : decode cX1_addCopy 11 = .ok (.iload_n 2, 1) := by decide +kernel
theorem dX1_addCopy_12 : decode cX1_addCopy 12 = .ok (.iconst 0, 1) := by decide +kernel
theorem dX1_addCopy_13 : decode cX1_addCopy 13 = .ok (.bastore, 1) := by decide +kernel
theorem dX1_addCopy_14 : decode cX1_addCopy 14 = .ok (.aload_n 0, 1) := by decide +kernel
theorem dX1_addCopy_15 : decode cX1_addCopy 15 = .ok (.getfield 15, 3) := by decide +kernel
theorem dX1_addCopy_18 : decode cX1_addCopy 18 = .ok (.iload_n 2, 1) := by decide +kernel
theorem dX1_addCopy_19 : decode cX1_addCopy 19 = .ok (.bipush 32, 2) := by decide +kernel
theorem dX1_addCopy_21 : decode cX1_addCopy 21 = .ok (.idiv, 1) := by decide +kernel
theorem dX1_addCopy_22 : decode cX1_addCopy 22 = .ok (.dup2, 1) := by decide +kernel
theorem dX1_addCopy_23 : decode cX1_addCopy 23 = .ok (.iaload, 1) := by decide +kernel
theorem dX1_addCopy_24 : decode cX1_addCopy 24 = .ok (.iconst 1, 1) := by decide +kernel
theorem dX1_addCopy_25 : decode cX1_addCopy 25 = .ok (.iadd, 1) := by decide +kernel
theorem dX1_addCopy_26 : decode cX1_addCopy 26 = .ok (.iastore, 1) := by decide +kernel
theorem dX1_addCopy_27 : decode cX1_addCopy 27 = .ok (.aload_n 0, 1) := by decide +kernel
theorem dX1_addCopy_28 : decode cX1_addCopy 28 = .ok (.getfield 38, 3) := by decide +kernel
theorem dX1_addCopy_31 : decode cX1_addCopy 31 = .ok (.iload_n 1, 1) := by decide +kernel
theorem dX1_addCopy_32 : decode cX1_addCopy 32 = .ok (.iconst 3, 1) := by decide +kernel
theorem dX1_addCopy_33 : decode cX1_addCopy 33 = .ok (.imul, 1) := by decide +kernel
theorem dX1_addCopy_34 : decode cX1_addCopy 34 = .ok (.aload_n 0, 1) := by decide +kernel
theorem dX1_addCopy_35 : decode cX1_addCopy 35 = .ok (.getfield 35, 3) := by decide +kernel
theorem dX1_addCopy_38 : decode cX1_addCopy 38 = .ok (.iload_n 1, 1) := by decide +kernel
theorem dX1_addCopy_39 : decode cX1_addCopy 39 = .ok (.iaload, 1) := by decide +kernel
theorem dX1_addCopy_40 : decode cX1_addCopy 40 = .ok (.iadd, 1) := by decide +kernel
theorem dX1_addCopy_41 : decode cX1_addCopy 41 = .ok (.iload_n 2, 1) := by decide +kernel
theorem dX1_addCopy_42 : decode cX1_addCopy 42 = .ok (.iastore, 1) := by decide +kernel
theorem dX1_addCopy_43 : decode cX1_addCopy 43 = .ok (.aload_n 0, 1) := by decide +kernel
theorem dX1_addCopy_44 : decode cX1_addCopy 44 = .ok (.getfield 35, 3) := by decide +kernel
theorem dX1_addCopy_47 : decode cX1_addCopy 47 = .ok (.iload_n 1, 1) := by decide +kernel
theorem dX1_addCopy_48 : decode cX1_addCopy 48 = .ok (.dup2, 1) := by decide +kernel
theorem dX1_addCopy_49 : decode cX1_addCopy 49 = .ok (.iaload, 1) := by decide +kernel
theorem dX1_addCopy_50 : decode cX1_addCopy 50 = .ok (.iconst 1, 1) := by decide +kernel
theorem dX1_addCopy_51 : decode cX1_addCopy 51 = .ok (.iadd, 1) := by decide +kernel
theorem dX1_addCopy_52 : decode cX1_addCopy 52 = .ok (.iastore, 1) := by decide +kernel
theorem dX1_addCopy_53 : decode cX1_addCopy 53 = .ok (.return_, 1) := by decide +kernel
theorem dX1_removeCopy_0 : decode cX1_removeCopy 0 = .ok (.aload_n 0, 1) := by decide +kernel
theorem dX1_removeCopy_1 : decode cX1_removeCopy 1 = .ok (.iload_n 1, 1) := by decide +kernel
theorem dX1_removeCopy_2 : decode cX1_removeCopy 2 = .ok (.iload_n 2, 1) := by decide +kernel
theorem dX1_removeCopy_3 : decode cX1_removeCopy 3 = .ok (.invokevirtual 66, 3) := by decide +kernel
theorem dX1_removeCopy_6 : decode cX1_removeCopy 6 = .ok (.istore_n 3, 1) := by decide +kernel
theorem dX1_removeCopy_7 : decode cX1_removeCopy 7 = .ok (.aload_n 0, 1) := by decide +kernel
theorem dX1_removeCopy_8 : decode cX1_removeCopy 8 = .ok (.getfield 22, 3) := by decide +kernel
theorem dX1_removeCopy_11 : decode cX1_removeCopy 11 = .ok (.iload_n 3, 1) := by decide +kernel
theorem dX1_removeCopy_12 : decode cX1_removeCopy 12 = .ok (.iconst (-1), 1) := by decide +kernel
theorem dX1_removeCopy_13 : decode cX1_removeCopy 13 = .ok (.iastore, 1) := by decide +kernel
theorem dX1_removeCopy_14 : decode cX1_removeCopy 14 = .ok (.aload_n 0, 1) := by decide +kernel
theorem dX1_removeCopy_15 : decode cX1_removeCopy 15 = .ok (.getfield 25, 3) := by decide +kernel
theorem dX1_removeCopy_18 : decode cX1_removeCopy 18 = .ok (.iload_n 3, 1) := by decide +kernel
theorem dX1_removeCopy_19 : decode cX1_removeCopy 19 = .ok (.iconst 0, 1) := by decide +kernel
theorem dX1_removeCopy_20 : decode cX1_removeCopy 20 = .ok (.bastore, 1) := by decide +kernel
theorem dX1_removeCopy_21 : decode cX1_removeCopy 21 = .ok (.aload_n 0, 1) := by decide +kernel
theorem dX1_removeCopy_22 : decode cX1_removeCopy 22 = .ok (.getfield 15, 3) := by decide +kernel
theorem dX1_removeCopy_25 : decode cX1_removeCopy 25 = .ok (.iload_n 3, 1) := by decide +kernel
theorem dX1_removeCopy_26 : decode cX1_removeCopy 26 = .ok (.bipush 32, 2) := by decide +kernel
theorem dX1_removeCopy_28 : decode cX1_removeCopy 28 = .ok (.idiv, 1) := by decide +kernel
theorem dX1_removeCopy_29 : decode cX1_removeCopy 29 = .ok (.dup2, 1) := by decide +kernel
theorem dX1_removeCopy_30 : decode cX1_removeCopy 30 = .ok (.iaload, 1) := by decide +kernel
theorem dX1_removeCopy_31 : decode cX1_removeCopy 31 = .ok (.iconst 1, 1) := by decide +kernel
theorem dX1_removeCopy_32 : decode cX1_removeCopy 32 = .ok (.isub, 1) := by decide +kernel
theorem dX1_removeCopy_33 : decode cX1_removeCopy 33 = .ok (.iastore, 1) := by decide +kernel
theorem dX1_removeCopy_34 : decode cX1_removeCopy 34 = .ok (.aload_n 0, 1) := by decide +kernel
theorem dX1_removeCopy_35 : decode cX1_removeCopy 35 = .ok (.getfield 35, 3) := by decide +kernel
theorem dX1_removeCopy_38 : decode cX1_removeCopy 38 = .ok (.iload_n 1, 1) := by decide +kernel
theorem dX1_removeCopy_39 : decode cX1_removeCopy 39 = .ok (.dup2, 1) := by decide +kernel
theorem dX1_removeCopy_40 : decode cX1_removeCopy 40 = .ok (.iaload, 1) := by decide +kernel
theorem dX1_removeCopy_41 : decode cX1_removeCopy 41 = .ok (.iconst 1, 1) := by decide +kernel
theorem dX1_removeCopy_42 : decode cX1_removeCopy 42 = .ok (.isub, 1) := by decide +kernel
theorem dX1_removeCopy_43 : decode cX1_removeCopy 43 = .ok (.iastore, 1) := by decide +kernel
theorem dX1_removeCopy_44 : decode cX1_removeCopy 44 = .ok (.iload_n 1, 1) := by decide +kernel
theorem dX1_removeCopy_45 : decode cX1_removeCopy 45 = .ok (.iconst 3, 1) := by decide +kernel
theorem dX1_removeCopy_46 : decode cX1_removeCopy 46 = .ok (.imul, 1) := by decide +kernel
theorem dX1_removeCopy_47 : decode cX1_removeCopy 47 = .ok (.istore 4, 2) := by decide +kernel
theorem dX1_removeCopy_49 : decode cX1_removeCopy 49 = .ok (.iload_n 2, 1) := by decide +kernel
theorem dX1_removeCopy_50 : decode cX1_removeCopy 50 = .ok (.istore 5, 2) := by decide +kernel
theorem dX1_removeCopy_52 : decode cX1_removeCopy 52 = .ok (.iload 5, 2) := by decide +kernel
theorem dX1_removeCopy_54 : decode cX1_removeCopy 54 = .ok (.aload_n 0, 1) := by decide +kernel
theorem dX1_removeCopy_55 : decode cX1_removeCopy 55 = .ok (.getfield 35, 3) := by decide +kernel
theorem dX1_removeCopy_58 : decode cX1_removeCopy 58 = .ok (.iload_n 1, 1) := by decide +kernel
theorem dX1_removeCopy_59 : decode cX1_removeCopy 59 = .ok (.iaload, 1) := by decide +kernel
theorem dX1_removeCopy_60 : decode cX1_removeCopy 60 = .ok (.if_icmp .ge 31, 3) := by decide +kernel
theorem dX1_removeCopy_63 : decode cX1_removeCopy 63 = .ok (.aload_n 0, 1) := by decide +kernel
theorem dX1_removeCopy_64 : decode cX1_removeCopy 64 = .ok (.getfield 38, 3) := by decide +kernel
theorem dX1_removeCopy_67 : decode cX1_removeCopy 67 = .ok (.iload 4, 2) := by decide +kernel
theorem dX1_removeCopy_69 : decode cX1_removeCopy 69 = .ok (.iload 5, 2) := by decide +kernel
theorem dX1_removeCopy_71 : decode cX1_removeCopy 71 = .ok (.iadd, 1) := by decide +kernel
theorem dX1_removeCopy_72 : decode cX1_removeCopy 72 = .ok (.aload_n 0, 1) := by decide +kernel
theorem dX1_removeCopy_73 : decode cX1_removeCopy 73 = .ok (.getfield 38, 3) := by decide +kernel
theorem dX1_removeCopy_76 : decode cX1_removeCopy 76 = .ok (.iload 4, 2) := by decide +kernel
theorem dX1_removeCopy_78 : decode cX1_removeCopy 78 = .ok (.iload 5, 2) := by decide +kernel
theorem dX1_removeCopy_80 : decode cX1_removeCopy 80 = .ok (.iadd, 1) := by decide +kernel
theorem dX1_removeCopy_81 : decode cX1_removeCopy 81 = .ok (.iconst 1, 1) := by decide +kernel
theorem dX1_removeCopy_82 : decode cX1_removeCopy 82 = .ok (.iadd, 1) := by decide +kernel
theorem dX1_removeCopy_83 : decode cX1_removeCopy 83 = .ok (.iaload, 1) := by decide +kernel
theorem dX1_removeCopy_84 : decode cX1_removeCopy 84 = .ok (.iastore, 1) := by decide +kernel
theorem dX1_removeCopy_85 : decode cX1_removeCopy 85 = .ok (.iinc 5 1, 3) := by decide +kernel
theorem dX1_removeCopy_88 : decode cX1_removeCopy 88 = .ok (.goto (-36), 3) := by decide +kernel
theorem dX1_removeCopy_91 : decode cX1_removeCopy 91 = .ok (.return_, 1) := by decide +kernel
theorem dX1_putValue_0 : decode cX1_putValue 0 = .ok (.aload_n 0, 1) := by decide +kernel
theorem dX1_putValue_1 : decode cX1_putValue 1 = .ok (.iload_n 1, 1) := by decide +kernel
theorem dX1_putValue_2 : decode cX1_putValue 2 = .ok (.invokevirtual 70, 3) := by decide +kernel
theorem dX1_putValue_5 : decode cX1_putValue 5 = .ok (.ifCond .eq 11, 3) := by decide +kernel
theorem dX1_putValue_8 : decode cX1_putValue 8 = .ok (.aload_n 0, 1) := by decide +kernel
theorem dX1_putValue_9 : decode cX1_putValue 9 = .ok (.iload_n 1, 1) := by decide +kernel
theorem dX1_putValue_10 : decode cX1_putValue 10 = .ok (.invokevirtual 87, 3) := by decide +kernel
theorem dX1_putValue_13 : decode cX1_putValue 13 = .ok (.goto 37, 3) := by decide +kernel
theorem dX1_putValue_16 : decode cX1_putValue 16 = .ok (.aload_n 0, 1) := by decide +kernel
theorem dX1_putValue_17 : decode cX1_putValue 17 = .ok (.iload_n 1, 1) := by decide +kernel
theorem dX1_putValue_18 : decode cX1_putValue 18 = .ok (.invokevirtual 91, 3) := by decide +kernel
theorem dX1_putValue_21 : decode cX1_putValue 21 = .ok (.aload_n 0, 1) := by decide +kernel
theorem dX1_putValue_22 : decode cX1_putValue 22 = .ok (.iload_n 1, 1) := by decide +kernel
theorem dX1_putValue_23 : decode cX1_putValue 23 = .ok (.invokevirtual 78, 3) := by decide +kernel
theorem dX1_putValue_26 : decode cX1_putValue 26 = .ok (.if_icmp .lt 22, 3) := by decide +kernel
theorem dX1_putValue_29 : decode cX1_putValue 29 = .ok (.aload_n 0, 1) := by decide +kernel
theorem dX1_putValue_30 : decode cX1_putValue 30 = .ok (.iload_n 1, 1) := by decide +kernel
theorem dX1_putValue_31 : decode cX1_putValue 31 = .ok (.invokevirtual 94, 3) := by decide +kernel
theorem dX1_putValue_34 : decode cX1_putValue 34 = .ok (.aload_n 0, 1) := by decide +kernel
theorem dX1_putValue_35 : decode cX1_putValue 35 = .ok (.iload_n 1, 1) := by decide +kernel
theorem dX1_putValue_36 : decode cX1_putValue 36 = .ok (.aload_n 0, 1) := by decide +kernel
theorem dX1_putValue_37 : decode cX1_putValue 37 = .ok (.iload_n 1, 1) := by decide +kernel
theorem dX1_putValue_38 : decode cX1_putValue 38 = .ok (.invokevirtual 78, 3) := by decide +kernel
theorem dX1_putValue_41 : decode cX1_putValue 41 = .ok (.invokevirtual 97, 3) := by decide +kernel
theorem dX1_putValue_44 : decode cX1_putValue 44 = .ok (.pop, 1) := by decide +kernel
theorem dX1_putValue_45 : decode cX1_putValue 45 = .ok (.goto 5, 3) := by decide +kernel
theorem dX1_putValue_48 : decode cX1_putValue 48 = .ok (.iconst 0, 1) := by decide +kernel
theorem dX1_putValue_49 : decode cX1_putValue 49 = .ok (.ireturn, 1) := by decide +kernel
theorem dX1_putValue_50 : decode cX1_putValue 50 = .ok (.aload_n 0, 1) := by decide +kernel
theorem dX1_putValue_51 : decode cX1_putValue 51 = .ok (.getfield 32, 3) := by decide +kernel
theorem dX1_putValue_54 : decode cX1_putValue 54 = .ok (.iload_n 1, 1) := by decide +kernel
theorem dX1_putValue_55 : decode cX1_putValue 55 = .ok (.iaload, 1) := by decide +kernel
theorem dX1_putValue_56 : decode cX1_putValue 56 = .ok (.iconst (-1), 1) := by decide +kernel
theorem dX1_putValue_57 : decode cX1_putValue 57 = .ok (.if_icmp .ne 23, 3) := by decide +kernel
theorem dX1_putValue_60 : decode cX1_putValue 60 = .ok (.aload_n 0, 1) := by decide +kernel
theorem dX1_putValue_61 : decode cX1_putValue 61 = .ok (.getfield 41, 3) := by decide +kernel
theorem dX1_putValue_64 : decode cX1_putValue 64 = .ok (.aload_n 0, 1) := by decide +kernel
theorem dX1_putValue_65 : decode cX1_putValue 65 = .ok (.getfield 57, 3) := by decide +kernel
theorem dX1_putValue_68 : decode cX1_putValue 68 = .ok (.iload_n 1, 1) := by decide +kernel
theorem dX1_putValue_69 : decode cX1_putValue 69 = .ok (.iastore, 1) := by decide +kernel
theorem dX1_putValue_70 : decode cX1_putValue 70 = .ok (.aload_n 0, 1) := by decide +kernel
theorem dX1_putValue_71 : decode cX1_putValue 71 = .ok (.dup, 1) := by decide +kernel
theorem dX1_putValue_72 : decode cX1_putValue 72 = .ok (.getfield 57, 3) := by decide +kernel
theorem dX1_putValue_75 : decode cX1_putValue 75 = .ok (.iconst 1, 1) := by decide +kernel
theorem dX1_putValue_76 : decode cX1_putValue 76 = .ok (.iadd, 1) := by decide +kernel
theorem dX1_putValue_77 : decode cX1_putValue 77 = .ok (.putfield 57, 3) := by decide +kernel
theorem dX1_putValue_80 : decode cX1_putValue 80 = .ok (.aload_n 0, 1) := by decide +kernel
theorem dX1_putValue_81 : decode cX1_putValue 81 = .ok (.getfield 32, 3) := by decide +kernel
theorem dX1_putValue_84 : decode cX1_putValue 84 = .ok (.iload_n 1, 1) := by decide +kernel
theorem dX1_putValue_85 : decode cX1_putValue 85 = .ok (.iload_n 2, 1) := by decide +kernel
theorem dX1_putValue_86 : decode cX1_putValue 86 = .ok (.iastore, 1) := by decide +kernel
theorem dX1_putValue_87 : decode cX1_putValue 87 = .ok (.iconst 1, 1) := by decide +kernel
theorem dX1_putValue_88 : decode cX1_putValue 88 = .ok (.ireturn, 1) := by decide +kernel
theorem dX1_renewCopies_0 : decode cX1_renewCopies 0 = .ok (.iconst 0, 1) := by decide +kernel
theorem dX1_renewCopies_1 : decode cX1_renewCopies 1 = .ok (.istore_n 2, 1) := by decide +kernel
theorem dX1_renewCopies_2 : decode cX1_renewCopies 2 = .ok (.iload_n 2, 1) := by decide +kernel
theorem dX1_renewCopies_3 : decode cX1_renewCopies 3 = .ok (.aload_n 0, 1) := by decide +kernel
theorem dX1_renewCopies_4 : decode cX1_renewCopies 4 = .ok (.getfield 35, 3) := by decide +kernel
theorem dX1_renewCopies_7 : decode cX1_renewCopies 7 = .ok (.iload_n 1, 1) := by decide +kernel
theorem dX1_renewCopies_8 : decode cX1_renewCopies 8 = .ok (.iaload, 1) := by decide +kernel
theorem dX1_renewCopies_9 : decode cX1_renewCopies 9 = .ok (.if_icmp .ge 21, 3) := by decide +kernel
theorem dX1_renewCopies_12 : decode cX1_renewCopies 12 = .ok (.aload_n 0, 1) := by decide +kernel
theorem dX1_renewCopies_13 : decode cX1_renewCopies 13 = .ok (.getfield 25, 3) := by decide +kernel
theorem dX1_renewCopies_16 : decode cX1_renewCopies 16 = .ok (.aload_n 0, 1) := by decide +kernel
theorem dX1_renewCopies_17 : decode cX1_renewCopies 17 = .ok (.iload_n 1, 1) := by decide +kernel
theorem dX1_renewCopies_18 : decode cX1_renewCopies 18 = .ok (.iload_n 2, 1) := by decide +kernel
theorem dX1_renewCopies_19 : decode cX1_renewCopies 19 = .ok (.invokevirtual 66, 3) := by decide +kernel
theorem dX1_renewCopies_22 : decode cX1_renewCopies 22 = .ok (.iconst 0, 1) := by decide +kernel
theorem dX1_renewCopies_23 : decode cX1_renewCopies 23 = .ok (.bastore, 1) := by decide +kernel
theorem dX1_renewCopies_24 : decode cX1_renewCopies 24 = .ok (.iinc 2 1, 3) := by decide +kernel
theorem dX1_renewCopies_27 : decode cX1_renewCopies 27 = .ok (.goto (-25), 3) := by decide +kernel
theorem dX1_renewCopies_30 : decode cX1_renewCopies 30 = .ok (.return_, 1) := by decide +kernel
theorem dX1_countPlacesAnew_0 : decode cX1_countPlacesAnew 0 = .ok (.aload_n 0, 1) := by decide +kernel
theorem dX1_countPlacesAnew_1 : decode cX1_countPlacesAnew 1 = .ok (.iload_n 1, 1) := by decide +kernel
theorem dX1_countPlacesAnew_2 : decode cX1_countPlacesAnew 2 = .ok (.invokevirtual 100, 3) := by decide +kernel
theorem dX1_countPlacesAnew_5 : decode cX1_countPlacesAnew 5 = .ok (.istore_n 2, 1) := by decide +kernel
theorem dX1_countPlacesAnew_6 : decode cX1_countPlacesAnew 6 = .ok (.iconst 0, 1) := by decide +kernel
theorem dX1_countPlacesAnew_7 : decode cX1_countPlacesAnew 7 = .ok (.istore_n 3, 1) := by decide +kernel
theorem dX1_countPlacesAnew_8 : decode cX1_countPlacesAnew 8 = .ok (.iconst 0, 1) := by decide +kernel
theorem dX1_countPlacesAnew_9 : decode cX1_countPlacesAnew 9 = .ok (.istore 4, 2) := by decide +kernel
theorem dX1_countPlacesAnew_11 : decode cX1_countPlacesAnew 11 = .ok (.iload 4, 2) := by decide +kernel
theorem dX1_countPlacesAnew_13 : decode cX1_countPlacesAnew 13 = .ok (.aload_n 0, 1) := by decide +kernel
theorem dX1_countPlacesAnew_14 : decode cX1_countPlacesAnew 14 = .ok (.getfield 53, 3) := by decide +kernel
theorem dX1_countPlacesAnew_17 : decode cX1_countPlacesAnew 17 = .ok (.if_icmp .ge 54, 3) := by decide +kernel
theorem dX1_countPlacesAnew_20 : decode cX1_countPlacesAnew 20 = .ok (.aload_n 0, 1) := by decide +kernel
theorem dX1_countPlacesAnew_21 : decode cX1_countPlacesAnew 21 = .ok (.iload 4, 2) := by decide +kernel
theorem dX1_countPlacesAnew_23 : decode cX1_countPlacesAnew 23 = .ok (.invokevirtual 81, 3) := by decide +kernel
theorem dX1_countPlacesAnew_26 : decode cX1_countPlacesAnew 26 = .ok (.ifCond .gt 12, 3) := by decide +kernel
theorem dX1_countPlacesAnew_29 : decode cX1_countPlacesAnew 29 = .ok (.iload_n 2, 1) := by decide +kernel
theorem dX1_countPlacesAnew_30 : decode cX1_countPlacesAnew 30 = .ok (.iload 4, 2) := by decide +kernel
theorem dX1_countPlacesAnew_32 : decode cX1_countPlacesAnew 32 = .ok (.ishr, 1) := by decide +kernel
theorem dX1_countPlacesAnew_33 : decode cX1_countPlacesAnew 33 = .ok (.iconst 1, 1) := by decide +kernel
theorem dX1_countPlacesAnew_34 : decode cX1_countPlacesAnew 34 = .ok (.iand, 1) := by decide +kernel
theorem dX1_countPlacesAnew_35 : decode cX1_countPlacesAnew 35 = .ok (.ifCond .eq 7, 3) := by decide +kernel
theorem dX1_countPlacesAnew_38 : decode cX1_countPlacesAnew 38 = .ok (.iconst 1, 1) := by decide +kernel
theorem dX1_countPlacesAnew_39 : decode cX1_countPlacesAnew 39 = .ok (.goto 4, 3) := by decide +kernel
theorem dX1_countPlacesAnew_42 : decode cX1_countPlacesAnew 42 = .ok (.iconst 0, 1) := by decide +kernel
theorem dX1_countPlacesAnew_43 : decode cX1_countPlacesAnew 43 = .ok (.istore 5, 2) := by decide +kernel
theorem dX1_countPlacesAnew_45 : decode cX1_countPlacesAnew 45 = .ok (.aload_n 0, 1) := by decide +kernel
theorem dX1_countPlacesAnew_46 : decode cX1_countPlacesAnew 46 = .ok (.getfield 18, 3) := by decide +kernel
theorem dX1_countPlacesAnew_49 : decode cX1_countPlacesAnew 49 = .ok (.iload 4, 2) := by decide +kernel
theorem dX1_countPlacesAnew_51 : decode cX1_countPlacesAnew 51 = .ok (.caload, 1) := by decide +kernel
theorem dX1_countPlacesAnew_52 : decode cX1_countPlacesAnew 52 = .ok (.bipush 115, 2) := by decide +kernel
theorem dX1_countPlacesAnew_54 : decode cX1_countPlacesAnew 54 = .ok (.if_icmp .ne 11, 3) := by decide +kernel
theorem dX1_countPlacesAnew_57 : decode cX1_countPlacesAnew 57 = .ok (.iload 5, 2) := by decide +kernel
theorem dX1_countPlacesAnew_59 : decode cX1_countPlacesAnew 59 = .ok (.ifCond .eq 6, 3) := by decide +kernel
theorem dX1_countPlacesAnew_62 : decode cX1_countPlacesAnew 62 = .ok (.iinc 3 1, 3) := by decide +kernel
theorem dX1_countPlacesAnew_65 : decode cX1_countPlacesAnew 65 = .ok (.iinc 4 1, 3) := by decide +kernel
theorem dX1_countPlacesAnew_68 : decode cX1_countPlacesAnew 68 = .ok (.goto (-57), 3) := by decide +kernel
theorem dX1_countPlacesAnew_71 : decode cX1_countPlacesAnew 71 = .ok (.iload_n 3, 1) := by decide +kernel
theorem dX1_countPlacesAnew_72 : decode cX1_countPlacesAnew 72 = .ok (.ireturn, 1) := by decide +kernel
theorem dX1_removeCopies_0 : decode cX1_removeCopies 0 = .ok (.aload_n 0, 1) := by decide +kernel
theorem dX1_removeCopies_1 : decode cX1_removeCopies 1 = .ok (.getfield 35, 3) := by decide +kernel
theorem dX1_removeCopies_4 : decode cX1_removeCopies 4 = .ok (.iload_n 1, 1) := by decide +kernel
theorem dX1_removeCopies_5 : decode cX1_removeCopies 5 = .ok (.iaload, 1) := by decide +kernel
theorem dX1_removeCopies_6 : decode cX1_removeCopies 6 = .ok (.iconst 1, 1) := by decide +kernel
theorem dX1_removeCopies_7 : decode cX1_removeCopies 7 = .ok (.isub, 1) := by decide +kernel
theorem dX1_removeCopies_8 : decode cX1_removeCopies 8 = .ok (.istore_n 2, 1) := by decide +kernel
theorem dX1_removeCopies_9 : decode cX1_removeCopies 9 = .ok (.iload_n 2, 1) := by decide +kernel
theorem dX1_removeCopies_10 : decode cX1_removeCopies 10 = .ok (.ifCond .lt 15, 3) := by decide +kernel
theorem dX1_removeCopies_13 : decode cX1_removeCopies 13 = .ok (.aload_n 0, 1) := by decide +kernel
theorem dX1_removeCopies_14 : decode cX1_removeCopies 14 = .ok (.iload_n 1, 1) := by decide +kernel
theorem dX1_removeCopies_15 : decode cX1_removeCopies 15 = .ok (.iload_n 2, 1) := by decide +kernel
theorem dX1_removeCopies_16 : decode cX1_removeCopies 16 = .ok (.invokevirtual 103, 3) := by decide +kernel
theorem dX1_removeCopies_19 : decode cX1_removeCopies 19 = .ok (.iinc 2 (-1), 3) := by decide +kernel
theorem dX1_removeCopies_22 : decode cX1_removeCopies 22 = .ok (.goto (-13), 3) := by decide +kernel
theorem dX1_removeCopies_25 : decode cX1_removeCopies 25 = .ok (.return_, 1) := by decide +kernel
theorem dX1_rebuild_0 : decode cX1_rebuild 0 = .ok (.iconst 0, 1) := by decide +kernel
theorem dX1_rebuild_1 : decode cX1_rebuild 1 = .ok (.istore_n 2, 1) := by decide +kernel
theorem dX1_rebuild_2 : decode cX1_rebuild 2 = .ok (.iconst 0, 1) := by decide +kernel
theorem dX1_rebuild_3 : decode cX1_rebuild 3 = .ok (.istore_n 3, 1) := by decide +kernel
theorem dX1_rebuild_4 : decode cX1_rebuild 4 = .ok (.iload_n 3, 1) := by decide +kernel
theorem dX1_rebuild_5 : decode cX1_rebuild 5 = .ok (.aload_n 0, 1) := by decide +kernel
theorem dX1_rebuild_6 : decode cX1_rebuild 6 = .ok (.getfield 57, 3) := by decide +kernel
theorem dX1_rebuild_9 : decode cX1_rebuild 9 = .ok (.if_icmp .ge 43, 3) := by decide +kernel
theorem dX1_rebuild_12 : decode cX1_rebuild 12 = .ok (.iload_n 2, 1) := by decide +kernel
theorem dX1_rebuild_13 : decode cX1_rebuild 13 = .ok (.iload_n 1, 1) := by decide +kernel
theorem dX1_rebuild_14 : decode cX1_rebuild 14 = .ok (.if_icmp .ge 38, 3) := by decide +kernel
theorem dX1_rebuild_17 : decode cX1_rebuild 17 = .ok (.aload_n 0, 1) := by decide +kernel
theorem dX1_rebuild_18 : decode cX1_rebuild 18 = .ok (.aload_n 0, 1) := by decide +kernel
theorem dX1_rebuild_19 : decode cX1_rebuild 19 = .ok (.getfield 41, 3) := by decide +kernel
theorem dX1_rebuild_22 : decode cX1_rebuild 22 = .ok (.iload_n 3, 1) := by decide +kernel
theorem dX1_rebuild_23 : decode cX1_rebuild 23 = .ok (.iaload, 1) := by decide +kernel
theorem dX1_rebuild_24 : decode cX1_rebuild 24 = .ok (.invokevirtual 74, 3) := by decide +kernel
theorem dX1_rebuild_27 : decode cX1_rebuild 27 = .ok (.ifCond .ne 19, 3) := by decide +kernel
theorem dX1_rebuild_30 : decode cX1_rebuild 30 = .ok (.iload_n 2, 1) := by decide +kernel
theorem dX1_rebuild_31 : decode cX1_rebuild 31 = .ok (.aload_n 0, 1) := by decide +kernel
theorem dX1_rebuild_32 : decode cX1_rebuild 32 = .ok (.aload_n 0, 1) := by decide +kernel
theorem dX1_rebuild_33 : decode cX1_rebuild 33 = .ok (.getfield 41, 3) := by decide +kernel
theorem dX1_rebuild_36 : decode cX1_rebuild 36 = .ok (.iload_n 3, 1) := by decide +kernel
theorem dX1_rebuild_37 : decode cX1_rebuild 37 = .ok (.iaload, 1) := by decide +kernel
theorem dX1_rebuild_38 : decode cX1_rebuild 38 = .ok (.iload_n 1, 1) := by decide +kernel
theorem dX1_rebuild_39 : decode cX1_rebuild 39 = .ok (.iload_n 2, 1) := by decide +kernel
theorem dX1_rebuild_40 : decode cX1_rebuild 40 = .ok (.isub, 1) := by decide +kernel
theorem dX1_rebuild_41 : decode cX1_rebuild 41 = .ok (.invokevirtual 97, 3) := by decide +kernel
theorem dX1_rebuild_44 : decode cX1_rebuild 44 = .ok (.iadd, 1) := by decide +kernel
theorem dX1_rebuild_45 : decode cX1_rebuild 45 = .ok (.istore_n 2, 1) := by decide +kernel
theorem dX1_rebuild_46 : decode cX1_rebuild 46 = .ok (.iinc 3 1, 3) := by decide +kernel
theorem dX1_rebuild_49 : decode cX1_rebuild 49 = .ok (.goto (-45), 3) := by decide +kernel
theorem dX1_rebuild_52 : decode cX1_rebuild 52 = .ok (.iconst 0, 1) := by decide +kernel
theorem dX1_rebuild_53 : decode cX1_rebuild 53 = .ok (.istore_n 3, 1) := by decide +kernel
theorem dX1_rebuild_54 : decode cX1_rebuild 54 = .ok (.iload_n 3, 1) := by decide +kernel
theorem dX1_rebuild_55 : decode cX1_rebuild 55 = .ok (.aload_n 0, 1) := by decide +kernel
theorem dX1_rebuild_56 : decode cX1_rebuild 56 = .ok (.getfield 57, 3) := by decide +kernel
theorem dX1_rebuild_59 : decode cX1_rebuild 59 = .ok (.if_icmp .ge 43, 3) := by decide +kernel
theorem dX1_rebuild_62 : decode cX1_rebuild 62 = .ok (.iload_n 2, 1) := by decide +kernel
theorem dX1_rebuild_63 : decode cX1_rebuild 63 = .ok (.iload_n 1, 1) := by decide +kernel
theorem dX1_rebuild_64 : decode cX1_rebuild 64 = .ok (.if_icmp .ge 38, 3) := by decide +kernel
theorem dX1_rebuild_67 : decode cX1_rebuild 67 = .ok (.aload_n 0, 1) := by decide +kernel
theorem dX1_rebuild_68 : decode cX1_rebuild 68 = .ok (.aload_n 0, 1) := by decide +kernel
theorem dX1_rebuild_69 : decode cX1_rebuild 69 = .ok (.getfield 41, 3) := by decide +kernel
theorem dX1_rebuild_72 : decode cX1_rebuild 72 = .ok (.iload_n 3, 1) := by decide +kernel
theorem dX1_rebuild_73 : decode cX1_rebuild 73 = .ok (.iaload, 1) := by decide +kernel
theorem dX1_rebuild_74 : decode cX1_rebuild 74 = .ok (.invokevirtual 74, 3) := by decide +kernel
theorem dX1_rebuild_77 : decode cX1_rebuild 77 = .ok (.ifCond .ne 19, 3) := by decide +kernel
theorem dX1_rebuild_80 : decode cX1_rebuild 80 = .ok (.iload_n 2, 1) := by decide +kernel
theorem dX1_rebuild_81 : decode cX1_rebuild 81 = .ok (.aload_n 0, 1) := by decide +kernel
theorem dX1_rebuild_82 : decode cX1_rebuild 82 = .ok (.aload_n 0, 1) := by decide +kernel
theorem dX1_rebuild_83 : decode cX1_rebuild 83 = .ok (.getfield 41, 3) := by decide +kernel
theorem dX1_rebuild_86 : decode cX1_rebuild 86 = .ok (.iload_n 3, 1) := by decide +kernel
theorem dX1_rebuild_87 : decode cX1_rebuild 87 = .ok (.iaload, 1) := by decide +kernel
theorem dX1_rebuild_88 : decode cX1_rebuild 88 = .ok (.iload_n 1, 1) := by decide +kernel
theorem dX1_rebuild_89 : decode cX1_rebuild 89 = .ok (.iload_n 2, 1) := by decide +kernel
theorem dX1_rebuild_90 : decode cX1_rebuild 90 = .ok (.isub, 1) := by decide +kernel
theorem dX1_rebuild_91 : decode cX1_rebuild 91 = .ok (.invokevirtual 107, 3) := by decide +kernel
theorem dX1_rebuild_94 : decode cX1_rebuild 94 = .ok (.iadd, 1) := by decide +kernel
theorem dX1_rebuild_95 : decode cX1_rebuild 95 = .ok (.istore_n 2, 1) := by decide +kernel
theorem dX1_rebuild_96 : decode cX1_rebuild 96 = .ok (.iinc 3 1, 3) := by decide +kernel
theorem dX1_rebuild_99 : decode cX1_rebuild 99 = .ok (.goto (-45), 3) := by decide +kernel
theorem dX1_rebuild_102 : decode cX1_rebuild 102 = .ok (.iload_n 2, 1) := by decide +kernel
theorem dX1_rebuild_103 : decode cX1_rebuild 103 = .ok (.ireturn, 1) := by decide +kernel
theorem dX1_completeBlock_0 : decode cX1_completeBlock 0 = .ok (.aload_n 0, 1) := by decide +kernel
theorem dX1_completeBlock_1 : decode cX1_completeBlock 1 = .ok (.iload_n 1, 1) := by decide +kernel
theorem dX1_completeBlock_2 : decode cX1_completeBlock 2 = .ok (.invokevirtual 78, 3) := by decide +kernel
theorem dX1_completeBlock_5 : decode cX1_completeBlock 5 = .ok (.aload_n 0, 1) := by decide +kernel
theorem dX1_completeBlock_6 : decode cX1_completeBlock 6 = .ok (.getfield 35, 3) := by decide +kernel
theorem dX1_completeBlock_9 : decode cX1_completeBlock 9 = .ok (.iload_n 1, 1) := by decide +kernel
theorem dX1_completeBlock_10 : decode cX1_completeBlock 10 = .ok (.iaload, 1) := by decide +kernel
theorem dX1_completeBlock_11 : decode cX1_completeBlock 11 = .ok (.isub, 1) := by decide +kernel
theorem dX1_completeBlock_12 : decode cX1_completeBlock 12 = .ok (.iload_n 2, 1) := by decide +kernel
theorem dX1_completeBlock_13 : decode cX1_completeBlock 13 = .ok (.invokestatic 110, 3) := by decide +kernel
theorem dX1_completeBlock_16 : decode cX1_completeBlock 16 = .ok (.istore_n 3, 1) := by decide +kernel
theorem dX1_completeBlock_17 : decode cX1_completeBlock 17 = .ok (.iconst 0, 1) := by decide +kernel
theorem dX1_completeBlock_18 : decode cX1_completeBlock 18 = .ok (.istore 4, 2) := by decide +kernel
theorem dX1_completeBlock_20 : decode cX1_completeBlock 20 = .ok (.iload 4, 2) := by decide +kernel
theorem dX1_completeBlock_22 : decode cX1_completeBlock 22 = .ok (.iload_n 3, 1) := by decide +kernel
theorem dX1_completeBlock_23 : decode cX1_completeBlock 23 = .ok (.if_icmp .ge 36, 3) := by decide +kernel
theorem dX1_completeBlock_26 : decode cX1_completeBlock 26 = .ok (.aload_n 0, 1) := by decide +kernel
theorem dX1_completeBlock_27 : decode cX1_completeBlock 27 = .ok (.aload_n 0, 1) := by decide +kernel
theorem dX1_completeBlock_28 : decode cX1_completeBlock 28 = .ok (.iload_n 1, 1) := by decide +kernel
theorem dX1_completeBlock_29 : decode cX1_completeBlock 29 = .ok (.invokevirtual 100, 3) := by decide +kernel
theorem dX1_completeBlock_32 : decode cX1_completeBlock 32 = .ok (.invokevirtual 115, 3) := by decide +kernel
theorem dX1_completeBlock_35 : decode cX1_completeBlock 35 = .ok (.istore 5, 2) := by decide +kernel
theorem dX1_completeBlock_37 : decode cX1_completeBlock 37 = .ok (.iload 5, 2) := by decide +kernel
theorem dX1_completeBlock_39 : decode cX1_completeBlock 39 = .ok (.iconst (-1), 1) := by decide +kernel
theorem dX1_completeBlock_40 : decode cX1_completeBlock 40 = .ok (.if_icmp .ne 6, 3) := by decide +kernel
theorem dX1_completeBlock_43 : decode cX1_completeBlock 43 = .ok (.iload 4, 2) := by decide +kernel
theorem dX1_completeBlock_45 : decode cX1_completeBlock 45 = .ok (.ireturn, 1) := by decide +kernel
theorem dX1_completeBlock_46 : decode cX1_completeBlock 46 = .ok (.aload_n 0, 1) := by decide +kernel
theorem dX1_completeBlock_47 : decode cX1_completeBlock 47 = .ok (.iload_n 1, 1) := by decide +kernel
theorem dX1_completeBlock_48 : decode cX1_completeBlock 48 = .ok (.iload 5, 2) := by decide +kernel
theorem dX1_completeBlock_50 : decode cX1_completeBlock 50 = .ok (.invokevirtual 118, 3) := by decide +kernel
theorem dX1_completeBlock_53 : decode cX1_completeBlock 53 = .ok (.iinc 4 1, 3) := by decide +kernel
theorem dX1_completeBlock_56 : decode cX1_completeBlock 56 = .ok (.goto (-36), 3) := by decide +kernel
theorem dX1_completeBlock_59 : decode cX1_completeBlock 59 = .ok (.iload_n 3, 1) := by decide +kernel
theorem dX1_completeBlock_60 : decode cX1_completeBlock 60 = .ok (.iconst 0, 1) := by decide +kernel
theorem dX1_completeBlock_61 : decode cX1_completeBlock 61 = .ok (.invokestatic 121, 3) := by decide +kernel
theorem dX1_completeBlock_64 : decode cX1_completeBlock 64 = .ok (.ireturn, 1) := by decide +kernel
theorem dX1_emptyWarnedDisks_0 : decode cX1_emptyWarnedDisks 0 = .ok (.iconst 0, 1) := by decide +kernel
theorem dX1_emptyWarnedDisks_1 : decode cX1_emptyWarnedDisks 1 = .ok (.istore_n 3, 1) := by decide +kernel
theorem dX1_emptyWarnedDisks_2 : decode cX1_emptyWarnedDisks 2 = .ok (.iconst 0, 1) := by decide +kernel
theorem dX1_emptyWarnedDisks_3 : decode cX1_emptyWarnedDisks 3 = .ok (.istore 4, 2) := by decide +kernel
theorem dX1_emptyWarnedDisks_5 : decode cX1_emptyWarnedDisks 5 = .ok (.aload_n 0, 1) := by decide +kernel
theorem dX1_emptyWarnedDisks_6 : decode cX1_emptyWarnedDisks 6 = .ok (.getfield 35, 3) := by decide +kernel
theorem dX1_emptyWarnedDisks_9 : decode cX1_emptyWarnedDisks 9 = .ok (.iload_n 1, 1) := by decide +kernel
theorem dX1_emptyWarnedDisks_10 : decode cX1_emptyWarnedDisks 10 = .ok (.iaload, 1) := by decide +kernel
theorem dX1_emptyWarnedDisks_11 : decode cX1_emptyWarnedDisks 11 = .ok (.istore 5, 2) := by decide +kernel
theorem dX1_emptyWarnedDisks_13 : decode cX1_emptyWarnedDisks 13 = .ok (.iconst 0, 1) := by decide +kernel
theorem dX1_emptyWarnedDisks_14 : decode cX1_emptyWarnedDisks 14 = .ok (.istore 6, 2) := by decide +kernel
theorem dX1_emptyWarnedDisks_16 : decode cX1_emptyWarnedDisks 16 = .ok (.iload 6, 2) := by decide +kernel
theorem dX1_emptyWarnedDisks_18 : decode cX1_emptyWarnedDisks 18 = .ok (.iload 5, 2) := by decide +kernel
theorem dX1_emptyWarnedDisks_20 : decode cX1_emptyWarnedDisks 20 = .ok (.if_icmp .ge 82, 3) := by decide +kernel
theorem dX1_emptyWarnedDisks_23 : decode cX1_emptyWarnedDisks 23 = .ok (.iload_n 3, 1) := by decide +kernel
theorem dX1_emptyWarnedDisks_24 : decode cX1_emptyWarnedDisks 24 = .ok (.iload_n 2, 1) := by decide +kernel
theorem dX1_emptyWarnedDisks_25 : decode cX1_emptyWarnedDisks 25 = .ok (.if_icmp .ge 77, 3) := by decide +kernel
theorem dX1_emptyWarnedDisks_28 : decode cX1_emptyWarnedDisks 28 = .ok (.aload_n 0, 1) := by decide +kernel
theorem dX1_emptyWarnedDisks_29 : decode cX1_emptyWarnedDisks 29 = .ok (.iload_n 1, 1) := by decide +kernel
theorem dX1_emptyWarnedDisks_30 : decode cX1_emptyWarnedDisks 30 = .ok (.iload 4, 2) := by decide +kernel
theorem dX1_emptyWarnedDisks_32 : decode cX1_emptyWarnedDisks 32 = .ok (.invokevirtual 66, 3) := by decide +kernel
theorem dX1_emptyWarnedDisks_35 : decode cX1_emptyWarnedDisks 35 = .ok (.bipush 32, 2) := by decide +kernel
theorem dX1_emptyWarnedDisks_37 : decode cX1_emptyWarnedDisks 37 = .ok (.idiv, 1) := by decide +kernel
theorem dX1_emptyWarnedDisks_38 : decode cX1_emptyWarnedDisks 38 = .ok (.istore 7, 2) := by decide +kernel
theorem dX1_emptyWarnedDisks_40 : decode cX1_emptyWarnedDisks 40 = .ok (.aload_n 0, 1) := by decide +kernel
theorem dX1_emptyWarnedDisks_41 : decode cX1_emptyWarnedDisks 41 = .ok (.getfield 18, 3) := by decide +kernel
theorem dX1_emptyWarnedDisks_44 : decode cX1_emptyWarnedDisks 44 = .ok (.iload 7, 2) := by decide +kernel
theorem dX1_emptyWarnedDisks_46 : decode cX1_emptyWarnedDisks 46 = .ok (.caload, 1) := by decide +kernel
theorem dX1_emptyWarnedDisks_47 : decode cX1_emptyWarnedDisks 47 = .ok (.bipush 119, 2) := by decide +kernel
theorem dX1_emptyWarnedDisks_49 : decode cX1_emptyWarnedDisks 49 = .ok (.if_icmp .ne 15, 3) := by decide +kernel
theorem dX1_emptyWarnedDisks_52 : decode cX1_emptyWarnedDisks 52 = .ok (.aload_n 0, 1) := by decide +kernel
theorem dX1_emptyWarnedDisks_53 : decode cX1_emptyWarnedDisks 53 = .ok (.aload_n 0, 1) := by decide +kernel
theorem dX1_emptyWarnedDisks_54 : decode cX1_emptyWarnedDisks 54 = .ok (.iload_n 1, 1) := by decide +kernel
theorem dX1_emptyWarnedDisks_55 : decode cX1_emptyWarnedDisks 55 = .ok (.invokevirtual 100, 3) := by decide +kernel
theorem dX1_emptyWarnedDisks_58 : decode cX1_emptyWarnedDisks 58 = .ok (.invokevirtual 115, 3) := by decide +kernel
theorem dX1_emptyWarnedDisks_61 : decode cX1_emptyWarnedDisks 61 = .ok (.goto 4, 3) := by decide +kernel
theorem dX1_emptyWarnedDisks_64 : decode cX1_emptyWarnedDisks 64 = .ok (.iconst (-1), 1) := by decide +kernel
theorem dX1_emptyWarnedDisks_65 : decode cX1_emptyWarnedDisks 65 = .ok (.istore 8, 2) := by decide +kernel
theorem dX1_emptyWarnedDisks_67 : decode cX1_emptyWarnedDisks 67 = .ok (.iload 8, 2) := by decide +kernel
theorem dX1_emptyWarnedDisks_69 : decode cX1_emptyWarnedDisks 69 = .ok (.iconst (-1), 1) := by decide +kernel
theorem dX1_emptyWarnedDisks_70 : decode cX1_emptyWarnedDisks 70 = .ok (.if_icmp .ne 9, 3) := by decide +kernel
theorem dX1_emptyWarnedDisks_73 : decode cX1_emptyWarnedDisks 73 = .ok (.iinc 4 1, 3) := by decide +kernel
theorem dX1_emptyWarnedDisks_76 : decode cX1_emptyWarnedDisks 76 = .ok (.goto 20, 3) := by decide +kernel
theorem dX1_emptyWarnedDisks_79 : decode cX1_emptyWarnedDisks 79 = .ok (.aload_n 0, 1) := by decide +kernel
theorem dX1_emptyWarnedDisks_80 : decode cX1_emptyWarnedDisks 80 = .ok (.iload_n 1, 1) := by decide +kernel
theorem dX1_emptyWarnedDisks_81 : decode cX1_emptyWarnedDisks 81 = .ok (.iload 4, 2) := by decide +kernel
theorem dX1_emptyWarnedDisks_83 : decode cX1_emptyWarnedDisks 83 = .ok (.invokevirtual 103, 3) := by decide +kernel
theorem dX1_emptyWarnedDisks_86 : decode cX1_emptyWarnedDisks 86 = .ok (.aload_n 0, 1) := by decide +kernel
theorem dX1_emptyWarnedDisks_87 : decode cX1_emptyWarnedDisks 87 = .ok (.iload_n 1, 1) := by decide +kernel
theorem dX1_emptyWarnedDisks_88 : decode cX1_emptyWarnedDisks 88 = .ok (.iload 8, 2) := by decide +kernel
theorem dX1_emptyWarnedDisks_90 : decode cX1_emptyWarnedDisks 90 = .ok (.invokevirtual 118, 3) := by decide +kernel
theorem dX1_emptyWarnedDisks_93 : decode cX1_emptyWarnedDisks 93 = .ok (.iinc 3 1, 3) := by decide +kernel
theorem dX1_emptyWarnedDisks_96 : decode cX1_emptyWarnedDisks 96 = .ok (.iinc 6 1, 3) := by decide +kernel
theorem dX1_emptyWarnedDisks_99 : decode cX1_emptyWarnedDisks 99 = .ok (.goto (-83), 3) := by decide +kernel
theorem dX1_emptyWarnedDisks_102 : decode cX1_emptyWarnedDisks 102 = .ok (.iload_n 3, 1) := by decide +kernel
theorem dX1_emptyWarnedDisks_103 : decode cX1_emptyWarnedDisks 103 = .ok (.ireturn, 1) := by decide +kernel
theorem dX1_breakDisk_0 : decode cX1_breakDisk 0 = .ok (.aload_n 0, 1) := by decide +kernel
theorem dX1_breakDisk_1 : decode cX1_breakDisk 1 = .ok (.getfield 15, 3) := by decide +kernel
theorem dX1_breakDisk_4 : decode cX1_breakDisk 4 = .ok (.iload_n 1, 1) := by decide +kernel
theorem dX1_breakDisk_5 : decode cX1_breakDisk 5 = .ok (.iaload, 1) := by decide +kernel
theorem dX1_breakDisk_6 : decode cX1_breakDisk 6 = .ok (.istore_n 2, 1) := by decide +kernel
theorem dX1_breakDisk_7 : decode cX1_breakDisk 7 = .ok (.iload_n 1, 1) := by decide +kernel
theorem dX1_breakDisk_8 : decode cX1_breakDisk 8 = .ok (.bipush 32, 2) := by decide +kernel
theorem dX1_breakDisk_10 : decode cX1_breakDisk 10 = .ok (.imul, 1) := by decide +kernel
theorem dX1_breakDisk_11 : decode cX1_breakDisk 11 = .ok (.istore_n 3, 1) := by decide +kernel
theorem dX1_breakDisk_12 : decode cX1_breakDisk 12 = .ok (.iload_n 3, 1) := by decide +kernel
theorem dX1_breakDisk_13 : decode cX1_breakDisk 13 = .ok (.istore 4, 2) := by decide +kernel
theorem dX1_breakDisk_15 : decode cX1_breakDisk 15 = .ok (.iload 4, 2) := by decide +kernel
theorem dX1_breakDisk_17 : decode cX1_breakDisk 17 = .ok (.iload_n 3, 1) := by decide +kernel
theorem dX1_breakDisk_18 : decode cX1_breakDisk 18 = .ok (.aload_n 0, 1) := by decide +kernel
theorem dX1_breakDisk_19 : decode cX1_breakDisk 19 = .ok (.getfield 9, 3) := by decide +kernel
theorem dX1_breakDisk_22 : decode cX1_breakDisk 22 = .ok (.iload_n 1, 1) := by decide +kernel
theorem dX1_breakDisk_23 : decode cX1_breakDisk 23 = .ok (.iaload, 1) := by decide +kernel
theorem dX1_breakDisk_24 : decode cX1_breakDisk 24 = .ok (.iadd, 1) := by decide +kernel
theorem dX1_breakDisk_25 : decode cX1_breakDisk 25 = .ok (.if_icmp .ge 26, 3) := by decide +kernel
theorem dX1_breakDisk_28 : decode cX1_breakDisk 28 = .ok (.aload_n 0, 1) := by decide +kernel
theorem dX1_breakDisk_29 : decode cX1_breakDisk 29 = .ok (.getfield 22, 3) := by decide +kernel
theorem dX1_breakDisk_32 : decode cX1_breakDisk 32 = .ok (.iload 4, 2) := by decide +kernel
theorem dX1_breakDisk_34 : decode cX1_breakDisk 34 = .ok (.iaload, 1) := by decide +kernel
theorem dX1_breakDisk_35 : decode cX1_breakDisk 35 = .ok (.iconst (-1), 1) := by decide +kernel
theorem dX1_breakDisk_36 : decode cX1_breakDisk 36 = .ok (.if_icmp .eq 9, 3) := by decide +kernel
theorem dX1_breakDisk_39 : decode cX1_breakDisk 39 = .ok (.aload_n 0, 1) := by decide +kernel
theorem dX1_breakDisk_40 : decode cX1_breakDisk 40 = .ok (.iload 4, 2) := by decide +kernel
theorem dX1_breakDisk_42 : decode cX1_breakDisk 42 = .ok (.invokevirtual 124, 3) := by decide +kernel
theorem dX1_breakDisk_45 : decode cX1_breakDisk 45 = .ok (.iinc 4 1, 3) := by decide +kernel
theorem dX1_breakDisk_48 : decode cX1_breakDisk 48 = .ok (.goto (-33), 3) := by decide +kernel
theorem dX1_breakDisk_51 : decode cX1_breakDisk 51 = .ok (.aload_n 0, 1) := by decide +kernel
theorem dX1_breakDisk_52 : decode cX1_breakDisk 52 = .ok (.getfield 18, 3) := by decide +kernel
theorem dX1_breakDisk_55 : decode cX1_breakDisk 55 = .ok (.iload_n 1, 1) := by decide +kernel
theorem dX1_breakDisk_56 : decode cX1_breakDisk 56 = .ok (.bipush 102, 2) := by decide +kernel
theorem dX1_breakDisk_58 : decode cX1_breakDisk 58 = .ok (.castore, 1) := by decide +kernel
theorem dX1_breakDisk_59 : decode cX1_breakDisk 59 = .ok (.iload_n 2, 1) := by decide +kernel
theorem dX1_breakDisk_60 : decode cX1_breakDisk 60 = .ok (.ireturn, 1) := by decide +kernel
theorem dX1_removeCopyAt_0 : decode cX1_removeCopyAt 0 = .ok (.aload_n 0, 1) := by decide +kernel
theorem dX1_removeCopyAt_1 : decode cX1_removeCopyAt 1 = .ok (.getfield 22, 3) := by decide +kernel
theorem dX1_removeCopyAt_4 : decode cX1_removeCopyAt 4 = .ok (.iload_n 1, 1) := by decide +kernel
theorem dX1_removeCopyAt_5 : decode cX1_removeCopyAt 5 = .ok (.iaload, 1) := by decide +kernel
theorem dX1_removeCopyAt_6 : decode cX1_removeCopyAt 6 = .ok (.istore_n 2, 1) := by decide +kernel
theorem dX1_removeCopyAt_7 : decode cX1_removeCopyAt 7 = .ok (.iconst 0, 1) := by decide +kernel
theorem dX1_removeCopyAt_8 : decode cX1_removeCopyAt 8 = .ok (.istore_n 3, 1) := by decide +kernel
theorem dX1_removeCopyAt_9 : decode cX1_removeCopyAt 9 = .ok (.iload_n 3, 1) := by decide +kernel
theorem dX1_removeCopyAt_10 : decode cX1_removeCopyAt 10 = .ok (.aload_n 0, 1) := by decide +kernel
theorem dX1_removeCopyAt_11 : decode cX1_removeCopyAt 11 = .ok (.getfield 35, 3) := by decide +kernel
theorem dX1_removeCopyAt_14 : decode cX1_removeCopyAt 14 = .ok (.iload_n 2, 1) := by decide +kernel
theorem dX1_removeCopyAt_15 : decode cX1_removeCopyAt 15 = .ok (.iaload, 1) := by decide +kernel
theorem dX1_removeCopyAt_16 : decode cX1_removeCopyAt 16 = .ok (.if_icmp .ge 26, 3) := by decide +kernel
theorem dX1_removeCopyAt_19 : decode cX1_removeCopyAt 19 = .ok (.aload_n 0, 1) := by decide +kernel
theorem dX1_removeCopyAt_20 : decode cX1_removeCopyAt 20 = .ok (.iload_n 2, 1) := by decide +kernel
theorem dX1_removeCopyAt_21 : decode cX1_removeCopyAt 21 = .ok (.iload_n 3, 1) := by decide +kernel
theorem dX1_removeCopyAt_22 : decode cX1_removeCopyAt 22 = .ok (.invokevirtual 66, 3) := by decide +kernel
theorem dX1_removeCopyAt_25 : decode cX1_removeCopyAt 25 = .ok (.iload_n 1, 1) := by decide +kernel
theorem dX1_removeCopyAt_26 : decode cX1_removeCopyAt 26 = .ok (.if_icmp .ne 10, 3) := by decide +kernel
theorem dX1_removeCopyAt_29 : decode cX1_removeCopyAt 29 = .ok (.aload_n 0, 1) := by decide +kernel
theorem dX1_removeCopyAt_30 : decode cX1_removeCopyAt 30 = .ok (.iload_n 2, 1) := by decide +kernel
theorem dX1_removeCopyAt_31 : decode cX1_removeCopyAt 31 = .ok (.iload_n 3, 1) := by decide +kernel
theorem dX1_removeCopyAt_32 : decode cX1_removeCopyAt 32 = .ok (.invokevirtual 103, 3) := by decide +kernel
theorem dX1_removeCopyAt_35 : decode cX1_removeCopyAt 35 = .ok (.return_, 1) := by decide +kernel
theorem dX1_removeCopyAt_36 : decode cX1_removeCopyAt 36 = .ok (.iinc 3 1, 3) := by decide +kernel
theorem dX1_removeCopyAt_39 : decode cX1_removeCopyAt 39 = .ok (.goto (-30), 3) := by decide +kernel
theorem dX1_removeCopyAt_42 : decode cX1_removeCopyAt 42 = .ok (.return_, 1) := by decide +kernel
theorem dX1_healDisk_0 : decode cX1_healDisk 0 = .ok (.iconst 0, 1) := by decide +kernel
theorem dX1_healDisk_1 : decode cX1_healDisk 1 = .ok (.istore_n 2, 1) := by decide +kernel
theorem dX1_healDisk_2 : decode cX1_healDisk 2 = .ok (.iload_n 1, 1) := by decide +kernel
theorem dX1_healDisk_3 : decode cX1_healDisk 3 = .ok (.bipush 32, 2) := by decide +kernel
theorem dX1_healDisk_5 : decode cX1_healDisk 5 = .ok (.imul, 1) := by decide +kernel
theorem dX1_healDisk_6 : decode cX1_healDisk 6 = .ok (.istore_n 3, 1) := by decide +kernel
theorem dX1_healDisk_7 : decode cX1_healDisk 7 = .ok (.iload_n 3, 1) := by decide +kernel
theorem dX1_healDisk_8 : decode cX1_healDisk 8 = .ok (.istore 4, 2) := by decide +kernel
theorem dX1_healDisk_10 : decode cX1_healDisk 10 = .ok (.iload 4, 2) := by decide +kernel
theorem dX1_healDisk_12 : decode cX1_healDisk 12 = .ok (.iload_n 3, 1) := by decide +kernel
theorem dX1_healDisk_13 : decode cX1_healDisk 13 = .ok (.aload_n 0, 1) := by decide +kernel
theorem dX1_healDisk_14 : decode cX1_healDisk 14 = .ok (.getfield 9, 3) := by decide +kernel
theorem dX1_healDisk_17 : decode cX1_healDisk 17 = .ok (.iload_n 1, 1) := by decide +kernel
theorem dX1_healDisk_18 : decode cX1_healDisk 18 = .ok (.iaload, 1) := by decide +kernel
theorem dX1_healDisk_19 : decode cX1_healDisk 19 = .ok (.iadd, 1) := by decide +kernel
theorem dX1_healDisk_20 : decode cX1_healDisk 20 = .ok (.if_icmp .ge 54, 3) := by decide +kernel
theorem dX1_healDisk_23 : decode cX1_healDisk 23 = .ok (.aload_n 0, 1) := by decide +kernel
theorem dX1_healDisk_24 : decode cX1_healDisk 24 = .ok (.getfield 22, 3) := by decide +kernel
theorem dX1_healDisk_27 : decode cX1_healDisk 27 = .ok (.iload 4, 2) := by decide +kernel
theorem dX1_healDisk_29 : decode cX1_healDisk 29 = .ok (.iaload, 1) := by decide +kernel
theorem dX1_healDisk_30 : decode cX1_healDisk 30 = .ok (.istore 5, 2) := by decide +kernel
theorem dX1_healDisk_32 : decode cX1_healDisk 32 = .ok (.iload 5, 2) := by decide +kernel
theorem dX1_healDisk_34 : decode cX1_healDisk 34 = .ok (.iconst (-1), 1) := by decide +kernel
theorem dX1_healDisk_35 : decode cX1_healDisk 35 = .ok (.if_icmp .eq 33, 3) := by decide +kernel
theorem dX1_healDisk_38 : decode cX1_healDisk 38 = .ok (.aload_n 0, 1) := by decide +kernel
theorem dX1_healDisk_39 : decode cX1_healDisk 39 = .ok (.getfield 25, 3) := by decide +kernel
theorem dX1_healDisk_42 : decode cX1_healDisk 42 = .ok (.iload 4, 2) := by decide +kernel
theorem dX1_healDisk_44 : decode cX1_healDisk 44 = .ok (.baload, 1) := by decide +kernel
theorem dX1_healDisk_45 : decode cX1_healDisk 45 = .ok (.ifCond .eq 23, 3) := by decide +kernel
theorem dX1_healDisk_48 : decode cX1_healDisk 48 = .ok (.aload_n 0, 1) := by decide +kernel
theorem dX1_healDisk_49 : decode cX1_healDisk 49 = .ok (.iload 5, 2) := by decide +kernel
theorem dX1_healDisk_51 : decode cX1_healDisk 51 = .ok (.invokevirtual 70, 3) := by decide +kernel
theorem dX1_healDisk_54 : decode cX1_healDisk 54 = .ok (.ifCond .eq 14, 3) := by decide +kernel
theorem dX1_healDisk_57 : decode cX1_healDisk 57 = .ok (.aload_n 0, 1) := by decide +kernel
theorem dX1_healDisk_58 : decode cX1_healDisk 58 = .ok (.getfield 25, 3) := by decide +kernel
theorem dX1_healDisk_61 : decode cX1_healDisk 61 = .ok (.iload 4, 2) := by decide +kernel
theorem dX1_healDisk_63 : decode cX1_healDisk 63 = .ok (.iconst 0, 1) := by decide +kernel
theorem dX1_healDisk_64 : decode cX1_healDisk 64 = .ok (.bastore, 1) := by decide +kernel
theorem dX1_healDisk_65 : decode cX1_healDisk 65 = .ok (.iinc 2 1, 3) := by decide +kernel
theorem dX1_healDisk_68 : decode cX1_healDisk 68 = .ok (.iinc 4 1, 3) := by decide +kernel
theorem dX1_healDisk_71 : decode cX1_healDisk 71 = .ok (.goto (-61), 3) := by decide +kernel
theorem dX1_healDisk_74 : decode cX1_healDisk 74 = .ok (.iload_n 2, 1) := by decide +kernel
theorem dX1_healDisk_75 : decode cX1_healDisk 75 = .ok (.ireturn, 1) := by decide +kernel
theorem dX1_countRotten_0 : decode cX1_countRotten 0 = .ok (.iconst 0, 1) := by decide +kernel
theorem dX1_countRotten_1 : decode cX1_countRotten 1 = .ok (.istore_n 2, 1) := by decide +kernel
theorem dX1_countRotten_2 : decode cX1_countRotten 2 = .ok (.iload_n 1, 1) := by decide +kernel
theorem dX1_countRotten_3 : decode cX1_countRotten 3 = .ok (.bipush 32, 2) := by decide +kernel
theorem dX1_countRotten_5 : decode cX1_countRotten 5 = .ok (.imul, 1) := by decide +kernel
theorem dX1_countRotten_6 : decode cX1_countRotten 6 = .ok (.istore_n 3, 1) := by decide +kernel
theorem dX1_countRotten_7 : decode cX1_countRotten 7 = .ok (.iload_n 3, 1) := by decide +kernel
theorem dX1_countRotten_8 : decode cX1_countRotten 8 = .ok (.istore 4, 2) := by decide +kernel
theorem dX1_countRotten_10 : decode cX1_countRotten 10 = .ok (.iload 4, 2) := by decide +kernel
theorem dX1_countRotten_12 : decode cX1_countRotten 12 = .ok (.iload_n 3, 1) := by decide +kernel
theorem dX1_countRotten_13 : decode cX1_countRotten 13 = .ok (.aload_n 0, 1) := by decide +kernel
theorem dX1_countRotten_14 : decode cX1_countRotten 14 = .ok (.getfield 9, 3) := by decide +kernel
theorem dX1_countRotten_17 : decode cX1_countRotten 17 = .ok (.iload_n 1, 1) := by decide +kernel
theorem dX1_countRotten_18 : decode cX1_countRotten 18 = .ok (.iaload, 1) := by decide +kernel
theorem dX1_countRotten_19 : decode cX1_countRotten 19 = .ok (.iadd, 1) := by decide +kernel
theorem dX1_countRotten_20 : decode cX1_countRotten 20 = .ok (.if_icmp .ge 22, 3) := by decide +kernel
theorem dX1_countRotten_23 : decode cX1_countRotten 23 = .ok (.aload_n 0, 1) := by decide +kernel
theorem dX1_countRotten_24 : decode cX1_countRotten 24 = .ok (.getfield 25, 3) := by decide +kernel
theorem dX1_countRotten_27 : decode cX1_countRotten 27 = .ok (.iload 4, 2) := by decide +kernel
theorem dX1_countRotten_29 : decode cX1_countRotten 29 = .ok (.baload, 1) := by decide +kernel
theorem dX1_countRotten_30 : decode cX1_countRotten 30 = .ok (.ifCond .eq 6, 3) := by decide +kernel
theorem dX1_countRotten_33 : decode cX1_countRotten 33 = .ok (.iinc 2 1, 3) := by decide +kernel
theorem dX1_countRotten_36 : decode cX1_countRotten 36 = .ok (.iinc 4 1, 3) := by decide +kernel
theorem dX1_countRotten_39 : decode cX1_countRotten 39 = .ok (.goto (-29), 3) := by decide +kernel
theorem dX1_countRotten_42 : decode cX1_countRotten 42 = .ok (.iload_n 2, 1) := by decide +kernel
theorem dX1_countRotten_43 : decode cX1_countRotten 43 = .ok (.ireturn, 1) := by decide +kernel
theorem dX1_bearsByCounting_0 : decode cX1_bearsByCounting 0 = .ok (.iconst 0, 1) := by decide +kernel
theorem dX1_bearsByCounting_1 : decode cX1_bearsByCounting 1 = .ok (.istore_n 2, 1) := by decide +kernel
theorem dX1_bearsByCounting_2 : decode cX1_bearsByCounting 2 = .ok (.iload_n 2, 1) := by decide +kernel
theorem dX1_bearsByCounting_3 : decode cX1_bearsByCounting 3 = .ok (.aload_n 0, 1) := by decide +kernel
theorem dX1_bearsByCounting_4 : decode cX1_bearsByCounting 4 = .ok (.getfield 57, 3) := by decide +kernel
theorem dX1_bearsByCounting_7 : decode cX1_bearsByCounting 7 = .ok (.if_icmp .ge 34, 3) := by decide +kernel
theorem dX1_bearsByCounting_10 : decode cX1_bearsByCounting 10 = .ok (.aload_n 0, 1) := by decide +kernel
theorem dX1_bearsByCounting_11 : decode cX1_bearsByCounting 11 = .ok (.aload_n 0, 1) := by decide +kernel
theorem dX1_bearsByCounting_12 : decode cX1_bearsByCounting 12 = .ok (.getfield 41, 3) := by decide +kernel
theorem dX1_bearsByCounting_15 : decode cX1_bearsByCounting 15 = .ok (.iload_n 2, 1) := by decide +kernel
theorem dX1_bearsByCounting_16 : decode cX1_bearsByCounting 16 = .ok (.iaload, 1) := by decide +kernel
theorem dX1_bearsByCounting_17 : decode cX1_bearsByCounting 17 = .ok (.invokevirtual 70, 3) := by decide +kernel
theorem dX1_bearsByCounting_20 : decode cX1_bearsByCounting 20 = .ok (.invokestatic 127, 3) := by decide +kernel
theorem dX1_bearsByCounting_23 : decode cX1_bearsByCounting 23 = .ok (.istore_n 3, 1) := by decide +kernel
theorem dX1_bearsByCounting_24 : decode cX1_bearsByCounting 24 = .ok (.iload_n 3, 1) := by decide +kernel
theorem dX1_bearsByCounting_25 : decode cX1_bearsByCounting 25 = .ok (.ifCond .eq 10, 3) := by decide +kernel
theorem dX1_bearsByCounting_28 : decode cX1_bearsByCounting 28 = .ok (.iload_n 3, 1) := by decide +kernel
theorem dX1_bearsByCounting_29 : decode cX1_bearsByCounting 29 = .ok (.iload_n 1, 1) := by decide +kernel
theorem dX1_bearsByCounting_30 : decode cX1_bearsByCounting 30 = .ok (.if_icmp .gt 5, 3) := by decide +kernel
theorem dX1_bearsByCounting_33 : decode cX1_bearsByCounting 33 = .ok (.iconst 0, 1) := by decide +kernel
theorem dX1_bearsByCounting_34 : decode cX1_bearsByCounting 34 = .ok (.ireturn, 1) := by decide +kernel
theorem dX1_bearsByCounting_35 : decode cX1_bearsByCounting 35 = .ok (.iinc 2 1, 3) := by decide +kernel
theorem dX1_bearsByCounting_38 : decode cX1_bearsByCounting 38 = .ok (.goto (-36), 3) := by decide +kernel
theorem dX1_bearsByCounting_41 : decode cX1_bearsByCounting 41 = .ok (.iconst 1, 1) := by decide +kernel
theorem dX1_bearsByCounting_42 : decode cX1_bearsByCounting 42 = .ok (.ireturn, 1) := by decide +kernel
theorem dX1_bearsByTrying_0 : decode cX1_bearsByTrying 0 = .ok (.iconst 0, 1) := by decide +kernel
theorem dX1_bearsByTrying_1 : decode cX1_bearsByTrying 1 = .ok (.istore_n 2, 1) := by decide +kernel
theorem dX1_bearsByTrying_2 : decode cX1_bearsByTrying 2 = .ok (.iload_n 2, 1) := by decide +kernel
theorem dX1_bearsByTrying_3 : decode cX1_bearsByTrying 3 = .ok (.aload_n 0, 1) := by decide +kernel
theorem dX1_bearsByTrying_4 : decode cX1_bearsByTrying 4 = .ok (.getfield 57, 3) := by decide +kernel
theorem dX1_bearsByTrying_7 : decode cX1_bearsByTrying 7 = .ok (.if_icmp .ge 25, 3) := by decide +kernel
theorem dX1_bearsByTrying_10 : decode cX1_bearsByTrying 10 = .ok (.aload_n 0, 1) := by decide +kernel
theorem dX1_bearsByTrying_11 : decode cX1_bearsByTrying 11 = .ok (.getfield 44, 3) := by decide +kernel
theorem dX1_bearsByTrying_14 : decode cX1_bearsByTrying 14 = .ok (.iload_n 2, 1) := by decide +kernel
theorem dX1_bearsByTrying_15 : decode cX1_bearsByTrying 15 = .ok (.aload_n 0, 1) := by decide +kernel
theorem dX1_bearsByTrying_16 : decode cX1_bearsByTrying 16 = .ok (.aload_n 0, 1) := by decide +kernel
theorem dX1_bearsByTrying_17 : decode cX1_bearsByTrying 17 = .ok (.getfield 41, 3) := by decide +kernel
theorem dX1_bearsByTrying_20 : decode cX1_bearsByTrying 20 = .ok (.iload_n 2, 1) := by decide +kernel
theorem dX1_bearsByTrying_21 : decode cX1_bearsByTrying 21 = .ok (.iaload, 1) := by decide +kernel
theorem dX1_bearsByTrying_22 : decode cX1_bearsByTrying 22 = .ok (.invokevirtual 70, 3) := by decide +kernel
theorem dX1_bearsByTrying_25 : decode cX1_bearsByTrying 25 = .ok (.iastore, 1) := by decide +kernel
theorem dX1_bearsByTrying_26 : decode cX1_bearsByTrying 26 = .ok (.iinc 2 1, 3) := by decide +kernel
theorem dX1_bearsByTrying_29 : decode cX1_bearsByTrying 29 = .ok (.goto (-27), 3) := by decide +kernel
theorem dX1_bearsByTrying_32 : decode cX1_bearsByTrying 32 = .ok (.aload_n 0, 1) := by decide +kernel
theorem dX1_bearsByTrying_33 : decode cX1_bearsByTrying 33 = .ok (.bipush 102, 2) := by decide +kernel
theorem dX1_bearsByTrying_35 : decode cX1_bearsByTrying 35 = .ok (.invokevirtual 132, 3) := by decide +kernel
theorem dX1_bearsByTrying_38 : decode cX1_bearsByTrying 38 = .ok (.istore_n 2, 1) := by decide +kernel
theorem dX1_bearsByTrying_39 : decode cX1_bearsByTrying 39 = .ok (.iload_n 1, 1) := by decide +kernel
theorem dX1_bearsByTrying_40 : decode cX1_bearsByTrying 40 = .ok (.aload_n 0, 1) := by decide +kernel
theorem dX1_bearsByTrying_41 : decode cX1_bearsByTrying 41 = .ok (.getfield 53, 3) := by decide +kernel
theorem dX1_bearsByTrying_44 : decode cX1_bearsByTrying 44 = .ok (.iload_n 2, 1) := by decide +kernel
theorem dX1_bearsByTrying_45 : decode cX1_bearsByTrying 45 = .ok (.invokestatic 127, 3) := by decide +kernel
theorem dX1_bearsByTrying_48 : decode cX1_bearsByTrying 48 = .ok (.isub, 1) := by decide +kernel
theorem dX1_bearsByTrying_49 : decode cX1_bearsByTrying 49 = .ok (.invokestatic 110, 3) := by decide +kernel
theorem dX1_bearsByTrying_52 : decode cX1_bearsByTrying 52 = .ok (.istore_n 3, 1) := by decide +kernel
theorem dX1_bearsByTrying_53 : decode cX1_bearsByTrying 53 = .ok (.iconst 0, 1) := by decide +kernel
theorem dX1_bearsByTrying_54 : decode cX1_bearsByTrying 54 = .ok (.istore 4, 2) := by decide +kernel
theorem dX1_bearsByTrying_56 : decode cX1_bearsByTrying 56 = .ok (.iload 4, 2) := by decide +kernel
theorem dX1_bearsByTrying_58 : decode cX1_bearsByTrying 58 = .ok (.iconst 1, 1) := by decide +kernel
theorem dX1_bearsByTrying_59 : decode cX1_bearsByTrying 59 = .ok (.aload_n 0, 1) := by decide +kernel
theorem dX1_bearsByTrying_60 : decode cX1_bearsByTrying 60 = .ok (.getfield 53, 3) := by decide +kernel
theorem dX1_bearsByTrying_63 : decode cX1_bearsByTrying 63 = .ok (.ishl, 1) := by decide +kernel
theorem dX1_bearsByTrying_64 : decode cX1_bearsByTrying 64 = .ok (.if_icmp .ge 48, 3) := by decide +kernel
theorem dX1_bearsByTrying_67 : decode cX1_bearsByTrying 67 = .ok (.iload 4, 2) := by decide +kernel
theorem dX1_bearsByTrying_69 : decode cX1_bearsByTrying 69 = .ok (.iload_n 2, 1) := by decide +kernel
theorem dX1_bearsByTrying_70 : decode cX1_bearsByTrying 70 = .ok (.iand, 1) := by decide +kernel
theorem dX1_bearsByTrying_71 : decode cX1_bearsByTrying 71 = .ok (.ifCond .ne 16, 3) := by decide +kernel
theorem dX1_bearsByTrying_74 : decode cX1_bearsByTrying 74 = .ok (.iload 4, 2) := by decide +kernel
theorem dX1_bearsByTrying_76 : decode cX1_bearsByTrying 76 = .ok (.invokestatic 127, 3) := by decide +kernel
theorem dX1_bearsByTrying_79 : decode cX1_bearsByTrying 79 = .ok (.iload_n 3, 1) := by decide +kernel
theorem dX1_bearsByTrying_80 : decode cX1_bearsByTrying 80 = .ok (.if_icmp .ne 7, 3) := by decide +kernel
theorem dX1_bearsByTrying_83 : decode cX1_bearsByTrying 83 = .ok (.iconst 1, 1) := by decide +kernel
theorem dX1_bearsByTrying_84 : decode cX1_bearsByTrying 84 = .ok (.goto 4, 3) := by decide +kernel
theorem dX1_bearsByTrying_87 : decode cX1_bearsByTrying 87 = .ok (.iconst 0, 1) := by decide +kernel
theorem dX1_bearsByTrying_88 : decode cX1_bearsByTrying 88 = .ok (.istore 5, 2) := by decide +kernel
theorem dX1_bearsByTrying_90 : decode cX1_bearsByTrying 90 = .ok (.iload 5, 2) := by decide +kernel
theorem dX1_bearsByTrying_92 : decode cX1_bearsByTrying 92 = .ok (.ifCond .eq 14, 3) := by decide +kernel
theorem dX1_bearsByTrying_95 : decode cX1_bearsByTrying 95 = .ok (.aload_n 0, 1) := by decide +kernel
theorem dX1_bearsByTrying_96 : decode cX1_bearsByTrying 96 = .ok (.iload 4, 2) := by decide +kernel
theorem dX1_bearsByTrying_98 : decode cX1_bearsByTrying 98 = .ok (.invokevirtual 136, 3) := by decide +kernel
theorem dX1_bearsByTrying_101 : decode cX1_bearsByTrying 101 = .ok (.ifCond .eq 5, 3) := by decide +kernel
theorem dX1_bearsByTrying_104 : decode cX1_bearsByTrying 104 = .ok (.iconst 0, 1) := by decide +kernel
theorem dX1_bearsByTrying_105 : decode cX1_bearsByTrying 105 = .ok (.ireturn, 1) := by decide +kernel
theorem dX1_bearsByTrying_106 : decode cX1_bearsByTrying 106 = .ok (.iinc 4 1, 3) := by decide +kernel
theorem dX1_bearsByTrying_109 : decode cX1_bearsByTrying 109 = .ok (.goto (-53), 3) := by decide +kernel
theorem dX1_bearsByTrying_112 : decode cX1_bearsByTrying 112 = .ok (.iconst 1, 1) := by decide +kernel
theorem dX1_bearsByTrying_113 : decode cX1_bearsByTrying 113 = .ok (.ireturn, 1) := by decide +kernel
theorem dX1_doesLose_0 : decode cX1_doesLose 0 = .ok (.iconst 0, 1) := by decide +kernel
theorem dX1_doesLose_1 : decode cX1_doesLose 1 = .ok (.istore_n 2, 1) := by decide +kernel
theorem dX1_doesLose_2 : decode cX1_doesLose 2 = .ok (.iload_n 2, 1) := by decide +kernel
theorem dX1_doesLose_3 : decode cX1_doesLose 3 = .ok (.aload_n 0, 1) := by decide +kernel
theorem dX1_doesLose_4 : decode cX1_doesLose 4 = .ok (.getfield 57, 3) := by decide +kernel
theorem dX1_doesLose_7 : decode cX1_doesLose 7 = .ok (.if_icmp .ge 33, 3) := by decide +kernel
theorem dX1_doesLose_10 : decode cX1_doesLose 10 = .ok (.aload_n 0, 1) := by decide +kernel
theorem dX1_doesLose_11 : decode cX1_doesLose 11 = .ok (.getfield 44, 3) := by decide +kernel
theorem dX1_doesLose_14 : decode cX1_doesLose 14 = .ok (.iload_n 2, 1) := by decide +kernel
theorem dX1_doesLose_15 : decode cX1_doesLose 15 = .ok (.iaload, 1) := by decide +kernel
theorem dX1_doesLose_16 : decode cX1_doesLose 16 = .ok (.ifCond .eq 18, 3) := by decide +kernel
theorem dX1_doesLose_19 : decode cX1_doesLose 19 = .ok (.aload_n 0, 1) := by decide +kernel
theorem dX1_doesLose_20 : decode cX1_doesLose 20 = .ok (.getfield 44, 3) := by decide +kernel
theorem dX1_doesLose_23 : decode cX1_doesLose 23 = .ok (.iload_n 2, 1) := by decide +kernel
theorem dX1_doesLose_24 : decode cX1_doesLose 24 = .ok (.iaload, 1) := by decide +kernel
theorem dX1_doesLose_25 : decode cX1_doesLose 25 = .ok (.iload_n 1, 1) := by decide +kernel
theorem dX1_doesLose_26 : decode cX1_doesLose 26 = .ok (.iconst (-1), 1) := by decide +kernel
theorem dX1_doesLose_27 : decode cX1_doesLose 27 = .ok (.ixor, 1) := by decide +kernel
theorem dX1_doesLose_28 : decode cX1_doesLose 28 = .ok (.iand, 1) := by decide +kernel
theorem dX1_doesLose_29 : decode cX1_doesLose 29 = .ok (.ifCond .ne 5, 3) := by decide +kernel
theorem dX1_doesLose_32 : decode cX1_doesLose 32 = .ok (.iconst 1, 1) := by decide +kernel
theorem dX1_doesLose_33 : decode cX1_doesLose 33 = .ok (.ireturn, 1) := by decide +kernel
theorem dX1_doesLose_34 : decode cX1_doesLose 34 = .ok (.iinc 2 1, 3) := by decide +kernel
theorem dX1_doesLose_37 : decode cX1_doesLose 37 = .ok (.goto (-35), 3) := by decide +kernel
theorem dX1_doesLose_40 : decode cX1_doesLose 40 = .ok (.iconst 0, 1) := by decide +kernel
theorem dX1_doesLose_41 : decode cX1_doesLose 41 = .ok (.ireturn, 1) := by decide +kernel
theorem dX1_countCopies_0 : decode cX1_countCopies 0 = .ok (.iconst 0, 1) := by decide +kernel
theorem dX1_countCopies_1 : decode cX1_countCopies 1 = .ok (.istore_n 1, 1) := by decide +kernel
theorem dX1_countCopies_2 : decode cX1_countCopies 2 = .ok (.iconst 0, 1) := by decide +kernel
theorem dX1_countCopies_3 : decode cX1_countCopies 3 = .ok (.istore_n 2, 1) := by decide +kernel
theorem dX1_countCopies_4 : decode cX1_countCopies 4 = .ok (.iload_n 2, 1) := by decide +kernel
theorem dX1_countCopies_5 : decode cX1_countCopies 5 = .ok (.aload_n 0, 1) := by decide +kernel
theorem dX1_countCopies_6 : decode cX1_countCopies 6 = .ok (.getfield 57, 3) := by decide +kernel
theorem dX1_countCopies_9 : decode cX1_countCopies 9 = .ok (.if_icmp .ge 23, 3) := by decide +kernel
theorem dX1_countCopies_12 : decode cX1_countCopies 12 = .ok (.iload_n 1, 1) := by decide +kernel
theorem dX1_countCopies_13 : decode cX1_countCopies 13 = .ok (.aload_n 0, 1) := by decide +kernel
theorem dX1_countCopies_14 : decode cX1_countCopies 14 = .ok (.getfield 35, 3) := by decide +kernel
theorem dX1_countCopies_17 : decode cX1_countCopies 17 = .ok (.aload_n 0, 1) := by decide +kernel
theorem dX1_countCopies_18 : decode cX1_countCopies 18 = .ok (.getfield 41, 3) := by decide +kernel
theorem dX1_countCopies_21 : decode cX1_countCopies 21 = .ok (.iload_n 2, 1) := by decide +kernel
theorem dX1_countCopies_22 : decode cX1_countCopies 22 = .ok (.iaload, 1) := by decide +kernel
theorem dX1_countCopies_23 : decode cX1_countCopies 23 = .ok (.iaload, 1) := by decide +kernel
theorem dX1_countCopies_24 : decode cX1_countCopies 24 = .ok (.iadd, 1) := by decide +kernel
theorem dX1_countCopies_25 : decode cX1_countCopies 25 = .ok (.istore_n 1, 1) := by decide +kernel
theorem dX1_countCopies_26 : decode cX1_countCopies 26 = .ok (.iinc 2 1, 3) := by decide +kernel
theorem dX1_countCopies_29 : decode cX1_countCopies 29 = .ok (.goto (-25), 3) := by decide +kernel
theorem dX1_countCopies_32 : decode cX1_countCopies 32 = .ok (.iload_n 1, 1) := by decide +kernel
theorem dX1_countCopies_33 : decode cX1_countCopies 33 = .ok (.ireturn, 1) := by decide +kernel
theorem dX1_countSlots_0 : decode cX1_countSlots 0 = .ok (.iconst 0, 1) := by decide +kernel
theorem dX1_countSlots_1 : decode cX1_countSlots 1 = .ok (.istore_n 1, 1) := by decide +kernel
theorem dX1_countSlots_2 : decode cX1_countSlots 2 = .ok (.iconst 0, 1) := by decide +kernel
theorem dX1_countSlots_3 : decode cX1_countSlots 3 = .ok (.istore_n 2, 1) := by decide +kernel
theorem dX1_countSlots_4 : decode cX1_countSlots 4 = .ok (.iload_n 2, 1) := by decide +kernel
theorem dX1_countSlots_5 : decode cX1_countSlots 5 = .ok (.aload_n 0, 1) := by decide +kernel
theorem dX1_countSlots_6 : decode cX1_countSlots 6 = .ok (.getfield 53, 3) := by decide +kernel
theorem dX1_countSlots_9 : decode cX1_countSlots 9 = .ok (.if_icmp .ge 29, 3) := by decide +kernel
theorem dX1_countSlots_12 : decode cX1_countSlots 12 = .ok (.aload_n 0, 1) := by decide +kernel
theorem dX1_countSlots_13 : decode cX1_countSlots 13 = .ok (.getfield 18, 3) := by decide +kernel
theorem dX1_countSlots_16 : decode cX1_countSlots 16 = .ok (.iload_n 2, 1) := by decide +kernel
theorem dX1_countSlots_17 : decode cX1_countSlots 17 = .ok (.caload, 1) := by decide +kernel
theorem dX1_countSlots_18 : decode cX1_countSlots 18 = .ok (.bipush 102, 2) := by decide +kernel
theorem dX1_countSlots_20 : decode cX1_countSlots 20 = .ok (.if_icmp .eq 12, 3) := by decide +kernel
theorem dX1_countSlots_23 : decode cX1_countSlots 23 = .ok (.iload_n 1, 1) := by decide +kernel
theorem dX1_countSlots_24 : decode cX1_countSlots 24 = .ok (.aload_n 0, 1) := by decide +kernel
theorem dX1_countSlots_25 : decode cX1_countSlots 25 = .ok (.getfield 9, 3) := by decide +kernel
theorem dX1_countSlots_28 : decode cX1_countSlots 28 = .ok (.iload_n 2, 1) := by decide +kernel
theorem dX1_countSlots_29 : decode cX1_countSlots 29 = .ok (.iaload, 1) := by decide +kernel
theorem dX1_countSlots_30 : decode cX1_countSlots 30 = .ok (.iadd, 1) := by decide +kernel
theorem dX1_countSlots_31 : decode cX1_countSlots 31 = .ok (.istore_n 1, 1) := by decide +kernel
theorem dX1_countSlots_32 : decode cX1_countSlots 32 = .ok (.iinc 2 1, 3) := by decide +kernel
theorem dX1_countSlots_35 : decode cX1_countSlots 35 = .ok (.goto (-31), 3) := by decide +kernel
theorem dX1_countSlots_38 : decode cX1_countSlots 38 = .ok (.iload_n 1, 1) := by decide +kernel
theorem dX1_countSlots_39 : decode cX1_countSlots 39 = .ok (.ireturn, 1) := by decide +kernel
theorem dX1_agreesWithDisks_0 : decode cX1_agreesWithDisks 0 = .ok (.aload_n 0, 1) := by decide +kernel
theorem dX1_agreesWithDisks_1 : decode cX1_agreesWithDisks 1 = .ok (.bipush 102, 2) := by decide +kernel
theorem dX1_agreesWithDisks_3 : decode cX1_agreesWithDisks 3 = .ok (.invokevirtual 132, 3) := by decide +kernel
theorem dX1_agreesWithDisks_6 : decode cX1_agreesWithDisks 6 = .ok (.istore_n 1, 1) := by decide +kernel
theorem dX1_agreesWithDisks_7 : decode cX1_agreesWithDisks 7 = .ok (.iconst 0, 1) := by decide +kernel
theorem dX1_agreesWithDisks_8 : decode cX1_agreesWithDisks 8 = .ok (.istore_n 2, 1) := by decide +kernel
theorem dX1_agreesWithDisks_9 : decode cX1_agreesWithDisks 9 = .ok (.iload_n 2, 1) := by decide +kernel
theorem dX1_agreesWithDisks_10 : decode cX1_agreesWithDisks 10 = .ok (.aload_n 0, 1) := by decide +kernel
theorem dX1_agreesWithDisks_11 : decode cX1_agreesWithDisks 11 = .ok (.getfield 57, 3) := by decide +kernel
theorem dX1_agreesWithDisks_14 : decode cX1_agreesWithDisks 14 = .ok (.if_icmp .ge 72, 3) := by decide +kernel
theorem dX1_agreesWithDisks_17 : decode cX1_agreesWithDisks 17 = .ok (.aload_n 0, 1) := by decide +kernel
theorem dX1_agreesWithDisks_18 : decode cX1_agreesWithDisks 18 = .ok (.getfield 41, 3) := by decide +kernel
theorem dX1_agreesWithDisks_21 : decode cX1_agreesWithDisks 21 = .ok (.iload_n 2, 1) := by decide +kernel
theorem dX1_agreesWithDisks_22 : decode cX1_agreesWithDisks 22 = .ok (.iaload, 1) := by decide +kernel
theorem dX1_agreesWithDisks_23 : decode cX1_agreesWithDisks 23 = .ok (.istore_n 3, 1) := by decide +kernel
theorem dX1_agreesWithDisks_24 : decode cX1_agreesWithDisks 24 = .ok (.aload_n 0, 1) := by decide +kernel
theorem dX1_agreesWithDisks_25 : decode cX1_agreesWithDisks 25 = .ok (.iload_n 3, 1) := by decide +kernel
theorem dX1_agreesWithDisks_26 : decode cX1_agreesWithDisks 26 = .ok (.invokevirtual 100, 3) := by decide +kernel
theorem dX1_agreesWithDisks_29 : decode cX1_agreesWithDisks 29 = .ok (.istore 4, 2) := by decide +kernel
theorem dX1_agreesWithDisks_31 : decode cX1_agreesWithDisks 31 = .ok (.aload_n 0, 1) := by decide +kernel
theorem dX1_agreesWithDisks_32 : decode cX1_agreesWithDisks 32 = .ok (.getfield 35, 3) := by decide +kernel
theorem dX1_agreesWithDisks_35 : decode cX1_agreesWithDisks 35 = .ok (.iload_n 3, 1) := by decide +kernel
theorem dX1_agreesWithDisks_36 : decode cX1_agreesWithDisks 36 = .ok (.iaload, 1) := by decide +kernel
theorem dX1_agreesWithDisks_37 : decode cX1_agreesWithDisks 37 = .ok (.aload_n 0, 1) := by decide +kernel
theorem dX1_agreesWithDisks_38 : decode cX1_agreesWithDisks 38 = .ok (.iload_n 3, 1) := by decide +kernel
theorem dX1_agreesWithDisks_39 : decode cX1_agreesWithDisks 39 = .ok (.invokevirtual 139, 3) := by decide +kernel
theorem dX1_agreesWithDisks_42 : decode cX1_agreesWithDisks 42 = .ok (.if_icmp .ne 7, 3) := by decide +kernel
theorem dX1_agreesWithDisks_45 : decode cX1_agreesWithDisks 45 = .ok (.iconst 1, 1) := by decide +kernel
theorem dX1_agreesWithDisks_46 : decode cX1_agreesWithDisks 46 = .ok (.goto 4, 3) := by decide +kernel
theorem dX1_agreesWithDisks_49 : decode cX1_agreesWithDisks 49 = .ok (.iconst 0, 1) := by decide +kernel
theorem dX1_agreesWithDisks_50 : decode cX1_agreesWithDisks 50 = .ok (.istore 5, 2) := by decide +kernel
theorem dX1_agreesWithDisks_52 : decode cX1_agreesWithDisks 52 = .ok (.iload 5, 2) := by decide +kernel
theorem dX1_agreesWithDisks_54 : decode cX1_agreesWithDisks 54 = .ok (.ifCond .eq 24, 3) := by decide +kernel
theorem dX1_agreesWithDisks_57 : decode cX1_agreesWithDisks 57 = .ok (.iload 4, 2) := by decide +kernel
theorem dX1_agreesWithDisks_59 : decode cX1_agreesWithDisks 59 = .ok (.invokestatic 127, 3) := by decide +kernel
theorem dX1_agreesWithDisks_62 : decode cX1_agreesWithDisks 62 = .ok (.aload_n 0, 1) := by decide +kernel
theorem dX1_agreesWithDisks_63 : decode cX1_agreesWithDisks 63 = .ok (.getfield 35, 3) := by decide +kernel
theorem dX1_agreesWithDisks_66 : decode cX1_agreesWithDisks 66 = .ok (.iload_n 3, 1) := by decide +kernel
theorem dX1_agreesWithDisks_67 : decode cX1_agreesWithDisks 67 = .ok (.iaload, 1) := by decide +kernel
theorem dX1_agreesWithDisks_68 : decode cX1_agreesWithDisks 68 = .ok (.if_icmp .ne 10, 3) := by decide +kernel
theorem dX1_agreesWithDisks_71 : decode cX1_agreesWithDisks 71 = .ok (.iload 4, 2) := by decide +kernel
theorem dX1_agreesWithDisks_73 : decode cX1_agreesWithDisks 73 = .ok (.iload_n 1, 1) := by decide +kernel
theorem dX1_agreesWithDisks_74 : decode cX1_agreesWithDisks 74 = .ok (.iand, 1) := by decide +kernel
theorem dX1_agreesWithDisks_75 : decode cX1_agreesWithDisks 75 = .ok (.ifCond .eq 5, 3) := by decide +kernel
theorem dX1_agreesWithDisks_78 : decode cX1_agreesWithDisks 78 = .ok (.iconst 0, 1) := by decide +kernel
theorem dX1_agreesWithDisks_79 : decode cX1_agreesWithDisks 79 = .ok (.ireturn, 1) := by decide +kernel
theorem dX1_agreesWithDisks_80 : decode cX1_agreesWithDisks 80 = .ok (.iinc 2 1, 3) := by decide +kernel
theorem dX1_agreesWithDisks_83 : decode cX1_agreesWithDisks 83 = .ok (.goto (-74), 3) := by decide +kernel
theorem dX1_agreesWithDisks_86 : decode cX1_agreesWithDisks 86 = .ok (.iconst 1, 1) := by decide +kernel
theorem dX1_agreesWithDisks_87 : decode cX1_agreesWithDisks 87 = .ok (.ireturn, 1) := by decide +kernel
end
section
theorem dX2_init_0 : decode cX2_init 0 = .ok (.aload_n 0, 1) := by decide +kernel
theorem dX2_init_1 : decode cX2_init 1 = .ok (.invokespecial 3, 3) := by decide +kernel
theorem dX2_init_4 : decode cX2_init 4 = .ok (.aload_n 0, 1) := by decide +kernel
theorem dX2_init_5 : decode cX2_init 5 = .ok (.new 9, 3) := by decide +kernel
theorem dX2_init_8 : decode cX2_init 8 = .ok (.dup, 1) := by decide +kernel
theorem dX2_init_9 : decode cX2_init 9 = .ok (.invokespecial 11, 3) := by decide +kernel
theorem dX2_init_12 : decode cX2_init 12 = .ok (.putfield 12, 3) := by decide +kernel
theorem dX2_init_15 : decode cX2_init 15 = .ok (.aload_n 0, 1) := by decide +kernel
theorem dX2_init_16 : decode cX2_init 16 = .ok (.new 9, 3) := by decide +kernel
theorem dX2_init_19 : decode cX2_init 19 = .ok (.dup, 1) := by decide +kernel
theorem dX2_init_20 : decode cX2_init 20 = .ok (.invokespecial 11, 3) := by decide +kernel
theorem dX2_init_23 : decode cX2_init 23 = .ok (.putfield 16, 3) := by decide +kernel
theorem dX2_init_26 : decode cX2_init 26 = .ok (.aload_n 0, 1) := by decide +kernel
theorem dX2_init_27 : decode cX2_init 27 = .ok (.new 19, 3) := by decide +kernel
theorem dX2_init_30 : decode cX2_init 30 = .ok (.dup, 1) := by decide +kernel
theorem dX2_init_31 : decode cX2_init 31 = .ok (.invokespecial 21, 3) := by decide +kernel
theorem dX2_init_34 : decode cX2_init 34 = .ok (.putfield 22, 3) := by decide +kernel
theorem dX2_init_37 : decode cX2_init 37 = .ok (.aload_n 0, 1) := by decide +kernel
theorem dX2_init_38 : decode cX2_init 38 = .ok (.new 26, 3) := by decide +kernel
theorem dX2_init_41 : decode cX2_init 41 = .ok (.dup, 1) := by decide +kernel
theorem dX2_init_42 : decode cX2_init 42 = .ok (.invokespecial 28, 3) := by decide +kernel
theorem dX2_init_45 : decode cX2_init 45 = .ok (.putfield 29, 3) := by decide +kernel
theorem dX2_init_48 : decode cX2_init 48 = .ok (.aload_n 0, 1) := by decide +kernel
theorem dX2_init_49 : decode cX2_init 49 = .ok (.bipush 10, 2) := by decide +kernel
theorem dX2_init_51 : decode cX2_init 51 = .ok (.putfield 33, 3) := by decide +kernel
theorem dX2_init_54 : decode cX2_init 54 = .ok (.return_, 1) := by decide +kernel
theorem dX2_addDisk_0 : decode cX2_addDisk 0 = .ok (.iload_n 1, 1) := by decide +kernel
theorem dX2_addDisk_1 : decode cX2_addDisk 1 = .ok (.iconst 1, 1) := by decide +kernel
theorem dX2_addDisk_2 : decode cX2_addDisk 2 = .ok (.if_icmp .lt 9, 3) := by decide +kernel
theorem dX2_addDisk_5 : decode cX2_addDisk 5 = .ok (.iload_n 1, 1) := by decide +kernel
theorem dX2_addDisk_6 : decode cX2_addDisk 6 = .ok (.bipush 32, 2) := by decide +kernel
theorem dX2_addDisk_8 : decode cX2_addDisk 8 = .ok (.if_icmp .le 13, 3) := by decide +kernel
theorem dX2_addDisk_11 : decode cX2_addDisk 11 = .ok (.new 37, 3) := by decide +kernel
theorem dX2_addDisk_14 : decode cX2_addDisk 14 = .ok (.dup, 1) := by decide +kernel
theorem dX2_addDisk_15 : decode cX2_addDisk 15 = .ok (.ldc 39, 2) := by decide +kernel
theorem dX2_addDisk_17 : decode cX2_addDisk 17 = .ok (.invokespecial 41, 3) := by decide +kernel
theorem dX2_addDisk_20 : decode cX2_addDisk 20 = .ok (.athrow, 1) := by decide +kernel
theorem dX2_addDisk_21 : decode cX2_addDisk 21 = .ok (.aload_n 0, 1) := by decide +kernel
theorem dX2_addDisk_22 : decode cX2_addDisk 22 = .ok (.getfield 12, 3) := by decide +kernel
theorem dX2_addDisk_25 : decode cX2_addDisk 25 = .ok (.getfield 44, 3) := by decide +kernel
theorem dX2_addDisk_28 : decode cX2_addDisk 28 = .ok (.bipush 8, 2) := by decide +kernel
theorem dX2_addDisk_30 : decode cX2_addDisk 30 = .ok (.if_icmp .lt 13, 3) := by decide +kernel
theorem dX2_addDisk_33 : decode cX2_addDisk 33 = .ok (.new 47, 3) := by decide +kernel
theorem dX2_addDisk_36 : decode cX2_addDisk 36 = .ok (.dup, 1) := by decide +kernel
theorem dX2_addDisk_37 : decode cX2_addDisk 37 = .ok (.ldc 49, 2) := by decide +kernel
theorem dX2_addDisk_39 : decode cX2_addDisk 39 = .ok (.invokespecial 51, 3) := by decide +kernel
theorem dX2_addDisk_42 : decode cX2_addDisk 42 = .ok (.athrow, 1) := by decide +kernel
theorem dX2_addDisk_43 : decode cX2_addDisk 43 = .ok (.aload_n 0, 1) := by decide +kernel
theorem dX2_addDisk_44 : decode cX2_addDisk 44 = .ok (.getfield 12, 3) := by decide +kernel
theorem dX2_addDisk_47 : decode cX2_addDisk 47 = .ok (.iload_n 1, 1) := by decide +kernel
theorem dX2_addDisk_48 : decode cX2_addDisk 48 = .ok (.invokevirtual 52, 3) := by decide +kernel
theorem dX2_addDisk_51 : decode cX2_addDisk 51 = .ok (.ireturn, 1) := by decide +kernel
theorem dX2_diskCount_0 : decode cX2_diskCount 0 = .ok (.aload_n 0, 1) := by decide +kernel
theorem dX2_diskCount_1 : decode cX2_diskCount 1 = .ok (.getfield 12, 3) := by decide +kernel
theorem dX2_diskCount_4 : decode cX2_diskCount 4 = .ok (.getfield 44, 3) := by decide +kernel
theorem dX2_diskCount_7 : decode cX2_diskCount 7 = .ok (.ireturn, 1) := by decide +kernel
theorem dX2_diskState_0 : decode cX2_diskState 0 = .ok (.aload_n 0, 1) := by decide +kernel
theorem dX2_diskState_1 : decode cX2_diskState 1 = .ok (.iload_n 1, 1) := by decide +kernel
theorem dX2_diskState_2 : decode cX2_diskState 2 = .ok (.invokevirtual 56, 3) := by decide +kernel
theorem dX2_diskState_5 : decode cX2_diskState 5 = .ok (.aload_n 0, 1) := by decide +kernel
theorem dX2_diskState_6 : decode cX2_diskState 6 = .ok (.getfield 12, 3) := by decide +kernel
theorem dX2_diskState_9 : decode cX2_diskState 9 = .ok (.getfield 60, 3) := by decide +kernel
theorem dX2_diskState_12 : decode cX2_diskState 12 = .ok (.iload_n 1, 1) := by decide +kernel
theorem dX2_diskState_13 : decode cX2_diskState 13 = .ok (.caload, 1) := by decide +kernel
theorem dX2_diskState_14 : decode cX2_diskState 14 = .ok (.ireturn, 1) := by decide +kernel
theorem dX2_usedOn_0 : decode cX2_usedOn 0 = .ok (.aload_n 0, 1) := by decide +kernel
theorem dX2_usedOn_1 : decode cX2_usedOn 1 = .ok (.iload_n 1, 1) := by decide +kernel
theorem dX2_usedOn_2 : decode cX2_usedOn 2 = .ok (.invokevirtual 56, 3) := by decide +kernel
theorem dX2_usedOn_5 : decode cX2_usedOn 5 = .ok (.aload_n 0, 1) := by decide +kernel
theorem dX2_usedOn_6 : decode cX2_usedOn 6 = .ok (.getfield 12, 3) := by decide +kernel
theorem dX2_usedOn_9 : decode cX2_usedOn 9 = .ok (.getfield 64, 3) := by decide +kernel
theorem dX2_usedOn_12 : decode cX2_usedOn 12 = .ok (.iload_n 1, 1) := by decide +kernel
theorem dX2_usedOn_13 : decode cX2_usedOn 13 = .ok (.iaload, 1) := by decide +kernel
theorem dX2_usedOn_14 : decode cX2_usedOn 14 = .ok (.ireturn, 1) := by decide +kernel
theorem dX2_addTenant_0 : decode cX2_addTenant 0 = .ok (.iload_n 1, 1) := by decide +kernel
theorem dX2_addTenant_1 : decode cX2_addTenant 1 = .ok (.iconst 1, 1) := by decide +kernel
theorem dX2_addTenant_2 : decode cX2_addTenant 2 = .ok (.if_icmp .lt 8, 3) := by decide +kernel
theorem dX2_addTenant_5 : decode cX2_addTenant 5 = .ok (.iload_n 1, 1) := by decide +kernel
theorem dX2_addTenant_6 : decode cX2_addTenant 6 = .ok (.iconst 3, 1) := by decide +kernel
theorem dX2_addTenant_7 : decode cX2_addTenant 7 = .ok (.if_icmp .le 13, 3) := by decide +kernel
theorem dX2_addTenant_10 : decode cX2_addTenant 10 = .ok (.new 37, 3) := by decide +kernel
theorem dX2_addTenant_13 : decode cX2_addTenant 13 = .ok (.dup, 1) := by decide +kernel
theorem dX2_addTenant_14 : decode cX2_addTenant 14 = .ok (.ldc 68, 2) := by decide +kernel
theorem dX2_addTenant_16 : decode cX2_addTenant 16 = .ok (.invokespecial 41, 3) := by decide +kernel
theorem dX2_addTenant_19 : decode cX2_addTenant 19 = .ok (.athrow, 1) := by decide +kernel
theorem dX2_addTenant_20 : decode cX2_addTenant 20 = .ok (.iload_n 2, 1) := by decide +kernel
theorem dX2_addTenant_21 : decode cX2_addTenant 21 = .ok (.ifCond .lt 9, 3) := by decide +kernel
theorem dX2_addTenant_24 : decode cX2_addTenant 24 = .ok (.iload_n 2, 1) := by decide +kernel
theorem dX2_addTenant_25 : decode cX2_addTenant 25 = .ok (.bipush 20, 2) := by decide +kernel
theorem dX2_addTenant_27 : decode cX2_addTenant 27 = .ok (.if_icmp .le 13, 3) := by decide +kernel
theorem dX2_addTenant_30 : decode cX2_addTenant 30 = .ok (.new 37, 3) := by decide +kernel
theorem dX2_addTenant_33 : decode cX2_addTenant 33 = .ok (.dup, 1) := by decide +kernel
theorem dX2_addTenant_34 : decode cX2_addTenant 34 = .ok (.ldc 70, 2) := by decide +kernel
theorem dX2_addTenant_36 : decode cX2_addTenant 36 = .ok (.invokespecial 41, 3) := by decide +kernel
theorem dX2_addTenant_39 : decode cX2_addTenant 39 = .ok (.athrow, 1) := by decide +kernel
theorem dX2_addTenant_40 : decode cX2_addTenant 40 = .ok (.aload_n 0, 1) := by decide +kernel
theorem dX2_addTenant_41 : decode cX2_addTenant 41 = .ok (.getfield 22, 3) := by decide +kernel
theorem dX2_addTenant_44 : decode cX2_addTenant 44 = .ok (.getfield 72, 3) := by decide +kernel
theorem dX2_addTenant_47 : decode cX2_addTenant 47 = .ok (.iconst 4, 1) := by decide +kernel
theorem dX2_addTenant_48 : decode cX2_addTenant 48 = .ok (.if_icmp .lt 13, 3) := by decide +kernel
theorem dX2_addTenant_51 : decode cX2_addTenant 51 = .ok (.new 47, 3) := by decide +kernel
theorem dX2_addTenant_54 : decode cX2_addTenant 54 = .ok (.dup, 1) := by decide +kernel
theorem dX2_addTenant_55 : decode cX2_addTenant 55 = .ok (.ldc 75, 2) := by decide +kernel
theorem dX2_addTenant_57 : decode cX2_addTenant 57 = .ok (.invokespecial 51, 3) := by decide +kernel
theorem dX2_addTenant_60 : decode cX2_addTenant 60 = .ok (.athrow, 1) := by decide +kernel
theorem dX2_addTenant_61 : decode cX2_addTenant 61 = .ok (.aload_n 0, 1) := by decide +kernel
theorem dX2_addTenant_62 : decode cX2_addTenant 62 = .ok (.getfield 22, 3) := by decide +kernel
theorem dX2_addTenant_65 : decode cX2_addTenant 65 = .ok (.iload_n 2, 1) := by decide +kernel
theorem dX2_addTenant_66 : decode cX2_addTenant 66 = .ok (.invokevirtual 77, 3) := by decide +kernel
theorem dX2_addTenant_69 : decode cX2_addTenant 69 = .ok (.istore_n 3, 1) := by decide +kernel
theorem dX2_addTenant_70 : decode cX2_addTenant 70 = .ok (.aload_n 0, 1) := by decide +kernel
theorem dX2_addTenant_71 : decode cX2_addTenant 71 = .ok (.getfield 12, 3) := by decide +kernel
theorem dX2_addTenant_74 : decode cX2_addTenant 74 = .ok (.getfield 80, 3) := by decide +kernel
theorem dX2_addTenant_77 : decode cX2_addTenant 77 = .ok (.iload_n 3, 1) := by decide +kernel
theorem dX2_addTenant_78 : decode cX2_addTenant 78 = .ok (.iload_n 1, 1) := by decide +kernel
theorem dX2_addTenant_79 : decode cX2_addTenant 79 = .ok (.iastore, 1) := by decide +kernel
theorem dX2_addTenant_80 : decode cX2_addTenant 80 = .ok (.iload_n 3, 1) := by decide +kernel
theorem dX2_addTenant_81 : decode cX2_addTenant 81 = .ok (.ireturn, 1) := by decide +kernel
theorem dX2_tenantCount_0 : decode cX2_tenantCount 0 = .ok (.aload_n 0, 1) := by decide +kernel
theorem dX2_tenantCount_1 : decode cX2_tenantCount 1 = .ok (.getfield 22, 3) := by decide +kernel
theorem dX2_tenantCount_4 : decode cX2_tenantCount 4 = .ok (.getfield 72, 3) := by decide +kernel
theorem dX2_tenantCount_7 : decode cX2_tenantCount 7 = .ok (.ireturn, 1) := by decide +kernel
theorem dX2_setHurry_0 : decode cX2_setHurry 0 = .ok (.iload_n 1, 1) := by decide +kernel
theorem dX2_setHurry_1 : decode cX2_setHurry 1 = .ok (.ifCond .lt 9, 3) := by decide +kernel
theorem dX2_setHurry_4 : decode cX2_setHurry 4 = .ok (.iload_n 1, 1) := by decide +kernel
theorem dX2_setHurry_5 : decode cX2_setHurry 5 = .ok (.bipush 20, 2) := by decide +kernel
theorem dX2_setHurry_7 : decode cX2_setHurry 7 = .ok (.if_icmp .le 13, 3) := by decide +kernel
theorem dX2_setHurry_10 : decode cX2_setHurry 10 = .ok (.new 37, 3) := by decide +kernel
theorem dX2_setHurry_13 : decode cX2_setHurry 13 = .ok (.dup, 1) := by decide +kernel
theorem dX2_setHurry_14 : decode cX2_setHurry 14 = .ok (.ldc 83, 2) := by decide +kernel
theorem dX2_setHurry_16 : decode cX2_setHurry 16 = .ok (.invokespecial 41, 3) := by decide +kernel
theorem dX2_setHurry_19 : decode cX2_setHurry 19 = .ok (.athrow, 1) := by decide +kernel
theorem dX2_setHurry_20 : decode cX2_setHurry 20 = .ok (.aload_n 0, 1) := by decide +kernel
theorem dX2_setHurry_21 : decode cX2_setHurry 21 = .ok (.getfield 33, 3) := by decide +kernel
theorem dX2_setHurry_24 : decode cX2_setHurry 24 = .ok (.istore_n 2, 1) := by decide +kernel
theorem dX2_setHurry_25 : decode cX2_setHurry 25 = .ok (.aload_n 0, 1) := by decide +kernel
theorem dX2_setHurry_26 : decode cX2_setHurry 26 = .ok (.iload_n 1, 1) := by decide +kernel
theorem dX2_setHurry_27 : decode cX2_setHurry 27 = .ok (.putfield 33, 3) := by decide +kernel
theorem dX2_setHurry_30 : decode cX2_setHurry 30 = .ok (.iload_n 2, 1) := by decide +kernel
theorem dX2_setHurry_31 : decode cX2_setHurry 31 = .ok (.ireturn, 1) := by decide +kernel
theorem dX2_read_0 : decode cX2_read 0 = .ok (.aload_n 0, 1) := by decide +kernel
theorem dX2_read_1 : decode cX2_read 1 = .ok (.iload_n 1, 1) := by decide +kernel
theorem dX2_read_2 : decode cX2_read 2 = .ok (.iload_n 2, 1) := by decide +kernel
theorem dX2_read_3 : decode cX2_read 3 = .ok (.invokevirtual 85, 3) := by decide +kernel
theorem dX2_read_6 : decode cX2_read 6 = .ok (.aload_n 0, 1) := by decide +kernel
theorem dX2_read_7 : decode cX2_read 7 = .ok (.invokevirtual 89, 3) := by decide +kernel
theorem dX2_read_10 : decode cX2_read 10 = .ok (.aload_n 0, 1) := by decide +kernel
theorem dX2_read_11 : decode cX2_read 11 = .ok (.getfield 22, 3) := by decide +kernel
theorem dX2_read_14 : decode cX2_read 14 = .ok (.iload_n 1, 1) := by decide +kernel
theorem dX2_read_15 : decode cX2_read 15 = .ok (.iload_n 1, 1) := by decide +kernel
theorem dX2_read_16 : decode cX2_read 16 = .ok (.iload_n 2, 1) := by decide +kernel
theorem dX2_read_17 : decode cX2_read 17 = .ok (.invokestatic 92, 3) := by decide +kernel
theorem dX2_read_20 : decode cX2_read 20 = .ok (.iconst 0, 1) := by decide +kernel
theorem dX2_read_21 : decode cX2_read 21 = .ok (.iconst 0, 1) := by decide +kernel
theorem dX2_read_22 : decode cX2_read 22 = .ok (.invokevirtual 96, 3) := by decide +kernel
theorem dX2_read_25 : decode cX2_read 25 = .ok (.ireturn, 1) := by decide +kernel
theorem dX2_write_0 : decode cX2_write 0 = .ok (.aload_n 0, 1) := by decide +kernel
theorem dX2_write_1 : decode cX2_write 1 = .ok (.iload_n 1, 1) := by decide +kernel
theorem dX2_write_2 : decode cX2_write 2 = .ok (.iload_n 2, 1) := by decide +kernel
theorem dX2_write_3 : decode cX2_write 3 = .ok (.invokevirtual 85, 3) := by decide +kernel
theorem dX2_write_6 : decode cX2_write 6 = .ok (.iload_n 3, 1) := by decide +kernel
theorem dX2_write_7 : decode cX2_write 7 = .ok (.ifCond .lt 10, 3) := by decide +kernel
theorem dX2_write_10 : decode cX2_write 10 = .ok (.iload_n 3, 1) := by decide +kernel
theorem dX2_write_11 : decode cX2_write 11 = .ok (.sipush 9999, 3) := by decide +kernel
theorem dX2_write_14 : decode cX2_write 14 = .ok (.if_icmp .le 13, 3) := by decide +kernel
theorem dX2_write_17 : decode cX2_write 17 = .ok (.new 37, 3) := by decide +kernel
theorem dX2_write_20 : decode cX2_write 20 = .ok (.dup, 1) := by decide +kernel
theorem dX2_write_21 : decode cX2_write 21 = .ok (.ldc 100, 2) := by decide +kernel
theorem dX2_write_23 : decode cX2_write 23 = .ok (.invokespecial 41, 3) := by decide +kernel
theorem dX2_write_26 : decode cX2_write 26 = .ok (.athrow, 1) := by decide +kernel
theorem dX2_write_27 : decode cX2_write 27 = .ok (.aload_n 0, 1) := by decide +kernel
theorem dX2_write_28 : decode cX2_write 28 = .ok (.invokevirtual 89, 3) := by decide +kernel
theorem dX2_write_31 : decode cX2_write 31 = .ok (.aload_n 0, 1) := by decide +kernel
theorem dX2_write_32 : decode cX2_write 32 = .ok (.getfield 22, 3) := by decide +kernel
theorem dX2_write_35 : decode cX2_write 35 = .ok (.iload_n 1, 1) := by decide +kernel
theorem dX2_write_36 : decode cX2_write 36 = .ok (.iload_n 1, 1) := by decide +kernel
theorem dX2_write_37 : decode cX2_write 37 = .ok (.iload_n 2, 1) := by decide +kernel
theorem dX2_write_38 : decode cX2_write 38 = .ok (.invokestatic 92, 3) := by decide +kernel
theorem dX2_write_41 : decode cX2_write 41 = .ok (.iconst 1, 1) := by decide +kernel
theorem dX2_write_42 : decode cX2_write 42 = .ok (.iload_n 3, 1) := by decide +kernel
theorem dX2_write_43 : decode cX2_write 43 = .ok (.invokevirtual 96, 3) := by decide +kernel
theorem dX2_write_46 : decode cX2_write 46 = .ok (.ireturn, 1) := by decide +kernel
theorem dX2_stateOf_0 : decode cX2_stateOf 0 = .ok (.aload_n 0, 1) := by decide +kernel
theorem dX2_stateOf_1 : decode cX2_stateOf 1 = .ok (.iload_n 1, 1) := by decide +kernel
theorem dX2_stateOf_2 : decode cX2_stateOf 2 = .ok (.invokevirtual 102, 3) := by decide +kernel
theorem dX2_stateOf_5 : decode cX2_stateOf 5 = .ok (.aload_n 0, 1) := by decide +kernel
theorem dX2_stateOf_6 : decode cX2_stateOf 6 = .ok (.getfield 22, 3) := by decide +kernel
theorem dX2_stateOf_9 : decode cX2_stateOf 9 = .ok (.getfield 105, 3) := by decide +kernel
theorem dX2_stateOf_12 : decode cX2_stateOf 12 = .ok (.iload_n 1, 1) := by decide +kernel
theorem dX2_stateOf_13 : decode cX2_stateOf 13 = .ok (.caload, 1) := by decide +kernel
theorem dX2_stateOf_14 : decode cX2_stateOf 14 = .ok (.ireturn, 1) := by decide +kernel
theorem dX2_answerTo_0 : decode cX2_answerTo 0 = .ok (.aload_n 0, 1) := by decide +kernel
theorem dX2_answerTo_1 : decode cX2_answerTo 1 = .ok (.iload_n 1, 1) := by decide +kernel
theorem dX2_answerTo_2 : decode cX2_answerTo 2 = .ok (.invokevirtual 102, 3) := by decide +kernel
theorem dX2_answerTo_5 : decode cX2_answerTo 5 = .ok (.aload_n 0, 1) := by decide +kernel
theorem dX2_answerTo_6 : decode cX2_answerTo 6 = .ok (.getfield 22, 3) := by decide +kernel
theorem dX2_answerTo_9 : decode cX2_answerTo 9 = .ok (.getfield 106, 3) := by decide +kernel
theorem dX2_answerTo_12 : decode cX2_answerTo 12 = .ok (.iload_n 1, 1) := by decide +kernel
theorem dX2_answerTo_13 : decode cX2_answerTo 13 = .ok (.baload, 1) := by decide +kernel
theorem dX2_answerTo_14 : decode cX2_answerTo 14 = .ok (.ifCond .ne 17, 3) := by decide +kernel
theorem dX2_answerTo_17 : decode cX2_answerTo 17 = .ok (.aload_n 0, 1) := by decide +kernel
theorem dX2_answerTo_18 : decode cX2_answerTo 18 = .ok (.getfield 22, 3) := by decide +kernel
theorem dX2_answerTo_21 : decode cX2_answerTo 21 = .ok (.getfield 105, 3) := by decide +kernel
theorem dX2_answerTo_24 : decode cX2_answerTo 24 = .ok (.iload_n 1, 1) := by decide +kernel
theorem dX2_answerTo_25 : decode cX2_answerTo 25 = .ok (.caload, 1) := by decide +kernel
theorem dX2_answerTo_26 : decode cX2_answerTo 26 = .ok (.bipush 100, 2) := by decide +kernel
theorem dX2_answerTo_28 : decode cX2_answerTo 28 = .ok (.if_icmp .eq 13, 3) := by decide +kernel
theorem dX2_answerTo_31 : decode cX2_answerTo 31 = .ok (.new 110, 3) := by decide +kernel
theorem dX2_answerTo_34 : decode cX2_answerTo 34 = .ok (.dup, 1) := by decide +kernel
theorem dX2_answerTo_35 : decode cX2_answerTo 35 = .ok (.ldc 112, 2) := by decide +kernel
theorem dX2_answerTo_37 : decode cX2_answerTo 37 = .ok (.invokespecial 114, 3) := by decide +kernel
theorem dX2_answerTo_40 : decode cX2_answerTo 40 = .ok (.athrow, 1) := by decide +kernel
theorem dX2_answerTo_41 : decode cX2_answerTo 41 = .ok (.aload_n 0, 1) := by decide +kernel
theorem dX2_answerTo_42 : decode cX2_answerTo 42 = .ok (.getfield 22, 3) := by decide +kernel
theorem dX2_answerTo_45 : decode cX2_answerTo 45 = .ok (.getfield 115, 3) := by decide +kernel
theorem dX2_answerTo_48 : decode cX2_answerTo 48 = .ok (.iload_n 1, 1) := by decide +kernel
theorem dX2_answerTo_49 : decode cX2_answerTo 49 = .ok (.iaload, 1) := by decide +kernel
theorem dX2_answerTo_50 : decode cX2_answerTo 50 = .ok (.ireturn, 1) := by decide +kernel
theorem dX2_waitingOf_0 : decode cX2_waitingOf 0 = .ok (.aload_n 0, 1) := by decide +kernel
theorem dX2_waitingOf_1 : decode cX2_waitingOf 1 = .ok (.iload_n 1, 1) := by decide +kernel
theorem dX2_waitingOf_2 : decode cX2_waitingOf 2 = .ok (.invokevirtual 118, 3) := by decide +kernel
theorem dX2_waitingOf_5 : decode cX2_waitingOf 5 = .ok (.aload_n 0, 1) := by decide +kernel
theorem dX2_waitingOf_6 : decode cX2_waitingOf 6 = .ok (.getfield 22, 3) := by decide +kernel
theorem dX2_waitingOf_9 : decode cX2_waitingOf 9 = .ok (.iload_n 1, 1) := by decide +kernel
theorem dX2_waitingOf_10 : decode cX2_waitingOf 10 = .ok (.invokevirtual 121, 3) := by decide +kernel
theorem dX2_waitingOf_13 : decode cX2_waitingOf 13 = .ok (.ireturn, 1) := by decide +kernel
theorem dX2_servedOf_0 : decode cX2_servedOf 0 = .ok (.aload_n 0, 1) := by decide +kernel
theorem dX2_servedOf_1 : decode cX2_servedOf 1 = .ok (.iload_n 1, 1) := by decide +kernel
theorem dX2_servedOf_2 : decode cX2_servedOf 2 = .ok (.invokevirtual 118, 3) := by decide +kernel
theorem dX2_servedOf_5 : decode cX2_servedOf 5 = .ok (.aload_n 0, 1) := by decide +kernel
theorem dX2_servedOf_6 : decode cX2_servedOf 6 = .ok (.getfield 22, 3) := by decide +kernel
theorem dX2_servedOf_9 : decode cX2_servedOf 9 = .ok (.getfield 124, 3) := by decide +kernel
theorem dX2_servedOf_12 : decode cX2_servedOf 12 = .ok (.iload_n 1, 1) := by decide +kernel
theorem dX2_servedOf_13 : decode cX2_servedOf 13 = .ok (.iaload, 1) := by decide +kernel
theorem dX2_servedOf_14 : decode cX2_servedOf 14 = .ok (.ireturn, 1) := by decide +kernel
theorem dX2_creditsOf_0 : decode cX2_creditsOf 0 = .ok (.aload_n 0, 1) := by decide +kernel
theorem dX2_creditsOf_1 : decode cX2_creditsOf 1 = .ok (.iload_n 1, 1) := by decide +kernel
theorem dX2_creditsOf_2 : decode cX2_creditsOf 2 = .ok (.invokevirtual 118, 3) := by decide +kernel
theorem dX2_creditsOf_5 : decode cX2_creditsOf 5 = .ok (.aload_n 0, 1) := by decide +kernel
theorem dX2_creditsOf_6 : decode cX2_creditsOf 6 = .ok (.getfield 22, 3) := by decide +kernel
theorem dX2_creditsOf_9 : decode cX2_creditsOf 9 = .ok (.getfield 127, 3) := by decide +kernel
theorem dX2_creditsOf_12 : decode cX2_creditsOf 12 = .ok (.iload_n 1, 1) := by decide +kernel
theorem dX2_creditsOf_13 : decode cX2_creditsOf 13 = .ok (.iaload, 1) := by decide +kernel
theorem dX2_creditsOf_14 : decode cX2_creditsOf 14 = .ok (.ireturn, 1) := by decide +kernel
theorem dX2_breachesOf_0 : decode cX2_breachesOf 0 = .ok (.aload_n 0, 1) := by decide +kernel
theorem dX2_breachesOf_1 : decode cX2_breachesOf 1 = .ok (.iload_n 1, 1) := by decide +kernel
theorem dX2_breachesOf_2 : decode cX2_breachesOf 2 = .ok (.invokevirtual 118, 3) := by decide +kernel
theorem dX2_breachesOf_5 : decode cX2_breachesOf 5 = .ok (.aload_n 0, 1) := by decide +kernel
theorem dX2_breachesOf_6 : decode cX2_breachesOf 6 = .ok (.getfield 22, 3) := by decide +kernel
theorem dX2_breachesOf_9 : decode cX2_breachesOf 9 = .ok (.getfield 130, 3) := by decide +kernel
theorem dX2_breachesOf_12 : decode cX2_breachesOf 12 = .ok (.iload_n 1, 1) := by decide +kernel
theorem dX2_breachesOf_13 : decode cX2_breachesOf 13 = .ok (.iaload, 1) := by decide +kernel
theorem dX2_breachesOf_14 : decode cX2_breachesOf 14 = .ok (.ireturn, 1) := by decide +kernel
theorem dX2_pass_0 : decode cX2_pass 0 = .ok (.iload_n 1, 1) := by decide +kernel
theorem dX2_pass_1 : decode cX2_pass 1 = .ok (.iconst 1, 1) := by decide +kernel
theorem dX2_pass_2 : decode cX2_pass 2 = .ok (.if_icmp .lt 9, 3) := by decide +kernel
theorem dX2_pass_5 : decode cX2_pass 5 = .ok (.iload_n 1, 1) := by decide +kernel
theorem dX2_pass_6 : decode cX2_pass 6 = .ok (.bipush 50, 2) := by decide +kernel
theorem dX2_pass_8 : decode cX2_pass 8 = .ok (.if_icmp .le 13, 3) := by decide +kernel
theorem dX2_pass_11 : decode cX2_pass 11 = .ok (.new 37, 3) := by decide +kernel
theorem dX2_pass_14 : decode cX2_pass 14 = .ok (.dup, 1) := by decide +kernel
theorem dX2_pass_15 : decode cX2_pass 15 = .ok (.ldc 133, 2) := by decide +kernel
theorem dX2_pass_17 : decode cX2_pass 17 = .ok (.invokespecial 41, 3) := by decide +kernel
theorem dX2_pass_20 : decode cX2_pass 20 = .ok (.athrow, 1) := by decide +kernel
theorem dX2_pass_21 : decode cX2_pass 21 = .ok (.iload_n 1, 1) := by decide +kernel
theorem dX2_pass_22 : decode cX2_pass 22 = .ok (.sipush 9999, 3) := by decide +kernel
theorem dX2_pass_25 : decode cX2_pass 25 = .ok (.aload_n 0, 1) := by decide +kernel
theorem dX2_pass_26 : decode cX2_pass 26 = .ok (.getfield 135, 3) := by decide +kernel
theorem dX2_pass_29 : decode cX2_pass 29 = .ok (.isub, 1) := by decide +kernel
theorem dX2_pass_30 : decode cX2_pass 30 = .ok (.if_icmp .le 13, 3) := by decide +kernel
theorem dX2_pass_33 : decode cX2_pass 33 = .ok (.new 47, 3) := by decide +kernel
theorem dX2_pass_36 : decode cX2_pass 36 = .ok (.dup, 1) := by decide +kernel
theorem dX2_pass_37 : decode cX2_pass 37 = .ok (.ldc 138, 2) := by decide +kernel
theorem dX2_pass_39 : decode cX2_pass 39 = .ok (.invokespecial 51, 3) := by decide +kernel
theorem dX2_pass_42 : decode cX2_pass 42 = .ok (.athrow, 1) := by decide +kernel
theorem dX2_pass_43 : decode cX2_pass 43 = .ok (.iconst 0, 1) := by decide +kernel
theorem dX2_pass_44 : decode cX2_pass 44 = .ok (.istore_n 2, 1) := by decide +kernel
theorem dX2_pass_45 : decode cX2_pass 45 = .ok (.iload_n 2, 1) := by decide +kernel
theorem dX2_pass_46 : decode cX2_pass 46 = .ok (.iload_n 1, 1) := by decide +kernel
theorem dX2_pass_47 : decode cX2_pass 47 = .ok (.if_icmp .ge 67, 3) := by decide +kernel
theorem dX2_pass_50 : decode cX2_pass 50 = .ok (.aload_n 0, 1) := by decide +kernel
theorem dX2_pass_51 : decode cX2_pass 51 = .ok (.getfield 22, 3) := by decide +kernel
theorem dX2_pass_54 : decode cX2_pass 54 = .ok (.invokevirtual 140, 3) := by decide +kernel
theorem dX2_pass_57 : decode cX2_pass 57 = .ok (.aload_n 0, 1) := by decide +kernel
theorem dX2_pass_58 : decode cX2_pass 58 = .ok (.getfield 12, 3) := by decide +kernel
theorem dX2_pass_61 : decode cX2_pass 61 = .ok (.aload_n 0, 1) := by decide +kernel
theorem dX2_pass_62 : decode cX2_pass 62 = .ok (.getfield 33, 3) := by decide +kernel
theorem dX2_pass_65 : decode cX2_pass 65 = .ok (.iconst 2, 1) := by decide +kernel
theorem dX2_pass_66 : decode cX2_pass 66 = .ok (.idiv, 1) := by decide +kernel
theorem dX2_pass_67 : decode cX2_pass 67 = .ok (.invokevirtual 143, 3) := by decide +kernel
theorem dX2_pass_70 : decode cX2_pass 70 = .ok (.istore_n 3, 1) := by decide +kernel
theorem dX2_pass_71 : decode cX2_pass 71 = .ok (.aload_n 0, 1) := by decide +kernel
theorem dX2_pass_72 : decode cX2_pass 72 = .ok (.dup, 1) := by decide +kernel
theorem dX2_pass_73 : decode cX2_pass 73 = .ok (.getfield 146, 3) := by decide +kernel
theorem dX2_pass_76 : decode cX2_pass 76 = .ok (.iload_n 3, 1) := by decide +kernel
theorem dX2_pass_77 : decode cX2_pass 77 = .ok (.iadd, 1) := by decide +kernel
theorem dX2_pass_78 : decode cX2_pass 78 = .ok (.putfield 146, 3) := by decide +kernel
theorem dX2_pass_81 : decode cX2_pass 81 = .ok (.aload_n 0, 1) := by decide +kernel
theorem dX2_pass_82 : decode cX2_pass 82 = .ok (.bipush 20, 2) := by decide +kernel
theorem dX2_pass_84 : decode cX2_pass 84 = .ok (.iload_n 3, 1) := by decide +kernel
theorem dX2_pass_85 : decode cX2_pass 85 = .ok (.iconst 2, 1) := by decide +kernel
theorem dX2_pass_86 : decode cX2_pass 86 = .ok (.imul, 1) := by decide +kernel
theorem dX2_pass_87 : decode cX2_pass 87 = .ok (.isub, 1) := by decide +kernel
theorem dX2_pass_88 : decode cX2_pass 88 = .ok (.invokevirtual 149, 3) := by decide +kernel
theorem dX2_pass_91 : decode cX2_pass 91 = .ok (.aload_n 0, 1) := by decide +kernel
theorem dX2_pass_92 : decode cX2_pass 92 = .ok (.getfield 22, 3) := by decide +kernel
theorem dX2_pass_95 : decode cX2_pass 95 = .ok (.invokevirtual 152, 3) := by decide +kernel
theorem dX2_pass_98 : decode cX2_pass 98 = .ok (.aload_n 0, 1) := by decide +kernel
theorem dX2_pass_99 : decode cX2_pass 99 = .ok (.dup, 1) := by decide +kernel
theorem dX2_pass_100 : decode cX2_pass 100 = .ok (.getfield 135, 3) := by decide +kernel
theorem dX2_pass_103 : decode cX2_pass 103 = .ok (.iconst 1, 1) := by decide +kernel
theorem dX2_pass_104 : decode cX2_pass 104 = .ok (.iadd, 1) := by decide +kernel
theorem dX2_pass_105 : decode cX2_pass 105 = .ok (.putfield 135, 3) := by decide +kernel
theorem dX2_pass_108 : decode cX2_pass 108 = .ok (.iinc 2 1, 3) := by decide +kernel
theorem dX2_pass_111 : decode cX2_pass 111 = .ok (.goto (-66), 3) := by decide +kernel
theorem dX2_pass_114 : decode cX2_pass 114 = .ok (.aload_n 0, 1) := by decide +kernel
theorem dX2_pass_115 : decode cX2_pass 115 = .ok (.getfield 135, 3) := by decide +kernel
theorem dX2_pass_118 : decode cX2_pass 118 = .ok (.ireturn, 1) := by decide +kernel
theorem dX2_clock_0 : decode cX2_clock 0 = .ok (.aload_n 0, 1) := by decide +kernel
theorem dX2_clock_1 : decode cX2_clock 1 = .ok (.getfield 135, 3) := by decide +kernel
theorem dX2_clock_4 : decode cX2_clock 4 = .ok (.ireturn, 1) := by decide +kernel
theorem dX2_blocksOf_0 : decode cX2_blocksOf 0 = .ok (.aload_n 0, 1) := by decide +kernel
theorem dX2_blocksOf_1 : decode cX2_blocksOf 1 = .ok (.iload_n 1, 1) := by decide +kernel
theorem dX2_blocksOf_2 : decode cX2_blocksOf 2 = .ok (.invokevirtual 118, 3) := by decide +kernel
theorem dX2_blocksOf_5 : decode cX2_blocksOf 5 = .ok (.aload_n 0, 1) := by decide +kernel
theorem dX2_blocksOf_6 : decode cX2_blocksOf 6 = .ok (.getfield 12, 3) := by decide +kernel
theorem dX2_blocksOf_9 : decode cX2_blocksOf 9 = .ok (.iload_n 1, 1) := by decide +kernel
theorem dX2_blocksOf_10 : decode cX2_blocksOf 10 = .ok (.invokevirtual 155, 3) := by decide +kernel
theorem dX2_blocksOf_13 : decode cX2_blocksOf 13 = .ok (.ireturn, 1) := by decide +kernel
theorem dX2_copiesOf_0 : decode cX2_copiesOf 0 = .ok (.aload_n 0, 1) := by decide +kernel
theorem dX2_copiesOf_1 : decode cX2_copiesOf 1 = .ok (.iload_n 1, 1) := by decide +kernel
theorem dX2_copiesOf_2 : decode cX2_copiesOf 2 = .ok (.iload_n 2, 1) := by decide +kernel
theorem dX2_copiesOf_3 : decode cX2_copiesOf 3 = .ok (.invokevirtual 85, 3) := by decide +kernel
theorem dX2_copiesOf_6 : decode cX2_copiesOf 6 = .ok (.aload_n 0, 1) := by decide +kernel
theorem dX2_copiesOf_7 : decode cX2_copiesOf 7 = .ok (.getfield 12, 3) := by decide +kernel
theorem dX2_copiesOf_10 : decode cX2_copiesOf 10 = .ok (.getfield 158, 3) := by decide +kernel
theorem dX2_copiesOf_13 : decode cX2_copiesOf 13 = .ok (.iload_n 1, 1) := by decide +kernel
theorem dX2_copiesOf_14 : decode cX2_copiesOf 14 = .ok (.iload_n 2, 1) := by decide +kernel
theorem dX2_copiesOf_15 : decode cX2_copiesOf 15 = .ok (.invokestatic 92, 3) := by decide +kernel
theorem dX2_copiesOf_18 : decode cX2_copiesOf 18 = .ok (.iaload, 1) := by decide +kernel
theorem dX2_copiesOf_19 : decode cX2_copiesOf 19 = .ok (.ireturn, 1) := by decide +kernel
theorem dX2_copiesByDisks_0 : decode cX2_copiesByDisks 0 = .ok (.aload_n 0, 1) := by decide +kernel
theorem dX2_copiesByDisks_1 : decode cX2_copiesByDisks 1 = .ok (.iload_n 1, 1) := by decide +kernel
theorem dX2_copiesByDisks_2 : decode cX2_copiesByDisks 2 = .ok (.iload_n 2, 1) := by decide +kernel
theorem dX2_copiesByDisks_3 : decode cX2_copiesByDisks 3 = .ok (.invokevirtual 85, 3) := by decide +kernel
theorem dX2_copiesByDisks_6 : decode cX2_copiesByDisks 6 = .ok (.aload_n 0, 1) := by decide +kernel
theorem dX2_copiesByDisks_7 : decode cX2_copiesByDisks 7 = .ok (.getfield 12, 3) := by decide +kernel
theorem dX2_copiesByDisks_10 : decode cX2_copiesByDisks 10 = .ok (.iload_n 1, 1) := by decide +kernel
theorem dX2_copiesByDisks_11 : decode cX2_copiesByDisks 11 = .ok (.iload_n 2, 1) := by decide +kernel
theorem dX2_copiesByDisks_12 : decode cX2_copiesByDisks 12 = .ok (.invokestatic 92, 3) := by decide +kernel
theorem dX2_copiesByDisks_15 : decode cX2_copiesByDisks 15 = .ok (.invokevirtual 161, 3) := by decide +kernel
theorem dX2_copiesByDisks_18 : decode cX2_copiesByDisks 18 = .ok (.ireturn, 1) := by decide +kernel
theorem dX2_diskOfCopy_0 : decode cX2_diskOfCopy 0 = .ok (.aload_n 0, 1) := by decide +kernel
theorem dX2_diskOfCopy_1 : decode cX2_diskOfCopy 1 = .ok (.iload_n 1, 1) := by decide +kernel
theorem dX2_diskOfCopy_2 : decode cX2_diskOfCopy 2 = .ok (.iload_n 2, 1) := by decide +kernel
theorem dX2_diskOfCopy_3 : decode cX2_diskOfCopy 3 = .ok (.invokevirtual 85, 3) := by decide +kernel
theorem dX2_diskOfCopy_6 : decode cX2_diskOfCopy 6 = .ok (.iload_n 1, 1) := by decide +kernel
theorem dX2_diskOfCopy_7 : decode cX2_diskOfCopy 7 = .ok (.iload_n 2, 1) := by decide +kernel
theorem dX2_diskOfCopy_8 : decode cX2_diskOfCopy 8 = .ok (.invokestatic 92, 3) := by decide +kernel
theorem dX2_diskOfCopy_11 : decode cX2_diskOfCopy 11 = .ok (.istore 4, 2) := by decide +kernel
theorem dX2_diskOfCopy_13 : decode cX2_diskOfCopy 13 = .ok (.iload_n 3, 1) := by decide +kernel
theorem dX2_diskOfCopy_14 : decode cX2_diskOfCopy 14 = .ok (.ifCond .lt 17, 3) := by decide +kernel
theorem dX2_diskOfCopy_17 : decode cX2_diskOfCopy 17 = .ok (.iload_n 3, 1) := by decide +kernel
theorem dX2_diskOfCopy_18 : decode cX2_diskOfCopy 18 = .ok (.aload_n 0, 1) := by decide +kernel
theorem dX2_diskOfCopy_19 : decode cX2_diskOfCopy 19 = .ok (.getfield 12, 3) := by decide +kernel
theorem dX2_diskOfCopy_22 : decode cX2_diskOfCopy 22 = .ok (.getfield 158, 3) := by decide +kernel
theorem dX2_diskOfCopy_25 : decode cX2_diskOfCopy 25 = .ok (.iload 4, 2) := by decide +kernel
theorem dX2_diskOfCopy_27 : decode cX2_diskOfCopy 27 = .ok (.iaload, 1) := by decide +kernel
theorem dX2_diskOfCopy_28 : decode cX2_diskOfCopy 28 = .ok (.if_icmp .lt 13, 3) := by decide +kernel
theorem dX2_diskOfCopy_31 : decode cX2_diskOfCopy 31 = .ok (.new 110, 3) := by decide +kernel
theorem dX2_diskOfCopy_34 : decode cX2_diskOfCopy 34 = .ok (.dup, 1) := by decide +kernel
theorem dX2_diskOfCopy_35 : decode cX2_diskOfCopy 35 = .ok (.ldc 164, 2) := by decide +kernel
theorem dX2_diskOfCopy_37 : decode cX2_diskOfCopy 37 = .ok (.invokespecial 114, 3) := by decide +kernel
theorem dX2_diskOfCopy_40 : decode cX2_diskOfCopy 40 = .ok (.athrow, 1) := by decide +kernel
theorem dX2_diskOfCopy_41 : decode cX2_diskOfCopy 41 = .ok (.aload_n 0, 1) := by decide +kernel
theorem dX2_diskOfCopy_42 : decode cX2_diskOfCopy 42 = .ok (.getfield 12, 3) := by decide +kernel
theorem dX2_diskOfCopy_45 : decode cX2_diskOfCopy 45 = .ok (.iload 4, 2) := by decide +kernel
theorem dX2_diskOfCopy_47 : decode cX2_diskOfCopy 47 = .ok (.iload_n 3, 1) := by decide +kernel
theorem dX2_diskOfCopy_48 : decode cX2_diskOfCopy 48 = .ok (.invokevirtual 166, 3) := by decide +kernel
theorem dX2_diskOfCopy_51 : decode cX2_diskOfCopy 51 = .ok (.bipush 32, 2) := by decide +kernel
theorem dX2_diskOfCopy_53 : decode cX2_diskOfCopy 53 = .ok (.idiv, 1) := by decide +kernel
theorem dX2_diskOfCopy_54 : decode cX2_diskOfCopy 54 = .ok (.ireturn, 1) := by decide +kernel
theorem dX2_valueOf_0 : decode cX2_valueOf 0 = .ok (.aload_n 0, 1) := by decide +kernel
theorem dX2_valueOf_1 : decode cX2_valueOf 1 = .ok (.iload_n 1, 1) := by decide +kernel
theorem dX2_valueOf_2 : decode cX2_valueOf 2 = .ok (.iload_n 2, 1) := by decide +kernel
theorem dX2_valueOf_3 : decode cX2_valueOf 3 = .ok (.invokevirtual 85, 3) := by decide +kernel
theorem dX2_valueOf_6 : decode cX2_valueOf 6 = .ok (.iload_n 1, 1) := by decide +kernel
theorem dX2_valueOf_7 : decode cX2_valueOf 7 = .ok (.iload_n 2, 1) := by decide +kernel
theorem dX2_valueOf_8 : decode cX2_valueOf 8 = .ok (.invokestatic 92, 3) := by decide +kernel
theorem dX2_valueOf_11 : decode cX2_valueOf 11 = .ok (.istore_n 3, 1) := by decide +kernel
theorem dX2_valueOf_12 : decode cX2_valueOf 12 = .ok (.aload_n 0, 1) := by decide +kernel
theorem dX2_valueOf_13 : decode cX2_valueOf 13 = .ok (.getfield 12, 3) := by decide +kernel
theorem dX2_valueOf_16 : decode cX2_valueOf 16 = .ok (.iload_n 3, 1) := by decide +kernel
theorem dX2_valueOf_17 : decode cX2_valueOf 17 = .ok (.invokevirtual 169, 3) := by decide +kernel
theorem dX2_valueOf_20 : decode cX2_valueOf 20 = .ok (.ifCond .ne 13, 3) := by decide +kernel
theorem dX2_valueOf_23 : decode cX2_valueOf 23 = .ok (.new 110, 3) := by decide +kernel
theorem dX2_valueOf_26 : decode cX2_valueOf 26 = .ok (.dup, 1) := by decide +kernel
theorem dX2_valueOf_27 : decode cX2_valueOf 27 = .ok (.ldc 172, 2) := by decide +kernel
theorem dX2_valueOf_29 : decode cX2_valueOf 29 = .ok (.invokespecial 114, 3) := by decide +kernel
theorem dX2_valueOf_32 : decode cX2_valueOf 32 = .ok (.athrow, 1) := by decide +kernel
theorem dX2_valueOf_33 : decode cX2_valueOf 33 = .ok (.aload_n 0, 1) := by decide +kernel
theorem dX2_valueOf_34 : decode cX2_valueOf 34 = .ok (.getfield 12, 3) := by decide +kernel
theorem dX2_valueOf_37 : decode cX2_valueOf 37 = .ok (.getfield 174, 3) := by decide +kernel
theorem dX2_valueOf_40 : decode cX2_valueOf 40 = .ok (.iload_n 3, 1) := by decide +kernel
theorem dX2_valueOf_41 : decode cX2_valueOf 41 = .ok (.iaload, 1) := by decide +kernel
theorem dX2_valueOf_42 : decode cX2_valueOf 42 = .ok (.ireturn, 1) := by decide +kernel
theorem dX2_isLost_0 : decode cX2_isLost 0 = .ok (.aload_n 0, 1) := by decide +kernel
theorem dX2_isLost_1 : decode cX2_isLost 1 = .ok (.iload_n 1, 1) := by decide +kernel
theorem dX2_isLost_2 : decode cX2_isLost 2 = .ok (.iload_n 2, 1) := by decide +kernel
theorem dX2_isLost_3 : decode cX2_isLost 3 = .ok (.invokevirtual 85, 3) := by decide +kernel
theorem dX2_isLost_6 : decode cX2_isLost 6 = .ok (.aload_n 0, 1) := by decide +kernel
theorem dX2_isLost_7 : decode cX2_isLost 7 = .ok (.getfield 12, 3) := by decide +kernel
theorem dX2_isLost_10 : decode cX2_isLost 10 = .ok (.iload_n 1, 1) := by decide +kernel
theorem dX2_isLost_11 : decode cX2_isLost 11 = .ok (.iload_n 2, 1) := by decide +kernel
theorem dX2_isLost_12 : decode cX2_isLost 12 = .ok (.invokestatic 92, 3) := by decide +kernel
theorem dX2_isLost_15 : decode cX2_isLost 15 = .ok (.invokevirtual 175, 3) := by decide +kernel
theorem dX2_isLost_18 : decode cX2_isLost 18 = .ok (.ireturn, 1) := by decide +kernel
theorem dX2_lostBlocks_0 : decode cX2_lostBlocks 0 = .ok (.aload_n 0, 1) := by decide +kernel
theorem dX2_lostBlocks_1 : decode cX2_lostBlocks 1 = .ok (.getfield 12, 3) := by decide +kernel
theorem dX2_lostBlocks_4 : decode cX2_lostBlocks 4 = .ok (.invokevirtual 179, 3) := by decide +kernel
theorem dX2_lostBlocks_7 : decode cX2_lostBlocks 7 = .ok (.ireturn, 1) := by decide +kernel
theorem dX2_degradedBlocks_0 : decode cX2_degradedBlocks 0 = .ok (.aload_n 0, 1) := by decide +kernel
theorem dX2_degradedBlocks_1 : decode cX2_degradedBlocks 1 = .ok (.getfield 12, 3) := by decide +kernel
theorem dX2_degradedBlocks_4 : decode cX2_degradedBlocks 4 = .ok (.invokevirtual 183, 3) := by decide +kernel
theorem dX2_degradedBlocks_7 : decode cX2_degradedBlocks 7 = .ok (.ireturn, 1) := by decide +kernel
theorem dX2_doesBear_0 : decode cX2_doesBear 0 = .ok (.iload_n 1, 1) := by decide +kernel
theorem dX2_doesBear_1 : decode cX2_doesBear 1 = .ok (.invokestatic 186, 3) := by decide +kernel
theorem dX2_doesBear_4 : decode cX2_doesBear 4 = .ok (.aload_n 0, 1) := by decide +kernel
theorem dX2_doesBear_5 : decode cX2_doesBear 5 = .ok (.getfield 12, 3) := by decide +kernel
theorem dX2_doesBear_8 : decode cX2_doesBear 8 = .ok (.iload_n 1, 1) := by decide +kernel
theorem dX2_doesBear_9 : decode cX2_doesBear 9 = .ok (.invokevirtual 189, 3) := by decide +kernel
theorem dX2_doesBear_12 : decode cX2_doesBear 12 = .ok (.ireturn, 1) := by decide +kernel
theorem dX2_doesBearByTrying_0 : decode cX2_doesBearByTrying 0 = .ok (.iload_n 1, 1) := by decide +kernel
theorem dX2_doesBearByTrying_1 : decode cX2_doesBearByTrying 1 = .ok (.invokestatic 186, 3) := by decide +kernel
theorem dX2_doesBearByTrying_4 : decode cX2_doesBearByTrying 4 = .ok (.aload_n 0, 1) := by decide +kernel
theorem dX2_doesBearByTrying_5 : decode cX2_doesBearByTrying 5 = .ok (.getfield 12, 3) := by decide +kernel
theorem dX2_doesBearByTrying_8 : decode cX2_doesBearByTrying 8 = .ok (.iload_n 1, 1) := by decide +kernel
theorem dX2_doesBearByTrying_9 : decode cX2_doesBearByTrying 9 = .ok (.invokevirtual 192, 3) := by decide +kernel
theorem dX2_doesBearByTrying_12 : decode cX2_doesBearByTrying 12 = .ok (.ireturn, 1) := by decide +kernel
theorem dX2_fail_0 : decode cX2_fail 0 = .ok (.aload_n 0, 1) := by decide +kernel
theorem dX2_fail_1 : decode cX2_fail 1 = .ok (.iload_n 1, 1) := by decide +kernel
theorem dX2_fail_2 : decode cX2_fail 2 = .ok (.invokevirtual 56, 3) := by decide +kernel
theorem dX2_fail_5 : decode cX2_fail 5 = .ok (.aload_n 0, 1) := by decide +kernel
theorem dX2_fail_6 : decode cX2_fail 6 = .ok (.iload_n 1, 1) := by decide +kernel
theorem dX2_fail_7 : decode cX2_fail 7 = .ok (.invokevirtual 195, 3) := by decide +kernel
theorem dX2_fail_10 : decode cX2_fail 10 = .ok (.aload_n 0, 1) := by decide +kernel
theorem dX2_fail_11 : decode cX2_fail 11 = .ok (.getfield 12, 3) := by decide +kernel
theorem dX2_fail_14 : decode cX2_fail 14 = .ok (.iload_n 1, 1) := by decide +kernel
theorem dX2_fail_15 : decode cX2_fail 15 = .ok (.invokevirtual 198, 3) := by decide +kernel
theorem dX2_fail_18 : decode cX2_fail 18 = .ok (.ireturn, 1) := by decide +kernel
theorem dX2_replace_0 : decode cX2_replace 0 = .ok (.aload_n 0, 1) := by decide +kernel
theorem dX2_replace_1 : decode cX2_replace 1 = .ok (.iload_n 1, 1) := by decide +kernel
theorem dX2_replace_2 : decode cX2_replace 2 = .ok (.invokevirtual 56, 3) := by decide +kernel
theorem dX2_replace_5 : decode cX2_replace 5 = .ok (.aload_n 0, 1) := by decide +kernel
theorem dX2_replace_6 : decode cX2_replace 6 = .ok (.getfield 12, 3) := by decide +kernel
theorem dX2_replace_9 : decode cX2_replace 9 = .ok (.getfield 60, 3) := by decide +kernel
theorem dX2_replace_12 : decode cX2_replace 12 = .ok (.iload_n 1, 1) := by decide +kernel
theorem dX2_replace_13 : decode cX2_replace 13 = .ok (.caload, 1) := by decide +kernel
theorem dX2_replace_14 : decode cX2_replace 14 = .ok (.bipush 102, 2) := by decide +kernel
theorem dX2_replace_16 : decode cX2_replace 16 = .ok (.if_icmp .eq 13, 3) := by decide +kernel
theorem dX2_replace_19 : decode cX2_replace 19 = .ok (.new 47, 3) := by decide +kernel
theorem dX2_replace_22 : decode cX2_replace 22 = .ok (.dup, 1) := by decide +kernel
theorem dX2_replace_23 : decode cX2_replace 23 = .ok (.ldc 201, 2) := by decide +kernel
theorem dX2_replace_25 : decode cX2_replace 25 = .ok (.invokespecial 51, 3) := by decide +kernel
theorem dX2_replace_28 : decode cX2_replace 28 = .ok (.athrow, 1) := by decide +kernel
theorem dX2_replace_29 : decode cX2_replace 29 = .ok (.aload_n 0, 1) := by decide +kernel
theorem dX2_replace_30 : decode cX2_replace 30 = .ok (.getfield 12, 3) := by decide +kernel
theorem dX2_replace_33 : decode cX2_replace 33 = .ok (.getfield 60, 3) := by decide +kernel
theorem dX2_replace_36 : decode cX2_replace 36 = .ok (.iload_n 1, 1) := by decide +kernel
theorem dX2_replace_37 : decode cX2_replace 37 = .ok (.bipush 115, 2) := by decide +kernel
theorem dX2_replace_39 : decode cX2_replace 39 = .ok (.castore, 1) := by decide +kernel
theorem dX2_replace_40 : decode cX2_replace 40 = .ok (.aload_n 0, 1) := by decide +kernel
theorem dX2_replace_41 : decode cX2_replace 41 = .ok (.getfield 12, 3) := by decide +kernel
theorem dX2_replace_44 : decode cX2_replace 44 = .ok (.bipush 115, 2) := by decide +kernel
theorem dX2_replace_46 : decode cX2_replace 46 = .ok (.invokevirtual 203, 3) := by decide +kernel
theorem dX2_replace_49 : decode cX2_replace 49 = .ok (.invokestatic 207, 3) := by decide +kernel
theorem dX2_replace_52 : decode cX2_replace 52 = .ok (.ireturn, 1) := by decide +kernel
theorem dX2_warn_0 : decode cX2_warn 0 = .ok (.aload_n 0, 1) := by decide +kernel
theorem dX2_warn_1 : decode cX2_warn 1 = .ok (.iload_n 1, 1) := by decide +kernel
theorem dX2_warn_2 : decode cX2_warn 2 = .ok (.invokevirtual 56, 3) := by decide +kernel
theorem dX2_warn_5 : decode cX2_warn 5 = .ok (.aload_n 0, 1) := by decide +kernel
theorem dX2_warn_6 : decode cX2_warn 6 = .ok (.getfield 12, 3) := by decide +kernel
theorem dX2_warn_9 : decode cX2_warn 9 = .ok (.getfield 60, 3) := by decide +kernel
theorem dX2_warn_12 : decode cX2_warn 12 = .ok (.iload_n 1, 1) := by decide +kernel
theorem dX2_warn_13 : decode cX2_warn 13 = .ok (.caload, 1) := by decide +kernel
theorem dX2_warn_14 : decode cX2_warn 14 = .ok (.bipush 115, 2) := by decide +kernel
theorem dX2_warn_16 : decode cX2_warn 16 = .ok (.if_icmp .eq 13, 3) := by decide +kernel
theorem dX2_warn_19 : decode cX2_warn 19 = .ok (.new 47, 3) := by decide +kernel
theorem dX2_warn_22 : decode cX2_warn 22 = .ok (.dup, 1) := by decide +kernel
theorem dX2_warn_23 : decode cX2_warn 23 = .ok (.ldc 212, 2) := by decide +kernel
theorem dX2_warn_25 : decode cX2_warn 25 = .ok (.invokespecial 51, 3) := by decide +kernel
theorem dX2_warn_28 : decode cX2_warn 28 = .ok (.athrow, 1) := by decide +kernel
theorem dX2_warn_29 : decode cX2_warn 29 = .ok (.aload_n 0, 1) := by decide +kernel
theorem dX2_warn_30 : decode cX2_warn 30 = .ok (.getfield 12, 3) := by decide +kernel
theorem dX2_warn_33 : decode cX2_warn 33 = .ok (.getfield 60, 3) := by decide +kernel
theorem dX2_warn_36 : decode cX2_warn 36 = .ok (.iload_n 1, 1) := by decide +kernel
theorem dX2_warn_37 : decode cX2_warn 37 = .ok (.bipush 119, 2) := by decide +kernel
theorem dX2_warn_39 : decode cX2_warn 39 = .ok (.castore, 1) := by decide +kernel
theorem dX2_warn_40 : decode cX2_warn 40 = .ok (.aload_n 0, 1) := by decide +kernel
theorem dX2_warn_41 : decode cX2_warn 41 = .ok (.getfield 12, 3) := by decide +kernel
theorem dX2_warn_44 : decode cX2_warn 44 = .ok (.getfield 64, 3) := by decide +kernel
theorem dX2_warn_47 : decode cX2_warn 47 = .ok (.iload_n 1, 1) := by decide +kernel
theorem dX2_warn_48 : decode cX2_warn 48 = .ok (.iaload, 1) := by decide +kernel
theorem dX2_warn_49 : decode cX2_warn 49 = .ok (.ireturn, 1) := by decide +kernel
theorem dX2_rot_0 : decode cX2_rot 0 = .ok (.aload_n 0, 1) := by decide +kernel
theorem dX2_rot_1 : decode cX2_rot 1 = .ok (.iload_n 1, 1) := by decide +kernel
theorem dX2_rot_2 : decode cX2_rot 2 = .ok (.invokevirtual 56, 3) := by decide +kernel
theorem dX2_rot_5 : decode cX2_rot 5 = .ok (.iload_n 2, 1) := by decide +kernel
theorem dX2_rot_6 : decode cX2_rot 6 = .ok (.ifCond .lt 16, 3) := by decide +kernel
theorem dX2_rot_9 : decode cX2_rot 9 = .ok (.iload_n 2, 1) := by decide +kernel
theorem dX2_rot_10 : decode cX2_rot 10 = .ok (.aload_n 0, 1) := by decide +kernel
theorem dX2_rot_11 : decode cX2_rot 11 = .ok (.getfield 12, 3) := by decide +kernel
theorem dX2_rot_14 : decode cX2_rot 14 = .ok (.getfield 214, 3) := by decide +kernel
theorem dX2_rot_17 : decode cX2_rot 17 = .ok (.iload_n 1, 1) := by decide +kernel
theorem dX2_rot_18 : decode cX2_rot 18 = .ok (.iaload, 1) := by decide +kernel
theorem dX2_rot_19 : decode cX2_rot 19 = .ok (.if_icmp .lt 13, 3) := by decide +kernel
theorem dX2_rot_22 : decode cX2_rot 22 = .ok (.new 217, 3) := by decide +kernel
theorem dX2_rot_25 : decode cX2_rot 25 = .ok (.dup, 1) := by decide +kernel
theorem dX2_rot_26 : decode cX2_rot 26 = .ok (.ldc 219, 2) := by decide +kernel
theorem dX2_rot_28 : decode cX2_rot 28 = .ok (.invokespecial 221, 3) := by decide +kernel
theorem dX2_rot_31 : decode cX2_rot 31 = .ok (.athrow, 1) := by decide +kernel
theorem dX2_rot_32 : decode cX2_rot 32 = .ok (.iload_n 1, 1) := by decide +kernel
theorem dX2_rot_33 : decode cX2_rot 33 = .ok (.bipush 32, 2) := by decide +kernel
theorem dX2_rot_35 : decode cX2_rot 35 = .ok (.imul, 1) := by decide +kernel
theorem dX2_rot_36 : decode cX2_rot 36 = .ok (.iload_n 2, 1) := by decide +kernel
theorem dX2_rot_37 : decode cX2_rot 37 = .ok (.iadd, 1) := by decide +kernel
theorem dX2_rot_38 : decode cX2_rot 38 = .ok (.istore_n 3, 1) := by decide +kernel
theorem dX2_rot_39 : decode cX2_rot 39 = .ok (.aload_n 0, 1) := by decide +kernel
theorem dX2_rot_40 : decode cX2_rot 40 = .ok (.getfield 12, 3) := by decide +kernel
theorem dX2_rot_43 : decode cX2_rot 43 = .ok (.getfield 222, 3) := by decide +kernel
theorem dX2_rot_46 : decode cX2_rot 46 = .ok (.iload_n 3, 1) := by decide +kernel
theorem dX2_rot_47 : decode cX2_rot 47 = .ok (.iaload, 1) := by decide +kernel
theorem dX2_rot_48 : decode cX2_rot 48 = .ok (.iconst (-1), 1) := by decide +kernel
theorem dX2_rot_49 : decode cX2_rot 49 = .ok (.if_icmp .ne 13, 3) := by decide +kernel
theorem dX2_rot_52 : decode cX2_rot 52 = .ok (.new 110, 3) := by decide +kernel
theorem dX2_rot_55 : decode cX2_rot 55 = .ok (.dup, 1) := by decide +kernel
theorem dX2_rot_56 : decode cX2_rot 56 = .ok (.ldc 225, 2) := by decide +kernel
theorem dX2_rot_58 : decode cX2_rot 58 = .ok (.invokespecial 114, 3) := by decide +kernel
theorem dX2_rot_61 : decode cX2_rot 61 = .ok (.athrow, 1) := by decide +kernel
theorem dX2_rot_62 : decode cX2_rot 62 = .ok (.aload_n 0, 1) := by decide +kernel
theorem dX2_rot_63 : decode cX2_rot 63 = .ok (.getfield 12, 3) := by decide +kernel
theorem dX2_rot_66 : decode cX2_rot 66 = .ok (.getfield 227, 3) := by decide +kernel
theorem dX2_rot_69 : decode cX2_rot 69 = .ok (.iload_n 3, 1) := by decide +kernel
theorem dX2_rot_70 : decode cX2_rot 70 = .ok (.baload, 1) := by decide +kernel
theorem dX2_rot_71 : decode cX2_rot 71 = .ok (.istore 4, 2) := by decide +kernel
theorem dX2_rot_73 : decode cX2_rot 73 = .ok (.aload_n 0, 1) := by decide +kernel
theorem dX2_rot_74 : decode cX2_rot 74 = .ok (.getfield 12, 3) := by decide +kernel
theorem dX2_rot_77 : decode cX2_rot 77 = .ok (.getfield 227, 3) := by decide +kernel
theorem dX2_rot_80 : decode cX2_rot 80 = .ok (.iload_n 3, 1) := by decide +kernel
theorem dX2_rot_81 : decode cX2_rot 81 = .ok (.iconst 1, 1) := by decide +kernel
theorem dX2_rot_82 : decode cX2_rot 82 = .ok (.bastore, 1) := by decide +kernel
theorem dX2_rot_83 : decode cX2_rot 83 = .ok (.iload 4, 2) := by decide +kernel
theorem dX2_rot_85 : decode cX2_rot 85 = .ok (.ireturn, 1) := by decide +kernel
theorem dX2_scrub_0 : decode cX2_scrub 0 = .ok (.aload_n 0, 1) := by decide +kernel
theorem dX2_scrub_1 : decode cX2_scrub 1 = .ok (.iload_n 1, 1) := by decide +kernel
theorem dX2_scrub_2 : decode cX2_scrub 2 = .ok (.invokevirtual 56, 3) := by decide +kernel
theorem dX2_scrub_5 : decode cX2_scrub 5 = .ok (.aload_n 0, 1) := by decide +kernel
theorem dX2_scrub_6 : decode cX2_scrub 6 = .ok (.iload_n 1, 1) := by decide +kernel
theorem dX2_scrub_7 : decode cX2_scrub 7 = .ok (.invokevirtual 195, 3) := by decide +kernel
theorem dX2_scrub_10 : decode cX2_scrub 10 = .ok (.aload_n 0, 1) := by decide +kernel
theorem dX2_scrub_11 : decode cX2_scrub 11 = .ok (.getfield 12, 3) := by decide +kernel
theorem dX2_scrub_14 : decode cX2_scrub 14 = .ok (.iload_n 1, 1) := by decide +kernel
theorem dX2_scrub_15 : decode cX2_scrub 15 = .ok (.invokevirtual 230, 3) := by decide +kernel
theorem dX2_scrub_18 : decode cX2_scrub 18 = .ok (.ireturn, 1) := by decide +kernel
theorem dX2_rottenOn_0 : decode cX2_rottenOn 0 = .ok (.aload_n 0, 1) := by decide +kernel
theorem dX2_rottenOn_1 : decode cX2_rottenOn 1 = .ok (.iload_n 1, 1) := by decide +kernel
theorem dX2_rottenOn_2 : decode cX2_rottenOn 2 = .ok (.invokevirtual 56, 3) := by decide +kernel
theorem dX2_rottenOn_5 : decode cX2_rottenOn 5 = .ok (.aload_n 0, 1) := by decide +kernel
theorem dX2_rottenOn_6 : decode cX2_rottenOn 6 = .ok (.getfield 12, 3) := by decide +kernel
theorem dX2_rottenOn_9 : decode cX2_rottenOn 9 = .ok (.iload_n 1, 1) := by decide +kernel
theorem dX2_rottenOn_10 : decode cX2_rottenOn 10 = .ok (.invokevirtual 233, 3) := by decide +kernel
theorem dX2_rottenOn_13 : decode cX2_rottenOn 13 = .ok (.ireturn, 1) := by decide +kernel
theorem dX2_rebuilt_0 : decode cX2_rebuilt 0 = .ok (.aload_n 0, 1) := by decide +kernel
theorem dX2_rebuilt_1 : decode cX2_rebuilt 1 = .ok (.getfield 146, 3) := by decide +kernel
theorem dX2_rebuilt_4 : decode cX2_rebuilt 4 = .ok (.ireturn, 1) := by decide +kernel
theorem dX2_openRebuilds_0 : decode cX2_openRebuilds 0 = .ok (.aload_n 0, 1) := by decide +kernel
theorem dX2_openRebuilds_1 : decode cX2_openRebuilds 1 = .ok (.getfield 16, 3) := by decide +kernel
theorem dX2_openRebuilds_4 : decode cX2_openRebuilds 4 = .ok (.aload_n 0, 1) := by decide +kernel
theorem dX2_openRebuilds_5 : decode cX2_openRebuilds 5 = .ok (.getfield 12, 3) := by decide +kernel
theorem dX2_openRebuilds_8 : decode cX2_openRebuilds 8 = .ok (.invokevirtual 236, 3) := by decide +kernel
theorem dX2_openRebuilds_11 : decode cX2_openRebuilds 11 = .ok (.aload_n 0, 1) := by decide +kernel
theorem dX2_openRebuilds_12 : decode cX2_openRebuilds 12 = .ok (.getfield 16, 3) := by decide +kernel
theorem dX2_openRebuilds_15 : decode cX2_openRebuilds 15 = .ok (.ldc 240, 2) := by decide +kernel
theorem dX2_openRebuilds_17 : decode cX2_openRebuilds 17 = .ok (.invokevirtual 143, 3) := by decide +kernel
theorem dX2_openRebuilds_20 : decode cX2_openRebuilds 20 = .ok (.ireturn, 1) := by decide +kernel
theorem dX2_meanCopies_0 : decode cX2_meanCopies 0 = .ok (.aload_n 0, 1) := by decide +kernel
theorem dX2_meanCopies_1 : decode cX2_meanCopies 1 = .ok (.getfield 12, 3) := by decide +kernel
theorem dX2_meanCopies_4 : decode cX2_meanCopies 4 = .ok (.getfield 241, 3) := by decide +kernel
theorem dX2_meanCopies_7 : decode cX2_meanCopies 7 = .ok (.ifCond .ne 13, 3) := by decide +kernel
theorem dX2_meanCopies_10 : decode cX2_meanCopies 10 = .ok (.new 244, 3) := by decide +kernel
theorem dX2_meanCopies_13 : decode cX2_meanCopies 13 = .ok (.dup, 1) := by decide +kernel
theorem dX2_meanCopies_14 : decode cX2_meanCopies 14 = .ok (.ldc 246, 2) := by decide +kernel
theorem dX2_meanCopies_16 : decode cX2_meanCopies 16 = .ok (.invokespecial 248, 3) := by decide +kernel
theorem dX2_meanCopies_19 : decode cX2_meanCopies 19 = .ok (.athrow, 1) := by decide +kernel
theorem dX2_meanCopies_20 : decode cX2_meanCopies 20 = .ok (.aload_n 0, 1) := by decide +kernel
theorem dX2_meanCopies_21 : decode cX2_meanCopies 21 = .ok (.getfield 12, 3) := by decide +kernel
theorem dX2_meanCopies_24 : decode cX2_meanCopies 24 = .ok (.invokevirtual 249, 3) := by decide +kernel
theorem dX2_meanCopies_27 : decode cX2_meanCopies 27 = .ok (.i2d, 1) := by decide +kernel
theorem dX2_meanCopies_28 : decode cX2_meanCopies 28 = .ok (.aload_n 0, 1) := by decide +kernel
theorem dX2_meanCopies_29 : decode cX2_meanCopies 29 = .ok (.getfield 12, 3) := by decide +kernel
theorem dX2_meanCopies_32 : decode cX2_meanCopies 32 = .ok (.getfield 241, 3) := by decide +kernel
theorem dX2_meanCopies_35 : decode cX2_meanCopies 35 = .ok (.i2d, 1) := by decide +kernel
theorem dX2_meanCopies_36 : decode cX2_meanCopies 36 = .ok (.ddiv, 1) := by decide +kernel
theorem dX2_meanCopies_37 : decode cX2_meanCopies 37 = .ok (.dreturn, 1) := by decide +kernel
theorem dX2_usedShare_0 : decode cX2_usedShare 0 = .ok (.aload_n 0, 1) := by decide +kernel
theorem dX2_usedShare_1 : decode cX2_usedShare 1 = .ok (.getfield 12, 3) := by decide +kernel
theorem dX2_usedShare_4 : decode cX2_usedShare 4 = .ok (.invokevirtual 252, 3) := by decide +kernel
theorem dX2_usedShare_7 : decode cX2_usedShare 7 = .ok (.istore_n 1, 1) := by decide +kernel
theorem dX2_usedShare_8 : decode cX2_usedShare 8 = .ok (.iload_n 1, 1) := by decide +kernel
theorem dX2_usedShare_9 : decode cX2_usedShare 9 = .ok (.ifCond .ne 13, 3) := by decide +kernel
theorem dX2_usedShare_12 : decode cX2_usedShare 12 = .ok (.new 244, 3) := by decide +kernel
theorem dX2_usedShare_15 : decode cX2_usedShare 15 = .ok (.dup, 1) := by decide +kernel
theorem dX2_usedShare_16 : decode cX2_usedShare 16 = .ok (.ldc 255, 2) := by decide +kernel
theorem dX2_usedShare_18 : decode cX2_usedShare 18 = .ok (.invokespecial 248, 3) := by decide +kernel
theorem dX2_usedShare_21 : decode cX2_usedShare 21 = .ok (.athrow, 1) := by decide +kernel
theorem dX2_usedShare_22 : decode cX2_usedShare 22 = .ok (.aload_n 0, 1) := by decide +kernel
theorem dX2_usedShare_23 : decode cX2_usedShare 23 = .ok (.getfield 12, 3) := by decide +kernel
theorem dX2_usedShare_26 : decode cX2_usedShare 26 = .ok (.invokevirtual 249, 3) := by decide +kernel
theorem dX2_usedShare_29 : decode cX2_usedShare 29 = .ok (.i2f, 1) := by decide +kernel
theorem dX2_usedShare_30 : decode cX2_usedShare 30 = .ok (.iload_n 1, 1) := by decide +kernel
theorem dX2_usedShare_31 : decode cX2_usedShare 31 = .ok (.i2f, 1) := by decide +kernel
theorem dX2_usedShare_32 : decode cX2_usedShare 32 = .ok (.fdiv, 1) := by decide +kernel
theorem dX2_usedShare_33 : decode cX2_usedShare 33 = .ok (.freturn, 1) := by decide +kernel
theorem dX2_isConsistent_0 : decode cX2_isConsistent 0 = .ok (.aload_n 0, 1) := by decide +kernel
theorem dX2_isConsistent_1 : decode cX2_isConsistent 1 = .ok (.getfield 12, 3) := by decide +kernel
theorem dX2_isConsistent_4 : decode cX2_isConsistent 4 = .ok (.invokevirtual 257, 3) := by decide +kernel
theorem dX2_isConsistent_7 : decode cX2_isConsistent 7 = .ok (.ireturn, 1) := by decide +kernel
theorem dX2_writeDisk_0 : decode cX2_writeDisk 0 = .ok (.aload_n 0, 1) := by decide +kernel
theorem dX2_writeDisk_1 : decode cX2_writeDisk 1 = .ok (.iload_n 1, 1) := by decide +kernel
theorem dX2_writeDisk_2 : decode cX2_writeDisk 2 = .ok (.invokevirtual 56, 3) := by decide +kernel
theorem dX2_writeDisk_5 : decode cX2_writeDisk 5 = .ok (.aload_n 0, 1) := by decide +kernel
theorem dX2_writeDisk_6 : decode cX2_writeDisk 6 = .ok (.getfield 29, 3) := by decide +kernel
theorem dX2_writeDisk_9 : decode cX2_writeDisk 9 = .ok (.iconst 0, 1) := by decide +kernel
theorem dX2_writeDisk_10 : decode cX2_writeDisk 10 = .ok (.invokevirtual 261, 3) := by decide +kernel
theorem dX2_writeDisk_13 : decode cX2_writeDisk 13 = .ok (.aload_n 0, 1) := by decide +kernel
theorem dX2_writeDisk_14 : decode cX2_writeDisk 14 = .ok (.getfield 29, 3) := by decide +kernel
theorem dX2_writeDisk_17 : decode cX2_writeDisk 17 = .ok (.aload_n 0, 1) := by decide +kernel
theorem dX2_writeDisk_18 : decode cX2_writeDisk 18 = .ok (.getfield 12, 3) := by decide +kernel
theorem dX2_writeDisk_21 : decode cX2_writeDisk 21 = .ok (.getfield 60, 3) := by decide +kernel
theorem dX2_writeDisk_24 : decode cX2_writeDisk 24 = .ok (.iload_n 1, 1) := by decide +kernel
theorem dX2_writeDisk_25 : decode cX2_writeDisk 25 = .ok (.caload, 1) := by decide +kernel
theorem dX2_writeDisk_26 : decode cX2_writeDisk 26 = .ok (.invokevirtual 264, 3) := by decide +kernel
theorem dX2_writeDisk_29 : decode cX2_writeDisk 29 = .ok (.pop, 1) := by decide +kernel
theorem dX2_writeDisk_30 : decode cX2_writeDisk 30 = .ok (.iload_n 1, 1) := by decide +kernel
theorem dX2_writeDisk_31 : decode cX2_writeDisk 31 = .ok (.bipush 32, 2) := by decide +kernel
theorem dX2_writeDisk_33 : decode cX2_writeDisk 33 = .ok (.imul, 1) := by decide +kernel
theorem dX2_writeDisk_34 : decode cX2_writeDisk 34 = .ok (.istore_n 2, 1) := by decide +kernel
theorem dX2_writeDisk_35 : decode cX2_writeDisk 35 = .ok (.iload_n 2, 1) := by decide +kernel
theorem dX2_writeDisk_36 : decode cX2_writeDisk 36 = .ok (.istore_n 3, 1) := by decide +kernel
theorem dX2_writeDisk_37 : decode cX2_writeDisk 37 = .ok (.iload_n 3, 1) := by decide +kernel
theorem dX2_writeDisk_38 : decode cX2_writeDisk 38 = .ok (.iload_n 2, 1) := by decide +kernel
theorem dX2_writeDisk_39 : decode cX2_writeDisk 39 = .ok (.aload_n 0, 1) := by decide +kernel
theorem dX2_writeDisk_40 : decode cX2_writeDisk 40 = .ok (.getfield 12, 3) := by decide +kernel
theorem dX2_writeDisk_43 : decode cX2_writeDisk 43 = .ok (.getfield 214, 3) := by decide +kernel
theorem dX2_writeDisk_46 : decode cX2_writeDisk 46 = .ok (.iload_n 1, 1) := by decide +kernel
theorem dX2_writeDisk_47 : decode cX2_writeDisk 47 = .ok (.iaload, 1) := by decide +kernel
theorem dX2_writeDisk_48 : decode cX2_writeDisk 48 = .ok (.iadd, 1) := by decide +kernel
theorem dX2_writeDisk_49 : decode cX2_writeDisk 49 = .ok (.if_icmp .ge 44, 3) := by decide +kernel
theorem dX2_writeDisk_52 : decode cX2_writeDisk 52 = .ok (.aload_n 0, 1) := by decide +kernel
theorem dX2_writeDisk_53 : decode cX2_writeDisk 53 = .ok (.getfield 12, 3) := by decide +kernel
theorem dX2_writeDisk_56 : decode cX2_writeDisk 56 = .ok (.getfield 222, 3) := by decide +kernel
theorem dX2_writeDisk_59 : decode cX2_writeDisk 59 = .ok (.iload_n 3, 1) := by decide +kernel
theorem dX2_writeDisk_60 : decode cX2_writeDisk 60 = .ok (.iaload, 1) := by decide +kernel
theorem dX2_writeDisk_61 : decode cX2_writeDisk 61 = .ok (.iconst (-1), 1) := by decide +kernel
theorem dX2_writeDisk_62 : decode cX2_writeDisk 62 = .ok (.if_icmp .eq 25, 3) := by decide +kernel
theorem dX2_writeDisk_65 : decode cX2_writeDisk 65 = .ok (.aload_n 0, 1) := by decide +kernel
theorem dX2_writeDisk_66 : decode cX2_writeDisk 66 = .ok (.aload_n 0, 1) := by decide +kernel
theorem dX2_writeDisk_67 : decode cX2_writeDisk 67 = .ok (.getfield 12, 3) := by decide +kernel
theorem dX2_writeDisk_70 : decode cX2_writeDisk 70 = .ok (.getfield 222, 3) := by decide +kernel
theorem dX2_writeDisk_73 : decode cX2_writeDisk 73 = .ok (.iload_n 3, 1) := by decide +kernel
theorem dX2_writeDisk_74 : decode cX2_writeDisk 74 = .ok (.iaload, 1) := by decide +kernel
theorem dX2_writeDisk_75 : decode cX2_writeDisk 75 = .ok (.aload_n 0, 1) := by decide +kernel
theorem dX2_writeDisk_76 : decode cX2_writeDisk 76 = .ok (.getfield 12, 3) := by decide +kernel
theorem dX2_writeDisk_79 : decode cX2_writeDisk 79 = .ok (.getfield 227, 3) := by decide +kernel
theorem dX2_writeDisk_82 : decode cX2_writeDisk 82 = .ok (.iload_n 3, 1) := by decide +kernel
theorem dX2_writeDisk_83 : decode cX2_writeDisk 83 = .ok (.baload, 1) := by decide +kernel
theorem dX2_writeDisk_84 : decode cX2_writeDisk 84 = .ok (.invokevirtual 268, 3) := by decide +kernel
theorem dX2_writeDisk_87 : decode cX2_writeDisk 87 = .ok (.iinc 3 1, 3) := by decide +kernel
theorem dX2_writeDisk_90 : decode cX2_writeDisk 90 = .ok (.goto (-53), 3) := by decide +kernel
theorem dX2_writeDisk_93 : decode cX2_writeDisk 93 = .ok (.aload_n 0, 1) := by decide +kernel
theorem dX2_writeDisk_94 : decode cX2_writeDisk 94 = .ok (.getfield 29, 3) := by decide +kernel
theorem dX2_writeDisk_97 : decode cX2_writeDisk 97 = .ok (.invokevirtual 272, 3) := by decide +kernel
theorem dX2_writeDisk_100 : decode cX2_writeDisk 100 = .ok (.ireturn, 1) := by decide +kernel
theorem dX2_lineAt_0 : decode cX2_lineAt 0 = .ok (.iload_n 1, 1) := by decide +kernel
theorem dX2_lineAt_1 : decode cX2_lineAt 1 = .ok (.ifCond .lt 14, 3) := by decide +kernel
theorem dX2_lineAt_4 : decode cX2_lineAt 4 = .ok (.iload_n 1, 1) := by decide +kernel
theorem dX2_lineAt_5 : decode cX2_lineAt 5 = .ok (.aload_n 0, 1) := by decide +kernel
theorem dX2_lineAt_6 : decode cX2_lineAt 6 = .ok (.getfield 29, 3) := by decide +kernel
theorem dX2_lineAt_9 : decode cX2_lineAt 9 = .ok (.invokevirtual 272, 3) := by decide +kernel
theorem dX2_lineAt_12 : decode cX2_lineAt 12 = .ok (.if_icmp .lt 14, 3) := by decide +kernel
theorem dX2_lineAt_15 : decode cX2_lineAt 15 = .ok (.new 217, 3) := by decide +kernel
theorem dX2_lineAt_18 : decode cX2_lineAt 18 = .ok (.dup, 1) := by decide +kernel
theorem dX2_lineAt_19 : decode cX2_lineAt 19 = .ok (.ldc_w 275, 3) := by decide +kernel
theorem dX2_lineAt_22 : decode cX2_lineAt 22 = .ok (.invokespecial 221, 3) := by decide +kernel
theorem dX2_lineAt_25 : decode cX2_lineAt 25 = .ok (.athrow, 1) := by decide +kernel
theorem dX2_lineAt_26 : decode cX2_lineAt 26 = .ok (.aload_n 0, 1) := by decide +kernel
theorem dX2_lineAt_27 : decode cX2_lineAt 27 = .ok (.getfield 29, 3) := by decide +kernel
theorem dX2_lineAt_30 : decode cX2_lineAt 30 = .ok (.iload_n 1, 1) := by decide +kernel
theorem dX2_lineAt_31 : decode cX2_lineAt 31 = .ok (.invokevirtual 277, 3) := by decide +kernel
theorem dX2_lineAt_34 : decode cX2_lineAt 34 = .ok (.ireturn, 1) := by decide +kernel
theorem dX2_checkDisk_0 : decode cX2_checkDisk 0 = .ok (.iload_n 1, 1) := by decide +kernel
theorem dX2_checkDisk_1 : decode cX2_checkDisk 1 = .ok (.ifCond .lt 14, 3) := by decide +kernel
theorem dX2_checkDisk_4 : decode cX2_checkDisk 4 = .ok (.iload_n 1, 1) := by decide +kernel
theorem dX2_checkDisk_5 : decode cX2_checkDisk 5 = .ok (.aload_n 0, 1) := by decide +kernel
theorem dX2_checkDisk_6 : decode cX2_checkDisk 6 = .ok (.getfield 12, 3) := by decide +kernel
theorem dX2_checkDisk_9 : decode cX2_checkDisk 9 = .ok (.getfield 44, 3) := by decide +kernel
theorem dX2_checkDisk_12 : decode cX2_checkDisk 12 = .ok (.if_icmp .lt 14, 3) := by decide +kernel
theorem dX2_checkDisk_15 : decode cX2_checkDisk 15 = .ok (.new 217, 3) := by decide +kernel
theorem dX2_checkDisk_18 : decode cX2_checkDisk 18 = .ok (.dup, 1) := by decide +kernel
theorem dX2_checkDisk_19 : decode cX2_checkDisk 19 = .ok (.ldc_w 281, 3) := by decide +kernel
theorem dX2_checkDisk_22 : decode cX2_checkDisk 22 = .ok (.invokespecial 221, 3) := by decide +kernel
theorem dX2_checkDisk_25 : decode cX2_checkDisk 25 = .ok (.athrow, 1) := by decide +kernel
theorem dX2_checkDisk_26 : decode cX2_checkDisk 26 = .ok (.return_, 1) := by decide +kernel
theorem dX2_checkNotFailed_0 : decode cX2_checkNotFailed 0 = .ok (.aload_n 0, 1) := by decide +kernel
theorem dX2_checkNotFailed_1 : decode cX2_checkNotFailed 1 = .ok (.getfield 12, 3) := by decide +kernel
theorem dX2_checkNotFailed_4 : decode cX2_checkNotFailed 4 = .ok (.getfield 60, 3) := by decide +kernel
theorem dX2_checkNotFailed_7 : decode cX2_checkNotFailed 7 = .ok (.iload_n 1, 1) := by decide +kernel
theorem dX2_checkNotFailed_8 : decode cX2_checkNotFailed 8 = .ok (.caload, 1) := by decide +kernel
theorem dX2_checkNotFailed_9 : decode cX2_checkNotFailed 9 = .ok (.bipush 102, 2) := by decide +kernel
theorem dX2_checkNotFailed_11 : decode cX2_checkNotFailed 11 = .ok (.if_icmp .ne 14, 3) := by decide +kernel
theorem dX2_checkNotFailed_14 : decode cX2_checkNotFailed 14 = .ok (.new 47, 3) := by decide +kernel
theorem dX2_checkNotFailed_17 : decode cX2_checkNotFailed 17 = .ok (.dup, 1) := by decide +kernel
theorem dX2_checkNotFailed_18 : decode cX2_checkNotFailed 18 = .ok (.ldc_w 283, 3) := by decide +kernel
theorem dX2_checkNotFailed_21 : decode cX2_checkNotFailed 21 = .ok (.invokespecial 51, 3) := by decide +kernel
theorem dX2_checkNotFailed_24 : decode cX2_checkNotFailed 24 = .ok (.athrow, 1) := by decide +kernel
theorem dX2_checkNotFailed_25 : decode cX2_checkNotFailed 25 = .ok (.return_, 1) := by decide +kernel
theorem dX2_checkTenant_0 : decode cX2_checkTenant 0 = .ok (.iload_n 1, 1) := by decide +kernel
theorem dX2_checkTenant_1 : decode cX2_checkTenant 1 = .ok (.ifCond .lt 14, 3) := by decide +kernel
theorem dX2_checkTenant_4 : decode cX2_checkTenant 4 = .ok (.iload_n 1, 1) := by decide +kernel
theorem dX2_checkTenant_5 : decode cX2_checkTenant 5 = .ok (.aload_n 0, 1) := by decide +kernel
theorem dX2_checkTenant_6 : decode cX2_checkTenant 6 = .ok (.getfield 22, 3) := by decide +kernel
theorem dX2_checkTenant_9 : decode cX2_checkTenant 9 = .ok (.getfield 72, 3) := by decide +kernel
theorem dX2_checkTenant_12 : decode cX2_checkTenant 12 = .ok (.if_icmp .lt 14, 3) := by decide +kernel
theorem dX2_checkTenant_15 : decode cX2_checkTenant 15 = .ok (.new 217, 3) := by decide +kernel
theorem dX2_checkTenant_18 : decode cX2_checkTenant 18 = .ok (.dup, 1) := by decide +kernel
theorem dX2_checkTenant_19 : decode cX2_checkTenant 19 = .ok (.ldc_w 285, 3) := by decide +kernel
theorem dX2_checkTenant_22 : decode cX2_checkTenant 22 = .ok (.invokespecial 221, 3) := by decide +kernel
theorem dX2_checkTenant_25 : decode cX2_checkTenant 25 = .ok (.athrow, 1) := by decide +kernel
theorem dX2_checkTenant_26 : decode cX2_checkTenant 26 = .ok (.return_, 1) := by decide +kernel
theorem dX2_checkBlock_0 : decode cX2_checkBlock 0 = .ok (.aload_n 0, 1) := by decide +kernel
theorem dX2_checkBlock_1 : decode cX2_checkBlock 1 = .ok (.iload_n 1, 1) := by decide +kernel
theorem dX2_checkBlock_2 : decode cX2_checkBlock 2 = .ok (.invokevirtual 118, 3) := by decide +kernel
theorem dX2_checkBlock_5 : decode cX2_checkBlock 5 = .ok (.iload_n 2, 1) := by decide +kernel
theorem dX2_checkBlock_6 : decode cX2_checkBlock 6 = .ok (.ifCond .lt 9, 3) := by decide +kernel
theorem dX2_checkBlock_9 : decode cX2_checkBlock 9 = .ok (.iload_n 2, 1) := by decide +kernel
theorem dX2_checkBlock_10 : decode cX2_checkBlock 10 = .ok (.bipush 100, 2) := by decide +kernel
theorem dX2_checkBlock_12 : decode cX2_checkBlock 12 = .ok (.if_icmp .lt 14, 3) := by decide +kernel
theorem dX2_checkBlock_15 : decode cX2_checkBlock 15 = .ok (.new 217, 3) := by decide +kernel
theorem dX2_checkBlock_18 : decode cX2_checkBlock 18 = .ok (.dup, 1) := by decide +kernel
theorem dX2_checkBlock_19 : decode cX2_checkBlock 19 = .ok (.ldc_w 287, 3) := by decide +kernel
theorem dX2_checkBlock_22 : decode cX2_checkBlock 22 = .ok (.invokespecial 221, 3) := by decide +kernel
theorem dX2_checkBlock_25 : decode cX2_checkBlock 25 = .ok (.athrow, 1) := by decide +kernel
theorem dX2_checkBlock_26 : decode cX2_checkBlock 26 = .ok (.return_, 1) := by decide +kernel
theorem dX2_checkRequest_0 : decode cX2_checkRequest 0 = .ok (.iload_n 1, 1) := by decide +kernel
theorem dX2_checkRequest_1 : decode cX2_checkRequest 1 = .ok (.ifCond .lt 14, 3) := by decide +kernel
theorem dX2_checkRequest_4 : decode cX2_checkRequest 4 = .ok (.iload_n 1, 1) := by decide +kernel
theorem dX2_checkRequest_5 : decode cX2_checkRequest 5 = .ok (.aload_n 0, 1) := by decide +kernel
theorem dX2_checkRequest_6 : decode cX2_checkRequest 6 = .ok (.getfield 22, 3) := by decide +kernel
theorem dX2_checkRequest_9 : decode cX2_checkRequest 9 = .ok (.getfield 289, 3) := by decide +kernel
theorem dX2_checkRequest_12 : decode cX2_checkRequest 12 = .ok (.if_icmp .lt 14, 3) := by decide +kernel
theorem dX2_checkRequest_15 : decode cX2_checkRequest 15 = .ok (.new 217, 3) := by decide +kernel
theorem dX2_checkRequest_18 : decode cX2_checkRequest 18 = .ok (.dup, 1) := by decide +kernel
theorem dX2_checkRequest_19 : decode cX2_checkRequest 19 = .ok (.ldc_w 292, 3) := by decide +kernel
theorem dX2_checkRequest_22 : decode cX2_checkRequest 22 = .ok (.invokespecial 221, 3) := by decide +kernel
theorem dX2_checkRequest_25 : decode cX2_checkRequest 25 = .ok (.athrow, 1) := by decide +kernel
theorem dX2_checkRequest_26 : decode cX2_checkRequest 26 = .ok (.return_, 1) := by decide +kernel
theorem dX2_checkRoomForRequest_0 : decode cX2_checkRoomForRequest 0 = .ok (.aload_n 0, 1) := by decide +kernel
theorem dX2_checkRoomForRequest_1 : decode cX2_checkRoomForRequest 1 = .ok (.getfield 22, 3) := by decide +kernel
theorem dX2_checkRoomForRequest_4 : decode cX2_checkRoomForRequest 4 = .ok (.getfield 294, 3) := by decide +kernel
theorem dX2_checkRoomForRequest_7 : decode cX2_checkRoomForRequest 7 = .ok (.bipush 40, 2) := by decide +kernel
theorem dX2_checkRoomForRequest_9 : decode cX2_checkRoomForRequest 9 = .ok (.if_icmp .lt 14, 3) := by decide +kernel
theorem dX2_checkRoomForRequest_12 : decode cX2_checkRoomForRequest 12 = .ok (.new 47, 3) := by decide +kernel
theorem dX2_checkRoomForRequest_15 : decode cX2_checkRoomForRequest 15 = .ok (.dup, 1) := by decide +kernel
theorem dX2_checkRoomForRequest_16 : decode cX2_checkRoomForRequest 16 = .ok (.ldc_w 297, 3) := by decide +kernel
theorem dX2_checkRoomForRequest_19 : decode cX2_checkRoomForRequest 19 = .ok (.invokespecial 51, 3) := by decide +kernel
theorem dX2_checkRoomForRequest_22 : decode cX2_checkRoomForRequest 22 = .ok (.athrow, 1) := by decide +kernel
theorem dX2_checkRoomForRequest_23 : decode cX2_checkRoomForRequest 23 = .ok (.aload_n 0, 1) := by decide +kernel
theorem dX2_checkRoomForRequest_24 : decode cX2_checkRoomForRequest 24 = .ok (.getfield 22, 3) := by decide +kernel
theorem dX2_checkRoomForRequest_27 : decode cX2_checkRoomForRequest 27 = .ok (.getfield 289, 3) := by decide +kernel
theorem dX2_checkRoomForRequest_30 : decode cX2_checkRoomForRequest 30 = .ok (.sipush 300, 3) := by decide +kernel
theorem dX2_checkRoomForRequest_33 : decode cX2_checkRoomForRequest 33 = .ok (.if_icmp .lt 14, 3) := by decide +kernel
theorem dX2_checkRoomForRequest_36 : decode cX2_checkRoomForRequest 36 = .ok (.new 47, 3) := by decide +kernel
theorem dX2_checkRoomForRequest_39 : decode cX2_checkRoomForRequest 39 = .ok (.dup, 1) := by decide +kernel
theorem dX2_checkRoomForRequest_40 : decode cX2_checkRoomForRequest 40 = .ok (.ldc_w 299, 3) := by decide +kernel
theorem dX2_checkRoomForRequest_43 : decode cX2_checkRoomForRequest 43 = .ok (.invokespecial 51, 3) := by decide +kernel
theorem dX2_checkRoomForRequest_46 : decode cX2_checkRoomForRequest 46 = .ok (.athrow, 1) := by decide +kernel
theorem dX2_checkRoomForRequest_47 : decode cX2_checkRoomForRequest 47 = .ok (.return_, 1) := by decide +kernel
theorem dX2_checkLosses_0 : decode cX2_checkLosses 0 = .ok (.iload_n 0, 1) := by decide +kernel
theorem dX2_checkLosses_1 : decode cX2_checkLosses 1 = .ok (.ifCond .lt 8, 3) := by decide +kernel
theorem dX2_checkLosses_4 : decode cX2_checkLosses 4 = .ok (.iload_n 0, 1) := by decide +kernel
theorem dX2_checkLosses_5 : decode cX2_checkLosses 5 = .ok (.iconst 3, 1) := by decide +kernel
theorem dX2_checkLosses_6 : decode cX2_checkLosses 6 = .ok (.if_icmp .le 14, 3) := by decide +kernel
theorem dX2_checkLosses_9 : decode cX2_checkLosses 9 = .ok (.new 37, 3) := by decide +kernel
theorem dX2_checkLosses_12 : decode cX2_checkLosses 12 = .ok (.dup, 1) := by decide +kernel
theorem dX2_checkLosses_13 : decode cX2_checkLosses 13 = .ok (.ldc_w 301, 3) := by decide +kernel
theorem dX2_checkLosses_16 : decode cX2_checkLosses 16 = .ok (.invokespecial 41, 3) := by decide +kernel
theorem dX2_checkLosses_19 : decode cX2_checkLosses 19 = .ok (.athrow, 1) := by decide +kernel
theorem dX2_checkLosses_20 : decode cX2_checkLosses 20 = .ok (.return_, 1) := by decide +kernel
theorem dX2_blockId_0 : decode cX2_blockId 0 = .ok (.iload_n 0, 1) := by decide +kernel
theorem dX2_blockId_1 : decode cX2_blockId 1 = .ok (.bipush 100, 2) := by decide +kernel
theorem dX2_blockId_3 : decode cX2_blockId 3 = .ok (.imul, 1) := by decide +kernel
theorem dX2_blockId_4 : decode cX2_blockId 4 = .ok (.iload_n 1, 1) := by decide +kernel
theorem dX2_blockId_5 : decode cX2_blockId 5 = .ok (.iadd, 1) := by decide +kernel
theorem dX2_blockId_6 : decode cX2_blockId 6 = .ok (.ireturn, 1) := by decide +kernel
theorem dX2_appendCopy_0 : decode cX2_appendCopy 0 = .ok (.aload_n 0, 1) := by decide +kernel
theorem dX2_appendCopy_1 : decode cX2_appendCopy 1 = .ok (.getfield 29, 3) := by decide +kernel
theorem dX2_appendCopy_4 : decode cX2_appendCopy 4 = .ok (.bipush 32, 2) := by decide +kernel
theorem dX2_appendCopy_6 : decode cX2_appendCopy 6 = .ok (.invokevirtual 264, 3) := by decide +kernel
theorem dX2_appendCopy_9 : decode cX2_appendCopy 9 = .ok (.pop, 1) := by decide +kernel
theorem dX2_appendCopy_10 : decode cX2_appendCopy 10 = .ok (.aload_n 0, 1) := by decide +kernel
theorem dX2_appendCopy_11 : decode cX2_appendCopy 11 = .ok (.getfield 29, 3) := by decide +kernel
theorem dX2_appendCopy_14 : decode cX2_appendCopy 14 = .ok (.iload_n 1, 1) := by decide +kernel
theorem dX2_appendCopy_15 : decode cX2_appendCopy 15 = .ok (.bipush 100, 2) := by decide +kernel
theorem dX2_appendCopy_17 : decode cX2_appendCopy 17 = .ok (.idiv, 1) := by decide +kernel
theorem dX2_appendCopy_18 : decode cX2_appendCopy 18 = .ok (.invokevirtual 303, 3) := by decide +kernel
theorem dX2_appendCopy_21 : decode cX2_appendCopy 21 = .ok (.pop, 1) := by decide +kernel
theorem dX2_appendCopy_22 : decode cX2_appendCopy 22 = .ok (.aload_n 0, 1) := by decide +kernel
theorem dX2_appendCopy_23 : decode cX2_appendCopy 23 = .ok (.getfield 29, 3) := by decide +kernel
theorem dX2_appendCopy_26 : decode cX2_appendCopy 26 = .ok (.bipush 46, 2) := by decide +kernel
theorem dX2_appendCopy_28 : decode cX2_appendCopy 28 = .ok (.invokevirtual 264, 3) := by decide +kernel
theorem dX2_appendCopy_31 : decode cX2_appendCopy 31 = .ok (.pop, 1) := by decide +kernel
theorem dX2_appendCopy_32 : decode cX2_appendCopy 32 = .ok (.aload_n 0, 1) := by decide +kernel
theorem dX2_appendCopy_33 : decode cX2_appendCopy 33 = .ok (.getfield 29, 3) := by decide +kernel
theorem dX2_appendCopy_36 : decode cX2_appendCopy 36 = .ok (.iload_n 1, 1) := by decide +kernel
theorem dX2_appendCopy_37 : decode cX2_appendCopy 37 = .ok (.bipush 100, 2) := by decide +kernel
theorem dX2_appendCopy_39 : decode cX2_appendCopy 39 = .ok (.irem, 1) := by decide +kernel
theorem dX2_appendCopy_40 : decode cX2_appendCopy 40 = .ok (.invokevirtual 303, 3) := by decide +kernel
theorem dX2_appendCopy_43 : decode cX2_appendCopy 43 = .ok (.pop, 1) := by decide +kernel
theorem dX2_appendCopy_44 : decode cX2_appendCopy 44 = .ok (.iload_n 2, 1) := by decide +kernel
theorem dX2_appendCopy_45 : decode cX2_appendCopy 45 = .ok (.ifCond .eq 13, 3) := by decide +kernel
theorem dX2_appendCopy_48 : decode cX2_appendCopy 48 = .ok (.aload_n 0, 1) := by decide +kernel
theorem dX2_appendCopy_49 : decode cX2_appendCopy 49 = .ok (.getfield 29, 3) := by decide +kernel
theorem dX2_appendCopy_52 : decode cX2_appendCopy 52 = .ok (.bipush 33, 2) := by decide +kernel
theorem dX2_appendCopy_54 : decode cX2_appendCopy 54 = .ok (.invokevirtual 264, 3) := by decide +kernel
theorem dX2_appendCopy_57 : decode cX2_appendCopy 57 = .ok (.pop, 1) := by decide +kernel
theorem dX2_appendCopy_58 : decode cX2_appendCopy 58 = .ok (.return_, 1) := by decide +kernel
theorem dX2_serveRounds_0 : decode cX2_serveRounds 0 = .ok (.iload_n 1, 1) := by decide +kernel
theorem dX2_serveRounds_1 : decode cX2_serveRounds 1 = .ok (.istore_n 2, 1) := by decide +kernel
theorem dX2_serveRounds_2 : decode cX2_serveRounds 2 = .ok (.iconst 0, 1) := by decide +kernel
theorem dX2_serveRounds_3 : decode cX2_serveRounds 3 = .ok (.istore_n 3, 1) := by decide +kernel
theorem dX2_serveRounds_4 : decode cX2_serveRounds 4 = .ok (.iload_n 3, 1) := by decide +kernel
theorem dX2_serveRounds_5 : decode cX2_serveRounds 5 = .ok (.bipush 20, 2) := by decide +kernel
theorem dX2_serveRounds_7 : decode cX2_serveRounds 7 = .ok (.if_icmp .gt 50, 3) := by decide +kernel
theorem dX2_serveRounds_10 : decode cX2_serveRounds 10 = .ok (.iload_n 2, 1) := by decide +kernel
theorem dX2_serveRounds_11 : decode cX2_serveRounds 11 = .ok (.istore 4, 2) := by decide +kernel
theorem dX2_serveRounds_13 : decode cX2_serveRounds 13 = .ok (.iconst 0, 1) := by decide +kernel
theorem dX2_serveRounds_14 : decode cX2_serveRounds 14 = .ok (.istore 5, 2) := by decide +kernel
theorem dX2_serveRounds_16 : decode cX2_serveRounds 16 = .ok (.iload 5, 2) := by decide +kernel
theorem dX2_serveRounds_18 : decode cX2_serveRounds 18 = .ok (.aload_n 0, 1) := by decide +kernel
theorem dX2_serveRounds_19 : decode cX2_serveRounds 19 = .ok (.getfield 22, 3) := by decide +kernel
theorem dX2_serveRounds_22 : decode cX2_serveRounds 22 = .ok (.getfield 72, 3) := by decide +kernel
theorem dX2_serveRounds_25 : decode cX2_serveRounds 25 = .ok (.if_icmp .ge 19, 3) := by decide +kernel
theorem dX2_serveRounds_28 : decode cX2_serveRounds 28 = .ok (.iload_n 2, 1) := by decide +kernel
theorem dX2_serveRounds_29 : decode cX2_serveRounds 29 = .ok (.aload_n 0, 1) := by decide +kernel
theorem dX2_serveRounds_30 : decode cX2_serveRounds 30 = .ok (.iload 5, 2) := by decide +kernel
theorem dX2_serveRounds_32 : decode cX2_serveRounds 32 = .ok (.iload_n 2, 1) := by decide +kernel
theorem dX2_serveRounds_33 : decode cX2_serveRounds 33 = .ok (.invokevirtual 306, 3) := by decide +kernel
theorem dX2_serveRounds_36 : decode cX2_serveRounds 36 = .ok (.isub, 1) := by decide +kernel
theorem dX2_serveRounds_37 : decode cX2_serveRounds 37 = .ok (.istore_n 2, 1) := by decide +kernel
theorem dX2_serveRounds_38 : decode cX2_serveRounds 38 = .ok (.iinc 5 1, 3) := by decide +kernel
theorem dX2_serveRounds_41 : decode cX2_serveRounds 41 = .ok (.goto (-25), 3) := by decide +kernel
theorem dX2_serveRounds_44 : decode cX2_serveRounds 44 = .ok (.iload_n 2, 1) := by decide +kernel
theorem dX2_serveRounds_45 : decode cX2_serveRounds 45 = .ok (.iload 4, 2) := by decide +kernel
theorem dX2_serveRounds_47 : decode cX2_serveRounds 47 = .ok (.if_icmp .ne 4, 3) := by decide +kernel
theorem dX2_serveRounds_50 : decode cX2_serveRounds 50 = .ok (.return_, 1) := by decide +kernel
theorem dX2_serveRounds_51 : decode cX2_serveRounds 51 = .ok (.iinc 3 1, 3) := by decide +kernel
theorem dX2_serveRounds_54 : decode cX2_serveRounds 54 = .ok (.goto (-50), 3) := by decide +kernel
theorem dX2_serveRounds_57 : decode cX2_serveRounds 57 = .ok (.return_, 1) := by decide +kernel
theorem dX2_serveOldest_0 : decode cX2_serveOldest 0 = .ok (.aload_n 0, 1) := by decide +kernel
theorem dX2_serveOldest_1 : decode cX2_serveOldest 1 = .ok (.getfield 22, 3) := by decide +kernel
theorem dX2_serveOldest_4 : decode cX2_serveOldest 4 = .ok (.iload_n 1, 1) := by decide +kernel
theorem dX2_serveOldest_5 : decode cX2_serveOldest 5 = .ok (.invokevirtual 121, 3) := by decide +kernel
theorem dX2_serveOldest_8 : decode cX2_serveOldest 8 = .ok (.ifCond .ne 5, 3) := by decide +kernel
theorem dX2_serveOldest_11 : decode cX2_serveOldest 11 = .ok (.iconst 0, 1) := by decide +kernel
theorem dX2_serveOldest_12 : decode cX2_serveOldest 12 = .ok (.ireturn, 1) := by decide +kernel
theorem dX2_serveOldest_13 : decode cX2_serveOldest 13 = .ok (.aload_n 0, 1) := by decide +kernel
theorem dX2_serveOldest_14 : decode cX2_serveOldest 14 = .ok (.getfield 22, 3) := by decide +kernel
theorem dX2_serveOldest_17 : decode cX2_serveOldest 17 = .ok (.iload_n 1, 1) := by decide +kernel
theorem dX2_serveOldest_18 : decode cX2_serveOldest 18 = .ok (.invokevirtual 309, 3) := by decide +kernel
theorem dX2_serveOldest_21 : decode cX2_serveOldest 21 = .ok (.istore_n 3, 1) := by decide +kernel
theorem dX2_serveOldest_22 : decode cX2_serveOldest 22 = .ok (.aload_n 0, 1) := by decide +kernel
theorem dX2_serveOldest_23 : decode cX2_serveOldest 23 = .ok (.getfield 22, 3) := by decide +kernel
theorem dX2_serveOldest_26 : decode cX2_serveOldest 26 = .ok (.getfield 106, 3) := by decide +kernel
theorem dX2_serveOldest_29 : decode cX2_serveOldest 29 = .ok (.iload_n 3, 1) := by decide +kernel
theorem dX2_serveOldest_30 : decode cX2_serveOldest 30 = .ok (.baload, 1) := by decide +kernel
theorem dX2_serveOldest_31 : decode cX2_serveOldest 31 = .ok (.ifCond .eq 15, 3) := by decide +kernel
theorem dX2_serveOldest_34 : decode cX2_serveOldest 34 = .ok (.aload_n 0, 1) := by decide +kernel
theorem dX2_serveOldest_35 : decode cX2_serveOldest 35 = .ok (.getfield 12, 3) := by decide +kernel
theorem dX2_serveOldest_38 : decode cX2_serveOldest 38 = .ok (.getfield 80, 3) := by decide +kernel
theorem dX2_serveOldest_41 : decode cX2_serveOldest 41 = .ok (.iload_n 1, 1) := by decide +kernel
theorem dX2_serveOldest_42 : decode cX2_serveOldest 42 = .ok (.iaload, 1) := by decide +kernel
theorem dX2_serveOldest_43 : decode cX2_serveOldest 43 = .ok (.goto 4, 3) := by decide +kernel
theorem dX2_serveOldest_46 : decode cX2_serveOldest 46 = .ok (.iconst 1, 1) := by decide +kernel
theorem dX2_serveOldest_47 : decode cX2_serveOldest 47 = .ok (.istore 4, 2) := by decide +kernel
theorem dX2_serveOldest_49 : decode cX2_serveOldest 49 = .ok (.iload 4, 2) := by decide +kernel
theorem dX2_serveOldest_51 : decode cX2_serveOldest 51 = .ok (.iload_n 2, 1) := by decide +kernel
theorem dX2_serveOldest_52 : decode cX2_serveOldest 52 = .ok (.if_icmp .le 5, 3) := by decide +kernel
theorem dX2_serveOldest_55 : decode cX2_serveOldest 55 = .ok (.iconst 0, 1) := by decide +kernel
theorem dX2_serveOldest_56 : decode cX2_serveOldest 56 = .ok (.ireturn, 1) := by decide +kernel
theorem dX2_serveOldest_57 : decode cX2_serveOldest 57 = .ok (.aload_n 0, 1) := by decide +kernel
theorem dX2_serveOldest_58 : decode cX2_serveOldest 58 = .ok (.getfield 22, 3) := by decide +kernel
theorem dX2_serveOldest_61 : decode cX2_serveOldest 61 = .ok (.getfield 106, 3) := by decide +kernel
theorem dX2_serveOldest_64 : decode cX2_serveOldest 64 = .ok (.iload_n 3, 1) := by decide +kernel
theorem dX2_serveOldest_65 : decode cX2_serveOldest 65 = .ok (.baload, 1) := by decide +kernel
theorem dX2_serveOldest_66 : decode cX2_serveOldest 66 = .ok (.ifCond .eq 31, 3) := by decide +kernel
theorem dX2_serveOldest_69 : decode cX2_serveOldest 69 = .ok (.aload_n 0, 1) := by decide +kernel
theorem dX2_serveOldest_70 : decode cX2_serveOldest 70 = .ok (.getfield 12, 3) := by decide +kernel
theorem dX2_serveOldest_73 : decode cX2_serveOldest 73 = .ok (.aload_n 0, 1) := by decide +kernel
theorem dX2_serveOldest_74 : decode cX2_serveOldest 74 = .ok (.getfield 22, 3) := by decide +kernel
theorem dX2_serveOldest_77 : decode cX2_serveOldest 77 = .ok (.getfield 312, 3) := by decide +kernel
theorem dX2_serveOldest_80 : decode cX2_serveOldest 80 = .ok (.iload_n 3, 1) := by decide +kernel
theorem dX2_serveOldest_81 : decode cX2_serveOldest 81 = .ok (.iaload, 1) := by decide +kernel
theorem dX2_serveOldest_82 : decode cX2_serveOldest 82 = .ok (.aload_n 0, 1) := by decide +kernel
theorem dX2_serveOldest_83 : decode cX2_serveOldest 83 = .ok (.getfield 22, 3) := by decide +kernel
theorem dX2_serveOldest_86 : decode cX2_serveOldest 86 = .ok (.getfield 115, 3) := by decide +kernel
theorem dX2_serveOldest_89 : decode cX2_serveOldest 89 = .ok (.iload_n 3, 1) := by decide +kernel
theorem dX2_serveOldest_90 : decode cX2_serveOldest 90 = .ok (.iaload, 1) := by decide +kernel
theorem dX2_serveOldest_91 : decode cX2_serveOldest 91 = .ok (.invokevirtual 315, 3) := by decide +kernel
theorem dX2_serveOldest_94 : decode cX2_serveOldest 94 = .ok (.goto 8, 3) := by decide +kernel
theorem dX2_serveOldest_97 : decode cX2_serveOldest 97 = .ok (.aload_n 0, 1) := by decide +kernel
theorem dX2_serveOldest_98 : decode cX2_serveOldest 98 = .ok (.iload_n 3, 1) := by decide +kernel
theorem dX2_serveOldest_99 : decode cX2_serveOldest 99 = .ok (.invokevirtual 319, 3) := by decide +kernel
theorem dX2_serveOldest_102 : decode cX2_serveOldest 102 = .ok (.istore 5, 2) := by decide +kernel
theorem dX2_serveOldest_104 : decode cX2_serveOldest 104 = .ok (.aload_n 0, 1) := by decide +kernel
theorem dX2_serveOldest_105 : decode cX2_serveOldest 105 = .ok (.getfield 22, 3) := by decide +kernel
theorem dX2_serveOldest_108 : decode cX2_serveOldest 108 = .ok (.iload_n 1, 1) := by decide +kernel
theorem dX2_serveOldest_109 : decode cX2_serveOldest 109 = .ok (.iload_n 3, 1) := by decide +kernel
theorem dX2_serveOldest_110 : decode cX2_serveOldest 110 = .ok (.iload 5, 2) := by decide +kernel
theorem dX2_serveOldest_112 : decode cX2_serveOldest 112 = .ok (.invokevirtual 322, 3) := by decide +kernel
theorem dX2_serveOldest_115 : decode cX2_serveOldest 115 = .ok (.iload 4, 2) := by decide +kernel
theorem dX2_serveOldest_117 : decode cX2_serveOldest 117 = .ok (.ireturn, 1) := by decide +kernel
theorem dX2_serveRead_0 : decode cX2_serveRead 0 = .ok (.aload_n 0, 1) := by decide +kernel
theorem dX2_serveRead_1 : decode cX2_serveRead 1 = .ok (.getfield 22, 3) := by decide +kernel
theorem dX2_serveRead_4 : decode cX2_serveRead 4 = .ok (.getfield 312, 3) := by decide +kernel
theorem dX2_serveRead_7 : decode cX2_serveRead 7 = .ok (.iload_n 1, 1) := by decide +kernel
theorem dX2_serveRead_8 : decode cX2_serveRead 8 = .ok (.iaload, 1) := by decide +kernel
theorem dX2_serveRead_9 : decode cX2_serveRead 9 = .ok (.istore_n 2, 1) := by decide +kernel
theorem dX2_serveRead_10 : decode cX2_serveRead 10 = .ok (.aload_n 0, 1) := by decide +kernel
theorem dX2_serveRead_11 : decode cX2_serveRead 11 = .ok (.getfield 12, 3) := by decide +kernel
theorem dX2_serveRead_14 : decode cX2_serveRead 14 = .ok (.iload_n 2, 1) := by decide +kernel
theorem dX2_serveRead_15 : decode cX2_serveRead 15 = .ok (.invokevirtual 169, 3) := by decide +kernel
theorem dX2_serveRead_18 : decode cX2_serveRead 18 = .ok (.ifCond .ne 5, 3) := by decide +kernel
theorem dX2_serveRead_21 : decode cX2_serveRead 21 = .ok (.iconst 0, 1) := by decide +kernel
theorem dX2_serveRead_22 : decode cX2_serveRead 22 = .ok (.ireturn, 1) := by decide +kernel
theorem dX2_serveRead_23 : decode cX2_serveRead 23 = .ok (.aload_n 0, 1) := by decide +kernel
theorem dX2_serveRead_24 : decode cX2_serveRead 24 = .ok (.getfield 22, 3) := by decide +kernel
theorem dX2_serveRead_27 : decode cX2_serveRead 27 = .ok (.getfield 115, 3) := by decide +kernel
theorem dX2_serveRead_30 : decode cX2_serveRead 30 = .ok (.iload_n 1, 1) := by decide +kernel
theorem dX2_serveRead_31 : decode cX2_serveRead 31 = .ok (.aload_n 0, 1) := by decide +kernel
theorem dX2_serveRead_32 : decode cX2_serveRead 32 = .ok (.getfield 12, 3) := by decide +kernel
theorem dX2_serveRead_35 : decode cX2_serveRead 35 = .ok (.getfield 174, 3) := by decide +kernel
theorem dX2_serveRead_38 : decode cX2_serveRead 38 = .ok (.iload_n 2, 1) := by decide +kernel
theorem dX2_serveRead_39 : decode cX2_serveRead 39 = .ok (.iaload, 1) := by decide +kernel
theorem dX2_serveRead_40 : decode cX2_serveRead 40 = .ok (.iastore, 1) := by decide +kernel
theorem dX2_serveRead_41 : decode cX2_serveRead 41 = .ok (.iconst 1, 1) := by decide +kernel
theorem dX2_serveRead_42 : decode cX2_serveRead 42 = .ok (.ireturn, 1) := by decide +kernel
end
section
theorem dX3_init_0 : decode cX3_init 0 = .ok (.aload_n 0, 1) := by decide +kernel
theorem dX3_init_1 : decode cX3_init 1 = .ok (.invokespecial 1, 3) := by decide +kernel
theorem dX3_init_4 : decode cX3_init 4 = .ok (.aload_n 0, 1) := by decide +kernel
theorem dX3_init_5 : decode cX3_init 5 = .ok (.bipush 8, 2) := by decide +kernel
theorem dX3_init_7 : decode cX3_init 7 = .ok (.newarray .int, 2) := by decide +kernel
theorem dX3_init_9 : decode cX3_init 9 = .ok (.putfield 9, 3) := by decide +kernel
theorem dX3_init_12 : decode cX3_init 12 = .ok (.aload_n 0, 1) := by decide +kernel
theorem dX3_init_13 : decode cX3_init 13 = .ok (.bipush 8, 2) := by decide +kernel
theorem dX3_init_15 : decode cX3_init 15 = .ok (.newarray .char, 2) := by decide +kernel
theorem dX3_init_17 : decode cX3_init 17 = .ok (.putfield 13, 3) := by decide +kernel
theorem dX3_init_20 : decode cX3_init 20 = .ok (.aload_n 0, 1) := by decide +kernel
theorem dX3_init_21 : decode cX3_init 21 = .ok (.sipush 256, 3) := by decide +kernel
theorem dX3_init_24 : decode cX3_init 24 = .ok (.newarray .int, 2) := by decide +kernel
theorem dX3_init_26 : decode cX3_init 26 = .ok (.putfield 17, 3) := by decide +kernel
theorem dX3_init_29 : decode cX3_init 29 = .ok (.aload_n 0, 1) := by decide +kernel
theorem dX3_init_30 : decode cX3_init 30 = .ok (.sipush 256, 3) := by decide +kernel
theorem dX3_init_33 : decode cX3_init 33 = .ok (.newarray .int, 2) := by decide +kernel
theorem dX3_init_35 : decode cX3_init 35 = .ok (.putfield 20, 3) := by decide +kernel
theorem dX3_init_38 : decode cX3_init 38 = .ok (.aload_n 0, 1) := by decide +kernel
theorem dX3_init_39 : decode cX3_init 39 = .ok (.sipush 256, 3) := by decide +kernel
theorem dX3_init_42 : decode cX3_init 42 = .ok (.newarray .boolean, 2) := by decide +kernel
theorem dX3_init_44 : decode cX3_init 44 = .ok (.putfield 23, 3) := by decide +kernel
theorem dX3_init_47 : decode cX3_init 47 = .ok (.aload_n 0, 1) := by decide +kernel
theorem dX3_init_48 : decode cX3_init 48 = .ok (.sipush 256, 3) := by decide +kernel
theorem dX3_init_51 : decode cX3_init 51 = .ok (.newarray .boolean, 2) := by decide +kernel
theorem dX3_init_53 : decode cX3_init 53 = .ok (.putfield 27, 3) := by decide +kernel
theorem dX3_init_56 : decode cX3_init 56 = .ok (.aload_n 0, 1) := by decide +kernel
theorem dX3_init_57 : decode cX3_init 57 = .ok (.sipush 400, 3) := by decide +kernel
theorem dX3_init_60 : decode cX3_init 60 = .ok (.iconst 3, 1) := by decide +kernel
theorem dX3_init_61 : decode cX3_init 61 = .ok (.multianewarray 30 2, 4) := by decide +kernel
theorem dX3_init_65 : decode cX3_init 65 = .ok (.putfield 32, 3) := by decide +kernel
theorem dX3_init_68 : decode cX3_init 68 = .ok (.aload_n 0, 1) := by decide +kernel
theorem dX3_init_69 : decode cX3_init 69 = .ok (.sipush 400, 3) := by decide +kernel
theorem dX3_init_72 : decode cX3_init 72 = .ok (.iconst 3, 1) := by decide +kernel
theorem dX3_init_73 : decode cX3_init 73 = .ok (.multianewarray 30 2, 4) := by decide +kernel
theorem dX3_init_77 : decode cX3_init 77 = .ok (.putfield 35, 3) := by decide +kernel
theorem dX3_init_80 : decode cX3_init 80 = .ok (.aload_n 0, 1) := by decide +kernel
theorem dX3_init_81 : decode cX3_init 81 = .ok (.sipush 400, 3) := by decide +kernel
theorem dX3_init_84 : decode cX3_init 84 = .ok (.newarray .int, 2) := by decide +kernel
theorem dX3_init_86 : decode cX3_init 86 = .ok (.putfield 38, 3) := by decide +kernel
theorem dX3_init_89 : decode cX3_init 89 = .ok (.aload_n 0, 1) := by decide +kernel
theorem dX3_init_90 : decode cX3_init 90 = .ok (.sipush 400, 3) := by decide +kernel
theorem dX3_init_93 : decode cX3_init 93 = .ok (.newarray .int, 2) := by decide +kernel
theorem dX3_init_95 : decode cX3_init 95 = .ok (.putfield 41, 3) := by decide +kernel
theorem dX3_init_98 : decode cX3_init 98 = .ok (.aload_n 0, 1) := by decide +kernel
theorem dX3_init_99 : decode cX3_init 99 = .ok (.sipush 400, 3) := by decide +kernel
theorem dX3_init_102 : decode cX3_init 102 = .ok (.newarray .int, 2) := by decide +kernel
theorem dX3_init_104 : decode cX3_init 104 = .ok (.putfield 44, 3) := by decide +kernel
theorem dX3_init_107 : decode cX3_init 107 = .ok (.aload_n 0, 1) := by decide +kernel
theorem dX3_init_108 : decode cX3_init 108 = .ok (.sipush 400, 3) := by decide +kernel
theorem dX3_init_111 : decode cX3_init 111 = .ok (.newarray .int, 2) := by decide +kernel
theorem dX3_init_113 : decode cX3_init 113 = .ok (.putfield 47, 3) := by decide +kernel
theorem dX3_init_116 : decode cX3_init 116 = .ok (.aload_n 0, 1) := by decide +kernel
theorem dX3_init_117 : decode cX3_init 117 = .ok (.sipush 400, 3) := by decide +kernel
theorem dX3_init_120 : decode cX3_init 120 = .ok (.newarray .boolean, 2) := by decide +kernel
theorem dX3_init_122 : decode cX3_init 122 = .ok (.putfield 50, 3) := by decide +kernel
theorem dX3_init_125 : decode cX3_init 125 = .ok (.aload_n 0, 1) := by decide +kernel
theorem dX3_init_126 : decode cX3_init 126 = .ok (.iconst 4, 1) := by decide +kernel
theorem dX3_init_127 : decode cX3_init 127 = .ok (.newarray .int, 2) := by decide +kernel
theorem dX3_init_129 : decode cX3_init 129 = .ok (.putfield 53, 3) := by decide +kernel
theorem dX3_init_132 : decode cX3_init 132 = .ok (.aload_n 0, 1) := by decide +kernel
theorem dX3_init_133 : decode cX3_init 133 = .ok (.iconst 4, 1) := by decide +kernel
theorem dX3_init_134 : decode cX3_init 134 = .ok (.newarray .int, 2) := by decide +kernel
theorem dX3_init_136 : decode cX3_init 136 = .ok (.putfield 56, 3) := by decide +kernel
theorem dX3_init_139 : decode cX3_init 139 = .ok (.aload_n 0, 1) := by decide +kernel
theorem dX3_init_140 : decode cX3_init 140 = .ok (.iconst 4, 1) := by decide +kernel
theorem dX3_init_141 : decode cX3_init 141 = .ok (.newarray .int, 2) := by decide +kernel
theorem dX3_init_143 : decode cX3_init 143 = .ok (.putfield 59, 3) := by decide +kernel
theorem dX3_init_146 : decode cX3_init 146 = .ok (.aload_n 0, 1) := by decide +kernel
theorem dX3_init_147 : decode cX3_init 147 = .ok (.iconst 4, 1) := by decide +kernel
theorem dX3_init_148 : decode cX3_init 148 = .ok (.newarray .int, 2) := by decide +kernel
theorem dX3_init_150 : decode cX3_init 150 = .ok (.putfield 62, 3) := by decide +kernel
theorem dX3_init_153 : decode cX3_init 153 = .ok (.aload_n 0, 1) := by decide +kernel
theorem dX3_init_154 : decode cX3_init 154 = .ok (.iconst 4, 1) := by decide +kernel
theorem dX3_init_155 : decode cX3_init 155 = .ok (.newarray .int, 2) := by decide +kernel
theorem dX3_init_157 : decode cX3_init 157 = .ok (.putfield 65, 3) := by decide +kernel
theorem dX3_init_160 : decode cX3_init 160 = .ok (.aload_n 0, 1) := by decide +kernel
theorem dX3_init_161 : decode cX3_init 161 = .ok (.iconst 4, 1) := by decide +kernel
theorem dX3_init_162 : decode cX3_init 162 = .ok (.newarray .int, 2) := by decide +kernel
theorem dX3_init_164 : decode cX3_init 164 = .ok (.putfield 68, 3) := by decide +kernel
theorem dX3_init_167 : decode cX3_init 167 = .ok (.aload_n 0, 1) := by decide +kernel
theorem dX3_init_168 : decode cX3_init 168 = .ok (.iconst 4, 1) := by decide +kernel
theorem dX3_init_169 : decode cX3_init 169 = .ok (.newarray .int, 2) := by decide +kernel
theorem dX3_init_171 : decode cX3_init 171 = .ok (.putfield 71, 3) := by decide +kernel
theorem dX3_init_174 : decode cX3_init 174 = .ok (.aload_n 0, 1) := by decide +kernel
theorem dX3_init_175 : decode cX3_init 175 = .ok (.sipush 300, 3) := by decide +kernel
theorem dX3_init_178 : decode cX3_init 178 = .ok (.newarray .int, 2) := by decide +kernel
theorem dX3_init_180 : decode cX3_init 180 = .ok (.putfield 74, 3) := by decide +kernel
theorem dX3_init_183 : decode cX3_init 183 = .ok (.aload_n 0, 1) := by decide +kernel
theorem dX3_init_184 : decode cX3_init 184 = .ok (.sipush 300, 3) := by decide +kernel
theorem dX3_init_187 : decode cX3_init 187 = .ok (.newarray .int, 2) := by decide +kernel
theorem dX3_init_189 : decode cX3_init 189 = .ok (.putfield 77, 3) := by decide +kernel
theorem dX3_init_192 : decode cX3_init 192 = .ok (.aload_n 0, 1) := by decide +kernel
theorem dX3_init_193 : decode cX3_init 193 = .ok (.sipush 300, 3) := by decide +kernel
theorem dX3_init_196 : decode cX3_init 196 = .ok (.newarray .int, 2) := by decide +kernel
theorem dX3_init_198 : decode cX3_init 198 = .ok (.putfield 80, 3) := by decide +kernel
theorem dX3_init_201 : decode cX3_init 201 = .ok (.aload_n 0, 1) := by decide +kernel
theorem dX3_init_202 : decode cX3_init 202 = .ok (.sipush 300, 3) := by decide +kernel
theorem dX3_init_205 : decode cX3_init 205 = .ok (.newarray .char, 2) := by decide +kernel
theorem dX3_init_207 : decode cX3_init 207 = .ok (.putfield 83, 3) := by decide +kernel
theorem dX3_init_210 : decode cX3_init 210 = .ok (.aload_n 0, 1) := by decide +kernel
theorem dX3_init_211 : decode cX3_init 211 = .ok (.bipush 10, 2) := by decide +kernel
theorem dX3_init_213 : decode cX3_init 213 = .ok (.putfield 86, 3) := by decide +kernel
theorem dX3_init_216 : decode cX3_init 216 = .ok (.aload_n 0, 1) := by decide +kernel
theorem dX3_init_217 : decode cX3_init 217 = .ok (.ldc 90, 2) := by decide +kernel
theorem dX3_init_219 : decode cX3_init 219 = .ok (.putfield 92, 3) := by decide +kernel
theorem dX3_init_222 : decode cX3_init 222 = .ok (.return_, 1) := by decide +kernel
theorem dX3_thrown_0 : decode cX3_thrown 0 = .ok (.aload_n 0, 1) := by decide +kernel
theorem dX3_thrown_1 : decode cX3_thrown 1 = .ok (.getfield 96, 3) := by decide +kernel
theorem dX3_thrown_4 : decode cX3_thrown 4 = .ok (.ireturn, 1) := by decide +kernel
theorem dX3_fails_0 : decode cX3_fails 0 = .ok (.aload_n 0, 1) := by decide +kernel
theorem dX3_fails_1 : decode cX3_fails 1 = .ok (.iload_n 1, 1) := by decide +kernel
theorem dX3_fails_2 : decode cX3_fails 2 = .ok (.putfield 96, 3) := by decide +kernel
theorem dX3_fails_5 : decode cX3_fails 5 = .ok (.iconst 0, 1) := by decide +kernel
theorem dX3_fails_6 : decode cX3_fails 6 = .ok (.ireturn, 1) := by decide +kernel
theorem dX3_isBetween_0 : decode cX3_isBetween 0 = .ok (.iload_n 1, 1) := by decide +kernel
theorem dX3_isBetween_1 : decode cX3_isBetween 1 = .ok (.iload_n 0, 1) := by decide +kernel
theorem dX3_isBetween_2 : decode cX3_isBetween 2 = .ok (.if_icmp .gt 12, 3) := by decide +kernel
theorem dX3_isBetween_5 : decode cX3_isBetween 5 = .ok (.iload_n 0, 1) := by decide +kernel
theorem dX3_isBetween_6 : decode cX3_isBetween 6 = .ok (.iload_n 2, 1) := by decide +kernel
theorem dX3_isBetween_7 : decode cX3_isBetween 7 = .ok (.if_icmp .gt 7, 3) := by decide +kernel
theorem dX3_isBetween_10 : decode cX3_isBetween 10 = .ok (.iconst 1, 1) := by decide +kernel
theorem dX3_isBetween_11 : decode cX3_isBetween 11 = .ok (.goto 4, 3) := by decide +kernel
theorem dX3_isBetween_14 : decode cX3_isBetween 14 = .ok (.iconst 0, 1) := by decide +kernel
theorem dX3_isBetween_15 : decode cX3_isBetween 15 = .ok (.ireturn, 1) := by decide +kernel
theorem dX3_isDisk_0 : decode cX3_isDisk 0 = .ok (.iload_n 1, 1) := by decide +kernel
theorem dX3_isDisk_1 : decode cX3_isDisk 1 = .ok (.iconst 0, 1) := by decide +kernel
theorem dX3_isDisk_2 : decode cX3_isDisk 2 = .ok (.aload_n 0, 1) := by decide +kernel
theorem dX3_isDisk_3 : decode cX3_isDisk 3 = .ok (.getfield 99, 3) := by decide +kernel
theorem dX3_isDisk_6 : decode cX3_isDisk 6 = .ok (.iconst 1, 1) := by decide +kernel
theorem dX3_isDisk_7 : decode cX3_isDisk 7 = .ok (.isub, 1) := by decide +kernel
theorem dX3_isDisk_8 : decode cX3_isDisk 8 = .ok (.invokestatic 102, 3) := by decide +kernel
theorem dX3_isDisk_11 : decode cX3_isDisk 11 = .ok (.ireturn, 1) := by decide +kernel
theorem dX3_isTenant_0 : decode cX3_isTenant 0 = .ok (.iload_n 1, 1) := by decide +kernel
theorem dX3_isTenant_1 : decode cX3_isTenant 1 = .ok (.iconst 0, 1) := by decide +kernel
theorem dX3_isTenant_2 : decode cX3_isTenant 2 = .ok (.aload_n 0, 1) := by decide +kernel
theorem dX3_isTenant_3 : decode cX3_isTenant 3 = .ok (.getfield 106, 3) := by decide +kernel
theorem dX3_isTenant_6 : decode cX3_isTenant 6 = .ok (.iconst 1, 1) := by decide +kernel
theorem dX3_isTenant_7 : decode cX3_isTenant 7 = .ok (.isub, 1) := by decide +kernel
theorem dX3_isTenant_8 : decode cX3_isTenant 8 = .ok (.invokestatic 102, 3) := by decide +kernel
theorem dX3_isTenant_11 : decode cX3_isTenant 11 = .ok (.ireturn, 1) := by decide +kernel
theorem dX3_isRequest_0 : decode cX3_isRequest 0 = .ok (.iload_n 1, 1) := by decide +kernel
theorem dX3_isRequest_1 : decode cX3_isRequest 1 = .ok (.iconst 0, 1) := by decide +kernel
theorem dX3_isRequest_2 : decode cX3_isRequest 2 = .ok (.aload_n 0, 1) := by decide +kernel
theorem dX3_isRequest_3 : decode cX3_isRequest 3 = .ok (.getfield 109, 3) := by decide +kernel
theorem dX3_isRequest_6 : decode cX3_isRequest 6 = .ok (.iconst 1, 1) := by decide +kernel
theorem dX3_isRequest_7 : decode cX3_isRequest 7 = .ok (.isub, 1) := by decide +kernel
theorem dX3_isRequest_8 : decode cX3_isRequest 8 = .ok (.invokestatic 102, 3) := by decide +kernel
theorem dX3_isRequest_11 : decode cX3_isRequest 11 = .ok (.ireturn, 1) := by decide +kernel
theorem dX3_usedOf_0 : decode cX3_usedOf 0 = .ok (.iconst 0, 1) := by decide +kernel
theorem dX3_usedOf_1 : decode cX3_usedOf 1 = .ok (.istore_n 2, 1) := by decide +kernel
theorem dX3_usedOf_2 : decode cX3_usedOf 2 = .ok (.iconst 0, 1) := by decide +kernel
theorem dX3_usedOf_3 : decode cX3_usedOf 3 = .ok (.istore_n 3, 1) := by decide +kernel
theorem dX3_usedOf_4 : decode cX3_usedOf 4 = .ok (.iload_n 3, 1) := by decide +kernel
theorem dX3_usedOf_5 : decode cX3_usedOf 5 = .ok (.aload_n 0, 1) := by decide +kernel
theorem dX3_usedOf_6 : decode cX3_usedOf 6 = .ok (.getfield 9, 3) := by decide +kernel
theorem dX3_usedOf_9 : decode cX3_usedOf 9 = .ok (.iload_n 1, 1) := by decide +kernel
theorem dX3_usedOf_10 : decode cX3_usedOf 10 = .ok (.iaload, 1) := by decide +kernel
theorem dX3_usedOf_11 : decode cX3_usedOf 11 = .ok (.if_icmp .ge 31, 3) := by decide +kernel
theorem dX3_usedOf_14 : decode cX3_usedOf 14 = .ok (.iload_n 2, 1) := by decide +kernel
theorem dX3_usedOf_15 : decode cX3_usedOf 15 = .ok (.aload_n 0, 1) := by decide +kernel
theorem dX3_usedOf_16 : decode cX3_usedOf 16 = .ok (.getfield 17, 3) := by decide +kernel
theorem dX3_usedOf_19 : decode cX3_usedOf 19 = .ok (.bipush 32, 2) := by decide +kernel
theorem dX3_usedOf_21 : decode cX3_usedOf 21 = .ok (.iload_n 1, 1) := by decide +kernel
theorem dX3_usedOf_22 : decode cX3_usedOf 22 = .ok (.imul, 1) := by decide +kernel
theorem dX3_usedOf_23 : decode cX3_usedOf 23 = .ok (.iload_n 3, 1) := by decide +kernel
theorem dX3_usedOf_24 : decode cX3_usedOf 24 = .ok (.iadd, 1) := by decide +kernel
theorem dX3_usedOf_25 : decode cX3_usedOf 25 = .ok (.iaload, 1) := by decide +kernel
theorem dX3_usedOf_26 : decode cX3_usedOf 26 = .ok (.ifCond .ge 7, 3) := by decide +kernel
theorem dX3_usedOf_29 : decode cX3_usedOf 29 = .ok (.iconst 0, 1) := by decide +kernel
theorem dX3_usedOf_30 : decode cX3_usedOf 30 = .ok (.goto 4, 3) := by decide +kernel
theorem dX3_usedOf_33 : decode cX3_usedOf 33 = .ok (.iconst 1, 1) := by decide +kernel
theorem dX3_usedOf_34 : decode cX3_usedOf 34 = .ok (.iadd, 1) := by decide +kernel
theorem dX3_usedOf_35 : decode cX3_usedOf 35 = .ok (.istore_n 2, 1) := by decide +kernel
theorem dX3_usedOf_36 : decode cX3_usedOf 36 = .ok (.iinc 3 1, 3) := by decide +kernel
theorem dX3_usedOf_39 : decode cX3_usedOf 39 = .ok (.goto (-35), 3) := by decide +kernel
theorem dX3_usedOf_42 : decode cX3_usedOf 42 = .ok (.iload_n 2, 1) := by decide +kernel
theorem dX3_usedOf_43 : decode cX3_usedOf 43 = .ok (.ireturn, 1) := by decide +kernel
theorem dX3_has_0 : decode cX3_has 0 = .ok (.iconst 0, 1) := by decide +kernel
theorem dX3_has_1 : decode cX3_has 1 = .ok (.istore_n 3, 1) := by decide +kernel
theorem dX3_has_2 : decode cX3_has 2 = .ok (.iload_n 3, 1) := by decide +kernel
theorem dX3_has_3 : decode cX3_has 3 = .ok (.aload_n 0, 1) := by decide +kernel
theorem dX3_has_4 : decode cX3_has 4 = .ok (.getfield 38, 3) := by decide +kernel
theorem dX3_has_7 : decode cX3_has 7 = .ok (.iload_n 2, 1) := by decide +kernel
theorem dX3_has_8 : decode cX3_has 8 = .ok (.iaload, 1) := by decide +kernel
theorem dX3_has_9 : decode cX3_has 9 = .ok (.if_icmp .ge 26, 3) := by decide +kernel
theorem dX3_has_12 : decode cX3_has 12 = .ok (.aload_n 0, 1) := by decide +kernel
theorem dX3_has_13 : decode cX3_has 13 = .ok (.getfield 32, 3) := by decide +kernel
theorem dX3_has_16 : decode cX3_has 16 = .ok (.iload_n 2, 1) := by decide +kernel
theorem dX3_has_17 : decode cX3_has 17 = .ok (.aaload, 1) := by decide +kernel
theorem dX3_has_18 : decode cX3_has 18 = .ok (.iload_n 3, 1) := by decide +kernel
theorem dX3_has_19 : decode cX3_has 19 = .ok (.iaload, 1) := by decide +kernel
theorem dX3_has_20 : decode cX3_has 20 = .ok (.bipush 32, 2) := by decide +kernel
theorem dX3_has_22 : decode cX3_has 22 = .ok (.idiv, 1) := by decide +kernel
theorem dX3_has_23 : decode cX3_has 23 = .ok (.iload_n 1, 1) := by decide +kernel
theorem dX3_has_24 : decode cX3_has 24 = .ok (.if_icmp .ne 5, 3) := by decide +kernel
theorem dX3_has_27 : decode cX3_has 27 = .ok (.iconst 1, 1) := by decide +kernel
theorem dX3_has_28 : decode cX3_has 28 = .ok (.ireturn, 1) := by decide +kernel
theorem dX3_has_29 : decode cX3_has 29 = .ok (.iinc 3 1, 3) := by decide +kernel
theorem dX3_has_32 : decode cX3_has 32 = .ok (.goto (-30), 3) := by decide +kernel
theorem dX3_has_35 : decode cX3_has 35 = .ok (.iconst 0, 1) := by decide +kernel
theorem dX3_has_36 : decode cX3_has 36 = .ok (.ireturn, 1) := by decide +kernel
theorem dX3_place_0 : decode cX3_place 0 = .ok (.iconst (-1), 1) := by decide +kernel
theorem dX3_place_1 : decode cX3_place 1 = .ok (.istore_n 2, 1) := by decide +kernel
theorem dX3_place_2 : decode cX3_place 2 = .ok (.iconst 0, 1) := by decide +kernel
theorem dX3_place_3 : decode cX3_place 3 = .ok (.istore_n 3, 1) := by decide +kernel
theorem dX3_place_4 : decode cX3_place 4 = .ok (.iload_n 3, 1) := by decide +kernel
theorem dX3_place_5 : decode cX3_place 5 = .ok (.aload_n 0, 1) := by decide +kernel
theorem dX3_place_6 : decode cX3_place 6 = .ok (.getfield 99, 3) := by decide +kernel
theorem dX3_place_9 : decode cX3_place 9 = .ok (.if_icmp .ge 79, 3) := by decide +kernel
theorem dX3_place_12 : decode cX3_place 12 = .ok (.aload_n 0, 1) := by decide +kernel
theorem dX3_place_13 : decode cX3_place 13 = .ok (.getfield 13, 3) := by decide +kernel
theorem dX3_place_16 : decode cX3_place 16 = .ok (.iload_n 3, 1) := by decide +kernel
theorem dX3_place_17 : decode cX3_place 17 = .ok (.caload, 1) := by decide +kernel
theorem dX3_place_18 : decode cX3_place 18 = .ok (.bipush 115, 2) := by decide +kernel
theorem dX3_place_20 : decode cX3_place 20 = .ok (.if_icmp .ne 62, 3) := by decide +kernel
theorem dX3_place_23 : decode cX3_place 23 = .ok (.aload_n 0, 1) := by decide +kernel
theorem dX3_place_24 : decode cX3_place 24 = .ok (.iload_n 3, 1) := by decide +kernel
theorem dX3_place_25 : decode cX3_place 25 = .ok (.invokevirtual 112, 3) := by decide +kernel
theorem dX3_place_28 : decode cX3_place 28 = .ok (.aload_n 0, 1) := by decide +kernel
theorem dX3_place_29 : decode cX3_place 29 = .ok (.getfield 9, 3) := by decide +kernel
theorem dX3_place_32 : decode cX3_place 32 = .ok (.iload_n 3, 1) := by decide +kernel
theorem dX3_place_33 : decode cX3_place 33 = .ok (.iaload, 1) := by decide +kernel
theorem dX3_place_34 : decode cX3_place 34 = .ok (.if_icmp .eq 48, 3) := by decide +kernel
theorem dX3_place_37 : decode cX3_place 37 = .ok (.aload_n 0, 1) := by decide +kernel
theorem dX3_place_38 : decode cX3_place 38 = .ok (.iload_n 3, 1) := by decide +kernel
theorem dX3_place_39 : decode cX3_place 39 = .ok (.iload_n 1, 1) := by decide +kernel
theorem dX3_place_40 : decode cX3_place 40 = .ok (.invokevirtual 116, 3) := by decide +kernel
theorem dX3_place_43 : decode cX3_place 43 = .ok (.ifCond .eq 6, 3) := by decide +kernel
theorem dX3_place_46 : decode cX3_place 46 = .ok (.goto 36, 3) := by decide +kernel
theorem dX3_place_49 : decode cX3_place 49 = .ok (.iload_n 2, 1) := by decide +kernel
theorem dX3_place_50 : decode cX3_place 50 = .ok (.ifCond .lt 30, 3) := by decide +kernel
theorem dX3_place_53 : decode cX3_place 53 = .ok (.aload_n 0, 1) := by decide +kernel
theorem dX3_place_54 : decode cX3_place 54 = .ok (.getfield 9, 3) := by decide +kernel
theorem dX3_place_57 : decode cX3_place 57 = .ok (.iload_n 3, 1) := by decide +kernel
theorem dX3_place_58 : decode cX3_place 58 = .ok (.iaload, 1) := by decide +kernel
theorem dX3_place_59 : decode cX3_place 59 = .ok (.aload_n 0, 1) := by decide +kernel
theorem dX3_place_60 : decode cX3_place 60 = .ok (.iload_n 3, 1) := by decide +kernel
theorem dX3_place_61 : decode cX3_place 61 = .ok (.invokevirtual 112, 3) := by decide +kernel
theorem dX3_place_64 : decode cX3_place 64 = .ok (.isub, 1) := by decide +kernel
theorem dX3_place_65 : decode cX3_place 65 = .ok (.aload_n 0, 1) := by decide +kernel
theorem dX3_place_66 : decode cX3_place 66 = .ok (.getfield 9, 3) := by decide +kernel
theorem dX3_place_69 : decode cX3_place 69 = .ok (.iload_n 2, 1) := by decide +kernel
theorem dX3_place_70 : decode cX3_place 70 = .ok (.iaload, 1) := by decide +kernel
theorem dX3_place_71 : decode cX3_place 71 = .ok (.aload_n 0, 1) := by decide +kernel
theorem dX3_place_72 : decode cX3_place 72 = .ok (.iload_n 2, 1) := by decide +kernel
theorem dX3_place_73 : decode cX3_place 73 = .ok (.invokevirtual 112, 3) := by decide +kernel
theorem dX3_place_76 : decode cX3_place 76 = .ok (.isub, 1) := by decide +kernel
theorem dX3_place_77 : decode cX3_place 77 = .ok (.if_icmp .le 5, 3) := by decide +kernel
theorem dX3_place_80 : decode cX3_place 80 = .ok (.iload_n 3, 1) := by decide +kernel
theorem dX3_place_81 : decode cX3_place 81 = .ok (.istore_n 2, 1) := by decide +kernel
theorem dX3_place_82 : decode cX3_place 82 = .ok (.iinc 3 1, 3) := by decide +kernel
theorem dX3_place_85 : decode cX3_place 85 = .ok (.goto (-81), 3) := by decide +kernel
theorem dX3_place_88 : decode cX3_place 88 = .ok (.iload_n 2, 1) := by decide +kernel
theorem dX3_place_89 : decode cX3_place 89 = .ok (.ifCond .ge 5, 3) := by decide +kernel
theorem dX3_place_92 : decode cX3_place 92 = .ok (.iconst (-1), 1) := by decide +kernel
theorem dX3_place_93 : decode cX3_place 93 = .ok (.ireturn, 1) := by decide +kernel
theorem dX3_place_94 : decode cX3_place 94 = .ok (.bipush 32, 2) := by decide +kernel
theorem dX3_place_96 : decode cX3_place 96 = .ok (.iload_n 2, 1) := by decide +kernel
theorem dX3_place_97 : decode cX3_place 97 = .ok (.imul, 1) := by decide +kernel
theorem dX3_place_98 : decode cX3_place 98 = .ok (.istore_n 3, 1) := by decide +kernel
theorem dX3_place_99 : decode cX3_place 99 = .ok (.aload_n 0, 1) := by decide +kernel
theorem dX3_place_100 : decode cX3_place 100 = .ok (.getfield 17, 3) := by decide +kernel
theorem dX3_place_103 : decode cX3_place 103 = .ok (.iload_n 3, 1) := by decide +kernel
theorem dX3_place_104 : decode cX3_place 104 = .ok (.iaload, 1) := by decide +kernel
theorem dX3_place_105 : decode cX3_place 105 = .ok (.ifCond .lt 9, 3) := by decide +kernel
theorem dX3_place_108 : decode cX3_place 108 = .ok (.iinc 3 1, 3) := by decide +kernel
theorem dX3_place_111 : decode cX3_place 111 = .ok (.goto (-12), 3) := by decide +kernel
theorem dX3_place_114 : decode cX3_place 114 = .ok (.iload_n 3, 1) := by decide +kernel
theorem dX3_place_115 : decode cX3_place 115 = .ok (.ireturn, 1) := by decide +kernel
theorem dX3_puts_0 : decode cX3_puts 0 = .ok (.aload_n 0, 1) := by decide +kernel
theorem dX3_puts_1 : decode cX3_puts 1 = .ok (.getfield 17, 3) := by decide +kernel
theorem dX3_puts_4 : decode cX3_puts 4 = .ok (.iload_n 2, 1) := by decide +kernel
theorem dX3_puts_5 : decode cX3_puts 5 = .ok (.iload_n 1, 1) := by decide +kernel
theorem dX3_puts_6 : decode cX3_puts 6 = .ok (.iastore, 1) := by decide +kernel
theorem dX3_puts_7 : decode cX3_puts 7 = .ok (.aload_n 0, 1) := by decide +kernel
theorem dX3_puts_8 : decode cX3_puts 8 = .ok (.getfield 23, 3) := by decide +kernel
theorem dX3_puts_11 : decode cX3_puts 11 = .ok (.iload_n 2, 1) := by decide +kernel
theorem dX3_puts_12 : decode cX3_puts 12 = .ok (.iconst 0, 1) := by decide +kernel
theorem dX3_puts_13 : decode cX3_puts 13 = .ok (.bastore, 1) := by decide +kernel
theorem dX3_puts_14 : decode cX3_puts 14 = .ok (.aload_n 0, 1) := by decide +kernel
theorem dX3_puts_15 : decode cX3_puts 15 = .ok (.getfield 32, 3) := by decide +kernel
theorem dX3_puts_18 : decode cX3_puts 18 = .ok (.iload_n 1, 1) := by decide +kernel
theorem dX3_puts_19 : decode cX3_puts 19 = .ok (.aaload, 1) := by decide +kernel
theorem dX3_puts_20 : decode cX3_puts 20 = .ok (.aload_n 0, 1) := by decide +kernel
theorem dX3_puts_21 : decode cX3_puts 21 = .ok (.getfield 38, 3) := by decide +kernel
theorem dX3_puts_24 : decode cX3_puts 24 = .ok (.iload_n 1, 1) := by decide +kernel
theorem dX3_puts_25 : decode cX3_puts 25 = .ok (.iaload, 1) := by decide +kernel
theorem dX3_puts_26 : decode cX3_puts 26 = .ok (.iload_n 2, 1) := by decide +kernel
theorem dX3_puts_27 : decode cX3_puts 27 = .ok (.iastore, 1) := by decide +kernel
theorem dX3_puts_28 : decode cX3_puts 28 = .ok (.aload_n 0, 1) := by decide +kernel
theorem dX3_puts_29 : decode cX3_puts 29 = .ok (.getfield 38, 3) := by decide +kernel
theorem dX3_puts_32 : decode cX3_puts 32 = .ok (.iload_n 1, 1) := by decide +kernel
theorem dX3_puts_33 : decode cX3_puts 33 = .ok (.dup2, 1) := by decide +kernel
theorem dX3_puts_34 : decode cX3_puts 34 = .ok (.iaload, 1) := by decide +kernel
theorem dX3_puts_35 : decode cX3_puts 35 = .ok (.iconst 1, 1) := by decide +kernel
theorem dX3_puts_36 : decode cX3_puts 36 = .ok (.iadd, 1) := by decide +kernel
theorem dX3_puts_37 : decode cX3_puts 37 = .ok (.iastore, 1) := by decide +kernel
theorem dX3_puts_38 : decode cX3_puts 38 = .ok (.return_, 1) := by decide +kernel
theorem dX3_takes_0 : decode cX3_takes 0 = .ok (.aload_n 0, 1) := by decide +kernel
theorem dX3_takes_1 : decode cX3_takes 1 = .ok (.getfield 17, 3) := by decide +kernel
theorem dX3_takes_4 : decode cX3_takes 4 = .ok (.aload_n 0, 1) := by decide +kernel
theorem dX3_takes_5 : decode cX3_takes 5 = .ok (.getfield 32, 3) := by decide +kernel
theorem dX3_takes_8 : decode cX3_takes 8 = .ok (.iload_n 1, 1) := by decide +kernel
theorem dX3_takes_9 : decode cX3_takes 9 = .ok (.aaload, 1) := by decide +kernel
theorem dX3_takes_10 : decode cX3_takes 10 = .ok (.iload_n 2, 1) := by decide +kernel
theorem dX3_takes_11 : decode cX3_takes 11 = .ok (.iaload, 1) := by decide +kernel
theorem dX3_takes_12 : decode cX3_takes 12 = .ok (.iconst (-1), 1) := by decide +kernel
theorem dX3_takes_13 : decode cX3_takes 13 = .ok (.iastore, 1) := by decide +kernel
theorem dX3_takes_14 : decode cX3_takes 14 = .ok (.aload_n 0, 1) := by decide +kernel
theorem dX3_takes_15 : decode cX3_takes 15 = .ok (.getfield 38, 3) := by decide +kernel
theorem dX3_takes_18 : decode cX3_takes 18 = .ok (.iload_n 1, 1) := by decide +kernel
theorem dX3_takes_19 : decode cX3_takes 19 = .ok (.dup2, 1) := by decide +kernel
theorem dX3_takes_20 : decode cX3_takes 20 = .ok (.iaload, 1) := by decide +kernel
theorem dX3_takes_21 : decode cX3_takes 21 = .ok (.iconst 1, 1) := by decide +kernel
theorem dX3_takes_22 : decode cX3_takes 22 = .ok (.isub, 1) := by decide +kernel
theorem dX3_takes_23 : decode cX3_takes 23 = .ok (.iastore, 1) := by decide +kernel
theorem dX3_takes_24 : decode cX3_takes 24 = .ok (.iload_n 2, 1) := by decide +kernel
theorem dX3_takes_25 : decode cX3_takes 25 = .ok (.istore_n 3, 1) := by decide +kernel
theorem dX3_takes_26 : decode cX3_takes 26 = .ok (.iload_n 3, 1) := by decide +kernel
theorem dX3_takes_27 : decode cX3_takes 27 = .ok (.aload_n 0, 1) := by decide +kernel
theorem dX3_takes_28 : decode cX3_takes 28 = .ok (.getfield 38, 3) := by decide +kernel
theorem dX3_takes_31 : decode cX3_takes 31 = .ok (.iload_n 1, 1) := by decide +kernel
theorem dX3_takes_32 : decode cX3_takes 32 = .ok (.iaload, 1) := by decide +kernel
theorem dX3_takes_33 : decode cX3_takes 33 = .ok (.if_icmp .ge 27, 3) := by decide +kernel
theorem dX3_takes_36 : decode cX3_takes 36 = .ok (.aload_n 0, 1) := by decide +kernel
theorem dX3_takes_37 : decode cX3_takes 37 = .ok (.getfield 32, 3) := by decide +kernel
theorem dX3_takes_40 : decode cX3_takes 40 = .ok (.iload_n 1, 1) := by decide +kernel
theorem dX3_takes_41 : decode cX3_takes 41 = .ok (.aaload, 1) := by decide +kernel
theorem dX3_takes_42 : decode cX3_takes 42 = .ok (.iload_n 3, 1) := by decide +kernel
theorem dX3_takes_43 : decode cX3_takes 43 = .ok (.aload_n 0, 1) := by decide +kernel
theorem dX3_takes_44 : decode cX3_takes 44 = .ok (.getfield 32, 3) := by decide +kernel
theorem dX3_takes_47 : decode cX3_takes 47 = .ok (.iload_n 1, 1) := by decide +kernel
theorem dX3_takes_48 : decode cX3_takes 48 = .ok (.aaload, 1) := by decide +kernel
theorem dX3_takes_49 : decode cX3_takes 49 = .ok (.iload_n 3, 1) := by decide +kernel
theorem dX3_takes_50 : decode cX3_takes 50 = .ok (.iconst 1, 1) := by decide +kernel
theorem dX3_takes_51 : decode cX3_takes 51 = .ok (.iadd, 1) := by decide +kernel
theorem dX3_takes_52 : decode cX3_takes 52 = .ok (.iaload, 1) := by decide +kernel
theorem dX3_takes_53 : decode cX3_takes 53 = .ok (.iastore, 1) := by decide +kernel
theorem dX3_takes_54 : decode cX3_takes 54 = .ok (.iinc 3 1, 3) := by decide +kernel
theorem dX3_takes_57 : decode cX3_takes 57 = .ok (.goto (-31), 3) := by decide +kernel
theorem dX3_takes_60 : decode cX3_takes 60 = .ok (.return_, 1) := by decide +kernel
theorem dX3_goodOf_0 : decode cX3_goodOf 0 = .ok (.iconst 0, 1) := by decide +kernel
theorem dX3_goodOf_1 : decode cX3_goodOf 1 = .ok (.istore_n 2, 1) := by decide +kernel
theorem dX3_goodOf_2 : decode cX3_goodOf 2 = .ok (.iconst 0, 1) := by decide +kernel
theorem dX3_goodOf_3 : decode cX3_goodOf 3 = .ok (.istore_n 3, 1) := by decide +kernel
theorem dX3_goodOf_4 : decode cX3_goodOf 4 = .ok (.iload_n 3, 1) := by decide +kernel
theorem dX3_goodOf_5 : decode cX3_goodOf 5 = .ok (.aload_n 0, 1) := by decide +kernel
theorem dX3_goodOf_6 : decode cX3_goodOf 6 = .ok (.getfield 38, 3) := by decide +kernel
theorem dX3_goodOf_9 : decode cX3_goodOf 9 = .ok (.iload_n 1, 1) := by decide +kernel
theorem dX3_goodOf_10 : decode cX3_goodOf 10 = .ok (.iaload, 1) := by decide +kernel
theorem dX3_goodOf_11 : decode cX3_goodOf 11 = .ok (.if_icmp .ge 33, 3) := by decide +kernel
theorem dX3_goodOf_14 : decode cX3_goodOf 14 = .ok (.iload_n 2, 1) := by decide +kernel
theorem dX3_goodOf_15 : decode cX3_goodOf 15 = .ok (.aload_n 0, 1) := by decide +kernel
theorem dX3_goodOf_16 : decode cX3_goodOf 16 = .ok (.getfield 23, 3) := by decide +kernel
theorem dX3_goodOf_19 : decode cX3_goodOf 19 = .ok (.aload_n 0, 1) := by decide +kernel
theorem dX3_goodOf_20 : decode cX3_goodOf 20 = .ok (.getfield 32, 3) := by decide +kernel
theorem dX3_goodOf_23 : decode cX3_goodOf 23 = .ok (.iload_n 1, 1) := by decide +kernel
theorem dX3_goodOf_24 : decode cX3_goodOf 24 = .ok (.aaload, 1) := by decide +kernel
theorem dX3_goodOf_25 : decode cX3_goodOf 25 = .ok (.iload_n 3, 1) := by decide +kernel
theorem dX3_goodOf_26 : decode cX3_goodOf 26 = .ok (.iaload, 1) := by decide +kernel
theorem dX3_goodOf_27 : decode cX3_goodOf 27 = .ok (.baload, 1) := by decide +kernel
theorem dX3_goodOf_28 : decode cX3_goodOf 28 = .ok (.ifCond .eq 7, 3) := by decide +kernel
theorem dX3_goodOf_31 : decode cX3_goodOf 31 = .ok (.iconst 0, 1) := by decide +kernel
theorem dX3_goodOf_32 : decode cX3_goodOf 32 = .ok (.goto 4, 3) := by decide +kernel
theorem dX3_goodOf_35 : decode cX3_goodOf 35 = .ok (.iconst 1, 1) := by decide +kernel
theorem dX3_goodOf_36 : decode cX3_goodOf 36 = .ok (.iadd, 1) := by decide +kernel
theorem dX3_goodOf_37 : decode cX3_goodOf 37 = .ok (.istore_n 2, 1) := by decide +kernel
theorem dX3_goodOf_38 : decode cX3_goodOf 38 = .ok (.iinc 3 1, 3) := by decide +kernel
theorem dX3_goodOf_41 : decode cX3_goodOf 41 = .ok (.goto (-37), 3) := by decide +kernel
theorem dX3_goodOf_44 : decode cX3_goodOf 44 = .ok (.iload_n 2, 1) := by decide +kernel
theorem dX3_goodOf_45 : decode cX3_goodOf 45 = .ok (.ireturn, 1) := by decide +kernel
theorem dX3_lost_0 : decode cX3_lost 0 = .ok (.aload_n 0, 1) := by decide +kernel
theorem dX3_lost_1 : decode cX3_lost 1 = .ok (.getfield 50, 3) := by decide +kernel
theorem dX3_lost_4 : decode cX3_lost 4 = .ok (.iload_n 1, 1) := by decide +kernel
theorem dX3_lost_5 : decode cX3_lost 5 = .ok (.baload, 1) := by decide +kernel
theorem dX3_lost_6 : decode cX3_lost 6 = .ok (.ifCond .eq 15, 3) := by decide +kernel
theorem dX3_lost_9 : decode cX3_lost 9 = .ok (.aload_n 0, 1) := by decide +kernel
theorem dX3_lost_10 : decode cX3_lost 10 = .ok (.iload_n 1, 1) := by decide +kernel
theorem dX3_lost_11 : decode cX3_lost 11 = .ok (.invokevirtual 120, 3) := by decide +kernel
theorem dX3_lost_14 : decode cX3_lost 14 = .ok (.ifCond .ne 7, 3) := by decide +kernel
theorem dX3_lost_17 : decode cX3_lost 17 = .ok (.iconst 1, 1) := by decide +kernel
theorem dX3_lost_18 : decode cX3_lost 18 = .ok (.goto 4, 3) := by decide +kernel
theorem dX3_lost_21 : decode cX3_lost 21 = .ok (.iconst 0, 1) := by decide +kernel
theorem dX3_lost_22 : decode cX3_lost 22 = .ok (.ireturn, 1) := by decide +kernel
theorem dX3_degraded_0 : decode cX3_degraded 0 = .ok (.aload_n 0, 1) := by decide +kernel
theorem dX3_degraded_1 : decode cX3_degraded 1 = .ok (.getfield 50, 3) := by decide +kernel
theorem dX3_degraded_4 : decode cX3_degraded 4 = .ok (.iload_n 1, 1) := by decide +kernel
theorem dX3_degraded_5 : decode cX3_degraded 5 = .ok (.baload, 1) := by decide +kernel
theorem dX3_degraded_6 : decode cX3_degraded 6 = .ok (.ifCond .eq 25, 3) := by decide +kernel
theorem dX3_degraded_9 : decode cX3_degraded 9 = .ok (.aload_n 0, 1) := by decide +kernel
theorem dX3_degraded_10 : decode cX3_degraded 10 = .ok (.getfield 38, 3) := by decide +kernel
theorem dX3_degraded_13 : decode cX3_degraded 13 = .ok (.iload_n 1, 1) := by decide +kernel
theorem dX3_degraded_14 : decode cX3_degraded 14 = .ok (.iaload, 1) := by decide +kernel
theorem dX3_degraded_15 : decode cX3_degraded 15 = .ok (.aload_n 0, 1) := by decide +kernel
theorem dX3_degraded_16 : decode cX3_degraded 16 = .ok (.getfield 53, 3) := by decide +kernel
theorem dX3_degraded_19 : decode cX3_degraded 19 = .ok (.iload_n 1, 1) := by decide +kernel
theorem dX3_degraded_20 : decode cX3_degraded 20 = .ok (.bipush 100, 2) := by decide +kernel
theorem dX3_degraded_22 : decode cX3_degraded 22 = .ok (.idiv, 1) := by decide +kernel
theorem dX3_degraded_23 : decode cX3_degraded 23 = .ok (.iaload, 1) := by decide +kernel
theorem dX3_degraded_24 : decode cX3_degraded 24 = .ok (.if_icmp .ge 7, 3) := by decide +kernel
theorem dX3_degraded_27 : decode cX3_degraded 27 = .ok (.iconst 1, 1) := by decide +kernel
theorem dX3_degraded_28 : decode cX3_degraded 28 = .ok (.goto 4, 3) := by decide +kernel
theorem dX3_degraded_31 : decode cX3_degraded 31 = .ok (.iconst 0, 1) := by decide +kernel
theorem dX3_degraded_32 : decode cX3_degraded 32 = .ok (.ireturn, 1) := by decide +kernel
theorem dX3_keepsAll_0 : decode cX3_keepsAll 0 = .ok (.iconst 0, 1) := by decide +kernel
theorem dX3_keepsAll_1 : decode cX3_keepsAll 1 = .ok (.istore_n 1, 1) := by decide +kernel
theorem dX3_keepsAll_2 : decode cX3_keepsAll 2 = .ok (.iload_n 1, 1) := by decide +kernel
theorem dX3_keepsAll_3 : decode cX3_keepsAll 3 = .ok (.sipush 256, 3) := by decide +kernel
theorem dX3_keepsAll_6 : decode cX3_keepsAll 6 = .ok (.if_icmp .ge 33, 3) := by decide +kernel
theorem dX3_keepsAll_9 : decode cX3_keepsAll 9 = .ok (.aload_n 0, 1) := by decide +kernel
theorem dX3_keepsAll_10 : decode cX3_keepsAll 10 = .ok (.getfield 20, 3) := by decide +kernel
theorem dX3_keepsAll_13 : decode cX3_keepsAll 13 = .ok (.iload_n 1, 1) := by decide +kernel
theorem dX3_keepsAll_14 : decode cX3_keepsAll 14 = .ok (.aload_n 0, 1) := by decide +kernel
theorem dX3_keepsAll_15 : decode cX3_keepsAll 15 = .ok (.getfield 17, 3) := by decide +kernel
theorem dX3_keepsAll_18 : decode cX3_keepsAll 18 = .ok (.iload_n 1, 1) := by decide +kernel
theorem dX3_keepsAll_19 : decode cX3_keepsAll 19 = .ok (.iaload, 1) := by decide +kernel
theorem dX3_keepsAll_20 : decode cX3_keepsAll 20 = .ok (.iastore, 1) := by decide +kernel
theorem dX3_keepsAll_21 : decode cX3_keepsAll 21 = .ok (.aload_n 0, 1) := by decide +kernel
theorem dX3_keepsAll_22 : decode cX3_keepsAll 22 = .ok (.getfield 27, 3) := by decide +kernel
theorem dX3_keepsAll_25 : decode cX3_keepsAll 25 = .ok (.iload_n 1, 1) := by decide +kernel
theorem dX3_keepsAll_26 : decode cX3_keepsAll 26 = .ok (.aload_n 0, 1) := by decide +kernel
theorem dX3_keepsAll_27 : decode cX3_keepsAll 27 = .ok (.getfield 23, 3) := by decide +kernel
theorem dX3_keepsAll_30 : decode cX3_keepsAll 30 = .ok (.iload_n 1, 1) := by decide +kernel
theorem dX3_keepsAll_31 : decode cX3_keepsAll 31 = .ok (.baload, 1) := by decide +kernel
theorem dX3_keepsAll_32 : decode cX3_keepsAll 32 = .ok (.bastore, 1) := by decide +kernel
theorem dX3_keepsAll_33 : decode cX3_keepsAll 33 = .ok (.iinc 1 1, 3) := by decide +kernel
theorem dX3_keepsAll_36 : decode cX3_keepsAll 36 = .ok (.goto (-34), 3) := by decide +kernel
theorem dX3_keepsAll_39 : decode cX3_keepsAll 39 = .ok (.iconst 0, 1) := by decide +kernel
theorem dX3_keepsAll_40 : decode cX3_keepsAll 40 = .ok (.istore_n 1, 1) := by decide +kernel
theorem dX3_keepsAll_41 : decode cX3_keepsAll 41 = .ok (.iload_n 1, 1) := by decide +kernel
theorem dX3_keepsAll_42 : decode cX3_keepsAll 42 = .ok (.sipush 400, 3) := by decide +kernel
theorem dX3_keepsAll_45 : decode cX3_keepsAll 45 = .ok (.if_icmp .ge 50, 3) := by decide +kernel
theorem dX3_keepsAll_48 : decode cX3_keepsAll 48 = .ok (.aload_n 0, 1) := by decide +kernel
theorem dX3_keepsAll_49 : decode cX3_keepsAll 49 = .ok (.getfield 41, 3) := by decide +kernel
theorem dX3_keepsAll_52 : decode cX3_keepsAll 52 = .ok (.iload_n 1, 1) := by decide +kernel
theorem dX3_keepsAll_53 : decode cX3_keepsAll 53 = .ok (.aload_n 0, 1) := by decide +kernel
theorem dX3_keepsAll_54 : decode cX3_keepsAll 54 = .ok (.getfield 38, 3) := by decide +kernel
theorem dX3_keepsAll_57 : decode cX3_keepsAll 57 = .ok (.iload_n 1, 1) := by decide +kernel
theorem dX3_keepsAll_58 : decode cX3_keepsAll 58 = .ok (.iaload, 1) := by decide +kernel
theorem dX3_keepsAll_59 : decode cX3_keepsAll 59 = .ok (.iastore, 1) := by decide +kernel
theorem dX3_keepsAll_60 : decode cX3_keepsAll 60 = .ok (.iconst 0, 1) := by decide +kernel
theorem dX3_keepsAll_61 : decode cX3_keepsAll 61 = .ok (.istore_n 2, 1) := by decide +kernel
theorem dX3_keepsAll_62 : decode cX3_keepsAll 62 = .ok (.iload_n 2, 1) := by decide +kernel
theorem dX3_keepsAll_63 : decode cX3_keepsAll 63 = .ok (.iconst 3, 1) := by decide +kernel
theorem dX3_keepsAll_64 : decode cX3_keepsAll 64 = .ok (.if_icmp .ge 25, 3) := by decide +kernel
theorem dX3_keepsAll_67 : decode cX3_keepsAll 67 = .ok (.aload_n 0, 1) := by decide +kernel
theorem dX3_keepsAll_68 : decode cX3_keepsAll 68 = .ok (.getfield 35, 3) := by decide +kernel
theorem dX3_keepsAll_71 : decode cX3_keepsAll 71 = .ok (.iload_n 1, 1) := by decide +kernel
theorem dX3_keepsAll_72 : decode cX3_keepsAll 72 = .ok (.aaload, 1) := by decide +kernel
theorem dX3_keepsAll_73 : decode cX3_keepsAll 73 = .ok (.iload_n 2, 1) := by decide +kernel
theorem dX3_keepsAll_74 : decode cX3_keepsAll 74 = .ok (.aload_n 0, 1) := by decide +kernel
theorem dX3_keepsAll_75 : decode cX3_keepsAll 75 = .ok (.getfield 32, 3) := by decide +kernel
theorem dX3_keepsAll_78 : decode cX3_keepsAll 78 = .ok (.iload_n 1, 1) := by decide +kernel
theorem dX3_keepsAll_79 : decode cX3_keepsAll 79 = .ok (.aaload, 1) := by decide +kernel
theorem dX3_keepsAll_80 : decode cX3_keepsAll 80 = .ok (.iload_n 2, 1) := by decide +kernel
theorem dX3_keepsAll_81 : decode cX3_keepsAll 81 = .ok (.iaload, 1) := by decide +kernel
theorem dX3_keepsAll_82 : decode cX3_keepsAll 82 = .ok (.iastore, 1) := by decide +kernel
theorem dX3_keepsAll_83 : decode cX3_keepsAll 83 = .ok (.iinc 2 1, 3) := by decide +kernel
theorem dX3_keepsAll_86 : decode cX3_keepsAll 86 = .ok (.goto (-24), 3) := by decide +kernel
theorem dX3_keepsAll_89 : decode cX3_keepsAll 89 = .ok (.iinc 1 1, 3) := by decide +kernel
theorem dX3_keepsAll_92 : decode cX3_keepsAll 92 = .ok (.goto (-51), 3) := by decide +kernel
theorem dX3_keepsAll_95 : decode cX3_keepsAll 95 = .ok (.return_, 1) := by decide +kernel
theorem dX3_laysBack_0 : decode cX3_laysBack 0 = .ok (.iconst 0, 1) := by decide +kernel
theorem dX3_laysBack_1 : decode cX3_laysBack 1 = .ok (.istore_n 1, 1) := by decide +kernel
theorem dX3_laysBack_2 : decode cX3_laysBack 2 = .ok (.iload_n 1, 1) := by decide +kernel
theorem dX3_laysBack_3 : decode cX3_laysBack 3 = .ok (.sipush 256, 3) := by decide +kernel
theorem dX3_laysBack_6 : decode cX3_laysBack 6 = .ok (.if_icmp .ge 33, 3) := by decide +kernel
theorem dX3_laysBack_9 : decode cX3_laysBack 9 = .ok (.aload_n 0, 1) := by decide +kernel
theorem dX3_laysBack_10 : decode cX3_laysBack 10 = .ok (.getfield 17, 3) := by decide +kernel
theorem dX3_laysBack_13 : decode cX3_laysBack 13 = .ok (.iload_n 1, 1) := by decide +kernel
theorem dX3_laysBack_14 : decode cX3_laysBack 14 = .ok (.aload_n 0, 1) := by decide +kernel
theorem dX3_laysBack_15 : decode cX3_laysBack 15 = .ok (.getfield 20, 3) := by decide +kernel
theorem dX3_laysBack_18 : decode cX3_laysBack 18 = .ok (.iload_n 1, 1) := by decide +kernel
theorem dX3_laysBack_19 : decode cX3_laysBack 19 = .ok (.iaload, 1) := by decide +kernel
theorem dX3_laysBack_20 : decode cX3_laysBack 20 = .ok (.iastore, 1) := by decide +kernel
theorem dX3_laysBack_21 : decode cX3_laysBack 21 = .ok (.aload_n 0, 1) := by decide +kernel
theorem dX3_laysBack_22 : decode cX3_laysBack 22 = .ok (.getfield 23, 3) := by decide +kernel
theorem dX3_laysBack_25 : decode cX3_laysBack 25 = .ok (.iload_n 1, 1) := by decide +kernel
theorem dX3_laysBack_26 : decode cX3_laysBack 26 = .ok (.aload_n 0, 1) := by decide +kernel
theorem dX3_laysBack_27 : decode cX3_laysBack 27 = .ok (.getfield 27, 3) := by decide +kernel
theorem dX3_laysBack_30 : decode cX3_laysBack 30 = .ok (.iload_n 1, 1) := by decide +kernel
theorem dX3_laysBack_31 : decode cX3_laysBack 31 = .ok (.baload, 1) := by decide +kernel
theorem dX3_laysBack_32 : decode cX3_laysBack 32 = .ok (.bastore, 1) := by decide +kernel
theorem dX3_laysBack_33 : decode cX3_laysBack 33 = .ok (.iinc 1 1, 3) := by decide +kernel
theorem dX3_laysBack_36 : decode cX3_laysBack 36 = .ok (.goto (-34), 3) := by decide +kernel
theorem dX3_laysBack_39 : decode cX3_laysBack 39 = .ok (.iconst 0, 1) := by decide +kernel
theorem dX3_laysBack_40 : decode cX3_laysBack 40 = .ok (.istore_n 1, 1) := by decide +kernel
theorem dX3_laysBack_41 : decode cX3_laysBack 41 = .ok (.iload_n 1, 1) := by decide +kernel
theorem dX3_laysBack_42 : decode cX3_laysBack 42 = .ok (.sipush 400, 3) := by decide +kernel
theorem dX3_laysBack_45 : decode cX3_laysBack 45 = .ok (.if_icmp .ge 50, 3) := by decide +kernel
theorem dX3_laysBack_48 : decode cX3_laysBack 48 = .ok (.aload_n 0, 1) := by decide +kernel
theorem dX3_laysBack_49 : decode cX3_laysBack 49 = .ok (.getfield 38, 3) := by decide +kernel
theorem dX3_laysBack_52 : decode cX3_laysBack 52 = .ok (.iload_n 1, 1) := by decide +kernel
theorem dX3_laysBack_53 : decode cX3_laysBack 53 = .ok (.aload_n 0, 1) := by decide +kernel
theorem dX3_laysBack_54 : decode cX3_laysBack 54 = .ok (.getfield 41, 3) := by decide +kernel
theorem dX3_laysBack_57 : decode cX3_laysBack 57 = .ok (.iload_n 1, 1) := by decide +kernel
theorem dX3_laysBack_58 : decode cX3_laysBack 58 = .ok (.iaload, 1) := by decide +kernel
theorem dX3_laysBack_59 : decode cX3_laysBack 59 = .ok (.iastore, 1) := by decide +kernel
theorem dX3_laysBack_60 : decode cX3_laysBack 60 = .ok (.iconst 0, 1) := by decide +kernel
theorem dX3_laysBack_61 : decode cX3_laysBack 61 = .ok (.istore_n 2, 1) := by decide +kernel
theorem dX3_laysBack_62 : decode cX3_laysBack 62 = .ok (.iload_n 2, 1) := by decide +kernel
theorem dX3_laysBack_63 : decode cX3_laysBack 63 = .ok (.iconst 3, 1) := by decide +kernel
theorem dX3_laysBack_64 : decode cX3_laysBack 64 = .ok (.if_icmp .ge 25, 3) := by decide +kernel
theorem dX3_laysBack_67 : decode cX3_laysBack 67 = .ok (.aload_n 0, 1) := by decide +kernel
theorem dX3_laysBack_68 : decode cX3_laysBack 68 = .ok (.getfield 32, 3) := by decide +kernel
theorem dX3_laysBack_71 : decode cX3_laysBack 71 = .ok (.iload_n 1, 1) := by decide +kernel
theorem dX3_laysBack_72 : decode cX3_laysBack 72 = .ok (.aaload, 1) := by decide +kernel
theorem dX3_laysBack_73 : decode cX3_laysBack 73 = .ok (.iload_n 2, 1) := by decide +kernel
theorem dX3_laysBack_74 : decode cX3_laysBack 74 = .ok (.aload_n 0, 1) := by decide +kernel
theorem dX3_laysBack_75 : decode cX3_laysBack 75 = .ok (.getfield 35, 3) := by decide +kernel
theorem dX3_laysBack_78 : decode cX3_laysBack 78 = .ok (.iload_n 1, 1) := by decide +kernel
theorem dX3_laysBack_79 : decode cX3_laysBack 79 = .ok (.aaload, 1) := by decide +kernel
theorem dX3_laysBack_80 : decode cX3_laysBack 80 = .ok (.iload_n 2, 1) := by decide +kernel
theorem dX3_laysBack_81 : decode cX3_laysBack 81 = .ok (.iaload, 1) := by decide +kernel
theorem dX3_laysBack_82 : decode cX3_laysBack 82 = .ok (.iastore, 1) := by decide +kernel
theorem dX3_laysBack_83 : decode cX3_laysBack 83 = .ok (.iinc 2 1, 3) := by decide +kernel
theorem dX3_laysBack_86 : decode cX3_laysBack 86 = .ok (.goto (-24), 3) := by decide +kernel
theorem dX3_laysBack_89 : decode cX3_laysBack 89 = .ok (.iinc 1 1, 3) := by decide +kernel
theorem dX3_laysBack_92 : decode cX3_laysBack 92 = .ok (.goto (-51), 3) := by decide +kernel
theorem dX3_laysBack_95 : decode cX3_laysBack 95 = .ok (.return_, 1) := by decide +kernel
theorem dX3_addDisk_0 : decode cX3_addDisk 0 = .ok (.aload_n 0, 1) := by decide +kernel
theorem dX3_addDisk_1 : decode cX3_addDisk 1 = .ok (.iconst 0, 1) := by decide +kernel
theorem dX3_addDisk_2 : decode cX3_addDisk 2 = .ok (.putfield 96, 3) := by decide +kernel
theorem dX3_addDisk_5 : decode cX3_addDisk 5 = .ok (.iload_n 1, 1) := by decide +kernel
theorem dX3_addDisk_6 : decode cX3_addDisk 6 = .ok (.iconst 1, 1) := by decide +kernel
theorem dX3_addDisk_7 : decode cX3_addDisk 7 = .ok (.bipush 32, 2) := by decide +kernel
theorem dX3_addDisk_9 : decode cX3_addDisk 9 = .ok (.invokestatic 102, 3) := by decide +kernel
theorem dX3_addDisk_12 : decode cX3_addDisk 12 = .ok (.ifCond .ne 9, 3) := by decide +kernel
theorem dX3_addDisk_15 : decode cX3_addDisk 15 = .ok (.aload_n 0, 1) := by decide +kernel
theorem dX3_addDisk_16 : decode cX3_addDisk 16 = .ok (.iconst 1, 1) := by decide +kernel
theorem dX3_addDisk_17 : decode cX3_addDisk 17 = .ok (.invokevirtual 123, 3) := by decide +kernel
theorem dX3_addDisk_20 : decode cX3_addDisk 20 = .ok (.ireturn, 1) := by decide +kernel
theorem dX3_addDisk_21 : decode cX3_addDisk 21 = .ok (.aload_n 0, 1) := by decide +kernel
theorem dX3_addDisk_22 : decode cX3_addDisk 22 = .ok (.getfield 99, 3) := by decide +kernel
theorem dX3_addDisk_25 : decode cX3_addDisk 25 = .ok (.bipush 8, 2) := by decide +kernel
theorem dX3_addDisk_27 : decode cX3_addDisk 27 = .ok (.if_icmp .ne 9, 3) := by decide +kernel
theorem dX3_addDisk_30 : decode cX3_addDisk 30 = .ok (.aload_n 0, 1) := by decide +kernel
theorem dX3_addDisk_31 : decode cX3_addDisk 31 = .ok (.iconst 2, 1) := by decide +kernel
theorem dX3_addDisk_32 : decode cX3_addDisk 32 = .ok (.invokevirtual 123, 3) := by decide +kernel
theorem dX3_addDisk_35 : decode cX3_addDisk 35 = .ok (.ireturn, 1) := by decide +kernel
theorem dX3_addDisk_36 : decode cX3_addDisk 36 = .ok (.aload_n 0, 1) := by decide +kernel
theorem dX3_addDisk_37 : decode cX3_addDisk 37 = .ok (.getfield 9, 3) := by decide +kernel
theorem dX3_addDisk_40 : decode cX3_addDisk 40 = .ok (.aload_n 0, 1) := by decide +kernel
theorem dX3_addDisk_41 : decode cX3_addDisk 41 = .ok (.getfield 99, 3) := by decide +kernel
theorem dX3_addDisk_44 : decode cX3_addDisk 44 = .ok (.iload_n 1, 1) := by decide +kernel
theorem dX3_addDisk_45 : decode cX3_addDisk 45 = .ok (.iastore, 1) := by decide +kernel
theorem dX3_addDisk_46 : decode cX3_addDisk 46 = .ok (.aload_n 0, 1) := by decide +kernel
theorem dX3_addDisk_47 : decode cX3_addDisk 47 = .ok (.getfield 13, 3) := by decide +kernel
theorem dX3_addDisk_50 : decode cX3_addDisk 50 = .ok (.aload_n 0, 1) := by decide +kernel
theorem dX3_addDisk_51 : decode cX3_addDisk 51 = .ok (.getfield 99, 3) := by decide +kernel
theorem dX3_addDisk_54 : decode cX3_addDisk 54 = .ok (.bipush 115, 2) := by decide +kernel
theorem dX3_addDisk_56 : decode cX3_addDisk 56 = .ok (.castore, 1) := by decide +kernel
theorem dX3_addDisk_57 : decode cX3_addDisk 57 = .ok (.iconst 0, 1) := by decide +kernel
theorem dX3_addDisk_58 : decode cX3_addDisk 58 = .ok (.istore_n 2, 1) := by decide +kernel
theorem dX3_addDisk_59 : decode cX3_addDisk 59 = .ok (.iload_n 2, 1) := by decide +kernel
theorem dX3_addDisk_60 : decode cX3_addDisk 60 = .ok (.bipush 32, 2) := by decide +kernel
theorem dX3_addDisk_62 : decode cX3_addDisk 62 = .ok (.if_icmp .ge 24, 3) := by decide +kernel
theorem dX3_addDisk_65 : decode cX3_addDisk 65 = .ok (.aload_n 0, 1) := by decide +kernel
theorem dX3_addDisk_66 : decode cX3_addDisk 66 = .ok (.getfield 17, 3) := by decide +kernel
theorem dX3_addDisk_69 : decode cX3_addDisk 69 = .ok (.bipush 32, 2) := by decide +kernel
theorem dX3_addDisk_71 : decode cX3_addDisk 71 = .ok (.aload_n 0, 1) := by decide +kernel
theorem dX3_addDisk_72 : decode cX3_addDisk 72 = .ok (.getfield 99, 3) := by decide +kernel
theorem dX3_addDisk_75 : decode cX3_addDisk 75 = .ok (.imul, 1) := by decide +kernel
theorem dX3_addDisk_76 : decode cX3_addDisk 76 = .ok (.iload_n 2, 1) := by decide +kernel
theorem dX3_addDisk_77 : decode cX3_addDisk 77 = .ok (.iadd, 1) := by decide +kernel
theorem dX3_addDisk_78 : decode cX3_addDisk 78 = .ok (.iconst (-1), 1) := by decide +kernel
theorem dX3_addDisk_79 : decode cX3_addDisk 79 = .ok (.iastore, 1) := by decide +kernel
theorem dX3_addDisk_80 : decode cX3_addDisk 80 = .ok (.iinc 2 1, 3) := by decide +kernel
theorem dX3_addDisk_83 : decode cX3_addDisk 83 = .ok (.goto (-24), 3) := by decide +kernel
theorem dX3_addDisk_86 : decode cX3_addDisk 86 = .ok (.aload_n 0, 1) := by decide +kernel
theorem dX3_addDisk_87 : decode cX3_addDisk 87 = .ok (.dup, 1) := by decide +kernel
theorem dX3_addDisk_88 : decode cX3_addDisk 88 = .ok (.getfield 99, 3) := by decide +kernel
theorem dX3_addDisk_91 : decode cX3_addDisk 91 = .ok (.iconst 1, 1) := by decide +kernel
theorem dX3_addDisk_92 : decode cX3_addDisk 92 = .ok (.iadd, 1) := by decide +kernel
theorem dX3_addDisk_93 : decode cX3_addDisk 93 = .ok (.putfield 99, 3) := by decide +kernel
theorem dX3_addDisk_96 : decode cX3_addDisk 96 = .ok (.aload_n 0, 1) := by decide +kernel
theorem dX3_addDisk_97 : decode cX3_addDisk 97 = .ok (.getfield 99, 3) := by decide +kernel
theorem dX3_addDisk_100 : decode cX3_addDisk 100 = .ok (.iconst 1, 1) := by decide +kernel
theorem dX3_addDisk_101 : decode cX3_addDisk 101 = .ok (.isub, 1) := by decide +kernel
theorem dX3_addDisk_102 : decode cX3_addDisk 102 = .ok (.ireturn, 1) := by decide +kernel
theorem dX3_diskCount_0 : decode cX3_diskCount 0 = .ok (.aload_n 0, 1) := by decide +kernel
theorem dX3_diskCount_1 : decode cX3_diskCount 1 = .ok (.iconst 0, 1) := by decide +kernel
theorem dX3_diskCount_2 : decode cX3_diskCount 2 = .ok (.putfield 96, 3) := by decide +kernel
theorem dX3_diskCount_5 : decode cX3_diskCount 5 = .ok (.aload_n 0, 1) := by decide +kernel
theorem dX3_diskCount_6 : decode cX3_diskCount 6 = .ok (.getfield 99, 3) := by decide +kernel
theorem dX3_diskCount_9 : decode cX3_diskCount 9 = .ok (.ireturn, 1) := by decide +kernel
theorem dX3_isNoDisk_0 : decode cX3_isNoDisk 0 = .ok (.aload_n 0, 1) := by decide +kernel
theorem dX3_isNoDisk_1 : decode cX3_isNoDisk 1 = .ok (.aload_n 0, 1) := by decide +kernel
theorem dX3_isNoDisk_2 : decode cX3_isNoDisk 2 = .ok (.iload_n 1, 1) := by decide +kernel
theorem dX3_isNoDisk_3 : decode cX3_isNoDisk 3 = .ok (.invokevirtual 126, 3) := by decide +kernel
theorem dX3_isNoDisk_6 : decode cX3_isNoDisk 6 = .ok (.ifCond .eq 7, 3) := by decide +kernel
theorem dX3_isNoDisk_9 : decode cX3_isNoDisk 9 = .ok (.iconst 0, 1) := by decide +kernel
theorem dX3_isNoDisk_10 : decode cX3_isNoDisk 10 = .ok (.goto 4, 3) := by decide +kernel
theorem dX3_isNoDisk_13 : decode cX3_isNoDisk 13 = .ok (.iconst 1, 1) := by decide +kernel
theorem dX3_isNoDisk_14 : decode cX3_isNoDisk 14 = .ok (.putfield 96, 3) := by decide +kernel
theorem dX3_isNoDisk_17 : decode cX3_isNoDisk 17 = .ok (.aload_n 0, 1) := by decide +kernel
theorem dX3_isNoDisk_18 : decode cX3_isNoDisk 18 = .ok (.getfield 96, 3) := by decide +kernel
theorem dX3_isNoDisk_21 : decode cX3_isNoDisk 21 = .ok (.ifCond .le 7, 3) := by decide +kernel
theorem dX3_isNoDisk_24 : decode cX3_isNoDisk 24 = .ok (.iconst 1, 1) := by decide +kernel
theorem dX3_isNoDisk_25 : decode cX3_isNoDisk 25 = .ok (.goto 4, 3) := by decide +kernel
theorem dX3_isNoDisk_28 : decode cX3_isNoDisk 28 = .ok (.iconst 0, 1) := by decide +kernel
theorem dX3_isNoDisk_29 : decode cX3_isNoDisk 29 = .ok (.ireturn, 1) := by decide +kernel
theorem dX3_diskState_0 : decode cX3_diskState 0 = .ok (.aload_n 0, 1) := by decide +kernel
theorem dX3_diskState_1 : decode cX3_diskState 1 = .ok (.iload_n 1, 1) := by decide +kernel
theorem dX3_diskState_2 : decode cX3_diskState 2 = .ok (.invokevirtual 130, 3) := by decide +kernel
theorem dX3_diskState_5 : decode cX3_diskState 5 = .ok (.ifCond .eq 7, 3) := by decide +kernel
theorem dX3_diskState_8 : decode cX3_diskState 8 = .ok (.iconst 0, 1) := by decide +kernel
theorem dX3_diskState_9 : decode cX3_diskState 9 = .ok (.goto 9, 3) := by decide +kernel
theorem dX3_diskState_12 : decode cX3_diskState 12 = .ok (.aload_n 0, 1) := by decide +kernel
theorem dX3_diskState_13 : decode cX3_diskState 13 = .ok (.getfield 13, 3) := by decide +kernel
theorem dX3_diskState_16 : decode cX3_diskState 16 = .ok (.iload_n 1, 1) := by decide +kernel
theorem dX3_diskState_17 : decode cX3_diskState 17 = .ok (.caload, 1) := by decide +kernel
theorem dX3_diskState_18 : decode cX3_diskState 18 = .ok (.ireturn, 1) := by decide +kernel
theorem dX3_usedOn_0 : decode cX3_usedOn 0 = .ok (.aload_n 0, 1) := by decide +kernel
theorem dX3_usedOn_1 : decode cX3_usedOn 1 = .ok (.iload_n 1, 1) := by decide +kernel
theorem dX3_usedOn_2 : decode cX3_usedOn 2 = .ok (.invokevirtual 130, 3) := by decide +kernel
theorem dX3_usedOn_5 : decode cX3_usedOn 5 = .ok (.ifCond .eq 7, 3) := by decide +kernel
theorem dX3_usedOn_8 : decode cX3_usedOn 8 = .ok (.iconst 0, 1) := by decide +kernel
theorem dX3_usedOn_9 : decode cX3_usedOn 9 = .ok (.goto 8, 3) := by decide +kernel
theorem dX3_usedOn_12 : decode cX3_usedOn 12 = .ok (.aload_n 0, 1) := by decide +kernel
theorem dX3_usedOn_13 : decode cX3_usedOn 13 = .ok (.iload_n 1, 1) := by decide +kernel
theorem dX3_usedOn_14 : decode cX3_usedOn 14 = .ok (.invokevirtual 112, 3) := by decide +kernel
theorem dX3_usedOn_17 : decode cX3_usedOn 17 = .ok (.ireturn, 1) := by decide +kernel
theorem dX3_addTenant_0 : decode cX3_addTenant 0 = .ok (.aload_n 0, 1) := by decide +kernel
theorem dX3_addTenant_1 : decode cX3_addTenant 1 = .ok (.iconst 0, 1) := by decide +kernel
theorem dX3_addTenant_2 : decode cX3_addTenant 2 = .ok (.putfield 96, 3) := by decide +kernel
theorem dX3_addTenant_5 : decode cX3_addTenant 5 = .ok (.iload_n 1, 1) := by decide +kernel
theorem dX3_addTenant_6 : decode cX3_addTenant 6 = .ok (.iconst 1, 1) := by decide +kernel
theorem dX3_addTenant_7 : decode cX3_addTenant 7 = .ok (.iconst 3, 1) := by decide +kernel
theorem dX3_addTenant_8 : decode cX3_addTenant 8 = .ok (.invokestatic 102, 3) := by decide +kernel
theorem dX3_addTenant_11 : decode cX3_addTenant 11 = .ok (.ifCond .eq 13, 3) := by decide +kernel
theorem dX3_addTenant_14 : decode cX3_addTenant 14 = .ok (.iload_n 2, 1) := by decide +kernel
theorem dX3_addTenant_15 : decode cX3_addTenant 15 = .ok (.iconst 0, 1) := by decide +kernel
theorem dX3_addTenant_16 : decode cX3_addTenant 16 = .ok (.bipush 20, 2) := by decide +kernel
theorem dX3_addTenant_18 : decode cX3_addTenant 18 = .ok (.invokestatic 102, 3) := by decide +kernel
theorem dX3_addTenant_21 : decode cX3_addTenant 21 = .ok (.ifCond .ne 9, 3) := by decide +kernel
theorem dX3_addTenant_24 : decode cX3_addTenant 24 = .ok (.aload_n 0, 1) := by decide +kernel
theorem dX3_addTenant_25 : decode cX3_addTenant 25 = .ok (.iconst 1, 1) := by decide +kernel
theorem dX3_addTenant_26 : decode cX3_addTenant 26 = .ok (.invokevirtual 123, 3) := by decide +kernel
theorem dX3_addTenant_29 : decode cX3_addTenant 29 = .ok (.ireturn, 1) := by decide +kernel
theorem dX3_addTenant_30 : decode cX3_addTenant 30 = .ok (.aload_n 0, 1) := by decide +kernel
theorem dX3_addTenant_31 : decode cX3_addTenant 31 = .ok (.getfield 106, 3) := by decide +kernel
theorem dX3_addTenant_34 : decode cX3_addTenant 34 = .ok (.iconst 4, 1) := by decide +kernel
theorem dX3_addTenant_35 : decode cX3_addTenant 35 = .ok (.if_icmp .ne 9, 3) := by decide +kernel
theorem dX3_addTenant_38 : decode cX3_addTenant 38 = .ok (.aload_n 0, 1) := by decide +kernel
theorem dX3_addTenant_39 : decode cX3_addTenant 39 = .ok (.iconst 2, 1) := by decide +kernel
theorem dX3_addTenant_40 : decode cX3_addTenant 40 = .ok (.invokevirtual 123, 3) := by decide +kernel
theorem dX3_addTenant_43 : decode cX3_addTenant 43 = .ok (.ireturn, 1) := by decide +kernel
theorem dX3_addTenant_44 : decode cX3_addTenant 44 = .ok (.aload_n 0, 1) := by decide +kernel
theorem dX3_addTenant_45 : decode cX3_addTenant 45 = .ok (.getfield 53, 3) := by decide +kernel
theorem dX3_addTenant_48 : decode cX3_addTenant 48 = .ok (.aload_n 0, 1) := by decide +kernel
theorem dX3_addTenant_49 : decode cX3_addTenant 49 = .ok (.getfield 106, 3) := by decide +kernel
theorem dX3_addTenant_52 : decode cX3_addTenant 52 = .ok (.iload_n 1, 1) := by decide +kernel
theorem dX3_addTenant_53 : decode cX3_addTenant 53 = .ok (.iastore, 1) := by decide +kernel
theorem dX3_addTenant_54 : decode cX3_addTenant 54 = .ok (.aload_n 0, 1) := by decide +kernel
theorem dX3_addTenant_55 : decode cX3_addTenant 55 = .ok (.getfield 56, 3) := by decide +kernel
theorem dX3_addTenant_58 : decode cX3_addTenant 58 = .ok (.aload_n 0, 1) := by decide +kernel
theorem dX3_addTenant_59 : decode cX3_addTenant 59 = .ok (.getfield 106, 3) := by decide +kernel
theorem dX3_addTenant_62 : decode cX3_addTenant 62 = .ok (.iload_n 2, 1) := by decide +kernel
theorem dX3_addTenant_63 : decode cX3_addTenant 63 = .ok (.iastore, 1) := by decide +kernel
theorem dX3_addTenant_64 : decode cX3_addTenant 64 = .ok (.aload_n 0, 1) := by decide +kernel
theorem dX3_addTenant_65 : decode cX3_addTenant 65 = .ok (.dup, 1) := by decide +kernel
theorem dX3_addTenant_66 : decode cX3_addTenant 66 = .ok (.getfield 106, 3) := by decide +kernel
theorem dX3_addTenant_69 : decode cX3_addTenant 69 = .ok (.iconst 1, 1) := by decide +kernel
theorem dX3_addTenant_70 : decode cX3_addTenant 70 = .ok (.iadd, 1) := by decide +kernel
theorem dX3_addTenant_71 : decode cX3_addTenant 71 = .ok (.putfield 106, 3) := by decide +kernel
theorem dX3_addTenant_74 : decode cX3_addTenant 74 = .ok (.aload_n 0, 1) := by decide +kernel
theorem dX3_addTenant_75 : decode cX3_addTenant 75 = .ok (.getfield 106, 3) := by decide +kernel
theorem dX3_addTenant_78 : decode cX3_addTenant 78 = .ok (.iconst 1, 1) := by decide +kernel
theorem dX3_addTenant_79 : decode cX3_addTenant 79 = .ok (.isub, 1) := by decide +kernel
theorem dX3_addTenant_80 : decode cX3_addTenant 80 = .ok (.ireturn, 1) := by decide +kernel
theorem dX3_tenantCount_0 : decode cX3_tenantCount 0 = .ok (.aload_n 0, 1) := by decide +kernel
theorem dX3_tenantCount_1 : decode cX3_tenantCount 1 = .ok (.iconst 0, 1) := by decide +kernel
theorem dX3_tenantCount_2 : decode cX3_tenantCount 2 = .ok (.putfield 96, 3) := by decide +kernel
theorem dX3_tenantCount_5 : decode cX3_tenantCount 5 = .ok (.aload_n 0, 1) := by decide +kernel
theorem dX3_tenantCount_6 : decode cX3_tenantCount 6 = .ok (.getfield 106, 3) := by decide +kernel
theorem dX3_tenantCount_9 : decode cX3_tenantCount 9 = .ok (.ireturn, 1) := by decide +kernel
theorem dX3_setHurry_0 : decode cX3_setHurry 0 = .ok (.aload_n 0, 1) := by decide +kernel
theorem dX3_setHurry_1 : decode cX3_setHurry 1 = .ok (.iconst 0, 1) := by decide +kernel
theorem dX3_setHurry_2 : decode cX3_setHurry 2 = .ok (.putfield 96, 3) := by decide +kernel
theorem dX3_setHurry_5 : decode cX3_setHurry 5 = .ok (.iload_n 1, 1) := by decide +kernel
theorem dX3_setHurry_6 : decode cX3_setHurry 6 = .ok (.iconst 0, 1) := by decide +kernel
theorem dX3_setHurry_7 : decode cX3_setHurry 7 = .ok (.bipush 20, 2) := by decide +kernel
theorem dX3_setHurry_9 : decode cX3_setHurry 9 = .ok (.invokestatic 102, 3) := by decide +kernel
theorem dX3_setHurry_12 : decode cX3_setHurry 12 = .ok (.ifCond .ne 9, 3) := by decide +kernel
theorem dX3_setHurry_15 : decode cX3_setHurry 15 = .ok (.aload_n 0, 1) := by decide +kernel
theorem dX3_setHurry_16 : decode cX3_setHurry 16 = .ok (.iconst 1, 1) := by decide +kernel
theorem dX3_setHurry_17 : decode cX3_setHurry 17 = .ok (.invokevirtual 123, 3) := by decide +kernel
theorem dX3_setHurry_20 : decode cX3_setHurry 20 = .ok (.ireturn, 1) := by decide +kernel
theorem dX3_setHurry_21 : decode cX3_setHurry 21 = .ok (.aload_n 0, 1) := by decide +kernel
theorem dX3_setHurry_22 : decode cX3_setHurry 22 = .ok (.getfield 86, 3) := by decide +kernel
theorem dX3_setHurry_25 : decode cX3_setHurry 25 = .ok (.istore_n 2, 1) := by decide +kernel
theorem dX3_setHurry_26 : decode cX3_setHurry 26 = .ok (.aload_n 0, 1) := by decide +kernel
theorem dX3_setHurry_27 : decode cX3_setHurry 27 = .ok (.iload_n 1, 1) := by decide +kernel
theorem dX3_setHurry_28 : decode cX3_setHurry 28 = .ok (.putfield 86, 3) := by decide +kernel
theorem dX3_setHurry_31 : decode cX3_setHurry 31 = .ok (.iload_n 2, 1) := by decide +kernel
theorem dX3_setHurry_32 : decode cX3_setHurry 32 = .ok (.ireturn, 1) := by decide +kernel
theorem dX3_isNone_0 : decode cX3_isNone 0 = .ok (.aload_n 0, 1) := by decide +kernel
theorem dX3_isNone_1 : decode cX3_isNone 1 = .ok (.aload_n 0, 1) := by decide +kernel
theorem dX3_isNone_2 : decode cX3_isNone 2 = .ok (.iload_n 1, 1) := by decide +kernel
theorem dX3_isNone_3 : decode cX3_isNone 3 = .ok (.invokevirtual 133, 3) := by decide +kernel
theorem dX3_isNone_6 : decode cX3_isNone 6 = .ok (.ifCond .eq 17, 3) := by decide +kernel
theorem dX3_isNone_9 : decode cX3_isNone 9 = .ok (.iload_n 2, 1) := by decide +kernel
theorem dX3_isNone_10 : decode cX3_isNone 10 = .ok (.iconst 0, 1) := by decide +kernel
theorem dX3_isNone_11 : decode cX3_isNone 11 = .ok (.bipush 99, 2) := by decide +kernel
theorem dX3_isNone_13 : decode cX3_isNone 13 = .ok (.invokestatic 102, 3) := by decide +kernel
theorem dX3_isNone_16 : decode cX3_isNone 16 = .ok (.ifCond .eq 7, 3) := by decide +kernel
theorem dX3_isNone_19 : decode cX3_isNone 19 = .ok (.iconst 0, 1) := by decide +kernel
theorem dX3_isNone_20 : decode cX3_isNone 20 = .ok (.goto 4, 3) := by decide +kernel
theorem dX3_isNone_23 : decode cX3_isNone 23 = .ok (.iconst 1, 1) := by decide +kernel
theorem dX3_isNone_24 : decode cX3_isNone 24 = .ok (.putfield 96, 3) := by decide +kernel
theorem dX3_isNone_27 : decode cX3_isNone 27 = .ok (.aload_n 0, 1) := by decide +kernel
theorem dX3_isNone_28 : decode cX3_isNone 28 = .ok (.getfield 96, 3) := by decide +kernel
theorem dX3_isNone_31 : decode cX3_isNone 31 = .ok (.ifCond .le 7, 3) := by decide +kernel
theorem dX3_isNone_34 : decode cX3_isNone 34 = .ok (.iconst 1, 1) := by decide +kernel
theorem dX3_isNone_35 : decode cX3_isNone 35 = .ok (.goto 4, 3) := by decide +kernel
theorem dX3_isNone_38 : decode cX3_isNone 38 = .ok (.iconst 0, 1) := by decide +kernel
theorem dX3_isNone_39 : decode cX3_isNone 39 = .ok (.ireturn, 1) := by decide +kernel
theorem dX3_waitingMany_0 : decode cX3_waitingMany 0 = .ok (.iconst 0, 1) := by decide +kernel
theorem dX3_waitingMany_1 : decode cX3_waitingMany 1 = .ok (.istore_n 2, 1) := by decide +kernel
theorem dX3_waitingMany_2 : decode cX3_waitingMany 2 = .ok (.iconst 0, 1) := by decide +kernel
theorem dX3_waitingMany_3 : decode cX3_waitingMany 3 = .ok (.istore_n 3, 1) := by decide +kernel
theorem dX3_waitingMany_4 : decode cX3_waitingMany 4 = .ok (.iload_n 3, 1) := by decide +kernel
theorem dX3_waitingMany_5 : decode cX3_waitingMany 5 = .ok (.aload_n 0, 1) := by decide +kernel
theorem dX3_waitingMany_6 : decode cX3_waitingMany 6 = .ok (.getfield 109, 3) := by decide +kernel
theorem dX3_waitingMany_9 : decode cX3_waitingMany 9 = .ok (.if_icmp .ge 45, 3) := by decide +kernel
theorem dX3_waitingMany_12 : decode cX3_waitingMany 12 = .ok (.iload_n 2, 1) := by decide +kernel
theorem dX3_waitingMany_13 : decode cX3_waitingMany 13 = .ok (.aload_n 0, 1) := by decide +kernel
theorem dX3_waitingMany_14 : decode cX3_waitingMany 14 = .ok (.getfield 83, 3) := by decide +kernel
theorem dX3_waitingMany_17 : decode cX3_waitingMany 17 = .ok (.iload_n 3, 1) := by decide +kernel
theorem dX3_waitingMany_18 : decode cX3_waitingMany 18 = .ok (.caload, 1) := by decide +kernel
theorem dX3_waitingMany_19 : decode cX3_waitingMany 19 = .ok (.bipush 119, 2) := by decide +kernel
theorem dX3_waitingMany_21 : decode cX3_waitingMany 21 = .ok (.if_icmp .ne 24, 3) := by decide +kernel
theorem dX3_waitingMany_24 : decode cX3_waitingMany 24 = .ok (.iload_n 1, 1) := by decide +kernel
theorem dX3_waitingMany_25 : decode cX3_waitingMany 25 = .ok (.ifCond .lt 16, 3) := by decide +kernel
theorem dX3_waitingMany_28 : decode cX3_waitingMany 28 = .ok (.aload_n 0, 1) := by decide +kernel
theorem dX3_waitingMany_29 : decode cX3_waitingMany 29 = .ok (.getfield 74, 3) := by decide +kernel
theorem dX3_waitingMany_32 : decode cX3_waitingMany 32 = .ok (.iload_n 3, 1) := by decide +kernel
theorem dX3_waitingMany_33 : decode cX3_waitingMany 33 = .ok (.iaload, 1) := by decide +kernel
theorem dX3_waitingMany_34 : decode cX3_waitingMany 34 = .ok (.bipush 100, 2) := by decide +kernel
theorem dX3_waitingMany_36 : decode cX3_waitingMany 36 = .ok (.idiv, 1) := by decide +kernel
theorem dX3_waitingMany_37 : decode cX3_waitingMany 37 = .ok (.iload_n 1, 1) := by decide +kernel
theorem dX3_waitingMany_38 : decode cX3_waitingMany 38 = .ok (.if_icmp .ne 7, 3) := by decide +kernel
theorem dX3_waitingMany_41 : decode cX3_waitingMany 41 = .ok (.iconst 1, 1) := by decide +kernel
theorem dX3_waitingMany_42 : decode cX3_waitingMany 42 = .ok (.goto 4, 3) := by decide +kernel
theorem dX3_waitingMany_45 : decode cX3_waitingMany 45 = .ok (.iconst 0, 1) := by decide +kernel
theorem dX3_waitingMany_46 : decode cX3_waitingMany 46 = .ok (.iadd, 1) := by decide +kernel
theorem dX3_waitingMany_47 : decode cX3_waitingMany 47 = .ok (.istore_n 2, 1) := by decide +kernel
theorem dX3_waitingMany_48 : decode cX3_waitingMany 48 = .ok (.iinc 3 1, 3) := by decide +kernel
theorem dX3_waitingMany_51 : decode cX3_waitingMany 51 = .ok (.goto (-47), 3) := by decide +kernel
theorem dX3_waitingMany_54 : decode cX3_waitingMany 54 = .ok (.iload_n 2, 1) := by decide +kernel
theorem dX3_waitingMany_55 : decode cX3_waitingMany 55 = .ok (.ireturn, 1) := by decide +kernel
theorem dX3_asks_0 : decode cX3_asks 0 = .ok (.aload_n 0, 1) := by decide +kernel
theorem dX3_asks_1 : decode cX3_asks 1 = .ok (.iconst (-1), 1) := by decide +kernel
theorem dX3_asks_2 : decode cX3_asks 2 = .ok (.invokevirtual 136, 3) := by decide +kernel
theorem dX3_asks_5 : decode cX3_asks 5 = .ok (.bipush 40, 2) := by decide +kernel
theorem dX3_asks_7 : decode cX3_asks 7 = .ok (.if_icmp .eq 13, 3) := by decide +kernel
theorem dX3_asks_10 : decode cX3_asks 10 = .ok (.aload_n 0, 1) := by decide +kernel
theorem dX3_asks_11 : decode cX3_asks 11 = .ok (.getfield 109, 3) := by decide +kernel
theorem dX3_asks_14 : decode cX3_asks 14 = .ok (.sipush 300, 3) := by decide +kernel
theorem dX3_asks_17 : decode cX3_asks 17 = .ok (.if_icmp .ne 9, 3) := by decide +kernel
theorem dX3_asks_20 : decode cX3_asks 20 = .ok (.aload_n 0, 1) := by decide +kernel
theorem dX3_asks_21 : decode cX3_asks 21 = .ok (.iload_n 3, 1) := by decide +kernel
theorem dX3_asks_22 : decode cX3_asks 22 = .ok (.invokevirtual 123, 3) := by decide +kernel
theorem dX3_asks_25 : decode cX3_asks 25 = .ok (.ireturn, 1) := by decide +kernel
theorem dX3_asks_26 : decode cX3_asks 26 = .ok (.aload_n 0, 1) := by decide +kernel
theorem dX3_asks_27 : decode cX3_asks 27 = .ok (.getfield 74, 3) := by decide +kernel
theorem dX3_asks_30 : decode cX3_asks 30 = .ok (.aload_n 0, 1) := by decide +kernel
theorem dX3_asks_31 : decode cX3_asks 31 = .ok (.getfield 109, 3) := by decide +kernel
theorem dX3_asks_34 : decode cX3_asks 34 = .ok (.iload_n 1, 1) := by decide +kernel
theorem dX3_asks_35 : decode cX3_asks 35 = .ok (.iastore, 1) := by decide +kernel
theorem dX3_asks_36 : decode cX3_asks 36 = .ok (.aload_n 0, 1) := by decide +kernel
theorem dX3_asks_37 : decode cX3_asks 37 = .ok (.getfield 77, 3) := by decide +kernel
theorem dX3_asks_40 : decode cX3_asks 40 = .ok (.aload_n 0, 1) := by decide +kernel
theorem dX3_asks_41 : decode cX3_asks 41 = .ok (.getfield 109, 3) := by decide +kernel
theorem dX3_asks_44 : decode cX3_asks 44 = .ok (.iload_n 2, 1) := by decide +kernel
theorem dX3_asks_45 : decode cX3_asks 45 = .ok (.iastore, 1) := by decide +kernel
theorem dX3_asks_46 : decode cX3_asks 46 = .ok (.aload_n 0, 1) := by decide +kernel
theorem dX3_asks_47 : decode cX3_asks 47 = .ok (.getfield 83, 3) := by decide +kernel
theorem dX3_asks_50 : decode cX3_asks 50 = .ok (.aload_n 0, 1) := by decide +kernel
theorem dX3_asks_51 : decode cX3_asks 51 = .ok (.getfield 109, 3) := by decide +kernel
theorem dX3_asks_54 : decode cX3_asks 54 = .ok (.bipush 119, 2) := by decide +kernel
theorem dX3_asks_56 : decode cX3_asks 56 = .ok (.castore, 1) := by decide +kernel
theorem dX3_asks_57 : decode cX3_asks 57 = .ok (.aload_n 0, 1) := by decide +kernel
theorem dX3_asks_58 : decode cX3_asks 58 = .ok (.dup, 1) := by decide +kernel
theorem dX3_asks_59 : decode cX3_asks 59 = .ok (.getfield 109, 3) := by decide +kernel
theorem dX3_asks_62 : decode cX3_asks 62 = .ok (.iconst 1, 1) := by decide +kernel
theorem dX3_asks_63 : decode cX3_asks 63 = .ok (.iadd, 1) := by decide +kernel
theorem dX3_asks_64 : decode cX3_asks 64 = .ok (.putfield 109, 3) := by decide +kernel
theorem dX3_asks_67 : decode cX3_asks 67 = .ok (.aload_n 0, 1) := by decide +kernel
theorem dX3_asks_68 : decode cX3_asks 68 = .ok (.getfield 109, 3) := by decide +kernel
theorem dX3_asks_71 : decode cX3_asks 71 = .ok (.iconst 1, 1) := by decide +kernel
theorem dX3_asks_72 : decode cX3_asks 72 = .ok (.isub, 1) := by decide +kernel
theorem dX3_asks_73 : decode cX3_asks 73 = .ok (.ireturn, 1) := by decide +kernel
theorem dX3_read_0 : decode cX3_read 0 = .ok (.aload_n 0, 1) := by decide +kernel
theorem dX3_read_1 : decode cX3_read 1 = .ok (.iload_n 1, 1) := by decide +kernel
theorem dX3_read_2 : decode cX3_read 2 = .ok (.iload_n 2, 1) := by decide +kernel
theorem dX3_read_3 : decode cX3_read 3 = .ok (.invokevirtual 139, 3) := by decide +kernel
theorem dX3_read_6 : decode cX3_read 6 = .ok (.ifCond .eq 7, 3) := by decide +kernel
theorem dX3_read_9 : decode cX3_read 9 = .ok (.iconst 0, 1) := by decide +kernel
theorem dX3_read_10 : decode cX3_read 10 = .ok (.goto 15, 3) := by decide +kernel
theorem dX3_read_13 : decode cX3_read 13 = .ok (.aload_n 0, 1) := by decide +kernel
theorem dX3_read_14 : decode cX3_read 14 = .ok (.bipush 100, 2) := by decide +kernel
theorem dX3_read_16 : decode cX3_read 16 = .ok (.iload_n 1, 1) := by decide +kernel
theorem dX3_read_17 : decode cX3_read 17 = .ok (.imul, 1) := by decide +kernel
theorem dX3_read_18 : decode cX3_read 18 = .ok (.iload_n 2, 1) := by decide +kernel
theorem dX3_read_19 : decode cX3_read 19 = .ok (.iadd, 1) := by decide +kernel
theorem dX3_read_20 : decode cX3_read 20 = .ok (.iconst (-1), 1) := by decide +kernel
theorem dX3_read_21 : decode cX3_read 21 = .ok (.iconst 2, 1) := by decide +kernel
theorem dX3_read_22 : decode cX3_read 22 = .ok (.invokevirtual 142, 3) := by decide +kernel
theorem dX3_read_25 : decode cX3_read 25 = .ok (.ireturn, 1) := by decide +kernel
theorem dX3_write_0 : decode cX3_write 0 = .ok (.aload_n 0, 1) := by decide +kernel
theorem dX3_write_1 : decode cX3_write 1 = .ok (.iload_n 1, 1) := by decide +kernel
theorem dX3_write_2 : decode cX3_write 2 = .ok (.iload_n 2, 1) := by decide +kernel
theorem dX3_write_3 : decode cX3_write 3 = .ok (.invokevirtual 139, 3) := by decide +kernel
theorem dX3_write_6 : decode cX3_write 6 = .ok (.ifCond .eq 5, 3) := by decide +kernel
theorem dX3_write_9 : decode cX3_write 9 = .ok (.iconst 0, 1) := by decide +kernel
theorem dX3_write_10 : decode cX3_write 10 = .ok (.ireturn, 1) := by decide +kernel
theorem dX3_write_11 : decode cX3_write 11 = .ok (.iload_n 3, 1) := by decide +kernel
theorem dX3_write_12 : decode cX3_write 12 = .ok (.iconst 0, 1) := by decide +kernel
theorem dX3_write_13 : decode cX3_write 13 = .ok (.sipush 9999, 3) := by decide +kernel
theorem dX3_write_16 : decode cX3_write 16 = .ok (.invokestatic 102, 3) := by decide +kernel
theorem dX3_write_19 : decode cX3_write 19 = .ok (.ifCond .eq 18, 3) := by decide +kernel
theorem dX3_write_22 : decode cX3_write 22 = .ok (.aload_n 0, 1) := by decide +kernel
theorem dX3_write_23 : decode cX3_write 23 = .ok (.bipush 100, 2) := by decide +kernel
theorem dX3_write_25 : decode cX3_write 25 = .ok (.iload_n 1, 1) := by decide +kernel
theorem dX3_write_26 : decode cX3_write 26 = .ok (.imul, 1) := by decide +kernel
theorem dX3_write_27 : decode cX3_write 27 = .ok (.iload_n 2, 1) := by decide +kernel
theorem dX3_write_28 : decode cX3_write 28 = .ok (.iadd, 1) := by decide +kernel
theorem dX3_write_29 : decode cX3_write 29 = .ok (.iload_n 3, 1) := by decide +kernel
theorem dX3_write_30 : decode cX3_write 30 = .ok (.iconst 3, 1) := by decide +kernel
theorem dX3_write_31 : decode cX3_write 31 = .ok (.invokevirtual 142, 3) := by decide +kernel
theorem dX3_write_34 : decode cX3_write 34 = .ok (.goto 8, 3) := by decide +kernel
theorem dX3_write_37 : decode cX3_write 37 = .ok (.aload_n 0, 1) := by decide +kernel
theorem dX3_write_38 : decode cX3_write 38 = .ok (.iconst 2, 1) := by decide +kernel
theorem dX3_write_39 : decode cX3_write 39 = .ok (.invokevirtual 123, 3) := by decide +kernel
theorem dX3_write_42 : decode cX3_write 42 = .ok (.ireturn, 1) := by decide +kernel
theorem dX3_isNoRequest_0 : decode cX3_isNoRequest 0 = .ok (.aload_n 0, 1) := by decide +kernel
theorem dX3_isNoRequest_1 : decode cX3_isNoRequest 1 = .ok (.aload_n 0, 1) := by decide +kernel
theorem dX3_isNoRequest_2 : decode cX3_isNoRequest 2 = .ok (.iload_n 1, 1) := by decide +kernel
theorem dX3_isNoRequest_3 : decode cX3_isNoRequest 3 = .ok (.invokevirtual 146, 3) := by decide +kernel
theorem dX3_isNoRequest_6 : decode cX3_isNoRequest 6 = .ok (.ifCond .eq 7, 3) := by decide +kernel
theorem dX3_isNoRequest_9 : decode cX3_isNoRequest 9 = .ok (.iconst 0, 1) := by decide +kernel
theorem dX3_isNoRequest_10 : decode cX3_isNoRequest 10 = .ok (.goto 4, 3) := by decide +kernel
theorem dX3_isNoRequest_13 : decode cX3_isNoRequest 13 = .ok (.iconst 1, 1) := by decide +kernel
theorem dX3_isNoRequest_14 : decode cX3_isNoRequest 14 = .ok (.putfield 96, 3) := by decide +kernel
theorem dX3_isNoRequest_17 : decode cX3_isNoRequest 17 = .ok (.aload_n 0, 1) := by decide +kernel
theorem dX3_isNoRequest_18 : decode cX3_isNoRequest 18 = .ok (.getfield 96, 3) := by decide +kernel
theorem dX3_isNoRequest_21 : decode cX3_isNoRequest 21 = .ok (.ifCond .le 7, 3) := by decide +kernel
theorem dX3_isNoRequest_24 : decode cX3_isNoRequest 24 = .ok (.iconst 1, 1) := by decide +kernel
theorem dX3_isNoRequest_25 : decode cX3_isNoRequest 25 = .ok (.goto 4, 3) := by decide +kernel
theorem dX3_isNoRequest_28 : decode cX3_isNoRequest 28 = .ok (.iconst 0, 1) := by decide +kernel
theorem dX3_isNoRequest_29 : decode cX3_isNoRequest 29 = .ok (.ireturn, 1) := by decide +kernel
theorem dX3_stateOf_0 : decode cX3_stateOf 0 = .ok (.aload_n 0, 1) := by decide +kernel
theorem dX3_stateOf_1 : decode cX3_stateOf 1 = .ok (.iload_n 1, 1) := by decide +kernel
theorem dX3_stateOf_2 : decode cX3_stateOf 2 = .ok (.invokevirtual 149, 3) := by decide +kernel
theorem dX3_stateOf_5 : decode cX3_stateOf 5 = .ok (.ifCond .eq 7, 3) := by decide +kernel
theorem dX3_stateOf_8 : decode cX3_stateOf 8 = .ok (.iconst 0, 1) := by decide +kernel
theorem dX3_stateOf_9 : decode cX3_stateOf 9 = .ok (.goto 9, 3) := by decide +kernel
theorem dX3_stateOf_12 : decode cX3_stateOf 12 = .ok (.aload_n 0, 1) := by decide +kernel
theorem dX3_stateOf_13 : decode cX3_stateOf 13 = .ok (.getfield 83, 3) := by decide +kernel
theorem dX3_stateOf_16 : decode cX3_stateOf 16 = .ok (.iload_n 1, 1) := by decide +kernel
theorem dX3_stateOf_17 : decode cX3_stateOf 17 = .ok (.caload, 1) := by decide +kernel
theorem dX3_stateOf_18 : decode cX3_stateOf 18 = .ok (.ireturn, 1) := by decide +kernel
theorem dX3_answerTo_0 : decode cX3_answerTo 0 = .ok (.aload_n 0, 1) := by decide +kernel
theorem dX3_answerTo_1 : decode cX3_answerTo 1 = .ok (.iload_n 1, 1) := by decide +kernel
theorem dX3_answerTo_2 : decode cX3_answerTo 2 = .ok (.invokevirtual 149, 3) := by decide +kernel
theorem dX3_answerTo_5 : decode cX3_answerTo 5 = .ok (.ifCond .eq 5, 3) := by decide +kernel
theorem dX3_answerTo_8 : decode cX3_answerTo 8 = .ok (.iconst 0, 1) := by decide +kernel
theorem dX3_answerTo_9 : decode cX3_answerTo 9 = .ok (.ireturn, 1) := by decide +kernel
theorem dX3_answerTo_10 : decode cX3_answerTo 10 = .ok (.aload_n 0, 1) := by decide +kernel
theorem dX3_answerTo_11 : decode cX3_answerTo 11 = .ok (.getfield 77, 3) := by decide +kernel
theorem dX3_answerTo_14 : decode cX3_answerTo 14 = .ok (.iload_n 1, 1) := by decide +kernel
theorem dX3_answerTo_15 : decode cX3_answerTo 15 = .ok (.iaload, 1) := by decide +kernel
theorem dX3_answerTo_16 : decode cX3_answerTo 16 = .ok (.ifCond .ge 23, 3) := by decide +kernel
theorem dX3_answerTo_19 : decode cX3_answerTo 19 = .ok (.aload_n 0, 1) := by decide +kernel
theorem dX3_answerTo_20 : decode cX3_answerTo 20 = .ok (.getfield 83, 3) := by decide +kernel
theorem dX3_answerTo_23 : decode cX3_answerTo 23 = .ok (.iload_n 1, 1) := by decide +kernel
theorem dX3_answerTo_24 : decode cX3_answerTo 24 = .ok (.caload, 1) := by decide +kernel
theorem dX3_answerTo_25 : decode cX3_answerTo 25 = .ok (.bipush 100, 2) := by decide +kernel
theorem dX3_answerTo_27 : decode cX3_answerTo 27 = .ok (.if_icmp .ne 12, 3) := by decide +kernel
theorem dX3_answerTo_30 : decode cX3_answerTo 30 = .ok (.aload_n 0, 1) := by decide +kernel
theorem dX3_answerTo_31 : decode cX3_answerTo 31 = .ok (.getfield 80, 3) := by decide +kernel
theorem dX3_answerTo_34 : decode cX3_answerTo 34 = .ok (.iload_n 1, 1) := by decide +kernel
theorem dX3_answerTo_35 : decode cX3_answerTo 35 = .ok (.iaload, 1) := by decide +kernel
theorem dX3_answerTo_36 : decode cX3_answerTo 36 = .ok (.goto 8, 3) := by decide +kernel
theorem dX3_answerTo_39 : decode cX3_answerTo 39 = .ok (.aload_n 0, 1) := by decide +kernel
theorem dX3_answerTo_40 : decode cX3_answerTo 40 = .ok (.iconst 2, 1) := by decide +kernel
theorem dX3_answerTo_41 : decode cX3_answerTo 41 = .ok (.invokevirtual 123, 3) := by decide +kernel
theorem dX3_answerTo_44 : decode cX3_answerTo 44 = .ok (.ireturn, 1) := by decide +kernel
theorem dX3_isNobody_0 : decode cX3_isNobody 0 = .ok (.aload_n 0, 1) := by decide +kernel
theorem dX3_isNobody_1 : decode cX3_isNobody 1 = .ok (.aload_n 0, 1) := by decide +kernel
theorem dX3_isNobody_2 : decode cX3_isNobody 2 = .ok (.iload_n 1, 1) := by decide +kernel
theorem dX3_isNobody_3 : decode cX3_isNobody 3 = .ok (.invokevirtual 133, 3) := by decide +kernel
theorem dX3_isNobody_6 : decode cX3_isNobody 6 = .ok (.ifCond .eq 7, 3) := by decide +kernel
theorem dX3_isNobody_9 : decode cX3_isNobody 9 = .ok (.iconst 0, 1) := by decide +kernel
theorem dX3_isNobody_10 : decode cX3_isNobody 10 = .ok (.goto 4, 3) := by decide +kernel
theorem dX3_isNobody_13 : decode cX3_isNobody 13 = .ok (.iconst 1, 1) := by decide +kernel
theorem dX3_isNobody_14 : decode cX3_isNobody 14 = .ok (.putfield 96, 3) := by decide +kernel
theorem dX3_isNobody_17 : decode cX3_isNobody 17 = .ok (.aload_n 0, 1) := by decide +kernel
theorem dX3_isNobody_18 : decode cX3_isNobody 18 = .ok (.getfield 96, 3) := by decide +kernel
theorem dX3_isNobody_21 : decode cX3_isNobody 21 = .ok (.ifCond .le 7, 3) := by decide +kernel
theorem dX3_isNobody_24 : decode cX3_isNobody 24 = .ok (.iconst 1, 1) := by decide +kernel
theorem dX3_isNobody_25 : decode cX3_isNobody 25 = .ok (.goto 4, 3) := by decide +kernel
theorem dX3_isNobody_28 : decode cX3_isNobody 28 = .ok (.iconst 0, 1) := by decide +kernel
theorem dX3_isNobody_29 : decode cX3_isNobody 29 = .ok (.ireturn, 1) := by decide +kernel
theorem dX3_waitingOf_0 : decode cX3_waitingOf 0 = .ok (.aload_n 0, 1) := by decide +kernel
theorem dX3_waitingOf_1 : decode cX3_waitingOf 1 = .ok (.iload_n 1, 1) := by decide +kernel
theorem dX3_waitingOf_2 : decode cX3_waitingOf 2 = .ok (.invokevirtual 152, 3) := by decide +kernel
theorem dX3_waitingOf_5 : decode cX3_waitingOf 5 = .ok (.ifCond .eq 7, 3) := by decide +kernel
theorem dX3_waitingOf_8 : decode cX3_waitingOf 8 = .ok (.iconst 0, 1) := by decide +kernel
theorem dX3_waitingOf_9 : decode cX3_waitingOf 9 = .ok (.goto 8, 3) := by decide +kernel
theorem dX3_waitingOf_12 : decode cX3_waitingOf 12 = .ok (.aload_n 0, 1) := by decide +kernel
theorem dX3_waitingOf_13 : decode cX3_waitingOf 13 = .ok (.iload_n 1, 1) := by decide +kernel
theorem dX3_waitingOf_14 : decode cX3_waitingOf 14 = .ok (.invokevirtual 136, 3) := by decide +kernel
theorem dX3_waitingOf_17 : decode cX3_waitingOf 17 = .ok (.ireturn, 1) := by decide +kernel
theorem dX3_servedOf_0 : decode cX3_servedOf 0 = .ok (.aload_n 0, 1) := by decide +kernel
theorem dX3_servedOf_1 : decode cX3_servedOf 1 = .ok (.iload_n 1, 1) := by decide +kernel
theorem dX3_servedOf_2 : decode cX3_servedOf 2 = .ok (.invokevirtual 152, 3) := by decide +kernel
theorem dX3_servedOf_5 : decode cX3_servedOf 5 = .ok (.ifCond .eq 7, 3) := by decide +kernel
theorem dX3_servedOf_8 : decode cX3_servedOf 8 = .ok (.iconst 0, 1) := by decide +kernel
theorem dX3_servedOf_9 : decode cX3_servedOf 9 = .ok (.goto 9, 3) := by decide +kernel
theorem dX3_servedOf_12 : decode cX3_servedOf 12 = .ok (.aload_n 0, 1) := by decide +kernel
theorem dX3_servedOf_13 : decode cX3_servedOf 13 = .ok (.getfield 59, 3) := by decide +kernel
theorem dX3_servedOf_16 : decode cX3_servedOf 16 = .ok (.iload_n 1, 1) := by decide +kernel
theorem dX3_servedOf_17 : decode cX3_servedOf 17 = .ok (.iaload, 1) := by decide +kernel
theorem dX3_servedOf_18 : decode cX3_servedOf 18 = .ok (.ireturn, 1) := by decide +kernel
theorem dX3_creditsOf_0 : decode cX3_creditsOf 0 = .ok (.aload_n 0, 1) := by decide +kernel
theorem dX3_creditsOf_1 : decode cX3_creditsOf 1 = .ok (.iload_n 1, 1) := by decide +kernel
theorem dX3_creditsOf_2 : decode cX3_creditsOf 2 = .ok (.invokevirtual 152, 3) := by decide +kernel
theorem dX3_creditsOf_5 : decode cX3_creditsOf 5 = .ok (.ifCond .eq 7, 3) := by decide +kernel
theorem dX3_creditsOf_8 : decode cX3_creditsOf 8 = .ok (.iconst 0, 1) := by decide +kernel
theorem dX3_creditsOf_9 : decode cX3_creditsOf 9 = .ok (.goto 9, 3) := by decide +kernel
theorem dX3_creditsOf_12 : decode cX3_creditsOf 12 = .ok (.aload_n 0, 1) := by decide +kernel
theorem dX3_creditsOf_13 : decode cX3_creditsOf 13 = .ok (.getfield 62, 3) := by decide +kernel
theorem dX3_creditsOf_16 : decode cX3_creditsOf 16 = .ok (.iload_n 1, 1) := by decide +kernel
theorem dX3_creditsOf_17 : decode cX3_creditsOf 17 = .ok (.iaload, 1) := by decide +kernel
theorem dX3_creditsOf_18 : decode cX3_creditsOf 18 = .ok (.ireturn, 1) := by decide +kernel
theorem dX3_breachesOf_0 : decode cX3_breachesOf 0 = .ok (.aload_n 0, 1) := by decide +kernel
theorem dX3_breachesOf_1 : decode cX3_breachesOf 1 = .ok (.iload_n 1, 1) := by decide +kernel
theorem dX3_breachesOf_2 : decode cX3_breachesOf 2 = .ok (.invokevirtual 152, 3) := by decide +kernel
theorem dX3_breachesOf_5 : decode cX3_breachesOf 5 = .ok (.ifCond .eq 7, 3) := by decide +kernel
theorem dX3_breachesOf_8 : decode cX3_breachesOf 8 = .ok (.iconst 0, 1) := by decide +kernel
theorem dX3_breachesOf_9 : decode cX3_breachesOf 9 = .ok (.goto 9, 3) := by decide +kernel
theorem dX3_breachesOf_12 : decode cX3_breachesOf 12 = .ok (.aload_n 0, 1) := by decide +kernel
theorem dX3_breachesOf_13 : decode cX3_breachesOf 13 = .ok (.getfield 65, 3) := by decide +kernel
theorem dX3_breachesOf_16 : decode cX3_breachesOf 16 = .ok (.iload_n 1, 1) := by decide +kernel
theorem dX3_breachesOf_17 : decode cX3_breachesOf 17 = .ok (.iaload, 1) := by decide +kernel
theorem dX3_breachesOf_18 : decode cX3_breachesOf 18 = .ok (.ireturn, 1) := by decide +kernel
theorem dX3_putsAnew_0 : decode cX3_putsAnew 0 = .ok (.aload_n 0, 1) := by decide +kernel
theorem dX3_putsAnew_1 : decode cX3_putsAnew 1 = .ok (.invokevirtual 155, 3) := by decide +kernel
theorem dX3_putsAnew_4 : decode cX3_putsAnew 4 = .ok (.aload_n 0, 1) := by decide +kernel
theorem dX3_putsAnew_5 : decode cX3_putsAnew 5 = .ok (.getfield 38, 3) := by decide +kernel
theorem dX3_putsAnew_8 : decode cX3_putsAnew 8 = .ok (.iload_n 1, 1) := by decide +kernel
theorem dX3_putsAnew_9 : decode cX3_putsAnew 9 = .ok (.iaload, 1) := by decide +kernel
theorem dX3_putsAnew_10 : decode cX3_putsAnew 10 = .ok (.ifCond .le 12, 3) := by decide +kernel
theorem dX3_putsAnew_13 : decode cX3_putsAnew 13 = .ok (.aload_n 0, 1) := by decide +kernel
theorem dX3_putsAnew_14 : decode cX3_putsAnew 14 = .ok (.iload_n 1, 1) := by decide +kernel
theorem dX3_putsAnew_15 : decode cX3_putsAnew 15 = .ok (.iconst 0, 1) := by decide +kernel
theorem dX3_putsAnew_16 : decode cX3_putsAnew 16 = .ok (.invokevirtual 158, 3) := by decide +kernel
theorem dX3_putsAnew_19 : decode cX3_putsAnew 19 = .ok (.goto (-15), 3) := by decide +kernel
theorem dX3_putsAnew_22 : decode cX3_putsAnew 22 = .ok (.iconst 0, 1) := by decide +kernel
theorem dX3_putsAnew_23 : decode cX3_putsAnew 23 = .ok (.istore_n 2, 1) := by decide +kernel
theorem dX3_putsAnew_24 : decode cX3_putsAnew 24 = .ok (.iload_n 2, 1) := by decide +kernel
theorem dX3_putsAnew_25 : decode cX3_putsAnew 25 = .ok (.aload_n 0, 1) := by decide +kernel
theorem dX3_putsAnew_26 : decode cX3_putsAnew 26 = .ok (.getfield 53, 3) := by decide +kernel
theorem dX3_putsAnew_29 : decode cX3_putsAnew 29 = .ok (.iload_n 1, 1) := by decide +kernel
theorem dX3_putsAnew_30 : decode cX3_putsAnew 30 = .ok (.bipush 100, 2) := by decide +kernel
theorem dX3_putsAnew_32 : decode cX3_putsAnew 32 = .ok (.idiv, 1) := by decide +kernel
theorem dX3_putsAnew_33 : decode cX3_putsAnew 33 = .ok (.iaload, 1) := by decide +kernel
theorem dX3_putsAnew_34 : decode cX3_putsAnew 34 = .ok (.if_icmp .ge 31, 3) := by decide +kernel
theorem dX3_putsAnew_37 : decode cX3_putsAnew 37 = .ok (.aload_n 0, 1) := by decide +kernel
theorem dX3_putsAnew_38 : decode cX3_putsAnew 38 = .ok (.iload_n 1, 1) := by decide +kernel
theorem dX3_putsAnew_39 : decode cX3_putsAnew 39 = .ok (.invokevirtual 162, 3) := by decide +kernel
theorem dX3_putsAnew_42 : decode cX3_putsAnew 42 = .ok (.istore_n 3, 1) := by decide +kernel
theorem dX3_putsAnew_43 : decode cX3_putsAnew 43 = .ok (.iload_n 3, 1) := by decide +kernel
theorem dX3_putsAnew_44 : decode cX3_putsAnew 44 = .ok (.ifCond .ge 9, 3) := by decide +kernel
theorem dX3_putsAnew_47 : decode cX3_putsAnew 47 = .ok (.aload_n 0, 1) := by decide +kernel
theorem dX3_putsAnew_48 : decode cX3_putsAnew 48 = .ok (.invokevirtual 165, 3) := by decide +kernel
theorem dX3_putsAnew_51 : decode cX3_putsAnew 51 = .ok (.iconst 0, 1) := by decide +kernel
theorem dX3_putsAnew_52 : decode cX3_putsAnew 52 = .ok (.ireturn, 1) := by decide +kernel
theorem dX3_putsAnew_53 : decode cX3_putsAnew 53 = .ok (.aload_n 0, 1) := by decide +kernel
theorem dX3_putsAnew_54 : decode cX3_putsAnew 54 = .ok (.iload_n 1, 1) := by decide +kernel
theorem dX3_putsAnew_55 : decode cX3_putsAnew 55 = .ok (.iload_n 3, 1) := by decide +kernel
theorem dX3_putsAnew_56 : decode cX3_putsAnew 56 = .ok (.invokevirtual 168, 3) := by decide +kernel
theorem dX3_putsAnew_59 : decode cX3_putsAnew 59 = .ok (.iinc 2 1, 3) := by decide +kernel
theorem dX3_putsAnew_62 : decode cX3_putsAnew 62 = .ok (.goto (-38), 3) := by decide +kernel
theorem dX3_putsAnew_65 : decode cX3_putsAnew 65 = .ok (.aload_n 0, 1) := by decide +kernel
theorem dX3_putsAnew_66 : decode cX3_putsAnew 66 = .ok (.getfield 50, 3) := by decide +kernel
theorem dX3_putsAnew_69 : decode cX3_putsAnew 69 = .ok (.iload_n 1, 1) := by decide +kernel
theorem dX3_putsAnew_70 : decode cX3_putsAnew 70 = .ok (.baload, 1) := by decide +kernel
theorem dX3_putsAnew_71 : decode cX3_putsAnew 71 = .ok (.ifCond .ne 23, 3) := by decide +kernel
theorem dX3_putsAnew_74 : decode cX3_putsAnew 74 = .ok (.aload_n 0, 1) := by decide +kernel
theorem dX3_putsAnew_75 : decode cX3_putsAnew 75 = .ok (.getfield 47, 3) := by decide +kernel
theorem dX3_putsAnew_78 : decode cX3_putsAnew 78 = .ok (.aload_n 0, 1) := by decide +kernel
theorem dX3_putsAnew_79 : decode cX3_putsAnew 79 = .ok (.getfield 171, 3) := by decide +kernel
theorem dX3_putsAnew_82 : decode cX3_putsAnew 82 = .ok (.iload_n 1, 1) := by decide +kernel
theorem dX3_putsAnew_83 : decode cX3_putsAnew 83 = .ok (.iastore, 1) := by decide +kernel
theorem dX3_putsAnew_84 : decode cX3_putsAnew 84 = .ok (.aload_n 0, 1) := by decide +kernel
theorem dX3_putsAnew_85 : decode cX3_putsAnew 85 = .ok (.dup, 1) := by decide +kernel
theorem dX3_putsAnew_86 : decode cX3_putsAnew 86 = .ok (.getfield 171, 3) := by decide +kernel
theorem dX3_putsAnew_89 : decode cX3_putsAnew 89 = .ok (.iconst 1, 1) := by decide +kernel
theorem dX3_putsAnew_90 : decode cX3_putsAnew 90 = .ok (.iadd, 1) := by decide +kernel
theorem dX3_putsAnew_91 : decode cX3_putsAnew 91 = .ok (.putfield 171, 3) := by decide +kernel
theorem dX3_putsAnew_94 : decode cX3_putsAnew 94 = .ok (.aload_n 0, 1) := by decide +kernel
theorem dX3_putsAnew_95 : decode cX3_putsAnew 95 = .ok (.getfield 50, 3) := by decide +kernel
theorem dX3_putsAnew_98 : decode cX3_putsAnew 98 = .ok (.iload_n 1, 1) := by decide +kernel
theorem dX3_putsAnew_99 : decode cX3_putsAnew 99 = .ok (.iconst 1, 1) := by decide +kernel
theorem dX3_putsAnew_100 : decode cX3_putsAnew 100 = .ok (.bastore, 1) := by decide +kernel
theorem dX3_putsAnew_101 : decode cX3_putsAnew 101 = .ok (.iconst 1, 1) := by decide +kernel
theorem dX3_putsAnew_102 : decode cX3_putsAnew 102 = .ok (.ireturn, 1) := by decide +kernel
theorem dX3_writes_0 : decode cX3_writes 0 = .ok (.aload_n 0, 1) := by decide +kernel
theorem dX3_writes_1 : decode cX3_writes 1 = .ok (.getfield 50, 3) := by decide +kernel
theorem dX3_writes_4 : decode cX3_writes 4 = .ok (.iload_n 1, 1) := by decide +kernel
theorem dX3_writes_5 : decode cX3_writes 5 = .ok (.baload, 1) := by decide +kernel
theorem dX3_writes_6 : decode cX3_writes 6 = .ok (.ifCond .eq 11, 3) := by decide +kernel
theorem dX3_writes_9 : decode cX3_writes 9 = .ok (.aload_n 0, 1) := by decide +kernel
theorem dX3_writes_10 : decode cX3_writes 10 = .ok (.iload_n 1, 1) := by decide +kernel
theorem dX3_writes_11 : decode cX3_writes 11 = .ok (.invokevirtual 174, 3) := by decide +kernel
theorem dX3_writes_14 : decode cX3_writes 14 = .ok (.ifCond .eq 13, 3) := by decide +kernel
theorem dX3_writes_17 : decode cX3_writes 17 = .ok (.aload_n 0, 1) := by decide +kernel
theorem dX3_writes_18 : decode cX3_writes 18 = .ok (.iload_n 1, 1) := by decide +kernel
theorem dX3_writes_19 : decode cX3_writes 19 = .ok (.invokevirtual 177, 3) := by decide +kernel
theorem dX3_writes_22 : decode cX3_writes 22 = .ok (.ifCond .ne 5, 3) := by decide +kernel
theorem dX3_writes_25 : decode cX3_writes 25 = .ok (.iconst 0, 1) := by decide +kernel
theorem dX3_writes_26 : decode cX3_writes 26 = .ok (.ireturn, 1) := by decide +kernel
theorem dX3_writes_27 : decode cX3_writes 27 = .ok (.iconst 0, 1) := by decide +kernel
theorem dX3_writes_28 : decode cX3_writes 28 = .ok (.istore_n 3, 1) := by decide +kernel
theorem dX3_writes_29 : decode cX3_writes 29 = .ok (.iload_n 3, 1) := by decide +kernel
theorem dX3_writes_30 : decode cX3_writes 30 = .ok (.aload_n 0, 1) := by decide +kernel
theorem dX3_writes_31 : decode cX3_writes 31 = .ok (.getfield 38, 3) := by decide +kernel
theorem dX3_writes_34 : decode cX3_writes 34 = .ok (.iload_n 1, 1) := by decide +kernel
theorem dX3_writes_35 : decode cX3_writes 35 = .ok (.iaload, 1) := by decide +kernel
theorem dX3_writes_36 : decode cX3_writes 36 = .ok (.if_icmp .ge 23, 3) := by decide +kernel
theorem dX3_writes_39 : decode cX3_writes 39 = .ok (.aload_n 0, 1) := by decide +kernel
theorem dX3_writes_40 : decode cX3_writes 40 = .ok (.getfield 23, 3) := by decide +kernel
theorem dX3_writes_43 : decode cX3_writes 43 = .ok (.aload_n 0, 1) := by decide +kernel
theorem dX3_writes_44 : decode cX3_writes 44 = .ok (.getfield 32, 3) := by decide +kernel
theorem dX3_writes_47 : decode cX3_writes 47 = .ok (.iload_n 1, 1) := by decide +kernel
theorem dX3_writes_48 : decode cX3_writes 48 = .ok (.aaload, 1) := by decide +kernel
theorem dX3_writes_49 : decode cX3_writes 49 = .ok (.iload_n 3, 1) := by decide +kernel
theorem dX3_writes_50 : decode cX3_writes 50 = .ok (.iaload, 1) := by decide +kernel
theorem dX3_writes_51 : decode cX3_writes 51 = .ok (.iconst 0, 1) := by decide +kernel
theorem dX3_writes_52 : decode cX3_writes 52 = .ok (.bastore, 1) := by decide +kernel
theorem dX3_writes_53 : decode cX3_writes 53 = .ok (.iinc 3 1, 3) := by decide +kernel
theorem dX3_writes_56 : decode cX3_writes 56 = .ok (.goto (-27), 3) := by decide +kernel
theorem dX3_writes_59 : decode cX3_writes 59 = .ok (.aload_n 0, 1) := by decide +kernel
theorem dX3_writes_60 : decode cX3_writes 60 = .ok (.getfield 44, 3) := by decide +kernel
theorem dX3_writes_63 : decode cX3_writes 63 = .ok (.iload_n 1, 1) := by decide +kernel
theorem dX3_writes_64 : decode cX3_writes 64 = .ok (.iload_n 2, 1) := by decide +kernel
theorem dX3_writes_65 : decode cX3_writes 65 = .ok (.iastore, 1) := by decide +kernel
theorem dX3_writes_66 : decode cX3_writes 66 = .ok (.iconst 1, 1) := by decide +kernel
theorem dX3_writes_67 : decode cX3_writes 67 = .ok (.ireturn, 1) := by decide +kernel
theorem dX3_serves_0 : decode cX3_serves 0 = .ok (.aload_n 0, 1) := by decide +kernel
theorem dX3_serves_1 : decode cX3_serves 1 = .ok (.getfield 74, 3) := by decide +kernel
theorem dX3_serves_4 : decode cX3_serves 4 = .ok (.iload_n 1, 1) := by decide +kernel
theorem dX3_serves_5 : decode cX3_serves 5 = .ok (.iaload, 1) := by decide +kernel
theorem dX3_serves_6 : decode cX3_serves 6 = .ok (.istore_n 2, 1) := by decide +kernel
theorem dX3_serves_7 : decode cX3_serves 7 = .ok (.aload_n 0, 1) := by decide +kernel
theorem dX3_serves_8 : decode cX3_serves 8 = .ok (.getfield 77, 3) := by decide +kernel
theorem dX3_serves_11 : decode cX3_serves 11 = .ok (.iload_n 1, 1) := by decide +kernel
theorem dX3_serves_12 : decode cX3_serves 12 = .ok (.iaload, 1) := by decide +kernel
theorem dX3_serves_13 : decode cX3_serves 13 = .ok (.ifCond .ge 19, 3) := by decide +kernel
theorem dX3_serves_16 : decode cX3_serves 16 = .ok (.aload_n 0, 1) := by decide +kernel
theorem dX3_serves_17 : decode cX3_serves 17 = .ok (.iload_n 2, 1) := by decide +kernel
theorem dX3_serves_18 : decode cX3_serves 18 = .ok (.invokevirtual 120, 3) := by decide +kernel
theorem dX3_serves_21 : decode cX3_serves 21 = .ok (.ifCond .le 7, 3) := by decide +kernel
theorem dX3_serves_24 : decode cX3_serves 24 = .ok (.iconst 1, 1) := by decide +kernel
theorem dX3_serves_25 : decode cX3_serves 25 = .ok (.goto 18, 3) := by decide +kernel
theorem dX3_serves_28 : decode cX3_serves 28 = .ok (.iconst 0, 1) := by decide +kernel
theorem dX3_serves_29 : decode cX3_serves 29 = .ok (.goto 14, 3) := by decide +kernel
theorem dX3_serves_32 : decode cX3_serves 32 = .ok (.aload_n 0, 1) := by decide +kernel
theorem dX3_serves_33 : decode cX3_serves 33 = .ok (.iload_n 2, 1) := by decide +kernel
theorem dX3_serves_34 : decode cX3_serves 34 = .ok (.aload_n 0, 1) := by decide +kernel
theorem dX3_serves_35 : decode cX3_serves 35 = .ok (.getfield 77, 3) := by decide +kernel
theorem dX3_serves_38 : decode cX3_serves 38 = .ok (.iload_n 1, 1) := by decide +kernel
theorem dX3_serves_39 : decode cX3_serves 39 = .ok (.iaload, 1) := by decide +kernel
theorem dX3_serves_40 : decode cX3_serves 40 = .ok (.invokevirtual 180, 3) := by decide +kernel
theorem dX3_serves_43 : decode cX3_serves 43 = .ok (.istore_n 3, 1) := by decide +kernel
theorem dX3_serves_44 : decode cX3_serves 44 = .ok (.aload_n 0, 1) := by decide +kernel
theorem dX3_serves_45 : decode cX3_serves 45 = .ok (.getfield 80, 3) := by decide +kernel
theorem dX3_serves_48 : decode cX3_serves 48 = .ok (.iload_n 1, 1) := by decide +kernel
theorem dX3_serves_49 : decode cX3_serves 49 = .ok (.aload_n 0, 1) := by decide +kernel
theorem dX3_serves_50 : decode cX3_serves 50 = .ok (.getfield 44, 3) := by decide +kernel
theorem dX3_serves_53 : decode cX3_serves 53 = .ok (.iload_n 2, 1) := by decide +kernel
theorem dX3_serves_54 : decode cX3_serves 54 = .ok (.iaload, 1) := by decide +kernel
theorem dX3_serves_55 : decode cX3_serves 55 = .ok (.iastore, 1) := by decide +kernel
theorem dX3_serves_56 : decode cX3_serves 56 = .ok (.aload_n 0, 1) := by decide +kernel
theorem dX3_serves_57 : decode cX3_serves 57 = .ok (.getfield 83, 3) := by decide +kernel
theorem dX3_serves_60 : decode cX3_serves 60 = .ok (.iload_n 1, 1) := by decide +kernel
theorem dX3_serves_61 : decode cX3_serves 61 = .ok (.iload_n 3, 1) := by decide +kernel
theorem dX3_serves_62 : decode cX3_serves 62 = .ok (.ifCond .eq 8, 3) := by decide +kernel
theorem dX3_serves_65 : decode cX3_serves 65 = .ok (.bipush 100, 2) := by decide +kernel
theorem dX3_serves_67 : decode cX3_serves 67 = .ok (.goto 5, 3) := by decide +kernel
theorem dX3_serves_70 : decode cX3_serves 70 = .ok (.bipush 120, 2) := by decide +kernel
theorem dX3_serves_72 : decode cX3_serves 72 = .ok (.castore, 1) := by decide +kernel
theorem dX3_serves_73 : decode cX3_serves 73 = .ok (.aload_n 0, 1) := by decide +kernel
theorem dX3_serves_74 : decode cX3_serves 74 = .ok (.getfield 59, 3) := by decide +kernel
theorem dX3_serves_77 : decode cX3_serves 77 = .ok (.iload_n 2, 1) := by decide +kernel
theorem dX3_serves_78 : decode cX3_serves 78 = .ok (.bipush 100, 2) := by decide +kernel
theorem dX3_serves_80 : decode cX3_serves 80 = .ok (.idiv, 1) := by decide +kernel
theorem dX3_serves_81 : decode cX3_serves 81 = .ok (.dup2, 1) := by decide +kernel
theorem dX3_serves_82 : decode cX3_serves 82 = .ok (.iaload, 1) := by decide +kernel
theorem dX3_serves_83 : decode cX3_serves 83 = .ok (.iconst 1, 1) := by decide +kernel
theorem dX3_serves_84 : decode cX3_serves 84 = .ok (.iadd, 1) := by decide +kernel
theorem dX3_serves_85 : decode cX3_serves 85 = .ok (.iastore, 1) := by decide +kernel
theorem dX3_serves_86 : decode cX3_serves 86 = .ok (.aload_n 0, 1) := by decide +kernel
theorem dX3_serves_87 : decode cX3_serves 87 = .ok (.getfield 71, 3) := by decide +kernel
theorem dX3_serves_90 : decode cX3_serves 90 = .ok (.iload_n 2, 1) := by decide +kernel
theorem dX3_serves_91 : decode cX3_serves 91 = .ok (.bipush 100, 2) := by decide +kernel
theorem dX3_serves_93 : decode cX3_serves 93 = .ok (.idiv, 1) := by decide +kernel
theorem dX3_serves_94 : decode cX3_serves 94 = .ok (.dup2, 1) := by decide +kernel
theorem dX3_serves_95 : decode cX3_serves 95 = .ok (.iaload, 1) := by decide +kernel
theorem dX3_serves_96 : decode cX3_serves 96 = .ok (.iconst 1, 1) := by decide +kernel
theorem dX3_serves_97 : decode cX3_serves 97 = .ok (.iadd, 1) := by decide +kernel
theorem dX3_serves_98 : decode cX3_serves 98 = .ok (.iastore, 1) := by decide +kernel
theorem dX3_serves_99 : decode cX3_serves 99 = .ok (.return_, 1) := by decide +kernel
theorem dX3_oldestOf_0 : decode cX3_oldestOf 0 = .ok (.iconst 0, 1) := by decide +kernel
theorem dX3_oldestOf_1 : decode cX3_oldestOf 1 = .ok (.istore_n 2, 1) := by decide +kernel
theorem dX3_oldestOf_2 : decode cX3_oldestOf 2 = .ok (.iload_n 2, 1) := by decide +kernel
theorem dX3_oldestOf_3 : decode cX3_oldestOf 3 = .ok (.aload_n 0, 1) := by decide +kernel
theorem dX3_oldestOf_4 : decode cX3_oldestOf 4 = .ok (.getfield 109, 3) := by decide +kernel
theorem dX3_oldestOf_7 : decode cX3_oldestOf 7 = .ok (.if_icmp .ge 35, 3) := by decide +kernel
theorem dX3_oldestOf_10 : decode cX3_oldestOf 10 = .ok (.aload_n 0, 1) := by decide +kernel
theorem dX3_oldestOf_11 : decode cX3_oldestOf 11 = .ok (.getfield 83, 3) := by decide +kernel
theorem dX3_oldestOf_14 : decode cX3_oldestOf 14 = .ok (.iload_n 2, 1) := by decide +kernel
theorem dX3_oldestOf_15 : decode cX3_oldestOf 15 = .ok (.caload, 1) := by decide +kernel
theorem dX3_oldestOf_16 : decode cX3_oldestOf 16 = .ok (.bipush 119, 2) := by decide +kernel
theorem dX3_oldestOf_18 : decode cX3_oldestOf 18 = .ok (.if_icmp .ne 18, 3) := by decide +kernel
theorem dX3_oldestOf_21 : decode cX3_oldestOf 21 = .ok (.aload_n 0, 1) := by decide +kernel
theorem dX3_oldestOf_22 : decode cX3_oldestOf 22 = .ok (.getfield 74, 3) := by decide +kernel
theorem dX3_oldestOf_25 : decode cX3_oldestOf 25 = .ok (.iload_n 2, 1) := by decide +kernel
theorem dX3_oldestOf_26 : decode cX3_oldestOf 26 = .ok (.iaload, 1) := by decide +kernel
theorem dX3_oldestOf_27 : decode cX3_oldestOf 27 = .ok (.bipush 100, 2) := by decide +kernel
theorem dX3_oldestOf_29 : decode cX3_oldestOf 29 = .ok (.idiv, 1) := by decide +kernel
theorem dX3_oldestOf_30 : decode cX3_oldestOf 30 = .ok (.iload_n 1, 1) := by decide +kernel
theorem dX3_oldestOf_31 : decode cX3_oldestOf 31 = .ok (.if_icmp .ne 5, 3) := by decide +kernel
theorem dX3_oldestOf_34 : decode cX3_oldestOf 34 = .ok (.iload_n 2, 1) := by decide +kernel
theorem dX3_oldestOf_35 : decode cX3_oldestOf 35 = .ok (.ireturn, 1) := by decide +kernel
theorem dX3_oldestOf_36 : decode cX3_oldestOf 36 = .ok (.iinc 2 1, 3) := by decide +kernel
theorem dX3_oldestOf_39 : decode cX3_oldestOf 39 = .ok (.goto (-37), 3) := by decide +kernel
theorem dX3_oldestOf_42 : decode cX3_oldestOf 42 = .ok (.iconst (-1), 1) := by decide +kernel
theorem dX3_oldestOf_43 : decode cX3_oldestOf 43 = .ok (.ireturn, 1) := by decide +kernel
theorem dX3_servesAll_0 : decode cX3_servesAll 0 = .ok (.iload_n 1, 1) := by decide +kernel
theorem dX3_servesAll_1 : decode cX3_servesAll 1 = .ok (.istore_n 2, 1) := by decide +kernel
theorem dX3_servesAll_2 : decode cX3_servesAll 2 = .ok (.iconst 1, 1) := by decide +kernel
theorem dX3_servesAll_3 : decode cX3_servesAll 3 = .ok (.istore_n 3, 1) := by decide +kernel
theorem dX3_servesAll_4 : decode cX3_servesAll 4 = .ok (.iload_n 3, 1) := by decide +kernel
theorem dX3_servesAll_5 : decode cX3_servesAll 5 = .ok (.ifCond .eq 87, 3) := by decide +kernel
theorem dX3_servesAll_8 : decode cX3_servesAll 8 = .ok (.iconst 0, 1) := by decide +kernel
theorem dX3_servesAll_9 : decode cX3_servesAll 9 = .ok (.istore_n 3, 1) := by decide +kernel
theorem dX3_servesAll_10 : decode cX3_servesAll 10 = .ok (.iconst 0, 1) := by decide +kernel
theorem dX3_servesAll_11 : decode cX3_servesAll 11 = .ok (.istore 4, 2) := by decide +kernel
theorem dX3_servesAll_13 : decode cX3_servesAll 13 = .ok (.iload 4, 2) := by decide +kernel
theorem dX3_servesAll_15 : decode cX3_servesAll 15 = .ok (.aload_n 0, 1) := by decide +kernel
theorem dX3_servesAll_16 : decode cX3_servesAll 16 = .ok (.getfield 106, 3) := by decide +kernel
theorem dX3_servesAll_19 : decode cX3_servesAll 19 = .ok (.if_icmp .ge 70, 3) := by decide +kernel
theorem dX3_servesAll_22 : decode cX3_servesAll 22 = .ok (.aload_n 0, 1) := by decide +kernel
theorem dX3_servesAll_23 : decode cX3_servesAll 23 = .ok (.iload 4, 2) := by decide +kernel
theorem dX3_servesAll_25 : decode cX3_servesAll 25 = .ok (.invokevirtual 183, 3) := by decide +kernel
theorem dX3_servesAll_28 : decode cX3_servesAll 28 = .ok (.istore 5, 2) := by decide +kernel
theorem dX3_servesAll_30 : decode cX3_servesAll 30 = .ok (.iload 5, 2) := by decide +kernel
theorem dX3_servesAll_32 : decode cX3_servesAll 32 = .ok (.ifCond .ge 6, 3) := by decide +kernel
theorem dX3_servesAll_35 : decode cX3_servesAll 35 = .ok (.goto 48, 3) := by decide +kernel
theorem dX3_servesAll_38 : decode cX3_servesAll 38 = .ok (.aload_n 0, 1) := by decide +kernel
theorem dX3_servesAll_39 : decode cX3_servesAll 39 = .ok (.getfield 77, 3) := by decide +kernel
theorem dX3_servesAll_42 : decode cX3_servesAll 42 = .ok (.iload 5, 2) := by decide +kernel
theorem dX3_servesAll_44 : decode cX3_servesAll 44 = .ok (.iaload, 1) := by decide +kernel
theorem dX3_servesAll_45 : decode cX3_servesAll 45 = .ok (.ifCond .ge 7, 3) := by decide +kernel
theorem dX3_servesAll_48 : decode cX3_servesAll 48 = .ok (.iconst 1, 1) := by decide +kernel
theorem dX3_servesAll_49 : decode cX3_servesAll 49 = .ok (.goto 10, 3) := by decide +kernel
theorem dX3_servesAll_52 : decode cX3_servesAll 52 = .ok (.aload_n 0, 1) := by decide +kernel
theorem dX3_servesAll_53 : decode cX3_servesAll 53 = .ok (.getfield 53, 3) := by decide +kernel
theorem dX3_servesAll_56 : decode cX3_servesAll 56 = .ok (.iload 4, 2) := by decide +kernel
theorem dX3_servesAll_58 : decode cX3_servesAll 58 = .ok (.iaload, 1) := by decide +kernel
theorem dX3_servesAll_59 : decode cX3_servesAll 59 = .ok (.istore 6, 2) := by decide +kernel
theorem dX3_servesAll_61 : decode cX3_servesAll 61 = .ok (.iload 6, 2) := by decide +kernel
theorem dX3_servesAll_63 : decode cX3_servesAll 63 = .ok (.iload_n 2, 1) := by decide +kernel
theorem dX3_servesAll_64 : decode cX3_servesAll 64 = .ok (.if_icmp .le 6, 3) := by decide +kernel
theorem dX3_servesAll_67 : decode cX3_servesAll 67 = .ok (.goto 16, 3) := by decide +kernel
theorem dX3_servesAll_70 : decode cX3_servesAll 70 = .ok (.iload_n 2, 1) := by decide +kernel
theorem dX3_servesAll_71 : decode cX3_servesAll 71 = .ok (.iload 6, 2) := by decide +kernel
theorem dX3_servesAll_73 : decode cX3_servesAll 73 = .ok (.isub, 1) := by decide +kernel
theorem dX3_servesAll_74 : decode cX3_servesAll 74 = .ok (.istore_n 2, 1) := by decide +kernel
theorem dX3_servesAll_75 : decode cX3_servesAll 75 = .ok (.aload_n 0, 1) := by decide +kernel
theorem dX3_servesAll_76 : decode cX3_servesAll 76 = .ok (.iload 5, 2) := by decide +kernel
theorem dX3_servesAll_78 : decode cX3_servesAll 78 = .ok (.invokevirtual 186, 3) := by decide +kernel
theorem dX3_servesAll_81 : decode cX3_servesAll 81 = .ok (.iconst 1, 1) := by decide +kernel
theorem dX3_servesAll_82 : decode cX3_servesAll 82 = .ok (.istore_n 3, 1) := by decide +kernel
theorem dX3_servesAll_83 : decode cX3_servesAll 83 = .ok (.iinc 4 1, 3) := by decide +kernel
theorem dX3_servesAll_86 : decode cX3_servesAll 86 = .ok (.goto (-73), 3) := by decide +kernel
theorem dX3_servesAll_89 : decode cX3_servesAll 89 = .ok (.goto (-85), 3) := by decide +kernel
theorem dX3_servesAll_92 : decode cX3_servesAll 92 = .ok (.return_, 1) := by decide +kernel
theorem dX3_rebuilds_0 : decode cX3_rebuilds 0 = .ok (.iconst 0, 1) := by decide +kernel
theorem dX3_rebuilds_1 : decode cX3_rebuilds 1 = .ok (.istore_n 2, 1) := by decide +kernel
theorem dX3_rebuilds_2 : decode cX3_rebuilds 2 = .ok (.iconst 0, 1) := by decide +kernel
theorem dX3_rebuilds_3 : decode cX3_rebuilds 3 = .ok (.istore_n 3, 1) := by decide +kernel
theorem dX3_rebuilds_4 : decode cX3_rebuilds 4 = .ok (.iload_n 3, 1) := by decide +kernel
theorem dX3_rebuilds_5 : decode cX3_rebuilds 5 = .ok (.aload_n 0, 1) := by decide +kernel
theorem dX3_rebuilds_6 : decode cX3_rebuilds 6 = .ok (.getfield 171, 3) := by decide +kernel
theorem dX3_rebuilds_9 : decode cX3_rebuilds 9 = .ok (.if_icmp .ge 67, 3) := by decide +kernel
theorem dX3_rebuilds_12 : decode cX3_rebuilds 12 = .ok (.aload_n 0, 1) := by decide +kernel
theorem dX3_rebuilds_13 : decode cX3_rebuilds 13 = .ok (.getfield 47, 3) := by decide +kernel
theorem dX3_rebuilds_16 : decode cX3_rebuilds 16 = .ok (.iload_n 3, 1) := by decide +kernel
theorem dX3_rebuilds_17 : decode cX3_rebuilds 17 = .ok (.iaload, 1) := by decide +kernel
theorem dX3_rebuilds_18 : decode cX3_rebuilds 18 = .ok (.istore 4, 2) := by decide +kernel
theorem dX3_rebuilds_20 : decode cX3_rebuilds 20 = .ok (.iload_n 2, 1) := by decide +kernel
theorem dX3_rebuilds_21 : decode cX3_rebuilds 21 = .ok (.iload_n 1, 1) := by decide +kernel
theorem dX3_rebuilds_22 : decode cX3_rebuilds 22 = .ok (.if_icmp .ge 48, 3) := by decide +kernel
theorem dX3_rebuilds_25 : decode cX3_rebuilds 25 = .ok (.aload_n 0, 1) := by decide +kernel
theorem dX3_rebuilds_26 : decode cX3_rebuilds 26 = .ok (.iload 4, 2) := by decide +kernel
theorem dX3_rebuilds_28 : decode cX3_rebuilds 28 = .ok (.invokevirtual 190, 3) := by decide +kernel
theorem dX3_rebuilds_31 : decode cX3_rebuilds 31 = .ok (.ifCond .eq 39, 3) := by decide +kernel
theorem dX3_rebuilds_34 : decode cX3_rebuilds 34 = .ok (.aload_n 0, 1) := by decide +kernel
theorem dX3_rebuilds_35 : decode cX3_rebuilds 35 = .ok (.iload 4, 2) := by decide +kernel
theorem dX3_rebuilds_37 : decode cX3_rebuilds 37 = .ok (.invokevirtual 174, 3) := by decide +kernel
theorem dX3_rebuilds_40 : decode cX3_rebuilds 40 = .ok (.ifCond .ne 30, 3) := by decide +kernel
theorem dX3_rebuilds_43 : decode cX3_rebuilds 43 = .ok (.aload_n 0, 1) := by decide +kernel
theorem dX3_rebuilds_44 : decode cX3_rebuilds 44 = .ok (.iload 4, 2) := by decide +kernel
theorem dX3_rebuilds_46 : decode cX3_rebuilds 46 = .ok (.invokevirtual 162, 3) := by decide +kernel
theorem dX3_rebuilds_49 : decode cX3_rebuilds 49 = .ok (.ifCond .lt 21, 3) := by decide +kernel
theorem dX3_rebuilds_52 : decode cX3_rebuilds 52 = .ok (.aload_n 0, 1) := by decide +kernel
theorem dX3_rebuilds_53 : decode cX3_rebuilds 53 = .ok (.iload 4, 2) := by decide +kernel
theorem dX3_rebuilds_55 : decode cX3_rebuilds 55 = .ok (.aload_n 0, 1) := by decide +kernel
theorem dX3_rebuilds_56 : decode cX3_rebuilds 56 = .ok (.iload 4, 2) := by decide +kernel
theorem dX3_rebuilds_58 : decode cX3_rebuilds 58 = .ok (.invokevirtual 162, 3) := by decide +kernel
theorem dX3_rebuilds_61 : decode cX3_rebuilds 61 = .ok (.invokevirtual 168, 3) := by decide +kernel
theorem dX3_rebuilds_64 : decode cX3_rebuilds 64 = .ok (.iinc 2 1, 3) := by decide +kernel
theorem dX3_rebuilds_67 : decode cX3_rebuilds 67 = .ok (.goto (-47), 3) := by decide +kernel
theorem dX3_rebuilds_70 : decode cX3_rebuilds 70 = .ok (.iinc 3 1, 3) := by decide +kernel
theorem dX3_rebuilds_73 : decode cX3_rebuilds 73 = .ok (.goto (-69), 3) := by decide +kernel
theorem dX3_rebuilds_76 : decode cX3_rebuilds 76 = .ok (.iconst 0, 1) := by decide +kernel
theorem dX3_rebuilds_77 : decode cX3_rebuilds 77 = .ok (.istore_n 3, 1) := by decide +kernel
theorem dX3_rebuilds_78 : decode cX3_rebuilds 78 = .ok (.iload_n 3, 1) := by decide +kernel
theorem dX3_rebuilds_79 : decode cX3_rebuilds 79 = .ok (.aload_n 0, 1) := by decide +kernel
theorem dX3_rebuilds_80 : decode cX3_rebuilds 80 = .ok (.getfield 171, 3) := by decide +kernel
theorem dX3_rebuilds_83 : decode cX3_rebuilds 83 = .ok (.if_icmp .ge 38, 3) := by decide +kernel
theorem dX3_rebuilds_86 : decode cX3_rebuilds 86 = .ok (.aload_n 0, 1) := by decide +kernel
theorem dX3_rebuilds_87 : decode cX3_rebuilds 87 = .ok (.aload_n 0, 1) := by decide +kernel
theorem dX3_rebuilds_88 : decode cX3_rebuilds 88 = .ok (.getfield 47, 3) := by decide +kernel
theorem dX3_rebuilds_91 : decode cX3_rebuilds 91 = .ok (.iload_n 3, 1) := by decide +kernel
theorem dX3_rebuilds_92 : decode cX3_rebuilds 92 = .ok (.iaload, 1) := by decide +kernel
theorem dX3_rebuilds_93 : decode cX3_rebuilds 93 = .ok (.invokevirtual 174, 3) := by decide +kernel
theorem dX3_rebuilds_96 : decode cX3_rebuilds 96 = .ok (.ifCond .ne 19, 3) := by decide +kernel
theorem dX3_rebuilds_99 : decode cX3_rebuilds 99 = .ok (.iload_n 2, 1) := by decide +kernel
theorem dX3_rebuilds_100 : decode cX3_rebuilds 100 = .ok (.aload_n 0, 1) := by decide +kernel
theorem dX3_rebuilds_101 : decode cX3_rebuilds 101 = .ok (.aload_n 0, 1) := by decide +kernel
theorem dX3_rebuilds_102 : decode cX3_rebuilds 102 = .ok (.getfield 47, 3) := by decide +kernel
theorem dX3_rebuilds_105 : decode cX3_rebuilds 105 = .ok (.iload_n 3, 1) := by decide +kernel
theorem dX3_rebuilds_106 : decode cX3_rebuilds 106 = .ok (.iaload, 1) := by decide +kernel
theorem dX3_rebuilds_107 : decode cX3_rebuilds 107 = .ok (.iload_n 1, 1) := by decide +kernel
theorem dX3_rebuilds_108 : decode cX3_rebuilds 108 = .ok (.iload_n 2, 1) := by decide +kernel
theorem dX3_rebuilds_109 : decode cX3_rebuilds 109 = .ok (.isub, 1) := by decide +kernel
theorem dX3_rebuilds_110 : decode cX3_rebuilds 110 = .ok (.invokevirtual 193, 3) := by decide +kernel
theorem dX3_rebuilds_113 : decode cX3_rebuilds 113 = .ok (.iadd, 1) := by decide +kernel
theorem dX3_rebuilds_114 : decode cX3_rebuilds 114 = .ok (.istore_n 2, 1) := by decide +kernel
theorem dX3_rebuilds_115 : decode cX3_rebuilds 115 = .ok (.iinc 3 1, 3) := by decide +kernel
theorem dX3_rebuilds_118 : decode cX3_rebuilds 118 = .ok (.goto (-40), 3) := by decide +kernel
theorem dX3_rebuilds_121 : decode cX3_rebuilds 121 = .ok (.iload_n 2, 1) := by decide +kernel
theorem dX3_rebuilds_122 : decode cX3_rebuilds 122 = .ok (.ireturn, 1) := by decide +kernel
theorem dX3_moves_0 : decode cX3_moves 0 = .ok (.iconst 0, 1) := by decide +kernel
theorem dX3_moves_1 : decode cX3_moves 1 = .ok (.istore_n 3, 1) := by decide +kernel
theorem dX3_moves_2 : decode cX3_moves 2 = .ok (.iconst 0, 1) := by decide +kernel
theorem dX3_moves_3 : decode cX3_moves 3 = .ok (.istore 4, 2) := by decide +kernel
theorem dX3_moves_5 : decode cX3_moves 5 = .ok (.aload_n 0, 1) := by decide +kernel
theorem dX3_moves_6 : decode cX3_moves 6 = .ok (.getfield 38, 3) := by decide +kernel
theorem dX3_moves_9 : decode cX3_moves 9 = .ok (.iload_n 1, 1) := by decide +kernel
theorem dX3_moves_10 : decode cX3_moves 10 = .ok (.iaload, 1) := by decide +kernel
theorem dX3_moves_11 : decode cX3_moves 11 = .ok (.istore 5, 2) := by decide +kernel
theorem dX3_moves_13 : decode cX3_moves 13 = .ok (.iload 5, 2) := by decide +kernel
theorem dX3_moves_15 : decode cX3_moves 15 = .ok (.ifCond .le 75, 3) := by decide +kernel
theorem dX3_moves_18 : decode cX3_moves 18 = .ok (.iload_n 3, 1) := by decide +kernel
theorem dX3_moves_19 : decode cX3_moves 19 = .ok (.iload_n 2, 1) := by decide +kernel
theorem dX3_moves_20 : decode cX3_moves 20 = .ok (.if_icmp .ge 70, 3) := by decide +kernel
theorem dX3_moves_23 : decode cX3_moves 23 = .ok (.iinc 5 (-1), 3) := by decide +kernel
theorem dX3_moves_26 : decode cX3_moves 26 = .ok (.aload_n 0, 1) := by decide +kernel
theorem dX3_moves_27 : decode cX3_moves 27 = .ok (.getfield 13, 3) := by decide +kernel
theorem dX3_moves_30 : decode cX3_moves 30 = .ok (.aload_n 0, 1) := by decide +kernel
theorem dX3_moves_31 : decode cX3_moves 31 = .ok (.getfield 32, 3) := by decide +kernel
theorem dX3_moves_34 : decode cX3_moves 34 = .ok (.iload_n 1, 1) := by decide +kernel
theorem dX3_moves_35 : decode cX3_moves 35 = .ok (.aaload, 1) := by decide +kernel
theorem dX3_moves_36 : decode cX3_moves 36 = .ok (.iload 4, 2) := by decide +kernel
theorem dX3_moves_38 : decode cX3_moves 38 = .ok (.iaload, 1) := by decide +kernel
theorem dX3_moves_39 : decode cX3_moves 39 = .ok (.bipush 32, 2) := by decide +kernel
theorem dX3_moves_41 : decode cX3_moves 41 = .ok (.idiv, 1) := by decide +kernel
theorem dX3_moves_42 : decode cX3_moves 42 = .ok (.caload, 1) := by decide +kernel
theorem dX3_moves_43 : decode cX3_moves 43 = .ok (.bipush 119, 2) := by decide +kernel
theorem dX3_moves_45 : decode cX3_moves 45 = .ok (.if_icmp .ne 11, 3) := by decide +kernel
theorem dX3_moves_48 : decode cX3_moves 48 = .ok (.aload_n 0, 1) := by decide +kernel
theorem dX3_moves_49 : decode cX3_moves 49 = .ok (.iload_n 1, 1) := by decide +kernel
theorem dX3_moves_50 : decode cX3_moves 50 = .ok (.invokevirtual 162, 3) := by decide +kernel
theorem dX3_moves_53 : decode cX3_moves 53 = .ok (.goto 4, 3) := by decide +kernel
theorem dX3_moves_56 : decode cX3_moves 56 = .ok (.iconst (-1), 1) := by decide +kernel
theorem dX3_moves_57 : decode cX3_moves 57 = .ok (.istore 6, 2) := by decide +kernel
theorem dX3_moves_59 : decode cX3_moves 59 = .ok (.iload 6, 2) := by decide +kernel
theorem dX3_moves_61 : decode cX3_moves 61 = .ok (.ifCond .ge 9, 3) := by decide +kernel
theorem dX3_moves_64 : decode cX3_moves 64 = .ok (.iinc 4 1, 3) := by decide +kernel
theorem dX3_moves_67 : decode cX3_moves 67 = .ok (.goto (-54), 3) := by decide +kernel
theorem dX3_moves_70 : decode cX3_moves 70 = .ok (.aload_n 0, 1) := by decide +kernel
theorem dX3_moves_71 : decode cX3_moves 71 = .ok (.iload_n 1, 1) := by decide +kernel
theorem dX3_moves_72 : decode cX3_moves 72 = .ok (.iload 4, 2) := by decide +kernel
theorem dX3_moves_74 : decode cX3_moves 74 = .ok (.invokevirtual 158, 3) := by decide +kernel
theorem dX3_moves_77 : decode cX3_moves 77 = .ok (.aload_n 0, 1) := by decide +kernel
theorem dX3_moves_78 : decode cX3_moves 78 = .ok (.iload_n 1, 1) := by decide +kernel
theorem dX3_moves_79 : decode cX3_moves 79 = .ok (.iload 6, 2) := by decide +kernel
theorem dX3_moves_81 : decode cX3_moves 81 = .ok (.invokevirtual 168, 3) := by decide +kernel
theorem dX3_moves_84 : decode cX3_moves 84 = .ok (.iinc 3 1, 3) := by decide +kernel
theorem dX3_moves_87 : decode cX3_moves 87 = .ok (.goto (-74), 3) := by decide +kernel
theorem dX3_moves_90 : decode cX3_moves 90 = .ok (.iload_n 3, 1) := by decide +kernel
theorem dX3_moves_91 : decode cX3_moves 91 = .ok (.ireturn, 1) := by decide +kernel
theorem dX3_ticks_0 : decode cX3_ticks 0 = .ok (.iconst 0, 1) := by decide +kernel
theorem dX3_ticks_1 : decode cX3_ticks 1 = .ok (.istore_n 1, 1) := by decide +kernel
theorem dX3_ticks_2 : decode cX3_ticks 2 = .ok (.iload_n 1, 1) := by decide +kernel
theorem dX3_ticks_3 : decode cX3_ticks 3 = .ok (.aload_n 0, 1) := by decide +kernel
theorem dX3_ticks_4 : decode cX3_ticks 4 = .ok (.getfield 106, 3) := by decide +kernel
theorem dX3_ticks_7 : decode cX3_ticks 7 = .ok (.if_icmp .ge 27, 3) := by decide +kernel
theorem dX3_ticks_10 : decode cX3_ticks 10 = .ok (.aload_n 0, 1) := by decide +kernel
theorem dX3_ticks_11 : decode cX3_ticks 11 = .ok (.getfield 68, 3) := by decide +kernel
theorem dX3_ticks_14 : decode cX3_ticks 14 = .ok (.iload_n 1, 1) := by decide +kernel
theorem dX3_ticks_15 : decode cX3_ticks 15 = .ok (.aload_n 0, 1) := by decide +kernel
theorem dX3_ticks_16 : decode cX3_ticks 16 = .ok (.iload_n 1, 1) := by decide +kernel
theorem dX3_ticks_17 : decode cX3_ticks 17 = .ok (.invokevirtual 136, 3) := by decide +kernel
theorem dX3_ticks_20 : decode cX3_ticks 20 = .ok (.iastore, 1) := by decide +kernel
theorem dX3_ticks_21 : decode cX3_ticks 21 = .ok (.aload_n 0, 1) := by decide +kernel
theorem dX3_ticks_22 : decode cX3_ticks 22 = .ok (.getfield 71, 3) := by decide +kernel
theorem dX3_ticks_25 : decode cX3_ticks 25 = .ok (.iload_n 1, 1) := by decide +kernel
theorem dX3_ticks_26 : decode cX3_ticks 26 = .ok (.iconst 0, 1) := by decide +kernel
theorem dX3_ticks_27 : decode cX3_ticks 27 = .ok (.iastore, 1) := by decide +kernel
theorem dX3_ticks_28 : decode cX3_ticks 28 = .ok (.iinc 1 1, 3) := by decide +kernel
theorem dX3_ticks_31 : decode cX3_ticks 31 = .ok (.goto (-29), 3) := by decide +kernel
theorem dX3_ticks_34 : decode cX3_ticks 34 = .ok (.aload_n 0, 1) := by decide +kernel
theorem dX3_ticks_35 : decode cX3_ticks 35 = .ok (.aload_n 0, 1) := by decide +kernel
theorem dX3_ticks_36 : decode cX3_ticks 36 = .ok (.getfield 86, 3) := by decide +kernel
theorem dX3_ticks_39 : decode cX3_ticks 39 = .ok (.iconst 2, 1) := by decide +kernel
theorem dX3_ticks_40 : decode cX3_ticks 40 = .ok (.idiv, 1) := by decide +kernel
theorem dX3_ticks_41 : decode cX3_ticks 41 = .ok (.invokevirtual 197, 3) := by decide +kernel
theorem dX3_ticks_44 : decode cX3_ticks 44 = .ok (.istore_n 1, 1) := by decide +kernel
theorem dX3_ticks_45 : decode cX3_ticks 45 = .ok (.aload_n 0, 1) := by decide +kernel
theorem dX3_ticks_46 : decode cX3_ticks 46 = .ok (.dup, 1) := by decide +kernel
theorem dX3_ticks_47 : decode cX3_ticks 47 = .ok (.getfield 200, 3) := by decide +kernel
theorem dX3_ticks_50 : decode cX3_ticks 50 = .ok (.iload_n 1, 1) := by decide +kernel
theorem dX3_ticks_51 : decode cX3_ticks 51 = .ok (.iadd, 1) := by decide +kernel
theorem dX3_ticks_52 : decode cX3_ticks 52 = .ok (.putfield 200, 3) := by decide +kernel
theorem dX3_ticks_55 : decode cX3_ticks 55 = .ok (.aload_n 0, 1) := by decide +kernel
theorem dX3_ticks_56 : decode cX3_ticks 56 = .ok (.bipush 20, 2) := by decide +kernel
theorem dX3_ticks_58 : decode cX3_ticks 58 = .ok (.iconst 2, 1) := by decide +kernel
theorem dX3_ticks_59 : decode cX3_ticks 59 = .ok (.iload_n 1, 1) := by decide +kernel
theorem dX3_ticks_60 : decode cX3_ticks 60 = .ok (.imul, 1) := by decide +kernel
theorem dX3_ticks_61 : decode cX3_ticks 61 = .ok (.isub, 1) := by decide +kernel
theorem dX3_ticks_62 : decode cX3_ticks 62 = .ok (.invokevirtual 203, 3) := by decide +kernel
theorem dX3_ticks_65 : decode cX3_ticks 65 = .ok (.iconst 0, 1) := by decide +kernel
theorem dX3_ticks_66 : decode cX3_ticks 66 = .ok (.istore_n 2, 1) := by decide +kernel
theorem dX3_ticks_67 : decode cX3_ticks 67 = .ok (.iload_n 2, 1) := by decide +kernel
theorem dX3_ticks_68 : decode cX3_ticks 68 = .ok (.aload_n 0, 1) := by decide +kernel
theorem dX3_ticks_69 : decode cX3_ticks 69 = .ok (.getfield 106, 3) := by decide +kernel
theorem dX3_ticks_72 : decode cX3_ticks 72 = .ok (.if_icmp .ge 64, 3) := by decide +kernel
theorem dX3_ticks_75 : decode cX3_ticks 75 = .ok (.iconst 0, 1) := by decide +kernel
theorem dX3_ticks_76 : decode cX3_ticks 76 = .ok (.aload_n 0, 1) := by decide +kernel
theorem dX3_ticks_77 : decode cX3_ticks 77 = .ok (.getfield 56, 3) := by decide +kernel
theorem dX3_ticks_80 : decode cX3_ticks 80 = .ok (.iload_n 2, 1) := by decide +kernel
theorem dX3_ticks_81 : decode cX3_ticks 81 = .ok (.iaload, 1) := by decide +kernel
theorem dX3_ticks_82 : decode cX3_ticks 82 = .ok (.aload_n 0, 1) := by decide +kernel
theorem dX3_ticks_83 : decode cX3_ticks 83 = .ok (.getfield 68, 3) := by decide +kernel
theorem dX3_ticks_86 : decode cX3_ticks 86 = .ok (.iload_n 2, 1) := by decide +kernel
theorem dX3_ticks_87 : decode cX3_ticks 87 = .ok (.iaload, 1) := by decide +kernel
theorem dX3_ticks_88 : decode cX3_ticks 88 = .ok (.invokestatic 206, 3) := by decide +kernel
theorem dX3_ticks_91 : decode cX3_ticks 91 = .ok (.aload_n 0, 1) := by decide +kernel
theorem dX3_ticks_92 : decode cX3_ticks 92 = .ok (.getfield 71, 3) := by decide +kernel
theorem dX3_ticks_95 : decode cX3_ticks 95 = .ok (.iload_n 2, 1) := by decide +kernel
theorem dX3_ticks_96 : decode cX3_ticks 96 = .ok (.iaload, 1) := by decide +kernel
theorem dX3_ticks_97 : decode cX3_ticks 97 = .ok (.isub, 1) := by decide +kernel
theorem dX3_ticks_98 : decode cX3_ticks 98 = .ok (.invokestatic 211, 3) := by decide +kernel
theorem dX3_ticks_101 : decode cX3_ticks 101 = .ok (.istore_n 3, 1) := by decide +kernel
theorem dX3_ticks_102 : decode cX3_ticks 102 = .ok (.aload_n 0, 1) := by decide +kernel
theorem dX3_ticks_103 : decode cX3_ticks 103 = .ok (.getfield 62, 3) := by decide +kernel
theorem dX3_ticks_106 : decode cX3_ticks 106 = .ok (.iload_n 2, 1) := by decide +kernel
theorem dX3_ticks_107 : decode cX3_ticks 107 = .ok (.dup2, 1) := by decide +kernel
theorem dX3_ticks_108 : decode cX3_ticks 108 = .ok (.iaload, 1) := by decide +kernel
theorem dX3_ticks_109 : decode cX3_ticks 109 = .ok (.iload_n 3, 1) := by decide +kernel
theorem dX3_ticks_110 : decode cX3_ticks 110 = .ok (.iadd, 1) := by decide +kernel
theorem dX3_ticks_111 : decode cX3_ticks 111 = .ok (.iastore, 1) := by decide +kernel
theorem dX3_ticks_112 : decode cX3_ticks 112 = .ok (.aload_n 0, 1) := by decide +kernel
theorem dX3_ticks_113 : decode cX3_ticks 113 = .ok (.getfield 65, 3) := by decide +kernel
theorem dX3_ticks_116 : decode cX3_ticks 116 = .ok (.iload_n 2, 1) := by decide +kernel
theorem dX3_ticks_117 : decode cX3_ticks 117 = .ok (.dup2, 1) := by decide +kernel
theorem dX3_ticks_118 : decode cX3_ticks 118 = .ok (.iaload, 1) := by decide +kernel
theorem dX3_ticks_119 : decode cX3_ticks 119 = .ok (.iload_n 3, 1) := by decide +kernel
theorem dX3_ticks_120 : decode cX3_ticks 120 = .ok (.ifCond .le 7, 3) := by decide +kernel
theorem dX3_ticks_123 : decode cX3_ticks 123 = .ok (.iconst 1, 1) := by decide +kernel
theorem dX3_ticks_124 : decode cX3_ticks 124 = .ok (.goto 4, 3) := by decide +kernel
theorem dX3_ticks_127 : decode cX3_ticks 127 = .ok (.iconst 0, 1) := by decide +kernel
theorem dX3_ticks_128 : decode cX3_ticks 128 = .ok (.iadd, 1) := by decide +kernel
theorem dX3_ticks_129 : decode cX3_ticks 129 = .ok (.iastore, 1) := by decide +kernel
theorem dX3_ticks_130 : decode cX3_ticks 130 = .ok (.iinc 2 1, 3) := by decide +kernel
theorem dX3_ticks_133 : decode cX3_ticks 133 = .ok (.goto (-66), 3) := by decide +kernel
theorem dX3_ticks_136 : decode cX3_ticks 136 = .ok (.aload_n 0, 1) := by decide +kernel
theorem dX3_ticks_137 : decode cX3_ticks 137 = .ok (.dup, 1) := by decide +kernel
theorem dX3_ticks_138 : decode cX3_ticks 138 = .ok (.getfield 214, 3) := by decide +kernel
theorem dX3_ticks_141 : decode cX3_ticks 141 = .ok (.iconst 1, 1) := by decide +kernel
theorem dX3_ticks_142 : decode cX3_ticks 142 = .ok (.iadd, 1) := by decide +kernel
theorem dX3_ticks_143 : decode cX3_ticks 143 = .ok (.putfield 214, 3) := by decide +kernel
theorem dX3_ticks_146 : decode cX3_ticks 146 = .ok (.return_, 1) := by decide +kernel
theorem dX3_pass_0 : decode cX3_pass 0 = .ok (.aload_n 0, 1) := by decide +kernel
theorem dX3_pass_1 : decode cX3_pass 1 = .ok (.iconst 0, 1) := by decide +kernel
theorem dX3_pass_2 : decode cX3_pass 2 = .ok (.putfield 96, 3) := by decide +kernel
theorem dX3_pass_5 : decode cX3_pass 5 = .ok (.iload_n 1, 1) := by decide +kernel
theorem dX3_pass_6 : decode cX3_pass 6 = .ok (.iconst 1, 1) := by decide +kernel
theorem dX3_pass_7 : decode cX3_pass 7 = .ok (.bipush 50, 2) := by decide +kernel
theorem dX3_pass_9 : decode cX3_pass 9 = .ok (.invokestatic 102, 3) := by decide +kernel
theorem dX3_pass_12 : decode cX3_pass 12 = .ok (.ifCond .ne 9, 3) := by decide +kernel
theorem dX3_pass_15 : decode cX3_pass 15 = .ok (.aload_n 0, 1) := by decide +kernel
theorem dX3_pass_16 : decode cX3_pass 16 = .ok (.iconst 1, 1) := by decide +kernel
theorem dX3_pass_17 : decode cX3_pass 17 = .ok (.invokevirtual 123, 3) := by decide +kernel
theorem dX3_pass_20 : decode cX3_pass 20 = .ok (.ireturn, 1) := by decide +kernel
theorem dX3_pass_21 : decode cX3_pass 21 = .ok (.aload_n 0, 1) := by decide +kernel
theorem dX3_pass_22 : decode cX3_pass 22 = .ok (.getfield 214, 3) := by decide +kernel
theorem dX3_pass_25 : decode cX3_pass 25 = .ok (.iload_n 1, 1) := by decide +kernel
theorem dX3_pass_26 : decode cX3_pass 26 = .ok (.iadd, 1) := by decide +kernel
theorem dX3_pass_27 : decode cX3_pass 27 = .ok (.sipush 9999, 3) := by decide +kernel
theorem dX3_pass_30 : decode cX3_pass 30 = .ok (.if_icmp .le 9, 3) := by decide +kernel
theorem dX3_pass_33 : decode cX3_pass 33 = .ok (.aload_n 0, 1) := by decide +kernel
theorem dX3_pass_34 : decode cX3_pass 34 = .ok (.iconst 2, 1) := by decide +kernel
theorem dX3_pass_35 : decode cX3_pass 35 = .ok (.invokevirtual 123, 3) := by decide +kernel
theorem dX3_pass_38 : decode cX3_pass 38 = .ok (.ireturn, 1) := by decide +kernel
theorem dX3_pass_39 : decode cX3_pass 39 = .ok (.iconst 0, 1) := by decide +kernel
theorem dX3_pass_40 : decode cX3_pass 40 = .ok (.istore_n 2, 1) := by decide +kernel
theorem dX3_pass_41 : decode cX3_pass 41 = .ok (.iload_n 2, 1) := by decide +kernel
theorem dX3_pass_42 : decode cX3_pass 42 = .ok (.iload_n 1, 1) := by decide +kernel
theorem dX3_pass_43 : decode cX3_pass 43 = .ok (.if_icmp .ge 13, 3) := by decide +kernel
theorem dX3_pass_46 : decode cX3_pass 46 = .ok (.aload_n 0, 1) := by decide +kernel
theorem dX3_pass_47 : decode cX3_pass 47 = .ok (.invokevirtual 217, 3) := by decide +kernel
theorem dX3_pass_50 : decode cX3_pass 50 = .ok (.iinc 2 1, 3) := by decide +kernel
theorem dX3_pass_53 : decode cX3_pass 53 = .ok (.goto (-12), 3) := by decide +kernel
theorem dX3_pass_56 : decode cX3_pass 56 = .ok (.aload_n 0, 1) := by decide +kernel
theorem dX3_pass_57 : decode cX3_pass 57 = .ok (.getfield 214, 3) := by decide +kernel
theorem dX3_pass_60 : decode cX3_pass 60 = .ok (.ireturn, 1) := by decide +kernel
theorem dX3_clock_0 : decode cX3_clock 0 = .ok (.aload_n 0, 1) := by decide +kernel
theorem dX3_clock_1 : decode cX3_clock 1 = .ok (.iconst 0, 1) := by decide +kernel
theorem dX3_clock_2 : decode cX3_clock 2 = .ok (.putfield 96, 3) := by decide +kernel
theorem dX3_clock_5 : decode cX3_clock 5 = .ok (.aload_n 0, 1) := by decide +kernel
theorem dX3_clock_6 : decode cX3_clock 6 = .ok (.getfield 214, 3) := by decide +kernel
theorem dX3_clock_9 : decode cX3_clock 9 = .ok (.ireturn, 1) := by decide +kernel
theorem dX3_blocksOf_0 : decode cX3_blocksOf 0 = .ok (.aload_n 0, 1) := by decide +kernel
theorem dX3_blocksOf_1 : decode cX3_blocksOf 1 = .ok (.iload_n 1, 1) := by decide +kernel
theorem dX3_blocksOf_2 : decode cX3_blocksOf 2 = .ok (.invokevirtual 152, 3) := by decide +kernel
theorem dX3_blocksOf_5 : decode cX3_blocksOf 5 = .ok (.ifCond .eq 5, 3) := by decide +kernel
theorem dX3_blocksOf_8 : decode cX3_blocksOf 8 = .ok (.iconst 0, 1) := by decide +kernel
theorem dX3_blocksOf_9 : decode cX3_blocksOf 9 = .ok (.ireturn, 1) := by decide +kernel
theorem dX3_blocksOf_10 : decode cX3_blocksOf 10 = .ok (.iconst 0, 1) := by decide +kernel
theorem dX3_blocksOf_11 : decode cX3_blocksOf 11 = .ok (.istore_n 2, 1) := by decide +kernel
theorem dX3_blocksOf_12 : decode cX3_blocksOf 12 = .ok (.iconst 0, 1) := by decide +kernel
theorem dX3_blocksOf_13 : decode cX3_blocksOf 13 = .ok (.istore_n 3, 1) := by decide +kernel
theorem dX3_blocksOf_14 : decode cX3_blocksOf 14 = .ok (.iload_n 3, 1) := by decide +kernel
theorem dX3_blocksOf_15 : decode cX3_blocksOf 15 = .ok (.aload_n 0, 1) := by decide +kernel
theorem dX3_blocksOf_16 : decode cX3_blocksOf 16 = .ok (.getfield 171, 3) := by decide +kernel
theorem dX3_blocksOf_19 : decode cX3_blocksOf 19 = .ok (.if_icmp .ge 30, 3) := by decide +kernel
theorem dX3_blocksOf_22 : decode cX3_blocksOf 22 = .ok (.iload_n 2, 1) := by decide +kernel
theorem dX3_blocksOf_23 : decode cX3_blocksOf 23 = .ok (.aload_n 0, 1) := by decide +kernel
theorem dX3_blocksOf_24 : decode cX3_blocksOf 24 = .ok (.getfield 47, 3) := by decide +kernel
theorem dX3_blocksOf_27 : decode cX3_blocksOf 27 = .ok (.iload_n 3, 1) := by decide +kernel
theorem dX3_blocksOf_28 : decode cX3_blocksOf 28 = .ok (.iaload, 1) := by decide +kernel
theorem dX3_blocksOf_29 : decode cX3_blocksOf 29 = .ok (.bipush 100, 2) := by decide +kernel
theorem dX3_blocksOf_31 : decode cX3_blocksOf 31 = .ok (.idiv, 1) := by decide +kernel
theorem dX3_blocksOf_32 : decode cX3_blocksOf 32 = .ok (.iload_n 1, 1) := by decide +kernel
theorem dX3_blocksOf_33 : decode cX3_blocksOf 33 = .ok (.if_icmp .ne 7, 3) := by decide +kernel
theorem dX3_blocksOf_36 : decode cX3_blocksOf 36 = .ok (.iconst 1, 1) := by decide +kernel
theorem dX3_blocksOf_37 : decode cX3_blocksOf 37 = .ok (.goto 4, 3) := by decide +kernel
theorem dX3_blocksOf_40 : decode cX3_blocksOf 40 = .ok (.iconst 0, 1) := by decide +kernel
theorem dX3_blocksOf_41 : decode cX3_blocksOf 41 = .ok (.iadd, 1) := by decide +kernel
theorem dX3_blocksOf_42 : decode cX3_blocksOf 42 = .ok (.istore_n 2, 1) := by decide +kernel
theorem dX3_blocksOf_43 : decode cX3_blocksOf 43 = .ok (.iinc 3 1, 3) := by decide +kernel
theorem dX3_blocksOf_46 : decode cX3_blocksOf 46 = .ok (.goto (-32), 3) := by decide +kernel
theorem dX3_blocksOf_49 : decode cX3_blocksOf 49 = .ok (.iload_n 2, 1) := by decide +kernel
theorem dX3_blocksOf_50 : decode cX3_blocksOf 50 = .ok (.ireturn, 1) := by decide +kernel
theorem dX3_copiesOf_0 : decode cX3_copiesOf 0 = .ok (.aload_n 0, 1) := by decide +kernel
theorem dX3_copiesOf_1 : decode cX3_copiesOf 1 = .ok (.iload_n 1, 1) := by decide +kernel
theorem dX3_copiesOf_2 : decode cX3_copiesOf 2 = .ok (.iload_n 2, 1) := by decide +kernel
theorem dX3_copiesOf_3 : decode cX3_copiesOf 3 = .ok (.invokevirtual 139, 3) := by decide +kernel
theorem dX3_copiesOf_6 : decode cX3_copiesOf 6 = .ok (.ifCond .eq 7, 3) := by decide +kernel
theorem dX3_copiesOf_9 : decode cX3_copiesOf 9 = .ok (.iconst 0, 1) := by decide +kernel
theorem dX3_copiesOf_10 : decode cX3_copiesOf 10 = .ok (.goto 14, 3) := by decide +kernel
theorem dX3_copiesOf_13 : decode cX3_copiesOf 13 = .ok (.aload_n 0, 1) := by decide +kernel
theorem dX3_copiesOf_14 : decode cX3_copiesOf 14 = .ok (.getfield 38, 3) := by decide +kernel
theorem dX3_copiesOf_17 : decode cX3_copiesOf 17 = .ok (.bipush 100, 2) := by decide +kernel
theorem dX3_copiesOf_19 : decode cX3_copiesOf 19 = .ok (.iload_n 1, 1) := by decide +kernel
theorem dX3_copiesOf_20 : decode cX3_copiesOf 20 = .ok (.imul, 1) := by decide +kernel
theorem dX3_copiesOf_21 : decode cX3_copiesOf 21 = .ok (.iload_n 2, 1) := by decide +kernel
theorem dX3_copiesOf_22 : decode cX3_copiesOf 22 = .ok (.iadd, 1) := by decide +kernel
theorem dX3_copiesOf_23 : decode cX3_copiesOf 23 = .ok (.iaload, 1) := by decide +kernel
theorem dX3_copiesOf_24 : decode cX3_copiesOf 24 = .ok (.ireturn, 1) := by decide +kernel
theorem dX3_copiesByDisks_0 : decode cX3_copiesByDisks 0 = .ok (.aload_n 0, 1) := by decide +kernel
theorem dX3_copiesByDisks_1 : decode cX3_copiesByDisks 1 = .ok (.iload_n 1, 1) := by decide +kernel
theorem dX3_copiesByDisks_2 : decode cX3_copiesByDisks 2 = .ok (.iload_n 2, 1) := by decide +kernel
theorem dX3_copiesByDisks_3 : decode cX3_copiesByDisks 3 = .ok (.invokevirtual 139, 3) := by decide +kernel
theorem dX3_copiesByDisks_6 : decode cX3_copiesByDisks 6 = .ok (.ifCond .eq 5, 3) := by decide +kernel
theorem dX3_copiesByDisks_9 : decode cX3_copiesByDisks 9 = .ok (.iconst 0, 1) := by decide +kernel
theorem dX3_copiesByDisks_10 : decode cX3_copiesByDisks 10 = .ok (.ireturn, 1) := by decide +kernel
theorem dX3_copiesByDisks_11 : decode cX3_copiesByDisks 11 = .ok (.iconst 0, 1) := by decide +kernel
theorem dX3_copiesByDisks_12 : decode cX3_copiesByDisks 12 = .ok (.istore_n 3, 1) := by decide +kernel
theorem dX3_copiesByDisks_13 : decode cX3_copiesByDisks 13 = .ok (.iconst 0, 1) := by decide +kernel
theorem dX3_copiesByDisks_14 : decode cX3_copiesByDisks 14 = .ok (.istore 4, 2) := by decide +kernel
theorem dX3_copiesByDisks_16 : decode cX3_copiesByDisks 16 = .ok (.iload 4, 2) := by decide +kernel
theorem dX3_copiesByDisks_18 : decode cX3_copiesByDisks 18 = .ok (.bipush 32, 2) := by decide +kernel
theorem dX3_copiesByDisks_20 : decode cX3_copiesByDisks 20 = .ok (.aload_n 0, 1) := by decide +kernel
theorem dX3_copiesByDisks_21 : decode cX3_copiesByDisks 21 = .ok (.getfield 99, 3) := by decide +kernel
theorem dX3_copiesByDisks_24 : decode cX3_copiesByDisks 24 = .ok (.imul, 1) := by decide +kernel
theorem dX3_copiesByDisks_25 : decode cX3_copiesByDisks 25 = .ok (.if_icmp .ge 33, 3) := by decide +kernel
theorem dX3_copiesByDisks_28 : decode cX3_copiesByDisks 28 = .ok (.iload_n 3, 1) := by decide +kernel
theorem dX3_copiesByDisks_29 : decode cX3_copiesByDisks 29 = .ok (.aload_n 0, 1) := by decide +kernel
theorem dX3_copiesByDisks_30 : decode cX3_copiesByDisks 30 = .ok (.getfield 17, 3) := by decide +kernel
theorem dX3_copiesByDisks_33 : decode cX3_copiesByDisks 33 = .ok (.iload 4, 2) := by decide +kernel
theorem dX3_copiesByDisks_35 : decode cX3_copiesByDisks 35 = .ok (.iaload, 1) := by decide +kernel
theorem dX3_copiesByDisks_36 : decode cX3_copiesByDisks 36 = .ok (.bipush 100, 2) := by decide +kernel
theorem dX3_copiesByDisks_38 : decode cX3_copiesByDisks 38 = .ok (.iload_n 1, 1) := by decide +kernel
theorem dX3_copiesByDisks_39 : decode cX3_copiesByDisks 39 = .ok (.imul, 1) := by decide +kernel
theorem dX3_copiesByDisks_40 : decode cX3_copiesByDisks 40 = .ok (.iload_n 2, 1) := by decide +kernel
theorem dX3_copiesByDisks_41 : decode cX3_copiesByDisks 41 = .ok (.iadd, 1) := by decide +kernel
theorem dX3_copiesByDisks_42 : decode cX3_copiesByDisks 42 = .ok (.if_icmp .ne 7, 3) := by decide +kernel
theorem dX3_copiesByDisks_45 : decode cX3_copiesByDisks 45 = .ok (.iconst 1, 1) := by decide +kernel
theorem dX3_copiesByDisks_46 : decode cX3_copiesByDisks 46 = .ok (.goto 4, 3) := by decide +kernel
theorem dX3_copiesByDisks_49 : decode cX3_copiesByDisks 49 = .ok (.iconst 0, 1) := by decide +kernel
theorem dX3_copiesByDisks_50 : decode cX3_copiesByDisks 50 = .ok (.iadd, 1) := by decide +kernel
theorem dX3_copiesByDisks_51 : decode cX3_copiesByDisks 51 = .ok (.istore_n 3, 1) := by decide +kernel
theorem dX3_copiesByDisks_52 : decode cX3_copiesByDisks 52 = .ok (.iinc 4 1, 3) := by decide +kernel
theorem dX3_copiesByDisks_55 : decode cX3_copiesByDisks 55 = .ok (.goto (-39), 3) := by decide +kernel
theorem dX3_copiesByDisks_58 : decode cX3_copiesByDisks 58 = .ok (.iload_n 3, 1) := by decide +kernel
theorem dX3_copiesByDisks_59 : decode cX3_copiesByDisks 59 = .ok (.ireturn, 1) := by decide +kernel
theorem dX3_diskOfCopy_0 : decode cX3_diskOfCopy 0 = .ok (.aload_n 0, 1) := by decide +kernel
theorem dX3_diskOfCopy_1 : decode cX3_diskOfCopy 1 = .ok (.iload_n 1, 1) := by decide +kernel
theorem dX3_diskOfCopy_2 : decode cX3_diskOfCopy 2 = .ok (.iload_n 2, 1) := by decide +kernel
theorem dX3_diskOfCopy_3 : decode cX3_diskOfCopy 3 = .ok (.invokevirtual 139, 3) := by decide +kernel
theorem dX3_diskOfCopy_6 : decode cX3_diskOfCopy 6 = .ok (.ifCond .eq 5, 3) := by decide +kernel
theorem dX3_diskOfCopy_9 : decode cX3_diskOfCopy 9 = .ok (.iconst 0, 1) := by decide +kernel
theorem dX3_diskOfCopy_10 : decode cX3_diskOfCopy 10 = .ok (.ireturn, 1) := by decide +kernel
theorem dX3_diskOfCopy_11 : decode cX3_diskOfCopy 11 = .ok (.iload_n 3, 1) := by decide +kernel
theorem dX3_diskOfCopy_12 : decode cX3_diskOfCopy 12 = .ok (.iconst 0, 1) := by decide +kernel
theorem dX3_diskOfCopy_13 : decode cX3_diskOfCopy 13 = .ok (.aload_n 0, 1) := by decide +kernel
theorem dX3_diskOfCopy_14 : decode cX3_diskOfCopy 14 = .ok (.getfield 38, 3) := by decide +kernel
theorem dX3_diskOfCopy_17 : decode cX3_diskOfCopy 17 = .ok (.bipush 100, 2) := by decide +kernel
theorem dX3_diskOfCopy_19 : decode cX3_diskOfCopy 19 = .ok (.iload_n 1, 1) := by decide +kernel
theorem dX3_diskOfCopy_20 : decode cX3_diskOfCopy 20 = .ok (.imul, 1) := by decide +kernel
theorem dX3_diskOfCopy_21 : decode cX3_diskOfCopy 21 = .ok (.iload_n 2, 1) := by decide +kernel
theorem dX3_diskOfCopy_22 : decode cX3_diskOfCopy 22 = .ok (.iadd, 1) := by decide +kernel
theorem dX3_diskOfCopy_23 : decode cX3_diskOfCopy 23 = .ok (.iaload, 1) := by decide +kernel
theorem dX3_diskOfCopy_24 : decode cX3_diskOfCopy 24 = .ok (.iconst 1, 1) := by decide +kernel
theorem dX3_diskOfCopy_25 : decode cX3_diskOfCopy 25 = .ok (.isub, 1) := by decide +kernel
theorem dX3_diskOfCopy_26 : decode cX3_diskOfCopy 26 = .ok (.invokestatic 102, 3) := by decide +kernel
theorem dX3_diskOfCopy_29 : decode cX3_diskOfCopy 29 = .ok (.ifCond .eq 22, 3) := by decide +kernel
theorem dX3_diskOfCopy_32 : decode cX3_diskOfCopy 32 = .ok (.aload_n 0, 1) := by decide +kernel
theorem dX3_diskOfCopy_33 : decode cX3_diskOfCopy 33 = .ok (.getfield 32, 3) := by decide +kernel
theorem dX3_diskOfCopy_36 : decode cX3_diskOfCopy 36 = .ok (.bipush 100, 2) := by decide +kernel
theorem dX3_diskOfCopy_38 : decode cX3_diskOfCopy 38 = .ok (.iload_n 1, 1) := by decide +kernel
theorem dX3_diskOfCopy_39 : decode cX3_diskOfCopy 39 = .ok (.imul, 1) := by decide +kernel
theorem dX3_diskOfCopy_40 : decode cX3_diskOfCopy 40 = .ok (.iload_n 2, 1) := by decide +kernel
theorem dX3_diskOfCopy_41 : decode cX3_diskOfCopy 41 = .ok (.iadd, 1) := by decide +kernel
theorem dX3_diskOfCopy_42 : decode cX3_diskOfCopy 42 = .ok (.aaload, 1) := by decide +kernel
theorem dX3_diskOfCopy_43 : decode cX3_diskOfCopy 43 = .ok (.iload_n 3, 1) := by decide +kernel
theorem dX3_diskOfCopy_44 : decode cX3_diskOfCopy 44 = .ok (.iaload, 1) := by decide +kernel
theorem dX3_diskOfCopy_45 : decode cX3_diskOfCopy 45 = .ok (.bipush 32, 2) := by decide +kernel
theorem dX3_diskOfCopy_47 : decode cX3_diskOfCopy 47 = .ok (.idiv, 1) := by decide +kernel
theorem dX3_diskOfCopy_48 : decode cX3_diskOfCopy 48 = .ok (.goto 8, 3) := by decide +kernel
theorem dX3_diskOfCopy_51 : decode cX3_diskOfCopy 51 = .ok (.aload_n 0, 1) := by decide +kernel
theorem dX3_diskOfCopy_52 : decode cX3_diskOfCopy 52 = .ok (.iconst 2, 1) := by decide +kernel
theorem dX3_diskOfCopy_53 : decode cX3_diskOfCopy 53 = .ok (.invokevirtual 123, 3) := by decide +kernel
theorem dX3_diskOfCopy_56 : decode cX3_diskOfCopy 56 = .ok (.ireturn, 1) := by decide +kernel
theorem dX3_valueOf_0 : decode cX3_valueOf 0 = .ok (.aload_n 0, 1) := by decide +kernel
theorem dX3_valueOf_1 : decode cX3_valueOf 1 = .ok (.iload_n 1, 1) := by decide +kernel
theorem dX3_valueOf_2 : decode cX3_valueOf 2 = .ok (.iload_n 2, 1) := by decide +kernel
theorem dX3_valueOf_3 : decode cX3_valueOf 3 = .ok (.invokevirtual 139, 3) := by decide +kernel
theorem dX3_valueOf_6 : decode cX3_valueOf 6 = .ok (.ifCond .eq 5, 3) := by decide +kernel
theorem dX3_valueOf_9 : decode cX3_valueOf 9 = .ok (.iconst 0, 1) := by decide +kernel
theorem dX3_valueOf_10 : decode cX3_valueOf 10 = .ok (.ireturn, 1) := by decide +kernel
theorem dX3_valueOf_11 : decode cX3_valueOf 11 = .ok (.aload_n 0, 1) := by decide +kernel
theorem dX3_valueOf_12 : decode cX3_valueOf 12 = .ok (.bipush 100, 2) := by decide +kernel
theorem dX3_valueOf_14 : decode cX3_valueOf 14 = .ok (.iload_n 1, 1) := by decide +kernel
theorem dX3_valueOf_15 : decode cX3_valueOf 15 = .ok (.imul, 1) := by decide +kernel
theorem dX3_valueOf_16 : decode cX3_valueOf 16 = .ok (.iload_n 2, 1) := by decide +kernel
theorem dX3_valueOf_17 : decode cX3_valueOf 17 = .ok (.iadd, 1) := by decide +kernel
theorem dX3_valueOf_18 : decode cX3_valueOf 18 = .ok (.invokevirtual 120, 3) := by decide +kernel
theorem dX3_valueOf_21 : decode cX3_valueOf 21 = .ok (.ifCond .le 17, 3) := by decide +kernel
theorem dX3_valueOf_24 : decode cX3_valueOf 24 = .ok (.aload_n 0, 1) := by decide +kernel
theorem dX3_valueOf_25 : decode cX3_valueOf 25 = .ok (.getfield 44, 3) := by decide +kernel
theorem dX3_valueOf_28 : decode cX3_valueOf 28 = .ok (.bipush 100, 2) := by decide +kernel
theorem dX3_valueOf_30 : decode cX3_valueOf 30 = .ok (.iload_n 1, 1) := by decide +kernel
theorem dX3_valueOf_31 : decode cX3_valueOf 31 = .ok (.imul, 1) := by decide +kernel
theorem dX3_valueOf_32 : decode cX3_valueOf 32 = .ok (.iload_n 2, 1) := by decide +kernel
theorem dX3_valueOf_33 : decode cX3_valueOf 33 = .ok (.iadd, 1) := by decide +kernel
theorem dX3_valueOf_34 : decode cX3_valueOf 34 = .ok (.iaload, 1) := by decide +kernel
theorem dX3_valueOf_35 : decode cX3_valueOf 35 = .ok (.goto 8, 3) := by decide +kernel
theorem dX3_valueOf_38 : decode cX3_valueOf 38 = .ok (.aload_n 0, 1) := by decide +kernel
theorem dX3_valueOf_39 : decode cX3_valueOf 39 = .ok (.iconst 2, 1) := by decide +kernel
theorem dX3_valueOf_40 : decode cX3_valueOf 40 = .ok (.invokevirtual 123, 3) := by decide +kernel
theorem dX3_valueOf_43 : decode cX3_valueOf 43 = .ok (.ireturn, 1) := by decide +kernel
theorem dX3_isLost_0 : decode cX3_isLost 0 = .ok (.aload_n 0, 1) := by decide +kernel
theorem dX3_isLost_1 : decode cX3_isLost 1 = .ok (.iload_n 1, 1) := by decide +kernel
theorem dX3_isLost_2 : decode cX3_isLost 2 = .ok (.iload_n 2, 1) := by decide +kernel
theorem dX3_isLost_3 : decode cX3_isLost 3 = .ok (.invokevirtual 139, 3) := by decide +kernel
theorem dX3_isLost_6 : decode cX3_isLost 6 = .ok (.ifCond .ne 20, 3) := by decide +kernel
theorem dX3_isLost_9 : decode cX3_isLost 9 = .ok (.aload_n 0, 1) := by decide +kernel
theorem dX3_isLost_10 : decode cX3_isLost 10 = .ok (.bipush 100, 2) := by decide +kernel
theorem dX3_isLost_12 : decode cX3_isLost 12 = .ok (.iload_n 1, 1) := by decide +kernel
theorem dX3_isLost_13 : decode cX3_isLost 13 = .ok (.imul, 1) := by decide +kernel
theorem dX3_isLost_14 : decode cX3_isLost 14 = .ok (.iload_n 2, 1) := by decide +kernel
theorem dX3_isLost_15 : decode cX3_isLost 15 = .ok (.iadd, 1) := by decide +kernel
theorem dX3_isLost_16 : decode cX3_isLost 16 = .ok (.invokevirtual 174, 3) := by decide +kernel
theorem dX3_isLost_19 : decode cX3_isLost 19 = .ok (.ifCond .eq 7, 3) := by decide +kernel
theorem dX3_isLost_22 : decode cX3_isLost 22 = .ok (.iconst 1, 1) := by decide +kernel
theorem dX3_isLost_23 : decode cX3_isLost 23 = .ok (.goto 4, 3) := by decide +kernel
theorem dX3_isLost_26 : decode cX3_isLost 26 = .ok (.iconst 0, 1) := by decide +kernel
theorem dX3_isLost_27 : decode cX3_isLost 27 = .ok (.ireturn, 1) := by decide +kernel
theorem dX3_lostBlocks_0 : decode cX3_lostBlocks 0 = .ok (.aload_n 0, 1) := by decide +kernel
theorem dX3_lostBlocks_1 : decode cX3_lostBlocks 1 = .ok (.iconst 0, 1) := by decide +kernel
theorem dX3_lostBlocks_2 : decode cX3_lostBlocks 2 = .ok (.putfield 96, 3) := by decide +kernel
theorem dX3_lostBlocks_5 : decode cX3_lostBlocks 5 = .ok (.iconst 0, 1) := by decide +kernel
theorem dX3_lostBlocks_6 : decode cX3_lostBlocks 6 = .ok (.istore_n 1, 1) := by decide +kernel
theorem dX3_lostBlocks_7 : decode cX3_lostBlocks 7 = .ok (.iconst 0, 1) := by decide +kernel
theorem dX3_lostBlocks_8 : decode cX3_lostBlocks 8 = .ok (.istore_n 2, 1) := by decide +kernel
theorem dX3_lostBlocks_9 : decode cX3_lostBlocks 9 = .ok (.iload_n 2, 1) := by decide +kernel
theorem dX3_lostBlocks_10 : decode cX3_lostBlocks 10 = .ok (.aload_n 0, 1) := by decide +kernel
theorem dX3_lostBlocks_11 : decode cX3_lostBlocks 11 = .ok (.getfield 171, 3) := by decide +kernel
theorem dX3_lostBlocks_14 : decode cX3_lostBlocks 14 = .ok (.if_icmp .ge 30, 3) := by decide +kernel
theorem dX3_lostBlocks_17 : decode cX3_lostBlocks 17 = .ok (.iload_n 1, 1) := by decide +kernel
theorem dX3_lostBlocks_18 : decode cX3_lostBlocks 18 = .ok (.aload_n 0, 1) := by decide +kernel
theorem dX3_lostBlocks_19 : decode cX3_lostBlocks 19 = .ok (.aload_n 0, 1) := by decide +kernel
theorem dX3_lostBlocks_20 : decode cX3_lostBlocks 20 = .ok (.getfield 47, 3) := by decide +kernel
theorem dX3_lostBlocks_23 : decode cX3_lostBlocks 23 = .ok (.iload_n 2, 1) := by decide +kernel
theorem dX3_lostBlocks_24 : decode cX3_lostBlocks 24 = .ok (.iaload, 1) := by decide +kernel
theorem dX3_lostBlocks_25 : decode cX3_lostBlocks 25 = .ok (.invokevirtual 174, 3) := by decide +kernel
theorem dX3_lostBlocks_28 : decode cX3_lostBlocks 28 = .ok (.ifCond .eq 7, 3) := by decide +kernel
theorem dX3_lostBlocks_31 : decode cX3_lostBlocks 31 = .ok (.iconst 1, 1) := by decide +kernel
theorem dX3_lostBlocks_32 : decode cX3_lostBlocks 32 = .ok (.goto 4, 3) := by decide +kernel
theorem dX3_lostBlocks_35 : decode cX3_lostBlocks 35 = .ok (.iconst 0, 1) := by decide +kernel
theorem dX3_lostBlocks_36 : decode cX3_lostBlocks 36 = .ok (.iadd, 1) := by decide +kernel
theorem dX3_lostBlocks_37 : decode cX3_lostBlocks 37 = .ok (.istore_n 1, 1) := by decide +kernel
theorem dX3_lostBlocks_38 : decode cX3_lostBlocks 38 = .ok (.iinc 2 1, 3) := by decide +kernel
theorem dX3_lostBlocks_41 : decode cX3_lostBlocks 41 = .ok (.goto (-32), 3) := by decide +kernel
theorem dX3_lostBlocks_44 : decode cX3_lostBlocks 44 = .ok (.iload_n 1, 1) := by decide +kernel
theorem dX3_lostBlocks_45 : decode cX3_lostBlocks 45 = .ok (.ireturn, 1) := by decide +kernel
theorem dX3_degradedBlocks_0 : decode cX3_degradedBlocks 0 = .ok (.aload_n 0, 1) := by decide +kernel
theorem dX3_degradedBlocks_1 : decode cX3_degradedBlocks 1 = .ok (.iconst 0, 1) := by decide +kernel
theorem dX3_degradedBlocks_2 : decode cX3_degradedBlocks 2 = .ok (.putfield 96, 3) := by decide +kernel
theorem dX3_degradedBlocks_5 : decode cX3_degradedBlocks 5 = .ok (.iconst 0, 1) := by decide +kernel
theorem dX3_degradedBlocks_6 : decode cX3_degradedBlocks 6 = .ok (.istore_n 1, 1) := by decide +kernel
theorem dX3_degradedBlocks_7 : decode cX3_degradedBlocks 7 = .ok (.iconst 0, 1) := by decide +kernel
theorem dX3_degradedBlocks_8 : decode cX3_degradedBlocks 8 = .ok (.istore_n 2, 1) := by decide +kernel
theorem dX3_degradedBlocks_9 : decode cX3_degradedBlocks 9 = .ok (.iload_n 2, 1) := by decide +kernel
theorem dX3_degradedBlocks_10 : decode cX3_degradedBlocks 10 = .ok (.aload_n 0, 1) := by decide +kernel
theorem dX3_degradedBlocks_11 : decode cX3_degradedBlocks 11 = .ok (.getfield 171, 3) := by decide +kernel
theorem dX3_degradedBlocks_14 : decode cX3_degradedBlocks 14 = .ok (.if_icmp .ge 30, 3) := by decide +kernel
theorem dX3_degradedBlocks_17 : decode cX3_degradedBlocks 17 = .ok (.iload_n 1, 1) := by decide +kernel
theorem dX3_degradedBlocks_18 : decode cX3_degradedBlocks 18 = .ok (.aload_n 0, 1) := by decide +kernel
theorem dX3_degradedBlocks_19 : decode cX3_degradedBlocks 19 = .ok (.aload_n 0, 1) := by decide +kernel
theorem dX3_degradedBlocks_20 : decode cX3_degradedBlocks 20 = .ok (.getfield 47, 3) := by decide +kernel
theorem dX3_degradedBlocks_23 : decode cX3_degradedBlocks 23 = .ok (.iload_n 2, 1) := by decide +kernel
theorem dX3_degradedBlocks_24 : decode cX3_degradedBlocks 24 = .ok (.iaload, 1) := by decide +kernel
theorem dX3_degradedBlocks_25 : decode cX3_degradedBlocks 25 = .ok (.invokevirtual 190, 3) := by decide +kernel
theorem dX3_degradedBlocks_28 : decode cX3_degradedBlocks 28 = .ok (.ifCond .eq 7, 3) := by decide +kernel
theorem dX3_degradedBlocks_31 : decode cX3_degradedBlocks 31 = .ok (.iconst 1, 1) := by decide +kernel
theorem dX3_degradedBlocks_32 : decode cX3_degradedBlocks 32 = .ok (.goto 4, 3) := by decide +kernel
theorem dX3_degradedBlocks_35 : decode cX3_degradedBlocks 35 = .ok (.iconst 0, 1) := by decide +kernel
theorem dX3_degradedBlocks_36 : decode cX3_degradedBlocks 36 = .ok (.iadd, 1) := by decide +kernel
theorem dX3_degradedBlocks_37 : decode cX3_degradedBlocks 37 = .ok (.istore_n 1, 1) := by decide +kernel
theorem dX3_degradedBlocks_38 : decode cX3_degradedBlocks 38 = .ok (.iinc 2 1, 3) := by decide +kernel
theorem dX3_degradedBlocks_41 : decode cX3_degradedBlocks 41 = .ok (.goto (-32), 3) := by decide +kernel
theorem dX3_degradedBlocks_44 : decode cX3_degradedBlocks 44 = .ok (.iload_n 1, 1) := by decide +kernel
theorem dX3_degradedBlocks_45 : decode cX3_degradedBlocks 45 = .ok (.ireturn, 1) := by decide +kernel
theorem dX3_doesBear_0 : decode cX3_doesBear 0 = .ok (.aload_n 0, 1) := by decide +kernel
theorem dX3_doesBear_1 : decode cX3_doesBear 1 = .ok (.iload_n 1, 1) := by decide +kernel
theorem dX3_doesBear_2 : decode cX3_doesBear 2 = .ok (.iconst 0, 1) := by decide +kernel
theorem dX3_doesBear_3 : decode cX3_doesBear 3 = .ok (.iconst 3, 1) := by decide +kernel
theorem dX3_doesBear_4 : decode cX3_doesBear 4 = .ok (.invokestatic 102, 3) := by decide +kernel
theorem dX3_doesBear_7 : decode cX3_doesBear 7 = .ok (.ifCond .eq 7, 3) := by decide +kernel
theorem dX3_doesBear_10 : decode cX3_doesBear 10 = .ok (.iconst 0, 1) := by decide +kernel
theorem dX3_doesBear_11 : decode cX3_doesBear 11 = .ok (.goto 4, 3) := by decide +kernel
theorem dX3_doesBear_14 : decode cX3_doesBear 14 = .ok (.iconst 1, 1) := by decide +kernel
theorem dX3_doesBear_15 : decode cX3_doesBear 15 = .ok (.putfield 96, 3) := by decide +kernel
theorem dX3_doesBear_18 : decode cX3_doesBear 18 = .ok (.aload_n 0, 1) := by decide +kernel
theorem dX3_doesBear_19 : decode cX3_doesBear 19 = .ok (.getfield 96, 3) := by decide +kernel
theorem dX3_doesBear_22 : decode cX3_doesBear 22 = .ok (.ifCond .le 5, 3) := by decide +kernel
theorem dX3_doesBear_25 : decode cX3_doesBear 25 = .ok (.iconst 0, 1) := by decide +kernel
theorem dX3_doesBear_26 : decode cX3_doesBear 26 = .ok (.ireturn, 1) := by decide +kernel
theorem dX3_doesBear_27 : decode cX3_doesBear 27 = .ok (.iconst 0, 1) := by decide +kernel
theorem dX3_doesBear_28 : decode cX3_doesBear 28 = .ok (.istore_n 2, 1) := by decide +kernel
theorem dX3_doesBear_29 : decode cX3_doesBear 29 = .ok (.iload_n 2, 1) := by decide +kernel
theorem dX3_doesBear_30 : decode cX3_doesBear 30 = .ok (.aload_n 0, 1) := by decide +kernel
theorem dX3_doesBear_31 : decode cX3_doesBear 31 = .ok (.getfield 171, 3) := by decide +kernel
theorem dX3_doesBear_34 : decode cX3_doesBear 34 = .ok (.if_icmp .ge 38, 3) := by decide +kernel
theorem dX3_doesBear_37 : decode cX3_doesBear 37 = .ok (.aload_n 0, 1) := by decide +kernel
theorem dX3_doesBear_38 : decode cX3_doesBear 38 = .ok (.aload_n 0, 1) := by decide +kernel
theorem dX3_doesBear_39 : decode cX3_doesBear 39 = .ok (.getfield 47, 3) := by decide +kernel
theorem dX3_doesBear_42 : decode cX3_doesBear 42 = .ok (.iload_n 2, 1) := by decide +kernel
theorem dX3_doesBear_43 : decode cX3_doesBear 43 = .ok (.iaload, 1) := by decide +kernel
theorem dX3_doesBear_44 : decode cX3_doesBear 44 = .ok (.invokevirtual 174, 3) := by decide +kernel
theorem dX3_doesBear_47 : decode cX3_doesBear 47 = .ok (.ifCond .ne 19, 3) := by decide +kernel
theorem dX3_doesBear_50 : decode cX3_doesBear 50 = .ok (.aload_n 0, 1) := by decide +kernel
theorem dX3_doesBear_51 : decode cX3_doesBear 51 = .ok (.aload_n 0, 1) := by decide +kernel
theorem dX3_doesBear_52 : decode cX3_doesBear 52 = .ok (.getfield 47, 3) := by decide +kernel
theorem dX3_doesBear_55 : decode cX3_doesBear 55 = .ok (.iload_n 2, 1) := by decide +kernel
theorem dX3_doesBear_56 : decode cX3_doesBear 56 = .ok (.iaload, 1) := by decide +kernel
theorem dX3_doesBear_57 : decode cX3_doesBear 57 = .ok (.invokevirtual 120, 3) := by decide +kernel
theorem dX3_doesBear_60 : decode cX3_doesBear 60 = .ok (.iload_n 1, 1) := by decide +kernel
theorem dX3_doesBear_61 : decode cX3_doesBear 61 = .ok (.if_icmp .gt 5, 3) := by decide +kernel
theorem dX3_doesBear_64 : decode cX3_doesBear 64 = .ok (.iconst 0, 1) := by decide +kernel
theorem dX3_doesBear_65 : decode cX3_doesBear 65 = .ok (.ireturn, 1) := by decide +kernel
theorem dX3_doesBear_66 : decode cX3_doesBear 66 = .ok (.iinc 2 1, 3) := by decide +kernel
theorem dX3_doesBear_69 : decode cX3_doesBear 69 = .ok (.goto (-40), 3) := by decide +kernel
theorem dX3_doesBear_72 : decode cX3_doesBear 72 = .ok (.iconst 1, 1) := by decide +kernel
theorem dX3_doesBear_73 : decode cX3_doesBear 73 = .ok (.ireturn, 1) := by decide +kernel
theorem dX3_doesBearByTrying_0 : decode cX3_doesBearByTrying 0 = .ok (.aload_n 0, 1) := by decide +kernel
theorem dX3_doesBearByTrying_1 : decode cX3_doesBearByTrying 1 = .ok (.iload_n 1, 1) := by decide +kernel
theorem dX3_doesBearByTrying_2 : decode cX3_doesBearByTrying 2 = .ok (.invokevirtual 220, 3) := by decide +kernel
theorem dX3_doesBearByTrying_5 : decode cX3_doesBearByTrying 5 = .ok (.ireturn, 1) := by decide +kernel
theorem dX3_fail_0 : decode cX3_fail 0 = .ok (.aload_n 0, 1) := by decide +kernel
theorem dX3_fail_1 : decode cX3_fail 1 = .ok (.iload_n 1, 1) := by decide +kernel
theorem dX3_fail_2 : decode cX3_fail 2 = .ok (.invokevirtual 130, 3) := by decide +kernel
theorem dX3_fail_5 : decode cX3_fail 5 = .ok (.ifCond .eq 5, 3) := by decide +kernel
theorem dX3_fail_8 : decode cX3_fail 8 = .ok (.iconst 0, 1) := by decide +kernel
theorem dX3_fail_9 : decode cX3_fail 9 = .ok (.ireturn, 1) := by decide +kernel
theorem dX3_fail_10 : decode cX3_fail 10 = .ok (.aload_n 0, 1) := by decide +kernel
theorem dX3_fail_11 : decode cX3_fail 11 = .ok (.getfield 13, 3) := by decide +kernel
theorem dX3_fail_14 : decode cX3_fail 14 = .ok (.iload_n 1, 1) := by decide +kernel
theorem dX3_fail_15 : decode cX3_fail 15 = .ok (.caload, 1) := by decide +kernel
theorem dX3_fail_16 : decode cX3_fail 16 = .ok (.bipush 102, 2) := by decide +kernel
theorem dX3_fail_18 : decode cX3_fail 18 = .ok (.if_icmp .ne 9, 3) := by decide +kernel
theorem dX3_fail_21 : decode cX3_fail 21 = .ok (.aload_n 0, 1) := by decide +kernel
theorem dX3_fail_22 : decode cX3_fail 22 = .ok (.iconst 2, 1) := by decide +kernel
theorem dX3_fail_23 : decode cX3_fail 23 = .ok (.invokevirtual 123, 3) := by decide +kernel
theorem dX3_fail_26 : decode cX3_fail 26 = .ok (.ireturn, 1) := by decide +kernel
theorem dX3_fail_27 : decode cX3_fail 27 = .ok (.aload_n 0, 1) := by decide +kernel
theorem dX3_fail_28 : decode cX3_fail 28 = .ok (.iload_n 1, 1) := by decide +kernel
theorem dX3_fail_29 : decode cX3_fail 29 = .ok (.invokevirtual 112, 3) := by decide +kernel
theorem dX3_fail_32 : decode cX3_fail 32 = .ok (.istore_n 2, 1) := by decide +kernel
theorem dX3_fail_33 : decode cX3_fail 33 = .ok (.iconst 0, 1) := by decide +kernel
theorem dX3_fail_34 : decode cX3_fail 34 = .ok (.istore_n 3, 1) := by decide +kernel
theorem dX3_fail_35 : decode cX3_fail 35 = .ok (.iload_n 3, 1) := by decide +kernel
theorem dX3_fail_36 : decode cX3_fail 36 = .ok (.aload_n 0, 1) := by decide +kernel
theorem dX3_fail_37 : decode cX3_fail 37 = .ok (.getfield 171, 3) := by decide +kernel
theorem dX3_fail_40 : decode cX3_fail 40 = .ok (.if_icmp .ge 64, 3) := by decide +kernel
theorem dX3_fail_43 : decode cX3_fail 43 = .ok (.aload_n 0, 1) := by decide +kernel
theorem dX3_fail_44 : decode cX3_fail 44 = .ok (.getfield 47, 3) := by decide +kernel
theorem dX3_fail_47 : decode cX3_fail 47 = .ok (.iload_n 3, 1) := by decide +kernel
theorem dX3_fail_48 : decode cX3_fail 48 = .ok (.iaload, 1) := by decide +kernel
theorem dX3_fail_49 : decode cX3_fail 49 = .ok (.istore 4, 2) := by decide +kernel
theorem dX3_fail_51 : decode cX3_fail 51 = .ok (.aload_n 0, 1) := by decide +kernel
theorem dX3_fail_52 : decode cX3_fail 52 = .ok (.getfield 38, 3) := by decide +kernel
theorem dX3_fail_55 : decode cX3_fail 55 = .ok (.iload 4, 2) := by decide +kernel
theorem dX3_fail_57 : decode cX3_fail 57 = .ok (.iaload, 1) := by decide +kernel
theorem dX3_fail_58 : decode cX3_fail 58 = .ok (.iconst 1, 1) := by decide +kernel
theorem dX3_fail_59 : decode cX3_fail 59 = .ok (.isub, 1) := by decide +kernel
theorem dX3_fail_60 : decode cX3_fail 60 = .ok (.istore 5, 2) := by decide +kernel
theorem dX3_fail_62 : decode cX3_fail 62 = .ok (.iload 5, 2) := by decide +kernel
theorem dX3_fail_64 : decode cX3_fail 64 = .ok (.ifCond .lt 34, 3) := by decide +kernel
theorem dX3_fail_67 : decode cX3_fail 67 = .ok (.aload_n 0, 1) := by decide +kernel
theorem dX3_fail_68 : decode cX3_fail 68 = .ok (.getfield 32, 3) := by decide +kernel
theorem dX3_fail_71 : decode cX3_fail 71 = .ok (.iload 4, 2) := by decide +kernel
theorem dX3_fail_73 : decode cX3_fail 73 = .ok (.aaload, 1) := by decide +kernel
theorem dX3_fail_74 : decode cX3_fail 74 = .ok (.iload 5, 2) := by decide +kernel
theorem dX3_fail_76 : decode cX3_fail 76 = .ok (.iaload, 1) := by decide +kernel
theorem dX3_fail_77 : decode cX3_fail 77 = .ok (.bipush 32, 2) := by decide +kernel
theorem dX3_fail_79 : decode cX3_fail 79 = .ok (.idiv, 1) := by decide +kernel
theorem dX3_fail_80 : decode cX3_fail 80 = .ok (.iload_n 1, 1) := by decide +kernel
theorem dX3_fail_81 : decode cX3_fail 81 = .ok (.if_icmp .ne 11, 3) := by decide +kernel
theorem dX3_fail_84 : decode cX3_fail 84 = .ok (.aload_n 0, 1) := by decide +kernel
theorem dX3_fail_85 : decode cX3_fail 85 = .ok (.iload 4, 2) := by decide +kernel
theorem dX3_fail_87 : decode cX3_fail 87 = .ok (.iload 5, 2) := by decide +kernel
theorem dX3_fail_89 : decode cX3_fail 89 = .ok (.invokevirtual 158, 3) := by decide +kernel
theorem dX3_fail_92 : decode cX3_fail 92 = .ok (.iinc 5 (-1), 3) := by decide +kernel
theorem dX3_fail_95 : decode cX3_fail 95 = .ok (.goto (-33), 3) := by decide +kernel
theorem dX3_fail_98 : decode cX3_fail 98 = .ok (.iinc 3 1, 3) := by decide +kernel
theorem dX3_fail_101 : decode cX3_fail 101 = .ok (.goto (-66), 3) := by decide +kernel
theorem dX3_fail_104 : decode cX3_fail 104 = .ok (.aload_n 0, 1) := by decide +kernel
theorem dX3_fail_105 : decode cX3_fail 105 = .ok (.getfield 13, 3) := by decide +kernel
theorem dX3_fail_108 : decode cX3_fail 108 = .ok (.iload_n 1, 1) := by decide +kernel
theorem dX3_fail_109 : decode cX3_fail 109 = .ok (.bipush 102, 2) := by decide +kernel
theorem dX3_fail_111 : decode cX3_fail 111 = .ok (.castore, 1) := by decide +kernel
theorem dX3_fail_112 : decode cX3_fail 112 = .ok (.iload_n 2, 1) := by decide +kernel
theorem dX3_fail_113 : decode cX3_fail 113 = .ok (.ireturn, 1) := by decide +kernel
theorem dX3_sound_0 : decode cX3_sound 0 = .ok (.iconst 0, 1) := by decide +kernel
theorem dX3_sound_1 : decode cX3_sound 1 = .ok (.istore_n 1, 1) := by decide +kernel
theorem dX3_sound_2 : decode cX3_sound 2 = .ok (.iconst 0, 1) := by decide +kernel
theorem dX3_sound_3 : decode cX3_sound 3 = .ok (.istore_n 2, 1) := by decide +kernel
theorem dX3_sound_4 : decode cX3_sound 4 = .ok (.iload_n 2, 1) := by decide +kernel
theorem dX3_sound_5 : decode cX3_sound 5 = .ok (.aload_n 0, 1) := by decide +kernel
theorem dX3_sound_6 : decode cX3_sound 6 = .ok (.getfield 99, 3) := by decide +kernel
theorem dX3_sound_9 : decode cX3_sound 9 = .ok (.if_icmp .ge 28, 3) := by decide +kernel
theorem dX3_sound_12 : decode cX3_sound 12 = .ok (.iload_n 1, 1) := by decide +kernel
theorem dX3_sound_13 : decode cX3_sound 13 = .ok (.aload_n 0, 1) := by decide +kernel
theorem dX3_sound_14 : decode cX3_sound 14 = .ok (.getfield 13, 3) := by decide +kernel
theorem dX3_sound_17 : decode cX3_sound 17 = .ok (.iload_n 2, 1) := by decide +kernel
theorem dX3_sound_18 : decode cX3_sound 18 = .ok (.caload, 1) := by decide +kernel
theorem dX3_sound_19 : decode cX3_sound 19 = .ok (.bipush 115, 2) := by decide +kernel
theorem dX3_sound_21 : decode cX3_sound 21 = .ok (.if_icmp .ne 7, 3) := by decide +kernel
theorem dX3_sound_24 : decode cX3_sound 24 = .ok (.iconst 1, 1) := by decide +kernel
theorem dX3_sound_25 : decode cX3_sound 25 = .ok (.goto 4, 3) := by decide +kernel
theorem dX3_sound_28 : decode cX3_sound 28 = .ok (.iconst 0, 1) := by decide +kernel
theorem dX3_sound_29 : decode cX3_sound 29 = .ok (.iadd, 1) := by decide +kernel
theorem dX3_sound_30 : decode cX3_sound 30 = .ok (.istore_n 1, 1) := by decide +kernel
theorem dX3_sound_31 : decode cX3_sound 31 = .ok (.iinc 2 1, 3) := by decide +kernel
theorem dX3_sound_34 : decode cX3_sound 34 = .ok (.goto (-30), 3) := by decide +kernel
theorem dX3_sound_37 : decode cX3_sound 37 = .ok (.iload_n 1, 1) := by decide +kernel
theorem dX3_sound_38 : decode cX3_sound 38 = .ok (.ireturn, 1) := by decide +kernel
theorem dX3_replace_0 : decode cX3_replace 0 = .ok (.aload_n 0, 1) := by decide +kernel
theorem dX3_replace_1 : decode cX3_replace 1 = .ok (.iload_n 1, 1) := by decide +kernel
theorem dX3_replace_2 : decode cX3_replace 2 = .ok (.invokevirtual 130, 3) := by decide +kernel
theorem dX3_replace_5 : decode cX3_replace 5 = .ok (.ifCond .eq 5, 3) := by decide +kernel
theorem dX3_replace_8 : decode cX3_replace 8 = .ok (.iconst 0, 1) := by decide +kernel
theorem dX3_replace_9 : decode cX3_replace 9 = .ok (.ireturn, 1) := by decide +kernel
theorem dX3_replace_10 : decode cX3_replace 10 = .ok (.aload_n 0, 1) := by decide +kernel
theorem dX3_replace_11 : decode cX3_replace 11 = .ok (.getfield 13, 3) := by decide +kernel
theorem dX3_replace_14 : decode cX3_replace 14 = .ok (.iload_n 1, 1) := by decide +kernel
theorem dX3_replace_15 : decode cX3_replace 15 = .ok (.caload, 1) := by decide +kernel
theorem dX3_replace_16 : decode cX3_replace 16 = .ok (.bipush 102, 2) := by decide +kernel
theorem dX3_replace_18 : decode cX3_replace 18 = .ok (.if_icmp .eq 9, 3) := by decide +kernel
theorem dX3_replace_21 : decode cX3_replace 21 = .ok (.aload_n 0, 1) := by decide +kernel
theorem dX3_replace_22 : decode cX3_replace 22 = .ok (.iconst 2, 1) := by decide +kernel
theorem dX3_replace_23 : decode cX3_replace 23 = .ok (.invokevirtual 123, 3) := by decide +kernel
theorem dX3_replace_26 : decode cX3_replace 26 = .ok (.ireturn, 1) := by decide +kernel
theorem dX3_replace_27 : decode cX3_replace 27 = .ok (.aload_n 0, 1) := by decide +kernel
theorem dX3_replace_28 : decode cX3_replace 28 = .ok (.getfield 13, 3) := by decide +kernel
theorem dX3_replace_31 : decode cX3_replace 31 = .ok (.iload_n 1, 1) := by decide +kernel
theorem dX3_replace_32 : decode cX3_replace 32 = .ok (.bipush 115, 2) := by decide +kernel
theorem dX3_replace_34 : decode cX3_replace 34 = .ok (.castore, 1) := by decide +kernel
theorem dX3_replace_35 : decode cX3_replace 35 = .ok (.aload_n 0, 1) := by decide +kernel
theorem dX3_replace_36 : decode cX3_replace 36 = .ok (.invokevirtual 223, 3) := by decide +kernel
theorem dX3_replace_39 : decode cX3_replace 39 = .ok (.ireturn, 1) := by decide +kernel
theorem dX3_warn_0 : decode cX3_warn 0 = .ok (.aload_n 0, 1) := by decide +kernel
theorem dX3_warn_1 : decode cX3_warn 1 = .ok (.iload_n 1, 1) := by decide +kernel
theorem dX3_warn_2 : decode cX3_warn 2 = .ok (.invokevirtual 130, 3) := by decide +kernel
theorem dX3_warn_5 : decode cX3_warn 5 = .ok (.ifCond .eq 5, 3) := by decide +kernel
theorem dX3_warn_8 : decode cX3_warn 8 = .ok (.iconst 0, 1) := by decide +kernel
theorem dX3_warn_9 : decode cX3_warn 9 = .ok (.ireturn, 1) := by decide +kernel
theorem dX3_warn_10 : decode cX3_warn 10 = .ok (.aload_n 0, 1) := by decide +kernel
theorem dX3_warn_11 : decode cX3_warn 11 = .ok (.getfield 13, 3) := by decide +kernel
theorem dX3_warn_14 : decode cX3_warn 14 = .ok (.iload_n 1, 1) := by decide +kernel
theorem dX3_warn_15 : decode cX3_warn 15 = .ok (.caload, 1) := by decide +kernel
theorem dX3_warn_16 : decode cX3_warn 16 = .ok (.bipush 115, 2) := by decide +kernel
theorem dX3_warn_18 : decode cX3_warn 18 = .ok (.if_icmp .eq 9, 3) := by decide +kernel
theorem dX3_warn_21 : decode cX3_warn 21 = .ok (.aload_n 0, 1) := by decide +kernel
theorem dX3_warn_22 : decode cX3_warn 22 = .ok (.iconst 2, 1) := by decide +kernel
theorem dX3_warn_23 : decode cX3_warn 23 = .ok (.invokevirtual 123, 3) := by decide +kernel
theorem dX3_warn_26 : decode cX3_warn 26 = .ok (.ireturn, 1) := by decide +kernel
theorem dX3_warn_27 : decode cX3_warn 27 = .ok (.aload_n 0, 1) := by decide +kernel
theorem dX3_warn_28 : decode cX3_warn 28 = .ok (.getfield 13, 3) := by decide +kernel
theorem dX3_warn_31 : decode cX3_warn 31 = .ok (.iload_n 1, 1) := by decide +kernel
theorem dX3_warn_32 : decode cX3_warn 32 = .ok (.bipush 119, 2) := by decide +kernel
theorem dX3_warn_34 : decode cX3_warn 34 = .ok (.castore, 1) := by decide +kernel
theorem dX3_warn_35 : decode cX3_warn 35 = .ok (.aload_n 0, 1) := by decide +kernel
theorem dX3_warn_36 : decode cX3_warn 36 = .ok (.iload_n 1, 1) := by decide +kernel
theorem dX3_warn_37 : decode cX3_warn 37 = .ok (.invokevirtual 112, 3) := by decide +kernel
theorem dX3_warn_40 : decode cX3_warn 40 = .ok (.ireturn, 1) := by decide +kernel
theorem dX3_rot_0 : decode cX3_rot 0 = .ok (.aload_n 0, 1) := by decide +kernel
theorem dX3_rot_1 : decode cX3_rot 1 = .ok (.aload_n 0, 1) := by decide +kernel
theorem dX3_rot_2 : decode cX3_rot 2 = .ok (.iload_n 1, 1) := by decide +kernel
theorem dX3_rot_3 : decode cX3_rot 3 = .ok (.invokevirtual 126, 3) := by decide +kernel
theorem dX3_rot_6 : decode cX3_rot 6 = .ok (.ifCond .eq 19, 3) := by decide +kernel
theorem dX3_rot_9 : decode cX3_rot 9 = .ok (.iload_n 2, 1) := by decide +kernel
theorem dX3_rot_10 : decode cX3_rot 10 = .ok (.iconst 0, 1) := by decide +kernel
theorem dX3_rot_11 : decode cX3_rot 11 = .ok (.aload_n 0, 1) := by decide +kernel
theorem dX3_rot_12 : decode cX3_rot 12 = .ok (.getfield 9, 3) := by decide +kernel
theorem dX3_rot_15 : decode cX3_rot 15 = .ok (.iload_n 1, 1) := by decide +kernel
theorem dX3_rot_16 : decode cX3_rot 16 = .ok (.iaload, 1) := by decide +kernel
theorem dX3_rot_17 : decode cX3_rot 17 = .ok (.iconst 1, 1) := by decide +kernel
theorem dX3_rot_18 : decode cX3_rot 18 = .ok (.isub, 1) := by decide +kernel
theorem dX3_rot_19 : decode cX3_rot 19 = .ok (.invokestatic 102, 3) := by decide +kernel
theorem dX3_rot_22 : decode cX3_rot 22 = .ok (.ifCond .ne 7, 3) := by decide +kernel
theorem dX3_rot_25 : decode cX3_rot 25 = .ok (.iconst 1, 1) := by decide +kernel
theorem dX3_rot_26 : decode cX3_rot 26 = .ok (.goto 22, 3) := by decide +kernel
theorem dX3_rot_29 : decode cX3_rot 29 = .ok (.aload_n 0, 1) := by decide +kernel
theorem dX3_rot_30 : decode cX3_rot 30 = .ok (.getfield 17, 3) := by decide +kernel
theorem dX3_rot_33 : decode cX3_rot 33 = .ok (.bipush 32, 2) := by decide +kernel
theorem dX3_rot_35 : decode cX3_rot 35 = .ok (.iload_n 1, 1) := by decide +kernel
theorem dX3_rot_36 : decode cX3_rot 36 = .ok (.imul, 1) := by decide +kernel
theorem dX3_rot_37 : decode cX3_rot 37 = .ok (.iload_n 2, 1) := by decide +kernel
theorem dX3_rot_38 : decode cX3_rot 38 = .ok (.iadd, 1) := by decide +kernel
theorem dX3_rot_39 : decode cX3_rot 39 = .ok (.iaload, 1) := by decide +kernel
theorem dX3_rot_40 : decode cX3_rot 40 = .ok (.ifCond .ge 7, 3) := by decide +kernel
theorem dX3_rot_43 : decode cX3_rot 43 = .ok (.iconst 2, 1) := by decide +kernel
theorem dX3_rot_44 : decode cX3_rot 44 = .ok (.goto 4, 3) := by decide +kernel
theorem dX3_rot_47 : decode cX3_rot 47 = .ok (.iconst 0, 1) := by decide +kernel
theorem dX3_rot_48 : decode cX3_rot 48 = .ok (.putfield 96, 3) := by decide +kernel
theorem dX3_rot_51 : decode cX3_rot 51 = .ok (.aload_n 0, 1) := by decide +kernel
theorem dX3_rot_52 : decode cX3_rot 52 = .ok (.getfield 96, 3) := by decide +kernel
theorem dX3_rot_55 : decode cX3_rot 55 = .ok (.ifCond .le 5, 3) := by decide +kernel
theorem dX3_rot_58 : decode cX3_rot 58 = .ok (.iconst 0, 1) := by decide +kernel
theorem dX3_rot_59 : decode cX3_rot 59 = .ok (.ireturn, 1) := by decide +kernel
theorem dX3_rot_60 : decode cX3_rot 60 = .ok (.aload_n 0, 1) := by decide +kernel
theorem dX3_rot_61 : decode cX3_rot 61 = .ok (.getfield 23, 3) := by decide +kernel
theorem dX3_rot_64 : decode cX3_rot 64 = .ok (.bipush 32, 2) := by decide +kernel
theorem dX3_rot_66 : decode cX3_rot 66 = .ok (.iload_n 1, 1) := by decide +kernel
theorem dX3_rot_67 : decode cX3_rot 67 = .ok (.imul, 1) := by decide +kernel
theorem dX3_rot_68 : decode cX3_rot 68 = .ok (.iload_n 2, 1) := by decide +kernel
theorem dX3_rot_69 : decode cX3_rot 69 = .ok (.iadd, 1) := by decide +kernel
theorem dX3_rot_70 : decode cX3_rot 70 = .ok (.baload, 1) := by decide +kernel
theorem dX3_rot_71 : decode cX3_rot 71 = .ok (.istore_n 3, 1) := by decide +kernel
theorem dX3_rot_72 : decode cX3_rot 72 = .ok (.aload_n 0, 1) := by decide +kernel
theorem dX3_rot_73 : decode cX3_rot 73 = .ok (.getfield 23, 3) := by decide +kernel
theorem dX3_rot_76 : decode cX3_rot 76 = .ok (.bipush 32, 2) := by decide +kernel
theorem dX3_rot_78 : decode cX3_rot 78 = .ok (.iload_n 1, 1) := by decide +kernel
theorem dX3_rot_79 : decode cX3_rot 79 = .ok (.imul, 1) := by decide +kernel
theorem dX3_rot_80 : decode cX3_rot 80 = .ok (.iload_n 2, 1) := by decide +kernel
theorem dX3_rot_81 : decode cX3_rot 81 = .ok (.iadd, 1) := by decide +kernel
theorem dX3_rot_82 : decode cX3_rot 82 = .ok (.iconst 1, 1) := by decide +kernel
theorem dX3_rot_83 : decode cX3_rot 83 = .ok (.bastore, 1) := by decide +kernel
theorem dX3_rot_84 : decode cX3_rot 84 = .ok (.iload_n 3, 1) := by decide +kernel
theorem dX3_rot_85 : decode cX3_rot 85 = .ok (.ireturn, 1) := by decide +kernel
theorem dX3_scrub_0 : decode cX3_scrub 0 = .ok (.aload_n 0, 1) := by decide +kernel
theorem dX3_scrub_1 : decode cX3_scrub 1 = .ok (.iload_n 1, 1) := by decide +kernel
theorem dX3_scrub_2 : decode cX3_scrub 2 = .ok (.invokevirtual 130, 3) := by decide +kernel
theorem dX3_scrub_5 : decode cX3_scrub 5 = .ok (.ifCond .eq 5, 3) := by decide +kernel
theorem dX3_scrub_8 : decode cX3_scrub 8 = .ok (.iconst 0, 1) := by decide +kernel
theorem dX3_scrub_9 : decode cX3_scrub 9 = .ok (.ireturn, 1) := by decide +kernel
theorem dX3_scrub_10 : decode cX3_scrub 10 = .ok (.aload_n 0, 1) := by decide +kernel
theorem dX3_scrub_11 : decode cX3_scrub 11 = .ok (.getfield 13, 3) := by decide +kernel
theorem dX3_scrub_14 : decode cX3_scrub 14 = .ok (.iload_n 1, 1) := by decide +kernel
theorem dX3_scrub_15 : decode cX3_scrub 15 = .ok (.caload, 1) := by decide +kernel
theorem dX3_scrub_16 : decode cX3_scrub 16 = .ok (.bipush 102, 2) := by decide +kernel
theorem dX3_scrub_18 : decode cX3_scrub 18 = .ok (.if_icmp .ne 9, 3) := by decide +kernel
theorem dX3_scrub_21 : decode cX3_scrub 21 = .ok (.aload_n 0, 1) := by decide +kernel
theorem dX3_scrub_22 : decode cX3_scrub 22 = .ok (.iconst 2, 1) := by decide +kernel
theorem dX3_scrub_23 : decode cX3_scrub 23 = .ok (.invokevirtual 123, 3) := by decide +kernel
theorem dX3_scrub_26 : decode cX3_scrub 26 = .ok (.ireturn, 1) := by decide +kernel
theorem dX3_scrub_27 : decode cX3_scrub 27 = .ok (.iconst 0, 1) := by decide +kernel
theorem dX3_scrub_28 : decode cX3_scrub 28 = .ok (.istore_n 2, 1) := by decide +kernel
theorem dX3_scrub_29 : decode cX3_scrub 29 = .ok (.bipush 32, 2) := by decide +kernel
theorem dX3_scrub_31 : decode cX3_scrub 31 = .ok (.iload_n 1, 1) := by decide +kernel
theorem dX3_scrub_32 : decode cX3_scrub 32 = .ok (.imul, 1) := by decide +kernel
theorem dX3_scrub_33 : decode cX3_scrub 33 = .ok (.istore_n 3, 1) := by decide +kernel
theorem dX3_scrub_34 : decode cX3_scrub 34 = .ok (.iload_n 3, 1) := by decide +kernel
theorem dX3_scrub_35 : decode cX3_scrub 35 = .ok (.bipush 32, 2) := by decide +kernel
theorem dX3_scrub_37 : decode cX3_scrub 37 = .ok (.iload_n 1, 1) := by decide +kernel
theorem dX3_scrub_38 : decode cX3_scrub 38 = .ok (.imul, 1) := by decide +kernel
theorem dX3_scrub_39 : decode cX3_scrub 39 = .ok (.aload_n 0, 1) := by decide +kernel
theorem dX3_scrub_40 : decode cX3_scrub 40 = .ok (.getfield 9, 3) := by decide +kernel
theorem dX3_scrub_43 : decode cX3_scrub 43 = .ok (.iload_n 1, 1) := by decide +kernel
theorem dX3_scrub_44 : decode cX3_scrub 44 = .ok (.iaload, 1) := by decide +kernel
theorem dX3_scrub_45 : decode cX3_scrub 45 = .ok (.iadd, 1) := by decide +kernel
theorem dX3_scrub_46 : decode cX3_scrub 46 = .ok (.if_icmp .ge 53, 3) := by decide +kernel
theorem dX3_scrub_49 : decode cX3_scrub 49 = .ok (.aload_n 0, 1) := by decide +kernel
theorem dX3_scrub_50 : decode cX3_scrub 50 = .ok (.getfield 17, 3) := by decide +kernel
theorem dX3_scrub_53 : decode cX3_scrub 53 = .ok (.iload_n 3, 1) := by decide +kernel
theorem dX3_scrub_54 : decode cX3_scrub 54 = .ok (.iaload, 1) := by decide +kernel
theorem dX3_scrub_55 : decode cX3_scrub 55 = .ok (.ifCond .lt 38, 3) := by decide +kernel
theorem dX3_scrub_58 : decode cX3_scrub 58 = .ok (.aload_n 0, 1) := by decide +kernel
theorem dX3_scrub_59 : decode cX3_scrub 59 = .ok (.getfield 23, 3) := by decide +kernel
theorem dX3_scrub_62 : decode cX3_scrub 62 = .ok (.iload_n 3, 1) := by decide +kernel
theorem dX3_scrub_63 : decode cX3_scrub 63 = .ok (.baload, 1) := by decide +kernel
theorem dX3_scrub_64 : decode cX3_scrub 64 = .ok (.ifCond .eq 29, 3) := by decide +kernel
theorem dX3_scrub_67 : decode cX3_scrub 67 = .ok (.aload_n 0, 1) := by decide +kernel
theorem dX3_scrub_68 : decode cX3_scrub 68 = .ok (.aload_n 0, 1) := by decide +kernel
theorem dX3_scrub_69 : decode cX3_scrub 69 = .ok (.getfield 17, 3) := by decide +kernel
theorem dX3_scrub_72 : decode cX3_scrub 72 = .ok (.iload_n 3, 1) := by decide +kernel
theorem dX3_scrub_73 : decode cX3_scrub 73 = .ok (.iaload, 1) := by decide +kernel
theorem dX3_scrub_74 : decode cX3_scrub 74 = .ok (.invokevirtual 174, 3) := by decide +kernel
theorem dX3_scrub_77 : decode cX3_scrub 77 = .ok (.ifCond .eq 6, 3) := by decide +kernel
theorem dX3_scrub_80 : decode cX3_scrub 80 = .ok (.goto 13, 3) := by decide +kernel
theorem dX3_scrub_83 : decode cX3_scrub 83 = .ok (.aload_n 0, 1) := by decide +kernel
theorem dX3_scrub_84 : decode cX3_scrub 84 = .ok (.getfield 23, 3) := by decide +kernel
theorem dX3_scrub_87 : decode cX3_scrub 87 = .ok (.iload_n 3, 1) := by decide +kernel
theorem dX3_scrub_88 : decode cX3_scrub 88 = .ok (.iconst 0, 1) := by decide +kernel
theorem dX3_scrub_89 : decode cX3_scrub 89 = .ok (.bastore, 1) := by decide +kernel
theorem dX3_scrub_90 : decode cX3_scrub 90 = .ok (.iinc 2 1, 3) := by decide +kernel
theorem dX3_scrub_93 : decode cX3_scrub 93 = .ok (.iinc 3 1, 3) := by decide +kernel
theorem dX3_scrub_96 : decode cX3_scrub 96 = .ok (.goto (-62), 3) := by decide +kernel
theorem dX3_scrub_99 : decode cX3_scrub 99 = .ok (.iload_n 2, 1) := by decide +kernel
theorem dX3_scrub_100 : decode cX3_scrub 100 = .ok (.ireturn, 1) := by decide +kernel
theorem dX3_rottenOn_0 : decode cX3_rottenOn 0 = .ok (.aload_n 0, 1) := by decide +kernel
theorem dX3_rottenOn_1 : decode cX3_rottenOn 1 = .ok (.iload_n 1, 1) := by decide +kernel
theorem dX3_rottenOn_2 : decode cX3_rottenOn 2 = .ok (.invokevirtual 130, 3) := by decide +kernel
theorem dX3_rottenOn_5 : decode cX3_rottenOn 5 = .ok (.ifCond .eq 5, 3) := by decide +kernel
theorem dX3_rottenOn_8 : decode cX3_rottenOn 8 = .ok (.iconst 0, 1) := by decide +kernel
theorem dX3_rottenOn_9 : decode cX3_rottenOn 9 = .ok (.ireturn, 1) := by decide +kernel
theorem dX3_rottenOn_10 : decode cX3_rottenOn 10 = .ok (.iconst 0, 1) := by decide +kernel
theorem dX3_rottenOn_11 : decode cX3_rottenOn 11 = .ok (.istore_n 2, 1) := by decide +kernel
theorem dX3_rottenOn_12 : decode cX3_rottenOn 12 = .ok (.bipush 32, 2) := by decide +kernel
theorem dX3_rottenOn_14 : decode cX3_rottenOn 14 = .ok (.iload_n 1, 1) := by decide +kernel
theorem dX3_rottenOn_15 : decode cX3_rottenOn 15 = .ok (.imul, 1) := by decide +kernel
theorem dX3_rottenOn_16 : decode cX3_rottenOn 16 = .ok (.istore_n 3, 1) := by decide +kernel
theorem dX3_rottenOn_17 : decode cX3_rottenOn 17 = .ok (.iload_n 3, 1) := by decide +kernel
theorem dX3_rottenOn_18 : decode cX3_rottenOn 18 = .ok (.bipush 32, 2) := by decide +kernel
theorem dX3_rottenOn_20 : decode cX3_rottenOn 20 = .ok (.iload_n 1, 1) := by decide +kernel
theorem dX3_rottenOn_21 : decode cX3_rottenOn 21 = .ok (.imul, 1) := by decide +kernel
theorem dX3_rottenOn_22 : decode cX3_rottenOn 22 = .ok (.aload_n 0, 1) := by decide +kernel
theorem dX3_rottenOn_23 : decode cX3_rottenOn 23 = .ok (.getfield 9, 3) := by decide +kernel
theorem dX3_rottenOn_26 : decode cX3_rottenOn 26 = .ok (.iload_n 1, 1) := by decide +kernel
theorem dX3_rottenOn_27 : decode cX3_rottenOn 27 = .ok (.iaload, 1) := by decide +kernel
theorem dX3_rottenOn_28 : decode cX3_rottenOn 28 = .ok (.iadd, 1) := by decide +kernel
theorem dX3_rottenOn_29 : decode cX3_rottenOn 29 = .ok (.if_icmp .ge 35, 3) := by decide +kernel
theorem dX3_rottenOn_32 : decode cX3_rottenOn 32 = .ok (.iload_n 2, 1) := by decide +kernel
theorem dX3_rottenOn_33 : decode cX3_rottenOn 33 = .ok (.aload_n 0, 1) := by decide +kernel
theorem dX3_rottenOn_34 : decode cX3_rottenOn 34 = .ok (.getfield 17, 3) := by decide +kernel
theorem dX3_rottenOn_37 : decode cX3_rottenOn 37 = .ok (.iload_n 3, 1) := by decide +kernel
theorem dX3_rottenOn_38 : decode cX3_rottenOn 38 = .ok (.iaload, 1) := by decide +kernel
theorem dX3_rottenOn_39 : decode cX3_rottenOn 39 = .ok (.ifCond .lt 16, 3) := by decide +kernel
theorem dX3_rottenOn_42 : decode cX3_rottenOn 42 = .ok (.aload_n 0, 1) := by decide +kernel
theorem dX3_rottenOn_43 : decode cX3_rottenOn 43 = .ok (.getfield 23, 3) := by decide +kernel
theorem dX3_rottenOn_46 : decode cX3_rottenOn 46 = .ok (.iload_n 3, 1) := by decide +kernel
theorem dX3_rottenOn_47 : decode cX3_rottenOn 47 = .ok (.baload, 1) := by decide +kernel
theorem dX3_rottenOn_48 : decode cX3_rottenOn 48 = .ok (.ifCond .eq 7, 3) := by decide +kernel
theorem dX3_rottenOn_51 : decode cX3_rottenOn 51 = .ok (.iconst 1, 1) := by decide +kernel
theorem dX3_rottenOn_52 : decode cX3_rottenOn 52 = .ok (.goto 4, 3) := by decide +kernel
theorem dX3_rottenOn_55 : decode cX3_rottenOn 55 = .ok (.iconst 0, 1) := by decide +kernel
theorem dX3_rottenOn_56 : decode cX3_rottenOn 56 = .ok (.iadd, 1) := by decide +kernel
theorem dX3_rottenOn_57 : decode cX3_rottenOn 57 = .ok (.istore_n 2, 1) := by decide +kernel
theorem dX3_rottenOn_58 : decode cX3_rottenOn 58 = .ok (.iinc 3 1, 3) := by decide +kernel
theorem dX3_rottenOn_61 : decode cX3_rottenOn 61 = .ok (.goto (-44), 3) := by decide +kernel
theorem dX3_rottenOn_64 : decode cX3_rottenOn 64 = .ok (.iload_n 2, 1) := by decide +kernel
theorem dX3_rottenOn_65 : decode cX3_rottenOn 65 = .ok (.ireturn, 1) := by decide +kernel
theorem dX3_rebuilt_0 : decode cX3_rebuilt 0 = .ok (.aload_n 0, 1) := by decide +kernel
theorem dX3_rebuilt_1 : decode cX3_rebuilt 1 = .ok (.iconst 0, 1) := by decide +kernel
theorem dX3_rebuilt_2 : decode cX3_rebuilt 2 = .ok (.putfield 96, 3) := by decide +kernel
theorem dX3_rebuilt_5 : decode cX3_rebuilt 5 = .ok (.aload_n 0, 1) := by decide +kernel
theorem dX3_rebuilt_6 : decode cX3_rebuilt 6 = .ok (.getfield 200, 3) := by decide +kernel
theorem dX3_rebuilt_9 : decode cX3_rebuilt 9 = .ok (.ireturn, 1) := by decide +kernel
theorem dX3_openRebuilds_0 : decode cX3_openRebuilds 0 = .ok (.aload_n 0, 1) := by decide +kernel
theorem dX3_openRebuilds_1 : decode cX3_openRebuilds 1 = .ok (.iconst 0, 1) := by decide +kernel
theorem dX3_openRebuilds_2 : decode cX3_openRebuilds 2 = .ok (.putfield 96, 3) := by decide +kernel
theorem dX3_openRebuilds_5 : decode cX3_openRebuilds 5 = .ok (.aload_n 0, 1) := by decide +kernel
theorem dX3_openRebuilds_6 : decode cX3_openRebuilds 6 = .ok (.invokevirtual 155, 3) := by decide +kernel
theorem dX3_openRebuilds_9 : decode cX3_openRebuilds 9 = .ok (.aload_n 0, 1) := by decide +kernel
theorem dX3_openRebuilds_10 : decode cX3_openRebuilds 10 = .ok (.sipush 10000, 3) := by decide +kernel
theorem dX3_openRebuilds_13 : decode cX3_openRebuilds 13 = .ok (.invokevirtual 197, 3) := by decide +kernel
theorem dX3_openRebuilds_16 : decode cX3_openRebuilds 16 = .ok (.istore_n 1, 1) := by decide +kernel
theorem dX3_openRebuilds_17 : decode cX3_openRebuilds 17 = .ok (.aload_n 0, 1) := by decide +kernel
theorem dX3_openRebuilds_18 : decode cX3_openRebuilds 18 = .ok (.invokevirtual 165, 3) := by decide +kernel
theorem dX3_openRebuilds_21 : decode cX3_openRebuilds 21 = .ok (.iload_n 1, 1) := by decide +kernel
theorem dX3_openRebuilds_22 : decode cX3_openRebuilds 22 = .ok (.ireturn, 1) := by decide +kernel
theorem dX3_meanCopies_0 : decode cX3_meanCopies 0 = .ok (.aload_n 0, 1) := by decide +kernel
theorem dX3_meanCopies_1 : decode cX3_meanCopies 1 = .ok (.iconst 0, 1) := by decide +kernel
theorem dX3_meanCopies_2 : decode cX3_meanCopies 2 = .ok (.putfield 96, 3) := by decide +kernel
theorem dX3_meanCopies_5 : decode cX3_meanCopies 5 = .ok (.iconst 0, 1) := by decide +kernel
theorem dX3_meanCopies_6 : decode cX3_meanCopies 6 = .ok (.istore_n 1, 1) := by decide +kernel
theorem dX3_meanCopies_7 : decode cX3_meanCopies 7 = .ok (.iconst 0, 1) := by decide +kernel
theorem dX3_meanCopies_8 : decode cX3_meanCopies 8 = .ok (.istore_n 2, 1) := by decide +kernel
theorem dX3_meanCopies_9 : decode cX3_meanCopies 9 = .ok (.iload_n 2, 1) := by decide +kernel
theorem dX3_meanCopies_10 : decode cX3_meanCopies 10 = .ok (.aload_n 0, 1) := by decide +kernel
theorem dX3_meanCopies_11 : decode cX3_meanCopies 11 = .ok (.getfield 171, 3) := by decide +kernel
theorem dX3_meanCopies_14 : decode cX3_meanCopies 14 = .ok (.if_icmp .ge 23, 3) := by decide +kernel
theorem dX3_meanCopies_17 : decode cX3_meanCopies 17 = .ok (.iload_n 1, 1) := by decide +kernel
theorem dX3_meanCopies_18 : decode cX3_meanCopies 18 = .ok (.aload_n 0, 1) := by decide +kernel
theorem dX3_meanCopies_19 : decode cX3_meanCopies 19 = .ok (.getfield 38, 3) := by decide +kernel
theorem dX3_meanCopies_22 : decode cX3_meanCopies 22 = .ok (.aload_n 0, 1) := by decide +kernel
theorem dX3_meanCopies_23 : decode cX3_meanCopies 23 = .ok (.getfield 47, 3) := by decide +kernel
theorem dX3_meanCopies_26 : decode cX3_meanCopies 26 = .ok (.iload_n 2, 1) := by decide +kernel
theorem dX3_meanCopies_27 : decode cX3_meanCopies 27 = .ok (.iaload, 1) := by decide +kernel
theorem dX3_meanCopies_28 : decode cX3_meanCopies 28 = .ok (.iaload, 1) := by decide +kernel
theorem dX3_meanCopies_29 : decode cX3_meanCopies 29 = .ok (.iadd, 1) := by decide +kernel
theorem dX3_meanCopies_30 : decode cX3_meanCopies 30 = .ok (.istore_n 1, 1) := by decide +kernel
theorem dX3_meanCopies_31 : decode cX3_meanCopies 31 = .ok (.iinc 2 1, 3) := by decide +kernel
theorem dX3_meanCopies_34 : decode cX3_meanCopies 34 = .ok (.goto (-25), 3) := by decide +kernel
theorem dX3_meanCopies_37 : decode cX3_meanCopies 37 = .ok (.aload_n 0, 1) := by decide +kernel
theorem dX3_meanCopies_38 : decode cX3_meanCopies 38 = .ok (.getfield 171, 3) := by decide +kernel
theorem dX3_meanCopies_41 : decode cX3_meanCopies 41 = .ok (.ifCond .ne 12, 3) := by decide +kernel
theorem dX3_meanCopies_44 : decode cX3_meanCopies 44 = .ok (.aload_n 0, 1) := by decide +kernel
theorem dX3_meanCopies_45 : decode cX3_meanCopies 45 = .ok (.iconst 1, 1) := by decide +kernel
theorem dX3_meanCopies_46 : decode cX3_meanCopies 46 = .ok (.invokevirtual 123, 3) := by decide +kernel
theorem dX3_meanCopies_49 : decode cX3_meanCopies 49 = .ok (.i2d, 1) := by decide +kernel
theorem dX3_meanCopies_50 : decode cX3_meanCopies 50 = .ok (.goto 11, 3) := by decide +kernel
theorem dX3_meanCopies_53 : decode cX3_meanCopies 53 = .ok (.iload_n 1, 1) := by decide +kernel
theorem dX3_meanCopies_54 : decode cX3_meanCopies 54 = .ok (.i2d, 1) := by decide +kernel
theorem dX3_meanCopies_55 : decode cX3_meanCopies 55 = .ok (.aload_n 0, 1) := by decide +kernel
theorem dX3_meanCopies_56 : decode cX3_meanCopies 56 = .ok (.getfield 171, 3) := by decide +kernel
theorem dX3_meanCopies_59 : decode cX3_meanCopies 59 = .ok (.i2d, 1) := by decide +kernel
theorem dX3_meanCopies_60 : decode cX3_meanCopies 60 = .ok (.ddiv, 1) := by decide +kernel
theorem dX3_meanCopies_61 : decode cX3_meanCopies 61 = .ok (.dreturn, 1) := by decide +kernel
theorem dX3_usedShare_0 : decode cX3_usedShare 0 = .ok (.aload_n 0, 1) := by decide +kernel
theorem dX3_usedShare_1 : decode cX3_usedShare 1 = .ok (.iconst 0, 1) := by decide +kernel
theorem dX3_usedShare_2 : decode cX3_usedShare 2 = .ok (.putfield 96, 3) := by decide +kernel
theorem dX3_usedShare_5 : decode cX3_usedShare 5 = .ok (.iconst 0, 1) := by decide +kernel
theorem dX3_usedShare_6 : decode cX3_usedShare 6 = .ok (.istore_n 1, 1) := by decide +kernel
theorem dX3_usedShare_7 : decode cX3_usedShare 7 = .ok (.iconst 0, 1) := by decide +kernel
theorem dX3_usedShare_8 : decode cX3_usedShare 8 = .ok (.istore_n 2, 1) := by decide +kernel
theorem dX3_usedShare_9 : decode cX3_usedShare 9 = .ok (.iconst 0, 1) := by decide +kernel
theorem dX3_usedShare_10 : decode cX3_usedShare 10 = .ok (.istore_n 3, 1) := by decide +kernel
theorem dX3_usedShare_11 : decode cX3_usedShare 11 = .ok (.iload_n 3, 1) := by decide +kernel
theorem dX3_usedShare_12 : decode cX3_usedShare 12 = .ok (.aload_n 0, 1) := by decide +kernel
theorem dX3_usedShare_13 : decode cX3_usedShare 13 = .ok (.getfield 99, 3) := by decide +kernel
theorem dX3_usedShare_16 : decode cX3_usedShare 16 = .ok (.if_icmp .ge 56, 3) := by decide +kernel
theorem dX3_usedShare_19 : decode cX3_usedShare 19 = .ok (.iload_n 1, 1) := by decide +kernel
theorem dX3_usedShare_20 : decode cX3_usedShare 20 = .ok (.aload_n 0, 1) := by decide +kernel
theorem dX3_usedShare_21 : decode cX3_usedShare 21 = .ok (.getfield 13, 3) := by decide +kernel
theorem dX3_usedShare_24 : decode cX3_usedShare 24 = .ok (.iload_n 3, 1) := by decide +kernel
theorem dX3_usedShare_25 : decode cX3_usedShare 25 = .ok (.caload, 1) := by decide +kernel
theorem dX3_usedShare_26 : decode cX3_usedShare 26 = .ok (.bipush 102, 2) := by decide +kernel
theorem dX3_usedShare_28 : decode cX3_usedShare 28 = .ok (.if_icmp .ne 7, 3) := by decide +kernel
theorem dX3_usedShare_31 : decode cX3_usedShare 31 = .ok (.iconst 0, 1) := by decide +kernel
theorem dX3_usedShare_32 : decode cX3_usedShare 32 = .ok (.goto 8, 3) := by decide +kernel
theorem dX3_usedShare_35 : decode cX3_usedShare 35 = .ok (.aload_n 0, 1) := by decide +kernel
theorem dX3_usedShare_36 : decode cX3_usedShare 36 = .ok (.iload_n 3, 1) := by decide +kernel
theorem dX3_usedShare_37 : decode cX3_usedShare 37 = .ok (.invokevirtual 112, 3) := by decide +kernel
theorem dX3_usedShare_40 : decode cX3_usedShare 40 = .ok (.iadd, 1) := by decide +kernel
theorem dX3_usedShare_41 : decode cX3_usedShare 41 = .ok (.istore_n 1, 1) := by decide +kernel
theorem dX3_usedShare_42 : decode cX3_usedShare 42 = .ok (.iload_n 2, 1) := by decide +kernel
theorem dX3_usedShare_43 : decode cX3_usedShare 43 = .ok (.aload_n 0, 1) := by decide +kernel
theorem dX3_usedShare_44 : decode cX3_usedShare 44 = .ok (.getfield 13, 3) := by decide +kernel
theorem dX3_usedShare_47 : decode cX3_usedShare 47 = .ok (.iload_n 3, 1) := by decide +kernel
theorem dX3_usedShare_48 : decode cX3_usedShare 48 = .ok (.caload, 1) := by decide +kernel
theorem dX3_usedShare_49 : decode cX3_usedShare 49 = .ok (.bipush 102, 2) := by decide +kernel
theorem dX3_usedShare_51 : decode cX3_usedShare 51 = .ok (.if_icmp .ne 7, 3) := by decide +kernel
theorem dX3_usedShare_54 : decode cX3_usedShare 54 = .ok (.iconst 0, 1) := by decide +kernel
theorem dX3_usedShare_55 : decode cX3_usedShare 55 = .ok (.goto 9, 3) := by decide +kernel
theorem dX3_usedShare_58 : decode cX3_usedShare 58 = .ok (.aload_n 0, 1) := by decide +kernel
theorem dX3_usedShare_59 : decode cX3_usedShare 59 = .ok (.getfield 9, 3) := by decide +kernel
theorem dX3_usedShare_62 : decode cX3_usedShare 62 = .ok (.iload_n 3, 1) := by decide +kernel
theorem dX3_usedShare_63 : decode cX3_usedShare 63 = .ok (.iaload, 1) := by decide +kernel
theorem dX3_usedShare_64 : decode cX3_usedShare 64 = .ok (.iadd, 1) := by decide +kernel
theorem dX3_usedShare_65 : decode cX3_usedShare 65 = .ok (.istore_n 2, 1) := by decide +kernel
theorem dX3_usedShare_66 : decode cX3_usedShare 66 = .ok (.iinc 3 1, 3) := by decide +kernel
theorem dX3_usedShare_69 : decode cX3_usedShare 69 = .ok (.goto (-58), 3) := by decide +kernel
theorem dX3_usedShare_72 : decode cX3_usedShare 72 = .ok (.iload_n 2, 1) := by decide +kernel
theorem dX3_usedShare_73 : decode cX3_usedShare 73 = .ok (.ifCond .ne 12, 3) := by decide +kernel
theorem dX3_usedShare_76 : decode cX3_usedShare 76 = .ok (.aload_n 0, 1) := by decide +kernel
theorem dX3_usedShare_77 : decode cX3_usedShare 77 = .ok (.iconst 1, 1) := by decide +kernel
theorem dX3_usedShare_78 : decode cX3_usedShare 78 = .ok (.invokevirtual 123, 3) := by decide +kernel
theorem dX3_usedShare_81 : decode cX3_usedShare 81 = .ok (.i2f, 1) := by decide +kernel
theorem dX3_usedShare_82 : decode cX3_usedShare 82 = .ok (.goto 8, 3) := by decide +kernel
theorem dX3_usedShare_85 : decode cX3_usedShare 85 = .ok (.iload_n 1, 1) := by decide +kernel
theorem dX3_usedShare_86 : decode cX3_usedShare 86 = .ok (.i2f, 1) := by decide +kernel
theorem dX3_usedShare_87 : decode cX3_usedShare 87 = .ok (.iload_n 2, 1) := by decide +kernel
theorem dX3_usedShare_88 : decode cX3_usedShare 88 = .ok (.i2f, 1) := by decide +kernel
theorem dX3_usedShare_89 : decode cX3_usedShare 89 = .ok (.fdiv, 1) := by decide +kernel
theorem dX3_usedShare_90 : decode cX3_usedShare 90 = .ok (.freturn, 1) := by decide +kernel
theorem dX3_isConsistent_0 : decode cX3_isConsistent 0 = .ok (.aload_n 0, 1) := by decide +kernel
theorem dX3_isConsistent_1 : decode cX3_isConsistent 1 = .ok (.iconst 0, 1) := by decide +kernel
theorem dX3_isConsistent_2 : decode cX3_isConsistent 2 = .ok (.putfield 96, 3) := by decide +kernel
theorem dX3_isConsistent_5 : decode cX3_isConsistent 5 = .ok (.iconst 1, 1) := by decide +kernel
theorem dX3_isConsistent_6 : decode cX3_isConsistent 6 = .ok (.ireturn, 1) := by decide +kernel
theorem dX3_writeDisk_0 : decode cX3_writeDisk 0 = .ok (.aload_n 0, 1) := by decide +kernel
theorem dX3_writeDisk_1 : decode cX3_writeDisk 1 = .ok (.iload_n 1, 1) := by decide +kernel
theorem dX3_writeDisk_2 : decode cX3_writeDisk 2 = .ok (.invokevirtual 130, 3) := by decide +kernel
theorem dX3_writeDisk_5 : decode cX3_writeDisk 5 = .ok (.ifCond .eq 5, 3) := by decide +kernel
theorem dX3_writeDisk_8 : decode cX3_writeDisk 8 = .ok (.iconst 0, 1) := by decide +kernel
theorem dX3_writeDisk_9 : decode cX3_writeDisk 9 = .ok (.ireturn, 1) := by decide +kernel
theorem dX3_writeDisk_10 : decode cX3_writeDisk 10 = .ok (.new 227, 3) := by decide +kernel
theorem dX3_writeDisk_13 : decode cX3_writeDisk 13 = .ok (.dup, 1) := by decide +kernel
theorem dX3_writeDisk_14 : decode cX3_writeDisk 14 = .ok (.invokespecial 229, 3) := by decide +kernel
theorem dX3_writeDisk_17 : decode cX3_writeDisk 17 = .ok (.astore_n 2, 1) := by decide +kernel
theorem dX3_writeDisk_18 : decode cX3_writeDisk 18 = .ok (.aload_n 2, 1) := by decide +kernel
theorem dX3_writeDisk_19 : decode cX3_writeDisk 19 = .ok (.aload_n 0, 1) := by decide +kernel
theorem dX3_writeDisk_20 : decode cX3_writeDisk 20 = .ok (.getfield 13, 3) := by decide +kernel
theorem dX3_writeDisk_23 : decode cX3_writeDisk 23 = .ok (.iload_n 1, 1) := by decide +kernel
theorem dX3_writeDisk_24 : decode cX3_writeDisk 24 = .ok (.caload, 1) := by decide +kernel
theorem dX3_writeDisk_25 : decode cX3_writeDisk 25 = .ok (.invokevirtual 230, 3) := by decide +kernel
theorem dX3_writeDisk_28 : decode cX3_writeDisk 28 = .ok (.pop, 1) := by decide +kernel
theorem dX3_writeDisk_29 : decode cX3_writeDisk 29 = .ok (.bipush 32, 2) := by decide +kernel
theorem dX3_writeDisk_31 : decode cX3_writeDisk 31 = .ok (.iload_n 1, 1) := by decide +kernel
theorem dX3_writeDisk_32 : decode cX3_writeDisk 32 = .ok (.imul, 1) := by decide +kernel
theorem dX3_writeDisk_33 : decode cX3_writeDisk 33 = .ok (.istore_n 3, 1) := by decide +kernel
theorem dX3_writeDisk_34 : decode cX3_writeDisk 34 = .ok (.iload_n 3, 1) := by decide +kernel
theorem dX3_writeDisk_35 : decode cX3_writeDisk 35 = .ok (.bipush 32, 2) := by decide +kernel
theorem dX3_writeDisk_37 : decode cX3_writeDisk 37 = .ok (.iload_n 1, 1) := by decide +kernel
theorem dX3_writeDisk_38 : decode cX3_writeDisk 38 = .ok (.imul, 1) := by decide +kernel
theorem dX3_writeDisk_39 : decode cX3_writeDisk 39 = .ok (.aload_n 0, 1) := by decide +kernel
theorem dX3_writeDisk_40 : decode cX3_writeDisk 40 = .ok (.getfield 9, 3) := by decide +kernel
theorem dX3_writeDisk_43 : decode cX3_writeDisk 43 = .ok (.iload_n 1, 1) := by decide +kernel
theorem dX3_writeDisk_44 : decode cX3_writeDisk 44 = .ok (.iaload, 1) := by decide +kernel
theorem dX3_writeDisk_45 : decode cX3_writeDisk 45 = .ok (.iadd, 1) := by decide +kernel
theorem dX3_writeDisk_46 : decode cX3_writeDisk 46 = .ok (.if_icmp .ge 73, 3) := by decide +kernel
theorem dX3_writeDisk_49 : decode cX3_writeDisk 49 = .ok (.aload_n 0, 1) := by decide +kernel
theorem dX3_writeDisk_50 : decode cX3_writeDisk 50 = .ok (.getfield 17, 3) := by decide +kernel
theorem dX3_writeDisk_53 : decode cX3_writeDisk 53 = .ok (.iload_n 3, 1) := by decide +kernel
theorem dX3_writeDisk_54 : decode cX3_writeDisk 54 = .ok (.iaload, 1) := by decide +kernel
theorem dX3_writeDisk_55 : decode cX3_writeDisk 55 = .ok (.ifCond .ge 6, 3) := by decide +kernel
theorem dX3_writeDisk_58 : decode cX3_writeDisk 58 = .ok (.goto 55, 3) := by decide +kernel
theorem dX3_writeDisk_61 : decode cX3_writeDisk 61 = .ok (.aload_n 2, 1) := by decide +kernel
theorem dX3_writeDisk_62 : decode cX3_writeDisk 62 = .ok (.bipush 32, 2) := by decide +kernel
theorem dX3_writeDisk_64 : decode cX3_writeDisk 64 = .ok (.invokevirtual 230, 3) := by decide +kernel
theorem dX3_writeDisk_67 : decode cX3_writeDisk 67 = .ok (.aload_n 0, 1) := by decide +kernel
theorem dX3_writeDisk_68 : decode cX3_writeDisk 68 = .ok (.getfield 17, 3) := by decide +kernel
theorem dX3_writeDisk_71 : decode cX3_writeDisk 71 = .ok (.iload_n 3, 1) := by decide +kernel
theorem dX3_writeDisk_72 : decode cX3_writeDisk 72 = .ok (.iaload, 1) := by decide +kernel
theorem dX3_writeDisk_73 : decode cX3_writeDisk 73 = .ok (.bipush 100, 2) := by decide +kernel
theorem dX3_writeDisk_75 : decode cX3_writeDisk 75 = .ok (.idiv, 1) := by decide +kernel
theorem dX3_writeDisk_76 : decode cX3_writeDisk 76 = .ok (.invokevirtual 234, 3) := by decide +kernel
theorem dX3_writeDisk_79 : decode cX3_writeDisk 79 = .ok (.bipush 46, 2) := by decide +kernel
theorem dX3_writeDisk_81 : decode cX3_writeDisk 81 = .ok (.invokevirtual 230, 3) := by decide +kernel
theorem dX3_writeDisk_84 : decode cX3_writeDisk 84 = .ok (.aload_n 0, 1) := by decide +kernel
theorem dX3_writeDisk_85 : decode cX3_writeDisk 85 = .ok (.getfield 17, 3) := by decide +kernel
theorem dX3_writeDisk_88 : decode cX3_writeDisk 88 = .ok (.iload_n 3, 1) := by decide +kernel
theorem dX3_writeDisk_89 : decode cX3_writeDisk 89 = .ok (.iaload, 1) := by decide +kernel
theorem dX3_writeDisk_90 : decode cX3_writeDisk 90 = .ok (.bipush 100, 2) := by decide +kernel
theorem dX3_writeDisk_92 : decode cX3_writeDisk 92 = .ok (.irem, 1) := by decide +kernel
theorem dX3_writeDisk_93 : decode cX3_writeDisk 93 = .ok (.invokevirtual 234, 3) := by decide +kernel
theorem dX3_writeDisk_96 : decode cX3_writeDisk 96 = .ok (.pop, 1) := by decide +kernel
theorem dX3_writeDisk_97 : decode cX3_writeDisk 97 = .ok (.aload_n 0, 1) := by decide +kernel
theorem dX3_writeDisk_98 : decode cX3_writeDisk 98 = .ok (.getfield 23, 3) := by decide +kernel
theorem dX3_writeDisk_101 : decode cX3_writeDisk 101 = .ok (.iload_n 3, 1) := by decide +kernel
theorem dX3_writeDisk_102 : decode cX3_writeDisk 102 = .ok (.baload, 1) := by decide +kernel
theorem dX3_writeDisk_103 : decode cX3_writeDisk 103 = .ok (.ifCond .eq 10, 3) := by decide +kernel
theorem dX3_writeDisk_106 : decode cX3_writeDisk 106 = .ok (.aload_n 2, 1) := by decide +kernel
theorem dX3_writeDisk_107 : decode cX3_writeDisk 107 = .ok (.bipush 33, 2) := by decide +kernel
theorem dX3_writeDisk_109 : decode cX3_writeDisk 109 = .ok (.invokevirtual 230, 3) := by decide +kernel
theorem dX3_writeDisk_112 : decode cX3_writeDisk 112 = .ok (.pop, 1) := by decide +kernel
theorem dX3_writeDisk_113 : decode cX3_writeDisk 113 = .ok (.iinc 3 1, 3) := by decide +kernel
theorem dX3_writeDisk_116 : decode cX3_writeDisk 116 = .ok (.goto (-82), 3) := by decide +kernel
theorem dX3_writeDisk_119 : decode cX3_writeDisk 119 = .ok (.aload_n 0, 1) := by decide +kernel
theorem dX3_writeDisk_120 : decode cX3_writeDisk 120 = .ok (.aload_n 2, 1) := by decide +kernel
theorem dX3_writeDisk_121 : decode cX3_writeDisk 121 = .ok (.invokevirtual 237, 3) := by decide +kernel
theorem dX3_writeDisk_124 : decode cX3_writeDisk 124 = .ok (.putfield 92, 3) := by decide +kernel
theorem dX3_writeDisk_127 : decode cX3_writeDisk 127 = .ok (.aload_n 0, 1) := by decide +kernel
theorem dX3_writeDisk_128 : decode cX3_writeDisk 128 = .ok (.getfield 92, 3) := by decide +kernel
theorem dX3_writeDisk_131 : decode cX3_writeDisk 131 = .ok (.invokevirtual 241, 3) := by decide +kernel
theorem dX3_writeDisk_134 : decode cX3_writeDisk 134 = .ok (.ireturn, 1) := by decide +kernel
theorem dX3_lineAt_0 : decode cX3_lineAt 0 = .ok (.aload_n 0, 1) := by decide +kernel
theorem dX3_lineAt_1 : decode cX3_lineAt 1 = .ok (.iconst 0, 1) := by decide +kernel
theorem dX3_lineAt_2 : decode cX3_lineAt 2 = .ok (.putfield 96, 3) := by decide +kernel
theorem dX3_lineAt_5 : decode cX3_lineAt 5 = .ok (.iload_n 1, 1) := by decide +kernel
theorem dX3_lineAt_6 : decode cX3_lineAt 6 = .ok (.iconst 0, 1) := by decide +kernel
theorem dX3_lineAt_7 : decode cX3_lineAt 7 = .ok (.aload_n 0, 1) := by decide +kernel
theorem dX3_lineAt_8 : decode cX3_lineAt 8 = .ok (.getfield 92, 3) := by decide +kernel
theorem dX3_lineAt_11 : decode cX3_lineAt 11 = .ok (.invokevirtual 241, 3) := by decide +kernel
theorem dX3_lineAt_14 : decode cX3_lineAt 14 = .ok (.iconst 1, 1) := by decide +kernel
theorem dX3_lineAt_15 : decode cX3_lineAt 15 = .ok (.isub, 1) := by decide +kernel
theorem dX3_lineAt_16 : decode cX3_lineAt 16 = .ok (.invokestatic 102, 3) := by decide +kernel
theorem dX3_lineAt_19 : decode cX3_lineAt 19 = .ok (.ifCond .eq 14, 3) := by decide +kernel
theorem dX3_lineAt_22 : decode cX3_lineAt 22 = .ok (.aload_n 0, 1) := by decide +kernel
theorem dX3_lineAt_23 : decode cX3_lineAt 23 = .ok (.getfield 92, 3) := by decide +kernel
theorem dX3_lineAt_26 : decode cX3_lineAt 26 = .ok (.iload_n 1, 1) := by decide +kernel
theorem dX3_lineAt_27 : decode cX3_lineAt 27 = .ok (.invokevirtual 246, 3) := by decide +kernel
theorem dX3_lineAt_30 : decode cX3_lineAt 30 = .ok (.goto 9, 3) := by decide +kernel
theorem dX3_lineAt_33 : decode cX3_lineAt 33 = .ok (.aload_n 0, 1) := by decide +kernel
theorem dX3_lineAt_34 : decode cX3_lineAt 34 = .ok (.iconst 1, 1) := by decide +kernel
theorem dX3_lineAt_35 : decode cX3_lineAt 35 = .ok (.invokevirtual 123, 3) := by decide +kernel
theorem dX3_lineAt_38 : decode cX3_lineAt 38 = .ok (.i2c, 1) := by decide +kernel
theorem dX3_lineAt_39 : decode cX3_lineAt 39 = .ok (.ireturn, 1) := by decide +kernel
end
section
theorem dL_addDisk_0 : decode cL_addDisk 0 = .ok (.aload_n 2, 1) := by decide +kernel
theorem dL_addDisk_1 : decode cL_addDisk 1 = .ok (.iconst 0, 1) := by decide +kernel
theorem dL_addDisk_2 : decode cL_addDisk 2 = .ok (.aload_n 0, 1) := by decide +kernel
theorem dL_addDisk_3 : decode cL_addDisk 3 = .ok (.iload_n 1, 1) := by decide +kernel
theorem dL_addDisk_4 : decode cL_addDisk 4 = .ok (.invokevirtual 7, 3) := by decide +kernel
theorem dL_addDisk_7 : decode cL_addDisk 7 = .ok (.i2l, 1) := by decide +kernel
theorem dL_addDisk_8 : decode cL_addDisk 8 = .ok (.lastore, 1) := by decide +kernel
theorem dL_addDisk_9 : decode cL_addDisk 9 = .ok (.goto 9, 3) := by decide +kernel
theorem dL_addDisk_12 : decode cL_addDisk 12 = .ok (.astore_n 3, 1) := by decide +kernel
theorem dL_addDisk_13 : decode cL_addDisk 13 = .ok (.iconst 1, 1) := by decide +kernel
theorem dL_addDisk_14 : decode cL_addDisk 14 = .ok (.ireturn, 1) := by decide +kernel
theorem dL_addDisk_15 : decode cL_addDisk 15 = .ok (.astore_n 3, 1) := by decide +kernel
theorem dL_addDisk_16 : decode cL_addDisk 16 = .ok (.iconst 2, 1) := by decide +kernel
theorem dL_addDisk_17 : decode cL_addDisk 17 = .ok (.ireturn, 1) := by decide +kernel
theorem dL_addDisk_18 : decode cL_addDisk 18 = .ok (.iconst 0, 1) := by decide +kernel
theorem dL_addDisk_19 : decode cL_addDisk 19 = .ok (.ireturn, 1) := by decide +kernel
theorem dL_diskState_0 : decode cL_diskState 0 = .ok (.aload_n 2, 1) := by decide +kernel
theorem dL_diskState_1 : decode cL_diskState 1 = .ok (.iconst 0, 1) := by decide +kernel
theorem dL_diskState_2 : decode cL_diskState 2 = .ok (.aload_n 0, 1) := by decide +kernel
theorem dL_diskState_3 : decode cL_diskState 3 = .ok (.iload_n 1, 1) := by decide +kernel
theorem dL_diskState_4 : decode cL_diskState 4 = .ok (.invokevirtual 17, 3) := by decide +kernel
theorem dL_diskState_7 : decode cL_diskState 7 = .ok (.i2l, 1) := by decide +kernel
theorem dL_diskState_8 : decode cL_diskState 8 = .ok (.lastore, 1) := by decide +kernel
theorem dL_diskState_9 : decode cL_diskState 9 = .ok (.goto 6, 3) := by decide +kernel
theorem dL_diskState_12 : decode cL_diskState 12 = .ok (.astore_n 3, 1) := by decide +kernel
theorem dL_diskState_13 : decode cL_diskState 13 = .ok (.iconst 1, 1) := by decide +kernel
theorem dL_diskState_14 : decode cL_diskState 14 = .ok (.ireturn, 1) := by decide +kernel
theorem dL_diskState_15 : decode cL_diskState 15 = .ok (.iconst 0, 1) := by decide +kernel
theorem dL_diskState_16 : decode cL_diskState 16 = .ok (.ireturn, 1) := by decide +kernel
theorem dL_usedOn_0 : decode cL_usedOn 0 = .ok (.aload_n 2, 1) := by decide +kernel
theorem dL_usedOn_1 : decode cL_usedOn 1 = .ok (.iconst 0, 1) := by decide +kernel
theorem dL_usedOn_2 : decode cL_usedOn 2 = .ok (.aload_n 0, 1) := by decide +kernel
theorem dL_usedOn_3 : decode cL_usedOn 3 = .ok (.iload_n 1, 1) := by decide +kernel
theorem dL_usedOn_4 : decode cL_usedOn 4 = .ok (.invokevirtual 23, 3) := by decide +kernel
theorem dL_usedOn_7 : decode cL_usedOn 7 = .ok (.i2l, 1) := by decide +kernel
theorem dL_usedOn_8 : decode cL_usedOn 8 = .ok (.lastore, 1) := by decide +kernel
theorem dL_usedOn_9 : decode cL_usedOn 9 = .ok (.goto 6, 3) := by decide +kernel
theorem dL_usedOn_12 : decode cL_usedOn 12 = .ok (.astore_n 3, 1) := by decide +kernel
theorem dL_usedOn_13 : decode cL_usedOn 13 = .ok (.iconst 1, 1) := by decide +kernel
theorem dL_usedOn_14 : decode cL_usedOn 14 = .ok (.ireturn, 1) := by decide +kernel
theorem dL_usedOn_15 : decode cL_usedOn 15 = .ok (.iconst 0, 1) := by decide +kernel
theorem dL_usedOn_16 : decode cL_usedOn 16 = .ok (.ireturn, 1) := by decide +kernel
theorem dL_addTenant_0 : decode cL_addTenant 0 = .ok (.aload_n 3, 1) := by decide +kernel
theorem dL_addTenant_1 : decode cL_addTenant 1 = .ok (.iconst 0, 1) := by decide +kernel
theorem dL_addTenant_2 : decode cL_addTenant 2 = .ok (.aload_n 0, 1) := by decide +kernel
theorem dL_addTenant_3 : decode cL_addTenant 3 = .ok (.iload_n 1, 1) := by decide +kernel
theorem dL_addTenant_4 : decode cL_addTenant 4 = .ok (.iload_n 2, 1) := by decide +kernel
theorem dL_addTenant_5 : decode cL_addTenant 5 = .ok (.invokevirtual 26, 3) := by decide +kernel
theorem dL_addTenant_8 : decode cL_addTenant 8 = .ok (.i2l, 1) := by decide +kernel
theorem dL_addTenant_9 : decode cL_addTenant 9 = .ok (.lastore, 1) := by decide +kernel
theorem dL_addTenant_10 : decode cL_addTenant 10 = .ok (.goto 11, 3) := by decide +kernel
theorem dL_addTenant_13 : decode cL_addTenant 13 = .ok (.astore 4, 2) := by decide +kernel
theorem dL_addTenant_15 : decode cL_addTenant 15 = .ok (.iconst 1, 1) := by decide +kernel
theorem dL_addTenant_16 : decode cL_addTenant 16 = .ok (.ireturn, 1) := by decide +kernel
theorem dL_addTenant_17 : decode cL_addTenant 17 = .ok (.astore 4, 2) := by decide +kernel
theorem dL_addTenant_19 : decode cL_addTenant 19 = .ok (.iconst 2, 1) := by decide +kernel
theorem dL_addTenant_20 : decode cL_addTenant 20 = .ok (.ireturn, 1) := by decide +kernel
theorem dL_addTenant_21 : decode cL_addTenant 21 = .ok (.iconst 0, 1) := by decide +kernel
theorem dL_addTenant_22 : decode cL_addTenant 22 = .ok (.ireturn, 1) := by decide +kernel
theorem dL_setHurry_0 : decode cL_setHurry 0 = .ok (.aload_n 2, 1) := by decide +kernel
theorem dL_setHurry_1 : decode cL_setHurry 1 = .ok (.iconst 0, 1) := by decide +kernel
theorem dL_setHurry_2 : decode cL_setHurry 2 = .ok (.aload_n 0, 1) := by decide +kernel
theorem dL_setHurry_3 : decode cL_setHurry 3 = .ok (.iload_n 1, 1) := by decide +kernel
theorem dL_setHurry_4 : decode cL_setHurry 4 = .ok (.invokevirtual 30, 3) := by decide +kernel
theorem dL_setHurry_7 : decode cL_setHurry 7 = .ok (.i2l, 1) := by decide +kernel
theorem dL_setHurry_8 : decode cL_setHurry 8 = .ok (.lastore, 1) := by decide +kernel
theorem dL_setHurry_9 : decode cL_setHurry 9 = .ok (.goto 6, 3) := by decide +kernel
theorem dL_setHurry_12 : decode cL_setHurry 12 = .ok (.astore_n 3, 1) := by decide +kernel
theorem dL_setHurry_13 : decode cL_setHurry 13 = .ok (.iconst 1, 1) := by decide +kernel
theorem dL_setHurry_14 : decode cL_setHurry 14 = .ok (.ireturn, 1) := by decide +kernel
theorem dL_setHurry_15 : decode cL_setHurry 15 = .ok (.iconst 0, 1) := by decide +kernel
theorem dL_setHurry_16 : decode cL_setHurry 16 = .ok (.ireturn, 1) := by decide +kernel
theorem dL_read_0 : decode cL_read 0 = .ok (.aload_n 3, 1) := by decide +kernel
theorem dL_read_1 : decode cL_read 1 = .ok (.iconst 0, 1) := by decide +kernel
theorem dL_read_2 : decode cL_read 2 = .ok (.aload_n 0, 1) := by decide +kernel
theorem dL_read_3 : decode cL_read 3 = .ok (.iload_n 1, 1) := by decide +kernel
theorem dL_read_4 : decode cL_read 4 = .ok (.iload_n 2, 1) := by decide +kernel
theorem dL_read_5 : decode cL_read 5 = .ok (.invokevirtual 33, 3) := by decide +kernel
theorem dL_read_8 : decode cL_read 8 = .ok (.i2l, 1) := by decide +kernel
theorem dL_read_9 : decode cL_read 9 = .ok (.lastore, 1) := by decide +kernel
theorem dL_read_10 : decode cL_read 10 = .ok (.goto 11, 3) := by decide +kernel
theorem dL_read_13 : decode cL_read 13 = .ok (.astore 4, 2) := by decide +kernel
theorem dL_read_15 : decode cL_read 15 = .ok (.iconst 1, 1) := by decide +kernel
theorem dL_read_16 : decode cL_read 16 = .ok (.ireturn, 1) := by decide +kernel
theorem dL_read_17 : decode cL_read 17 = .ok (.astore 4, 2) := by decide +kernel
theorem dL_read_19 : decode cL_read 19 = .ok (.iconst 2, 1) := by decide +kernel
theorem dL_read_20 : decode cL_read 20 = .ok (.ireturn, 1) := by decide +kernel
theorem dL_read_21 : decode cL_read 21 = .ok (.iconst 0, 1) := by decide +kernel
theorem dL_read_22 : decode cL_read 22 = .ok (.ireturn, 1) := by decide +kernel
theorem dL_write_0 : decode cL_write 0 = .ok (.aload 4, 2) := by decide +kernel
theorem dL_write_2 : decode cL_write 2 = .ok (.iconst 0, 1) := by decide +kernel
theorem dL_write_3 : decode cL_write 3 = .ok (.aload_n 0, 1) := by decide +kernel
theorem dL_write_4 : decode cL_write 4 = .ok (.iload_n 1, 1) := by decide +kernel
theorem dL_write_5 : decode cL_write 5 = .ok (.iload_n 2, 1) := by decide +kernel
theorem dL_write_6 : decode cL_write 6 = .ok (.iload_n 3, 1) := by decide +kernel
theorem dL_write_7 : decode cL_write 7 = .ok (.invokevirtual 36, 3) := by decide +kernel
theorem dL_write_10 : decode cL_write 10 = .ok (.i2l, 1) := by decide +kernel
theorem dL_write_11 : decode cL_write 11 = .ok (.lastore, 1) := by decide +kernel
theorem dL_write_12 : decode cL_write 12 = .ok (.goto 15, 3) := by decide +kernel
theorem dL_write_15 : decode cL_write 15 = .ok (.astore 5, 2) := by decide +kernel
theorem dL_write_17 : decode cL_write 17 = .ok (.iconst 1, 1) := by decide +kernel
theorem dL_write_18 : decode cL_write 18 = .ok (.ireturn, 1) := by decide +kernel
theorem dL_write_19 : decode cL_write 19 = .ok (.astore 5, 2) := by decide +kernel
theorem dL_write_21 : decode cL_write 21 = .ok (.iconst 2, 1) := by decide +kernel
theorem dL_write_22 : decode cL_write 22 = .ok (.ireturn, 1) := by decide +kernel
theorem dL_write_23 : decode cL_write 23 = .ok (.astore 5, 2) := by decide +kernel
theorem dL_write_25 : decode cL_write 25 = .ok (.iconst 3, 1) := by decide +kernel
theorem dL_write_26 : decode cL_write 26 = .ok (.ireturn, 1) := by decide +kernel
theorem dL_write_27 : decode cL_write 27 = .ok (.iconst 0, 1) := by decide +kernel
theorem dL_write_28 : decode cL_write 28 = .ok (.ireturn, 1) := by decide +kernel
theorem dL_stateOf_0 : decode cL_stateOf 0 = .ok (.aload_n 2, 1) := by decide +kernel
theorem dL_stateOf_1 : decode cL_stateOf 1 = .ok (.iconst 0, 1) := by decide +kernel
theorem dL_stateOf_2 : decode cL_stateOf 2 = .ok (.aload_n 0, 1) := by decide +kernel
theorem dL_stateOf_3 : decode cL_stateOf 3 = .ok (.iload_n 1, 1) := by decide +kernel
theorem dL_stateOf_4 : decode cL_stateOf 4 = .ok (.invokevirtual 40, 3) := by decide +kernel
theorem dL_stateOf_7 : decode cL_stateOf 7 = .ok (.i2l, 1) := by decide +kernel
theorem dL_stateOf_8 : decode cL_stateOf 8 = .ok (.lastore, 1) := by decide +kernel
theorem dL_stateOf_9 : decode cL_stateOf 9 = .ok (.goto 6, 3) := by decide +kernel
theorem dL_stateOf_12 : decode cL_stateOf 12 = .ok (.astore_n 3, 1) := by decide +kernel
theorem dL_stateOf_13 : decode cL_stateOf 13 = .ok (.iconst 1, 1) := by decide +kernel
theorem dL_stateOf_14 : decode cL_stateOf 14 = .ok (.ireturn, 1) := by decide +kernel
theorem dL_stateOf_15 : decode cL_stateOf 15 = .ok (.iconst 0, 1) := by decide +kernel
theorem dL_stateOf_16 : decode cL_stateOf 16 = .ok (.ireturn, 1) := by decide +kernel
theorem dL_answerTo_0 : decode cL_answerTo 0 = .ok (.aload_n 2, 1) := by decide +kernel
theorem dL_answerTo_1 : decode cL_answerTo 1 = .ok (.iconst 0, 1) := by decide +kernel
theorem dL_answerTo_2 : decode cL_answerTo 2 = .ok (.aload_n 0, 1) := by decide +kernel
theorem dL_answerTo_3 : decode cL_answerTo 3 = .ok (.iload_n 1, 1) := by decide +kernel
theorem dL_answerTo_4 : decode cL_answerTo 4 = .ok (.invokevirtual 43, 3) := by decide +kernel
theorem dL_answerTo_7 : decode cL_answerTo 7 = .ok (.i2l, 1) := by decide +kernel
theorem dL_answerTo_8 : decode cL_answerTo 8 = .ok (.lastore, 1) := by decide +kernel
theorem dL_answerTo_9 : decode cL_answerTo 9 = .ok (.goto 9, 3) := by decide +kernel
theorem dL_answerTo_12 : decode cL_answerTo 12 = .ok (.astore_n 3, 1) := by decide +kernel
theorem dL_answerTo_13 : decode cL_answerTo 13 = .ok (.iconst 1, 1) := by decide +kernel
theorem dL_answerTo_14 : decode cL_answerTo 14 = .ok (.ireturn, 1) := by decide +kernel
theorem dL_answerTo_15 : decode cL_answerTo 15 = .ok (.astore_n 3, 1) := by decide +kernel
theorem dL_answerTo_16 : decode cL_answerTo 16 = .ok (.iconst 2, 1) := by decide +kernel
theorem dL_answerTo_17 : decode cL_answerTo 17 = .ok (.ireturn, 1) := by decide +kernel
theorem dL_answerTo_18 : decode cL_answerTo 18 = .ok (.iconst 0, 1) := by decide +kernel
theorem dL_answerTo_19 : decode cL_answerTo 19 = .ok (.ireturn, 1) := by decide +kernel
theorem dL_waitingOf_0 : decode cL_waitingOf 0 = .ok (.aload_n 2, 1) := by decide +kernel
theorem dL_waitingOf_1 : decode cL_waitingOf 1 = .ok (.iconst 0, 1) := by decide +kernel
theorem dL_waitingOf_2 : decode cL_waitingOf 2 = .ok (.aload_n 0, 1) := by decide +kernel
theorem dL_waitingOf_3 : decode cL_waitingOf 3 = .ok (.iload_n 1, 1) := by decide +kernel
theorem dL_waitingOf_4 : decode cL_waitingOf 4 = .ok (.invokevirtual 48, 3) := by decide +kernel
theorem dL_waitingOf_7 : decode cL_waitingOf 7 = .ok (.i2l, 1) := by decide +kernel
theorem dL_waitingOf_8 : decode cL_waitingOf 8 = .ok (.lastore, 1) := by decide +kernel
theorem dL_waitingOf_9 : decode cL_waitingOf 9 = .ok (.goto 6, 3) := by decide +kernel
theorem dL_waitingOf_12 : decode cL_waitingOf 12 = .ok (.astore_n 3, 1) := by decide +kernel
theorem dL_waitingOf_13 : decode cL_waitingOf 13 = .ok (.iconst 1, 1) := by decide +kernel
theorem dL_waitingOf_14 : decode cL_waitingOf 14 = .ok (.ireturn, 1) := by decide +kernel
theorem dL_waitingOf_15 : decode cL_waitingOf 15 = .ok (.iconst 0, 1) := by decide +kernel
theorem dL_waitingOf_16 : decode cL_waitingOf 16 = .ok (.ireturn, 1) := by decide +kernel
theorem dL_servedOf_0 : decode cL_servedOf 0 = .ok (.aload_n 2, 1) := by decide +kernel
theorem dL_servedOf_1 : decode cL_servedOf 1 = .ok (.iconst 0, 1) := by decide +kernel
theorem dL_servedOf_2 : decode cL_servedOf 2 = .ok (.aload_n 0, 1) := by decide +kernel
theorem dL_servedOf_3 : decode cL_servedOf 3 = .ok (.iload_n 1, 1) := by decide +kernel
theorem dL_servedOf_4 : decode cL_servedOf 4 = .ok (.invokevirtual 51, 3) := by decide +kernel
theorem dL_servedOf_7 : decode cL_servedOf 7 = .ok (.i2l, 1) := by decide +kernel
theorem dL_servedOf_8 : decode cL_servedOf 8 = .ok (.lastore, 1) := by decide +kernel
theorem dL_servedOf_9 : decode cL_servedOf 9 = .ok (.goto 6, 3) := by decide +kernel
theorem dL_servedOf_12 : decode cL_servedOf 12 = .ok (.astore_n 3, 1) := by decide +kernel
theorem dL_servedOf_13 : decode cL_servedOf 13 = .ok (.iconst 1, 1) := by decide +kernel
theorem dL_servedOf_14 : decode cL_servedOf 14 = .ok (.ireturn, 1) := by decide +kernel
theorem dL_servedOf_15 : decode cL_servedOf 15 = .ok (.iconst 0, 1) := by decide +kernel
theorem dL_servedOf_16 : decode cL_servedOf 16 = .ok (.ireturn, 1) := by decide +kernel
theorem dL_creditsOf_0 : decode cL_creditsOf 0 = .ok (.aload_n 2, 1) := by decide +kernel
theorem dL_creditsOf_1 : decode cL_creditsOf 1 = .ok (.iconst 0, 1) := by decide +kernel
theorem dL_creditsOf_2 : decode cL_creditsOf 2 = .ok (.aload_n 0, 1) := by decide +kernel
theorem dL_creditsOf_3 : decode cL_creditsOf 3 = .ok (.iload_n 1, 1) := by decide +kernel
theorem dL_creditsOf_4 : decode cL_creditsOf 4 = .ok (.invokevirtual 54, 3) := by decide +kernel
theorem dL_creditsOf_7 : decode cL_creditsOf 7 = .ok (.i2l, 1) := by decide +kernel
theorem dL_creditsOf_8 : decode cL_creditsOf 8 = .ok (.lastore, 1) := by decide +kernel
theorem dL_creditsOf_9 : decode cL_creditsOf 9 = .ok (.goto 6, 3) := by decide +kernel
theorem dL_creditsOf_12 : decode cL_creditsOf 12 = .ok (.astore_n 3, 1) := by decide +kernel
theorem dL_creditsOf_13 : decode cL_creditsOf 13 = .ok (.iconst 1, 1) := by decide +kernel
theorem dL_creditsOf_14 : decode cL_creditsOf 14 = .ok (.ireturn, 1) := by decide +kernel
theorem dL_creditsOf_15 : decode cL_creditsOf 15 = .ok (.iconst 0, 1) := by decide +kernel
theorem dL_creditsOf_16 : decode cL_creditsOf 16 = .ok (.ireturn, 1) := by decide +kernel
theorem dL_breachesOf_0 : decode cL_breachesOf 0 = .ok (.aload_n 2, 1) := by decide +kernel
theorem dL_breachesOf_1 : decode cL_breachesOf 1 = .ok (.iconst 0, 1) := by decide +kernel
theorem dL_breachesOf_2 : decode cL_breachesOf 2 = .ok (.aload_n 0, 1) := by decide +kernel
theorem dL_breachesOf_3 : decode cL_breachesOf 3 = .ok (.iload_n 1, 1) := by decide +kernel
theorem dL_breachesOf_4 : decode cL_breachesOf 4 = .ok (.invokevirtual 57, 3) := by decide +kernel
theorem dL_breachesOf_7 : decode cL_breachesOf 7 = .ok (.i2l, 1) := by decide +kernel
theorem dL_breachesOf_8 : decode cL_breachesOf 8 = .ok (.lastore, 1) := by decide +kernel
theorem dL_breachesOf_9 : decode cL_breachesOf 9 = .ok (.goto 6, 3) := by decide +kernel
theorem dL_breachesOf_12 : decode cL_breachesOf 12 = .ok (.astore_n 3, 1) := by decide +kernel
theorem dL_breachesOf_13 : decode cL_breachesOf 13 = .ok (.iconst 1, 1) := by decide +kernel
theorem dL_breachesOf_14 : decode cL_breachesOf 14 = .ok (.ireturn, 1) := by decide +kernel
theorem dL_breachesOf_15 : decode cL_breachesOf 15 = .ok (.iconst 0, 1) := by decide +kernel
theorem dL_breachesOf_16 : decode cL_breachesOf 16 = .ok (.ireturn, 1) := by decide +kernel
theorem dL_pass_0 : decode cL_pass 0 = .ok (.aload_n 2, 1) := by decide +kernel
theorem dL_pass_1 : decode cL_pass 1 = .ok (.iconst 0, 1) := by decide +kernel
theorem dL_pass_2 : decode cL_pass 2 = .ok (.aload_n 0, 1) := by decide +kernel
theorem dL_pass_3 : decode cL_pass 3 = .ok (.iload_n 1, 1) := by decide +kernel
theorem dL_pass_4 : decode cL_pass 4 = .ok (.invokevirtual 60, 3) := by decide +kernel
theorem dL_pass_7 : decode cL_pass 7 = .ok (.i2l, 1) := by decide +kernel
theorem dL_pass_8 : decode cL_pass 8 = .ok (.lastore, 1) := by decide +kernel
theorem dL_pass_9 : decode cL_pass 9 = .ok (.goto 9, 3) := by decide +kernel
theorem dL_pass_12 : decode cL_pass 12 = .ok (.astore_n 3, 1) := by decide +kernel
theorem dL_pass_13 : decode cL_pass 13 = .ok (.iconst 1, 1) := by decide +kernel
theorem dL_pass_14 : decode cL_pass 14 = .ok (.ireturn, 1) := by decide +kernel
theorem dL_pass_15 : decode cL_pass 15 = .ok (.astore_n 3, 1) := by decide +kernel
theorem dL_pass_16 : decode cL_pass 16 = .ok (.iconst 2, 1) := by decide +kernel
theorem dL_pass_17 : decode cL_pass 17 = .ok (.ireturn, 1) := by decide +kernel
theorem dL_pass_18 : decode cL_pass 18 = .ok (.iconst 0, 1) := by decide +kernel
theorem dL_pass_19 : decode cL_pass 19 = .ok (.ireturn, 1) := by decide +kernel
theorem dL_blocksOf_0 : decode cL_blocksOf 0 = .ok (.aload_n 2, 1) := by decide +kernel
theorem dL_blocksOf_1 : decode cL_blocksOf 1 = .ok (.iconst 0, 1) := by decide +kernel
theorem dL_blocksOf_2 : decode cL_blocksOf 2 = .ok (.aload_n 0, 1) := by decide +kernel
theorem dL_blocksOf_3 : decode cL_blocksOf 3 = .ok (.iload_n 1, 1) := by decide +kernel
theorem dL_blocksOf_4 : decode cL_blocksOf 4 = .ok (.invokevirtual 63, 3) := by decide +kernel
theorem dL_blocksOf_7 : decode cL_blocksOf 7 = .ok (.i2l, 1) := by decide +kernel
theorem dL_blocksOf_8 : decode cL_blocksOf 8 = .ok (.lastore, 1) := by decide +kernel
theorem dL_blocksOf_9 : decode cL_blocksOf 9 = .ok (.goto 6, 3) := by decide +kernel
theorem dL_blocksOf_12 : decode cL_blocksOf 12 = .ok (.astore_n 3, 1) := by decide +kernel
theorem dL_blocksOf_13 : decode cL_blocksOf 13 = .ok (.iconst 1, 1) := by decide +kernel
theorem dL_blocksOf_14 : decode cL_blocksOf 14 = .ok (.ireturn, 1) := by decide +kernel
theorem dL_blocksOf_15 : decode cL_blocksOf 15 = .ok (.iconst 0, 1) := by decide +kernel
theorem dL_blocksOf_16 : decode cL_blocksOf 16 = .ok (.ireturn, 1) := by decide +kernel
theorem dL_copiesOf_0 : decode cL_copiesOf 0 = .ok (.aload_n 3, 1) := by decide +kernel
theorem dL_copiesOf_1 : decode cL_copiesOf 1 = .ok (.iconst 0, 1) := by decide +kernel
theorem dL_copiesOf_2 : decode cL_copiesOf 2 = .ok (.aload_n 0, 1) := by decide +kernel
theorem dL_copiesOf_3 : decode cL_copiesOf 3 = .ok (.iload_n 1, 1) := by decide +kernel
theorem dL_copiesOf_4 : decode cL_copiesOf 4 = .ok (.iload_n 2, 1) := by decide +kernel
theorem dL_copiesOf_5 : decode cL_copiesOf 5 = .ok (.invokevirtual 66, 3) := by decide +kernel
theorem dL_copiesOf_8 : decode cL_copiesOf 8 = .ok (.i2l, 1) := by decide +kernel
theorem dL_copiesOf_9 : decode cL_copiesOf 9 = .ok (.lastore, 1) := by decide +kernel
theorem dL_copiesOf_10 : decode cL_copiesOf 10 = .ok (.goto 7, 3) := by decide +kernel
theorem dL_copiesOf_13 : decode cL_copiesOf 13 = .ok (.astore 4, 2) := by decide +kernel
theorem dL_copiesOf_15 : decode cL_copiesOf 15 = .ok (.iconst 1, 1) := by decide +kernel
theorem dL_copiesOf_16 : decode cL_copiesOf 16 = .ok (.ireturn, 1) := by decide +kernel
theorem dL_copiesOf_17 : decode cL_copiesOf 17 = .ok (.iconst 0, 1) := by decide +kernel
theorem dL_copiesOf_18 : decode cL_copiesOf 18 = .ok (.ireturn, 1) := by decide +kernel
theorem dL_copiesByDisks_0 : decode cL_copiesByDisks 0 = .ok (.aload_n 3, 1) := by decide +kernel
theorem dL_copiesByDisks_1 : decode cL_copiesByDisks 1 = .ok (.iconst 0, 1) := by decide +kernel
theorem dL_copiesByDisks_2 : decode cL_copiesByDisks 2 = .ok (.aload_n 0, 1) := by decide +kernel
theorem dL_copiesByDisks_3 : decode cL_copiesByDisks 3 = .ok (.iload_n 1, 1) := by decide +kernel
theorem dL_copiesByDisks_4 : decode cL_copiesByDisks 4 = .ok (.iload_n 2, 1) := by decide +kernel
theorem dL_copiesByDisks_5 : decode cL_copiesByDisks 5 = .ok (.invokevirtual 69, 3) := by decide +kernel
theorem dL_copiesByDisks_8 : decode cL_copiesByDisks 8 = .ok (.i2l, 1) := by decide +kernel
theorem dL_copiesByDisks_9 : decode cL_copiesByDisks 9 = .ok (.lastore, 1) := by decide +kernel
theorem dL_copiesByDisks_10 : decode cL_copiesByDisks 10 = .ok (.goto 7, 3) := by decide +kernel
theorem dL_copiesByDisks_13 : decode cL_copiesByDisks 13 = .ok (.astore 4, 2) := by decide +kernel
theorem dL_copiesByDisks_15 : decode cL_copiesByDisks 15 = .ok (.iconst 1, 1) := by decide +kernel
theorem dL_copiesByDisks_16 : decode cL_copiesByDisks 16 = .ok (.ireturn, 1) := by decide +kernel
theorem dL_copiesByDisks_17 : decode cL_copiesByDisks 17 = .ok (.iconst 0, 1) := by decide +kernel
theorem dL_copiesByDisks_18 : decode cL_copiesByDisks 18 = .ok (.ireturn, 1) := by decide +kernel
theorem dL_diskOfCopy_0 : decode cL_diskOfCopy 0 = .ok (.aload 4, 2) := by decide +kernel
theorem dL_diskOfCopy_2 : decode cL_diskOfCopy 2 = .ok (.iconst 0, 1) := by decide +kernel
theorem dL_diskOfCopy_3 : decode cL_diskOfCopy 3 = .ok (.aload_n 0, 1) := by decide +kernel
theorem dL_diskOfCopy_4 : decode cL_diskOfCopy 4 = .ok (.iload_n 1, 1) := by decide +kernel
theorem dL_diskOfCopy_5 : decode cL_diskOfCopy 5 = .ok (.iload_n 2, 1) := by decide +kernel
theorem dL_diskOfCopy_6 : decode cL_diskOfCopy 6 = .ok (.iload_n 3, 1) := by decide +kernel
theorem dL_diskOfCopy_7 : decode cL_diskOfCopy 7 = .ok (.invokevirtual 72, 3) := by decide +kernel
theorem dL_diskOfCopy_10 : decode cL_diskOfCopy 10 = .ok (.i2l, 1) := by decide +kernel
theorem dL_diskOfCopy_11 : decode cL_diskOfCopy 11 = .ok (.lastore, 1) := by decide +kernel
theorem dL_diskOfCopy_12 : decode cL_diskOfCopy 12 = .ok (.goto 11, 3) := by decide +kernel
theorem dL_diskOfCopy_15 : decode cL_diskOfCopy 15 = .ok (.astore 5, 2) := by decide +kernel
theorem dL_diskOfCopy_17 : decode cL_diskOfCopy 17 = .ok (.iconst 1, 1) := by decide +kernel
theorem dL_diskOfCopy_18 : decode cL_diskOfCopy 18 = .ok (.ireturn, 1) := by decide +kernel
theorem dL_diskOfCopy_19 : decode cL_diskOfCopy 19 = .ok (.astore 5, 2) := by decide +kernel
theorem dL_diskOfCopy_21 : decode cL_diskOfCopy 21 = .ok (.iconst 2, 1) := by decide +kernel
theorem dL_diskOfCopy_22 : decode cL_diskOfCopy 22 = .ok (.ireturn, 1) := by decide +kernel
theorem dL_diskOfCopy_23 : decode cL_diskOfCopy 23 = .ok (.iconst 0, 1) := by decide +kernel
theorem dL_diskOfCopy_24 : decode cL_diskOfCopy 24 = .ok (.ireturn, 1) := by decide +kernel
theorem dL_valueOf_0 : decode cL_valueOf 0 = .ok (.aload_n 3, 1) := by decide +kernel
theorem dL_valueOf_1 : decode cL_valueOf 1 = .ok (.iconst 0, 1) := by decide +kernel
theorem dL_valueOf_2 : decode cL_valueOf 2 = .ok (.aload_n 0, 1) := by decide +kernel
theorem dL_valueOf_3 : decode cL_valueOf 3 = .ok (.iload_n 1, 1) := by decide +kernel
theorem dL_valueOf_4 : decode cL_valueOf 4 = .ok (.iload_n 2, 1) := by decide +kernel
theorem dL_valueOf_5 : decode cL_valueOf 5 = .ok (.invokevirtual 75, 3) := by decide +kernel
theorem dL_valueOf_8 : decode cL_valueOf 8 = .ok (.i2l, 1) := by decide +kernel
theorem dL_valueOf_9 : decode cL_valueOf 9 = .ok (.lastore, 1) := by decide +kernel
theorem dL_valueOf_10 : decode cL_valueOf 10 = .ok (.goto 11, 3) := by decide +kernel
theorem dL_valueOf_13 : decode cL_valueOf 13 = .ok (.astore 4, 2) := by decide +kernel
theorem dL_valueOf_15 : decode cL_valueOf 15 = .ok (.iconst 1, 1) := by decide +kernel
theorem dL_valueOf_16 : decode cL_valueOf 16 = .ok (.ireturn, 1) := by decide +kernel
theorem dL_valueOf_17 : decode cL_valueOf 17 = .ok (.astore 4, 2) := by decide +kernel
theorem dL_valueOf_19 : decode cL_valueOf 19 = .ok (.iconst 2, 1) := by decide +kernel
theorem dL_valueOf_20 : decode cL_valueOf 20 = .ok (.ireturn, 1) := by decide +kernel
theorem dL_valueOf_21 : decode cL_valueOf 21 = .ok (.iconst 0, 1) := by decide +kernel
theorem dL_valueOf_22 : decode cL_valueOf 22 = .ok (.ireturn, 1) := by decide +kernel
theorem dL_isLost_0 : decode cL_isLost 0 = .ok (.aload_n 3, 1) := by decide +kernel
theorem dL_isLost_1 : decode cL_isLost 1 = .ok (.iconst 0, 1) := by decide +kernel
theorem dL_isLost_2 : decode cL_isLost 2 = .ok (.aload_n 0, 1) := by decide +kernel
theorem dL_isLost_3 : decode cL_isLost 3 = .ok (.iload_n 1, 1) := by decide +kernel
theorem dL_isLost_4 : decode cL_isLost 4 = .ok (.iload_n 2, 1) := by decide +kernel
theorem dL_isLost_5 : decode cL_isLost 5 = .ok (.invokevirtual 78, 3) := by decide +kernel
theorem dL_isLost_8 : decode cL_isLost 8 = .ok (.ifCond .eq 7, 3) := by decide +kernel
theorem dL_isLost_11 : decode cL_isLost 11 = .ok (.lconst 1, 1) := by decide +kernel
theorem dL_isLost_12 : decode cL_isLost 12 = .ok (.goto 4, 3) := by decide +kernel
theorem dL_isLost_15 : decode cL_isLost 15 = .ok (.lconst 0, 1) := by decide +kernel
theorem dL_isLost_16 : decode cL_isLost 16 = .ok (.lastore, 1) := by decide +kernel
theorem dL_isLost_17 : decode cL_isLost 17 = .ok (.goto 7, 3) := by decide +kernel
theorem dL_isLost_20 : decode cL_isLost 20 = .ok (.astore 4, 2) := by decide +kernel
theorem dL_isLost_22 : decode cL_isLost 22 = .ok (.iconst 1, 1) := by decide +kernel
theorem dL_isLost_23 : decode cL_isLost 23 = .ok (.ireturn, 1) := by decide +kernel
theorem dL_isLost_24 : decode cL_isLost 24 = .ok (.iconst 0, 1) := by decide +kernel
theorem dL_isLost_25 : decode cL_isLost 25 = .ok (.ireturn, 1) := by decide +kernel
theorem dL_doesBear_0 : decode cL_doesBear 0 = .ok (.aload_n 2, 1) := by decide +kernel
theorem dL_doesBear_1 : decode cL_doesBear 1 = .ok (.iconst 0, 1) := by decide +kernel
theorem dL_doesBear_2 : decode cL_doesBear 2 = .ok (.aload_n 0, 1) := by decide +kernel
theorem dL_doesBear_3 : decode cL_doesBear 3 = .ok (.iload_n 1, 1) := by decide +kernel
theorem dL_doesBear_4 : decode cL_doesBear 4 = .ok (.invokevirtual 82, 3) := by decide +kernel
theorem dL_doesBear_7 : decode cL_doesBear 7 = .ok (.ifCond .eq 7, 3) := by decide +kernel
theorem dL_doesBear_10 : decode cL_doesBear 10 = .ok (.lconst 1, 1) := by decide +kernel
theorem dL_doesBear_11 : decode cL_doesBear 11 = .ok (.goto 4, 3) := by decide +kernel
theorem dL_doesBear_14 : decode cL_doesBear 14 = .ok (.lconst 0, 1) := by decide +kernel
theorem dL_doesBear_15 : decode cL_doesBear 15 = .ok (.lastore, 1) := by decide +kernel
theorem dL_doesBear_16 : decode cL_doesBear 16 = .ok (.goto 6, 3) := by decide +kernel
theorem dL_doesBear_19 : decode cL_doesBear 19 = .ok (.astore_n 3, 1) := by decide +kernel
theorem dL_doesBear_20 : decode cL_doesBear 20 = .ok (.iconst 1, 1) := by decide +kernel
theorem dL_doesBear_21 : decode cL_doesBear 21 = .ok (.ireturn, 1) := by decide +kernel
theorem dL_doesBear_22 : decode cL_doesBear 22 = .ok (.iconst 0, 1) := by decide +kernel
theorem dL_doesBear_23 : decode cL_doesBear 23 = .ok (.ireturn, 1) := by decide +kernel
theorem dL_doesBearByTrying_0 : decode cL_doesBearByTrying 0 = .ok (.aload_n 2, 1) := by decide +kernel
theorem dL_doesBearByTrying_1 : decode cL_doesBearByTrying 1 = .ok (.iconst 0, 1) := by decide +kernel
theorem dL_doesBearByTrying_2 : decode cL_doesBearByTrying 2 = .ok (.aload_n 0, 1) := by decide +kernel
theorem dL_doesBearByTrying_3 : decode cL_doesBearByTrying 3 = .ok (.iload_n 1, 1) := by decide +kernel
theorem dL_doesBearByTrying_4 : decode cL_doesBearByTrying 4 = .ok (.invokevirtual 86, 3) := by decide +kernel
theorem dL_doesBearByTrying_7 : decode cL_doesBearByTrying 7 = .ok (.ifCond .eq 7, 3) := by decide +kernel
theorem dL_doesBearByTrying_10 : decode cL_doesBearByTrying 10 = .ok (.lconst 1, 1) := by decide +kernel
theorem dL_doesBearByTrying_11 : decode cL_doesBearByTrying 11 = .ok (.goto 4, 3) := by decide +kernel
theorem dL_doesBearByTrying_14 : decode cL_doesBearByTrying 14 = .ok (.lconst 0, 1) := by decide +kernel
theorem dL_doesBearByTrying_15 : decode cL_doesBearByTrying 15 = .ok (.lastore, 1) := by decide +kernel
theorem dL_doesBearByTrying_16 : decode cL_doesBearByTrying 16 = .ok (.goto 6, 3) := by decide +kernel
theorem dL_doesBearByTrying_19 : decode cL_doesBearByTrying 19 = .ok (.astore_n 3, 1) := by decide +kernel
theorem dL_doesBearByTrying_20 : decode cL_doesBearByTrying 20 = .ok (.iconst 1, 1) := by decide +kernel
theorem dL_doesBearByTrying_21 : decode cL_doesBearByTrying 21 = .ok (.ireturn, 1) := by decide +kernel
theorem dL_doesBearByTrying_22 : decode cL_doesBearByTrying 22 = .ok (.iconst 0, 1) := by decide +kernel
theorem dL_doesBearByTrying_23 : decode cL_doesBearByTrying 23 = .ok (.ireturn, 1) := by decide +kernel
theorem dL_fail_0 : decode cL_fail 0 = .ok (.aload_n 2, 1) := by decide +kernel
theorem dL_fail_1 : decode cL_fail 1 = .ok (.iconst 0, 1) := by decide +kernel
theorem dL_fail_2 : decode cL_fail 2 = .ok (.aload_n 0, 1) := by decide +kernel
theorem dL_fail_3 : decode cL_fail 3 = .ok (.iload_n 1, 1) := by decide +kernel
theorem dL_fail_4 : decode cL_fail 4 = .ok (.invokevirtual 89, 3) := by decide +kernel
theorem dL_fail_7 : decode cL_fail 7 = .ok (.i2l, 1) := by decide +kernel
theorem dL_fail_8 : decode cL_fail 8 = .ok (.lastore, 1) := by decide +kernel
theorem dL_fail_9 : decode cL_fail 9 = .ok (.goto 9, 3) := by decide +kernel
theorem dL_fail_12 : decode cL_fail 12 = .ok (.astore_n 3, 1) := by decide +kernel
theorem dL_fail_13 : decode cL_fail 13 = .ok (.iconst 1, 1) := by decide +kernel
theorem dL_fail_14 : decode cL_fail 14 = .ok (.ireturn, 1) := by decide +kernel
theorem dL_fail_15 : decode cL_fail 15 = .ok (.astore_n 3, 1) := by decide +kernel
theorem dL_fail_16 : decode cL_fail 16 = .ok (.iconst 2, 1) := by decide +kernel
theorem dL_fail_17 : decode cL_fail 17 = .ok (.ireturn, 1) := by decide +kernel
theorem dL_fail_18 : decode cL_fail 18 = .ok (.iconst 0, 1) := by decide +kernel
theorem dL_fail_19 : decode cL_fail 19 = .ok (.ireturn, 1) := by decide +kernel
theorem dL_replace_0 : decode cL_replace 0 = .ok (.aload_n 2, 1) := by decide +kernel
theorem dL_replace_1 : decode cL_replace 1 = .ok (.iconst 0, 1) := by decide +kernel
theorem dL_replace_2 : decode cL_replace 2 = .ok (.aload_n 0, 1) := by decide +kernel
theorem dL_replace_3 : decode cL_replace 3 = .ok (.iload_n 1, 1) := by decide +kernel
theorem dL_replace_4 : decode cL_replace 4 = .ok (.invokevirtual 92, 3) := by decide +kernel
theorem dL_replace_7 : decode cL_replace 7 = .ok (.i2l, 1) := by decide +kernel
theorem dL_replace_8 : decode cL_replace 8 = .ok (.lastore, 1) := by decide +kernel
theorem dL_replace_9 : decode cL_replace 9 = .ok (.goto 9, 3) := by decide +kernel
theorem dL_replace_12 : decode cL_replace 12 = .ok (.astore_n 3, 1) := by decide +kernel
theorem dL_replace_13 : decode cL_replace 13 = .ok (.iconst 1, 1) := by decide +kernel
theorem dL_replace_14 : decode cL_replace 14 = .ok (.ireturn, 1) := by decide +kernel
theorem dL_replace_15 : decode cL_replace 15 = .ok (.astore_n 3, 1) := by decide +kernel
theorem dL_replace_16 : decode cL_replace 16 = .ok (.iconst 2, 1) := by decide +kernel
theorem dL_replace_17 : decode cL_replace 17 = .ok (.ireturn, 1) := by decide +kernel
theorem dL_replace_18 : decode cL_replace 18 = .ok (.iconst 0, 1) := by decide +kernel
theorem dL_replace_19 : decode cL_replace 19 = .ok (.ireturn, 1) := by decide +kernel
theorem dL_warn_0 : decode cL_warn 0 = .ok (.aload_n 2, 1) := by decide +kernel
theorem dL_warn_1 : decode cL_warn 1 = .ok (.iconst 0, 1) := by decide +kernel
theorem dL_warn_2 : decode cL_warn 2 = .ok (.aload_n 0, 1) := by decide +kernel
theorem dL_warn_3 : decode cL_warn 3 = .ok (.iload_n 1, 1) := by decide +kernel
theorem dL_warn_4 : decode cL_warn 4 = .ok (.invokevirtual 95, 3) := by decide +kernel
theorem dL_warn_7 : decode cL_warn 7 = .ok (.i2l, 1) := by decide +kernel
theorem dL_warn_8 : decode cL_warn 8 = .ok (.lastore, 1) := by decide +kernel
theorem dL_warn_9 : decode cL_warn 9 = .ok (.goto 9, 3) := by decide +kernel
theorem dL_warn_12 : decode cL_warn 12 = .ok (.astore_n 3, 1) := by decide +kernel
theorem dL_warn_13 : decode cL_warn 13 = .ok (.iconst 1, 1) := by decide +kernel
theorem dL_warn_14 : decode cL_warn 14 = .ok (.ireturn, 1) := by decide +kernel
theorem dL_warn_15 : decode cL_warn 15 = .ok (.astore_n 3, 1) := by decide +kernel
theorem dL_warn_16 : decode cL_warn 16 = .ok (.iconst 2, 1) := by decide +kernel
theorem dL_warn_17 : decode cL_warn 17 = .ok (.ireturn, 1) := by decide +kernel
theorem dL_warn_18 : decode cL_warn 18 = .ok (.iconst 0, 1) := by decide +kernel
theorem dL_warn_19 : decode cL_warn 19 = .ok (.ireturn, 1) := by decide +kernel
theorem dL_rot_0 : decode cL_rot 0 = .ok (.aload_n 3, 1) := by decide +kernel
theorem dL_rot_1 : decode cL_rot 1 = .ok (.iconst 0, 1) := by decide +kernel
theorem dL_rot_2 : decode cL_rot 2 = .ok (.aload_n 0, 1) := by decide +kernel
theorem dL_rot_3 : decode cL_rot 3 = .ok (.iload_n 1, 1) := by decide +kernel
theorem dL_rot_4 : decode cL_rot 4 = .ok (.iload_n 2, 1) := by decide +kernel
theorem dL_rot_5 : decode cL_rot 5 = .ok (.invokevirtual 98, 3) := by decide +kernel
theorem dL_rot_8 : decode cL_rot 8 = .ok (.ifCond .eq 7, 3) := by decide +kernel
theorem dL_rot_11 : decode cL_rot 11 = .ok (.lconst 1, 1) := by decide +kernel
theorem dL_rot_12 : decode cL_rot 12 = .ok (.goto 4, 3) := by decide +kernel
theorem dL_rot_15 : decode cL_rot 15 = .ok (.lconst 0, 1) := by decide +kernel
theorem dL_rot_16 : decode cL_rot 16 = .ok (.lastore, 1) := by decide +kernel
theorem dL_rot_17 : decode cL_rot 17 = .ok (.goto 11, 3) := by decide +kernel
theorem dL_rot_20 : decode cL_rot 20 = .ok (.astore 4, 2) := by decide +kernel
theorem dL_rot_22 : decode cL_rot 22 = .ok (.iconst 1, 1) := by decide +kernel
theorem dL_rot_23 : decode cL_rot 23 = .ok (.ireturn, 1) := by decide +kernel
theorem dL_rot_24 : decode cL_rot 24 = .ok (.astore 4, 2) := by decide +kernel
theorem dL_rot_26 : decode cL_rot 26 = .ok (.iconst 2, 1) := by decide +kernel
theorem dL_rot_27 : decode cL_rot 27 = .ok (.ireturn, 1) := by decide +kernel
theorem dL_rot_28 : decode cL_rot 28 = .ok (.iconst 0, 1) := by decide +kernel
theorem dL_rot_29 : decode cL_rot 29 = .ok (.ireturn, 1) := by decide +kernel
theorem dL_scrub_0 : decode cL_scrub 0 = .ok (.aload_n 2, 1) := by decide +kernel
theorem dL_scrub_1 : decode cL_scrub 1 = .ok (.iconst 0, 1) := by decide +kernel
theorem dL_scrub_2 : decode cL_scrub 2 = .ok (.aload_n 0, 1) := by decide +kernel
theorem dL_scrub_3 : decode cL_scrub 3 = .ok (.iload_n 1, 1) := by decide +kernel
theorem dL_scrub_4 : decode cL_scrub 4 = .ok (.invokevirtual 101, 3) := by decide +kernel
theorem dL_scrub_7 : decode cL_scrub 7 = .ok (.i2l, 1) := by decide +kernel
theorem dL_scrub_8 : decode cL_scrub 8 = .ok (.lastore, 1) := by decide +kernel
theorem dL_scrub_9 : decode cL_scrub 9 = .ok (.goto 9, 3) := by decide +kernel
theorem dL_scrub_12 : decode cL_scrub 12 = .ok (.astore_n 3, 1) := by decide +kernel
theorem dL_scrub_13 : decode cL_scrub 13 = .ok (.iconst 1, 1) := by decide +kernel
theorem dL_scrub_14 : decode cL_scrub 14 = .ok (.ireturn, 1) := by decide +kernel
theorem dL_scrub_15 : decode cL_scrub 15 = .ok (.astore_n 3, 1) := by decide +kernel
theorem dL_scrub_16 : decode cL_scrub 16 = .ok (.iconst 2, 1) := by decide +kernel
theorem dL_scrub_17 : decode cL_scrub 17 = .ok (.ireturn, 1) := by decide +kernel
theorem dL_scrub_18 : decode cL_scrub 18 = .ok (.iconst 0, 1) := by decide +kernel
theorem dL_scrub_19 : decode cL_scrub 19 = .ok (.ireturn, 1) := by decide +kernel
theorem dL_rottenOn_0 : decode cL_rottenOn 0 = .ok (.aload_n 2, 1) := by decide +kernel
theorem dL_rottenOn_1 : decode cL_rottenOn 1 = .ok (.iconst 0, 1) := by decide +kernel
theorem dL_rottenOn_2 : decode cL_rottenOn 2 = .ok (.aload_n 0, 1) := by decide +kernel
theorem dL_rottenOn_3 : decode cL_rottenOn 3 = .ok (.iload_n 1, 1) := by decide +kernel
theorem dL_rottenOn_4 : decode cL_rottenOn 4 = .ok (.invokevirtual 104, 3) := by decide +kernel
theorem dL_rottenOn_7 : decode cL_rottenOn 7 = .ok (.i2l, 1) := by decide +kernel
theorem dL_rottenOn_8 : decode cL_rottenOn 8 = .ok (.lastore, 1) := by decide +kernel
theorem dL_rottenOn_9 : decode cL_rottenOn 9 = .ok (.goto 6, 3) := by decide +kernel
theorem dL_rottenOn_12 : decode cL_rottenOn 12 = .ok (.astore_n 3, 1) := by decide +kernel
theorem dL_rottenOn_13 : decode cL_rottenOn 13 = .ok (.iconst 1, 1) := by decide +kernel
theorem dL_rottenOn_14 : decode cL_rottenOn 14 = .ok (.ireturn, 1) := by decide +kernel
theorem dL_rottenOn_15 : decode cL_rottenOn 15 = .ok (.iconst 0, 1) := by decide +kernel
theorem dL_rottenOn_16 : decode cL_rottenOn 16 = .ok (.ireturn, 1) := by decide +kernel
theorem dL_meanCopies_0 : decode cL_meanCopies 0 = .ok (.aload_n 1, 1) := by decide +kernel
theorem dL_meanCopies_1 : decode cL_meanCopies 1 = .ok (.iconst 0, 1) := by decide +kernel
theorem dL_meanCopies_2 : decode cL_meanCopies 2 = .ok (.aload_n 0, 1) := by decide +kernel
theorem dL_meanCopies_3 : decode cL_meanCopies 3 = .ok (.invokevirtual 107, 3) := by decide +kernel
theorem dL_meanCopies_6 : decode cL_meanCopies 6 = .ok (.dastore, 1) := by decide +kernel
theorem dL_meanCopies_7 : decode cL_meanCopies 7 = .ok (.goto 6, 3) := by decide +kernel
theorem dL_meanCopies_10 : decode cL_meanCopies 10 = .ok (.astore_n 2, 1) := by decide +kernel
theorem dL_meanCopies_11 : decode cL_meanCopies 11 = .ok (.iconst 1, 1) := by decide +kernel
theorem dL_meanCopies_12 : decode cL_meanCopies 12 = .ok (.ireturn, 1) := by decide +kernel
theorem dL_meanCopies_13 : decode cL_meanCopies 13 = .ok (.iconst 0, 1) := by decide +kernel
theorem dL_meanCopies_14 : decode cL_meanCopies 14 = .ok (.ireturn, 1) := by decide +kernel
theorem dL_usedShare_0 : decode cL_usedShare 0 = .ok (.aload_n 1, 1) := by decide +kernel
theorem dL_usedShare_1 : decode cL_usedShare 1 = .ok (.iconst 0, 1) := by decide +kernel
theorem dL_usedShare_2 : decode cL_usedShare 2 = .ok (.aload_n 0, 1) := by decide +kernel
theorem dL_usedShare_3 : decode cL_usedShare 3 = .ok (.invokevirtual 113, 3) := by decide +kernel
theorem dL_usedShare_6 : decode cL_usedShare 6 = .ok (.f2d, 1) := by decide +kernel
theorem dL_usedShare_7 : decode cL_usedShare 7 = .ok (.dastore, 1) := by decide +kernel
theorem dL_usedShare_8 : decode cL_usedShare 8 = .ok (.goto 6, 3) := by decide +kernel
theorem dL_usedShare_11 : decode cL_usedShare 11 = .ok (.astore_n 2, 1) := by decide +kernel
theorem dL_usedShare_12 : decode cL_usedShare 12 = .ok (.iconst 1, 1) := by decide +kernel
theorem dL_usedShare_13 : decode cL_usedShare 13 = .ok (.ireturn, 1) := by decide +kernel
theorem dL_usedShare_14 : decode cL_usedShare 14 = .ok (.iconst 0, 1) := by decide +kernel
theorem dL_usedShare_15 : decode cL_usedShare 15 = .ok (.ireturn, 1) := by decide +kernel
theorem dL_writeDisk_0 : decode cL_writeDisk 0 = .ok (.aload_n 2, 1) := by decide +kernel
theorem dL_writeDisk_1 : decode cL_writeDisk 1 = .ok (.iconst 0, 1) := by decide +kernel
theorem dL_writeDisk_2 : decode cL_writeDisk 2 = .ok (.aload_n 0, 1) := by decide +kernel
theorem dL_writeDisk_3 : decode cL_writeDisk 3 = .ok (.iload_n 1, 1) := by decide +kernel
theorem dL_writeDisk_4 : decode cL_writeDisk 4 = .ok (.invokevirtual 117, 3) := by decide +kernel
theorem dL_writeDisk_7 : decode cL_writeDisk 7 = .ok (.i2l, 1) := by decide +kernel
theorem dL_writeDisk_8 : decode cL_writeDisk 8 = .ok (.lastore, 1) := by decide +kernel
theorem dL_writeDisk_9 : decode cL_writeDisk 9 = .ok (.goto 6, 3) := by decide +kernel
theorem dL_writeDisk_12 : decode cL_writeDisk 12 = .ok (.astore_n 3, 1) := by decide +kernel
theorem dL_writeDisk_13 : decode cL_writeDisk 13 = .ok (.iconst 1, 1) := by decide +kernel
theorem dL_writeDisk_14 : decode cL_writeDisk 14 = .ok (.ireturn, 1) := by decide +kernel
theorem dL_writeDisk_15 : decode cL_writeDisk 15 = .ok (.iconst 0, 1) := by decide +kernel
theorem dL_writeDisk_16 : decode cL_writeDisk 16 = .ok (.ireturn, 1) := by decide +kernel
theorem dL_lineAt_0 : decode cL_lineAt 0 = .ok (.aload_n 2, 1) := by decide +kernel
theorem dL_lineAt_1 : decode cL_lineAt 1 = .ok (.iconst 0, 1) := by decide +kernel
theorem dL_lineAt_2 : decode cL_lineAt 2 = .ok (.aload_n 0, 1) := by decide +kernel
theorem dL_lineAt_3 : decode cL_lineAt 3 = .ok (.iload_n 1, 1) := by decide +kernel
theorem dL_lineAt_4 : decode cL_lineAt 4 = .ok (.invokevirtual 120, 3) := by decide +kernel
theorem dL_lineAt_7 : decode cL_lineAt 7 = .ok (.i2l, 1) := by decide +kernel
theorem dL_lineAt_8 : decode cL_lineAt 8 = .ok (.lastore, 1) := by decide +kernel
theorem dL_lineAt_9 : decode cL_lineAt 9 = .ok (.goto 6, 3) := by decide +kernel
theorem dL_lineAt_12 : decode cL_lineAt 12 = .ok (.astore_n 3, 1) := by decide +kernel
theorem dL_lineAt_13 : decode cL_lineAt 13 = .ok (.iconst 1, 1) := by decide +kernel
theorem dL_lineAt_14 : decode cL_lineAt 14 = .ok (.ireturn, 1) := by decide +kernel
theorem dL_lineAt_15 : decode cL_lineAt 15 = .ok (.iconst 0, 1) := by decide +kernel
theorem dL_lineAt_16 : decode cL_lineAt 16 = .ok (.ireturn, 1) := by decide +kernel
theorem dL_law_0 : decode cL_law 0 = .ok (.new 8, 3) := by decide +kernel
theorem dL_law_3 : decode cL_law 3 = .ok (.dup, 1) := by decide +kernel
theorem dL_law_4 : decode cL_law 4 = .ok (.invokespecial 123, 3) := by decide +kernel
theorem dL_law_7 : decode cL_law 7 = .ok (.astore_n 1, 1) := by decide +kernel
theorem dL_law_8 : decode cL_law 8 = .ok (.new 124, 3) := by decide +kernel
theorem dL_law_11 : decode cL_law 11 = .ok (.dup, 1) := by decide +kernel
theorem dL_law_12 : decode cL_law 12 = .ok (.invokespecial 126, 3) := by decide +kernel
theorem dL_law_15 : decode cL_law 15 = .ok (.astore_n 2, 1) := by decide +kernel
theorem dL_law_16 : decode cL_law 16 = .ok (.iconst 1, 1) := by decide +kernel
theorem dL_law_17 : decode cL_law 17 = .ok (.newarray .long, 2) := by decide +kernel
theorem dL_law_19 : decode cL_law 19 = .ok (.astore_n 3, 1) := by decide +kernel
theorem dL_law_20 : decode cL_law 20 = .ok (.iconst 1, 1) := by decide +kernel
theorem dL_law_21 : decode cL_law 21 = .ok (.newarray .double, 2) := by decide +kernel
theorem dL_law_23 : decode cL_law 23 = .ok (.astore 4, 2) := by decide +kernel
theorem dL_law_25 : decode cL_law 25 = .ok (.iconst 0, 1) := by decide +kernel
theorem dL_law_26 : decode cL_law 26 = .ok (.istore 5, 2) := by decide +kernel
theorem dL_law_28 : decode cL_law 28 = .ok (.iload 5, 2) := by decide +kernel
theorem dL_law_30 : decode cL_law 30 = .ok (.aload_n 0, 1) := by decide +kernel
theorem dL_law_31 : decode cL_law 31 = .ok (.arraylength, 1) := by decide +kernel
theorem dL_law_32 : decode cL_law 32 = .ok (.iconst 4, 1) := by decide +kernel
theorem dL_law_33 : decode cL_law 33 = .ok (.isub, 1) := by decide +kernel
theorem dL_law_34 : decode cL_law 34 = .ok (.if_icmp .gt 2267, 3) := by decide +kernel
theorem dL_law_37 : decode cL_law 37 = .ok (.aload_n 0, 1) := by decide +kernel
theorem dL_law_38 : decode cL_law 38 = .ok (.iload 5, 2) := by decide +kernel
theorem dL_law_40 : decode cL_law 40 = .ok (.iaload, 1) := by decide +kernel
theorem dL_law_41 : decode cL_law 41 = .ok (.bipush 63, 2) := by decide +kernel
theorem dL_law_43 : decode cL_law 43 = .ok (.iand, 1) := by decide +kernel
theorem dL_law_44 : decode cL_law 44 = .ok (.tableswitch 2251 0 39 #[176, 232, 245, 301, 357, 425, 438, 494, 562, 642, 698, 754, 810, 866, 922, 978, 1034, 1047, 1103, 1171, 1239, 1319, 1387, 1462, 1475, 1488, 1551, 1614, 1670, 1726, 1782, 1857, 1913, 1969, 1982, 1995, 2060, 2126, 2139, 2195], 176) := by decide +kernel
theorem dL_law_220 : decode cL_law 220 = .ok (.aload_n 1, 1) := by decide +kernel
theorem dL_law_221 : decode cL_law 221 = .ok (.aload_n 0, 1) := by decide +kernel
theorem dL_law_222 : decode cL_law 222 = .ok (.iload 5, 2) := by decide +kernel
theorem dL_law_224 : decode cL_law 224 = .ok (.iconst 1, 1) := by decide +kernel
theorem dL_law_225 : decode cL_law 225 = .ok (.iadd, 1) := by decide +kernel
theorem dL_law_226 : decode cL_law 226 = .ok (.iaload, 1) := by decide +kernel
theorem dL_law_227 : decode cL_law 227 = .ok (.aload_n 3, 1) := by decide +kernel
theorem dL_law_228 : decode cL_law 228 = .ok (.invokestatic 127, 3) := by decide +kernel
theorem dL_law_231 : decode cL_law 231 = .ok (.istore 6, 2) := by decide +kernel
theorem dL_law_233 : decode cL_law 233 = .ok (.aload_n 2, 1) := by decide +kernel
theorem dL_law_234 : decode cL_law 234 = .ok (.aload_n 0, 1) := by decide +kernel
theorem dL_law_235 : decode cL_law 235 = .ok (.iload 5, 2) := by decide +kernel
theorem dL_law_237 : decode cL_law 237 = .ok (.iconst 1, 1) := by decide +kernel
theorem dL_law_238 : decode cL_law 238 = .ok (.iadd, 1) := by decide +kernel
theorem dL_law_239 : decode cL_law 239 = .ok (.iaload, 1) := by decide +kernel
theorem dL_law_240 : decode cL_law 240 = .ok (.invokevirtual 132, 3) := by decide +kernel
theorem dL_law_243 : decode cL_law 243 = .ok (.istore 7, 2) := by decide +kernel
theorem dL_law_245 : decode cL_law 245 = .ok (.aload_n 2, 1) := by decide +kernel
theorem dL_law_246 : decode cL_law 246 = .ok (.invokevirtual 133, 3) := by decide +kernel
theorem dL_law_249 : decode cL_law 249 = .ok (.iload 6, 2) := by decide +kernel
theorem dL_law_251 : decode cL_law 251 = .ok (.if_icmp .eq 5, 3) := by decide +kernel
theorem dL_law_254 : decode cL_law 254 = .ok (.iconst 0, 1) := by decide +kernel
theorem dL_law_255 : decode cL_law 255 = .ok (.ireturn, 1) := by decide +kernel
theorem dL_law_256 : decode cL_law 256 = .ok (.iload 6, 2) := by decide +kernel
theorem dL_law_258 : decode cL_law 258 = .ok (.ifCond .ne 15, 3) := by decide +kernel
theorem dL_law_261 : decode cL_law 261 = .ok (.aload_n 3, 1) := by decide +kernel
theorem dL_law_262 : decode cL_law 262 = .ok (.iconst 0, 1) := by decide +kernel
theorem dL_law_263 : decode cL_law 263 = .ok (.laload, 1) := by decide +kernel
theorem dL_law_264 : decode cL_law 264 = .ok (.iload 7, 2) := by decide +kernel
theorem dL_law_266 : decode cL_law 266 = .ok (.i2l, 1) := by decide +kernel
theorem dL_law_267 : decode cL_law 267 = .ok (.lcmp, 1) := by decide +kernel
theorem dL_law_268 : decode cL_law 268 = .ok (.ifCond .eq 5, 3) := by decide +kernel
theorem dL_law_271 : decode cL_law 271 = .ok (.iconst 0, 1) := by decide +kernel
theorem dL_law_272 : decode cL_law 272 = .ok (.ireturn, 1) := by decide +kernel
theorem dL_law_273 : decode cL_law 273 = .ok (.goto 2022, 3) := by decide +kernel
theorem dL_law_276 : decode cL_law 276 = .ok (.aload_n 1, 1) := by decide +kernel
theorem dL_law_277 : decode cL_law 277 = .ok (.invokevirtual 137, 3) := by decide +kernel
theorem dL_law_280 : decode cL_law 280 = .ok (.aload_n 2, 1) := by decide +kernel
theorem dL_law_281 : decode cL_law 281 = .ok (.invokevirtual 140, 3) := by decide +kernel
theorem dL_law_284 : decode cL_law 284 = .ok (.if_icmp .eq 2011, 3) := by decide +kernel
theorem dL_law_287 : decode cL_law 287 = .ok (.iconst 0, 1) := by decide +kernel
theorem dL_law_288 : decode cL_law 288 = .ok (.ireturn, 1) := by decide +kernel
theorem dL_law_289 : decode cL_law 289 = .ok (.aload_n 1, 1) := by decide +kernel
theorem dL_law_290 : decode cL_law 290 = .ok (.aload_n 0, 1) := by decide +kernel
theorem dL_law_291 : decode cL_law 291 = .ok (.iload 5, 2) := by decide +kernel
theorem dL_law_293 : decode cL_law 293 = .ok (.iconst 1, 1) := by decide +kernel
theorem dL_law_294 : decode cL_law 294 = .ok (.iadd, 1) := by decide +kernel
theorem dL_law_295 : decode cL_law 295 = .ok (.iaload, 1) := by decide +kernel
theorem dL_law_296 : decode cL_law 296 = .ok (.aload_n 3, 1) := by decide +kernel
theorem dL_law_297 : decode cL_law 297 = .ok (.invokestatic 141, 3) := by decide +kernel
theorem dL_law_300 : decode cL_law 300 = .ok (.istore 6, 2) := by decide +kernel
theorem dL_law_302 : decode cL_law 302 = .ok (.aload_n 2, 1) := by decide +kernel
theorem dL_law_303 : decode cL_law 303 = .ok (.aload_n 0, 1) := by decide +kernel
theorem dL_law_304 : decode cL_law 304 = .ok (.iload 5, 2) := by decide +kernel
theorem dL_law_306 : decode cL_law 306 = .ok (.iconst 1, 1) := by decide +kernel
theorem dL_law_307 : decode cL_law 307 = .ok (.iadd, 1) := by decide +kernel
theorem dL_law_308 : decode cL_law 308 = .ok (.iaload, 1) := by decide +kernel
theorem dL_law_309 : decode cL_law 309 = .ok (.invokevirtual 143, 3) := by decide +kernel
theorem dL_law_312 : decode cL_law 312 = .ok (.istore 7, 2) := by decide +kernel
theorem dL_law_314 : decode cL_law 314 = .ok (.aload_n 2, 1) := by decide +kernel
theorem dL_law_315 : decode cL_law 315 = .ok (.invokevirtual 133, 3) := by decide +kernel
theorem dL_law_318 : decode cL_law 318 = .ok (.iload 6, 2) := by decide +kernel
theorem dL_law_320 : decode cL_law 320 = .ok (.if_icmp .eq 5, 3) := by decide +kernel
theorem dL_law_323 : decode cL_law 323 = .ok (.iconst 0, 1) := by decide +kernel
theorem dL_law_324 : decode cL_law 324 = .ok (.ireturn, 1) := by decide +kernel
theorem dL_law_325 : decode cL_law 325 = .ok (.iload 6, 2) := by decide +kernel
theorem dL_law_327 : decode cL_law 327 = .ok (.ifCond .ne 15, 3) := by decide +kernel
theorem dL_law_330 : decode cL_law 330 = .ok (.aload_n 3, 1) := by decide +kernel
theorem dL_law_331 : decode cL_law 331 = .ok (.iconst 0, 1) := by decide +kernel
theorem dL_law_332 : decode cL_law 332 = .ok (.laload, 1) := by decide +kernel
theorem dL_law_333 : decode cL_law 333 = .ok (.iload 7, 2) := by decide +kernel
theorem dL_law_335 : decode cL_law 335 = .ok (.i2l, 1) := by decide +kernel
theorem dL_law_336 : decode cL_law 336 = .ok (.lcmp, 1) := by decide +kernel
theorem dL_law_337 : decode cL_law 337 = .ok (.ifCond .eq 5, 3) := by decide +kernel
theorem dL_law_340 : decode cL_law 340 = .ok (.iconst 0, 1) := by decide +kernel
theorem dL_law_341 : decode cL_law 341 = .ok (.ireturn, 1) := by decide +kernel
theorem dL_law_342 : decode cL_law 342 = .ok (.goto 1953, 3) := by decide +kernel
theorem dL_law_345 : decode cL_law 345 = .ok (.aload_n 1, 1) := by decide +kernel
theorem dL_law_346 : decode cL_law 346 = .ok (.aload_n 0, 1) := by decide +kernel
theorem dL_law_347 : decode cL_law 347 = .ok (.iload 5, 2) := by decide +kernel
theorem dL_law_349 : decode cL_law 349 = .ok (.iconst 1, 1) := by decide +kernel
theorem dL_law_350 : decode cL_law 350 = .ok (.iadd, 1) := by decide +kernel
theorem dL_law_351 : decode cL_law 351 = .ok (.iaload, 1) := by decide +kernel
theorem dL_law_352 : decode cL_law 352 = .ok (.aload_n 3, 1) := by decide +kernel
theorem dL_law_353 : decode cL_law 353 = .ok (.invokestatic 144, 3) := by decide +kernel
theorem dL_law_356 : decode cL_law 356 = .ok (.istore 6, 2) := by decide +kernel
theorem dL_law_358 : decode cL_law 358 = .ok (.aload_n 2, 1) := by decide +kernel
theorem dL_law_359 : decode cL_law 359 = .ok (.aload_n 0, 1) := by decide +kernel
theorem dL_law_360 : decode cL_law 360 = .ok (.iload 5, 2) := by decide +kernel
theorem dL_law_362 : decode cL_law 362 = .ok (.iconst 1, 1) := by decide +kernel
theorem dL_law_363 : decode cL_law 363 = .ok (.iadd, 1) := by decide +kernel
theorem dL_law_364 : decode cL_law 364 = .ok (.iaload, 1) := by decide +kernel
theorem dL_law_365 : decode cL_law 365 = .ok (.invokevirtual 146, 3) := by decide +kernel
theorem dL_law_368 : decode cL_law 368 = .ok (.istore 7, 2) := by decide +kernel
theorem dL_law_370 : decode cL_law 370 = .ok (.aload_n 2, 1) := by decide +kernel
theorem dL_law_371 : decode cL_law 371 = .ok (.invokevirtual 133, 3) := by decide +kernel
theorem dL_law_374 : decode cL_law 374 = .ok (.iload 6, 2) := by decide +kernel
theorem dL_law_376 : decode cL_law 376 = .ok (.if_icmp .eq 5, 3) := by decide +kernel
theorem dL_law_379 : decode cL_law 379 = .ok (.iconst 0, 1) := by decide +kernel
theorem dL_law_380 : decode cL_law 380 = .ok (.ireturn, 1) := by decide +kernel
theorem dL_law_381 : decode cL_law 381 = .ok (.iload 6, 2) := by decide +kernel
theorem dL_law_383 : decode cL_law 383 = .ok (.ifCond .ne 15, 3) := by decide +kernel
theorem dL_law_386 : decode cL_law 386 = .ok (.aload_n 3, 1) := by decide +kernel
theorem dL_law_387 : decode cL_law 387 = .ok (.iconst 0, 1) := by decide +kernel
theorem dL_law_388 : decode cL_law 388 = .ok (.laload, 1) := by decide +kernel
theorem dL_law_389 : decode cL_law 389 = .ok (.iload 7, 2) := by decide +kernel
theorem dL_law_391 : decode cL_law 391 = .ok (.i2l, 1) := by decide +kernel
theorem dL_law_392 : decode cL_law 392 = .ok (.lcmp, 1) := by decide +kernel
theorem dL_law_393 : decode cL_law 393 = .ok (.ifCond .eq 5, 3) := by decide +kernel
theorem dL_law_396 : decode cL_law 396 = .ok (.iconst 0, 1) := by decide +kernel
theorem dL_law_397 : decode cL_law 397 = .ok (.ireturn, 1) := by decide +kernel
theorem dL_law_398 : decode cL_law 398 = .ok (.goto 1897, 3) := by decide +kernel
theorem dL_law_401 : decode cL_law 401 = .ok (.aload_n 1, 1) := by decide +kernel
theorem dL_law_402 : decode cL_law 402 = .ok (.aload_n 0, 1) := by decide +kernel
theorem dL_law_403 : decode cL_law 403 = .ok (.iload 5, 2) := by decide +kernel
theorem dL_law_405 : decode cL_law 405 = .ok (.iconst 1, 1) := by decide +kernel
theorem dL_law_406 : decode cL_law 406 = .ok (.iadd, 1) := by decide +kernel
theorem dL_law_407 : decode cL_law 407 = .ok (.iaload, 1) := by decide +kernel
theorem dL_law_408 : decode cL_law 408 = .ok (.aload_n 0, 1) := by decide +kernel
theorem dL_law_409 : decode cL_law 409 = .ok (.iload 5, 2) := by decide +kernel
theorem dL_law_411 : decode cL_law 411 = .ok (.iconst 2, 1) := by decide +kernel
theorem dL_law_412 : decode cL_law 412 = .ok (.iadd, 1) := by decide +kernel
theorem dL_law_413 : decode cL_law 413 = .ok (.iaload, 1) := by decide +kernel
theorem dL_law_414 : decode cL_law 414 = .ok (.aload_n 3, 1) := by decide +kernel
theorem dL_law_415 : decode cL_law 415 = .ok (.invokestatic 147, 3) := by decide +kernel
theorem dL_law_418 : decode cL_law 418 = .ok (.istore 6, 2) := by decide +kernel
theorem dL_law_420 : decode cL_law 420 = .ok (.aload_n 2, 1) := by decide +kernel
theorem dL_law_421 : decode cL_law 421 = .ok (.aload_n 0, 1) := by decide +kernel
theorem dL_law_422 : decode cL_law 422 = .ok (.iload 5, 2) := by decide +kernel
theorem dL_law_424 : decode cL_law 424 = .ok (.iconst 1, 1) := by decide +kernel
theorem dL_law_425 : decode cL_law 425 = .ok (.iadd, 1) := by decide +kernel
theorem dL_law_426 : decode cL_law 426 = .ok (.iaload, 1) := by decide +kernel
theorem dL_law_427 : decode cL_law 427 = .ok (.aload_n 0, 1) := by decide +kernel
theorem dL_law_428 : decode cL_law 428 = .ok (.iload 5, 2) := by decide +kernel
theorem dL_law_430 : decode cL_law 430 = .ok (.iconst 2, 1) := by decide +kernel
theorem dL_law_431 : decode cL_law 431 = .ok (.iadd, 1) := by decide +kernel
theorem dL_law_432 : decode cL_law 432 = .ok (.iaload, 1) := by decide +kernel
theorem dL_law_433 : decode cL_law 433 = .ok (.invokevirtual 150, 3) := by decide +kernel
theorem dL_law_436 : decode cL_law 436 = .ok (.istore 7, 2) := by decide +kernel
theorem dL_law_438 : decode cL_law 438 = .ok (.aload_n 2, 1) := by decide +kernel
theorem dL_law_439 : decode cL_law 439 = .ok (.invokevirtual 133, 3) := by decide +kernel
theorem dL_law_442 : decode cL_law 442 = .ok (.iload 6, 2) := by decide +kernel
theorem dL_law_444 : decode cL_law 444 = .ok (.if_icmp .eq 5, 3) := by decide +kernel
theorem dL_law_447 : decode cL_law 447 = .ok (.iconst 0, 1) := by decide +kernel
theorem dL_law_448 : decode cL_law 448 = .ok (.ireturn, 1) := by decide +kernel
theorem dL_law_449 : decode cL_law 449 = .ok (.iload 6, 2) := by decide +kernel
theorem dL_law_451 : decode cL_law 451 = .ok (.ifCond .ne 15, 3) := by decide +kernel
theorem dL_law_454 : decode cL_law 454 = .ok (.aload_n 3, 1) := by decide +kernel
theorem dL_law_455 : decode cL_law 455 = .ok (.iconst 0, 1) := by decide +kernel
theorem dL_law_456 : decode cL_law 456 = .ok (.laload, 1) := by decide +kernel
theorem dL_law_457 : decode cL_law 457 = .ok (.iload 7, 2) := by decide +kernel
theorem dL_law_459 : decode cL_law 459 = .ok (.i2l, 1) := by decide +kernel
theorem dL_law_460 : decode cL_law 460 = .ok (.lcmp, 1) := by decide +kernel
theorem dL_law_461 : decode cL_law 461 = .ok (.ifCond .eq 5, 3) := by decide +kernel
theorem dL_law_464 : decode cL_law 464 = .ok (.iconst 0, 1) := by decide +kernel
theorem dL_law_465 : decode cL_law 465 = .ok (.ireturn, 1) := by decide +kernel
theorem dL_law_466 : decode cL_law 466 = .ok (.goto 1829, 3) := by decide +kernel
theorem dL_law_469 : decode cL_law 469 = .ok (.aload_n 1, 1) := by decide +kernel
theorem dL_law_470 : decode cL_law 470 = .ok (.invokevirtual 151, 3) := by decide +kernel
theorem dL_law_473 : decode cL_law 473 = .ok (.aload_n 2, 1) := by decide +kernel
theorem dL_law_474 : decode cL_law 474 = .ok (.invokevirtual 154, 3) := by decide +kernel
theorem dL_law_477 : decode cL_law 477 = .ok (.if_icmp .eq 1818, 3) := by decide +kernel
theorem dL_law_480 : decode cL_law 480 = .ok (.iconst 0, 1) := by decide +kernel
theorem dL_law_481 : decode cL_law 481 = .ok (.ireturn, 1) := by decide +kernel
theorem dL_law_482 : decode cL_law 482 = .ok (.aload_n 1, 1) := by decide +kernel
theorem dL_law_483 : decode cL_law 483 = .ok (.aload_n 0, 1) := by decide +kernel
theorem dL_law_484 : decode cL_law 484 = .ok (.iload 5, 2) := by decide +kernel
theorem dL_law_486 : decode cL_law 486 = .ok (.iconst 1, 1) := by decide +kernel
theorem dL_law_487 : decode cL_law 487 = .ok (.iadd, 1) := by decide +kernel
theorem dL_law_488 : decode cL_law 488 = .ok (.iaload, 1) := by decide +kernel
theorem dL_law_489 : decode cL_law 489 = .ok (.aload_n 3, 1) := by decide +kernel
theorem dL_law_490 : decode cL_law 490 = .ok (.invokestatic 155, 3) := by decide +kernel
theorem dL_law_493 : decode cL_law 493 = .ok (.istore 6, 2) := by decide +kernel
theorem dL_law_495 : decode cL_law 495 = .ok (.aload_n 2, 1) := by decide +kernel
theorem dL_law_496 : decode cL_law 496 = .ok (.aload_n 0, 1) := by decide +kernel
theorem dL_law_497 : decode cL_law 497 = .ok (.iload 5, 2) := by decide +kernel
theorem dL_law_499 : decode cL_law 499 = .ok (.iconst 1, 1) := by decide +kernel
theorem dL_law_500 : decode cL_law 500 = .ok (.iadd, 1) := by decide +kernel
theorem dL_law_501 : decode cL_law 501 = .ok (.iaload, 1) := by decide +kernel
theorem dL_law_502 : decode cL_law 502 = .ok (.invokevirtual 157, 3) := by decide +kernel
theorem dL_law_505 : decode cL_law 505 = .ok (.istore 7, 2) := by decide +kernel
theorem dL_law_507 : decode cL_law 507 = .ok (.aload_n 2, 1) := by decide +kernel
theorem dL_law_508 : decode cL_law 508 = .ok (.invokevirtual 133, 3) := by decide +kernel
theorem dL_law_511 : decode cL_law 511 = .ok (.iload 6, 2) := by decide +kernel
theorem dL_law_513 : decode cL_law 513 = .ok (.if_icmp .eq 5, 3) := by decide +kernel
theorem dL_law_516 : decode cL_law 516 = .ok (.iconst 0, 1) := by decide +kernel
theorem dL_law_517 : decode cL_law 517 = .ok (.ireturn, 1) := by decide +kernel
theorem dL_law_518 : decode cL_law 518 = .ok (.iload 6, 2) := by decide +kernel
theorem dL_law_520 : decode cL_law 520 = .ok (.ifCond .ne 15, 3) := by decide +kernel
theorem dL_law_523 : decode cL_law 523 = .ok (.aload_n 3, 1) := by decide +kernel
theorem dL_law_524 : decode cL_law 524 = .ok (.iconst 0, 1) := by decide +kernel
theorem dL_law_525 : decode cL_law 525 = .ok (.laload, 1) := by decide +kernel
theorem dL_law_526 : decode cL_law 526 = .ok (.iload 7, 2) := by decide +kernel
theorem dL_law_528 : decode cL_law 528 = .ok (.i2l, 1) := by decide +kernel
theorem dL_law_529 : decode cL_law 529 = .ok (.lcmp, 1) := by decide +kernel
theorem dL_law_530 : decode cL_law 530 = .ok (.ifCond .eq 5, 3) := by decide +kernel
theorem dL_law_533 : decode cL_law 533 = .ok (.iconst 0, 1) := by decide +kernel
theorem dL_law_534 : decode cL_law 534 = .ok (.ireturn, 1) := by decide +kernel
theorem dL_law_535 : decode cL_law 535 = .ok (.goto 1760, 3) := by decide +kernel
theorem dL_law_538 : decode cL_law 538 = .ok (.aload_n 1, 1) := by decide +kernel
theorem dL_law_539 : decode cL_law 539 = .ok (.aload_n 0, 1) := by decide +kernel
theorem dL_law_540 : decode cL_law 540 = .ok (.iload 5, 2) := by decide +kernel
theorem dL_law_542 : decode cL_law 542 = .ok (.iconst 1, 1) := by decide +kernel
theorem dL_law_543 : decode cL_law 543 = .ok (.iadd, 1) := by decide +kernel
theorem dL_law_544 : decode cL_law 544 = .ok (.iaload, 1) := by decide +kernel
theorem dL_law_545 : decode cL_law 545 = .ok (.aload_n 0, 1) := by decide +kernel
theorem dL_law_546 : decode cL_law 546 = .ok (.iload 5, 2) := by decide +kernel
theorem dL_law_548 : decode cL_law 548 = .ok (.iconst 2, 1) := by decide +kernel
theorem dL_law_549 : decode cL_law 549 = .ok (.iadd, 1) := by decide +kernel
theorem dL_law_550 : decode cL_law 550 = .ok (.iaload, 1) := by decide +kernel
theorem dL_law_551 : decode cL_law 551 = .ok (.aload_n 3, 1) := by decide +kernel
theorem dL_law_552 : decode cL_law 552 = .ok (.invokestatic 158, 3) := by decide +kernel
theorem dL_law_555 : decode cL_law 555 = .ok (.istore 6, 2) := by decide +kernel
theorem dL_law_557 : decode cL_law 557 = .ok (.aload_n 2, 1) := by decide +kernel
theorem dL_law_558 : decode cL_law 558 = .ok (.aload_n 0, 1) := by decide +kernel
theorem dL_law_559 : decode cL_law 559 = .ok (.iload 5, 2) := by decide +kernel
theorem dL_law_561 : decode cL_law 561 = .ok (.iconst 1, 1) := by decide +kernel
theorem dL_law_562 : decode cL_law 562 = .ok (.iadd, 1) := by decide +kernel
theorem dL_law_563 : decode cL_law 563 = .ok (.iaload, 1) := by decide +kernel
theorem dL_law_564 : decode cL_law 564 = .ok (.aload_n 0, 1) := by decide +kernel
theorem dL_law_565 : decode cL_law 565 = .ok (.iload 5, 2) := by decide +kernel
theorem dL_law_567 : decode cL_law 567 = .ok (.iconst 2, 1) := by decide +kernel
theorem dL_law_568 : decode cL_law 568 = .ok (.iadd, 1) := by decide +kernel
theorem dL_law_569 : decode cL_law 569 = .ok (.iaload, 1) := by decide +kernel
theorem dL_law_570 : decode cL_law 570 = .ok (.invokevirtual 160, 3) := by decide +kernel
theorem dL_law_573 : decode cL_law 573 = .ok (.istore 7, 2) := by decide +kernel
theorem dL_law_575 : decode cL_law 575 = .ok (.aload_n 2, 1) := by decide +kernel
theorem dL_law_576 : decode cL_law 576 = .ok (.invokevirtual 133, 3) := by decide +kernel
theorem dL_law_579 : decode cL_law 579 = .ok (.iload 6, 2) := by decide +kernel
theorem dL_law_581 : decode cL_law 581 = .ok (.if_icmp .eq 5, 3) := by decide +kernel
theorem dL_law_584 : decode cL_law 584 = .ok (.iconst 0, 1) := by decide +kernel
theorem dL_law_585 : decode cL_law 585 = .ok (.ireturn, 1) := by decide +kernel
theorem dL_law_586 : decode cL_law 586 = .ok (.iload 6, 2) := by decide +kernel
theorem dL_law_588 : decode cL_law 588 = .ok (.ifCond .ne 15, 3) := by decide +kernel
theorem dL_law_591 : decode cL_law 591 = .ok (.aload_n 3, 1) := by decide +kernel
theorem dL_law_592 : decode cL_law 592 = .ok (.iconst 0, 1) := by decide +kernel
theorem dL_law_593 : decode cL_law 593 = .ok (.laload, 1) := by decide +kernel
theorem dL_law_594 : decode cL_law 594 = .ok (.iload 7, 2) := by decide +kernel
theorem dL_law_596 : decode cL_law 596 = .ok (.i2l, 1) := by decide +kernel
theorem dL_law_597 : decode cL_law 597 = .ok (.lcmp, 1) := by decide +kernel
theorem dL_law_598 : decode cL_law 598 = .ok (.ifCond .eq 5, 3) := by decide +kernel
theorem dL_law_601 : decode cL_law 601 = .ok (.iconst 0, 1) := by decide +kernel
theorem dL_law_602 : decode cL_law 602 = .ok (.ireturn, 1) := by decide +kernel
theorem dL_law_603 : decode cL_law 603 = .ok (.goto 1692, 3) := by decide +kernel
theorem dL_law_606 : decode cL_law 606 = .ok (.aload_n 1, 1) := by decide +kernel
theorem dL_law_607 : decode cL_law 607 = .ok (.aload_n 0, 1) := by decide +kernel
theorem dL_law_608 : decode cL_law 608 = .ok (.iload 5, 2) := by decide +kernel
theorem dL_law_610 : decode cL_law 610 = .ok (.iconst 1, 1) := by decide +kernel
theorem dL_law_611 : decode cL_law 611 = .ok (.iadd, 1) := by decide +kernel
theorem dL_law_612 : decode cL_law 612 = .ok (.iaload, 1) := by decide +kernel
theorem dL_law_613 : decode cL_law 613 = .ok (.aload_n 0, 1) := by decide +kernel
theorem dL_law_614 : decode cL_law 614 = .ok (.iload 5, 2) := by decide +kernel
theorem dL_law_616 : decode cL_law 616 = .ok (.iconst 2, 1) := by decide +kernel
theorem dL_law_617 : decode cL_law 617 = .ok (.iadd, 1) := by decide +kernel
theorem dL_law_618 : decode cL_law 618 = .ok (.iaload, 1) := by decide +kernel
theorem dL_law_619 : decode cL_law 619 = .ok (.aload_n 0, 1) := by decide +kernel
theorem dL_law_620 : decode cL_law 620 = .ok (.iload 5, 2) := by decide +kernel
theorem dL_law_622 : decode cL_law 622 = .ok (.iconst 3, 1) := by decide +kernel
theorem dL_law_623 : decode cL_law 623 = .ok (.iadd, 1) := by decide +kernel
theorem dL_law_624 : decode cL_law 624 = .ok (.iaload, 1) := by decide +kernel
theorem dL_law_625 : decode cL_law 625 = .ok (.aload_n 3, 1) := by decide +kernel
theorem dL_law_626 : decode cL_law 626 = .ok (.invokestatic 161, 3) := by decide +kernel
theorem dL_law_629 : decode cL_law 629 = .ok (.istore 6, 2) := by decide +kernel
theorem dL_law_631 : decode cL_law 631 = .ok (.aload_n 2, 1) := by decide +kernel
theorem dL_law_632 : decode cL_law 632 = .ok (.aload_n 0, 1) := by decide +kernel
theorem dL_law_633 : decode cL_law 633 = .ok (.iload 5, 2) := by decide +kernel
theorem dL_law_635 : decode cL_law 635 = .ok (.iconst 1, 1) := by decide +kernel
theorem dL_law_636 : decode cL_law 636 = .ok (.iadd, 1) := by decide +kernel
theorem dL_law_637 : decode cL_law 637 = .ok (.iaload, 1) := by decide +kernel
theorem dL_law_638 : decode cL_law 638 = .ok (.aload_n 0, 1) := by decide +kernel
theorem dL_law_639 : decode cL_law 639 = .ok (.iload 5, 2) := by decide +kernel
theorem dL_law_641 : decode cL_law 641 = .ok (.iconst 2, 1) := by decide +kernel
theorem dL_law_642 : decode cL_law 642 = .ok (.iadd, 1) := by decide +kernel
theorem dL_law_643 : decode cL_law 643 = .ok (.iaload, 1) := by decide +kernel
theorem dL_law_644 : decode cL_law 644 = .ok (.aload_n 0, 1) := by decide +kernel
theorem dL_law_645 : decode cL_law 645 = .ok (.iload 5, 2) := by decide +kernel
theorem dL_law_647 : decode cL_law 647 = .ok (.iconst 3, 1) := by decide +kernel
theorem dL_law_648 : decode cL_law 648 = .ok (.iadd, 1) := by decide +kernel
theorem dL_law_649 : decode cL_law 649 = .ok (.iaload, 1) := by decide +kernel
theorem dL_law_650 : decode cL_law 650 = .ok (.invokevirtual 164, 3) := by decide +kernel
theorem dL_law_653 : decode cL_law 653 = .ok (.istore 7, 2) := by decide +kernel
theorem dL_law_655 : decode cL_law 655 = .ok (.aload_n 2, 1) := by decide +kernel
theorem dL_law_656 : decode cL_law 656 = .ok (.invokevirtual 133, 3) := by decide +kernel
theorem dL_law_659 : decode cL_law 659 = .ok (.iload 6, 2) := by decide +kernel
theorem dL_law_661 : decode cL_law 661 = .ok (.if_icmp .eq 5, 3) := by decide +kernel
theorem dL_law_664 : decode cL_law 664 = .ok (.iconst 0, 1) := by decide +kernel
theorem dL_law_665 : decode cL_law 665 = .ok (.ireturn, 1) := by decide +kernel
theorem dL_law_666 : decode cL_law 666 = .ok (.iload 6, 2) := by decide +kernel
theorem dL_law_668 : decode cL_law 668 = .ok (.ifCond .ne 15, 3) := by decide +kernel
theorem dL_law_671 : decode cL_law 671 = .ok (.aload_n 3, 1) := by decide +kernel
theorem dL_law_672 : decode cL_law 672 = .ok (.iconst 0, 1) := by decide +kernel
theorem dL_law_673 : decode cL_law 673 = .ok (.laload, 1) := by decide +kernel
theorem dL_law_674 : decode cL_law 674 = .ok (.iload 7, 2) := by decide +kernel
theorem dL_law_676 : decode cL_law 676 = .ok (.i2l, 1) := by decide +kernel
theorem dL_law_677 : decode cL_law 677 = .ok (.lcmp, 1) := by decide +kernel
theorem dL_law_678 : decode cL_law 678 = .ok (.ifCond .eq 5, 3) := by decide +kernel
theorem dL_law_681 : decode cL_law 681 = .ok (.iconst 0, 1) := by decide +kernel
theorem dL_law_682 : decode cL_law 682 = .ok (.ireturn, 1) := by decide +kernel
theorem dL_law_683 : decode cL_law 683 = .ok (.goto 1612, 3) := by decide +kernel
theorem dL_law_686 : decode cL_law 686 = .ok (.aload_n 1, 1) := by decide +kernel
theorem dL_law_687 : decode cL_law 687 = .ok (.aload_n 0, 1) := by decide +kernel
theorem dL_law_688 : decode cL_law 688 = .ok (.iload 5, 2) := by decide +kernel
theorem dL_law_690 : decode cL_law 690 = .ok (.iconst 1, 1) := by decide +kernel
theorem dL_law_691 : decode cL_law 691 = .ok (.iadd, 1) := by decide +kernel
theorem dL_law_692 : decode cL_law 692 = .ok (.iaload, 1) := by decide +kernel
theorem dL_law_693 : decode cL_law 693 = .ok (.aload_n 3, 1) := by decide +kernel
theorem dL_law_694 : decode cL_law 694 = .ok (.invokestatic 165, 3) := by decide +kernel
theorem dL_law_697 : decode cL_law 697 = .ok (.istore 6, 2) := by decide +kernel
theorem dL_law_699 : decode cL_law 699 = .ok (.aload_n 2, 1) := by decide +kernel
theorem dL_law_700 : decode cL_law 700 = .ok (.aload_n 0, 1) := by decide +kernel
theorem dL_law_701 : decode cL_law 701 = .ok (.iload 5, 2) := by decide +kernel
theorem dL_law_703 : decode cL_law 703 = .ok (.iconst 1, 1) := by decide +kernel
theorem dL_law_704 : decode cL_law 704 = .ok (.iadd, 1) := by decide +kernel
theorem dL_law_705 : decode cL_law 705 = .ok (.iaload, 1) := by decide +kernel
theorem dL_law_706 : decode cL_law 706 = .ok (.invokevirtual 167, 3) := by decide +kernel
theorem dL_law_709 : decode cL_law 709 = .ok (.istore 7, 2) := by decide +kernel
theorem dL_law_711 : decode cL_law 711 = .ok (.aload_n 2, 1) := by decide +kernel
theorem dL_law_712 : decode cL_law 712 = .ok (.invokevirtual 133, 3) := by decide +kernel
theorem dL_law_715 : decode cL_law 715 = .ok (.iload 6, 2) := by decide +kernel
theorem dL_law_717 : decode cL_law 717 = .ok (.if_icmp .eq 5, 3) := by decide +kernel
theorem dL_law_720 : decode cL_law 720 = .ok (.iconst 0, 1) := by decide +kernel
theorem dL_law_721 : decode cL_law 721 = .ok (.ireturn, 1) := by decide +kernel
theorem dL_law_722 : decode cL_law 722 = .ok (.iload 6, 2) := by decide +kernel
theorem dL_law_724 : decode cL_law 724 = .ok (.ifCond .ne 15, 3) := by decide +kernel
theorem dL_law_727 : decode cL_law 727 = .ok (.aload_n 3, 1) := by decide +kernel
theorem dL_law_728 : decode cL_law 728 = .ok (.iconst 0, 1) := by decide +kernel
theorem dL_law_729 : decode cL_law 729 = .ok (.laload, 1) := by decide +kernel
theorem dL_law_730 : decode cL_law 730 = .ok (.iload 7, 2) := by decide +kernel
theorem dL_law_732 : decode cL_law 732 = .ok (.i2l, 1) := by decide +kernel
theorem dL_law_733 : decode cL_law 733 = .ok (.lcmp, 1) := by decide +kernel
theorem dL_law_734 : decode cL_law 734 = .ok (.ifCond .eq 5, 3) := by decide +kernel
theorem dL_law_737 : decode cL_law 737 = .ok (.iconst 0, 1) := by decide +kernel
theorem dL_law_738 : decode cL_law 738 = .ok (.ireturn, 1) := by decide +kernel
theorem dL_law_739 : decode cL_law 739 = .ok (.goto 1556, 3) := by decide +kernel
theorem dL_law_742 : decode cL_law 742 = .ok (.aload_n 1, 1) := by decide +kernel
theorem dL_law_743 : decode cL_law 743 = .ok (.aload_n 0, 1) := by decide +kernel
theorem dL_law_744 : decode cL_law 744 = .ok (.iload 5, 2) := by decide +kernel
theorem dL_law_746 : decode cL_law 746 = .ok (.iconst 1, 1) := by decide +kernel
theorem dL_law_747 : decode cL_law 747 = .ok (.iadd, 1) := by decide +kernel
theorem dL_law_748 : decode cL_law 748 = .ok (.iaload, 1) := by decide +kernel
theorem dL_law_749 : decode cL_law 749 = .ok (.aload_n 3, 1) := by decide +kernel
theorem dL_law_750 : decode cL_law 750 = .ok (.invokestatic 168, 3) := by decide +kernel
theorem dL_law_753 : decode cL_law 753 = .ok (.istore 6, 2) := by decide +kernel
theorem dL_law_755 : decode cL_law 755 = .ok (.aload_n 2, 1) := by decide +kernel
theorem dL_law_756 : decode cL_law 756 = .ok (.aload_n 0, 1) := by decide +kernel
theorem dL_law_757 : decode cL_law 757 = .ok (.iload 5, 2) := by decide +kernel
theorem dL_law_759 : decode cL_law 759 = .ok (.iconst 1, 1) := by decide +kernel
theorem dL_law_760 : decode cL_law 760 = .ok (.iadd, 1) := by decide +kernel
theorem dL_law_761 : decode cL_law 761 = .ok (.iaload, 1) := by decide +kernel
theorem dL_law_762 : decode cL_law 762 = .ok (.invokevirtual 170, 3) := by decide +kernel
theorem dL_law_765 : decode cL_law 765 = .ok (.istore 7, 2) := by decide +kernel
theorem dL_law_767 : decode cL_law 767 = .ok (.aload_n 2, 1) := by decide +kernel
theorem dL_law_768 : decode cL_law 768 = .ok (.invokevirtual 133, 3) := by decide +kernel
theorem dL_law_771 : decode cL_law 771 = .ok (.iload 6, 2) := by decide +kernel
theorem dL_law_773 : decode cL_law 773 = .ok (.if_icmp .eq 5, 3) := by decide +kernel
theorem dL_law_776 : decode cL_law 776 = .ok (.iconst 0, 1) := by decide +kernel
theorem dL_law_777 : decode cL_law 777 = .ok (.ireturn, 1) := by decide +kernel
theorem dL_law_778 : decode cL_law 778 = .ok (.iload 6, 2) := by decide +kernel
theorem dL_law_780 : decode cL_law 780 = .ok (.ifCond .ne 15, 3) := by decide +kernel
theorem dL_law_783 : decode cL_law 783 = .ok (.aload_n 3, 1) := by decide +kernel
theorem dL_law_784 : decode cL_law 784 = .ok (.iconst 0, 1) := by decide +kernel
theorem dL_law_785 : decode cL_law 785 = .ok (.laload, 1) := by decide +kernel
theorem dL_law_786 : decode cL_law 786 = .ok (.iload 7, 2) := by decide +kernel
theorem dL_law_788 : decode cL_law 788 = .ok (.i2l, 1) := by decide +kernel
theorem dL_law_789 : decode cL_law 789 = .ok (.lcmp, 1) := by decide +kernel
theorem dL_law_790 : decode cL_law 790 = .ok (.ifCond .eq 5, 3) := by decide +kernel
theorem dL_law_793 : decode cL_law 793 = .ok (.iconst 0, 1) := by decide +kernel
theorem dL_law_794 : decode cL_law 794 = .ok (.ireturn, 1) := by decide +kernel
theorem dL_law_795 : decode cL_law 795 = .ok (.goto 1500, 3) := by decide +kernel
theorem dL_law_798 : decode cL_law 798 = .ok (.aload_n 1, 1) := by decide +kernel
theorem dL_law_799 : decode cL_law 799 = .ok (.aload_n 0, 1) := by decide +kernel
theorem dL_law_800 : decode cL_law 800 = .ok (.iload 5, 2) := by decide +kernel
theorem dL_law_802 : decode cL_law 802 = .ok (.iconst 1, 1) := by decide +kernel
theorem dL_law_803 : decode cL_law 803 = .ok (.iadd, 1) := by decide +kernel
theorem dL_law_804 : decode cL_law 804 = .ok (.iaload, 1) := by decide +kernel
theorem dL_law_805 : decode cL_law 805 = .ok (.aload_n 3, 1) := by decide +kernel
theorem dL_law_806 : decode cL_law 806 = .ok (.invokestatic 171, 3) := by decide +kernel
theorem dL_law_809 : decode cL_law 809 = .ok (.istore 6, 2) := by decide +kernel
theorem dL_law_811 : decode cL_law 811 = .ok (.aload_n 2, 1) := by decide +kernel
theorem dL_law_812 : decode cL_law 812 = .ok (.aload_n 0, 1) := by decide +kernel
theorem dL_law_813 : decode cL_law 813 = .ok (.iload 5, 2) := by decide +kernel
theorem dL_law_815 : decode cL_law 815 = .ok (.iconst 1, 1) := by decide +kernel
theorem dL_law_816 : decode cL_law 816 = .ok (.iadd, 1) := by decide +kernel
theorem dL_law_817 : decode cL_law 817 = .ok (.iaload, 1) := by decide +kernel
theorem dL_law_818 : decode cL_law 818 = .ok (.invokevirtual 173, 3) := by decide +kernel
theorem dL_law_821 : decode cL_law 821 = .ok (.istore 7, 2) := by decide +kernel
theorem dL_law_823 : decode cL_law 823 = .ok (.aload_n 2, 1) := by decide +kernel
theorem dL_law_824 : decode cL_law 824 = .ok (.invokevirtual 133, 3) := by decide +kernel
theorem dL_law_827 : decode cL_law 827 = .ok (.iload 6, 2) := by decide +kernel
theorem dL_law_829 : decode cL_law 829 = .ok (.if_icmp .eq 5, 3) := by decide +kernel
theorem dL_law_832 : decode cL_law 832 = .ok (.iconst 0, 1) := by decide +kernel
theorem dL_law_833 : decode cL_law 833 = .ok (.ireturn, 1) := by decide +kernel
theorem dL_law_834 : decode cL_law 834 = .ok (.iload 6, 2) := by decide +kernel
theorem dL_law_836 : decode cL_law 836 = .ok (.ifCond .ne 15, 3) := by decide +kernel
theorem dL_law_839 : decode cL_law 839 = .ok (.aload_n 3, 1) := by decide +kernel
theorem dL_law_840 : decode cL_law 840 = .ok (.iconst 0, 1) := by decide +kernel
theorem dL_law_841 : decode cL_law 841 = .ok (.laload, 1) := by decide +kernel
theorem dL_law_842 : decode cL_law 842 = .ok (.iload 7, 2) := by decide +kernel
theorem dL_law_844 : decode cL_law 844 = .ok (.i2l, 1) := by decide +kernel
theorem dL_law_845 : decode cL_law 845 = .ok (.lcmp, 1) := by decide +kernel
theorem dL_law_846 : decode cL_law 846 = .ok (.ifCond .eq 5, 3) := by decide +kernel
theorem dL_law_849 : decode cL_law 849 = .ok (.iconst 0, 1) := by decide +kernel
theorem dL_law_850 : decode cL_law 850 = .ok (.ireturn, 1) := by decide +kernel
theorem dL_law_851 : decode cL_law 851 = .ok (.goto 1444, 3) := by decide +kernel
theorem dL_law_854 : decode cL_law 854 = .ok (.aload_n 1, 1) := by decide +kernel
theorem dL_law_855 : decode cL_law 855 = .ok (.aload_n 0, 1) := by decide +kernel
theorem dL_law_856 : decode cL_law 856 = .ok (.iload 5, 2) := by decide +kernel
theorem dL_law_858 : decode cL_law 858 = .ok (.iconst 1, 1) := by decide +kernel
theorem dL_law_859 : decode cL_law 859 = .ok (.iadd, 1) := by decide +kernel
theorem dL_law_860 : decode cL_law 860 = .ok (.iaload, 1) := by decide +kernel
theorem dL_law_861 : decode cL_law 861 = .ok (.aload_n 3, 1) := by decide +kernel
theorem dL_law_862 : decode cL_law 862 = .ok (.invokestatic 174, 3) := by decide +kernel
theorem dL_law_865 : decode cL_law 865 = .ok (.istore 6, 2) := by decide +kernel
theorem dL_law_867 : decode cL_law 867 = .ok (.aload_n 2, 1) := by decide +kernel
theorem dL_law_868 : decode cL_law 868 = .ok (.aload_n 0, 1) := by decide +kernel
theorem dL_law_869 : decode cL_law 869 = .ok (.iload 5, 2) := by decide +kernel
theorem dL_law_871 : decode cL_law 871 = .ok (.iconst 1, 1) := by decide +kernel
theorem dL_law_872 : decode cL_law 872 = .ok (.iadd, 1) := by decide +kernel
theorem dL_law_873 : decode cL_law 873 = .ok (.iaload, 1) := by decide +kernel
theorem dL_law_874 : decode cL_law 874 = .ok (.invokevirtual 176, 3) := by decide +kernel
theorem dL_law_877 : decode cL_law 877 = .ok (.istore 7, 2) := by decide +kernel
theorem dL_law_879 : decode cL_law 879 = .ok (.aload_n 2, 1) := by decide +kernel
theorem dL_law_880 : decode cL_law 880 = .ok (.invokevirtual 133, 3) := by decide +kernel
theorem dL_law_883 : decode cL_law 883 = .ok (.iload 6, 2) := by decide +kernel
theorem dL_law_885 : decode cL_law 885 = .ok (.if_icmp .eq 5, 3) := by decide +kernel
theorem dL_law_888 : decode cL_law 888 = .ok (.iconst 0, 1) := by decide +kernel
theorem dL_law_889 : decode cL_law 889 = .ok (.ireturn, 1) := by decide +kernel
theorem dL_law_890 : decode cL_law 890 = .ok (.iload 6, 2) := by decide +kernel
theorem dL_law_892 : decode cL_law 892 = .ok (.ifCond .ne 15, 3) := by decide +kernel
theorem dL_law_895 : decode cL_law 895 = .ok (.aload_n 3, 1) := by decide +kernel
theorem dL_law_896 : decode cL_law 896 = .ok (.iconst 0, 1) := by decide +kernel
theorem dL_law_897 : decode cL_law 897 = .ok (.laload, 1) := by decide +kernel
theorem dL_law_898 : decode cL_law 898 = .ok (.iload 7, 2) := by decide +kernel
theorem dL_law_900 : decode cL_law 900 = .ok (.i2l, 1) := by decide +kernel
theorem dL_law_901 : decode cL_law 901 = .ok (.lcmp, 1) := by decide +kernel
theorem dL_law_902 : decode cL_law 902 = .ok (.ifCond .eq 5, 3) := by decide +kernel
theorem dL_law_905 : decode cL_law 905 = .ok (.iconst 0, 1) := by decide +kernel
theorem dL_law_906 : decode cL_law 906 = .ok (.ireturn, 1) := by decide +kernel
theorem dL_law_907 : decode cL_law 907 = .ok (.goto 1388, 3) := by decide +kernel
theorem dL_law_910 : decode cL_law 910 = .ok (.aload_n 1, 1) := by decide +kernel
theorem dL_law_911 : decode cL_law 911 = .ok (.aload_n 0, 1) := by decide +kernel
theorem dL_law_912 : decode cL_law 912 = .ok (.iload 5, 2) := by decide +kernel
theorem dL_law_914 : decode cL_law 914 = .ok (.iconst 1, 1) := by decide +kernel
theorem dL_law_915 : decode cL_law 915 = .ok (.iadd, 1) := by decide +kernel
theorem dL_law_916 : decode cL_law 916 = .ok (.iaload, 1) := by decide +kernel
theorem dL_law_917 : decode cL_law 917 = .ok (.aload_n 3, 1) := by decide +kernel
theorem dL_law_918 : decode cL_law 918 = .ok (.invokestatic 177, 3) := by decide +kernel
theorem dL_law_921 : decode cL_law 921 = .ok (.istore 6, 2) := by decide +kernel
theorem dL_law_923 : decode cL_law 923 = .ok (.aload_n 2, 1) := by decide +kernel
theorem dL_law_924 : decode cL_law 924 = .ok (.aload_n 0, 1) := by decide +kernel
theorem dL_law_925 : decode cL_law 925 = .ok (.iload 5, 2) := by decide +kernel
theorem dL_law_927 : decode cL_law 927 = .ok (.iconst 1, 1) := by decide +kernel
theorem dL_law_928 : decode cL_law 928 = .ok (.iadd, 1) := by decide +kernel
theorem dL_law_929 : decode cL_law 929 = .ok (.iaload, 1) := by decide +kernel
theorem dL_law_930 : decode cL_law 930 = .ok (.invokevirtual 179, 3) := by decide +kernel
theorem dL_law_933 : decode cL_law 933 = .ok (.istore 7, 2) := by decide +kernel
theorem dL_law_935 : decode cL_law 935 = .ok (.aload_n 2, 1) := by decide +kernel
theorem dL_law_936 : decode cL_law 936 = .ok (.invokevirtual 133, 3) := by decide +kernel
theorem dL_law_939 : decode cL_law 939 = .ok (.iload 6, 2) := by decide +kernel
theorem dL_law_941 : decode cL_law 941 = .ok (.if_icmp .eq 5, 3) := by decide +kernel
theorem dL_law_944 : decode cL_law 944 = .ok (.iconst 0, 1) := by decide +kernel
theorem dL_law_945 : decode cL_law 945 = .ok (.ireturn, 1) := by decide +kernel
theorem dL_law_946 : decode cL_law 946 = .ok (.iload 6, 2) := by decide +kernel
theorem dL_law_948 : decode cL_law 948 = .ok (.ifCond .ne 15, 3) := by decide +kernel
theorem dL_law_951 : decode cL_law 951 = .ok (.aload_n 3, 1) := by decide +kernel
theorem dL_law_952 : decode cL_law 952 = .ok (.iconst 0, 1) := by decide +kernel
theorem dL_law_953 : decode cL_law 953 = .ok (.laload, 1) := by decide +kernel
theorem dL_law_954 : decode cL_law 954 = .ok (.iload 7, 2) := by decide +kernel
theorem dL_law_956 : decode cL_law 956 = .ok (.i2l, 1) := by decide +kernel
theorem dL_law_957 : decode cL_law 957 = .ok (.lcmp, 1) := by decide +kernel
theorem dL_law_958 : decode cL_law 958 = .ok (.ifCond .eq 5, 3) := by decide +kernel
theorem dL_law_961 : decode cL_law 961 = .ok (.iconst 0, 1) := by decide +kernel
theorem dL_law_962 : decode cL_law 962 = .ok (.ireturn, 1) := by decide +kernel
theorem dL_law_963 : decode cL_law 963 = .ok (.goto 1332, 3) := by decide +kernel
theorem dL_law_966 : decode cL_law 966 = .ok (.aload_n 1, 1) := by decide +kernel
theorem dL_law_967 : decode cL_law 967 = .ok (.aload_n 0, 1) := by decide +kernel
theorem dL_law_968 : decode cL_law 968 = .ok (.iload 5, 2) := by decide +kernel
theorem dL_law_970 : decode cL_law 970 = .ok (.iconst 1, 1) := by decide +kernel
theorem dL_law_971 : decode cL_law 971 = .ok (.iadd, 1) := by decide +kernel
theorem dL_law_972 : decode cL_law 972 = .ok (.iaload, 1) := by decide +kernel
theorem dL_law_973 : decode cL_law 973 = .ok (.aload_n 3, 1) := by decide +kernel
theorem dL_law_974 : decode cL_law 974 = .ok (.invokestatic 180, 3) := by decide +kernel
theorem dL_law_977 : decode cL_law 977 = .ok (.istore 6, 2) := by decide +kernel
theorem dL_law_979 : decode cL_law 979 = .ok (.aload_n 2, 1) := by decide +kernel
theorem dL_law_980 : decode cL_law 980 = .ok (.aload_n 0, 1) := by decide +kernel
theorem dL_law_981 : decode cL_law 981 = .ok (.iload 5, 2) := by decide +kernel
theorem dL_law_983 : decode cL_law 983 = .ok (.iconst 1, 1) := by decide +kernel
theorem dL_law_984 : decode cL_law 984 = .ok (.iadd, 1) := by decide +kernel
theorem dL_law_985 : decode cL_law 985 = .ok (.iaload, 1) := by decide +kernel
theorem dL_law_986 : decode cL_law 986 = .ok (.invokevirtual 182, 3) := by decide +kernel
theorem dL_law_989 : decode cL_law 989 = .ok (.istore 7, 2) := by decide +kernel
theorem dL_law_991 : decode cL_law 991 = .ok (.aload_n 2, 1) := by decide +kernel
theorem dL_law_992 : decode cL_law 992 = .ok (.invokevirtual 133, 3) := by decide +kernel
theorem dL_law_995 : decode cL_law 995 = .ok (.iload 6, 2) := by decide +kernel
theorem dL_law_997 : decode cL_law 997 = .ok (.if_icmp .eq 5, 3) := by decide +kernel
theorem dL_law_1000 : decode cL_law 1000 = .ok (.iconst 0, 1) := by decide +kernel
theorem dL_law_1001 : decode cL_law 1001 = .ok (.ireturn, 1) := by decide +kernel
theorem dL_law_1002 : decode cL_law 1002 = .ok (.iload 6, 2) := by decide +kernel
theorem dL_law_1004 : decode cL_law 1004 = .ok (.ifCond .ne 15, 3) := by decide +kernel
theorem dL_law_1007 : decode cL_law 1007 = .ok (.aload_n 3, 1) := by decide +kernel
theorem dL_law_1008 : decode cL_law 1008 = .ok (.iconst 0, 1) := by decide +kernel
theorem dL_law_1009 : decode cL_law 1009 = .ok (.laload, 1) := by decide +kernel
theorem dL_law_1010 : decode cL_law 1010 = .ok (.iload 7, 2) := by decide +kernel
theorem dL_law_1012 : decode cL_law 1012 = .ok (.i2l, 1) := by decide +kernel
theorem dL_law_1013 : decode cL_law 1013 = .ok (.lcmp, 1) := by decide +kernel
theorem dL_law_1014 : decode cL_law 1014 = .ok (.ifCond .eq 5, 3) := by decide +kernel
theorem dL_law_1017 : decode cL_law 1017 = .ok (.iconst 0, 1) := by decide +kernel
theorem dL_law_1018 : decode cL_law 1018 = .ok (.ireturn, 1) := by decide +kernel
theorem dL_law_1019 : decode cL_law 1019 = .ok (.goto 1276, 3) := by decide +kernel
theorem dL_law_1022 : decode cL_law 1022 = .ok (.aload_n 1, 1) := by decide +kernel
theorem dL_law_1023 : decode cL_law 1023 = .ok (.aload_n 0, 1) := by decide +kernel
theorem dL_law_1024 : decode cL_law 1024 = .ok (.iload 5, 2) := by decide +kernel
theorem dL_law_1026 : decode cL_law 1026 = .ok (.iconst 1, 1) := by decide +kernel
theorem dL_law_1027 : decode cL_law 1027 = .ok (.iadd, 1) := by decide +kernel
theorem dL_law_1028 : decode cL_law 1028 = .ok (.iaload, 1) := by decide +kernel
theorem dL_law_1029 : decode cL_law 1029 = .ok (.aload_n 3, 1) := by decide +kernel
theorem dL_law_1030 : decode cL_law 1030 = .ok (.invokestatic 183, 3) := by decide +kernel
theorem dL_law_1033 : decode cL_law 1033 = .ok (.istore 6, 2) := by decide +kernel
theorem dL_law_1035 : decode cL_law 1035 = .ok (.aload_n 2, 1) := by decide +kernel
theorem dL_law_1036 : decode cL_law 1036 = .ok (.aload_n 0, 1) := by decide +kernel
theorem dL_law_1037 : decode cL_law 1037 = .ok (.iload 5, 2) := by decide +kernel
theorem dL_law_1039 : decode cL_law 1039 = .ok (.iconst 1, 1) := by decide +kernel
theorem dL_law_1040 : decode cL_law 1040 = .ok (.iadd, 1) := by decide +kernel
theorem dL_law_1041 : decode cL_law 1041 = .ok (.iaload, 1) := by decide +kernel
theorem dL_law_1042 : decode cL_law 1042 = .ok (.invokevirtual 185, 3) := by decide +kernel
theorem dL_law_1045 : decode cL_law 1045 = .ok (.istore 7, 2) := by decide +kernel
theorem dL_law_1047 : decode cL_law 1047 = .ok (.aload_n 2, 1) := by decide +kernel
theorem dL_law_1048 : decode cL_law 1048 = .ok (.invokevirtual 133, 3) := by decide +kernel
theorem dL_law_1051 : decode cL_law 1051 = .ok (.iload 6, 2) := by decide +kernel
theorem dL_law_1053 : decode cL_law 1053 = .ok (.if_icmp .eq 5, 3) := by decide +kernel
theorem dL_law_1056 : decode cL_law 1056 = .ok (.iconst 0, 1) := by decide +kernel
theorem dL_law_1057 : decode cL_law 1057 = .ok (.ireturn, 1) := by decide +kernel
theorem dL_law_1058 : decode cL_law 1058 = .ok (.iload 6, 2) := by decide +kernel
theorem dL_law_1060 : decode cL_law 1060 = .ok (.ifCond .ne 15, 3) := by decide +kernel
theorem dL_law_1063 : decode cL_law 1063 = .ok (.aload_n 3, 1) := by decide +kernel
theorem dL_law_1064 : decode cL_law 1064 = .ok (.iconst 0, 1) := by decide +kernel
theorem dL_law_1065 : decode cL_law 1065 = .ok (.laload, 1) := by decide +kernel
theorem dL_law_1066 : decode cL_law 1066 = .ok (.iload 7, 2) := by decide +kernel
theorem dL_law_1068 : decode cL_law 1068 = .ok (.i2l, 1) := by decide +kernel
theorem dL_law_1069 : decode cL_law 1069 = .ok (.lcmp, 1) := by decide +kernel
theorem dL_law_1070 : decode cL_law 1070 = .ok (.ifCond .eq 5, 3) := by decide +kernel
theorem dL_law_1073 : decode cL_law 1073 = .ok (.iconst 0, 1) := by decide +kernel
theorem dL_law_1074 : decode cL_law 1074 = .ok (.ireturn, 1) := by decide +kernel
theorem dL_law_1075 : decode cL_law 1075 = .ok (.goto 1220, 3) := by decide +kernel
theorem dL_law_1078 : decode cL_law 1078 = .ok (.aload_n 1, 1) := by decide +kernel
theorem dL_law_1079 : decode cL_law 1079 = .ok (.invokevirtual 186, 3) := by decide +kernel
theorem dL_law_1082 : decode cL_law 1082 = .ok (.aload_n 2, 1) := by decide +kernel
theorem dL_law_1083 : decode cL_law 1083 = .ok (.invokevirtual 189, 3) := by decide +kernel
theorem dL_law_1086 : decode cL_law 1086 = .ok (.if_icmp .eq 1209, 3) := by decide +kernel
theorem dL_law_1089 : decode cL_law 1089 = .ok (.iconst 0, 1) := by decide +kernel
theorem dL_law_1090 : decode cL_law 1090 = .ok (.ireturn, 1) := by decide +kernel
theorem dL_law_1091 : decode cL_law 1091 = .ok (.aload_n 1, 1) := by decide +kernel
theorem dL_law_1092 : decode cL_law 1092 = .ok (.aload_n 0, 1) := by decide +kernel
theorem dL_law_1093 : decode cL_law 1093 = .ok (.iload 5, 2) := by decide +kernel
theorem dL_law_1095 : decode cL_law 1095 = .ok (.iconst 1, 1) := by decide +kernel
theorem dL_law_1096 : decode cL_law 1096 = .ok (.iadd, 1) := by decide +kernel
theorem dL_law_1097 : decode cL_law 1097 = .ok (.iaload, 1) := by decide +kernel
theorem dL_law_1098 : decode cL_law 1098 = .ok (.aload_n 3, 1) := by decide +kernel
theorem dL_law_1099 : decode cL_law 1099 = .ok (.invokestatic 190, 3) := by decide +kernel
theorem dL_law_1102 : decode cL_law 1102 = .ok (.istore 6, 2) := by decide +kernel
theorem dL_law_1104 : decode cL_law 1104 = .ok (.aload_n 2, 1) := by decide +kernel
theorem dL_law_1105 : decode cL_law 1105 = .ok (.aload_n 0, 1) := by decide +kernel
theorem dL_law_1106 : decode cL_law 1106 = .ok (.iload 5, 2) := by decide +kernel
theorem dL_law_1108 : decode cL_law 1108 = .ok (.iconst 1, 1) := by decide +kernel
theorem dL_law_1109 : decode cL_law 1109 = .ok (.iadd, 1) := by decide +kernel
theorem dL_law_1110 : decode cL_law 1110 = .ok (.iaload, 1) := by decide +kernel
theorem dL_law_1111 : decode cL_law 1111 = .ok (.invokevirtual 192, 3) := by decide +kernel
theorem dL_law_1114 : decode cL_law 1114 = .ok (.istore 7, 2) := by decide +kernel
theorem dL_law_1116 : decode cL_law 1116 = .ok (.aload_n 2, 1) := by decide +kernel
theorem dL_law_1117 : decode cL_law 1117 = .ok (.invokevirtual 133, 3) := by decide +kernel
theorem dL_law_1120 : decode cL_law 1120 = .ok (.iload 6, 2) := by decide +kernel
theorem dL_law_1122 : decode cL_law 1122 = .ok (.if_icmp .eq 5, 3) := by decide +kernel
theorem dL_law_1125 : decode cL_law 1125 = .ok (.iconst 0, 1) := by decide +kernel
theorem dL_law_1126 : decode cL_law 1126 = .ok (.ireturn, 1) := by decide +kernel
theorem dL_law_1127 : decode cL_law 1127 = .ok (.iload 6, 2) := by decide +kernel
theorem dL_law_1129 : decode cL_law 1129 = .ok (.ifCond .ne 15, 3) := by decide +kernel
theorem dL_law_1132 : decode cL_law 1132 = .ok (.aload_n 3, 1) := by decide +kernel
theorem dL_law_1133 : decode cL_law 1133 = .ok (.iconst 0, 1) := by decide +kernel
theorem dL_law_1134 : decode cL_law 1134 = .ok (.laload, 1) := by decide +kernel
theorem dL_law_1135 : decode cL_law 1135 = .ok (.iload 7, 2) := by decide +kernel
theorem dL_law_1137 : decode cL_law 1137 = .ok (.i2l, 1) := by decide +kernel
theorem dL_law_1138 : decode cL_law 1138 = .ok (.lcmp, 1) := by decide +kernel
theorem dL_law_1139 : decode cL_law 1139 = .ok (.ifCond .eq 5, 3) := by decide +kernel
theorem dL_law_1142 : decode cL_law 1142 = .ok (.iconst 0, 1) := by decide +kernel
theorem dL_law_1143 : decode cL_law 1143 = .ok (.ireturn, 1) := by decide +kernel
theorem dL_law_1144 : decode cL_law 1144 = .ok (.goto 1151, 3) := by decide +kernel
theorem dL_law_1147 : decode cL_law 1147 = .ok (.aload_n 1, 1) := by decide +kernel
theorem dL_law_1148 : decode cL_law 1148 = .ok (.aload_n 0, 1) := by decide +kernel
theorem dL_law_1149 : decode cL_law 1149 = .ok (.iload 5, 2) := by decide +kernel
theorem dL_law_1151 : decode cL_law 1151 = .ok (.iconst 1, 1) := by decide +kernel
theorem dL_law_1152 : decode cL_law 1152 = .ok (.iadd, 1) := by decide +kernel
theorem dL_law_1153 : decode cL_law 1153 = .ok (.iaload, 1) := by decide +kernel
theorem dL_law_1154 : decode cL_law 1154 = .ok (.aload_n 0, 1) := by decide +kernel
theorem dL_law_1155 : decode cL_law 1155 = .ok (.iload 5, 2) := by decide +kernel
theorem dL_law_1157 : decode cL_law 1157 = .ok (.iconst 2, 1) := by decide +kernel
theorem dL_law_1158 : decode cL_law 1158 = .ok (.iadd, 1) := by decide +kernel
theorem dL_law_1159 : decode cL_law 1159 = .ok (.iaload, 1) := by decide +kernel
theorem dL_law_1160 : decode cL_law 1160 = .ok (.aload_n 3, 1) := by decide +kernel
theorem dL_law_1161 : decode cL_law 1161 = .ok (.invokestatic 193, 3) := by decide +kernel
theorem dL_law_1164 : decode cL_law 1164 = .ok (.istore 6, 2) := by decide +kernel
theorem dL_law_1166 : decode cL_law 1166 = .ok (.aload_n 2, 1) := by decide +kernel
theorem dL_law_1167 : decode cL_law 1167 = .ok (.aload_n 0, 1) := by decide +kernel
theorem dL_law_1168 : decode cL_law 1168 = .ok (.iload 5, 2) := by decide +kernel
theorem dL_law_1170 : decode cL_law 1170 = .ok (.iconst 1, 1) := by decide +kernel
theorem dL_law_1171 : decode cL_law 1171 = .ok (.iadd, 1) := by decide +kernel
theorem dL_law_1172 : decode cL_law 1172 = .ok (.iaload, 1) := by decide +kernel
theorem dL_law_1173 : decode cL_law 1173 = .ok (.aload_n 0, 1) := by decide +kernel
theorem dL_law_1174 : decode cL_law 1174 = .ok (.iload 5, 2) := by decide +kernel
theorem dL_law_1176 : decode cL_law 1176 = .ok (.iconst 2, 1) := by decide +kernel
theorem dL_law_1177 : decode cL_law 1177 = .ok (.iadd, 1) := by decide +kernel
theorem dL_law_1178 : decode cL_law 1178 = .ok (.iaload, 1) := by decide +kernel
theorem dL_law_1179 : decode cL_law 1179 = .ok (.invokevirtual 195, 3) := by decide +kernel
theorem dL_law_1182 : decode cL_law 1182 = .ok (.istore 7, 2) := by decide +kernel
theorem dL_law_1184 : decode cL_law 1184 = .ok (.aload_n 2, 1) := by decide +kernel
theorem dL_law_1185 : decode cL_law 1185 = .ok (.invokevirtual 133, 3) := by decide +kernel
theorem dL_law_1188 : decode cL_law 1188 = .ok (.iload 6, 2) := by decide +kernel
theorem dL_law_1190 : decode cL_law 1190 = .ok (.if_icmp .eq 5, 3) := by decide +kernel
theorem dL_law_1193 : decode cL_law 1193 = .ok (.iconst 0, 1) := by decide +kernel
theorem dL_law_1194 : decode cL_law 1194 = .ok (.ireturn, 1) := by decide +kernel
theorem dL_law_1195 : decode cL_law 1195 = .ok (.iload 6, 2) := by decide +kernel
theorem dL_law_1197 : decode cL_law 1197 = .ok (.ifCond .ne 15, 3) := by decide +kernel
theorem dL_law_1200 : decode cL_law 1200 = .ok (.aload_n 3, 1) := by decide +kernel
theorem dL_law_1201 : decode cL_law 1201 = .ok (.iconst 0, 1) := by decide +kernel
theorem dL_law_1202 : decode cL_law 1202 = .ok (.laload, 1) := by decide +kernel
theorem dL_law_1203 : decode cL_law 1203 = .ok (.iload 7, 2) := by decide +kernel
theorem dL_law_1205 : decode cL_law 1205 = .ok (.i2l, 1) := by decide +kernel
theorem dL_law_1206 : decode cL_law 1206 = .ok (.lcmp, 1) := by decide +kernel
theorem dL_law_1207 : decode cL_law 1207 = .ok (.ifCond .eq 5, 3) := by decide +kernel
theorem dL_law_1210 : decode cL_law 1210 = .ok (.iconst 0, 1) := by decide +kernel
theorem dL_law_1211 : decode cL_law 1211 = .ok (.ireturn, 1) := by decide +kernel
theorem dL_law_1212 : decode cL_law 1212 = .ok (.goto 1083, 3) := by decide +kernel
theorem dL_law_1215 : decode cL_law 1215 = .ok (.aload_n 1, 1) := by decide +kernel
theorem dL_law_1216 : decode cL_law 1216 = .ok (.aload_n 0, 1) := by decide +kernel
theorem dL_law_1217 : decode cL_law 1217 = .ok (.iload 5, 2) := by decide +kernel
theorem dL_law_1219 : decode cL_law 1219 = .ok (.iconst 1, 1) := by decide +kernel
theorem dL_law_1220 : decode cL_law 1220 = .ok (.iadd, 1) := by decide +kernel
theorem dL_law_1221 : decode cL_law 1221 = .ok (.iaload, 1) := by decide +kernel
theorem dL_law_1222 : decode cL_law 1222 = .ok (.aload_n 0, 1) := by decide +kernel
theorem dL_law_1223 : decode cL_law 1223 = .ok (.iload 5, 2) := by decide +kernel
theorem dL_law_1225 : decode cL_law 1225 = .ok (.iconst 2, 1) := by decide +kernel
theorem dL_law_1226 : decode cL_law 1226 = .ok (.iadd, 1) := by decide +kernel
theorem dL_law_1227 : decode cL_law 1227 = .ok (.iaload, 1) := by decide +kernel
theorem dL_law_1228 : decode cL_law 1228 = .ok (.aload_n 3, 1) := by decide +kernel
theorem dL_law_1229 : decode cL_law 1229 = .ok (.invokestatic 196, 3) := by decide +kernel
theorem dL_law_1232 : decode cL_law 1232 = .ok (.istore 6, 2) := by decide +kernel
theorem dL_law_1234 : decode cL_law 1234 = .ok (.aload_n 2, 1) := by decide +kernel
theorem dL_law_1235 : decode cL_law 1235 = .ok (.aload_n 0, 1) := by decide +kernel
theorem dL_law_1236 : decode cL_law 1236 = .ok (.iload 5, 2) := by decide +kernel
theorem dL_law_1238 : decode cL_law 1238 = .ok (.iconst 1, 1) := by decide +kernel
theorem dL_law_1239 : decode cL_law 1239 = .ok (.iadd, 1) := by decide +kernel
theorem dL_law_1240 : decode cL_law 1240 = .ok (.iaload, 1) := by decide +kernel
theorem dL_law_1241 : decode cL_law 1241 = .ok (.aload_n 0, 1) := by decide +kernel
theorem dL_law_1242 : decode cL_law 1242 = .ok (.iload 5, 2) := by decide +kernel
theorem dL_law_1244 : decode cL_law 1244 = .ok (.iconst 2, 1) := by decide +kernel
theorem dL_law_1245 : decode cL_law 1245 = .ok (.iadd, 1) := by decide +kernel
theorem dL_law_1246 : decode cL_law 1246 = .ok (.iaload, 1) := by decide +kernel
theorem dL_law_1247 : decode cL_law 1247 = .ok (.invokevirtual 198, 3) := by decide +kernel
theorem dL_law_1250 : decode cL_law 1250 = .ok (.istore 7, 2) := by decide +kernel
theorem dL_law_1252 : decode cL_law 1252 = .ok (.aload_n 2, 1) := by decide +kernel
theorem dL_law_1253 : decode cL_law 1253 = .ok (.invokevirtual 133, 3) := by decide +kernel
theorem dL_law_1256 : decode cL_law 1256 = .ok (.iload 6, 2) := by decide +kernel
theorem dL_law_1258 : decode cL_law 1258 = .ok (.if_icmp .eq 5, 3) := by decide +kernel
theorem dL_law_1261 : decode cL_law 1261 = .ok (.iconst 0, 1) := by decide +kernel
theorem dL_law_1262 : decode cL_law 1262 = .ok (.ireturn, 1) := by decide +kernel
theorem dL_law_1263 : decode cL_law 1263 = .ok (.iload 6, 2) := by decide +kernel
theorem dL_law_1265 : decode cL_law 1265 = .ok (.ifCond .ne 15, 3) := by decide +kernel
theorem dL_law_1268 : decode cL_law 1268 = .ok (.aload_n 3, 1) := by decide +kernel
theorem dL_law_1269 : decode cL_law 1269 = .ok (.iconst 0, 1) := by decide +kernel
theorem dL_law_1270 : decode cL_law 1270 = .ok (.laload, 1) := by decide +kernel
theorem dL_law_1271 : decode cL_law 1271 = .ok (.iload 7, 2) := by decide +kernel
theorem dL_law_1273 : decode cL_law 1273 = .ok (.i2l, 1) := by decide +kernel
theorem dL_law_1274 : decode cL_law 1274 = .ok (.lcmp, 1) := by decide +kernel
theorem dL_law_1275 : decode cL_law 1275 = .ok (.ifCond .eq 5, 3) := by decide +kernel
theorem dL_law_1278 : decode cL_law 1278 = .ok (.iconst 0, 1) := by decide +kernel
theorem dL_law_1279 : decode cL_law 1279 = .ok (.ireturn, 1) := by decide +kernel
theorem dL_law_1280 : decode cL_law 1280 = .ok (.goto 1015, 3) := by decide +kernel
theorem dL_law_1283 : decode cL_law 1283 = .ok (.aload_n 1, 1) := by decide +kernel
theorem dL_law_1284 : decode cL_law 1284 = .ok (.aload_n 0, 1) := by decide +kernel
theorem dL_law_1285 : decode cL_law 1285 = .ok (.iload 5, 2) := by decide +kernel
theorem dL_law_1287 : decode cL_law 1287 = .ok (.iconst 1, 1) := by decide +kernel
theorem dL_law_1288 : decode cL_law 1288 = .ok (.iadd, 1) := by decide +kernel
theorem dL_law_1289 : decode cL_law 1289 = .ok (.iaload, 1) := by decide +kernel
theorem dL_law_1290 : decode cL_law 1290 = .ok (.aload_n 0, 1) := by decide +kernel
theorem dL_law_1291 : decode cL_law 1291 = .ok (.iload 5, 2) := by decide +kernel
theorem dL_law_1293 : decode cL_law 1293 = .ok (.iconst 2, 1) := by decide +kernel
theorem dL_law_1294 : decode cL_law 1294 = .ok (.iadd, 1) := by decide +kernel
theorem dL_law_1295 : decode cL_law 1295 = .ok (.iaload, 1) := by decide +kernel
theorem dL_law_1296 : decode cL_law 1296 = .ok (.aload_n 0, 1) := by decide +kernel
theorem dL_law_1297 : decode cL_law 1297 = .ok (.iload 5, 2) := by decide +kernel
theorem dL_law_1299 : decode cL_law 1299 = .ok (.iconst 3, 1) := by decide +kernel
theorem dL_law_1300 : decode cL_law 1300 = .ok (.iadd, 1) := by decide +kernel
theorem dL_law_1301 : decode cL_law 1301 = .ok (.iaload, 1) := by decide +kernel
theorem dL_law_1302 : decode cL_law 1302 = .ok (.aload_n 3, 1) := by decide +kernel
theorem dL_law_1303 : decode cL_law 1303 = .ok (.invokestatic 199, 3) := by decide +kernel
theorem dL_law_1306 : decode cL_law 1306 = .ok (.istore 6, 2) := by decide +kernel
theorem dL_law_1308 : decode cL_law 1308 = .ok (.aload_n 2, 1) := by decide +kernel
theorem dL_law_1309 : decode cL_law 1309 = .ok (.aload_n 0, 1) := by decide +kernel
theorem dL_law_1310 : decode cL_law 1310 = .ok (.iload 5, 2) := by decide +kernel
theorem dL_law_1312 : decode cL_law 1312 = .ok (.iconst 1, 1) := by decide +kernel
theorem dL_law_1313 : decode cL_law 1313 = .ok (.iadd, 1) := by decide +kernel
theorem dL_law_1314 : decode cL_law 1314 = .ok (.iaload, 1) := by decide +kernel
theorem dL_law_1315 : decode cL_law 1315 = .ok (.aload_n 0, 1) := by decide +kernel
theorem dL_law_1316 : decode cL_law 1316 = .ok (.iload 5, 2) := by decide +kernel
theorem dL_law_1318 : decode cL_law 1318 = .ok (.iconst 2, 1) := by decide +kernel
theorem dL_law_1319 : decode cL_law 1319 = .ok (.iadd, 1) := by decide +kernel
theorem dL_law_1320 : decode cL_law 1320 = .ok (.iaload, 1) := by decide +kernel
theorem dL_law_1321 : decode cL_law 1321 = .ok (.aload_n 0, 1) := by decide +kernel
theorem dL_law_1322 : decode cL_law 1322 = .ok (.iload 5, 2) := by decide +kernel
theorem dL_law_1324 : decode cL_law 1324 = .ok (.iconst 3, 1) := by decide +kernel
theorem dL_law_1325 : decode cL_law 1325 = .ok (.iadd, 1) := by decide +kernel
theorem dL_law_1326 : decode cL_law 1326 = .ok (.iaload, 1) := by decide +kernel
theorem dL_law_1327 : decode cL_law 1327 = .ok (.invokevirtual 201, 3) := by decide +kernel
theorem dL_law_1330 : decode cL_law 1330 = .ok (.istore 7, 2) := by decide +kernel
theorem dL_law_1332 : decode cL_law 1332 = .ok (.aload_n 2, 1) := by decide +kernel
theorem dL_law_1333 : decode cL_law 1333 = .ok (.invokevirtual 133, 3) := by decide +kernel
theorem dL_law_1336 : decode cL_law 1336 = .ok (.iload 6, 2) := by decide +kernel
theorem dL_law_1338 : decode cL_law 1338 = .ok (.if_icmp .eq 5, 3) := by decide +kernel
theorem dL_law_1341 : decode cL_law 1341 = .ok (.iconst 0, 1) := by decide +kernel
theorem dL_law_1342 : decode cL_law 1342 = .ok (.ireturn, 1) := by decide +kernel
theorem dL_law_1343 : decode cL_law 1343 = .ok (.iload 6, 2) := by decide +kernel
theorem dL_law_1345 : decode cL_law 1345 = .ok (.ifCond .ne 15, 3) := by decide +kernel
theorem dL_law_1348 : decode cL_law 1348 = .ok (.aload_n 3, 1) := by decide +kernel
theorem dL_law_1349 : decode cL_law 1349 = .ok (.iconst 0, 1) := by decide +kernel
theorem dL_law_1350 : decode cL_law 1350 = .ok (.laload, 1) := by decide +kernel
theorem dL_law_1351 : decode cL_law 1351 = .ok (.iload 7, 2) := by decide +kernel
theorem dL_law_1353 : decode cL_law 1353 = .ok (.i2l, 1) := by decide +kernel
theorem dL_law_1354 : decode cL_law 1354 = .ok (.lcmp, 1) := by decide +kernel
theorem dL_law_1355 : decode cL_law 1355 = .ok (.ifCond .eq 5, 3) := by decide +kernel
theorem dL_law_1358 : decode cL_law 1358 = .ok (.iconst 0, 1) := by decide +kernel
theorem dL_law_1359 : decode cL_law 1359 = .ok (.ireturn, 1) := by decide +kernel
theorem dL_law_1360 : decode cL_law 1360 = .ok (.goto 935, 3) := by decide +kernel
theorem dL_law_1363 : decode cL_law 1363 = .ok (.aload_n 1, 1) := by decide +kernel
theorem dL_law_1364 : decode cL_law 1364 = .ok (.aload_n 0, 1) := by decide +kernel
theorem dL_law_1365 : decode cL_law 1365 = .ok (.iload 5, 2) := by decide +kernel
theorem dL_law_1367 : decode cL_law 1367 = .ok (.iconst 1, 1) := by decide +kernel
theorem dL_law_1368 : decode cL_law 1368 = .ok (.iadd, 1) := by decide +kernel
theorem dL_law_1369 : decode cL_law 1369 = .ok (.iaload, 1) := by decide +kernel
theorem dL_law_1370 : decode cL_law 1370 = .ok (.aload_n 0, 1) := by decide +kernel
theorem dL_law_1371 : decode cL_law 1371 = .ok (.iload 5, 2) := by decide +kernel
theorem dL_law_1373 : decode cL_law 1373 = .ok (.iconst 2, 1) := by decide +kernel
theorem dL_law_1374 : decode cL_law 1374 = .ok (.iadd, 1) := by decide +kernel
theorem dL_law_1375 : decode cL_law 1375 = .ok (.iaload, 1) := by decide +kernel
theorem dL_law_1376 : decode cL_law 1376 = .ok (.aload_n 3, 1) := by decide +kernel
theorem dL_law_1377 : decode cL_law 1377 = .ok (.invokestatic 202, 3) := by decide +kernel
theorem dL_law_1380 : decode cL_law 1380 = .ok (.istore 6, 2) := by decide +kernel
theorem dL_law_1382 : decode cL_law 1382 = .ok (.aload_n 2, 1) := by decide +kernel
theorem dL_law_1383 : decode cL_law 1383 = .ok (.aload_n 0, 1) := by decide +kernel
theorem dL_law_1384 : decode cL_law 1384 = .ok (.iload 5, 2) := by decide +kernel
theorem dL_law_1386 : decode cL_law 1386 = .ok (.iconst 1, 1) := by decide +kernel
theorem dL_law_1387 : decode cL_law 1387 = .ok (.iadd, 1) := by decide +kernel
theorem dL_law_1388 : decode cL_law 1388 = .ok (.iaload, 1) := by decide +kernel
theorem dL_law_1389 : decode cL_law 1389 = .ok (.aload_n 0, 1) := by decide +kernel
theorem dL_law_1390 : decode cL_law 1390 = .ok (.iload 5, 2) := by decide +kernel
theorem dL_law_1392 : decode cL_law 1392 = .ok (.iconst 2, 1) := by decide +kernel
theorem dL_law_1393 : decode cL_law 1393 = .ok (.iadd, 1) := by decide +kernel
theorem dL_law_1394 : decode cL_law 1394 = .ok (.iaload, 1) := by decide +kernel
theorem dL_law_1395 : decode cL_law 1395 = .ok (.invokevirtual 204, 3) := by decide +kernel
theorem dL_law_1398 : decode cL_law 1398 = .ok (.istore 7, 2) := by decide +kernel
theorem dL_law_1400 : decode cL_law 1400 = .ok (.aload_n 2, 1) := by decide +kernel
theorem dL_law_1401 : decode cL_law 1401 = .ok (.invokevirtual 133, 3) := by decide +kernel
theorem dL_law_1404 : decode cL_law 1404 = .ok (.iload 6, 2) := by decide +kernel
theorem dL_law_1406 : decode cL_law 1406 = .ok (.if_icmp .eq 5, 3) := by decide +kernel
theorem dL_law_1409 : decode cL_law 1409 = .ok (.iconst 0, 1) := by decide +kernel
theorem dL_law_1410 : decode cL_law 1410 = .ok (.ireturn, 1) := by decide +kernel
theorem dL_law_1411 : decode cL_law 1411 = .ok (.iload 6, 2) := by decide +kernel
theorem dL_law_1413 : decode cL_law 1413 = .ok (.ifCond .ne 15, 3) := by decide +kernel
theorem dL_law_1416 : decode cL_law 1416 = .ok (.aload_n 3, 1) := by decide +kernel
theorem dL_law_1417 : decode cL_law 1417 = .ok (.iconst 0, 1) := by decide +kernel
theorem dL_law_1418 : decode cL_law 1418 = .ok (.laload, 1) := by decide +kernel
theorem dL_law_1419 : decode cL_law 1419 = .ok (.iload 7, 2) := by decide +kernel
theorem dL_law_1421 : decode cL_law 1421 = .ok (.i2l, 1) := by decide +kernel
theorem dL_law_1422 : decode cL_law 1422 = .ok (.lcmp, 1) := by decide +kernel
theorem dL_law_1423 : decode cL_law 1423 = .ok (.ifCond .eq 5, 3) := by decide +kernel
theorem dL_law_1426 : decode cL_law 1426 = .ok (.iconst 0, 1) := by decide +kernel
theorem dL_law_1427 : decode cL_law 1427 = .ok (.ireturn, 1) := by decide +kernel
theorem dL_law_1428 : decode cL_law 1428 = .ok (.goto 867, 3) := by decide +kernel
theorem dL_law_1431 : decode cL_law 1431 = .ok (.aload_n 1, 1) := by decide +kernel
theorem dL_law_1432 : decode cL_law 1432 = .ok (.aload_n 0, 1) := by decide +kernel
theorem dL_law_1433 : decode cL_law 1433 = .ok (.iload 5, 2) := by decide +kernel
theorem dL_law_1435 : decode cL_law 1435 = .ok (.iconst 1, 1) := by decide +kernel
theorem dL_law_1436 : decode cL_law 1436 = .ok (.iadd, 1) := by decide +kernel
theorem dL_law_1437 : decode cL_law 1437 = .ok (.iaload, 1) := by decide +kernel
theorem dL_law_1438 : decode cL_law 1438 = .ok (.aload_n 0, 1) := by decide +kernel
theorem dL_law_1439 : decode cL_law 1439 = .ok (.iload 5, 2) := by decide +kernel
theorem dL_law_1441 : decode cL_law 1441 = .ok (.iconst 2, 1) := by decide +kernel
theorem dL_law_1442 : decode cL_law 1442 = .ok (.iadd, 1) := by decide +kernel
theorem dL_law_1443 : decode cL_law 1443 = .ok (.iaload, 1) := by decide +kernel
theorem dL_law_1444 : decode cL_law 1444 = .ok (.aload_n 3, 1) := by decide +kernel
theorem dL_law_1445 : decode cL_law 1445 = .ok (.invokestatic 205, 3) := by decide +kernel
theorem dL_law_1448 : decode cL_law 1448 = .ok (.istore 6, 2) := by decide +kernel
theorem dL_law_1450 : decode cL_law 1450 = .ok (.aload_n 2, 1) := by decide +kernel
theorem dL_law_1451 : decode cL_law 1451 = .ok (.aload_n 0, 1) := by decide +kernel
theorem dL_law_1452 : decode cL_law 1452 = .ok (.iload 5, 2) := by decide +kernel
theorem dL_law_1454 : decode cL_law 1454 = .ok (.iconst 1, 1) := by decide +kernel
theorem dL_law_1455 : decode cL_law 1455 = .ok (.iadd, 1) := by decide +kernel
theorem dL_law_1456 : decode cL_law 1456 = .ok (.iaload, 1) := by decide +kernel
theorem dL_law_1457 : decode cL_law 1457 = .ok (.aload_n 0, 1) := by decide +kernel
theorem dL_law_1458 : decode cL_law 1458 = .ok (.iload 5, 2) := by decide +kernel
theorem dL_law_1460 : decode cL_law 1460 = .ok (.iconst 2, 1) := by decide +kernel
theorem dL_law_1461 : decode cL_law 1461 = .ok (.iadd, 1) := by decide +kernel
theorem dL_law_1462 : decode cL_law 1462 = .ok (.iaload, 1) := by decide +kernel
theorem dL_law_1463 : decode cL_law 1463 = .ok (.invokevirtual 207, 3) := by decide +kernel
theorem dL_law_1466 : decode cL_law 1466 = .ok (.istore 7, 2) := by decide +kernel
theorem dL_law_1468 : decode cL_law 1468 = .ok (.aload_n 2, 1) := by decide +kernel
theorem dL_law_1469 : decode cL_law 1469 = .ok (.invokevirtual 133, 3) := by decide +kernel
theorem dL_law_1472 : decode cL_law 1472 = .ok (.iload 6, 2) := by decide +kernel
theorem dL_law_1474 : decode cL_law 1474 = .ok (.if_icmp .eq 5, 3) := by decide +kernel
theorem dL_law_1477 : decode cL_law 1477 = .ok (.iconst 0, 1) := by decide +kernel
theorem dL_law_1478 : decode cL_law 1478 = .ok (.ireturn, 1) := by decide +kernel
theorem dL_law_1479 : decode cL_law 1479 = .ok (.iload 6, 2) := by decide +kernel
theorem dL_law_1481 : decode cL_law 1481 = .ok (.ifCond .ne 22, 3) := by decide +kernel
theorem dL_law_1484 : decode cL_law 1484 = .ok (.aload_n 3, 1) := by decide +kernel
theorem dL_law_1485 : decode cL_law 1485 = .ok (.iconst 0, 1) := by decide +kernel
theorem dL_law_1486 : decode cL_law 1486 = .ok (.laload, 1) := by decide +kernel
theorem dL_law_1487 : decode cL_law 1487 = .ok (.iload 7, 2) := by decide +kernel
theorem dL_law_1489 : decode cL_law 1489 = .ok (.ifCond .eq 7, 3) := by decide +kernel
theorem dL_law_1492 : decode cL_law 1492 = .ok (.lconst 1, 1) := by decide +kernel
theorem dL_law_1493 : decode cL_law 1493 = .ok (.goto 4, 3) := by decide +kernel
theorem dL_law_1496 : decode cL_law 1496 = .ok (.lconst 0, 1) := by decide +kernel
theorem dL_law_1497 : decode cL_law 1497 = .ok (.lcmp, 1) := by decide +kernel
theorem dL_law_1498 : decode cL_law 1498 = .ok (.ifCond .eq 5, 3) := by decide +kernel
theorem dL_law_1501 : decode cL_law 1501 = .ok (.iconst 0, 1) := by decide +kernel
theorem dL_law_1502 : decode cL_law 1502 = .ok (.ireturn, 1) := by decide +kernel
theorem dL_law_1503 : decode cL_law 1503 = .ok (.goto 792, 3) := by decide +kernel
theorem dL_law_1506 : decode cL_law 1506 = .ok (.aload_n 1, 1) := by decide +kernel
theorem dL_law_1507 : decode cL_law 1507 = .ok (.invokevirtual 208, 3) := by decide +kernel
theorem dL_law_1510 : decode cL_law 1510 = .ok (.aload_n 2, 1) := by decide +kernel
theorem dL_law_1511 : decode cL_law 1511 = .ok (.invokevirtual 211, 3) := by decide +kernel
theorem dL_law_1514 : decode cL_law 1514 = .ok (.if_icmp .eq 781, 3) := by decide +kernel
theorem dL_law_1517 : decode cL_law 1517 = .ok (.iconst 0, 1) := by decide +kernel
theorem dL_law_1518 : decode cL_law 1518 = .ok (.ireturn, 1) := by decide +kernel
theorem dL_law_1519 : decode cL_law 1519 = .ok (.aload_n 1, 1) := by decide +kernel
theorem dL_law_1520 : decode cL_law 1520 = .ok (.invokevirtual 212, 3) := by decide +kernel
theorem dL_law_1523 : decode cL_law 1523 = .ok (.aload_n 2, 1) := by decide +kernel
theorem dL_law_1524 : decode cL_law 1524 = .ok (.invokevirtual 215, 3) := by decide +kernel
theorem dL_law_1527 : decode cL_law 1527 = .ok (.if_icmp .eq 768, 3) := by decide +kernel
theorem dL_law_1530 : decode cL_law 1530 = .ok (.iconst 0, 1) := by decide +kernel
theorem dL_law_1531 : decode cL_law 1531 = .ok (.ireturn, 1) := by decide +kernel
theorem dL_law_1532 : decode cL_law 1532 = .ok (.aload_n 1, 1) := by decide +kernel
theorem dL_law_1533 : decode cL_law 1533 = .ok (.aload_n 0, 1) := by decide +kernel
theorem dL_law_1534 : decode cL_law 1534 = .ok (.iload 5, 2) := by decide +kernel
theorem dL_law_1536 : decode cL_law 1536 = .ok (.iconst 1, 1) := by decide +kernel
theorem dL_law_1537 : decode cL_law 1537 = .ok (.iadd, 1) := by decide +kernel
theorem dL_law_1538 : decode cL_law 1538 = .ok (.iaload, 1) := by decide +kernel
theorem dL_law_1539 : decode cL_law 1539 = .ok (.aload_n 3, 1) := by decide +kernel
theorem dL_law_1540 : decode cL_law 1540 = .ok (.invokestatic 216, 3) := by decide +kernel
theorem dL_law_1543 : decode cL_law 1543 = .ok (.istore 6, 2) := by decide +kernel
theorem dL_law_1545 : decode cL_law 1545 = .ok (.aload_n 2, 1) := by decide +kernel
theorem dL_law_1546 : decode cL_law 1546 = .ok (.aload_n 0, 1) := by decide +kernel
theorem dL_law_1547 : decode cL_law 1547 = .ok (.iload 5, 2) := by decide +kernel
theorem dL_law_1549 : decode cL_law 1549 = .ok (.iconst 1, 1) := by decide +kernel
theorem dL_law_1550 : decode cL_law 1550 = .ok (.iadd, 1) := by decide +kernel
theorem dL_law_1551 : decode cL_law 1551 = .ok (.iaload, 1) := by decide +kernel
theorem dL_law_1552 : decode cL_law 1552 = .ok (.invokevirtual 218, 3) := by decide +kernel
theorem dL_law_1555 : decode cL_law 1555 = .ok (.istore 7, 2) := by decide +kernel
theorem dL_law_1557 : decode cL_law 1557 = .ok (.aload_n 2, 1) := by decide +kernel
theorem dL_law_1558 : decode cL_law 1558 = .ok (.invokevirtual 133, 3) := by decide +kernel
theorem dL_law_1561 : decode cL_law 1561 = .ok (.iload 6, 2) := by decide +kernel
theorem dL_law_1563 : decode cL_law 1563 = .ok (.if_icmp .eq 5, 3) := by decide +kernel
theorem dL_law_1566 : decode cL_law 1566 = .ok (.iconst 0, 1) := by decide +kernel
theorem dL_law_1567 : decode cL_law 1567 = .ok (.ireturn, 1) := by decide +kernel
theorem dL_law_1568 : decode cL_law 1568 = .ok (.iload 6, 2) := by decide +kernel
theorem dL_law_1570 : decode cL_law 1570 = .ok (.ifCond .ne 22, 3) := by decide +kernel
theorem dL_law_1573 : decode cL_law 1573 = .ok (.aload_n 3, 1) := by decide +kernel
theorem dL_law_1574 : decode cL_law 1574 = .ok (.iconst 0, 1) := by decide +kernel
theorem dL_law_1575 : decode cL_law 1575 = .ok (.laload, 1) := by decide +kernel
theorem dL_law_1576 : decode cL_law 1576 = .ok (.iload 7, 2) := by decide +kernel
theorem dL_law_1578 : decode cL_law 1578 = .ok (.ifCond .eq 7, 3) := by decide +kernel
theorem dL_law_1581 : decode cL_law 1581 = .ok (.lconst 1, 1) := by decide +kernel
theorem dL_law_1582 : decode cL_law 1582 = .ok (.goto 4, 3) := by decide +kernel
theorem dL_law_1585 : decode cL_law 1585 = .ok (.lconst 0, 1) := by decide +kernel
theorem dL_law_1586 : decode cL_law 1586 = .ok (.lcmp, 1) := by decide +kernel
theorem dL_law_1587 : decode cL_law 1587 = .ok (.ifCond .eq 5, 3) := by decide +kernel
theorem dL_law_1590 : decode cL_law 1590 = .ok (.iconst 0, 1) := by decide +kernel
theorem dL_law_1591 : decode cL_law 1591 = .ok (.ireturn, 1) := by decide +kernel
theorem dL_law_1592 : decode cL_law 1592 = .ok (.goto 703, 3) := by decide +kernel
theorem dL_law_1595 : decode cL_law 1595 = .ok (.aload_n 1, 1) := by decide +kernel
theorem dL_law_1596 : decode cL_law 1596 = .ok (.aload_n 0, 1) := by decide +kernel
theorem dL_law_1597 : decode cL_law 1597 = .ok (.iload 5, 2) := by decide +kernel
theorem dL_law_1599 : decode cL_law 1599 = .ok (.iconst 1, 1) := by decide +kernel
theorem dL_law_1600 : decode cL_law 1600 = .ok (.iadd, 1) := by decide +kernel
theorem dL_law_1601 : decode cL_law 1601 = .ok (.iaload, 1) := by decide +kernel
theorem dL_law_1602 : decode cL_law 1602 = .ok (.aload_n 3, 1) := by decide +kernel
theorem dL_law_1603 : decode cL_law 1603 = .ok (.invokestatic 219, 3) := by decide +kernel
theorem dL_law_1606 : decode cL_law 1606 = .ok (.istore 6, 2) := by decide +kernel
theorem dL_law_1608 : decode cL_law 1608 = .ok (.aload_n 2, 1) := by decide +kernel
theorem dL_law_1609 : decode cL_law 1609 = .ok (.aload_n 0, 1) := by decide +kernel
theorem dL_law_1610 : decode cL_law 1610 = .ok (.iload 5, 2) := by decide +kernel
theorem dL_law_1612 : decode cL_law 1612 = .ok (.iconst 1, 1) := by decide +kernel
theorem dL_law_1613 : decode cL_law 1613 = .ok (.iadd, 1) := by decide +kernel
theorem dL_law_1614 : decode cL_law 1614 = .ok (.iaload, 1) := by decide +kernel
theorem dL_law_1615 : decode cL_law 1615 = .ok (.invokevirtual 221, 3) := by decide +kernel
theorem dL_law_1618 : decode cL_law 1618 = .ok (.istore 7, 2) := by decide +kernel
theorem dL_law_1620 : decode cL_law 1620 = .ok (.aload_n 2, 1) := by decide +kernel
theorem dL_law_1621 : decode cL_law 1621 = .ok (.invokevirtual 133, 3) := by decide +kernel
theorem dL_law_1624 : decode cL_law 1624 = .ok (.iload 6, 2) := by decide +kernel
theorem dL_law_1626 : decode cL_law 1626 = .ok (.if_icmp .eq 5, 3) := by decide +kernel
theorem dL_law_1629 : decode cL_law 1629 = .ok (.iconst 0, 1) := by decide +kernel
theorem dL_law_1630 : decode cL_law 1630 = .ok (.ireturn, 1) := by decide +kernel
theorem dL_law_1631 : decode cL_law 1631 = .ok (.iload 6, 2) := by decide +kernel
theorem dL_law_1633 : decode cL_law 1633 = .ok (.ifCond .ne 22, 3) := by decide +kernel
theorem dL_law_1636 : decode cL_law 1636 = .ok (.aload_n 3, 1) := by decide +kernel
theorem dL_law_1637 : decode cL_law 1637 = .ok (.iconst 0, 1) := by decide +kernel
theorem dL_law_1638 : decode cL_law 1638 = .ok (.laload, 1) := by decide +kernel
theorem dL_law_1639 : decode cL_law 1639 = .ok (.iload 7, 2) := by decide +kernel
theorem dL_law_1641 : decode cL_law 1641 = .ok (.ifCond .eq 7, 3) := by decide +kernel
theorem dL_law_1644 : decode cL_law 1644 = .ok (.lconst 1, 1) := by decide +kernel
theorem dL_law_1645 : decode cL_law 1645 = .ok (.goto 4, 3) := by decide +kernel
theorem dL_law_1648 : decode cL_law 1648 = .ok (.lconst 0, 1) := by decide +kernel
theorem dL_law_1649 : decode cL_law 1649 = .ok (.lcmp, 1) := by decide +kernel
theorem dL_law_1650 : decode cL_law 1650 = .ok (.ifCond .eq 5, 3) := by decide +kernel
theorem dL_law_1653 : decode cL_law 1653 = .ok (.iconst 0, 1) := by decide +kernel
theorem dL_law_1654 : decode cL_law 1654 = .ok (.ireturn, 1) := by decide +kernel
theorem dL_law_1655 : decode cL_law 1655 = .ok (.goto 640, 3) := by decide +kernel
theorem dL_law_1658 : decode cL_law 1658 = .ok (.aload_n 1, 1) := by decide +kernel
theorem dL_law_1659 : decode cL_law 1659 = .ok (.aload_n 0, 1) := by decide +kernel
theorem dL_law_1660 : decode cL_law 1660 = .ok (.iload 5, 2) := by decide +kernel
theorem dL_law_1662 : decode cL_law 1662 = .ok (.iconst 1, 1) := by decide +kernel
theorem dL_law_1663 : decode cL_law 1663 = .ok (.iadd, 1) := by decide +kernel
theorem dL_law_1664 : decode cL_law 1664 = .ok (.iaload, 1) := by decide +kernel
theorem dL_law_1665 : decode cL_law 1665 = .ok (.aload_n 3, 1) := by decide +kernel
theorem dL_law_1666 : decode cL_law 1666 = .ok (.invokestatic 222, 3) := by decide +kernel
theorem dL_law_1669 : decode cL_law 1669 = .ok (.istore 6, 2) := by decide +kernel
theorem dL_law_1671 : decode cL_law 1671 = .ok (.aload_n 2, 1) := by decide +kernel
theorem dL_law_1672 : decode cL_law 1672 = .ok (.aload_n 0, 1) := by decide +kernel
theorem dL_law_1673 : decode cL_law 1673 = .ok (.iload 5, 2) := by decide +kernel
theorem dL_law_1675 : decode cL_law 1675 = .ok (.iconst 1, 1) := by decide +kernel
theorem dL_law_1676 : decode cL_law 1676 = .ok (.iadd, 1) := by decide +kernel
theorem dL_law_1677 : decode cL_law 1677 = .ok (.iaload, 1) := by decide +kernel
theorem dL_law_1678 : decode cL_law 1678 = .ok (.invokevirtual 224, 3) := by decide +kernel
theorem dL_law_1681 : decode cL_law 1681 = .ok (.istore 7, 2) := by decide +kernel
theorem dL_law_1683 : decode cL_law 1683 = .ok (.aload_n 2, 1) := by decide +kernel
theorem dL_law_1684 : decode cL_law 1684 = .ok (.invokevirtual 133, 3) := by decide +kernel
theorem dL_law_1687 : decode cL_law 1687 = .ok (.iload 6, 2) := by decide +kernel
theorem dL_law_1689 : decode cL_law 1689 = .ok (.if_icmp .eq 5, 3) := by decide +kernel
theorem dL_law_1692 : decode cL_law 1692 = .ok (.iconst 0, 1) := by decide +kernel
theorem dL_law_1693 : decode cL_law 1693 = .ok (.ireturn, 1) := by decide +kernel
theorem dL_law_1694 : decode cL_law 1694 = .ok (.iload 6, 2) := by decide +kernel
theorem dL_law_1696 : decode cL_law 1696 = .ok (.ifCond .ne 15, 3) := by decide +kernel
theorem dL_law_1699 : decode cL_law 1699 = .ok (.aload_n 3, 1) := by decide +kernel
theorem dL_law_1700 : decode cL_law 1700 = .ok (.iconst 0, 1) := by decide +kernel
theorem dL_law_1701 : decode cL_law 1701 = .ok (.laload, 1) := by decide +kernel
theorem dL_law_1702 : decode cL_law 1702 = .ok (.iload 7, 2) := by decide +kernel
theorem dL_law_1704 : decode cL_law 1704 = .ok (.i2l, 1) := by decide +kernel
theorem dL_law_1705 : decode cL_law 1705 = .ok (.lcmp, 1) := by decide +kernel
theorem dL_law_1706 : decode cL_law 1706 = .ok (.ifCond .eq 5, 3) := by decide +kernel
theorem dL_law_1709 : decode cL_law 1709 = .ok (.iconst 0, 1) := by decide +kernel
theorem dL_law_1710 : decode cL_law 1710 = .ok (.ireturn, 1) := by decide +kernel
theorem dL_law_1711 : decode cL_law 1711 = .ok (.goto 584, 3) := by decide +kernel
theorem dL_law_1714 : decode cL_law 1714 = .ok (.aload_n 1, 1) := by decide +kernel
theorem dL_law_1715 : decode cL_law 1715 = .ok (.aload_n 0, 1) := by decide +kernel
theorem dL_law_1716 : decode cL_law 1716 = .ok (.iload 5, 2) := by decide +kernel
theorem dL_law_1718 : decode cL_law 1718 = .ok (.iconst 1, 1) := by decide +kernel
theorem dL_law_1719 : decode cL_law 1719 = .ok (.iadd, 1) := by decide +kernel
theorem dL_law_1720 : decode cL_law 1720 = .ok (.iaload, 1) := by decide +kernel
theorem dL_law_1721 : decode cL_law 1721 = .ok (.aload_n 3, 1) := by decide +kernel
theorem dL_law_1722 : decode cL_law 1722 = .ok (.invokestatic 225, 3) := by decide +kernel
theorem dL_law_1725 : decode cL_law 1725 = .ok (.istore 6, 2) := by decide +kernel
theorem dL_law_1727 : decode cL_law 1727 = .ok (.aload_n 2, 1) := by decide +kernel
theorem dL_law_1728 : decode cL_law 1728 = .ok (.aload_n 0, 1) := by decide +kernel
theorem dL_law_1729 : decode cL_law 1729 = .ok (.iload 5, 2) := by decide +kernel
theorem dL_law_1731 : decode cL_law 1731 = .ok (.iconst 1, 1) := by decide +kernel
theorem dL_law_1732 : decode cL_law 1732 = .ok (.iadd, 1) := by decide +kernel
theorem dL_law_1733 : decode cL_law 1733 = .ok (.iaload, 1) := by decide +kernel
theorem dL_law_1734 : decode cL_law 1734 = .ok (.invokevirtual 227, 3) := by decide +kernel
theorem dL_law_1737 : decode cL_law 1737 = .ok (.istore 7, 2) := by decide +kernel
theorem dL_law_1739 : decode cL_law 1739 = .ok (.aload_n 2, 1) := by decide +kernel
theorem dL_law_1740 : decode cL_law 1740 = .ok (.invokevirtual 133, 3) := by decide +kernel
theorem dL_law_1743 : decode cL_law 1743 = .ok (.iload 6, 2) := by decide +kernel
theorem dL_law_1745 : decode cL_law 1745 = .ok (.if_icmp .eq 5, 3) := by decide +kernel
theorem dL_law_1748 : decode cL_law 1748 = .ok (.iconst 0, 1) := by decide +kernel
theorem dL_law_1749 : decode cL_law 1749 = .ok (.ireturn, 1) := by decide +kernel
theorem dL_law_1750 : decode cL_law 1750 = .ok (.iload 6, 2) := by decide +kernel
theorem dL_law_1752 : decode cL_law 1752 = .ok (.ifCond .ne 15, 3) := by decide +kernel
theorem dL_law_1755 : decode cL_law 1755 = .ok (.aload_n 3, 1) := by decide +kernel
theorem dL_law_1756 : decode cL_law 1756 = .ok (.iconst 0, 1) := by decide +kernel
theorem dL_law_1757 : decode cL_law 1757 = .ok (.laload, 1) := by decide +kernel
theorem dL_law_1758 : decode cL_law 1758 = .ok (.iload 7, 2) := by decide +kernel
theorem dL_law_1760 : decode cL_law 1760 = .ok (.i2l, 1) := by decide +kernel
theorem dL_law_1761 : decode cL_law 1761 = .ok (.lcmp, 1) := by decide +kernel
theorem dL_law_1762 : decode cL_law 1762 = .ok (.ifCond .eq 5, 3) := by decide +kernel
theorem dL_law_1765 : decode cL_law 1765 = .ok (.iconst 0, 1) := by decide +kernel
theorem dL_law_1766 : decode cL_law 1766 = .ok (.ireturn, 1) := by decide +kernel
theorem dL_law_1767 : decode cL_law 1767 = .ok (.goto 528, 3) := by decide +kernel
theorem dL_law_1770 : decode cL_law 1770 = .ok (.aload_n 1, 1) := by decide +kernel
theorem dL_law_1771 : decode cL_law 1771 = .ok (.aload_n 0, 1) := by decide +kernel
theorem dL_law_1772 : decode cL_law 1772 = .ok (.iload 5, 2) := by decide +kernel
theorem dL_law_1774 : decode cL_law 1774 = .ok (.iconst 1, 1) := by decide +kernel
theorem dL_law_1775 : decode cL_law 1775 = .ok (.iadd, 1) := by decide +kernel
theorem dL_law_1776 : decode cL_law 1776 = .ok (.iaload, 1) := by decide +kernel
theorem dL_law_1777 : decode cL_law 1777 = .ok (.aload_n 3, 1) := by decide +kernel
theorem dL_law_1778 : decode cL_law 1778 = .ok (.invokestatic 228, 3) := by decide +kernel
theorem dL_law_1781 : decode cL_law 1781 = .ok (.istore 6, 2) := by decide +kernel
theorem dL_law_1783 : decode cL_law 1783 = .ok (.aload_n 2, 1) := by decide +kernel
theorem dL_law_1784 : decode cL_law 1784 = .ok (.aload_n 0, 1) := by decide +kernel
theorem dL_law_1785 : decode cL_law 1785 = .ok (.iload 5, 2) := by decide +kernel
theorem dL_law_1787 : decode cL_law 1787 = .ok (.iconst 1, 1) := by decide +kernel
theorem dL_law_1788 : decode cL_law 1788 = .ok (.iadd, 1) := by decide +kernel
theorem dL_law_1789 : decode cL_law 1789 = .ok (.iaload, 1) := by decide +kernel
theorem dL_law_1790 : decode cL_law 1790 = .ok (.invokevirtual 230, 3) := by decide +kernel
theorem dL_law_1793 : decode cL_law 1793 = .ok (.istore 7, 2) := by decide +kernel
theorem dL_law_1795 : decode cL_law 1795 = .ok (.aload_n 2, 1) := by decide +kernel
theorem dL_law_1796 : decode cL_law 1796 = .ok (.invokevirtual 133, 3) := by decide +kernel
theorem dL_law_1799 : decode cL_law 1799 = .ok (.iload 6, 2) := by decide +kernel
theorem dL_law_1801 : decode cL_law 1801 = .ok (.if_icmp .eq 5, 3) := by decide +kernel
theorem dL_law_1804 : decode cL_law 1804 = .ok (.iconst 0, 1) := by decide +kernel
theorem dL_law_1805 : decode cL_law 1805 = .ok (.ireturn, 1) := by decide +kernel
theorem dL_law_1806 : decode cL_law 1806 = .ok (.iload 6, 2) := by decide +kernel
theorem dL_law_1808 : decode cL_law 1808 = .ok (.ifCond .ne 15, 3) := by decide +kernel
theorem dL_law_1811 : decode cL_law 1811 = .ok (.aload_n 3, 1) := by decide +kernel
theorem dL_law_1812 : decode cL_law 1812 = .ok (.iconst 0, 1) := by decide +kernel
theorem dL_law_1813 : decode cL_law 1813 = .ok (.laload, 1) := by decide +kernel
theorem dL_law_1814 : decode cL_law 1814 = .ok (.iload 7, 2) := by decide +kernel
theorem dL_law_1816 : decode cL_law 1816 = .ok (.i2l, 1) := by decide +kernel
theorem dL_law_1817 : decode cL_law 1817 = .ok (.lcmp, 1) := by decide +kernel
theorem dL_law_1818 : decode cL_law 1818 = .ok (.ifCond .eq 5, 3) := by decide +kernel
theorem dL_law_1821 : decode cL_law 1821 = .ok (.iconst 0, 1) := by decide +kernel
theorem dL_law_1822 : decode cL_law 1822 = .ok (.ireturn, 1) := by decide +kernel
theorem dL_law_1823 : decode cL_law 1823 = .ok (.goto 472, 3) := by decide +kernel
theorem dL_law_1826 : decode cL_law 1826 = .ok (.aload_n 1, 1) := by decide +kernel
theorem dL_law_1827 : decode cL_law 1827 = .ok (.aload_n 0, 1) := by decide +kernel
theorem dL_law_1828 : decode cL_law 1828 = .ok (.iload 5, 2) := by decide +kernel
theorem dL_law_1830 : decode cL_law 1830 = .ok (.iconst 1, 1) := by decide +kernel
theorem dL_law_1831 : decode cL_law 1831 = .ok (.iadd, 1) := by decide +kernel
theorem dL_law_1832 : decode cL_law 1832 = .ok (.iaload, 1) := by decide +kernel
theorem dL_law_1833 : decode cL_law 1833 = .ok (.aload_n 0, 1) := by decide +kernel
theorem dL_law_1834 : decode cL_law 1834 = .ok (.iload 5, 2) := by decide +kernel
theorem dL_law_1836 : decode cL_law 1836 = .ok (.iconst 2, 1) := by decide +kernel
theorem dL_law_1837 : decode cL_law 1837 = .ok (.iadd, 1) := by decide +kernel
theorem dL_law_1838 : decode cL_law 1838 = .ok (.iaload, 1) := by decide +kernel
theorem dL_law_1839 : decode cL_law 1839 = .ok (.aload_n 3, 1) := by decide +kernel
theorem dL_law_1840 : decode cL_law 1840 = .ok (.invokestatic 231, 3) := by decide +kernel
theorem dL_law_1843 : decode cL_law 1843 = .ok (.istore 6, 2) := by decide +kernel
theorem dL_law_1845 : decode cL_law 1845 = .ok (.aload_n 2, 1) := by decide +kernel
theorem dL_law_1846 : decode cL_law 1846 = .ok (.aload_n 0, 1) := by decide +kernel
theorem dL_law_1847 : decode cL_law 1847 = .ok (.iload 5, 2) := by decide +kernel
theorem dL_law_1849 : decode cL_law 1849 = .ok (.iconst 1, 1) := by decide +kernel
theorem dL_law_1850 : decode cL_law 1850 = .ok (.iadd, 1) := by decide +kernel
theorem dL_law_1851 : decode cL_law 1851 = .ok (.iaload, 1) := by decide +kernel
theorem dL_law_1852 : decode cL_law 1852 = .ok (.aload_n 0, 1) := by decide +kernel
theorem dL_law_1853 : decode cL_law 1853 = .ok (.iload 5, 2) := by decide +kernel
theorem dL_law_1855 : decode cL_law 1855 = .ok (.iconst 2, 1) := by decide +kernel
theorem dL_law_1856 : decode cL_law 1856 = .ok (.iadd, 1) := by decide +kernel
theorem dL_law_1857 : decode cL_law 1857 = .ok (.iaload, 1) := by decide +kernel
theorem dL_law_1858 : decode cL_law 1858 = .ok (.invokevirtual 233, 3) := by decide +kernel
theorem dL_law_1861 : decode cL_law 1861 = .ok (.istore 7, 2) := by decide +kernel
theorem dL_law_1863 : decode cL_law 1863 = .ok (.aload_n 2, 1) := by decide +kernel
theorem dL_law_1864 : decode cL_law 1864 = .ok (.invokevirtual 133, 3) := by decide +kernel
theorem dL_law_1867 : decode cL_law 1867 = .ok (.iload 6, 2) := by decide +kernel
theorem dL_law_1869 : decode cL_law 1869 = .ok (.if_icmp .eq 5, 3) := by decide +kernel
theorem dL_law_1872 : decode cL_law 1872 = .ok (.iconst 0, 1) := by decide +kernel
theorem dL_law_1873 : decode cL_law 1873 = .ok (.ireturn, 1) := by decide +kernel
theorem dL_law_1874 : decode cL_law 1874 = .ok (.iload 6, 2) := by decide +kernel
theorem dL_law_1876 : decode cL_law 1876 = .ok (.ifCond .ne 22, 3) := by decide +kernel
theorem dL_law_1879 : decode cL_law 1879 = .ok (.aload_n 3, 1) := by decide +kernel
theorem dL_law_1880 : decode cL_law 1880 = .ok (.iconst 0, 1) := by decide +kernel
theorem dL_law_1881 : decode cL_law 1881 = .ok (.laload, 1) := by decide +kernel
theorem dL_law_1882 : decode cL_law 1882 = .ok (.iload 7, 2) := by decide +kernel
theorem dL_law_1884 : decode cL_law 1884 = .ok (.ifCond .eq 7, 3) := by decide +kernel
theorem dL_law_1887 : decode cL_law 1887 = .ok (.lconst 1, 1) := by decide +kernel
theorem dL_law_1888 : decode cL_law 1888 = .ok (.goto 4, 3) := by decide +kernel
theorem dL_law_1891 : decode cL_law 1891 = .ok (.lconst 0, 1) := by decide +kernel
theorem dL_law_1892 : decode cL_law 1892 = .ok (.lcmp, 1) := by decide +kernel
theorem dL_law_1893 : decode cL_law 1893 = .ok (.ifCond .eq 5, 3) := by decide +kernel
theorem dL_law_1896 : decode cL_law 1896 = .ok (.iconst 0, 1) := by decide +kernel
theorem dL_law_1897 : decode cL_law 1897 = .ok (.ireturn, 1) := by decide +kernel
theorem dL_law_1898 : decode cL_law 1898 = .ok (.goto 397, 3) := by decide +kernel
theorem dL_law_1901 : decode cL_law 1901 = .ok (.aload_n 1, 1) := by decide +kernel
theorem dL_law_1902 : decode cL_law 1902 = .ok (.aload_n 0, 1) := by decide +kernel
theorem dL_law_1903 : decode cL_law 1903 = .ok (.iload 5, 2) := by decide +kernel
theorem dL_law_1905 : decode cL_law 1905 = .ok (.iconst 1, 1) := by decide +kernel
theorem dL_law_1906 : decode cL_law 1906 = .ok (.iadd, 1) := by decide +kernel
theorem dL_law_1907 : decode cL_law 1907 = .ok (.iaload, 1) := by decide +kernel
theorem dL_law_1908 : decode cL_law 1908 = .ok (.aload_n 3, 1) := by decide +kernel
theorem dL_law_1909 : decode cL_law 1909 = .ok (.invokestatic 234, 3) := by decide +kernel
theorem dL_law_1912 : decode cL_law 1912 = .ok (.istore 6, 2) := by decide +kernel
theorem dL_law_1914 : decode cL_law 1914 = .ok (.aload_n 2, 1) := by decide +kernel
theorem dL_law_1915 : decode cL_law 1915 = .ok (.aload_n 0, 1) := by decide +kernel
theorem dL_law_1916 : decode cL_law 1916 = .ok (.iload 5, 2) := by decide +kernel
theorem dL_law_1918 : decode cL_law 1918 = .ok (.iconst 1, 1) := by decide +kernel
theorem dL_law_1919 : decode cL_law 1919 = .ok (.iadd, 1) := by decide +kernel
theorem dL_law_1920 : decode cL_law 1920 = .ok (.iaload, 1) := by decide +kernel
theorem dL_law_1921 : decode cL_law 1921 = .ok (.invokevirtual 236, 3) := by decide +kernel
theorem dL_law_1924 : decode cL_law 1924 = .ok (.istore 7, 2) := by decide +kernel
theorem dL_law_1926 : decode cL_law 1926 = .ok (.aload_n 2, 1) := by decide +kernel
theorem dL_law_1927 : decode cL_law 1927 = .ok (.invokevirtual 133, 3) := by decide +kernel
theorem dL_law_1930 : decode cL_law 1930 = .ok (.iload 6, 2) := by decide +kernel
theorem dL_law_1932 : decode cL_law 1932 = .ok (.if_icmp .eq 5, 3) := by decide +kernel
theorem dL_law_1935 : decode cL_law 1935 = .ok (.iconst 0, 1) := by decide +kernel
theorem dL_law_1936 : decode cL_law 1936 = .ok (.ireturn, 1) := by decide +kernel
theorem dL_law_1937 : decode cL_law 1937 = .ok (.iload 6, 2) := by decide +kernel
theorem dL_law_1939 : decode cL_law 1939 = .ok (.ifCond .ne 15, 3) := by decide +kernel
theorem dL_law_1942 : decode cL_law 1942 = .ok (.aload_n 3, 1) := by decide +kernel
theorem dL_law_1943 : decode cL_law 1943 = .ok (.iconst 0, 1) := by decide +kernel
theorem dL_law_1944 : decode cL_law 1944 = .ok (.laload, 1) := by decide +kernel
theorem dL_law_1945 : decode cL_law 1945 = .ok (.iload 7, 2) := by decide +kernel
theorem dL_law_1947 : decode cL_law 1947 = .ok (.i2l, 1) := by decide +kernel
theorem dL_law_1948 : decode cL_law 1948 = .ok (.lcmp, 1) := by decide +kernel
theorem dL_law_1949 : decode cL_law 1949 = .ok (.ifCond .eq 5, 3) := by decide +kernel
theorem dL_law_1952 : decode cL_law 1952 = .ok (.iconst 0, 1) := by decide +kernel
theorem dL_law_1953 : decode cL_law 1953 = .ok (.ireturn, 1) := by decide +kernel
theorem dL_law_1954 : decode cL_law 1954 = .ok (.goto 341, 3) := by decide +kernel
theorem dL_law_1957 : decode cL_law 1957 = .ok (.aload_n 1, 1) := by decide +kernel
theorem dL_law_1958 : decode cL_law 1958 = .ok (.aload_n 0, 1) := by decide +kernel
theorem dL_law_1959 : decode cL_law 1959 = .ok (.iload 5, 2) := by decide +kernel
theorem dL_law_1961 : decode cL_law 1961 = .ok (.iconst 1, 1) := by decide +kernel
theorem dL_law_1962 : decode cL_law 1962 = .ok (.iadd, 1) := by decide +kernel
theorem dL_law_1963 : decode cL_law 1963 = .ok (.iaload, 1) := by decide +kernel
theorem dL_law_1964 : decode cL_law 1964 = .ok (.aload_n 3, 1) := by decide +kernel
theorem dL_law_1965 : decode cL_law 1965 = .ok (.invokestatic 237, 3) := by decide +kernel
theorem dL_law_1968 : decode cL_law 1968 = .ok (.istore 6, 2) := by decide +kernel
theorem dL_law_1970 : decode cL_law 1970 = .ok (.aload_n 2, 1) := by decide +kernel
theorem dL_law_1971 : decode cL_law 1971 = .ok (.aload_n 0, 1) := by decide +kernel
theorem dL_law_1972 : decode cL_law 1972 = .ok (.iload 5, 2) := by decide +kernel
theorem dL_law_1974 : decode cL_law 1974 = .ok (.iconst 1, 1) := by decide +kernel
theorem dL_law_1975 : decode cL_law 1975 = .ok (.iadd, 1) := by decide +kernel
theorem dL_law_1976 : decode cL_law 1976 = .ok (.iaload, 1) := by decide +kernel
theorem dL_law_1977 : decode cL_law 1977 = .ok (.invokevirtual 239, 3) := by decide +kernel
theorem dL_law_1980 : decode cL_law 1980 = .ok (.istore 7, 2) := by decide +kernel
theorem dL_law_1982 : decode cL_law 1982 = .ok (.aload_n 2, 1) := by decide +kernel
theorem dL_law_1983 : decode cL_law 1983 = .ok (.invokevirtual 133, 3) := by decide +kernel
theorem dL_law_1986 : decode cL_law 1986 = .ok (.iload 6, 2) := by decide +kernel
theorem dL_law_1988 : decode cL_law 1988 = .ok (.if_icmp .eq 5, 3) := by decide +kernel
theorem dL_law_1991 : decode cL_law 1991 = .ok (.iconst 0, 1) := by decide +kernel
theorem dL_law_1992 : decode cL_law 1992 = .ok (.ireturn, 1) := by decide +kernel
theorem dL_law_1993 : decode cL_law 1993 = .ok (.iload 6, 2) := by decide +kernel
theorem dL_law_1995 : decode cL_law 1995 = .ok (.ifCond .ne 15, 3) := by decide +kernel
theorem dL_law_1998 : decode cL_law 1998 = .ok (.aload_n 3, 1) := by decide +kernel
theorem dL_law_1999 : decode cL_law 1999 = .ok (.iconst 0, 1) := by decide +kernel
theorem dL_law_2000 : decode cL_law 2000 = .ok (.laload, 1) := by decide +kernel
theorem dL_law_2001 : decode cL_law 2001 = .ok (.iload 7, 2) := by decide +kernel
theorem dL_law_2003 : decode cL_law 2003 = .ok (.i2l, 1) := by decide +kernel
theorem dL_law_2004 : decode cL_law 2004 = .ok (.lcmp, 1) := by decide +kernel
theorem dL_law_2005 : decode cL_law 2005 = .ok (.ifCond .eq 5, 3) := by decide +kernel
theorem dL_law_2008 : decode cL_law 2008 = .ok (.iconst 0, 1) := by decide +kernel
theorem dL_law_2009 : decode cL_law 2009 = .ok (.ireturn, 1) := by decide +kernel
theorem dL_law_2010 : decode cL_law 2010 = .ok (.goto 285, 3) := by decide +kernel
theorem dL_law_2013 : decode cL_law 2013 = .ok (.aload_n 1, 1) := by decide +kernel
theorem dL_law_2014 : decode cL_law 2014 = .ok (.invokevirtual 240, 3) := by decide +kernel
theorem dL_law_2017 : decode cL_law 2017 = .ok (.aload_n 2, 1) := by decide +kernel
theorem dL_law_2018 : decode cL_law 2018 = .ok (.invokevirtual 243, 3) := by decide +kernel
theorem dL_law_2021 : decode cL_law 2021 = .ok (.if_icmp .eq 274, 3) := by decide +kernel
theorem dL_law_2024 : decode cL_law 2024 = .ok (.iconst 0, 1) := by decide +kernel
theorem dL_law_2025 : decode cL_law 2025 = .ok (.ireturn, 1) := by decide +kernel
theorem dL_law_2026 : decode cL_law 2026 = .ok (.aload_n 1, 1) := by decide +kernel
theorem dL_law_2027 : decode cL_law 2027 = .ok (.invokevirtual 244, 3) := by decide +kernel
theorem dL_law_2030 : decode cL_law 2030 = .ok (.aload_n 2, 1) := by decide +kernel
theorem dL_law_2031 : decode cL_law 2031 = .ok (.invokevirtual 247, 3) := by decide +kernel
theorem dL_law_2034 : decode cL_law 2034 = .ok (.if_icmp .eq 261, 3) := by decide +kernel
theorem dL_law_2037 : decode cL_law 2037 = .ok (.iconst 0, 1) := by decide +kernel
theorem dL_law_2038 : decode cL_law 2038 = .ok (.ireturn, 1) := by decide +kernel
theorem dL_law_2039 : decode cL_law 2039 = .ok (.aload_n 1, 1) := by decide +kernel
theorem dL_law_2040 : decode cL_law 2040 = .ok (.aload 4, 2) := by decide +kernel
theorem dL_law_2042 : decode cL_law 2042 = .ok (.invokestatic 248, 3) := by decide +kernel
theorem dL_law_2045 : decode cL_law 2045 = .ok (.istore 6, 2) := by decide +kernel
theorem dL_law_2047 : decode cL_law 2047 = .ok (.aload_n 2, 1) := by decide +kernel
theorem dL_law_2048 : decode cL_law 2048 = .ok (.invokevirtual 251, 3) := by decide +kernel
theorem dL_law_2051 : decode cL_law 2051 = .ok (.dstore 7, 2) := by decide +kernel
theorem dL_law_2053 : decode cL_law 2053 = .ok (.aload_n 2, 1) := by decide +kernel
theorem dL_law_2054 : decode cL_law 2054 = .ok (.invokevirtual 133, 3) := by decide +kernel
theorem dL_law_2057 : decode cL_law 2057 = .ok (.iload 6, 2) := by decide +kernel
theorem dL_law_2059 : decode cL_law 2059 = .ok (.if_icmp .eq 5, 3) := by decide +kernel
theorem dL_law_2062 : decode cL_law 2062 = .ok (.iconst 0, 1) := by decide +kernel
theorem dL_law_2063 : decode cL_law 2063 = .ok (.ireturn, 1) := by decide +kernel
theorem dL_law_2064 : decode cL_law 2064 = .ok (.iload 6, 2) := by decide +kernel
theorem dL_law_2066 : decode cL_law 2066 = .ok (.ifCond .ne 35, 3) := by decide +kernel
theorem dL_law_2069 : decode cL_law 2069 = .ok (.aload 4, 2) := by decide +kernel
theorem dL_law_2071 : decode cL_law 2071 = .ok (.iconst 0, 1) := by decide +kernel
theorem dL_law_2072 : decode cL_law 2072 = .ok (.daload, 1) := by decide +kernel
theorem dL_law_2073 : decode cL_law 2073 = .ok (.dload 7, 2) := by decide +kernel
theorem dL_law_2075 : decode cL_law 2075 = .ok (.dcmp .l, 1) := by decide +kernel
theorem dL_law_2076 : decode cL_law 2076 = .ok (.ifCond .eq 25, 3) := by decide +kernel
theorem dL_law_2079 : decode cL_law 2079 = .ok (.aload 4, 2) := by decide +kernel
theorem dL_law_2081 : decode cL_law 2081 = .ok (.iconst 0, 1) := by decide +kernel
theorem dL_law_2082 : decode cL_law 2082 = .ok (.daload, 1) := by decide +kernel
theorem dL_law_2083 : decode cL_law 2083 = .ok (.aload 4, 2) := by decide +kernel
theorem dL_law_2085 : decode cL_law 2085 = .ok (.iconst 0, 1) := by decide +kernel
theorem dL_law_2086 : decode cL_law 2086 = .ok (.daload, 1) := by decide +kernel
theorem dL_law_2087 : decode cL_law 2087 = .ok (.dcmp .l, 1) := by decide +kernel
theorem dL_law_2088 : decode cL_law 2088 = .ok (.ifCond .eq 11, 3) := by decide +kernel
theorem dL_law_2091 : decode cL_law 2091 = .ok (.dload 7, 2) := by decide +kernel
theorem dL_law_2093 : decode cL_law 2093 = .ok (.dload 7, 2) := by decide +kernel
theorem dL_law_2095 : decode cL_law 2095 = .ok (.dcmp .l, 1) := by decide +kernel
theorem dL_law_2096 : decode cL_law 2096 = .ok (.ifCond .ne 5, 3) := by decide +kernel
theorem dL_law_2099 : decode cL_law 2099 = .ok (.iconst 0, 1) := by decide +kernel
theorem dL_law_2100 : decode cL_law 2100 = .ok (.ireturn, 1) := by decide +kernel
theorem dL_law_2101 : decode cL_law 2101 = .ok (.goto 194, 3) := by decide +kernel
theorem dL_law_2104 : decode cL_law 2104 = .ok (.aload_n 1, 1) := by decide +kernel
theorem dL_law_2105 : decode cL_law 2105 = .ok (.aload 4, 2) := by decide +kernel
theorem dL_law_2107 : decode cL_law 2107 = .ok (.invokestatic 252, 3) := by decide +kernel
theorem dL_law_2110 : decode cL_law 2110 = .ok (.istore 6, 2) := by decide +kernel
theorem dL_law_2112 : decode cL_law 2112 = .ok (.aload_n 2, 1) := by decide +kernel
theorem dL_law_2113 : decode cL_law 2113 = .ok (.invokevirtual 254, 3) := by decide +kernel
theorem dL_law_2116 : decode cL_law 2116 = .ok (.fstore 7, 2) := by decide +kernel
theorem dL_law_2118 : decode cL_law 2118 = .ok (.aload_n 2, 1) := by decide +kernel
theorem dL_law_2119 : decode cL_law 2119 = .ok (.invokevirtual 133, 3) := by decide +kernel
theorem dL_law_2122 : decode cL_law 2122 = .ok (.iload 6, 2) := by decide +kernel
theorem dL_law_2124 : decode cL_law 2124 = .ok (.if_icmp .eq 5, 3) := by decide +kernel
theorem dL_law_2127 : decode cL_law 2127 = .ok (.iconst 0, 1) := by decide +kernel
theorem dL_law_2128 : decode cL_law 2128 = .ok (.ireturn, 1) := by decide +kernel
theorem dL_law_2129 : decode cL_law 2129 = .ok (.iload 6, 2) := by decide +kernel
theorem dL_law_2131 : decode cL_law 2131 = .ok (.ifCond .ne 36, 3) := by decide +kernel
theorem dL_law_2134 : decode cL_law 2134 = .ok (.aload 4, 2) := by decide +kernel
theorem dL_law_2136 : decode cL_law 2136 = .ok (.iconst 0, 1) := by decide +kernel
theorem dL_law_2137 : decode cL_law 2137 = .ok (.daload, 1) := by decide +kernel
theorem dL_law_2138 : decode cL_law 2138 = .ok (.fload 7, 2) := by decide +kernel
theorem dL_law_2140 : decode cL_law 2140 = .ok (.f2d, 1) := by decide +kernel
theorem dL_law_2141 : decode cL_law 2141 = .ok (.dcmp .l, 1) := by decide +kernel
theorem dL_law_2142 : decode cL_law 2142 = .ok (.ifCond .eq 25, 3) := by decide +kernel
theorem dL_law_2145 : decode cL_law 2145 = .ok (.aload 4, 2) := by decide +kernel
theorem dL_law_2147 : decode cL_law 2147 = .ok (.iconst 0, 1) := by decide +kernel
theorem dL_law_2148 : decode cL_law 2148 = .ok (.daload, 1) := by decide +kernel
theorem dL_law_2149 : decode cL_law 2149 = .ok (.aload 4, 2) := by decide +kernel
theorem dL_law_2151 : decode cL_law 2151 = .ok (.iconst 0, 1) := by decide +kernel
theorem dL_law_2152 : decode cL_law 2152 = .ok (.daload, 1) := by decide +kernel
theorem dL_law_2153 : decode cL_law 2153 = .ok (.dcmp .l, 1) := by decide +kernel
theorem dL_law_2154 : decode cL_law 2154 = .ok (.ifCond .eq 11, 3) := by decide +kernel
theorem dL_law_2157 : decode cL_law 2157 = .ok (.fload 7, 2) := by decide +kernel
theorem dL_law_2159 : decode cL_law 2159 = .ok (.fload 7, 2) := by decide +kernel
theorem dL_law_2161 : decode cL_law 2161 = .ok (.fcmp .l, 1) := by decide +kernel
theorem dL_law_2162 : decode cL_law 2162 = .ok (.ifCond .ne 5, 3) := by decide +kernel
theorem dL_law_2165 : decode cL_law 2165 = .ok (.iconst 0, 1) := by decide +kernel
theorem dL_law_2166 : decode cL_law 2166 = .ok (.ireturn, 1) := by decide +kernel
theorem dL_law_2167 : decode cL_law 2167 = .ok (.goto 128, 3) := by decide +kernel
theorem dL_law_2170 : decode cL_law 2170 = .ok (.aload_n 1, 1) := by decide +kernel
theorem dL_law_2171 : decode cL_law 2171 = .ok (.invokevirtual 255, 3) := by decide +kernel
theorem dL_law_2174 : decode cL_law 2174 = .ok (.aload_n 2, 1) := by decide +kernel
theorem dL_law_2175 : decode cL_law 2175 = .ok (.invokevirtual 259, 3) := by decide +kernel
theorem dL_law_2178 : decode cL_law 2178 = .ok (.if_icmp .eq 117, 3) := by decide +kernel
theorem dL_law_2181 : decode cL_law 2181 = .ok (.iconst 0, 1) := by decide +kernel
theorem dL_law_2182 : decode cL_law 2182 = .ok (.ireturn, 1) := by decide +kernel
theorem dL_law_2183 : decode cL_law 2183 = .ok (.aload_n 1, 1) := by decide +kernel
theorem dL_law_2184 : decode cL_law 2184 = .ok (.aload_n 0, 1) := by decide +kernel
theorem dL_law_2185 : decode cL_law 2185 = .ok (.iload 5, 2) := by decide +kernel
theorem dL_law_2187 : decode cL_law 2187 = .ok (.iconst 1, 1) := by decide +kernel
theorem dL_law_2188 : decode cL_law 2188 = .ok (.iadd, 1) := by decide +kernel
theorem dL_law_2189 : decode cL_law 2189 = .ok (.iaload, 1) := by decide +kernel
theorem dL_law_2190 : decode cL_law 2190 = .ok (.aload_n 3, 1) := by decide +kernel
theorem dL_law_2191 : decode cL_law 2191 = .ok (.invokestatic 260, 3) := by decide +kernel
theorem dL_law_2194 : decode cL_law 2194 = .ok (.istore 6, 2) := by decide +kernel
theorem dL_law_2196 : decode cL_law 2196 = .ok (.aload_n 2, 1) := by decide +kernel
theorem dL_law_2197 : decode cL_law 2197 = .ok (.aload_n 0, 1) := by decide +kernel
theorem dL_law_2198 : decode cL_law 2198 = .ok (.iload 5, 2) := by decide +kernel
theorem dL_law_2200 : decode cL_law 2200 = .ok (.iconst 1, 1) := by decide +kernel
theorem dL_law_2201 : decode cL_law 2201 = .ok (.iadd, 1) := by decide +kernel
theorem dL_law_2202 : decode cL_law 2202 = .ok (.iaload, 1) := by decide +kernel
theorem dL_law_2203 : decode cL_law 2203 = .ok (.invokevirtual 262, 3) := by decide +kernel
theorem dL_law_2206 : decode cL_law 2206 = .ok (.istore 7, 2) := by decide +kernel
theorem dL_law_2208 : decode cL_law 2208 = .ok (.aload_n 2, 1) := by decide +kernel
theorem dL_law_2209 : decode cL_law 2209 = .ok (.invokevirtual 133, 3) := by decide +kernel
theorem dL_law_2212 : decode cL_law 2212 = .ok (.iload 6, 2) := by decide +kernel
theorem dL_law_2214 : decode cL_law 2214 = .ok (.if_icmp .eq 5, 3) := by decide +kernel
theorem dL_law_2217 : decode cL_law 2217 = .ok (.iconst 0, 1) := by decide +kernel
theorem dL_law_2218 : decode cL_law 2218 = .ok (.ireturn, 1) := by decide +kernel
theorem dL_law_2219 : decode cL_law 2219 = .ok (.iload 6, 2) := by decide +kernel
theorem dL_law_2221 : decode cL_law 2221 = .ok (.ifCond .ne 15, 3) := by decide +kernel
theorem dL_law_2224 : decode cL_law 2224 = .ok (.aload_n 3, 1) := by decide +kernel
theorem dL_law_2225 : decode cL_law 2225 = .ok (.iconst 0, 1) := by decide +kernel
theorem dL_law_2226 : decode cL_law 2226 = .ok (.laload, 1) := by decide +kernel
theorem dL_law_2227 : decode cL_law 2227 = .ok (.iload 7, 2) := by decide +kernel
theorem dL_law_2229 : decode cL_law 2229 = .ok (.i2l, 1) := by decide +kernel
theorem dL_law_2230 : decode cL_law 2230 = .ok (.lcmp, 1) := by decide +kernel
theorem dL_law_2231 : decode cL_law 2231 = .ok (.ifCond .eq 5, 3) := by decide +kernel
theorem dL_law_2234 : decode cL_law 2234 = .ok (.iconst 0, 1) := by decide +kernel
theorem dL_law_2235 : decode cL_law 2235 = .ok (.ireturn, 1) := by decide +kernel
theorem dL_law_2236 : decode cL_law 2236 = .ok (.goto 59, 3) := by decide +kernel
theorem dL_law_2239 : decode cL_law 2239 = .ok (.aload_n 1, 1) := by decide +kernel
theorem dL_law_2240 : decode cL_law 2240 = .ok (.aload_n 0, 1) := by decide +kernel
theorem dL_law_2241 : decode cL_law 2241 = .ok (.iload 5, 2) := by decide +kernel
theorem dL_law_2243 : decode cL_law 2243 = .ok (.iconst 1, 1) := by decide +kernel
theorem dL_law_2244 : decode cL_law 2244 = .ok (.iadd, 1) := by decide +kernel
theorem dL_law_2245 : decode cL_law 2245 = .ok (.iaload, 1) := by decide +kernel
theorem dL_law_2246 : decode cL_law 2246 = .ok (.aload_n 3, 1) := by decide +kernel
theorem dL_law_2247 : decode cL_law 2247 = .ok (.invokestatic 263, 3) := by decide +kernel
theorem dL_law_2250 : decode cL_law 2250 = .ok (.istore 6, 2) := by decide +kernel
theorem dL_law_2252 : decode cL_law 2252 = .ok (.aload_n 2, 1) := by decide +kernel
theorem dL_law_2253 : decode cL_law 2253 = .ok (.aload_n 0, 1) := by decide +kernel
theorem dL_law_2254 : decode cL_law 2254 = .ok (.iload 5, 2) := by decide +kernel
theorem dL_law_2256 : decode cL_law 2256 = .ok (.iconst 1, 1) := by decide +kernel
theorem dL_law_2257 : decode cL_law 2257 = .ok (.iadd, 1) := by decide +kernel
theorem dL_law_2258 : decode cL_law 2258 = .ok (.iaload, 1) := by decide +kernel
theorem dL_law_2259 : decode cL_law 2259 = .ok (.invokevirtual 265, 3) := by decide +kernel
theorem dL_law_2262 : decode cL_law 2262 = .ok (.istore 7, 2) := by decide +kernel
theorem dL_law_2264 : decode cL_law 2264 = .ok (.aload_n 2, 1) := by decide +kernel
theorem dL_law_2265 : decode cL_law 2265 = .ok (.invokevirtual 133, 3) := by decide +kernel
theorem dL_law_2268 : decode cL_law 2268 = .ok (.iload 6, 2) := by decide +kernel
theorem dL_law_2270 : decode cL_law 2270 = .ok (.if_icmp .eq 5, 3) := by decide +kernel
theorem dL_law_2273 : decode cL_law 2273 = .ok (.iconst 0, 1) := by decide +kernel
theorem dL_law_2274 : decode cL_law 2274 = .ok (.ireturn, 1) := by decide +kernel
theorem dL_law_2275 : decode cL_law 2275 = .ok (.iload 6, 2) := by decide +kernel
theorem dL_law_2277 : decode cL_law 2277 = .ok (.ifCond .ne 15, 3) := by decide +kernel
theorem dL_law_2280 : decode cL_law 2280 = .ok (.aload_n 3, 1) := by decide +kernel
theorem dL_law_2281 : decode cL_law 2281 = .ok (.iconst 0, 1) := by decide +kernel
theorem dL_law_2282 : decode cL_law 2282 = .ok (.laload, 1) := by decide +kernel
theorem dL_law_2283 : decode cL_law 2283 = .ok (.iload 7, 2) := by decide +kernel
theorem dL_law_2285 : decode cL_law 2285 = .ok (.i2l, 1) := by decide +kernel
theorem dL_law_2286 : decode cL_law 2286 = .ok (.lcmp, 1) := by decide +kernel
theorem dL_law_2287 : decode cL_law 2287 = .ok (.ifCond .eq 5, 3) := by decide +kernel
theorem dL_law_2290 : decode cL_law 2290 = .ok (.iconst 0, 1) := by decide +kernel
theorem dL_law_2291 : decode cL_law 2291 = .ok (.ireturn, 1) := by decide +kernel
theorem dL_law_2292 : decode cL_law 2292 = .ok (.goto 3, 3) := by decide +kernel
theorem dL_law_2295 : decode cL_law 2295 = .ok (.iinc 5 4, 3) := by decide +kernel
theorem dL_law_2298 : decode cL_law 2298 = .ok (.goto (-2270), 3) := by decide +kernel
theorem dL_law_2301 : decode cL_law 2301 = .ok (.iconst 1, 1) := by decide +kernel
theorem dL_law_2302 : decode cL_law 2302 = .ok (.ireturn, 1) := by decide +kernel
end
section
theorem dJ5_init_d00df_0 : decode cJ5_init_d00df 0 = .ok (.aload_n 0, 1) := by decide +kernel
theorem dJ5_init_d00df_1 : decode cJ5_init_d00df 1 = .ok (.invokespecial 3, 3) := by decide +kernel
theorem dJ5_init_d00df_4 : decode cJ5_init_d00df 4 = .ok (.getstatic 18, 3) := by decide +kernel
theorem dJ5_init_d00df_7 : decode cJ5_init_d00df 7 = .ok (.ifCond .eq 18, 3) := by decide +kernel
theorem dJ5_init_d00df_10 : decode cJ5_init_d00df 10 = .ok (.aload_n 0, 1) := by decide +kernel
theorem dJ5_init_d00df_11 : decode cJ5_init_d00df 11 = .ok (.iload_n 1, 1) := by decide +kernel
theorem dJ5_init_d00df_12 : decode cJ5_init_d00df 12 = .ok (.newarray .byte, 2) := by decide +kernel
theorem dJ5_init_d00df_14 : decode cJ5_init_d00df 14 = .ok (.putfield 15, 3) := by decide +kernel
theorem dJ5_init_d00df_17 : decode cJ5_init_d00df 17 = .ok (.aload_n 0, 1) := by decide +kernel
theorem dJ5_init_d00df_18 : decode cJ5_init_d00df 18 = .ok (.iconst 0, 1) := by decide +kernel
theorem dJ5_init_d00df_19 : decode cJ5_init_d00df 19 = .ok (.putfield 22, 3) := by decide +kernel
theorem dJ5_init_d00df_22 : decode cJ5_init_d00df 22 = .ok (.goto 16, 3) := by decide +kernel
theorem dJ5_init_d00df_25 : decode cJ5_init_d00df 25 = .ok (.aload_n 0, 1) := by decide +kernel
theorem dJ5_init_d00df_26 : decode cJ5_init_d00df 26 = .ok (.iload_n 1, 1) := by decide +kernel
theorem dJ5_init_d00df_27 : decode cJ5_init_d00df 27 = .ok (.invokestatic 26, 3) := by decide +kernel
theorem dJ5_init_d00df_30 : decode cJ5_init_d00df 30 = .ok (.putfield 15, 3) := by decide +kernel
theorem dJ5_init_d00df_33 : decode cJ5_init_d00df 33 = .ok (.aload_n 0, 1) := by decide +kernel
theorem dJ5_init_d00df_34 : decode cJ5_init_d00df 34 = .ok (.iconst 1, 1) := by decide +kernel
theorem dJ5_init_d00df_35 : decode cJ5_init_d00df 35 = .ok (.putfield 22, 3) := by decide +kernel
theorem dJ5_init_d00df_38 : decode cJ5_init_d00df 38 = .ok (.return_, 1) := by decide +kernel
theorem dJ5_length_8abf5_0 : decode cJ5_length_8abf5 0 = .ok (.aload_n 0, 1) := by decide +kernel
theorem dJ5_length_8abf5_1 : decode cJ5_length_8abf5 1 = .ok (.getfield 79, 3) := by decide +kernel
theorem dJ5_length_8abf5_4 : decode cJ5_length_8abf5 4 = .ok (.ireturn, 1) := by decide +kernel
theorem dJ5_ensureCapacityInternal_d00df_0 : decode cJ5_ensureCapacityInternal_d00df 0 = .ok (.aload_n 0, 1) := by decide +kernel
theorem dJ5_ensureCapacityInternal_d00df_1 : decode cJ5_ensureCapacityInternal_d00df 1 = .ok (.getfield 15, 3) := by decide +kernel
theorem dJ5_ensureCapacityInternal_d00df_4 : decode cJ5_ensureCapacityInternal_d00df 4 = .ok (.arraylength, 1) := by decide +kernel
theorem dJ5_ensureCapacityInternal_d00df_5 : decode cJ5_ensureCapacityInternal_d00df 5 = .ok (.aload_n 0, 1) := by decide +kernel
theorem dJ5_ensureCapacityInternal_d00df_6 : decode cJ5_ensureCapacityInternal_d00df 6 = .ok (.getfield 22, 3) := by decide +kernel
theorem dJ5_ensureCapacityInternal_d00df_9 : decode cJ5_ensureCapacityInternal_d00df 9 = .ok (.ishr, 1) := by decide +kernel
theorem dJ5_ensureCapacityInternal_d00df_10 : decode cJ5_ensureCapacityInternal_d00df 10 = .ok (.istore_n 2, 1) := by decide +kernel
theorem dJ5_ensureCapacityInternal_d00df_11 : decode cJ5_ensureCapacityInternal_d00df 11 = .ok (.iload_n 1, 1) := by decide +kernel
theorem dJ5_ensureCapacityInternal_d00df_12 : decode cJ5_ensureCapacityInternal_d00df 12 = .ok (.iload_n 2, 1) := by decide +kernel
theorem dJ5_ensureCapacityInternal_d00df_13 : decode cJ5_ensureCapacityInternal_d00df 13 = .ok (.isub, 1) := by decide +kernel
theorem dJ5_ensureCapacityInternal_d00df_14 : decode cJ5_ensureCapacityInternal_d00df 14 = .ok (.ifCond .le 24, 3) := by decide +kernel
theorem dJ5_ensureCapacityInternal_d00df_17 : decode cJ5_ensureCapacityInternal_d00df 17 = .ok (.aload_n 0, 1) := by decide +kernel
theorem dJ5_ensureCapacityInternal_d00df_18 : decode cJ5_ensureCapacityInternal_d00df 18 = .ok (.aload_n 0, 1) := by decide +kernel
theorem dJ5_ensureCapacityInternal_d00df_19 : decode cJ5_ensureCapacityInternal_d00df 19 = .ok (.getfield 15, 3) := by decide +kernel
theorem dJ5_ensureCapacityInternal_d00df_22 : decode cJ5_ensureCapacityInternal_d00df 22 = .ok (.aload_n 0, 1) := by decide +kernel
theorem dJ5_ensureCapacityInternal_d00df_23 : decode cJ5_ensureCapacityInternal_d00df 23 = .ok (.iload_n 1, 1) := by decide +kernel
theorem dJ5_ensureCapacityInternal_d00df_24 : decode cJ5_ensureCapacityInternal_d00df 24 = .ok (.invokevirtual 104, 3) := by decide +kernel
theorem dJ5_ensureCapacityInternal_d00df_27 : decode cJ5_ensureCapacityInternal_d00df 27 = .ok (.aload_n 0, 1) := by decide +kernel
theorem dJ5_ensureCapacityInternal_d00df_28 : decode cJ5_ensureCapacityInternal_d00df 28 = .ok (.getfield 22, 3) := by decide +kernel
theorem dJ5_ensureCapacityInternal_d00df_31 : decode cJ5_ensureCapacityInternal_d00df 31 = .ok (.ishl, 1) := by decide +kernel
theorem dJ5_ensureCapacityInternal_d00df_32 : decode cJ5_ensureCapacityInternal_d00df 32 = .ok (.invokestatic 108, 3) := by decide +kernel
theorem dJ5_ensureCapacityInternal_d00df_35 : decode cJ5_ensureCapacityInternal_d00df 35 = .ok (.putfield 15, 3) := by decide +kernel
theorem dJ5_ensureCapacityInternal_d00df_38 : decode cJ5_ensureCapacityInternal_d00df 38 = .ok (.return_, 1) := by decide +kernel
theorem dJ5_newCapacity_0f7a4_0 : decode cJ5_newCapacity_0f7a4 0 = .ok (.aload_n 0, 1) := by decide +kernel
theorem dJ5_newCapacity_0f7a4_1 : decode cJ5_newCapacity_0f7a4 1 = .ok (.getfield 15, 3) := by decide +kernel
theorem dJ5_newCapacity_0f7a4_4 : decode cJ5_newCapacity_0f7a4 4 = .ok (.arraylength, 1) := by decide +kernel
theorem dJ5_newCapacity_0f7a4_5 : decode cJ5_newCapacity_0f7a4 5 = .ok (.istore_n 2, 1) := by decide +kernel
theorem dJ5_newCapacity_0f7a4_6 : decode cJ5_newCapacity_0f7a4 6 = .ok (.iload_n 1, 1) := by decide +kernel
theorem dJ5_newCapacity_0f7a4_7 : decode cJ5_newCapacity_0f7a4 7 = .ok (.aload_n 0, 1) := by decide +kernel
theorem dJ5_newCapacity_0f7a4_8 : decode cJ5_newCapacity_0f7a4 8 = .ok (.getfield 22, 3) := by decide +kernel
theorem dJ5_newCapacity_0f7a4_11 : decode cJ5_newCapacity_0f7a4 11 = .ok (.ishl, 1) := by decide +kernel
theorem dJ5_newCapacity_0f7a4_12 : decode cJ5_newCapacity_0f7a4 12 = .ok (.istore_n 3, 1) := by decide +kernel
theorem dJ5_newCapacity_0f7a4_13 : decode cJ5_newCapacity_0f7a4 13 = .ok (.iload_n 3, 1) := by decide +kernel
theorem dJ5_newCapacity_0f7a4_14 : decode cJ5_newCapacity_0f7a4 14 = .ok (.iload_n 2, 1) := by decide +kernel
theorem dJ5_newCapacity_0f7a4_15 : decode cJ5_newCapacity_0f7a4 15 = .ok (.isub, 1) := by decide +kernel
theorem dJ5_newCapacity_0f7a4_16 : decode cJ5_newCapacity_0f7a4 16 = .ok (.istore 4, 2) := by decide +kernel
theorem dJ5_newCapacity_0f7a4_18 : decode cJ5_newCapacity_0f7a4 18 = .ok (.iload_n 2, 1) := by decide +kernel
theorem dJ5_newCapacity_0f7a4_19 : decode cJ5_newCapacity_0f7a4 19 = .ok (.iload 4, 2) := by decide +kernel
theorem dJ5_newCapacity_0f7a4_21 : decode cJ5_newCapacity_0f7a4 21 = .ok (.iload_n 2, 1) := by decide +kernel
theorem dJ5_newCapacity_0f7a4_22 : decode cJ5_newCapacity_0f7a4 22 = .ok (.iconst 2, 1) := by decide +kernel
theorem dJ5_newCapacity_0f7a4_23 : decode cJ5_newCapacity_0f7a4 23 = .ok (.aload_n 0, 1) := by decide +kernel
theorem dJ5_newCapacity_0f7a4_24 : decode cJ5_newCapacity_0f7a4 24 = .ok (.getfield 22, 3) := by decide +kernel
theorem dJ5_newCapacity_0f7a4_27 : decode cJ5_newCapacity_0f7a4 27 = .ok (.ishl, 1) := by decide +kernel
theorem dJ5_newCapacity_0f7a4_28 : decode cJ5_newCapacity_0f7a4 28 = .ok (.iadd, 1) := by decide +kernel
theorem dJ5_newCapacity_0f7a4_29 : decode cJ5_newCapacity_0f7a4 29 = .ok (.invokestatic 114, 3) := by decide +kernel
theorem dJ5_newCapacity_0f7a4_32 : decode cJ5_newCapacity_0f7a4 32 = .ok (.istore 5, 2) := by decide +kernel
theorem dJ5_newCapacity_0f7a4_34 : decode cJ5_newCapacity_0f7a4 34 = .ok (.iload 5, 2) := by decide +kernel
theorem dJ5_newCapacity_0f7a4_36 : decode cJ5_newCapacity_0f7a4 36 = .ok (.ldc 39, 2) := by decide +kernel
theorem dJ5_newCapacity_0f7a4_38 : decode cJ5_newCapacity_0f7a4 38 = .ok (.if_icmp .ne 13, 3) := by decide +kernel
theorem dJ5_newCapacity_0f7a4_41 : decode cJ5_newCapacity_0f7a4 41 = .ok (.new 120, 3) := by decide +kernel
theorem dJ5_newCapacity_0f7a4_44 : decode cJ5_newCapacity_0f7a4 44 = .ok (.dup, 1) := by decide +kernel
theorem dJ5_newCapacity_0f7a4_45 : decode cJ5_newCapacity_0f7a4 45 = .ok (.ldc 122, 2) := by decide +kernel
theorem dJ5_newCapacity_0f7a4_47 : decode cJ5_newCapacity_0f7a4 47 = .ok (.invokespecial 124, 3) := by decide +kernel
theorem dJ5_newCapacity_0f7a4_50 : decode cJ5_newCapacity_0f7a4 50 = .ok (.athrow, 1) := by decide +kernel
theorem dJ5_newCapacity_0f7a4_51 : decode cJ5_newCapacity_0f7a4 51 = .ok (.iload 5, 2) := by decide +kernel
theorem dJ5_newCapacity_0f7a4_53 : decode cJ5_newCapacity_0f7a4 53 = .ok (.aload_n 0, 1) := by decide +kernel
theorem dJ5_newCapacity_0f7a4_54 : decode cJ5_newCapacity_0f7a4 54 = .ok (.getfield 22, 3) := by decide +kernel
theorem dJ5_newCapacity_0f7a4_57 : decode cJ5_newCapacity_0f7a4 57 = .ok (.ishr, 1) := by decide +kernel
theorem dJ5_newCapacity_0f7a4_58 : decode cJ5_newCapacity_0f7a4 58 = .ok (.ireturn, 1) := by decide +kernel
theorem dJ5_inflate_da8c8_0 : decode cJ5_inflate_da8c8 0 = .ok (.aload_n 0, 1) := by decide +kernel
theorem dJ5_inflate_da8c8_1 : decode cJ5_inflate_da8c8 1 = .ok (.invokevirtual 83, 3) := by decide +kernel
theorem dJ5_inflate_da8c8_4 : decode cJ5_inflate_da8c8 4 = .ok (.ifCond .ne 4, 3) := by decide +kernel
theorem dJ5_inflate_da8c8_7 : decode cJ5_inflate_da8c8 7 = .ok (.return_, 1) := by decide +kernel
theorem dJ5_inflate_da8c8_8 : decode cJ5_inflate_da8c8 8 = .ok (.aload_n 0, 1) := by decide +kernel
theorem dJ5_inflate_da8c8_9 : decode cJ5_inflate_da8c8 9 = .ok (.getfield 15, 3) := by decide +kernel
theorem dJ5_inflate_da8c8_12 : decode cJ5_inflate_da8c8 12 = .ok (.arraylength, 1) := by decide +kernel
theorem dJ5_inflate_da8c8_13 : decode cJ5_inflate_da8c8 13 = .ok (.invokestatic 26, 3) := by decide +kernel
theorem dJ5_inflate_da8c8_16 : decode cJ5_inflate_da8c8 16 = .ok (.astore_n 1, 1) := by decide +kernel
theorem dJ5_inflate_da8c8_17 : decode cJ5_inflate_da8c8 17 = .ok (.aload_n 0, 1) := by decide +kernel
theorem dJ5_inflate_da8c8_18 : decode cJ5_inflate_da8c8 18 = .ok (.getfield 15, 3) := by decide +kernel
theorem dJ5_inflate_da8c8_21 : decode cJ5_inflate_da8c8 21 = .ok (.iconst 0, 1) := by decide +kernel
theorem dJ5_inflate_da8c8_22 : decode cJ5_inflate_da8c8 22 = .ok (.aload_n 1, 1) := by decide +kernel
theorem dJ5_inflate_da8c8_23 : decode cJ5_inflate_da8c8 23 = .ok (.iconst 0, 1) := by decide +kernel
theorem dJ5_inflate_da8c8_24 : decode cJ5_inflate_da8c8 24 = .ok (.aload_n 0, 1) := by decide +kernel
theorem dJ5_inflate_da8c8_25 : decode cJ5_inflate_da8c8 25 = .ok (.getfield 79, 3) := by decide +kernel
theorem dJ5_inflate_da8c8_28 : decode cJ5_inflate_da8c8 28 = .ok (.invokestatic 125, 3) := by decide +kernel
theorem dJ5_inflate_da8c8_31 : decode cJ5_inflate_da8c8 31 = .ok (.aload_n 0, 1) := by decide +kernel
theorem dJ5_inflate_da8c8_32 : decode cJ5_inflate_da8c8 32 = .ok (.aload_n 1, 1) := by decide +kernel
theorem dJ5_inflate_da8c8_33 : decode cJ5_inflate_da8c8 33 = .ok (.putfield 15, 3) := by decide +kernel
theorem dJ5_inflate_da8c8_36 : decode cJ5_inflate_da8c8 36 = .ok (.aload_n 0, 1) := by decide +kernel
theorem dJ5_inflate_da8c8_37 : decode cJ5_inflate_da8c8 37 = .ok (.iconst 1, 1) := by decide +kernel
theorem dJ5_inflate_da8c8_38 : decode cJ5_inflate_da8c8 38 = .ok (.putfield 22, 3) := by decide +kernel
theorem dJ5_inflate_da8c8_41 : decode cJ5_inflate_da8c8 41 = .ok (.return_, 1) := by decide +kernel
theorem dJ5_setLength_d00df_0 : decode cJ5_setLength_d00df 0 = .ok (.iload_n 1, 1) := by decide +kernel
theorem dJ5_setLength_d00df_1 : decode cJ5_setLength_d00df 1 = .ok (.ifCond .ge 12, 3) := by decide +kernel
theorem dJ5_setLength_d00df_4 : decode cJ5_setLength_d00df 4 = .ok (.new 129, 3) := by decide +kernel
theorem dJ5_setLength_d00df_7 : decode cJ5_setLength_d00df 7 = .ok (.dup, 1) := by decide +kernel
theorem dJ5_setLength_d00df_8 : decode cJ5_setLength_d00df 8 = .ok (.iload_n 1, 1) := by decide +kernel
theorem dJ5_setLength_d00df_9 : decode cJ5_setLength_d00df 9 = .ok (.invokespecial 131, 3) := by decide +kernel
theorem dJ5_setLength_d00df_12 : decode cJ5_setLength_d00df 12 = .ok (.athrow, 1) := by decide +kernel
theorem dJ5_setLength_d00df_13 : decode cJ5_setLength_d00df 13 = .ok (.aload_n 0, 1) := by decide +kernel
theorem dJ5_setLength_d00df_14 : decode cJ5_setLength_d00df 14 = .ok (.iload_n 1, 1) := by decide +kernel
theorem dJ5_setLength_d00df_15 : decode cJ5_setLength_d00df 15 = .ok (.invokevirtual 100, 3) := by decide +kernel
theorem dJ5_setLength_d00df_18 : decode cJ5_setLength_d00df 18 = .ok (.aload_n 0, 1) := by decide +kernel
theorem dJ5_setLength_d00df_19 : decode cJ5_setLength_d00df 19 = .ok (.getfield 79, 3) := by decide +kernel
theorem dJ5_setLength_d00df_22 : decode cJ5_setLength_d00df 22 = .ok (.iload_n 1, 1) := by decide +kernel
theorem dJ5_setLength_d00df_23 : decode cJ5_setLength_d00df 23 = .ok (.if_icmp .ge 40, 3) := by decide +kernel
theorem dJ5_setLength_d00df_26 : decode cJ5_setLength_d00df 26 = .ok (.aload_n 0, 1) := by decide +kernel
theorem dJ5_setLength_d00df_27 : decode cJ5_setLength_d00df 27 = .ok (.invokevirtual 83, 3) := by decide +kernel
theorem dJ5_setLength_d00df_30 : decode cJ5_setLength_d00df 30 = .ok (.ifCond .eq 18, 3) := by decide +kernel
theorem dJ5_setLength_d00df_33 : decode cJ5_setLength_d00df 33 = .ok (.aload_n 0, 1) := by decide +kernel
theorem dJ5_setLength_d00df_34 : decode cJ5_setLength_d00df 34 = .ok (.getfield 15, 3) := by decide +kernel
theorem dJ5_setLength_d00df_37 : decode cJ5_setLength_d00df 37 = .ok (.aload_n 0, 1) := by decide +kernel
theorem dJ5_setLength_d00df_38 : decode cJ5_setLength_d00df 38 = .ok (.getfield 79, 3) := by decide +kernel
theorem dJ5_setLength_d00df_41 : decode cJ5_setLength_d00df 41 = .ok (.iload_n 1, 1) := by decide +kernel
theorem dJ5_setLength_d00df_42 : decode cJ5_setLength_d00df 42 = .ok (.invokestatic 133, 3) := by decide +kernel
theorem dJ5_setLength_d00df_45 : decode cJ5_setLength_d00df 45 = .ok (.goto 31, 3) := by decide +kernel
theorem dJ5_setLength_d00df_48 : decode cJ5_setLength_d00df 48 = .ok (.aload_n 0, 1) := by decide +kernel
theorem dJ5_setLength_d00df_49 : decode cJ5_setLength_d00df 49 = .ok (.getfield 15, 3) := by decide +kernel
theorem dJ5_setLength_d00df_52 : decode cJ5_setLength_d00df 52 = .ok (.aload_n 0, 1) := by decide +kernel
theorem dJ5_setLength_d00df_53 : decode cJ5_setLength_d00df 53 = .ok (.getfield 79, 3) := by decide +kernel
theorem dJ5_setLength_d00df_56 : decode cJ5_setLength_d00df 56 = .ok (.iload_n 1, 1) := by decide +kernel
theorem dJ5_setLength_d00df_57 : decode cJ5_setLength_d00df 57 = .ok (.invokestatic 137, 3) := by decide +kernel
theorem dJ5_setLength_d00df_60 : decode cJ5_setLength_d00df 60 = .ok (.goto 16, 3) := by decide +kernel
theorem dJ5_setLength_d00df_63 : decode cJ5_setLength_d00df 63 = .ok (.aload_n 0, 1) := by decide +kernel
theorem dJ5_setLength_d00df_64 : decode cJ5_setLength_d00df 64 = .ok (.getfield 79, 3) := by decide +kernel
theorem dJ5_setLength_d00df_67 : decode cJ5_setLength_d00df 67 = .ok (.iload_n 1, 1) := by decide +kernel
theorem dJ5_setLength_d00df_68 : decode cJ5_setLength_d00df 68 = .ok (.if_icmp .le 8, 3) := by decide +kernel
theorem dJ5_setLength_d00df_71 : decode cJ5_setLength_d00df 71 = .ok (.aload_n 0, 1) := by decide +kernel
theorem dJ5_setLength_d00df_72 : decode cJ5_setLength_d00df 72 = .ok (.iconst 1, 1) := by decide +kernel
theorem dJ5_setLength_d00df_73 : decode cJ5_setLength_d00df 73 = .ok (.putfield 73, 3) := by decide +kernel
theorem dJ5_setLength_d00df_76 : decode cJ5_setLength_d00df 76 = .ok (.aload_n 0, 1) := by decide +kernel
theorem dJ5_setLength_d00df_77 : decode cJ5_setLength_d00df 77 = .ok (.iload_n 1, 1) := by decide +kernel
theorem dJ5_setLength_d00df_78 : decode cJ5_setLength_d00df 78 = .ok (.putfield 79, 3) := by decide +kernel
theorem dJ5_setLength_d00df_81 : decode cJ5_setLength_d00df 81 = .ok (.return_, 1) := by decide +kernel
theorem dJ5_charAt_5068e_0 : decode cJ5_charAt_5068e 0 = .ok (.aload_n 0, 1) := by decide +kernel
theorem dJ5_charAt_5068e_1 : decode cJ5_charAt_5068e 1 = .ok (.getfield 22, 3) := by decide +kernel
theorem dJ5_charAt_5068e_4 : decode cJ5_charAt_5068e 4 = .ok (.istore_n 2, 1) := by decide +kernel
theorem dJ5_charAt_5068e_5 : decode cJ5_charAt_5068e 5 = .ok (.aload_n 0, 1) := by decide +kernel
theorem dJ5_charAt_5068e_6 : decode cJ5_charAt_5068e 6 = .ok (.getfield 15, 3) := by decide +kernel
theorem dJ5_charAt_5068e_9 : decode cJ5_charAt_5068e 9 = .ok (.astore_n 3, 1) := by decide +kernel
theorem dJ5_charAt_5068e_10 : decode cJ5_charAt_5068e 10 = .ok (.aload_n 0, 1) := by decide +kernel
theorem dJ5_charAt_5068e_11 : decode cJ5_charAt_5068e 11 = .ok (.getfield 79, 3) := by decide +kernel
theorem dJ5_charAt_5068e_14 : decode cJ5_charAt_5068e 14 = .ok (.aload_n 3, 1) := by decide +kernel
theorem dJ5_charAt_5068e_15 : decode cJ5_charAt_5068e 15 = .ok (.arraylength, 1) := by decide +kernel
theorem dJ5_charAt_5068e_16 : decode cJ5_charAt_5068e 16 = .ok (.iload_n 2, 1) := by decide +kernel
theorem dJ5_charAt_5068e_17 : decode cJ5_charAt_5068e 17 = .ok (.ishr, 1) := by decide +kernel
theorem dJ5_charAt_5068e_18 : decode cJ5_charAt_5068e 18 = .ok (.invokestatic 138, 3) := by decide +kernel
theorem dJ5_charAt_5068e_21 : decode cJ5_charAt_5068e 21 = .ok (.istore 4, 2) := by decide +kernel
theorem dJ5_charAt_5068e_23 : decode cJ5_charAt_5068e 23 = .ok (.iload_n 1, 1) := by decide +kernel
theorem dJ5_charAt_5068e_24 : decode cJ5_charAt_5068e 24 = .ok (.iload 4, 2) := by decide +kernel
theorem dJ5_charAt_5068e_26 : decode cJ5_charAt_5068e 26 = .ok (.invokestatic 144, 3) := by decide +kernel
theorem dJ5_charAt_5068e_29 : decode cJ5_charAt_5068e 29 = .ok (.iload_n 2, 1) := by decide +kernel
theorem dJ5_charAt_5068e_30 : decode cJ5_charAt_5068e 30 = .ok (.ifCond .ne 12, 3) := by decide +kernel
theorem dJ5_charAt_5068e_33 : decode cJ5_charAt_5068e 33 = .ok (.aload_n 3, 1) := by decide +kernel
theorem dJ5_charAt_5068e_34 : decode cJ5_charAt_5068e 34 = .ok (.iload_n 1, 1) := by decide +kernel
theorem dJ5_charAt_5068e_35 : decode cJ5_charAt_5068e 35 = .ok (.baload, 1) := by decide +kernel
theorem dJ5_charAt_5068e_36 : decode cJ5_charAt_5068e 36 = .ok (.sipush 255, 3) := by decide +kernel
theorem dJ5_charAt_5068e_39 : decode cJ5_charAt_5068e 39 = .ok (.iand, 1) := by decide +kernel
theorem dJ5_charAt_5068e_40 : decode cJ5_charAt_5068e 40 = .ok (.i2c, 1) := by decide +kernel
theorem dJ5_charAt_5068e_41 : decode cJ5_charAt_5068e 41 = .ok (.ireturn, 1) := by decide +kernel
theorem dJ5_charAt_5068e_42 : decode cJ5_charAt_5068e 42 = .ok (.aload_n 3, 1) := by decide +kernel
theorem dJ5_charAt_5068e_43 : decode cJ5_charAt_5068e 43 = .ok (.iload_n 1, 1) := by decide +kernel
theorem dJ5_charAt_5068e_44 : decode cJ5_charAt_5068e 44 = .ok (.invokestatic 148, 3) := by decide +kernel
theorem dJ5_charAt_5068e_47 : decode cJ5_charAt_5068e 47 = .ok (.ireturn, 1) := by decide +kernel
theorem dJ5_append_cf1ce_0 : decode cJ5_append_cf1ce 0 = .ok (.aload_n 1, 1) := by decide +kernel
theorem dJ5_append_cf1ce_1 : decode cJ5_append_cf1ce 1 = .ok (.ifnonnull 8, 3) := by decide +kernel
theorem dJ5_append_cf1ce_4 : decode cJ5_append_cf1ce 4 = .ok (.aload_n 0, 1) := by decide +kernel
theorem dJ5_append_cf1ce_5 : decode cJ5_append_cf1ce 5 = .ok (.invokevirtual 204, 3) := by decide +kernel
theorem dJ5_append_cf1ce_8 : decode cJ5_append_cf1ce 8 = .ok (.areturn, 1) := by decide +kernel
theorem dJ5_append_cf1ce_9 : decode cJ5_append_cf1ce 9 = .ok (.aload_n 1, 1) := by decide +kernel
theorem dJ5_append_cf1ce_10 : decode cJ5_append_cf1ce 10 = .ok (.invokevirtual 32, 3) := by decide +kernel
theorem dJ5_append_cf1ce_13 : decode cJ5_append_cf1ce 13 = .ok (.istore_n 2, 1) := by decide +kernel
theorem dJ5_append_cf1ce_14 : decode cJ5_append_cf1ce 14 = .ok (.aload_n 0, 1) := by decide +kernel
theorem dJ5_append_cf1ce_15 : decode cJ5_append_cf1ce 15 = .ok (.aload_n 0, 1) := by decide +kernel
theorem dJ5_append_cf1ce_16 : decode cJ5_append_cf1ce 16 = .ok (.getfield 79, 3) := by decide +kernel
theorem dJ5_append_cf1ce_19 : decode cJ5_append_cf1ce 19 = .ok (.iload_n 2, 1) := by decide +kernel
theorem dJ5_append_cf1ce_20 : decode cJ5_append_cf1ce 20 = .ok (.iadd, 1) := by decide +kernel
theorem dJ5_append_cf1ce_21 : decode cJ5_append_cf1ce 21 = .ok (.invokevirtual 100, 3) := by decide +kernel
theorem dJ5_append_cf1ce_24 : decode cJ5_append_cf1ce 24 = .ok (.aload_n 0, 1) := by decide +kernel
theorem dJ5_append_cf1ce_25 : decode cJ5_append_cf1ce 25 = .ok (.aload_n 0, 1) := by decide +kernel
theorem dJ5_append_cf1ce_26 : decode cJ5_append_cf1ce 26 = .ok (.getfield 79, 3) := by decide +kernel
theorem dJ5_append_cf1ce_29 : decode cJ5_append_cf1ce 29 = .ok (.aload_n 1, 1) := by decide +kernel
theorem dJ5_append_cf1ce_30 : decode cJ5_append_cf1ce 30 = .ok (.invokevirtual 208, 3) := by decide +kernel
theorem dJ5_append_cf1ce_33 : decode cJ5_append_cf1ce 33 = .ok (.aload_n 0, 1) := by decide +kernel
theorem dJ5_append_cf1ce_34 : decode cJ5_append_cf1ce 34 = .ok (.dup, 1) := by decide +kernel
theorem dJ5_append_cf1ce_35 : decode cJ5_append_cf1ce 35 = .ok (.getfield 79, 3) := by decide +kernel
theorem dJ5_append_cf1ce_38 : decode cJ5_append_cf1ce 38 = .ok (.iload_n 2, 1) := by decide +kernel
theorem dJ5_append_cf1ce_39 : decode cJ5_append_cf1ce 39 = .ok (.iadd, 1) := by decide +kernel
theorem dJ5_append_cf1ce_40 : decode cJ5_append_cf1ce 40 = .ok (.putfield 79, 3) := by decide +kernel
theorem dJ5_append_cf1ce_43 : decode cJ5_append_cf1ce 43 = .ok (.aload_n 0, 1) := by decide +kernel
theorem dJ5_append_cf1ce_44 : decode cJ5_append_cf1ce 44 = .ok (.areturn, 1) := by decide +kernel
theorem dJ5_appendNull_278bc_0 : decode cJ5_appendNull_278bc 0 = .ok (.aload_n 0, 1) := by decide +kernel
theorem dJ5_appendNull_278bc_1 : decode cJ5_appendNull_278bc 1 = .ok (.aload_n 0, 1) := by decide +kernel
theorem dJ5_appendNull_278bc_2 : decode cJ5_appendNull_278bc 2 = .ok (.getfield 79, 3) := by decide +kernel
theorem dJ5_appendNull_278bc_5 : decode cJ5_appendNull_278bc 5 = .ok (.iconst 4, 1) := by decide +kernel
theorem dJ5_appendNull_278bc_6 : decode cJ5_appendNull_278bc 6 = .ok (.iadd, 1) := by decide +kernel
theorem dJ5_appendNull_278bc_7 : decode cJ5_appendNull_278bc 7 = .ok (.invokevirtual 100, 3) := by decide +kernel
theorem dJ5_appendNull_278bc_10 : decode cJ5_appendNull_278bc 10 = .ok (.aload_n 0, 1) := by decide +kernel
theorem dJ5_appendNull_278bc_11 : decode cJ5_appendNull_278bc 11 = .ok (.getfield 79, 3) := by decide +kernel
theorem dJ5_appendNull_278bc_14 : decode cJ5_appendNull_278bc 14 = .ok (.istore_n 1, 1) := by decide +kernel
theorem dJ5_appendNull_278bc_15 : decode cJ5_appendNull_278bc 15 = .ok (.aload_n 0, 1) := by decide +kernel
theorem dJ5_appendNull_278bc_16 : decode cJ5_appendNull_278bc 16 = .ok (.getfield 15, 3) := by decide +kernel
theorem dJ5_appendNull_278bc_19 : decode cJ5_appendNull_278bc 19 = .ok (.astore_n 2, 1) := by decide +kernel
theorem dJ5_appendNull_278bc_20 : decode cJ5_appendNull_278bc 20 = .ok (.aload_n 0, 1) := by decide +kernel
theorem dJ5_appendNull_278bc_21 : decode cJ5_appendNull_278bc 21 = .ok (.invokevirtual 83, 3) := by decide +kernel
theorem dJ5_appendNull_278bc_24 : decode cJ5_appendNull_278bc 24 = .ok (.ifCond .eq 38, 3) := by decide +kernel
theorem dJ5_appendNull_278bc_27 : decode cJ5_appendNull_278bc 27 = .ok (.aload_n 2, 1) := by decide +kernel
theorem dJ5_appendNull_278bc_28 : decode cJ5_appendNull_278bc 28 = .ok (.iload_n 1, 1) := by decide +kernel
theorem dJ5_appendNull_278bc_29 : decode cJ5_appendNull_278bc 29 = .ok (.iinc 1 1, 3) := by decide +kernel
theorem dJ5_appendNull_278bc_32 : decode cJ5_appendNull_278bc 32 = .ok (.bipush 110, 2) := by decide +kernel
theorem dJ5_appendNull_278bc_34 : decode cJ5_appendNull_278bc 34 = .ok (.bastore, 1) := by decide +kernel
theorem dJ5_appendNull_278bc_35 : decode cJ5_appendNull_278bc 35 = .ok (.aload_n 2, 1) := by decide +kernel
theorem dJ5_appendNull_278bc_36 : decode cJ5_appendNull_278bc 36 = .ok (.iload_n 1, 1) := by decide +kernel
theorem dJ5_appendNull_278bc_37 : decode cJ5_appendNull_278bc 37 = .ok (.iinc 1 1, 3) := by decide +kernel
theorem dJ5_appendNull_278bc_40 : decode cJ5_appendNull_278bc 40 = .ok (.bipush 117, 2) := by decide +kernel
theorem dJ5_appendNull_278bc_42 : decode cJ5_appendNull_278bc 42 = .ok (.bastore, 1) := by decide +kernel
theorem dJ5_appendNull_278bc_43 : decode cJ5_appendNull_278bc 43 = .ok (.aload_n 2, 1) := by decide +kernel
theorem dJ5_appendNull_278bc_44 : decode cJ5_appendNull_278bc 44 = .ok (.iload_n 1, 1) := by decide +kernel
theorem dJ5_appendNull_278bc_45 : decode cJ5_appendNull_278bc 45 = .ok (.iinc 1 1, 3) := by decide +kernel
theorem dJ5_appendNull_278bc_48 : decode cJ5_appendNull_278bc 48 = .ok (.bipush 108, 2) := by decide +kernel
theorem dJ5_appendNull_278bc_50 : decode cJ5_appendNull_278bc 50 = .ok (.bastore, 1) := by decide +kernel
theorem dJ5_appendNull_278bc_51 : decode cJ5_appendNull_278bc 51 = .ok (.aload_n 2, 1) := by decide +kernel
theorem dJ5_appendNull_278bc_52 : decode cJ5_appendNull_278bc 52 = .ok (.iload_n 1, 1) := by decide +kernel
theorem dJ5_appendNull_278bc_53 : decode cJ5_appendNull_278bc 53 = .ok (.iinc 1 1, 3) := by decide +kernel
theorem dJ5_appendNull_278bc_56 : decode cJ5_appendNull_278bc 56 = .ok (.bipush 108, 2) := by decide +kernel
theorem dJ5_appendNull_278bc_58 : decode cJ5_appendNull_278bc 58 = .ok (.bastore, 1) := by decide +kernel
theorem dJ5_appendNull_278bc_59 : decode cJ5_appendNull_278bc 59 = .ok (.goto 17, 3) := by decide +kernel
theorem dJ5_appendNull_278bc_62 : decode cJ5_appendNull_278bc 62 = .ok (.aload_n 2, 1) := by decide +kernel
theorem dJ5_appendNull_278bc_63 : decode cJ5_appendNull_278bc 63 = .ok (.iload_n 1, 1) := by decide +kernel
theorem dJ5_appendNull_278bc_64 : decode cJ5_appendNull_278bc 64 = .ok (.bipush 110, 2) := by decide +kernel
theorem dJ5_appendNull_278bc_66 : decode cJ5_appendNull_278bc 66 = .ok (.bipush 117, 2) := by decide +kernel
theorem dJ5_appendNull_278bc_68 : decode cJ5_appendNull_278bc 68 = .ok (.bipush 108, 2) := by decide +kernel
theorem dJ5_appendNull_278bc_70 : decode cJ5_appendNull_278bc 70 = .ok (.bipush 108, 2) := by decide +kernel
theorem dJ5_appendNull_278bc_72 : decode cJ5_appendNull_278bc 72 = .ok (.invokestatic 226, 3) := by decide +kernel
theorem dJ5_appendNull_278bc_75 : decode cJ5_appendNull_278bc 75 = .ok (.istore_n 1, 1) := by decide +kernel
theorem dJ5_appendNull_278bc_76 : decode cJ5_appendNull_278bc 76 = .ok (.aload_n 0, 1) := by decide +kernel
theorem dJ5_appendNull_278bc_77 : decode cJ5_appendNull_278bc 77 = .ok (.iload_n 1, 1) := by decide +kernel
theorem dJ5_appendNull_278bc_78 : decode cJ5_appendNull_278bc 78 = .ok (.putfield 79, 3) := by decide +kernel
theorem dJ5_appendNull_278bc_81 : decode cJ5_appendNull_278bc 81 = .ok (.aload_n 0, 1) := by decide +kernel
theorem dJ5_appendNull_278bc_82 : decode cJ5_appendNull_278bc 82 = .ok (.areturn, 1) := by decide +kernel
theorem dJ5_append_3fe6f_0 : decode cJ5_append_3fe6f 0 = .ok (.aload_n 0, 1) := by decide +kernel
theorem dJ5_append_3fe6f_1 : decode cJ5_append_3fe6f 1 = .ok (.aload_n 0, 1) := by decide +kernel
theorem dJ5_append_3fe6f_2 : decode cJ5_append_3fe6f 2 = .ok (.getfield 79, 3) := by decide +kernel
theorem dJ5_append_3fe6f_5 : decode cJ5_append_3fe6f 5 = .ok (.iconst 1, 1) := by decide +kernel
theorem dJ5_append_3fe6f_6 : decode cJ5_append_3fe6f 6 = .ok (.iadd, 1) := by decide +kernel
theorem dJ5_append_3fe6f_7 : decode cJ5_append_3fe6f 7 = .ok (.invokevirtual 100, 3) := by decide +kernel
theorem dJ5_append_3fe6f_10 : decode cJ5_append_3fe6f 10 = .ok (.aload_n 0, 1) := by decide +kernel
theorem dJ5_append_3fe6f_11 : decode cJ5_append_3fe6f 11 = .ok (.invokevirtual 83, 3) := by decide +kernel
theorem dJ5_append_3fe6f_14 : decode cJ5_append_3fe6f 14 = .ok (.ifCond .eq 31, 3) := by decide +kernel
theorem dJ5_append_3fe6f_17 : decode cJ5_append_3fe6f 17 = .ok (.iload_n 1, 1) := by decide +kernel
theorem dJ5_append_3fe6f_18 : decode cJ5_append_3fe6f 18 = .ok (.invokestatic 191, 3) := by decide +kernel
theorem dJ5_append_3fe6f_21 : decode cJ5_append_3fe6f 21 = .ok (.ifCond .eq 24, 3) := by decide +kernel
theorem dJ5_append_3fe6f_24 : decode cJ5_append_3fe6f 24 = .ok (.aload_n 0, 1) := by decide +kernel
theorem dJ5_append_3fe6f_25 : decode cJ5_append_3fe6f 25 = .ok (.getfield 15, 3) := by decide +kernel
theorem dJ5_append_3fe6f_28 : decode cJ5_append_3fe6f 28 = .ok (.aload_n 0, 1) := by decide +kernel
theorem dJ5_append_3fe6f_29 : decode cJ5_append_3fe6f 29 = .ok (.dup, 1) := by decide +kernel
theorem dJ5_append_3fe6f_30 : decode cJ5_append_3fe6f 30 = .ok (.getfield 79, 3) := by decide +kernel
theorem dJ5_append_3fe6f_33 : decode cJ5_append_3fe6f 33 = .ok (.dup_x1, 1) := by decide +kernel
theorem dJ5_append_3fe6f_34 : decode cJ5_append_3fe6f 34 = .ok (.iconst 1, 1) := by decide +kernel
theorem dJ5_append_3fe6f_35 : decode cJ5_append_3fe6f 35 = .ok (.iadd, 1) := by decide +kernel
theorem dJ5_append_3fe6f_36 : decode cJ5_append_3fe6f 36 = .ok (.putfield 79, 3) := by decide +kernel
theorem dJ5_append_3fe6f_39 : decode cJ5_append_3fe6f 39 = .ok (.iload_n 1, 1) := by decide +kernel
theorem dJ5_append_3fe6f_40 : decode cJ5_append_3fe6f 40 = .ok (.i2b, 1) := by decide +kernel
theorem dJ5_append_3fe6f_41 : decode cJ5_append_3fe6f 41 = .ok (.bastore, 1) := by decide +kernel
theorem dJ5_append_3fe6f_42 : decode cJ5_append_3fe6f 42 = .ok (.goto 33, 3) := by decide +kernel
theorem dJ5_append_3fe6f_45 : decode cJ5_append_3fe6f 45 = .ok (.aload_n 0, 1) := by decide +kernel
theorem dJ5_append_3fe6f_46 : decode cJ5_append_3fe6f 46 = .ok (.invokevirtual 83, 3) := by decide +kernel
theorem dJ5_append_3fe6f_49 : decode cJ5_append_3fe6f 49 = .ok (.ifCond .eq 7, 3) := by decide +kernel
theorem dJ5_append_3fe6f_52 : decode cJ5_append_3fe6f 52 = .ok (.aload_n 0, 1) := by decide +kernel
theorem dJ5_append_3fe6f_53 : decode cJ5_append_3fe6f 53 = .ok (.invokevirtual 195, 3) := by decide +kernel
theorem dJ5_append_3fe6f_56 : decode cJ5_append_3fe6f 56 = .ok (.aload_n 0, 1) := by decide +kernel
theorem dJ5_append_3fe6f_57 : decode cJ5_append_3fe6f 57 = .ok (.getfield 15, 3) := by decide +kernel
theorem dJ5_append_3fe6f_60 : decode cJ5_append_3fe6f 60 = .ok (.aload_n 0, 1) := by decide +kernel
theorem dJ5_append_3fe6f_61 : decode cJ5_append_3fe6f 61 = .ok (.dup, 1) := by decide +kernel
theorem dJ5_append_3fe6f_62 : decode cJ5_append_3fe6f 62 = .ok (.getfield 79, 3) := by decide +kernel
theorem dJ5_append_3fe6f_65 : decode cJ5_append_3fe6f 65 = .ok (.dup_x1, 1) := by decide +kernel
theorem dJ5_append_3fe6f_66 : decode cJ5_append_3fe6f 66 = .ok (.iconst 1, 1) := by decide +kernel
theorem dJ5_append_3fe6f_67 : decode cJ5_append_3fe6f 67 = .ok (.iadd, 1) := by decide +kernel
theorem dJ5_append_3fe6f_68 : decode cJ5_append_3fe6f 68 = .ok (.putfield 79, 3) := by decide +kernel
theorem dJ5_append_3fe6f_71 : decode cJ5_append_3fe6f 71 = .ok (.iload_n 1, 1) := by decide +kernel
theorem dJ5_append_3fe6f_72 : decode cJ5_append_3fe6f 72 = .ok (.invokestatic 197, 3) := by decide +kernel
theorem dJ5_append_3fe6f_75 : decode cJ5_append_3fe6f 75 = .ok (.aload_n 0, 1) := by decide +kernel
theorem dJ5_append_3fe6f_76 : decode cJ5_append_3fe6f 76 = .ok (.areturn, 1) := by decide +kernel
theorem dJ5_append_c97b9_0 : decode cJ5_append_c97b9 0 = .ok (.aload_n 0, 1) := by decide +kernel
theorem dJ5_append_c97b9_1 : decode cJ5_append_c97b9 1 = .ok (.getfield 79, 3) := by decide +kernel
theorem dJ5_append_c97b9_4 : decode cJ5_append_c97b9 4 = .ok (.istore_n 2, 1) := by decide +kernel
theorem dJ5_append_c97b9_5 : decode cJ5_append_c97b9 5 = .ok (.iload_n 2, 1) := by decide +kernel
theorem dJ5_append_c97b9_6 : decode cJ5_append_c97b9 6 = .ok (.iload_n 1, 1) := by decide +kernel
theorem dJ5_append_c97b9_7 : decode cJ5_append_c97b9 7 = .ok (.invokestatic 245, 3) := by decide +kernel
theorem dJ5_append_c97b9_10 : decode cJ5_append_c97b9 10 = .ok (.iadd, 1) := by decide +kernel
theorem dJ5_append_c97b9_11 : decode cJ5_append_c97b9 11 = .ok (.istore_n 3, 1) := by decide +kernel
theorem dJ5_append_c97b9_12 : decode cJ5_append_c97b9 12 = .ok (.aload_n 0, 1) := by decide +kernel
theorem dJ5_append_c97b9_13 : decode cJ5_append_c97b9 13 = .ok (.iload_n 3, 1) := by decide +kernel
theorem dJ5_append_c97b9_14 : decode cJ5_append_c97b9 14 = .ok (.invokevirtual 100, 3) := by decide +kernel
theorem dJ5_append_c97b9_17 : decode cJ5_append_c97b9 17 = .ok (.aload_n 0, 1) := by decide +kernel
theorem dJ5_append_c97b9_18 : decode cJ5_append_c97b9 18 = .ok (.invokevirtual 83, 3) := by decide +kernel
theorem dJ5_append_c97b9_21 : decode cJ5_append_c97b9 21 = .ok (.ifCond .eq 16, 3) := by decide +kernel
theorem dJ5_append_c97b9_24 : decode cJ5_append_c97b9 24 = .ok (.iload_n 1, 1) := by decide +kernel
theorem dJ5_append_c97b9_25 : decode cJ5_append_c97b9 25 = .ok (.iload_n 3, 1) := by decide +kernel
theorem dJ5_append_c97b9_26 : decode cJ5_append_c97b9 26 = .ok (.aload_n 0, 1) := by decide +kernel
theorem dJ5_append_c97b9_27 : decode cJ5_append_c97b9 27 = .ok (.getfield 15, 3) := by decide +kernel
theorem dJ5_append_c97b9_30 : decode cJ5_append_c97b9 30 = .ok (.invokestatic 248, 3) := by decide +kernel
theorem dJ5_append_c97b9_33 : decode cJ5_append_c97b9 33 = .ok (.pop, 1) := by decide +kernel
theorem dJ5_append_c97b9_34 : decode cJ5_append_c97b9 34 = .ok (.goto 14, 3) := by decide +kernel
theorem dJ5_append_c97b9_37 : decode cJ5_append_c97b9 37 = .ok (.iload_n 1, 1) := by decide +kernel
theorem dJ5_append_c97b9_38 : decode cJ5_append_c97b9 38 = .ok (.iload_n 2, 1) := by decide +kernel
theorem dJ5_append_c97b9_39 : decode cJ5_append_c97b9 39 = .ok (.iload_n 3, 1) := by decide +kernel
theorem dJ5_append_c97b9_40 : decode cJ5_append_c97b9 40 = .ok (.aload_n 0, 1) := by decide +kernel
theorem dJ5_append_c97b9_41 : decode cJ5_append_c97b9 41 = .ok (.getfield 15, 3) := by decide +kernel
theorem dJ5_append_c97b9_44 : decode cJ5_append_c97b9 44 = .ok (.invokestatic 251, 3) := by decide +kernel
theorem dJ5_append_c97b9_47 : decode cJ5_append_c97b9 47 = .ok (.pop, 1) := by decide +kernel
theorem dJ5_append_c97b9_48 : decode cJ5_append_c97b9 48 = .ok (.aload_n 0, 1) := by decide +kernel
theorem dJ5_append_c97b9_49 : decode cJ5_append_c97b9 49 = .ok (.iload_n 3, 1) := by decide +kernel
theorem dJ5_append_c97b9_50 : decode cJ5_append_c97b9 50 = .ok (.putfield 79, 3) := by decide +kernel
theorem dJ5_append_c97b9_53 : decode cJ5_append_c97b9 53 = .ok (.aload_n 0, 1) := by decide +kernel
theorem dJ5_append_c97b9_54 : decode cJ5_append_c97b9 54 = .ok (.areturn, 1) := by decide +kernel
theorem dJ5_getValue_6d5f1_0 : decode cJ5_getValue_6d5f1 0 = .ok (.aload_n 0, 1) := by decide +kernel
theorem dJ5_getValue_6d5f1_1 : decode cJ5_getValue_6d5f1 1 = .ok (.getfield 15, 3) := by decide +kernel
theorem dJ5_getValue_6d5f1_4 : decode cJ5_getValue_6d5f1 4 = .ok (.areturn, 1) := by decide +kernel
theorem dJ5_isLatin1_aae02_0 : decode cJ5_isLatin1_aae02 0 = .ok (.getstatic 18, 3) := by decide +kernel
theorem dJ5_isLatin1_aae02_3 : decode cJ5_isLatin1_aae02 3 = .ok (.ifCond .eq 14, 3) := by decide +kernel
theorem dJ5_isLatin1_aae02_6 : decode cJ5_isLatin1_aae02 6 = .ok (.aload_n 0, 1) := by decide +kernel
theorem dJ5_isLatin1_aae02_7 : decode cJ5_isLatin1_aae02 7 = .ok (.getfield 22, 3) := by decide +kernel
theorem dJ5_isLatin1_aae02_10 : decode cJ5_isLatin1_aae02 10 = .ok (.ifCond .ne 7, 3) := by decide +kernel
theorem dJ5_isLatin1_aae02_13 : decode cJ5_isLatin1_aae02 13 = .ok (.iconst 1, 1) := by decide +kernel
theorem dJ5_isLatin1_aae02_14 : decode cJ5_isLatin1_aae02 14 = .ok (.goto 4, 3) := by decide +kernel
theorem dJ5_isLatin1_aae02_17 : decode cJ5_isLatin1_aae02 17 = .ok (.iconst 0, 1) := by decide +kernel
theorem dJ5_isLatin1_aae02_18 : decode cJ5_isLatin1_aae02 18 = .ok (.ireturn, 1) := by decide +kernel
theorem dJ5_inflateIfNeededFor_a7421_0 : decode cJ5_inflateIfNeededFor_a7421 0 = .ok (.getstatic 18, 3) := by decide +kernel
theorem dJ5_inflateIfNeededFor_a7421_3 : decode cJ5_inflateIfNeededFor_a7421 3 = .ok (.ifCond .eq 18, 3) := by decide +kernel
theorem dJ5_inflateIfNeededFor_a7421_6 : decode cJ5_inflateIfNeededFor_a7421 6 = .ok (.aload_n 0, 1) := by decide +kernel
theorem dJ5_inflateIfNeededFor_a7421_7 : decode cJ5_inflateIfNeededFor_a7421 7 = .ok (.getfield 22, 3) := by decide +kernel
theorem dJ5_inflateIfNeededFor_a7421_10 : decode cJ5_inflateIfNeededFor_a7421 10 = .ok (.aload_n 1, 1) := by decide +kernel
theorem dJ5_inflateIfNeededFor_a7421_11 : decode cJ5_inflateIfNeededFor_a7421 11 = .ok (.invokevirtual 40, 3) := by decide +kernel
theorem dJ5_inflateIfNeededFor_a7421_14 : decode cJ5_inflateIfNeededFor_a7421 14 = .ok (.if_icmp .eq 7, 3) := by decide +kernel
theorem dJ5_inflateIfNeededFor_a7421_17 : decode cJ5_inflateIfNeededFor_a7421 17 = .ok (.aload_n 0, 1) := by decide +kernel
theorem dJ5_inflateIfNeededFor_a7421_18 : decode cJ5_inflateIfNeededFor_a7421 18 = .ok (.invokevirtual 195, 3) := by decide +kernel
theorem dJ5_inflateIfNeededFor_a7421_21 : decode cJ5_inflateIfNeededFor_a7421 21 = .ok (.return_, 1) := by decide +kernel
theorem dJ5_putStringAt_47b60_0 : decode cJ5_putStringAt_47b60 0 = .ok (.aload_n 0, 1) := by decide +kernel
theorem dJ5_putStringAt_47b60_1 : decode cJ5_putStringAt_47b60 1 = .ok (.aload_n 2, 1) := by decide +kernel
theorem dJ5_putStringAt_47b60_2 : decode cJ5_putStringAt_47b60 2 = .ok (.invokevirtual 397, 3) := by decide +kernel
theorem dJ5_putStringAt_47b60_5 : decode cJ5_putStringAt_47b60 5 = .ok (.aload_n 2, 1) := by decide +kernel
theorem dJ5_putStringAt_47b60_6 : decode cJ5_putStringAt_47b60 6 = .ok (.aload_n 0, 1) := by decide +kernel
theorem dJ5_putStringAt_47b60_7 : decode cJ5_putStringAt_47b60 7 = .ok (.getfield 15, 3) := by decide +kernel
theorem dJ5_putStringAt_47b60_10 : decode cJ5_putStringAt_47b60 10 = .ok (.iload_n 1, 1) := by decide +kernel
theorem dJ5_putStringAt_47b60_11 : decode cJ5_putStringAt_47b60 11 = .ok (.aload_n 0, 1) := by decide +kernel
theorem dJ5_putStringAt_47b60_12 : decode cJ5_putStringAt_47b60 12 = .ok (.getfield 22, 3) := by decide +kernel
theorem dJ5_putStringAt_47b60_15 : decode cJ5_putStringAt_47b60 15 = .ok (.invokevirtual 399, 3) := by decide +kernel
theorem dJ5_putStringAt_47b60_18 : decode cJ5_putStringAt_47b60 18 = .ok (.return_, 1) := by decide +kernel
theorem dJx00060_init_a7421_0 : decode cJx00060_init_a7421 0 = .ok (.aload_n 0, 1) := by decide +kernel
theorem dJx00060_init_a7421_1 : decode cJx00060_init_a7421 1 = .ok (.aload_n 1, 1) := by decide +kernel
theorem dJx00060_init_a7421_2 : decode cJx00060_init_a7421 2 = .ok (.invokespecial 7, 3) := by decide +kernel
theorem dJx00060_init_a7421_5 : decode cJx00060_init_a7421 5 = .ok (.return_, 1) := by decide +kernel
theorem dJx00060_init_d00df_0 : decode cJx00060_init_d00df 0 = .ok (.aload_n 0, 1) := by decide +kernel
theorem dJx00060_init_d00df_1 : decode cJx00060_init_d00df 1 = .ok (.new 10, 3) := by decide +kernel
theorem dJx00060_init_d00df_4 : decode cJx00060_init_d00df 4 = .ok (.dup, 1) := by decide +kernel
theorem dJx00060_init_d00df_5 : decode cJx00060_init_d00df 5 = .ok (.invokespecial 12, 3) := by decide +kernel
theorem dJx00060_init_d00df_8 : decode cJx00060_init_d00df 8 = .ok (.ldc 13, 2) := by decide +kernel
theorem dJx00060_init_d00df_10 : decode cJx00060_init_d00df 10 = .ok (.invokevirtual 15, 3) := by decide +kernel
theorem dJx00060_init_d00df_13 : decode cJx00060_init_d00df 13 = .ok (.iload_n 1, 1) := by decide +kernel
theorem dJx00060_init_d00df_14 : decode cJx00060_init_d00df 14 = .ok (.invokevirtual 19, 3) := by decide +kernel
theorem dJx00060_init_d00df_17 : decode cJx00060_init_d00df 17 = .ok (.invokevirtual 22, 3) := by decide +kernel
theorem dJx00060_init_d00df_20 : decode cJx00060_init_d00df 20 = .ok (.invokespecial 7, 3) := by decide +kernel
theorem dJx00060_init_d00df_23 : decode cJx00060_init_d00df 23 = .ok (.return_, 1) := by decide +kernel
theorem dJ6_getChars_ba4f3_0 : decode cJ6_getChars_ba4f3 0 = .ok (.iload_n 1, 1) := by decide +kernel
theorem dJ6_getChars_ba4f3_1 : decode cJ6_getChars_ba4f3 1 = .ok (.istore 5, 2) := by decide +kernel
theorem dJ6_getChars_ba4f3_3 : decode cJ6_getChars_ba4f3 3 = .ok (.iload_n 0, 1) := by decide +kernel
theorem dJ6_getChars_ba4f3_4 : decode cJ6_getChars_ba4f3 4 = .ok (.ifCond .ge 7, 3) := by decide +kernel
theorem dJ6_getChars_ba4f3_7 : decode cJ6_getChars_ba4f3 7 = .ok (.iconst 1, 1) := by decide +kernel
theorem dJ6_getChars_ba4f3_8 : decode cJ6_getChars_ba4f3 8 = .ok (.goto 4, 3) := by decide +kernel
theorem dJ6_getChars_ba4f3_11 : decode cJ6_getChars_ba4f3 11 = .ok (.iconst 0, 1) := by decide +kernel
theorem dJ6_getChars_ba4f3_12 : decode cJ6_getChars_ba4f3 12 = .ok (.istore 6, 2) := by decide +kernel
theorem dJ6_getChars_ba4f3_14 : decode cJ6_getChars_ba4f3 14 = .ok (.iload 6, 2) := by decide +kernel
theorem dJ6_getChars_ba4f3_16 : decode cJ6_getChars_ba4f3 16 = .ok (.ifCond .ne 6, 3) := by decide +kernel
theorem dJ6_getChars_ba4f3_19 : decode cJ6_getChars_ba4f3 19 = .ok (.iload_n 0, 1) := by decide +kernel
theorem dJ6_getChars_ba4f3_20 : decode cJ6_getChars_ba4f3 20 = .ok (.ineg, 1) := by decide +kernel
theorem dJ6_getChars_ba4f3_21 : decode cJ6_getChars_ba4f3 21 = .ok (.istore_n 0, 1) := by decide +kernel
theorem dJ6_getChars_ba4f3_22 : decode cJ6_getChars_ba4f3 22 = .ok (.iload_n 0, 1) := by decide +kernel
theorem dJ6_getChars_ba4f3_23 : decode cJ6_getChars_ba4f3 23 = .ok (.bipush (-100), 2) := by decide +kernel
theorem dJ6_getChars_ba4f3_25 : decode cJ6_getChars_ba4f3 25 = .ok (.if_icmp .gt 47, 3) := by decide +kernel
theorem dJ6_getChars_ba4f3_28 : decode cJ6_getChars_ba4f3 28 = .ok (.iload_n 0, 1) := by decide +kernel
theorem dJ6_getChars_ba4f3_29 : decode cJ6_getChars_ba4f3 29 = .ok (.bipush 100, 2) := by decide +kernel
theorem dJ6_getChars_ba4f3_31 : decode cJ6_getChars_ba4f3 31 = .ok (.idiv, 1) := by decide +kernel
theorem dJ6_getChars_ba4f3_32 : decode cJ6_getChars_ba4f3 32 = .ok (.istore_n 3, 1) := by decide +kernel
theorem dJ6_getChars_ba4f3_33 : decode cJ6_getChars_ba4f3 33 = .ok (.iload_n 3, 1) := by decide +kernel
theorem dJ6_getChars_ba4f3_34 : decode cJ6_getChars_ba4f3 34 = .ok (.bipush 100, 2) := by decide +kernel
theorem dJ6_getChars_ba4f3_36 : decode cJ6_getChars_ba4f3 36 = .ok (.imul, 1) := by decide +kernel
theorem dJ6_getChars_ba4f3_37 : decode cJ6_getChars_ba4f3 37 = .ok (.iload_n 0, 1) := by decide +kernel
theorem dJ6_getChars_ba4f3_38 : decode cJ6_getChars_ba4f3 38 = .ok (.isub, 1) := by decide +kernel
theorem dJ6_getChars_ba4f3_39 : decode cJ6_getChars_ba4f3 39 = .ok (.istore 4, 2) := by decide +kernel
theorem dJ6_getChars_ba4f3_41 : decode cJ6_getChars_ba4f3 41 = .ok (.iload_n 3, 1) := by decide +kernel
theorem dJ6_getChars_ba4f3_42 : decode cJ6_getChars_ba4f3 42 = .ok (.istore_n 0, 1) := by decide +kernel
theorem dJ6_getChars_ba4f3_43 : decode cJ6_getChars_ba4f3 43 = .ok (.aload_n 2, 1) := by decide +kernel
theorem dJ6_getChars_ba4f3_44 : decode cJ6_getChars_ba4f3 44 = .ok (.iinc 5 (-1), 3) := by decide +kernel
theorem dJ6_getChars_ba4f3_47 : decode cJ6_getChars_ba4f3 47 = .ok (.iload 5, 2) := by decide +kernel
theorem dJ6_getChars_ba4f3_49 : decode cJ6_getChars_ba4f3 49 = .ok (.getstatic 83, 3) := by decide +kernel
theorem dJ6_getChars_ba4f3_52 : decode cJ6_getChars_ba4f3 52 = .ok (.iload 4, 2) := by decide +kernel
theorem dJ6_getChars_ba4f3_54 : decode cJ6_getChars_ba4f3 54 = .ok (.baload, 1) := by decide +kernel
theorem dJ6_getChars_ba4f3_55 : decode cJ6_getChars_ba4f3 55 = .ok (.bastore, 1) := by decide +kernel
theorem dJ6_getChars_ba4f3_56 : decode cJ6_getChars_ba4f3 56 = .ok (.aload_n 2, 1) := by decide +kernel
theorem dJ6_getChars_ba4f3_57 : decode cJ6_getChars_ba4f3 57 = .ok (.iinc 5 (-1), 3) := by decide +kernel
theorem dJ6_getChars_ba4f3_60 : decode cJ6_getChars_ba4f3 60 = .ok (.iload 5, 2) := by decide +kernel
theorem dJ6_getChars_ba4f3_62 : decode cJ6_getChars_ba4f3 62 = .ok (.getstatic 87, 3) := by decide +kernel
theorem dJ6_getChars_ba4f3_65 : decode cJ6_getChars_ba4f3 65 = .ok (.iload 4, 2) := by decide +kernel
theorem dJ6_getChars_ba4f3_67 : decode cJ6_getChars_ba4f3 67 = .ok (.baload, 1) := by decide +kernel
theorem dJ6_getChars_ba4f3_68 : decode cJ6_getChars_ba4f3 68 = .ok (.bastore, 1) := by decide +kernel
theorem dJ6_getChars_ba4f3_69 : decode cJ6_getChars_ba4f3 69 = .ok (.goto (-47), 3) := by decide +kernel
theorem dJ6_getChars_ba4f3_72 : decode cJ6_getChars_ba4f3 72 = .ok (.aload_n 2, 1) := by decide +kernel
theorem dJ6_getChars_ba4f3_73 : decode cJ6_getChars_ba4f3 73 = .ok (.iinc 5 (-1), 3) := by decide +kernel
theorem dJ6_getChars_ba4f3_76 : decode cJ6_getChars_ba4f3 76 = .ok (.iload 5, 2) := by decide +kernel
theorem dJ6_getChars_ba4f3_78 : decode cJ6_getChars_ba4f3 78 = .ok (.getstatic 83, 3) := by decide +kernel
theorem dJ6_getChars_ba4f3_81 : decode cJ6_getChars_ba4f3 81 = .ok (.iload_n 0, 1) := by decide +kernel
theorem dJ6_getChars_ba4f3_82 : decode cJ6_getChars_ba4f3 82 = .ok (.ineg, 1) := by decide +kernel
theorem dJ6_getChars_ba4f3_83 : decode cJ6_getChars_ba4f3 83 = .ok (.baload, 1) := by decide +kernel
theorem dJ6_getChars_ba4f3_84 : decode cJ6_getChars_ba4f3 84 = .ok (.bastore, 1) := by decide +kernel
theorem dJ6_getChars_ba4f3_85 : decode cJ6_getChars_ba4f3 85 = .ok (.iload_n 0, 1) := by decide +kernel
theorem dJ6_getChars_ba4f3_86 : decode cJ6_getChars_ba4f3 86 = .ok (.bipush (-9), 2) := by decide +kernel
theorem dJ6_getChars_ba4f3_88 : decode cJ6_getChars_ba4f3 88 = .ok (.if_icmp .ge 16, 3) := by decide +kernel
theorem dJ6_getChars_ba4f3_91 : decode cJ6_getChars_ba4f3 91 = .ok (.aload_n 2, 1) := by decide +kernel
theorem dJ6_getChars_ba4f3_92 : decode cJ6_getChars_ba4f3 92 = .ok (.iinc 5 (-1), 3) := by decide +kernel
theorem dJ6_getChars_ba4f3_95 : decode cJ6_getChars_ba4f3 95 = .ok (.iload 5, 2) := by decide +kernel
theorem dJ6_getChars_ba4f3_97 : decode cJ6_getChars_ba4f3 97 = .ok (.getstatic 87, 3) := by decide +kernel
theorem dJ6_getChars_ba4f3_100 : decode cJ6_getChars_ba4f3 100 = .ok (.iload_n 0, 1) := by decide +kernel
theorem dJ6_getChars_ba4f3_101 : decode cJ6_getChars_ba4f3 101 = .ok (.ineg, 1) := by decide +kernel
theorem dJ6_getChars_ba4f3_102 : decode cJ6_getChars_ba4f3 102 = .ok (.baload, 1) := by decide +kernel
theorem dJ6_getChars_ba4f3_103 : decode cJ6_getChars_ba4f3 103 = .ok (.bastore, 1) := by decide +kernel
theorem dJ6_getChars_ba4f3_104 : decode cJ6_getChars_ba4f3 104 = .ok (.iload 6, 2) := by decide +kernel
theorem dJ6_getChars_ba4f3_106 : decode cJ6_getChars_ba4f3 106 = .ok (.ifCond .eq 12, 3) := by decide +kernel
theorem dJ6_getChars_ba4f3_109 : decode cJ6_getChars_ba4f3 109 = .ok (.aload_n 2, 1) := by decide +kernel
theorem dJ6_getChars_ba4f3_110 : decode cJ6_getChars_ba4f3 110 = .ok (.iinc 5 (-1), 3) := by decide +kernel
theorem dJ6_getChars_ba4f3_113 : decode cJ6_getChars_ba4f3 113 = .ok (.iload 5, 2) := by decide +kernel
theorem dJ6_getChars_ba4f3_115 : decode cJ6_getChars_ba4f3 115 = .ok (.bipush 45, 2) := by decide +kernel
theorem dJ6_getChars_ba4f3_117 : decode cJ6_getChars_ba4f3 117 = .ok (.bastore, 1) := by decide +kernel
theorem dJ6_getChars_ba4f3_118 : decode cJ6_getChars_ba4f3 118 = .ok (.iload 5, 2) := by decide +kernel
theorem dJ6_getChars_ba4f3_120 : decode cJ6_getChars_ba4f3 120 = .ok (.ireturn, 1) := by decide +kernel
theorem dJ6_stringSize_0f7a4_0 : decode cJ6_stringSize_0f7a4 0 = .ok (.iconst 1, 1) := by decide +kernel
theorem dJ6_stringSize_0f7a4_1 : decode cJ6_stringSize_0f7a4 1 = .ok (.istore_n 1, 1) := by decide +kernel
theorem dJ6_stringSize_0f7a4_2 : decode cJ6_stringSize_0f7a4 2 = .ok (.iload_n 0, 1) := by decide +kernel
theorem dJ6_stringSize_0f7a4_3 : decode cJ6_stringSize_0f7a4 3 = .ok (.ifCond .lt 8, 3) := by decide +kernel
theorem dJ6_stringSize_0f7a4_6 : decode cJ6_stringSize_0f7a4 6 = .ok (.iconst 0, 1) := by decide +kernel
theorem dJ6_stringSize_0f7a4_7 : decode cJ6_stringSize_0f7a4 7 = .ok (.istore_n 1, 1) := by decide +kernel
theorem dJ6_stringSize_0f7a4_8 : decode cJ6_stringSize_0f7a4 8 = .ok (.iload_n 0, 1) := by decide +kernel
theorem dJ6_stringSize_0f7a4_9 : decode cJ6_stringSize_0f7a4 9 = .ok (.ineg, 1) := by decide +kernel
theorem dJ6_stringSize_0f7a4_10 : decode cJ6_stringSize_0f7a4 10 = .ok (.istore_n 0, 1) := by decide +kernel
theorem dJ6_stringSize_0f7a4_11 : decode cJ6_stringSize_0f7a4 11 = .ok (.bipush (-10), 2) := by decide +kernel
theorem dJ6_stringSize_0f7a4_13 : decode cJ6_stringSize_0f7a4 13 = .ok (.istore_n 2, 1) := by decide +kernel
theorem dJ6_stringSize_0f7a4_14 : decode cJ6_stringSize_0f7a4 14 = .ok (.iconst 1, 1) := by decide +kernel
theorem dJ6_stringSize_0f7a4_15 : decode cJ6_stringSize_0f7a4 15 = .ok (.istore_n 3, 1) := by decide +kernel
theorem dJ6_stringSize_0f7a4_16 : decode cJ6_stringSize_0f7a4 16 = .ok (.iload_n 3, 1) := by decide +kernel
theorem dJ6_stringSize_0f7a4_17 : decode cJ6_stringSize_0f7a4 17 = .ok (.bipush 10, 2) := by decide +kernel
theorem dJ6_stringSize_0f7a4_19 : decode cJ6_stringSize_0f7a4 19 = .ok (.if_icmp .ge 23, 3) := by decide +kernel
theorem dJ6_stringSize_0f7a4_22 : decode cJ6_stringSize_0f7a4 22 = .ok (.iload_n 0, 1) := by decide +kernel
theorem dJ6_stringSize_0f7a4_23 : decode cJ6_stringSize_0f7a4 23 = .ok (.iload_n 2, 1) := by decide +kernel
theorem dJ6_stringSize_0f7a4_24 : decode cJ6_stringSize_0f7a4 24 = .ok (.if_icmp .le 7, 3) := by decide +kernel
theorem dJ6_stringSize_0f7a4_27 : decode cJ6_stringSize_0f7a4 27 = .ok (.iload_n 3, 1) := by decide +kernel
theorem dJ6_stringSize_0f7a4_28 : decode cJ6_stringSize_0f7a4 28 = .ok (.iload_n 1, 1) := by decide +kernel
theorem dJ6_stringSize_0f7a4_29 : decode cJ6_stringSize_0f7a4 29 = .ok (.iadd, 1) := by decide +kernel
theorem dJ6_stringSize_0f7a4_30 : decode cJ6_stringSize_0f7a4 30 = .ok (.ireturn, 1) := by decide +kernel
theorem dJ6_stringSize_0f7a4_31 : decode cJ6_stringSize_0f7a4 31 = .ok (.bipush 10, 2) := by decide +kernel
theorem dJ6_stringSize_0f7a4_33 : decode cJ6_stringSize_0f7a4 33 = .ok (.iload_n 2, 1) := by decide +kernel
theorem dJ6_stringSize_0f7a4_34 : decode cJ6_stringSize_0f7a4 34 = .ok (.imul, 1) := by decide +kernel
theorem dJ6_stringSize_0f7a4_35 : decode cJ6_stringSize_0f7a4 35 = .ok (.istore_n 2, 1) := by decide +kernel
theorem dJ6_stringSize_0f7a4_36 : decode cJ6_stringSize_0f7a4 36 = .ok (.iinc 3 1, 3) := by decide +kernel
theorem dJ6_stringSize_0f7a4_39 : decode cJ6_stringSize_0f7a4 39 = .ok (.goto (-23), 3) := by decide +kernel
theorem dJ6_stringSize_0f7a4_42 : decode cJ6_stringSize_0f7a4 42 = .ok (.bipush 10, 2) := by decide +kernel
theorem dJ6_stringSize_0f7a4_44 : decode cJ6_stringSize_0f7a4 44 = .ok (.iload_n 1, 1) := by decide +kernel
theorem dJ6_stringSize_0f7a4_45 : decode cJ6_stringSize_0f7a4 45 = .ok (.iadd, 1) := by decide +kernel
theorem dJ6_stringSize_0f7a4_46 : decode cJ6_stringSize_0f7a4 46 = .ok (.ireturn, 1) := by decide +kernel
theorem dJ6_bitCount_0f7a4_0 : decode cJ6_bitCount_0f7a4 0 = .ok (.iload_n 0, 1) := by decide +kernel
theorem dJ6_bitCount_0f7a4_1 : decode cJ6_bitCount_0f7a4 1 = .ok (.iload_n 0, 1) := by decide +kernel
theorem dJ6_bitCount_0f7a4_2 : decode cJ6_bitCount_0f7a4 2 = .ok (.iconst 1, 1) := by decide +kernel
theorem dJ6_bitCount_0f7a4_3 : decode cJ6_bitCount_0f7a4 3 = .ok (.iushr, 1) := by decide +kernel
theorem dJ6_bitCount_0f7a4_4 : decode cJ6_bitCount_0f7a4 4 = .ok (.ldc_w 265, 3) := by decide +kernel
theorem dJ6_bitCount_0f7a4_7 : decode cJ6_bitCount_0f7a4 7 = .ok (.iand, 1) := by decide +kernel
theorem dJ6_bitCount_0f7a4_8 : decode cJ6_bitCount_0f7a4 8 = .ok (.isub, 1) := by decide +kernel
theorem dJ6_bitCount_0f7a4_9 : decode cJ6_bitCount_0f7a4 9 = .ok (.istore_n 0, 1) := by decide +kernel
theorem dJ6_bitCount_0f7a4_10 : decode cJ6_bitCount_0f7a4 10 = .ok (.iload_n 0, 1) := by decide +kernel
theorem dJ6_bitCount_0f7a4_11 : decode cJ6_bitCount_0f7a4 11 = .ok (.ldc_w 266, 3) := by decide +kernel
theorem dJ6_bitCount_0f7a4_14 : decode cJ6_bitCount_0f7a4 14 = .ok (.iand, 1) := by decide +kernel
theorem dJ6_bitCount_0f7a4_15 : decode cJ6_bitCount_0f7a4 15 = .ok (.iload_n 0, 1) := by decide +kernel
theorem dJ6_bitCount_0f7a4_16 : decode cJ6_bitCount_0f7a4 16 = .ok (.iconst 2, 1) := by decide +kernel
theorem dJ6_bitCount_0f7a4_17 : decode cJ6_bitCount_0f7a4 17 = .ok (.iushr, 1) := by decide +kernel
theorem dJ6_bitCount_0f7a4_18 : decode cJ6_bitCount_0f7a4 18 = .ok (.ldc_w 266, 3) := by decide +kernel
theorem dJ6_bitCount_0f7a4_21 : decode cJ6_bitCount_0f7a4 21 = .ok (.iand, 1) := by decide +kernel
theorem dJ6_bitCount_0f7a4_22 : decode cJ6_bitCount_0f7a4 22 = .ok (.iadd, 1) := by decide +kernel
theorem dJ6_bitCount_0f7a4_23 : decode cJ6_bitCount_0f7a4 23 = .ok (.istore_n 0, 1) := by decide +kernel
theorem dJ6_bitCount_0f7a4_24 : decode cJ6_bitCount_0f7a4 24 = .ok (.iload_n 0, 1) := by decide +kernel
theorem dJ6_bitCount_0f7a4_25 : decode cJ6_bitCount_0f7a4 25 = .ok (.iload_n 0, 1) := by decide +kernel
theorem dJ6_bitCount_0f7a4_26 : decode cJ6_bitCount_0f7a4 26 = .ok (.iconst 4, 1) := by decide +kernel
theorem dJ6_bitCount_0f7a4_27 : decode cJ6_bitCount_0f7a4 27 = .ok (.iushr, 1) := by decide +kernel
theorem dJ6_bitCount_0f7a4_28 : decode cJ6_bitCount_0f7a4 28 = .ok (.iadd, 1) := by decide +kernel
theorem dJ6_bitCount_0f7a4_29 : decode cJ6_bitCount_0f7a4 29 = .ok (.ldc_w 267, 3) := by decide +kernel
theorem dJ6_bitCount_0f7a4_32 : decode cJ6_bitCount_0f7a4 32 = .ok (.iand, 1) := by decide +kernel
theorem dJ6_bitCount_0f7a4_33 : decode cJ6_bitCount_0f7a4 33 = .ok (.istore_n 0, 1) := by decide +kernel
theorem dJ6_bitCount_0f7a4_34 : decode cJ6_bitCount_0f7a4 34 = .ok (.iload_n 0, 1) := by decide +kernel
theorem dJ6_bitCount_0f7a4_35 : decode cJ6_bitCount_0f7a4 35 = .ok (.iload_n 0, 1) := by decide +kernel
theorem dJ6_bitCount_0f7a4_36 : decode cJ6_bitCount_0f7a4 36 = .ok (.bipush 8, 2) := by decide +kernel
theorem dJ6_bitCount_0f7a4_38 : decode cJ6_bitCount_0f7a4 38 = .ok (.iushr, 1) := by decide +kernel
theorem dJ6_bitCount_0f7a4_39 : decode cJ6_bitCount_0f7a4 39 = .ok (.iadd, 1) := by decide +kernel
theorem dJ6_bitCount_0f7a4_40 : decode cJ6_bitCount_0f7a4 40 = .ok (.istore_n 0, 1) := by decide +kernel
theorem dJ6_bitCount_0f7a4_41 : decode cJ6_bitCount_0f7a4 41 = .ok (.iload_n 0, 1) := by decide +kernel
theorem dJ6_bitCount_0f7a4_42 : decode cJ6_bitCount_0f7a4 42 = .ok (.iload_n 0, 1) := by decide +kernel
theorem dJ6_bitCount_0f7a4_43 : decode cJ6_bitCount_0f7a4 43 = .ok (.bipush 16, 2) := by decide +kernel
theorem dJ6_bitCount_0f7a4_45 : decode cJ6_bitCount_0f7a4 45 = .ok (.iushr, 1) := by decide +kernel
theorem dJ6_bitCount_0f7a4_46 : decode cJ6_bitCount_0f7a4 46 = .ok (.iadd, 1) := by decide +kernel
theorem dJ6_bitCount_0f7a4_47 : decode cJ6_bitCount_0f7a4 47 = .ok (.istore_n 0, 1) := by decide +kernel
theorem dJ6_bitCount_0f7a4_48 : decode cJ6_bitCount_0f7a4 48 = .ok (.iload_n 0, 1) := by decide +kernel
theorem dJ6_bitCount_0f7a4_49 : decode cJ6_bitCount_0f7a4 49 = .ok (.bipush 63, 2) := by decide +kernel
theorem dJ6_bitCount_0f7a4_51 : decode cJ6_bitCount_0f7a4 51 = .ok (.iand, 1) := by decide +kernel
theorem dJ6_bitCount_0f7a4_52 : decode cJ6_bitCount_0f7a4 52 = .ok (.ireturn, 1) := by decide +kernel
theorem dJ9_max_7cf53_0 : decode cJ9_max_7cf53 0 = .ok (.iload_n 0, 1) := by decide +kernel
theorem dJ9_max_7cf53_1 : decode cJ9_max_7cf53 1 = .ok (.iload_n 1, 1) := by decide +kernel
theorem dJ9_max_7cf53_2 : decode cJ9_max_7cf53 2 = .ok (.if_icmp .lt 7, 3) := by decide +kernel
theorem dJ9_max_7cf53_5 : decode cJ9_max_7cf53 5 = .ok (.iload_n 0, 1) := by decide +kernel
theorem dJ9_max_7cf53_6 : decode cJ9_max_7cf53 6 = .ok (.goto 4, 3) := by decide +kernel
theorem dJ9_max_7cf53_9 : decode cJ9_max_7cf53 9 = .ok (.iload_n 1, 1) := by decide +kernel
theorem dJ9_max_7cf53_10 : decode cJ9_max_7cf53 10 = .ok (.ireturn, 1) := by decide +kernel
theorem dJ9_min_7cf53_0 : decode cJ9_min_7cf53 0 = .ok (.iload_n 0, 1) := by decide +kernel
theorem dJ9_min_7cf53_1 : decode cJ9_min_7cf53 1 = .ok (.iload_n 1, 1) := by decide +kernel
theorem dJ9_min_7cf53_2 : decode cJ9_min_7cf53 2 = .ok (.if_icmp .gt 7, 3) := by decide +kernel
theorem dJ9_min_7cf53_5 : decode cJ9_min_7cf53 5 = .ok (.iload_n 0, 1) := by decide +kernel
theorem dJ9_min_7cf53_6 : decode cJ9_min_7cf53 6 = .ok (.goto 4, 3) := by decide +kernel
theorem dJ9_min_7cf53_9 : decode cJ9_min_7cf53 9 = .ok (.iload_n 1, 1) := by decide +kernel
theorem dJ9_min_7cf53_10 : decode cJ9_min_7cf53 10 = .ok (.ireturn, 1) := by decide +kernel
theorem dJ0_init_81219_0 : decode cJ0_init_81219 0 = .ok (.aload_n 0, 1) := by decide +kernel
theorem dJ0_init_81219_1 : decode cJ0_init_81219 1 = .ok (.aload_n 1, 1) := by decide +kernel
theorem dJ0_init_81219_2 : decode cJ0_init_81219 2 = .ok (.aconst_null, 1) := by decide +kernel
theorem dJ0_init_81219_3 : decode cJ0_init_81219 3 = .ok (.invokespecial 489, 3) := by decide +kernel
theorem dJ0_init_81219_6 : decode cJ0_init_81219 6 = .ok (.return_, 1) := by decide +kernel
theorem dJ0_length_8abf5_0 : decode cJ0_length_8abf5 0 = .ok (.aload_n 0, 1) := by decide +kernel
theorem dJ0_length_8abf5_1 : decode cJ0_length_8abf5 1 = .ok (.getfield 9, 3) := by decide +kernel
theorem dJ0_length_8abf5_4 : decode cJ0_length_8abf5 4 = .ok (.arraylength, 1) := by decide +kernel
theorem dJ0_length_8abf5_5 : decode cJ0_length_8abf5 5 = .ok (.aload_n 0, 1) := by decide +kernel
theorem dJ0_length_8abf5_6 : decode cJ0_length_8abf5 6 = .ok (.invokevirtual 335, 3) := by decide +kernel
theorem dJ0_length_8abf5_9 : decode cJ0_length_8abf5 9 = .ok (.ishr, 1) := by decide +kernel
theorem dJ0_length_8abf5_10 : decode cJ0_length_8abf5 10 = .ok (.ireturn, 1) := by decide +kernel
theorem dJ0_charAt_5068e_0 : decode cJ0_charAt_5068e 0 = .ok (.aload_n 0, 1) := by decide +kernel
theorem dJ0_charAt_5068e_1 : decode cJ0_charAt_5068e 1 = .ok (.invokevirtual 492, 3) := by decide +kernel
theorem dJ0_charAt_5068e_4 : decode cJ0_charAt_5068e 4 = .ok (.ifCond .eq 12, 3) := by decide +kernel
theorem dJ0_charAt_5068e_7 : decode cJ0_charAt_5068e 7 = .ok (.aload_n 0, 1) := by decide +kernel
theorem dJ0_charAt_5068e_8 : decode cJ0_charAt_5068e 8 = .ok (.getfield 9, 3) := by decide +kernel
theorem dJ0_charAt_5068e_11 : decode cJ0_charAt_5068e 11 = .ok (.iload_n 1, 1) := by decide +kernel
theorem dJ0_charAt_5068e_12 : decode cJ0_charAt_5068e 12 = .ok (.invokestatic 495, 3) := by decide +kernel
theorem dJ0_charAt_5068e_15 : decode cJ0_charAt_5068e 15 = .ok (.ireturn, 1) := by decide +kernel
theorem dJ0_charAt_5068e_16 : decode cJ0_charAt_5068e 16 = .ok (.aload_n 0, 1) := by decide +kernel
theorem dJ0_charAt_5068e_17 : decode cJ0_charAt_5068e 17 = .ok (.getfield 9, 3) := by decide +kernel
theorem dJ0_charAt_5068e_20 : decode cJ0_charAt_5068e 20 = .ok (.iload_n 1, 1) := by decide +kernel
theorem dJ0_charAt_5068e_21 : decode cJ0_charAt_5068e 21 = .ok (.invokestatic 498, 3) := by decide +kernel
theorem dJ0_charAt_5068e_24 : decode cJ0_charAt_5068e 24 = .ok (.ireturn, 1) := by decide +kernel
theorem dJ0_getBytes_840e7_0 : decode cJ0_getBytes_840e7 0 = .ok (.aload_n 0, 1) := by decide +kernel
theorem dJ0_getBytes_840e7_1 : decode cJ0_getBytes_840e7 1 = .ok (.invokevirtual 335, 3) := by decide +kernel
theorem dJ0_getBytes_840e7_4 : decode cJ0_getBytes_840e7 4 = .ok (.iload_n 3, 1) := by decide +kernel
theorem dJ0_getBytes_840e7_5 : decode cJ0_getBytes_840e7 5 = .ok (.if_icmp .ne 23, 3) := by decide +kernel
theorem dJ0_getBytes_840e7_8 : decode cJ0_getBytes_840e7 8 = .ok (.aload_n 0, 1) := by decide +kernel
theorem dJ0_getBytes_840e7_9 : decode cJ0_getBytes_840e7 9 = .ok (.getfield 9, 3) := by decide +kernel
theorem dJ0_getBytes_840e7_12 : decode cJ0_getBytes_840e7 12 = .ok (.iconst 0, 1) := by decide +kernel
theorem dJ0_getBytes_840e7_13 : decode cJ0_getBytes_840e7 13 = .ok (.aload_n 1, 1) := by decide +kernel
theorem dJ0_getBytes_840e7_14 : decode cJ0_getBytes_840e7 14 = .ok (.iload_n 2, 1) := by decide +kernel
theorem dJ0_getBytes_840e7_15 : decode cJ0_getBytes_840e7 15 = .ok (.iload_n 3, 1) := by decide +kernel
theorem dJ0_getBytes_840e7_16 : decode cJ0_getBytes_840e7 16 = .ok (.ishl, 1) := by decide +kernel
theorem dJ0_getBytes_840e7_17 : decode cJ0_getBytes_840e7 17 = .ok (.aload_n 0, 1) := by decide +kernel
theorem dJ0_getBytes_840e7_18 : decode cJ0_getBytes_840e7 18 = .ok (.getfield 9, 3) := by decide +kernel
theorem dJ0_getBytes_840e7_21 : decode cJ0_getBytes_840e7 21 = .ok (.arraylength, 1) := by decide +kernel
theorem dJ0_getBytes_840e7_22 : decode cJ0_getBytes_840e7 22 = .ok (.invokestatic 212, 3) := by decide +kernel
theorem dJ0_getBytes_840e7_25 : decode cJ0_getBytes_840e7 25 = .ok (.goto 18, 3) := by decide +kernel
theorem dJ0_getBytes_840e7_28 : decode cJ0_getBytes_840e7 28 = .ok (.aload_n 0, 1) := by decide +kernel
theorem dJ0_getBytes_840e7_29 : decode cJ0_getBytes_840e7 29 = .ok (.getfield 9, 3) := by decide +kernel
theorem dJ0_getBytes_840e7_32 : decode cJ0_getBytes_840e7 32 = .ok (.iconst 0, 1) := by decide +kernel
theorem dJ0_getBytes_840e7_33 : decode cJ0_getBytes_840e7 33 = .ok (.aload_n 1, 1) := by decide +kernel
theorem dJ0_getBytes_840e7_34 : decode cJ0_getBytes_840e7 34 = .ok (.iload_n 2, 1) := by decide +kernel
theorem dJ0_getBytes_840e7_35 : decode cJ0_getBytes_840e7 35 = .ok (.aload_n 0, 1) := by decide +kernel
theorem dJ0_getBytes_840e7_36 : decode cJ0_getBytes_840e7 36 = .ok (.getfield 9, 3) := by decide +kernel
theorem dJ0_getBytes_840e7_39 : decode cJ0_getBytes_840e7 39 = .ok (.arraylength, 1) := by decide +kernel
theorem dJ0_getBytes_840e7_40 : decode cJ0_getBytes_840e7 40 = .ok (.invokestatic 106, 3) := by decide +kernel
theorem dJ0_getBytes_840e7_43 : decode cJ0_getBytes_840e7 43 = .ok (.return_, 1) := by decide +kernel
theorem dJ0_init_db425_0 : decode cJ0_init_db425 0 = .ok (.aload_n 0, 1) := by decide +kernel
theorem dJ0_init_db425_1 : decode cJ0_init_db425 1 = .ok (.invokespecial 1, 3) := by decide +kernel
theorem dJ0_init_db425_4 : decode cJ0_init_db425 4 = .ok (.aload_n 1, 1) := by decide +kernel
theorem dJ0_init_db425_5 : decode cJ0_init_db425 5 = .ok (.invokevirtual 552, 3) := by decide +kernel
theorem dJ0_init_db425_8 : decode cJ0_init_db425 8 = .ok (.astore_n 3, 1) := by decide +kernel
theorem dJ0_init_db425_9 : decode cJ0_init_db425 9 = .ok (.aload_n 1, 1) := by decide +kernel
theorem dJ0_init_db425_10 : decode cJ0_init_db425 10 = .ok (.invokevirtual 549, 3) := by decide +kernel
theorem dJ0_init_db425_13 : decode cJ0_init_db425 13 = .ok (.istore 4, 2) := by decide +kernel
theorem dJ0_init_db425_15 : decode cJ0_init_db425 15 = .ok (.aload_n 1, 1) := by decide +kernel
theorem dJ0_init_db425_16 : decode cJ0_init_db425 16 = .ok (.invokevirtual 1047, 3) := by decide +kernel
theorem dJ0_init_db425_19 : decode cJ0_init_db425 19 = .ok (.ifCond .eq 22, 3) := by decide +kernel
theorem dJ0_init_db425_22 : decode cJ0_init_db425 22 = .ok (.aload_n 0, 1) := by decide +kernel
theorem dJ0_init_db425_23 : decode cJ0_init_db425 23 = .ok (.iconst 0, 1) := by decide +kernel
theorem dJ0_init_db425_24 : decode cJ0_init_db425 24 = .ok (.putfield 15, 3) := by decide +kernel
theorem dJ0_init_db425_27 : decode cJ0_init_db425 27 = .ok (.aload_n 0, 1) := by decide +kernel
theorem dJ0_init_db425_28 : decode cJ0_init_db425 28 = .ok (.aload_n 3, 1) := by decide +kernel
theorem dJ0_init_db425_29 : decode cJ0_init_db425 29 = .ok (.iconst 0, 1) := by decide +kernel
theorem dJ0_init_db425_30 : decode cJ0_init_db425 30 = .ok (.iload 4, 2) := by decide +kernel
theorem dJ0_init_db425_32 : decode cJ0_init_db425 32 = .ok (.invokestatic 54, 3) := by decide +kernel
theorem dJ0_init_db425_35 : decode cJ0_init_db425 35 = .ok (.putfield 9, 3) := by decide +kernel
theorem dJ0_init_db425_38 : decode cJ0_init_db425 38 = .ok (.goto 59, 3) := by decide +kernel
theorem dJ0_init_db425_41 : decode cJ0_init_db425 41 = .ok (.getstatic 38, 3) := by decide +kernel
theorem dJ0_init_db425_44 : decode cJ0_init_db425 44 = .ok (.ifCond .eq 35, 3) := by decide +kernel
theorem dJ0_init_db425_47 : decode cJ0_init_db425 47 = .ok (.aload_n 1, 1) := by decide +kernel
theorem dJ0_init_db425_48 : decode cJ0_init_db425 48 = .ok (.getfield 1048, 3) := by decide +kernel
theorem dJ0_init_db425_51 : decode cJ0_init_db425 51 = .ok (.ifCond .eq 28, 3) := by decide +kernel
theorem dJ0_init_db425_54 : decode cJ0_init_db425 54 = .ok (.aload_n 0, 1) := by decide +kernel
theorem dJ0_init_db425_55 : decode cJ0_init_db425 55 = .ok (.aload_n 3, 1) := by decide +kernel
theorem dJ0_init_db425_56 : decode cJ0_init_db425 56 = .ok (.iconst 0, 1) := by decide +kernel
theorem dJ0_init_db425_57 : decode cJ0_init_db425 57 = .ok (.iload 4, 2) := by decide +kernel
theorem dJ0_init_db425_59 : decode cJ0_init_db425 59 = .ok (.invokestatic 1051, 3) := by decide +kernel
theorem dJ0_init_db425_62 : decode cJ0_init_db425 62 = .ok (.putfield 9, 3) := by decide +kernel
theorem dJ0_init_db425_65 : decode cJ0_init_db425 65 = .ok (.aload_n 0, 1) := by decide +kernel
theorem dJ0_init_db425_66 : decode cJ0_init_db425 66 = .ok (.aload_n 0, 1) := by decide +kernel
theorem dJ0_init_db425_67 : decode cJ0_init_db425 67 = .ok (.getfield 9, 3) := by decide +kernel
theorem dJ0_init_db425_70 : decode cJ0_init_db425 70 = .ok (.iload 4, 2) := by decide +kernel
theorem dJ0_init_db425_72 : decode cJ0_init_db425 72 = .ok (.invokestatic 47, 3) := by decide +kernel
theorem dJ0_init_db425_75 : decode cJ0_init_db425 75 = .ok (.putfield 15, 3) := by decide +kernel
theorem dJ0_init_db425_78 : decode cJ0_init_db425 78 = .ok (.return_, 1) := by decide +kernel
theorem dJ0_init_db425_79 : decode cJ0_init_db425 79 = .ok (.aload_n 0, 1) := by decide +kernel
theorem dJ0_init_db425_80 : decode cJ0_init_db425 80 = .ok (.iconst 1, 1) := by decide +kernel
theorem dJ0_init_db425_81 : decode cJ0_init_db425 81 = .ok (.putfield 15, 3) := by decide +kernel
theorem dJ0_init_db425_84 : decode cJ0_init_db425 84 = .ok (.aload_n 0, 1) := by decide +kernel
theorem dJ0_init_db425_85 : decode cJ0_init_db425 85 = .ok (.aload_n 3, 1) := by decide +kernel
theorem dJ0_init_db425_86 : decode cJ0_init_db425 86 = .ok (.iconst 0, 1) := by decide +kernel
theorem dJ0_init_db425_87 : decode cJ0_init_db425 87 = .ok (.iload 4, 2) := by decide +kernel
theorem dJ0_init_db425_89 : decode cJ0_init_db425 89 = .ok (.iconst 1, 1) := by decide +kernel
theorem dJ0_init_db425_90 : decode cJ0_init_db425 90 = .ok (.ishl, 1) := by decide +kernel
theorem dJ0_init_db425_91 : decode cJ0_init_db425 91 = .ok (.invokestatic 54, 3) := by decide +kernel
theorem dJ0_init_db425_94 : decode cJ0_init_db425 94 = .ok (.putfield 9, 3) := by decide +kernel
theorem dJ0_init_db425_97 : decode cJ0_init_db425 97 = .ok (.return_, 1) := by decide +kernel
theorem dJ0_coder_7d493_0 : decode cJ0_coder_7d493 0 = .ok (.getstatic 38, 3) := by decide +kernel
theorem dJ0_coder_7d493_3 : decode cJ0_coder_7d493 3 = .ok (.ifCond .eq 10, 3) := by decide +kernel
theorem dJ0_coder_7d493_6 : decode cJ0_coder_7d493 6 = .ok (.aload_n 0, 1) := by decide +kernel
theorem dJ0_coder_7d493_7 : decode cJ0_coder_7d493 7 = .ok (.getfield 15, 3) := by decide +kernel
theorem dJ0_coder_7d493_10 : decode cJ0_coder_7d493 10 = .ok (.goto 4, 3) := by decide +kernel
theorem dJ0_coder_7d493_13 : decode cJ0_coder_7d493 13 = .ok (.iconst 1, 1) := by decide +kernel
theorem dJ0_coder_7d493_14 : decode cJ0_coder_7d493 14 = .ok (.ireturn, 1) := by decide +kernel
theorem dJ0_isLatin1_aae02_0 : decode cJ0_isLatin1_aae02 0 = .ok (.getstatic 38, 3) := by decide +kernel
theorem dJ0_isLatin1_aae02_3 : decode cJ0_isLatin1_aae02 3 = .ok (.ifCond .eq 14, 3) := by decide +kernel
theorem dJ0_isLatin1_aae02_6 : decode cJ0_isLatin1_aae02 6 = .ok (.aload_n 0, 1) := by decide +kernel
theorem dJ0_isLatin1_aae02_7 : decode cJ0_isLatin1_aae02 7 = .ok (.getfield 15, 3) := by decide +kernel
theorem dJ0_isLatin1_aae02_10 : decode cJ0_isLatin1_aae02 10 = .ok (.ifCond .ne 7, 3) := by decide +kernel
theorem dJ0_isLatin1_aae02_13 : decode cJ0_isLatin1_aae02 13 = .ok (.iconst 1, 1) := by decide +kernel
theorem dJ0_isLatin1_aae02_14 : decode cJ0_isLatin1_aae02 14 = .ok (.goto 4, 3) := by decide +kernel
theorem dJ0_isLatin1_aae02_17 : decode cJ0_isLatin1_aae02 17 = .ok (.iconst 0, 1) := by decide +kernel
theorem dJ0_isLatin1_aae02_18 : decode cJ0_isLatin1_aae02 18 = .ok (.ireturn, 1) := by decide +kernel
theorem dJ0_checkIndex_df160_0 : decode cJ0_checkIndex_df160 0 = .ok (.iload_n 0, 1) := by decide +kernel
theorem dJ0_checkIndex_df160_1 : decode cJ0_checkIndex_df160 1 = .ok (.iload_n 1, 1) := by decide +kernel
theorem dJ0_checkIndex_df160_2 : decode cJ0_checkIndex_df160 2 = .ok (.getstatic 1053, 3) := by decide +kernel
theorem dJ0_checkIndex_df160_5 : decode cJ0_checkIndex_df160 5 = .ok (.invokestatic 1059, 3) := by decide +kernel
theorem dJ0_checkIndex_df160_8 : decode cJ0_checkIndex_df160 8 = .ok (.pop, 1) := by decide +kernel
theorem dJ0_checkIndex_df160_9 : decode cJ0_checkIndex_df160 9 = .ok (.return_, 1) := by decide +kernel
theorem dJ0_checkBoundsOffCount_cabcc_0 : decode cJ0_checkBoundsOffCount_cabcc 0 = .ok (.iload_n 0, 1) := by decide +kernel
theorem dJ0_checkBoundsOffCount_cabcc_1 : decode cJ0_checkBoundsOffCount_cabcc 1 = .ok (.iload_n 1, 1) := by decide +kernel
theorem dJ0_checkBoundsOffCount_cabcc_2 : decode cJ0_checkBoundsOffCount_cabcc 2 = .ok (.iload_n 2, 1) := by decide +kernel
theorem dJ0_checkBoundsOffCount_cabcc_3 : decode cJ0_checkBoundsOffCount_cabcc 3 = .ok (.getstatic 1053, 3) := by decide +kernel
theorem dJ0_checkBoundsOffCount_cabcc_6 : decode cJ0_checkBoundsOffCount_cabcc 6 = .ok (.invokestatic 1065, 3) := by decide +kernel
theorem dJ0_checkBoundsOffCount_cabcc_9 : decode cJ0_checkBoundsOffCount_cabcc 9 = .ok (.ireturn, 1) := by decide +kernel
theorem dJ0_checkBoundsBeginEnd_23922_0 : decode cJ0_checkBoundsBeginEnd_23922 0 = .ok (.iload_n 0, 1) := by decide +kernel
theorem dJ0_checkBoundsBeginEnd_23922_1 : decode cJ0_checkBoundsBeginEnd_23922 1 = .ok (.iload_n 1, 1) := by decide +kernel
theorem dJ0_checkBoundsBeginEnd_23922_2 : decode cJ0_checkBoundsBeginEnd_23922 2 = .ok (.iload_n 2, 1) := by decide +kernel
theorem dJ0_checkBoundsBeginEnd_23922_3 : decode cJ0_checkBoundsBeginEnd_23922 3 = .ok (.getstatic 1053, 3) := by decide +kernel
theorem dJ0_checkBoundsBeginEnd_23922_6 : decode cJ0_checkBoundsBeginEnd_23922 6 = .ok (.invokestatic 1062, 3) := by decide +kernel
theorem dJ0_checkBoundsBeginEnd_23922_9 : decode cJ0_checkBoundsBeginEnd_23922 9 = .ok (.pop, 1) := by decide +kernel
theorem dJ0_checkBoundsBeginEnd_23922_10 : decode cJ0_checkBoundsBeginEnd_23922 10 = .ok (.return_, 1) := by decide +kernel
theorem dJ4_init_da8c8_0 : decode cJ4_init_da8c8 0 = .ok (.aload_n 0, 1) := by decide +kernel
theorem dJ4_init_da8c8_1 : decode cJ4_init_da8c8 1 = .ok (.bipush 16, 2) := by decide +kernel
theorem dJ4_init_da8c8_3 : decode cJ4_init_da8c8 3 = .ok (.invokespecial 1, 3) := by decide +kernel
theorem dJ4_init_da8c8_6 : decode cJ4_init_da8c8 6 = .ok (.return_, 1) := by decide +kernel
theorem dJ4_append_15ec4_0 : decode cJ4_append_15ec4 0 = .ok (.aload_n 0, 1) := by decide +kernel
theorem dJ4_append_15ec4_1 : decode cJ4_append_15ec4 1 = .ok (.aload_n 1, 1) := by decide +kernel
theorem dJ4_append_15ec4_2 : decode cJ4_append_15ec4 2 = .ok (.invokespecial 29, 3) := by decide +kernel
theorem dJ4_append_15ec4_5 : decode cJ4_append_15ec4 5 = .ok (.pop, 1) := by decide +kernel
theorem dJ4_append_15ec4_6 : decode cJ4_append_15ec4 6 = .ok (.aload_n 0, 1) := by decide +kernel
theorem dJ4_append_15ec4_7 : decode cJ4_append_15ec4 7 = .ok (.areturn, 1) := by decide +kernel
theorem dJ4_append_cf468_0 : decode cJ4_append_cf468 0 = .ok (.aload_n 0, 1) := by decide +kernel
theorem dJ4_append_cf468_1 : decode cJ4_append_cf468 1 = .ok (.iload_n 1, 1) := by decide +kernel
theorem dJ4_append_cf468_2 : decode cJ4_append_cf468 2 = .ok (.invokespecial 50, 3) := by decide +kernel
theorem dJ4_append_cf468_5 : decode cJ4_append_cf468 5 = .ok (.pop, 1) := by decide +kernel
theorem dJ4_append_cf468_6 : decode cJ4_append_cf468 6 = .ok (.aload_n 0, 1) := by decide +kernel
theorem dJ4_append_cf468_7 : decode cJ4_append_cf468 7 = .ok (.areturn, 1) := by decide +kernel
theorem dJ4_append_bf812_0 : decode cJ4_append_bf812 0 = .ok (.aload_n 0, 1) := by decide +kernel
theorem dJ4_append_bf812_1 : decode cJ4_append_bf812 1 = .ok (.iload_n 1, 1) := by decide +kernel
theorem dJ4_append_bf812_2 : decode cJ4_append_bf812 2 = .ok (.invokespecial 53, 3) := by decide +kernel
theorem dJ4_append_bf812_5 : decode cJ4_append_bf812 5 = .ok (.pop, 1) := by decide +kernel
theorem dJ4_append_bf812_6 : decode cJ4_append_bf812 6 = .ok (.aload_n 0, 1) := by decide +kernel
theorem dJ4_append_bf812_7 : decode cJ4_append_bf812 7 = .ok (.areturn, 1) := by decide +kernel
theorem dJ4_toString_0e30d_0 : decode cJ4_toString_0e30d 0 = .ok (.new 18, 3) := by decide +kernel
theorem dJ4_toString_0e30d_3 : decode cJ4_toString_0e30d 3 = .ok (.dup, 1) := by decide +kernel
theorem dJ4_toString_0e30d_4 : decode cJ4_toString_0e30d 4 = .ok (.aload_n 0, 1) := by decide +kernel
theorem dJ4_toString_0e30d_5 : decode cJ4_toString_0e30d 5 = .ok (.invokespecial 137, 3) := by decide +kernel
theorem dJ4_toString_0e30d_8 : decode cJ4_toString_0e30d 8 = .ok (.areturn, 1) := by decide +kernel
theorem dJ4_charAt_5068e_0 : decode cJ4_charAt_5068e 0 = .ok (.aload_n 0, 1) := by decide +kernel
theorem dJ4_charAt_5068e_1 : decode cJ4_charAt_5068e 1 = .ok (.iload_n 1, 1) := by decide +kernel
theorem dJ4_charAt_5068e_2 : decode cJ4_charAt_5068e 2 = .ok (.invokespecial 329, 3) := by decide +kernel
theorem dJ4_charAt_5068e_5 : decode cJ4_charAt_5068e 5 = .ok (.ireturn, 1) := by decide +kernel
theorem dJ4_setLength_d00df_0 : decode cJ4_setLength_d00df 0 = .ok (.aload_n 0, 1) := by decide +kernel
theorem dJ4_setLength_d00df_1 : decode cJ4_setLength_d00df 1 = .ok (.iload_n 1, 1) := by decide +kernel
theorem dJ4_setLength_d00df_2 : decode cJ4_setLength_d00df 2 = .ok (.invokespecial 333, 3) := by decide +kernel
theorem dJ4_setLength_d00df_5 : decode cJ4_setLength_d00df 5 = .ok (.return_, 1) := by decide +kernel
theorem dJ4_length_8abf5_0 : decode cJ4_length_8abf5 0 = .ok (.aload_n 0, 1) := by decide +kernel
theorem dJ4_length_8abf5_1 : decode cJ4_length_8abf5 1 = .ok (.invokespecial 343, 3) := by decide +kernel
theorem dJ4_length_8abf5_4 : decode cJ4_length_8abf5 4 = .ok (.ireturn, 1) := by decide +kernel
theorem dJx7c733_init_d00df_0 : decode cJx7c733_init_d00df 0 = .ok (.aload_n 0, 1) := by decide +kernel
theorem dJx7c733_init_d00df_1 : decode cJx7c733_init_d00df 1 = .ok (.new 10, 3) := by decide +kernel
theorem dJx7c733_init_d00df_4 : decode cJx7c733_init_d00df 4 = .ok (.dup, 1) := by decide +kernel
theorem dJx7c733_init_d00df_5 : decode cJx7c733_init_d00df 5 = .ok (.invokespecial 12, 3) := by decide +kernel
theorem dJx7c733_init_d00df_8 : decode cJx7c733_init_d00df 8 = .ok (.ldc 13, 2) := by decide +kernel
theorem dJx7c733_init_d00df_10 : decode cJx7c733_init_d00df 10 = .ok (.invokevirtual 15, 3) := by decide +kernel
theorem dJx7c733_init_d00df_13 : decode cJx7c733_init_d00df 13 = .ok (.iload_n 1, 1) := by decide +kernel
theorem dJx7c733_init_d00df_14 : decode cJx7c733_init_d00df 14 = .ok (.invokevirtual 19, 3) := by decide +kernel
theorem dJx7c733_init_d00df_17 : decode cJx7c733_init_d00df 17 = .ok (.invokevirtual 22, 3) := by decide +kernel
theorem dJx7c733_init_d00df_20 : decode cJx7c733_init_d00df 20 = .ok (.invokespecial 7, 3) := by decide +kernel
theorem dJx7c733_init_d00df_23 : decode cJx7c733_init_d00df 23 = .ok (.return_, 1) := by decide +kernel
theorem dJ1_charAt_3b067_0 : decode cJ1_charAt_3b067 0 = .ok (.iload_n 1, 1) := by decide +kernel
theorem dJ1_charAt_3b067_1 : decode cJ1_charAt_3b067 1 = .ok (.aload_n 0, 1) := by decide +kernel
theorem dJ1_charAt_3b067_2 : decode cJ1_charAt_3b067 2 = .ok (.arraylength, 1) := by decide +kernel
theorem dJ1_charAt_3b067_3 : decode cJ1_charAt_3b067 3 = .ok (.invokestatic 9, 3) := by decide +kernel
theorem dJ1_charAt_3b067_6 : decode cJ1_charAt_3b067 6 = .ok (.aload_n 0, 1) := by decide +kernel
theorem dJ1_charAt_3b067_7 : decode cJ1_charAt_3b067 7 = .ok (.iload_n 1, 1) := by decide +kernel
theorem dJ1_charAt_3b067_8 : decode cJ1_charAt_3b067 8 = .ok (.baload, 1) := by decide +kernel
theorem dJ1_charAt_3b067_9 : decode cJ1_charAt_3b067 9 = .ok (.sipush 255, 3) := by decide +kernel
theorem dJ1_charAt_3b067_12 : decode cJ1_charAt_3b067 12 = .ok (.iand, 1) := by decide +kernel
theorem dJ1_charAt_3b067_13 : decode cJ1_charAt_3b067 13 = .ok (.i2c, 1) := by decide +kernel
theorem dJ1_charAt_3b067_14 : decode cJ1_charAt_3b067 14 = .ok (.ireturn, 1) := by decide +kernel
theorem dJ1_canEncode_fc78d_0 : decode cJ1_canEncode_fc78d 0 = .ok (.iload_n 0, 1) := by decide +kernel
theorem dJ1_canEncode_fc78d_1 : decode cJ1_canEncode_fc78d 1 = .ok (.sipush 255, 3) := by decide +kernel
theorem dJ1_canEncode_fc78d_4 : decode cJ1_canEncode_fc78d 4 = .ok (.if_icmp .gt 7, 3) := by decide +kernel
theorem dJ1_canEncode_fc78d_7 : decode cJ1_canEncode_fc78d 7 = .ok (.iconst 1, 1) := by decide +kernel
theorem dJ1_canEncode_fc78d_8 : decode cJ1_canEncode_fc78d 8 = .ok (.goto 4, 3) := by decide +kernel
theorem dJ1_canEncode_fc78d_11 : decode cJ1_canEncode_fc78d 11 = .ok (.iconst 0, 1) := by decide +kernel
theorem dJ1_canEncode_fc78d_12 : decode cJ1_canEncode_fc78d 12 = .ok (.ireturn, 1) := by decide +kernel
theorem dJ1_fillNull_b72d1_0 : decode cJ1_fillNull_b72d1 0 = .ok (.aload_n 0, 1) := by decide +kernel
theorem dJ1_fillNull_b72d1_1 : decode cJ1_fillNull_b72d1 1 = .ok (.iload_n 1, 1) := by decide +kernel
theorem dJ1_fillNull_b72d1_2 : decode cJ1_fillNull_b72d1 2 = .ok (.iload_n 2, 1) := by decide +kernel
theorem dJ1_fillNull_b72d1_3 : decode cJ1_fillNull_b72d1 3 = .ok (.iconst 0, 1) := by decide +kernel
theorem dJ1_fillNull_b72d1_4 : decode cJ1_fillNull_b72d1 4 = .ok (.invokestatic 236, 3) := by decide +kernel
theorem dJ1_fillNull_b72d1_7 : decode cJ1_fillNull_b72d1 7 = .ok (.return_, 1) := by decide +kernel
theorem dJ1_inflate_0e8fd_0 : decode cJ1_inflate_0e8fd 0 = .ok (.aload_n 0, 1) := by decide +kernel
theorem dJ1_inflate_0e8fd_1 : decode cJ1_inflate_0e8fd 1 = .ok (.iload_n 1, 1) := by decide +kernel
theorem dJ1_inflate_0e8fd_2 : decode cJ1_inflate_0e8fd 2 = .ok (.aload_n 2, 1) := by decide +kernel
theorem dJ1_inflate_0e8fd_3 : decode cJ1_inflate_0e8fd 3 = .ok (.iload_n 3, 1) := by decide +kernel
theorem dJ1_inflate_0e8fd_4 : decode cJ1_inflate_0e8fd 4 = .ok (.iload 4, 2) := by decide +kernel
theorem dJ1_inflate_0e8fd_6 : decode cJ1_inflate_0e8fd 6 = .ok (.invokestatic 240, 3) := by decide +kernel
theorem dJ1_inflate_0e8fd_9 : decode cJ1_inflate_0e8fd 9 = .ok (.return_, 1) := by decide +kernel
theorem dJ2_newBytesFor_77867_0 : decode cJ2_newBytesFor_77867 0 = .ok (.iload_n 0, 1) := by decide +kernel
theorem dJ2_newBytesFor_77867_1 : decode cJ2_newBytesFor_77867 1 = .ok (.invokestatic 11, 3) := by decide +kernel
theorem dJ2_newBytesFor_77867_4 : decode cJ2_newBytesFor_77867 4 = .ok (.newarray .byte, 2) := by decide +kernel
theorem dJ2_newBytesFor_77867_6 : decode cJ2_newBytesFor_77867 6 = .ok (.areturn, 1) := by decide +kernel
theorem dJ2_newBytesLength_0f7a4_0 : decode cJ2_newBytesLength_0f7a4 0 = .ok (.iload_n 0, 1) := by decide +kernel
theorem dJ2_newBytesLength_0f7a4_1 : decode cJ2_newBytesLength_0f7a4 1 = .ok (.ifCond .ge 11, 3) := by decide +kernel
theorem dJ2_newBytesLength_0f7a4_4 : decode cJ2_newBytesLength_0f7a4 4 = .ok (.new 17, 3) := by decide +kernel
theorem dJ2_newBytesLength_0f7a4_7 : decode cJ2_newBytesLength_0f7a4 7 = .ok (.dup, 1) := by decide +kernel
theorem dJ2_newBytesLength_0f7a4_8 : decode cJ2_newBytesLength_0f7a4 8 = .ok (.invokespecial 19, 3) := by decide +kernel
theorem dJ2_newBytesLength_0f7a4_11 : decode cJ2_newBytesLength_0f7a4 11 = .ok (.athrow, 1) := by decide +kernel
theorem dJ2_newBytesLength_0f7a4_12 : decode cJ2_newBytesLength_0f7a4 12 = .ok (.iload_n 0, 1) := by decide +kernel
theorem dJ2_newBytesLength_0f7a4_13 : decode cJ2_newBytesLength_0f7a4 13 = .ok (.ldc 20, 2) := by decide +kernel
theorem dJ2_newBytesLength_0f7a4_15 : decode cJ2_newBytesLength_0f7a4 15 = .ok (.if_icmp .lt 40, 3) := by decide +kernel
theorem dJ2_newBytesLength_0f7a4_18 : decode cJ2_newBytesLength_0f7a4 18 = .ok (.new 21, 3) := by decide +kernel
theorem dJ2_newBytesLength_0f7a4_21 : decode cJ2_newBytesLength_0f7a4 21 = .ok (.dup, 1) := by decide +kernel
theorem dJ2_newBytesLength_0f7a4_22 : decode cJ2_newBytesLength_0f7a4 22 = .ok (.new 23, 3) := by decide +kernel
theorem dJ2_newBytesLength_0f7a4_25 : decode cJ2_newBytesLength_0f7a4 25 = .ok (.dup, 1) := by decide +kernel
theorem dJ2_newBytesLength_0f7a4_26 : decode cJ2_newBytesLength_0f7a4 26 = .ok (.invokespecial 25, 3) := by decide +kernel
theorem dJ2_newBytesLength_0f7a4_29 : decode cJ2_newBytesLength_0f7a4 29 = .ok (.ldc 26, 2) := by decide +kernel
theorem dJ2_newBytesLength_0f7a4_31 : decode cJ2_newBytesLength_0f7a4 31 = .ok (.invokevirtual 28, 3) := by decide +kernel
theorem dJ2_newBytesLength_0f7a4_34 : decode cJ2_newBytesLength_0f7a4 34 = .ok (.iload_n 0, 1) := by decide +kernel
theorem dJ2_newBytesLength_0f7a4_35 : decode cJ2_newBytesLength_0f7a4 35 = .ok (.invokevirtual 32, 3) := by decide +kernel
theorem dJ2_newBytesLength_0f7a4_38 : decode cJ2_newBytesLength_0f7a4 38 = .ok (.ldc 35, 2) := by decide +kernel
theorem dJ2_newBytesLength_0f7a4_40 : decode cJ2_newBytesLength_0f7a4 40 = .ok (.invokevirtual 28, 3) := by decide +kernel
theorem dJ2_newBytesLength_0f7a4_43 : decode cJ2_newBytesLength_0f7a4 43 = .ok (.ldc 20, 2) := by decide +kernel
theorem dJ2_newBytesLength_0f7a4_45 : decode cJ2_newBytesLength_0f7a4 45 = .ok (.invokevirtual 32, 3) := by decide +kernel
theorem dJ2_newBytesLength_0f7a4_48 : decode cJ2_newBytesLength_0f7a4 48 = .ok (.invokevirtual 37, 3) := by decide +kernel
theorem dJ2_newBytesLength_0f7a4_51 : decode cJ2_newBytesLength_0f7a4 51 = .ok (.invokespecial 41, 3) := by decide +kernel
theorem dJ2_newBytesLength_0f7a4_54 : decode cJ2_newBytesLength_0f7a4 54 = .ok (.athrow, 1) := by decide +kernel
theorem dJ2_newBytesLength_0f7a4_55 : decode cJ2_newBytesLength_0f7a4 55 = .ok (.iload_n 0, 1) := by decide +kernel
theorem dJ2_newBytesLength_0f7a4_56 : decode cJ2_newBytesLength_0f7a4 56 = .ok (.iconst 1, 1) := by decide +kernel
theorem dJ2_newBytesLength_0f7a4_57 : decode cJ2_newBytesLength_0f7a4 57 = .ok (.ishl, 1) := by decide +kernel
theorem dJ2_newBytesLength_0f7a4_58 : decode cJ2_newBytesLength_0f7a4 58 = .ok (.ireturn, 1) := by decide +kernel
theorem dJ2_putChar_b72d1_0 : decode cJ2_putChar_b72d1 0 = .ok (.getstatic 44, 3) := by decide +kernel
theorem dJ2_putChar_b72d1_3 : decode cJ2_putChar_b72d1 3 = .ok (.ifCond .ne 25, 3) := by decide +kernel
theorem dJ2_putChar_b72d1_6 : decode cJ2_putChar_b72d1 6 = .ok (.iload_n 1, 1) := by decide +kernel
theorem dJ2_putChar_b72d1_7 : decode cJ2_putChar_b72d1 7 = .ok (.ifCond .lt 11, 3) := by decide +kernel
theorem dJ2_putChar_b72d1_10 : decode cJ2_putChar_b72d1 10 = .ok (.iload_n 1, 1) := by decide +kernel
theorem dJ2_putChar_b72d1_11 : decode cJ2_putChar_b72d1 11 = .ok (.aload_n 0, 1) := by decide +kernel
theorem dJ2_putChar_b72d1_12 : decode cJ2_putChar_b72d1 12 = .ok (.invokestatic 48, 3) := by decide +kernel
theorem dJ2_putChar_b72d1_15 : decode cJ2_putChar_b72d1 15 = .ok (.if_icmp .lt 13, 3) := by decide +kernel
theorem dJ2_putChar_b72d1_18 : decode cJ2_putChar_b72d1 18 = .ok (.new 52, 3) := by decide +kernel
theorem dJ2_putChar_b72d1_21 : decode cJ2_putChar_b72d1 21 = .ok (.dup, 1) := by decide +kernel
theorem dJ2_putChar_b72d1_22 : decode cJ2_putChar_b72d1 22 = .ok (.ldc 54, 2) := by decide +kernel
theorem dJ2_putChar_b72d1_24 : decode cJ2_putChar_b72d1 24 = .ok (.invokespecial 56, 3) := by decide +kernel
theorem dJ2_putChar_b72d1_27 : decode cJ2_putChar_b72d1 27 = .ok (.athrow, 1) := by decide +kernel
theorem dJ2_putChar_b72d1_28 : decode cJ2_putChar_b72d1 28 = .ok (.iload_n 1, 1) := by decide +kernel
theorem dJ2_putChar_b72d1_29 : decode cJ2_putChar_b72d1 29 = .ok (.iconst 1, 1) := by decide +kernel
theorem dJ2_putChar_b72d1_30 : decode cJ2_putChar_b72d1 30 = .ok (.ishl, 1) := by decide +kernel
theorem dJ2_putChar_b72d1_31 : decode cJ2_putChar_b72d1 31 = .ok (.istore_n 1, 1) := by decide +kernel
theorem dJ2_putChar_b72d1_32 : decode cJ2_putChar_b72d1 32 = .ok (.aload_n 0, 1) := by decide +kernel
theorem dJ2_putChar_b72d1_33 : decode cJ2_putChar_b72d1 33 = .ok (.iload_n 1, 1) := by decide +kernel
theorem dJ2_putChar_b72d1_34 : decode cJ2_putChar_b72d1 34 = .ok (.iinc 1 1, 3) := by decide +kernel
theorem dJ2_putChar_b72d1_37 : decode cJ2_putChar_b72d1 37 = .ok (.iload_n 2, 1) := by decide +kernel
theorem dJ2_putChar_b72d1_38 : decode cJ2_putChar_b72d1 38 = .ok (.getstatic 59, 3) := by decide +kernel
theorem dJ2_putChar_b72d1_41 : decode cJ2_putChar_b72d1 41 = .ok (.ishr, 1) := by decide +kernel
theorem dJ2_putChar_b72d1_42 : decode cJ2_putChar_b72d1 42 = .ok (.i2b, 1) := by decide +kernel
theorem dJ2_putChar_b72d1_43 : decode cJ2_putChar_b72d1 43 = .ok (.bastore, 1) := by decide +kernel
theorem dJ2_putChar_b72d1_44 : decode cJ2_putChar_b72d1 44 = .ok (.aload_n 0, 1) := by decide +kernel
theorem dJ2_putChar_b72d1_45 : decode cJ2_putChar_b72d1 45 = .ok (.iload_n 1, 1) := by decide +kernel
theorem dJ2_putChar_b72d1_46 : decode cJ2_putChar_b72d1 46 = .ok (.iload_n 2, 1) := by decide +kernel
theorem dJ2_putChar_b72d1_47 : decode cJ2_putChar_b72d1 47 = .ok (.getstatic 63, 3) := by decide +kernel
theorem dJ2_putChar_b72d1_50 : decode cJ2_putChar_b72d1 50 = .ok (.ishr, 1) := by decide +kernel
theorem dJ2_putChar_b72d1_51 : decode cJ2_putChar_b72d1 51 = .ok (.i2b, 1) := by decide +kernel
theorem dJ2_putChar_b72d1_52 : decode cJ2_putChar_b72d1 52 = .ok (.bastore, 1) := by decide +kernel
theorem dJ2_putChar_b72d1_53 : decode cJ2_putChar_b72d1 53 = .ok (.return_, 1) := by decide +kernel
theorem dJ2_getChar_3b067_0 : decode cJ2_getChar_3b067 0 = .ok (.getstatic 44, 3) := by decide +kernel
theorem dJ2_getChar_3b067_3 : decode cJ2_getChar_3b067 3 = .ok (.ifCond .ne 25, 3) := by decide +kernel
theorem dJ2_getChar_3b067_6 : decode cJ2_getChar_3b067 6 = .ok (.iload_n 1, 1) := by decide +kernel
theorem dJ2_getChar_3b067_7 : decode cJ2_getChar_3b067 7 = .ok (.ifCond .lt 11, 3) := by decide +kernel
theorem dJ2_getChar_3b067_10 : decode cJ2_getChar_3b067 10 = .ok (.iload_n 1, 1) := by decide +kernel
theorem dJ2_getChar_3b067_11 : decode cJ2_getChar_3b067 11 = .ok (.aload_n 0, 1) := by decide +kernel
theorem dJ2_getChar_3b067_12 : decode cJ2_getChar_3b067 12 = .ok (.invokestatic 48, 3) := by decide +kernel
theorem dJ2_getChar_3b067_15 : decode cJ2_getChar_3b067 15 = .ok (.if_icmp .lt 13, 3) := by decide +kernel
theorem dJ2_getChar_3b067_18 : decode cJ2_getChar_3b067 18 = .ok (.new 52, 3) := by decide +kernel
theorem dJ2_getChar_3b067_21 : decode cJ2_getChar_3b067 21 = .ok (.dup, 1) := by decide +kernel
theorem dJ2_getChar_3b067_22 : decode cJ2_getChar_3b067 22 = .ok (.ldc 54, 2) := by decide +kernel
theorem dJ2_getChar_3b067_24 : decode cJ2_getChar_3b067 24 = .ok (.invokespecial 56, 3) := by decide +kernel
theorem dJ2_getChar_3b067_27 : decode cJ2_getChar_3b067 27 = .ok (.athrow, 1) := by decide +kernel
theorem dJ2_getChar_3b067_28 : decode cJ2_getChar_3b067 28 = .ok (.iload_n 1, 1) := by decide +kernel
theorem dJ2_getChar_3b067_29 : decode cJ2_getChar_3b067 29 = .ok (.iconst 1, 1) := by decide +kernel
theorem dJ2_getChar_3b067_30 : decode cJ2_getChar_3b067 30 = .ok (.ishl, 1) := by decide +kernel
theorem dJ2_getChar_3b067_31 : decode cJ2_getChar_3b067 31 = .ok (.istore_n 1, 1) := by decide +kernel
theorem dJ2_getChar_3b067_32 : decode cJ2_getChar_3b067 32 = .ok (.aload_n 0, 1) := by decide +kernel
theorem dJ2_getChar_3b067_33 : decode cJ2_getChar_3b067 33 = .ok (.iload_n 1, 1) := by decide +kernel
theorem dJ2_getChar_3b067_34 : decode cJ2_getChar_3b067 34 = .ok (.iinc 1 1, 3) := by decide +kernel
theorem dJ2_getChar_3b067_37 : decode cJ2_getChar_3b067 37 = .ok (.baload, 1) := by decide +kernel
theorem dJ2_getChar_3b067_38 : decode cJ2_getChar_3b067 38 = .ok (.sipush 255, 3) := by decide +kernel
theorem dJ2_getChar_3b067_41 : decode cJ2_getChar_3b067 41 = .ok (.iand, 1) := by decide +kernel
theorem dJ2_getChar_3b067_42 : decode cJ2_getChar_3b067 42 = .ok (.getstatic 59, 3) := by decide +kernel
theorem dJ2_getChar_3b067_45 : decode cJ2_getChar_3b067 45 = .ok (.ishl, 1) := by decide +kernel
theorem dJ2_getChar_3b067_46 : decode cJ2_getChar_3b067 46 = .ok (.aload_n 0, 1) := by decide +kernel
theorem dJ2_getChar_3b067_47 : decode cJ2_getChar_3b067 47 = .ok (.iload_n 1, 1) := by decide +kernel
theorem dJ2_getChar_3b067_48 : decode cJ2_getChar_3b067 48 = .ok (.baload, 1) := by decide +kernel
theorem dJ2_getChar_3b067_49 : decode cJ2_getChar_3b067 49 = .ok (.sipush 255, 3) := by decide +kernel
theorem dJ2_getChar_3b067_52 : decode cJ2_getChar_3b067 52 = .ok (.iand, 1) := by decide +kernel
theorem dJ2_getChar_3b067_53 : decode cJ2_getChar_3b067 53 = .ok (.getstatic 63, 3) := by decide +kernel
theorem dJ2_getChar_3b067_56 : decode cJ2_getChar_3b067 56 = .ok (.ishl, 1) := by decide +kernel
theorem dJ2_getChar_3b067_57 : decode cJ2_getChar_3b067 57 = .ok (.ior, 1) := by decide +kernel
theorem dJ2_getChar_3b067_58 : decode cJ2_getChar_3b067 58 = .ok (.i2c, 1) := by decide +kernel
theorem dJ2_getChar_3b067_59 : decode cJ2_getChar_3b067 59 = .ok (.ireturn, 1) := by decide +kernel
theorem dJ2_length_9d52b_0 : decode cJ2_length_9d52b 0 = .ok (.aload_n 0, 1) := by decide +kernel
theorem dJ2_length_9d52b_1 : decode cJ2_length_9d52b 1 = .ok (.arraylength, 1) := by decide +kernel
theorem dJ2_length_9d52b_2 : decode cJ2_length_9d52b 2 = .ok (.iconst 1, 1) := by decide +kernel
theorem dJ2_length_9d52b_3 : decode cJ2_length_9d52b 3 = .ok (.ishr, 1) := by decide +kernel
theorem dJ2_length_9d52b_4 : decode cJ2_length_9d52b 4 = .ok (.ireturn, 1) := by decide +kernel
theorem dJ2_coderFromArrayLen_85cad_0 : decode cJ2_coderFromArrayLen_85cad 0 = .ok (.iload_n 1, 1) := by decide +kernel
theorem dJ2_coderFromArrayLen_85cad_1 : decode cJ2_coderFromArrayLen_85cad 1 = .ok (.aload_n 0, 1) := by decide +kernel
theorem dJ2_coderFromArrayLen_85cad_2 : decode cJ2_coderFromArrayLen_85cad 2 = .ok (.arraylength, 1) := by decide +kernel
theorem dJ2_coderFromArrayLen_85cad_3 : decode cJ2_coderFromArrayLen_85cad 3 = .ok (.isub, 1) := by decide +kernel
theorem dJ2_coderFromArrayLen_85cad_4 : decode cJ2_coderFromArrayLen_85cad 4 = .ok (.bipush 31, 2) := by decide +kernel
theorem dJ2_coderFromArrayLen_85cad_6 : decode cJ2_coderFromArrayLen_85cad 6 = .ok (.iushr, 1) := by decide +kernel
theorem dJ2_coderFromArrayLen_85cad_7 : decode cJ2_coderFromArrayLen_85cad 7 = .ok (.i2b, 1) := by decide +kernel
theorem dJ2_coderFromArrayLen_85cad_8 : decode cJ2_coderFromArrayLen_85cad 8 = .ok (.ireturn, 1) := by decide +kernel
theorem dJ2_compress_39247_0 : decode cJ2_compress_39247 0 = .ok (.iload_n 2, 1) := by decide +kernel
theorem dJ2_compress_39247_1 : decode cJ2_compress_39247 1 = .ok (.newarray .byte, 2) := by decide +kernel
theorem dJ2_compress_39247_3 : decode cJ2_compress_39247 3 = .ok (.astore_n 3, 1) := by decide +kernel
theorem dJ2_compress_39247_4 : decode cJ2_compress_39247 4 = .ok (.aload_n 0, 1) := by decide +kernel
theorem dJ2_compress_39247_5 : decode cJ2_compress_39247 5 = .ok (.iload_n 1, 1) := by decide +kernel
theorem dJ2_compress_39247_6 : decode cJ2_compress_39247 6 = .ok (.aload_n 3, 1) := by decide +kernel
theorem dJ2_compress_39247_7 : decode cJ2_compress_39247 7 = .ok (.iconst 0, 1) := by decide +kernel
theorem dJ2_compress_39247_8 : decode cJ2_compress_39247 8 = .ok (.iload_n 2, 1) := by decide +kernel
theorem dJ2_compress_39247_9 : decode cJ2_compress_39247 9 = .ok (.invokestatic 123, 3) := by decide +kernel
theorem dJ2_compress_39247_12 : decode cJ2_compress_39247 12 = .ok (.istore 4, 2) := by decide +kernel
theorem dJ2_compress_39247_14 : decode cJ2_compress_39247 14 = .ok (.iload 4, 2) := by decide +kernel
theorem dJ2_compress_39247_16 : decode cJ2_compress_39247 16 = .ok (.iload_n 2, 1) := by decide +kernel
theorem dJ2_compress_39247_17 : decode cJ2_compress_39247 17 = .ok (.if_icmp .eq 47, 3) := by decide +kernel
theorem dJ2_compress_39247_20 : decode cJ2_compress_39247 20 = .ok (.aload_n 0, 1) := by decide +kernel
theorem dJ2_compress_39247_21 : decode cJ2_compress_39247 21 = .ok (.iload_n 1, 1) := by decide +kernel
theorem dJ2_compress_39247_22 : decode cJ2_compress_39247 22 = .ok (.iconst 1, 1) := by decide +kernel
theorem dJ2_compress_39247_23 : decode cJ2_compress_39247 23 = .ok (.ishl, 1) := by decide +kernel
theorem dJ2_compress_39247_24 : decode cJ2_compress_39247 24 = .ok (.iload_n 1, 1) := by decide +kernel
theorem dJ2_compress_39247_25 : decode cJ2_compress_39247 25 = .ok (.iload_n 2, 1) := by decide +kernel
theorem dJ2_compress_39247_26 : decode cJ2_compress_39247 26 = .ok (.iadd, 1) := by decide +kernel
theorem dJ2_compress_39247_27 : decode cJ2_compress_39247 27 = .ok (.invokestatic 11, 3) := by decide +kernel
theorem dJ2_compress_39247_30 : decode cJ2_compress_39247 30 = .ok (.invokestatic 126, 3) := by decide +kernel
theorem dJ2_compress_39247_33 : decode cJ2_compress_39247 33 = .ok (.astore 5, 2) := by decide +kernel
theorem dJ2_compress_39247_35 : decode cJ2_compress_39247 35 = .ok (.aload 5, 2) := by decide +kernel
theorem dJ2_compress_39247_37 : decode cJ2_compress_39247 37 = .ok (.iload 4, 2) := by decide +kernel
theorem dJ2_compress_39247_39 : decode cJ2_compress_39247 39 = .ok (.invokestatic 71, 3) := by decide +kernel
theorem dJ2_compress_39247_42 : decode cJ2_compress_39247 42 = .ok (.sipush 255, 3) := by decide +kernel
theorem dJ2_compress_39247_45 : decode cJ2_compress_39247 45 = .ok (.if_icmp .gt 16, 3) := by decide +kernel
theorem dJ2_compress_39247_48 : decode cJ2_compress_39247 48 = .ok (.aload 5, 2) := by decide +kernel
theorem dJ2_compress_39247_50 : decode cJ2_compress_39247 50 = .ok (.iconst 0, 1) := by decide +kernel
theorem dJ2_compress_39247_51 : decode cJ2_compress_39247 51 = .ok (.aload_n 3, 1) := by decide +kernel
theorem dJ2_compress_39247_52 : decode cJ2_compress_39247 52 = .ok (.iconst 0, 1) := by decide +kernel
theorem dJ2_compress_39247_53 : decode cJ2_compress_39247 53 = .ok (.iload_n 2, 1) := by decide +kernel
theorem dJ2_compress_39247_54 : decode cJ2_compress_39247 54 = .ok (.invokestatic 123, 3) := by decide +kernel
theorem dJ2_compress_39247_57 : decode cJ2_compress_39247 57 = .ok (.iload_n 2, 1) := by decide +kernel
theorem dJ2_compress_39247_58 : decode cJ2_compress_39247 58 = .ok (.if_icmp .eq 6, 3) := by decide +kernel
theorem dJ2_compress_39247_61 : decode cJ2_compress_39247 61 = .ok (.aload 5, 2) := by decide +kernel
theorem dJ2_compress_39247_63 : decode cJ2_compress_39247 63 = .ok (.areturn, 1) := by decide +kernel
theorem dJ2_compress_39247_64 : decode cJ2_compress_39247 64 = .ok (.aload_n 3, 1) := by decide +kernel
theorem dJ2_compress_39247_65 : decode cJ2_compress_39247 65 = .ok (.areturn, 1) := by decide +kernel
theorem dJ2_compress_5af95_0 : decode cJ2_compress_5af95 0 = .ok (.iload_n 1, 1) := by decide +kernel
theorem dJ2_compress_5af95_1 : decode cJ2_compress_5af95 1 = .ok (.iload 4, 2) := by decide +kernel
theorem dJ2_compress_5af95_3 : decode cJ2_compress_5af95 3 = .ok (.aload_n 0, 1) := by decide +kernel
theorem dJ2_compress_5af95_4 : decode cJ2_compress_5af95 4 = .ok (.invokestatic 173, 3) := by decide +kernel
theorem dJ2_compress_5af95_7 : decode cJ2_compress_5af95 7 = .ok (.iconst 0, 1) := by decide +kernel
theorem dJ2_compress_5af95_8 : decode cJ2_compress_5af95 8 = .ok (.istore 5, 2) := by decide +kernel
theorem dJ2_compress_5af95_10 : decode cJ2_compress_5af95 10 = .ok (.iload 5, 2) := by decide +kernel
theorem dJ2_compress_5af95_12 : decode cJ2_compress_5af95 12 = .ok (.iload 4, 2) := by decide +kernel
theorem dJ2_compress_5af95_14 : decode cJ2_compress_5af95 14 = .ok (.if_icmp .ge 39, 3) := by decide +kernel
theorem dJ2_compress_5af95_17 : decode cJ2_compress_5af95 17 = .ok (.aload_n 0, 1) := by decide +kernel
theorem dJ2_compress_5af95_18 : decode cJ2_compress_5af95 18 = .ok (.iload_n 1, 1) := by decide +kernel
theorem dJ2_compress_5af95_19 : decode cJ2_compress_5af95 19 = .ok (.invokestatic 71, 3) := by decide +kernel
theorem dJ2_compress_5af95_22 : decode cJ2_compress_5af95 22 = .ok (.istore 6, 2) := by decide +kernel
theorem dJ2_compress_5af95_24 : decode cJ2_compress_5af95 24 = .ok (.iload 6, 2) := by decide +kernel
theorem dJ2_compress_5af95_26 : decode cJ2_compress_5af95 26 = .ok (.sipush 255, 3) := by decide +kernel
theorem dJ2_compress_5af95_29 : decode cJ2_compress_5af95 29 = .ok (.if_icmp .le 6, 3) := by decide +kernel
theorem dJ2_compress_5af95_32 : decode cJ2_compress_5af95 32 = .ok (.iload 5, 2) := by decide +kernel
theorem dJ2_compress_5af95_34 : decode cJ2_compress_5af95 34 = .ok (.ireturn, 1) := by decide +kernel
theorem dJ2_compress_5af95_35 : decode cJ2_compress_5af95 35 = .ok (.aload_n 2, 1) := by decide +kernel
theorem dJ2_compress_5af95_36 : decode cJ2_compress_5af95 36 = .ok (.iload_n 3, 1) := by decide +kernel
theorem dJ2_compress_5af95_37 : decode cJ2_compress_5af95 37 = .ok (.iload 6, 2) := by decide +kernel
theorem dJ2_compress_5af95_39 : decode cJ2_compress_5af95 39 = .ok (.i2b, 1) := by decide +kernel
theorem dJ2_compress_5af95_40 : decode cJ2_compress_5af95 40 = .ok (.bastore, 1) := by decide +kernel
theorem dJ2_compress_5af95_41 : decode cJ2_compress_5af95 41 = .ok (.iinc 1 1, 3) := by decide +kernel
theorem dJ2_compress_5af95_44 : decode cJ2_compress_5af95 44 = .ok (.iinc 3 1, 3) := by decide +kernel
theorem dJ2_compress_5af95_47 : decode cJ2_compress_5af95 47 = .ok (.iinc 5 1, 3) := by decide +kernel
theorem dJ2_compress_5af95_50 : decode cJ2_compress_5af95 50 = .ok (.goto (-40), 3) := by decide +kernel
theorem dJ2_compress_5af95_53 : decode cJ2_compress_5af95 53 = .ok (.iload 4, 2) := by decide +kernel
theorem dJ2_compress_5af95_55 : decode cJ2_compress_5af95 55 = .ok (.ireturn, 1) := by decide +kernel
theorem dJ2_fillNull_b72d1_0 : decode cJ2_fillNull_b72d1 0 = .ok (.aload_n 0, 1) := by decide +kernel
theorem dJ2_fillNull_b72d1_1 : decode cJ2_fillNull_b72d1 1 = .ok (.iload_n 1, 1) := by decide +kernel
theorem dJ2_fillNull_b72d1_2 : decode cJ2_fillNull_b72d1 2 = .ok (.iconst 1, 1) := by decide +kernel
theorem dJ2_fillNull_b72d1_3 : decode cJ2_fillNull_b72d1 3 = .ok (.ishl, 1) := by decide +kernel
theorem dJ2_fillNull_b72d1_4 : decode cJ2_fillNull_b72d1 4 = .ok (.iload_n 2, 1) := by decide +kernel
theorem dJ2_fillNull_b72d1_5 : decode cJ2_fillNull_b72d1 5 = .ok (.iconst 1, 1) := by decide +kernel
theorem dJ2_fillNull_b72d1_6 : decode cJ2_fillNull_b72d1 6 = .ok (.ishl, 1) := by decide +kernel
theorem dJ2_fillNull_b72d1_7 : decode cJ2_fillNull_b72d1 7 = .ok (.iconst 0, 1) := by decide +kernel
theorem dJ2_fillNull_b72d1_8 : decode cJ2_fillNull_b72d1 8 = .ok (.invokestatic 380, 3) := by decide +kernel
theorem dJ2_fillNull_b72d1_11 : decode cJ2_fillNull_b72d1 11 = .ok (.return_, 1) := by decide +kernel
theorem dJ2_putCharSB_b72d1_0 : decode cJ2_putCharSB_b72d1 0 = .ok (.iload_n 1, 1) := by decide +kernel
theorem dJ2_putCharSB_b72d1_1 : decode cJ2_putCharSB_b72d1 1 = .ok (.aload_n 0, 1) := by decide +kernel
theorem dJ2_putCharSB_b72d1_2 : decode cJ2_putCharSB_b72d1 2 = .ok (.invokestatic 67, 3) := by decide +kernel
theorem dJ2_putCharSB_b72d1_5 : decode cJ2_putCharSB_b72d1 5 = .ok (.aload_n 0, 1) := by decide +kernel
theorem dJ2_putCharSB_b72d1_6 : decode cJ2_putCharSB_b72d1 6 = .ok (.iload_n 1, 1) := by decide +kernel
theorem dJ2_putCharSB_b72d1_7 : decode cJ2_putCharSB_b72d1 7 = .ok (.iload_n 2, 1) := by decide +kernel
theorem dJ2_putCharSB_b72d1_8 : decode cJ2_putCharSB_b72d1 8 = .ok (.invokestatic 111, 3) := by decide +kernel
theorem dJ2_putCharSB_b72d1_11 : decode cJ2_putCharSB_b72d1 11 = .ok (.return_, 1) := by decide +kernel
theorem dJ2_getChars_46870_0 : decode cJ2_getChars_46870 0 = .ok (.iload_n 1, 1) := by decide +kernel
theorem dJ2_getChars_46870_1 : decode cJ2_getChars_46870 1 = .ok (.iload_n 2, 1) := by decide +kernel
theorem dJ2_getChars_46870_2 : decode cJ2_getChars_46870 2 = .ok (.aload_n 3, 1) := by decide +kernel
theorem dJ2_getChars_46870_3 : decode cJ2_getChars_46870 3 = .ok (.invokestatic 96, 3) := by decide +kernel
theorem dJ2_getChars_46870_6 : decode cJ2_getChars_46870 6 = .ok (.iload_n 0, 1) := by decide +kernel
theorem dJ2_getChars_46870_7 : decode cJ2_getChars_46870 7 = .ok (.iload_n 2, 1) := by decide +kernel
theorem dJ2_getChars_46870_8 : decode cJ2_getChars_46870 8 = .ok (.aload_n 3, 1) := by decide +kernel
theorem dJ2_getChars_46870_9 : decode cJ2_getChars_46870 9 = .ok (.invokestatic 393, 3) := by decide +kernel
theorem dJ2_getChars_46870_12 : decode cJ2_getChars_46870 12 = .ok (.istore 4, 2) := by decide +kernel
theorem dJ2_getChars_46870_14 : decode cJ2_getChars_46870 14 = .ok (.getstatic 44, 3) := by decide +kernel
theorem dJ2_getChars_46870_17 : decode cJ2_getChars_46870 17 = .ok (.ifCond .ne 17, 3) := by decide +kernel
theorem dJ2_getChars_46870_20 : decode cJ2_getChars_46870 20 = .ok (.iload_n 1, 1) := by decide +kernel
theorem dJ2_getChars_46870_21 : decode cJ2_getChars_46870 21 = .ok (.iload 4, 2) := by decide +kernel
theorem dJ2_getChars_46870_23 : decode cJ2_getChars_46870 23 = .ok (.if_icmp .eq 11, 3) := by decide +kernel
theorem dJ2_getChars_46870_26 : decode cJ2_getChars_46870 26 = .ok (.new 52, 3) := by decide +kernel
theorem dJ2_getChars_46870_29 : decode cJ2_getChars_46870 29 = .ok (.dup, 1) := by decide +kernel
theorem dJ2_getChars_46870_30 : decode cJ2_getChars_46870 30 = .ok (.invokespecial 66, 3) := by decide +kernel
theorem dJ2_getChars_46870_33 : decode cJ2_getChars_46870 33 = .ok (.athrow, 1) := by decide +kernel
theorem dJ2_getChars_46870_34 : decode cJ2_getChars_46870 34 = .ok (.iload 4, 2) := by decide +kernel
theorem dJ2_getChars_46870_36 : decode cJ2_getChars_46870 36 = .ok (.ireturn, 1) := by decide +kernel
theorem dJ2_putCharsAt_cd4e5_0 : decode cJ2_putCharsAt_cd4e5 0 = .ok (.iload_n 1, 1) := by decide +kernel
theorem dJ2_putCharsAt_cd4e5_1 : decode cJ2_putCharsAt_cd4e5 1 = .ok (.iconst 4, 1) := by decide +kernel
theorem dJ2_putCharsAt_cd4e5_2 : decode cJ2_putCharsAt_cd4e5 2 = .ok (.iadd, 1) := by decide +kernel
theorem dJ2_putCharsAt_cd4e5_3 : decode cJ2_putCharsAt_cd4e5 3 = .ok (.istore 6, 2) := by decide +kernel
theorem dJ2_putCharsAt_cd4e5_5 : decode cJ2_putCharsAt_cd4e5 5 = .ok (.iload_n 1, 1) := by decide +kernel
theorem dJ2_putCharsAt_cd4e5_6 : decode cJ2_putCharsAt_cd4e5 6 = .ok (.iload 6, 2) := by decide +kernel
theorem dJ2_putCharsAt_cd4e5_8 : decode cJ2_putCharsAt_cd4e5 8 = .ok (.aload_n 0, 1) := by decide +kernel
theorem dJ2_putCharsAt_cd4e5_9 : decode cJ2_putCharsAt_cd4e5 9 = .ok (.invokestatic 96, 3) := by decide +kernel
theorem dJ2_putCharsAt_cd4e5_12 : decode cJ2_putCharsAt_cd4e5 12 = .ok (.aload_n 0, 1) := by decide +kernel
theorem dJ2_putCharsAt_cd4e5_13 : decode cJ2_putCharsAt_cd4e5 13 = .ok (.iload_n 1, 1) := by decide +kernel
theorem dJ2_putCharsAt_cd4e5_14 : decode cJ2_putCharsAt_cd4e5 14 = .ok (.iinc 1 1, 3) := by decide +kernel
theorem dJ2_putCharsAt_cd4e5_17 : decode cJ2_putCharsAt_cd4e5 17 = .ok (.iload_n 2, 1) := by decide +kernel
theorem dJ2_putCharsAt_cd4e5_18 : decode cJ2_putCharsAt_cd4e5 18 = .ok (.invokestatic 111, 3) := by decide +kernel
theorem dJ2_putCharsAt_cd4e5_21 : decode cJ2_putCharsAt_cd4e5 21 = .ok (.aload_n 0, 1) := by decide +kernel
theorem dJ2_putCharsAt_cd4e5_22 : decode cJ2_putCharsAt_cd4e5 22 = .ok (.iload_n 1, 1) := by decide +kernel
theorem dJ2_putCharsAt_cd4e5_23 : decode cJ2_putCharsAt_cd4e5 23 = .ok (.iinc 1 1, 3) := by decide +kernel
theorem dJ2_putCharsAt_cd4e5_26 : decode cJ2_putCharsAt_cd4e5 26 = .ok (.iload_n 3, 1) := by decide +kernel
theorem dJ2_putCharsAt_cd4e5_27 : decode cJ2_putCharsAt_cd4e5 27 = .ok (.invokestatic 111, 3) := by decide +kernel
theorem dJ2_putCharsAt_cd4e5_30 : decode cJ2_putCharsAt_cd4e5 30 = .ok (.aload_n 0, 1) := by decide +kernel
theorem dJ2_putCharsAt_cd4e5_31 : decode cJ2_putCharsAt_cd4e5 31 = .ok (.iload_n 1, 1) := by decide +kernel
theorem dJ2_putCharsAt_cd4e5_32 : decode cJ2_putCharsAt_cd4e5 32 = .ok (.iinc 1 1, 3) := by decide +kernel
theorem dJ2_putCharsAt_cd4e5_35 : decode cJ2_putCharsAt_cd4e5 35 = .ok (.iload 4, 2) := by decide +kernel
theorem dJ2_putCharsAt_cd4e5_37 : decode cJ2_putCharsAt_cd4e5 37 = .ok (.invokestatic 111, 3) := by decide +kernel
theorem dJ2_putCharsAt_cd4e5_40 : decode cJ2_putCharsAt_cd4e5 40 = .ok (.aload_n 0, 1) := by decide +kernel
theorem dJ2_putCharsAt_cd4e5_41 : decode cJ2_putCharsAt_cd4e5 41 = .ok (.iload_n 1, 1) := by decide +kernel
theorem dJ2_putCharsAt_cd4e5_42 : decode cJ2_putCharsAt_cd4e5 42 = .ok (.iinc 1 1, 3) := by decide +kernel
theorem dJ2_putCharsAt_cd4e5_45 : decode cJ2_putCharsAt_cd4e5 45 = .ok (.iload 5, 2) := by decide +kernel
theorem dJ2_putCharsAt_cd4e5_47 : decode cJ2_putCharsAt_cd4e5 47 = .ok (.invokestatic 111, 3) := by decide +kernel
theorem dJ2_putCharsAt_cd4e5_50 : decode cJ2_putCharsAt_cd4e5 50 = .ok (.getstatic 44, 3) := by decide +kernel
theorem dJ2_putCharsAt_cd4e5_53 : decode cJ2_putCharsAt_cd4e5 53 = .ok (.ifCond .ne 17, 3) := by decide +kernel
theorem dJ2_putCharsAt_cd4e5_56 : decode cJ2_putCharsAt_cd4e5 56 = .ok (.iload_n 1, 1) := by decide +kernel
theorem dJ2_putCharsAt_cd4e5_57 : decode cJ2_putCharsAt_cd4e5 57 = .ok (.iload 6, 2) := by decide +kernel
theorem dJ2_putCharsAt_cd4e5_59 : decode cJ2_putCharsAt_cd4e5 59 = .ok (.if_icmp .eq 11, 3) := by decide +kernel
theorem dJ2_putCharsAt_cd4e5_62 : decode cJ2_putCharsAt_cd4e5 62 = .ok (.new 52, 3) := by decide +kernel
theorem dJ2_putCharsAt_cd4e5_65 : decode cJ2_putCharsAt_cd4e5 65 = .ok (.dup, 1) := by decide +kernel
theorem dJ2_putCharsAt_cd4e5_66 : decode cJ2_putCharsAt_cd4e5 66 = .ok (.invokespecial 66, 3) := by decide +kernel
theorem dJ2_putCharsAt_cd4e5_69 : decode cJ2_putCharsAt_cd4e5 69 = .ok (.athrow, 1) := by decide +kernel
theorem dJ2_putCharsAt_cd4e5_70 : decode cJ2_putCharsAt_cd4e5 70 = .ok (.iload 6, 2) := by decide +kernel
theorem dJ2_putCharsAt_cd4e5_72 : decode cJ2_putCharsAt_cd4e5 72 = .ok (.ireturn, 1) := by decide +kernel
theorem dJ2_charAt_3b067_0 : decode cJ2_charAt_3b067 0 = .ok (.iload_n 1, 1) := by decide +kernel
theorem dJ2_charAt_3b067_1 : decode cJ2_charAt_3b067 1 = .ok (.aload_n 0, 1) := by decide +kernel
theorem dJ2_charAt_3b067_2 : decode cJ2_charAt_3b067 2 = .ok (.invokestatic 67, 3) := by decide +kernel
theorem dJ2_charAt_3b067_5 : decode cJ2_charAt_3b067 5 = .ok (.aload_n 0, 1) := by decide +kernel
theorem dJ2_charAt_3b067_6 : decode cJ2_charAt_3b067 6 = .ok (.iload_n 1, 1) := by decide +kernel
theorem dJ2_charAt_3b067_7 : decode cJ2_charAt_3b067 7 = .ok (.invokestatic 71, 3) := by decide +kernel
theorem dJ2_charAt_3b067_10 : decode cJ2_charAt_3b067 10 = .ok (.ireturn, 1) := by decide +kernel
theorem dJ2_inflate_0e8fd_0 : decode cJ2_inflate_0e8fd 0 = .ok (.iload_n 3, 1) := by decide +kernel
theorem dJ2_inflate_0e8fd_1 : decode cJ2_inflate_0e8fd 1 = .ok (.iload 4, 2) := by decide +kernel
theorem dJ2_inflate_0e8fd_3 : decode cJ2_inflate_0e8fd 3 = .ok (.aload_n 2, 1) := by decide +kernel
theorem dJ2_inflate_0e8fd_4 : decode cJ2_inflate_0e8fd 4 = .ok (.invokestatic 173, 3) := by decide +kernel
theorem dJ2_inflate_0e8fd_7 : decode cJ2_inflate_0e8fd 7 = .ok (.iconst 0, 1) := by decide +kernel
theorem dJ2_inflate_0e8fd_8 : decode cJ2_inflate_0e8fd 8 = .ok (.istore 5, 2) := by decide +kernel
theorem dJ2_inflate_0e8fd_10 : decode cJ2_inflate_0e8fd 10 = .ok (.iload 5, 2) := by decide +kernel
theorem dJ2_inflate_0e8fd_12 : decode cJ2_inflate_0e8fd 12 = .ok (.iload 4, 2) := by decide +kernel
theorem dJ2_inflate_0e8fd_14 : decode cJ2_inflate_0e8fd 14 = .ok (.if_icmp .ge 27, 3) := by decide +kernel
theorem dJ2_inflate_0e8fd_17 : decode cJ2_inflate_0e8fd 17 = .ok (.aload_n 2, 1) := by decide +kernel
theorem dJ2_inflate_0e8fd_18 : decode cJ2_inflate_0e8fd 18 = .ok (.iload_n 3, 1) := by decide +kernel
theorem dJ2_inflate_0e8fd_19 : decode cJ2_inflate_0e8fd 19 = .ok (.iinc 3 1, 3) := by decide +kernel
theorem dJ2_inflate_0e8fd_22 : decode cJ2_inflate_0e8fd 22 = .ok (.aload_n 0, 1) := by decide +kernel
theorem dJ2_inflate_0e8fd_23 : decode cJ2_inflate_0e8fd 23 = .ok (.iload_n 1, 1) := by decide +kernel
theorem dJ2_inflate_0e8fd_24 : decode cJ2_inflate_0e8fd 24 = .ok (.iinc 1 1, 3) := by decide +kernel
theorem dJ2_inflate_0e8fd_27 : decode cJ2_inflate_0e8fd 27 = .ok (.baload, 1) := by decide +kernel
theorem dJ2_inflate_0e8fd_28 : decode cJ2_inflate_0e8fd 28 = .ok (.sipush 255, 3) := by decide +kernel
theorem dJ2_inflate_0e8fd_31 : decode cJ2_inflate_0e8fd 31 = .ok (.iand, 1) := by decide +kernel
theorem dJ2_inflate_0e8fd_32 : decode cJ2_inflate_0e8fd 32 = .ok (.invokestatic 111, 3) := by decide +kernel
theorem dJ2_inflate_0e8fd_35 : decode cJ2_inflate_0e8fd 35 = .ok (.iinc 5 1, 3) := by decide +kernel
theorem dJ2_inflate_0e8fd_38 : decode cJ2_inflate_0e8fd 38 = .ok (.goto (-28), 3) := by decide +kernel
theorem dJ2_inflate_0e8fd_41 : decode cJ2_inflate_0e8fd 41 = .ok (.return_, 1) := by decide +kernel
theorem dJ2_getChars_ba4f3_0 : decode cJ2_getChars_ba4f3 0 = .ok (.iload_n 1, 1) := by decide +kernel
theorem dJ2_getChars_ba4f3_1 : decode cJ2_getChars_ba4f3 1 = .ok (.istore 5, 2) := by decide +kernel
theorem dJ2_getChars_ba4f3_3 : decode cJ2_getChars_ba4f3 3 = .ok (.iload_n 0, 1) := by decide +kernel
theorem dJ2_getChars_ba4f3_4 : decode cJ2_getChars_ba4f3 4 = .ok (.ifCond .ge 7, 3) := by decide +kernel
theorem dJ2_getChars_ba4f3_7 : decode cJ2_getChars_ba4f3 7 = .ok (.iconst 1, 1) := by decide +kernel
theorem dJ2_getChars_ba4f3_8 : decode cJ2_getChars_ba4f3 8 = .ok (.goto 4, 3) := by decide +kernel
theorem dJ2_getChars_ba4f3_11 : decode cJ2_getChars_ba4f3 11 = .ok (.iconst 0, 1) := by decide +kernel
theorem dJ2_getChars_ba4f3_12 : decode cJ2_getChars_ba4f3 12 = .ok (.istore 6, 2) := by decide +kernel
theorem dJ2_getChars_ba4f3_14 : decode cJ2_getChars_ba4f3 14 = .ok (.iload 6, 2) := by decide +kernel
theorem dJ2_getChars_ba4f3_16 : decode cJ2_getChars_ba4f3 16 = .ok (.ifCond .ne 6, 3) := by decide +kernel
theorem dJ2_getChars_ba4f3_19 : decode cJ2_getChars_ba4f3 19 = .ok (.iload_n 0, 1) := by decide +kernel
theorem dJ2_getChars_ba4f3_20 : decode cJ2_getChars_ba4f3 20 = .ok (.ineg, 1) := by decide +kernel
theorem dJ2_getChars_ba4f3_21 : decode cJ2_getChars_ba4f3 21 = .ok (.istore_n 0, 1) := by decide +kernel
theorem dJ2_getChars_ba4f3_22 : decode cJ2_getChars_ba4f3 22 = .ok (.iload_n 0, 1) := by decide +kernel
theorem dJ2_getChars_ba4f3_23 : decode cJ2_getChars_ba4f3 23 = .ok (.bipush (-100), 2) := by decide +kernel
theorem dJ2_getChars_ba4f3_25 : decode cJ2_getChars_ba4f3 25 = .ok (.if_icmp .gt 51, 3) := by decide +kernel
theorem dJ2_getChars_ba4f3_28 : decode cJ2_getChars_ba4f3 28 = .ok (.iload_n 0, 1) := by decide +kernel
theorem dJ2_getChars_ba4f3_29 : decode cJ2_getChars_ba4f3 29 = .ok (.bipush 100, 2) := by decide +kernel
theorem dJ2_getChars_ba4f3_31 : decode cJ2_getChars_ba4f3 31 = .ok (.idiv, 1) := by decide +kernel
theorem dJ2_getChars_ba4f3_32 : decode cJ2_getChars_ba4f3 32 = .ok (.istore_n 3, 1) := by decide +kernel
theorem dJ2_getChars_ba4f3_33 : decode cJ2_getChars_ba4f3 33 = .ok (.iload_n 3, 1) := by decide +kernel
theorem dJ2_getChars_ba4f3_34 : decode cJ2_getChars_ba4f3 34 = .ok (.bipush 100, 2) := by decide +kernel
theorem dJ2_getChars_ba4f3_36 : decode cJ2_getChars_ba4f3 36 = .ok (.imul, 1) := by decide +kernel
theorem dJ2_getChars_ba4f3_37 : decode cJ2_getChars_ba4f3 37 = .ok (.iload_n 0, 1) := by decide +kernel
theorem dJ2_getChars_ba4f3_38 : decode cJ2_getChars_ba4f3 38 = .ok (.isub, 1) := by decide +kernel
theorem dJ2_getChars_ba4f3_39 : decode cJ2_getChars_ba4f3 39 = .ok (.istore 4, 2) := by decide +kernel
theorem dJ2_getChars_ba4f3_41 : decode cJ2_getChars_ba4f3 41 = .ok (.iload_n 3, 1) := by decide +kernel
theorem dJ2_getChars_ba4f3_42 : decode cJ2_getChars_ba4f3 42 = .ok (.istore_n 0, 1) := by decide +kernel
theorem dJ2_getChars_ba4f3_43 : decode cJ2_getChars_ba4f3 43 = .ok (.aload_n 2, 1) := by decide +kernel
theorem dJ2_getChars_ba4f3_44 : decode cJ2_getChars_ba4f3 44 = .ok (.iinc 5 (-1), 3) := by decide +kernel
theorem dJ2_getChars_ba4f3_47 : decode cJ2_getChars_ba4f3 47 = .ok (.iload 5, 2) := by decide +kernel
theorem dJ2_getChars_ba4f3_49 : decode cJ2_getChars_ba4f3 49 = .ok (.getstatic 403, 3) := by decide +kernel
theorem dJ2_getChars_ba4f3_52 : decode cJ2_getChars_ba4f3 52 = .ok (.iload 4, 2) := by decide +kernel
theorem dJ2_getChars_ba4f3_54 : decode cJ2_getChars_ba4f3 54 = .ok (.baload, 1) := by decide +kernel
theorem dJ2_getChars_ba4f3_55 : decode cJ2_getChars_ba4f3 55 = .ok (.invokestatic 111, 3) := by decide +kernel
theorem dJ2_getChars_ba4f3_58 : decode cJ2_getChars_ba4f3 58 = .ok (.aload_n 2, 1) := by decide +kernel
theorem dJ2_getChars_ba4f3_59 : decode cJ2_getChars_ba4f3 59 = .ok (.iinc 5 (-1), 3) := by decide +kernel
theorem dJ2_getChars_ba4f3_62 : decode cJ2_getChars_ba4f3 62 = .ok (.iload 5, 2) := by decide +kernel
theorem dJ2_getChars_ba4f3_64 : decode cJ2_getChars_ba4f3 64 = .ok (.getstatic 407, 3) := by decide +kernel
theorem dJ2_getChars_ba4f3_67 : decode cJ2_getChars_ba4f3 67 = .ok (.iload 4, 2) := by decide +kernel
theorem dJ2_getChars_ba4f3_69 : decode cJ2_getChars_ba4f3 69 = .ok (.baload, 1) := by decide +kernel
theorem dJ2_getChars_ba4f3_70 : decode cJ2_getChars_ba4f3 70 = .ok (.invokestatic 111, 3) := by decide +kernel
theorem dJ2_getChars_ba4f3_73 : decode cJ2_getChars_ba4f3 73 = .ok (.goto (-51), 3) := by decide +kernel
theorem dJ2_getChars_ba4f3_76 : decode cJ2_getChars_ba4f3 76 = .ok (.aload_n 2, 1) := by decide +kernel
theorem dJ2_getChars_ba4f3_77 : decode cJ2_getChars_ba4f3 77 = .ok (.iinc 5 (-1), 3) := by decide +kernel
theorem dJ2_getChars_ba4f3_80 : decode cJ2_getChars_ba4f3 80 = .ok (.iload 5, 2) := by decide +kernel
theorem dJ2_getChars_ba4f3_82 : decode cJ2_getChars_ba4f3 82 = .ok (.getstatic 403, 3) := by decide +kernel
theorem dJ2_getChars_ba4f3_85 : decode cJ2_getChars_ba4f3 85 = .ok (.iload_n 0, 1) := by decide +kernel
theorem dJ2_getChars_ba4f3_86 : decode cJ2_getChars_ba4f3 86 = .ok (.ineg, 1) := by decide +kernel
theorem dJ2_getChars_ba4f3_87 : decode cJ2_getChars_ba4f3 87 = .ok (.baload, 1) := by decide +kernel
theorem dJ2_getChars_ba4f3_88 : decode cJ2_getChars_ba4f3 88 = .ok (.invokestatic 111, 3) := by decide +kernel
theorem dJ2_getChars_ba4f3_91 : decode cJ2_getChars_ba4f3 91 = .ok (.iload_n 0, 1) := by decide +kernel
theorem dJ2_getChars_ba4f3_92 : decode cJ2_getChars_ba4f3 92 = .ok (.bipush (-9), 2) := by decide +kernel
theorem dJ2_getChars_ba4f3_94 : decode cJ2_getChars_ba4f3 94 = .ok (.if_icmp .ge 18, 3) := by decide +kernel
theorem dJ2_getChars_ba4f3_97 : decode cJ2_getChars_ba4f3 97 = .ok (.aload_n 2, 1) := by decide +kernel
theorem dJ2_getChars_ba4f3_98 : decode cJ2_getChars_ba4f3 98 = .ok (.iinc 5 (-1), 3) := by decide +kernel
theorem dJ2_getChars_ba4f3_101 : decode cJ2_getChars_ba4f3 101 = .ok (.iload 5, 2) := by decide +kernel
theorem dJ2_getChars_ba4f3_103 : decode cJ2_getChars_ba4f3 103 = .ok (.getstatic 407, 3) := by decide +kernel
theorem dJ2_getChars_ba4f3_106 : decode cJ2_getChars_ba4f3 106 = .ok (.iload_n 0, 1) := by decide +kernel
theorem dJ2_getChars_ba4f3_107 : decode cJ2_getChars_ba4f3 107 = .ok (.ineg, 1) := by decide +kernel
theorem dJ2_getChars_ba4f3_108 : decode cJ2_getChars_ba4f3 108 = .ok (.baload, 1) := by decide +kernel
theorem dJ2_getChars_ba4f3_109 : decode cJ2_getChars_ba4f3 109 = .ok (.invokestatic 111, 3) := by decide +kernel
theorem dJ2_getChars_ba4f3_112 : decode cJ2_getChars_ba4f3 112 = .ok (.iload 6, 2) := by decide +kernel
theorem dJ2_getChars_ba4f3_114 : decode cJ2_getChars_ba4f3 114 = .ok (.ifCond .eq 14, 3) := by decide +kernel
theorem dJ2_getChars_ba4f3_117 : decode cJ2_getChars_ba4f3 117 = .ok (.aload_n 2, 1) := by decide +kernel
theorem dJ2_getChars_ba4f3_118 : decode cJ2_getChars_ba4f3 118 = .ok (.iinc 5 (-1), 3) := by decide +kernel
theorem dJ2_getChars_ba4f3_121 : decode cJ2_getChars_ba4f3 121 = .ok (.iload 5, 2) := by decide +kernel
theorem dJ2_getChars_ba4f3_123 : decode cJ2_getChars_ba4f3 123 = .ok (.bipush 45, 2) := by decide +kernel
theorem dJ2_getChars_ba4f3_125 : decode cJ2_getChars_ba4f3 125 = .ok (.invokestatic 111, 3) := by decide +kernel
theorem dJ2_getChars_ba4f3_128 : decode cJ2_getChars_ba4f3 128 = .ok (.iload 5, 2) := by decide +kernel
theorem dJ2_getChars_ba4f3_130 : decode cJ2_getChars_ba4f3 130 = .ok (.ireturn, 1) := by decide +kernel
theorem dJ2_checkIndex_2214a_0 : decode cJ2_checkIndex_2214a 0 = .ok (.iload_n 0, 1) := by decide +kernel
theorem dJ2_checkIndex_2214a_1 : decode cJ2_checkIndex_2214a 1 = .ok (.aload_n 1, 1) := by decide +kernel
theorem dJ2_checkIndex_2214a_2 : decode cJ2_checkIndex_2214a 2 = .ok (.invokestatic 48, 3) := by decide +kernel
theorem dJ2_checkIndex_2214a_5 : decode cJ2_checkIndex_2214a 5 = .ok (.invokestatic 414, 3) := by decide +kernel
theorem dJ2_checkIndex_2214a_8 : decode cJ2_checkIndex_2214a 8 = .ok (.return_, 1) := by decide +kernel
theorem dJ2_checkBoundsBeginEnd_d044e_0 : decode cJ2_checkBoundsBeginEnd_d044e 0 = .ok (.iload_n 0, 1) := by decide +kernel
theorem dJ2_checkBoundsBeginEnd_d044e_1 : decode cJ2_checkBoundsBeginEnd_d044e 1 = .ok (.iload_n 1, 1) := by decide +kernel
theorem dJ2_checkBoundsBeginEnd_d044e_2 : decode cJ2_checkBoundsBeginEnd_d044e 2 = .ok (.aload_n 2, 1) := by decide +kernel
theorem dJ2_checkBoundsBeginEnd_d044e_3 : decode cJ2_checkBoundsBeginEnd_d044e 3 = .ok (.invokestatic 48, 3) := by decide +kernel
theorem dJ2_checkBoundsBeginEnd_d044e_6 : decode cJ2_checkBoundsBeginEnd_d044e 6 = .ok (.invokestatic 241, 3) := by decide +kernel
theorem dJ2_checkBoundsBeginEnd_d044e_9 : decode cJ2_checkBoundsBeginEnd_d044e 9 = .ok (.return_, 1) := by decide +kernel
theorem dJ2_checkBoundsOffCount_d044e_0 : decode cJ2_checkBoundsOffCount_d044e 0 = .ok (.iload_n 0, 1) := by decide +kernel
theorem dJ2_checkBoundsOffCount_d044e_1 : decode cJ2_checkBoundsOffCount_d044e 1 = .ok (.iload_n 1, 1) := by decide +kernel
theorem dJ2_checkBoundsOffCount_d044e_2 : decode cJ2_checkBoundsOffCount_d044e 2 = .ok (.aload_n 2, 1) := by decide +kernel
theorem dJ2_checkBoundsOffCount_d044e_3 : decode cJ2_checkBoundsOffCount_d044e 3 = .ok (.invokestatic 48, 3) := by decide +kernel
theorem dJ2_checkBoundsOffCount_d044e_6 : decode cJ2_checkBoundsOffCount_d044e 6 = .ok (.invokestatic 419, 3) := by decide +kernel
theorem dJ2_checkBoundsOffCount_d044e_9 : decode cJ2_checkBoundsOffCount_d044e 9 = .ok (.pop, 1) := by decide +kernel
theorem dJ2_checkBoundsOffCount_d044e_10 : decode cJ2_checkBoundsOffCount_d044e 10 = .ok (.return_, 1) := by decide +kernel
theorem dJ7_rangeCheck_23922_0 : decode cJ7_rangeCheck_23922 0 = .ok (.iload_n 1, 1) := by decide +kernel
theorem dJ7_rangeCheck_23922_1 : decode cJ7_rangeCheck_23922 1 = .ok (.iload_n 2, 1) := by decide +kernel
theorem dJ7_rangeCheck_23922_2 : decode cJ7_rangeCheck_23922 2 = .ok (.if_icmp .le 44, 3) := by decide +kernel
theorem dJ7_rangeCheck_23922_5 : decode cJ7_rangeCheck_23922 5 = .ok (.new 43, 3) := by decide +kernel
theorem dJ7_rangeCheck_23922_8 : decode cJ7_rangeCheck_23922 8 = .ok (.dup, 1) := by decide +kernel
theorem dJ7_rangeCheck_23922_9 : decode cJ7_rangeCheck_23922 9 = .ok (.new 45, 3) := by decide +kernel
theorem dJ7_rangeCheck_23922_12 : decode cJ7_rangeCheck_23922 12 = .ok (.dup, 1) := by decide +kernel
theorem dJ7_rangeCheck_23922_13 : decode cJ7_rangeCheck_23922 13 = .ok (.invokespecial 47, 3) := by decide +kernel
theorem dJ7_rangeCheck_23922_16 : decode cJ7_rangeCheck_23922 16 = .ok (.ldc 48, 2) := by decide +kernel
theorem dJ7_rangeCheck_23922_18 : decode cJ7_rangeCheck_23922 18 = .ok (.invokevirtual 50, 3) := by decide +kernel
theorem dJ7_rangeCheck_23922_21 : decode cJ7_rangeCheck_23922 21 = .ok (.iload_n 1, 1) := by decide +kernel
theorem dJ7_rangeCheck_23922_22 : decode cJ7_rangeCheck_23922 22 = .ok (.invokevirtual 54, 3) := by decide +kernel
theorem dJ7_rangeCheck_23922_25 : decode cJ7_rangeCheck_23922 25 = .ok (.ldc 57, 2) := by decide +kernel
theorem dJ7_rangeCheck_23922_27 : decode cJ7_rangeCheck_23922 27 = .ok (.invokevirtual 50, 3) := by decide +kernel
theorem dJ7_rangeCheck_23922_30 : decode cJ7_rangeCheck_23922 30 = .ok (.iload_n 2, 1) := by decide +kernel
theorem dJ7_rangeCheck_23922_31 : decode cJ7_rangeCheck_23922 31 = .ok (.invokevirtual 54, 3) := by decide +kernel
theorem dJ7_rangeCheck_23922_34 : decode cJ7_rangeCheck_23922 34 = .ok (.ldc 59, 2) := by decide +kernel
theorem dJ7_rangeCheck_23922_36 : decode cJ7_rangeCheck_23922 36 = .ok (.invokevirtual 50, 3) := by decide +kernel
theorem dJ7_rangeCheck_23922_39 : decode cJ7_rangeCheck_23922 39 = .ok (.invokevirtual 61, 3) := by decide +kernel
theorem dJ7_rangeCheck_23922_42 : decode cJ7_rangeCheck_23922 42 = .ok (.invokespecial 65, 3) := by decide +kernel
theorem dJ7_rangeCheck_23922_45 : decode cJ7_rangeCheck_23922 45 = .ok (.athrow, 1) := by decide +kernel
theorem dJ7_rangeCheck_23922_46 : decode cJ7_rangeCheck_23922 46 = .ok (.iload_n 1, 1) := by decide +kernel
theorem dJ7_rangeCheck_23922_47 : decode cJ7_rangeCheck_23922 47 = .ok (.ifCond .ge 12, 3) := by decide +kernel
theorem dJ7_rangeCheck_23922_50 : decode cJ7_rangeCheck_23922 50 = .ok (.new 68, 3) := by decide +kernel
theorem dJ7_rangeCheck_23922_53 : decode cJ7_rangeCheck_23922 53 = .ok (.dup, 1) := by decide +kernel
theorem dJ7_rangeCheck_23922_54 : decode cJ7_rangeCheck_23922 54 = .ok (.iload_n 1, 1) := by decide +kernel
theorem dJ7_rangeCheck_23922_55 : decode cJ7_rangeCheck_23922 55 = .ok (.invokespecial 70, 3) := by decide +kernel
theorem dJ7_rangeCheck_23922_58 : decode cJ7_rangeCheck_23922 58 = .ok (.athrow, 1) := by decide +kernel
theorem dJ7_rangeCheck_23922_59 : decode cJ7_rangeCheck_23922 59 = .ok (.iload_n 2, 1) := by decide +kernel
theorem dJ7_rangeCheck_23922_60 : decode cJ7_rangeCheck_23922 60 = .ok (.iload_n 0, 1) := by decide +kernel
theorem dJ7_rangeCheck_23922_61 : decode cJ7_rangeCheck_23922 61 = .ok (.if_icmp .le 12, 3) := by decide +kernel
theorem dJ7_rangeCheck_23922_64 : decode cJ7_rangeCheck_23922 64 = .ok (.new 68, 3) := by decide +kernel
theorem dJ7_rangeCheck_23922_67 : decode cJ7_rangeCheck_23922 67 = .ok (.dup, 1) := by decide +kernel
theorem dJ7_rangeCheck_23922_68 : decode cJ7_rangeCheck_23922 68 = .ok (.iload_n 2, 1) := by decide +kernel
theorem dJ7_rangeCheck_23922_69 : decode cJ7_rangeCheck_23922 69 = .ok (.invokespecial 70, 3) := by decide +kernel
theorem dJ7_rangeCheck_23922_72 : decode cJ7_rangeCheck_23922 72 = .ok (.athrow, 1) := by decide +kernel
theorem dJ7_rangeCheck_23922_73 : decode cJ7_rangeCheck_23922 73 = .ok (.return_, 1) := by decide +kernel
theorem dJ7_fill_53178_0 : decode cJ7_fill_53178 0 = .ok (.iconst 0, 1) := by decide +kernel
theorem dJ7_fill_53178_1 : decode cJ7_fill_53178 1 = .ok (.istore_n 2, 1) := by decide +kernel
theorem dJ7_fill_53178_2 : decode cJ7_fill_53178 2 = .ok (.aload_n 0, 1) := by decide +kernel
theorem dJ7_fill_53178_3 : decode cJ7_fill_53178 3 = .ok (.arraylength, 1) := by decide +kernel
theorem dJ7_fill_53178_4 : decode cJ7_fill_53178 4 = .ok (.istore_n 3, 1) := by decide +kernel
theorem dJ7_fill_53178_5 : decode cJ7_fill_53178 5 = .ok (.iload_n 2, 1) := by decide +kernel
theorem dJ7_fill_53178_6 : decode cJ7_fill_53178 6 = .ok (.iload_n 3, 1) := by decide +kernel
theorem dJ7_fill_53178_7 : decode cJ7_fill_53178 7 = .ok (.if_icmp .ge 13, 3) := by decide +kernel
theorem dJ7_fill_53178_10 : decode cJ7_fill_53178 10 = .ok (.aload_n 0, 1) := by decide +kernel
theorem dJ7_fill_53178_11 : decode cJ7_fill_53178 11 = .ok (.iload_n 2, 1) := by decide +kernel
theorem dJ7_fill_53178_12 : decode cJ7_fill_53178 12 = .ok (.iload_n 1, 1) := by decide +kernel
theorem dJ7_fill_53178_13 : decode cJ7_fill_53178 13 = .ok (.iastore, 1) := by decide +kernel
theorem dJ7_fill_53178_14 : decode cJ7_fill_53178 14 = .ok (.iinc 2 1, 3) := by decide +kernel
theorem dJ7_fill_53178_17 : decode cJ7_fill_53178 17 = .ok (.goto (-12), 3) := by decide +kernel
theorem dJ7_fill_53178_20 : decode cJ7_fill_53178 20 = .ok (.return_, 1) := by decide +kernel
theorem dJ7_fill_eb02e_0 : decode cJ7_fill_eb02e 0 = .ok (.aload_n 0, 1) := by decide +kernel
theorem dJ7_fill_eb02e_1 : decode cJ7_fill_eb02e 1 = .ok (.arraylength, 1) := by decide +kernel
theorem dJ7_fill_eb02e_2 : decode cJ7_fill_eb02e 2 = .ok (.iload_n 1, 1) := by decide +kernel
theorem dJ7_fill_eb02e_3 : decode cJ7_fill_eb02e 3 = .ok (.iload_n 2, 1) := by decide +kernel
theorem dJ7_fill_eb02e_4 : decode cJ7_fill_eb02e 4 = .ok (.invokestatic 13, 3) := by decide +kernel
theorem dJ7_fill_eb02e_7 : decode cJ7_fill_eb02e 7 = .ok (.iload_n 1, 1) := by decide +kernel
theorem dJ7_fill_eb02e_8 : decode cJ7_fill_eb02e 8 = .ok (.istore 4, 2) := by decide +kernel
theorem dJ7_fill_eb02e_10 : decode cJ7_fill_eb02e 10 = .ok (.iload 4, 2) := by decide +kernel
theorem dJ7_fill_eb02e_12 : decode cJ7_fill_eb02e 12 = .ok (.iload_n 2, 1) := by decide +kernel
theorem dJ7_fill_eb02e_13 : decode cJ7_fill_eb02e 13 = .ok (.if_icmp .ge 14, 3) := by decide +kernel
theorem dJ7_fill_eb02e_16 : decode cJ7_fill_eb02e 16 = .ok (.aload_n 0, 1) := by decide +kernel
theorem dJ7_fill_eb02e_17 : decode cJ7_fill_eb02e 17 = .ok (.iload 4, 2) := by decide +kernel
theorem dJ7_fill_eb02e_19 : decode cJ7_fill_eb02e 19 = .ok (.iload_n 3, 1) := by decide +kernel
theorem dJ7_fill_eb02e_20 : decode cJ7_fill_eb02e 20 = .ok (.bastore, 1) := by decide +kernel
theorem dJ7_fill_eb02e_21 : decode cJ7_fill_eb02e 21 = .ok (.iinc 4 1, 3) := by decide +kernel
theorem dJ7_fill_eb02e_24 : decode cJ7_fill_eb02e 24 = .ok (.goto (-14), 3) := by decide +kernel
theorem dJ7_fill_eb02e_27 : decode cJ7_fill_eb02e 27 = .ok (.return_, 1) := by decide +kernel
theorem dJ7_copyOf_9075b_0 : decode cJ7_copyOf_9075b 0 = .ok (.iload_n 1, 1) := by decide +kernel
theorem dJ7_copyOf_9075b_1 : decode cJ7_copyOf_9075b 1 = .ok (.aload_n 0, 1) := by decide +kernel
theorem dJ7_copyOf_9075b_2 : decode cJ7_copyOf_9075b 2 = .ok (.arraylength, 1) := by decide +kernel
theorem dJ7_copyOf_9075b_3 : decode cJ7_copyOf_9075b 3 = .ok (.if_icmp .ne 11, 3) := by decide +kernel
theorem dJ7_copyOf_9075b_6 : decode cJ7_copyOf_9075b 6 = .ok (.aload_n 0, 1) := by decide +kernel
theorem dJ7_copyOf_9075b_7 : decode cJ7_copyOf_9075b 7 = .ok (.invokevirtual 310, 3) := by decide +kernel
theorem dJ7_copyOf_9075b_10 : decode cJ7_copyOf_9075b 10 = .ok (.checkcast 311, 3) := by decide +kernel
theorem dJ7_copyOf_9075b_13 : decode cJ7_copyOf_9075b 13 = .ok (.areturn, 1) := by decide +kernel
theorem dJ7_copyOf_9075b_14 : decode cJ7_copyOf_9075b 14 = .ok (.iload_n 1, 1) := by decide +kernel
theorem dJ7_copyOf_9075b_15 : decode cJ7_copyOf_9075b 15 = .ok (.newarray .byte, 2) := by decide +kernel
theorem dJ7_copyOf_9075b_17 : decode cJ7_copyOf_9075b 17 = .ok (.astore_n 2, 1) := by decide +kernel
theorem dJ7_copyOf_9075b_18 : decode cJ7_copyOf_9075b 18 = .ok (.aload_n 0, 1) := by decide +kernel
theorem dJ7_copyOf_9075b_19 : decode cJ7_copyOf_9075b 19 = .ok (.iconst 0, 1) := by decide +kernel
theorem dJ7_copyOf_9075b_20 : decode cJ7_copyOf_9075b 20 = .ok (.aload_n 2, 1) := by decide +kernel
theorem dJ7_copyOf_9075b_21 : decode cJ7_copyOf_9075b 21 = .ok (.iconst 0, 1) := by decide +kernel
theorem dJ7_copyOf_9075b_22 : decode cJ7_copyOf_9075b 22 = .ok (.aload_n 0, 1) := by decide +kernel
theorem dJ7_copyOf_9075b_23 : decode cJ7_copyOf_9075b 23 = .ok (.arraylength, 1) := by decide +kernel
theorem dJ7_copyOf_9075b_24 : decode cJ7_copyOf_9075b 24 = .ok (.iload_n 1, 1) := by decide +kernel
theorem dJ7_copyOf_9075b_25 : decode cJ7_copyOf_9075b 25 = .ok (.invokestatic 304, 3) := by decide +kernel
theorem dJ7_copyOf_9075b_28 : decode cJ7_copyOf_9075b 28 = .ok (.invokestatic 150, 3) := by decide +kernel
theorem dJ7_copyOf_9075b_31 : decode cJ7_copyOf_9075b 31 = .ok (.aload_n 2, 1) := by decide +kernel
theorem dJ7_copyOf_9075b_32 : decode cJ7_copyOf_9075b 32 = .ok (.areturn, 1) := by decide +kernel
theorem dJ7_checkLength_df160_0 : decode cJ7_checkLength_df160 0 = .ok (.iload_n 1, 1) := by decide +kernel
theorem dJ7_checkLength_df160_1 : decode cJ7_checkLength_df160 1 = .ok (.iload_n 0, 1) := by decide +kernel
theorem dJ7_checkLength_df160_2 : decode cJ7_checkLength_df160 2 = .ok (.if_icmp .ge 35, 3) := by decide +kernel
theorem dJ7_checkLength_df160_5 : decode cJ7_checkLength_df160 5 = .ok (.new 43, 3) := by decide +kernel
theorem dJ7_checkLength_df160_8 : decode cJ7_checkLength_df160 8 = .ok (.dup, 1) := by decide +kernel
theorem dJ7_checkLength_df160_9 : decode cJ7_checkLength_df160 9 = .ok (.new 45, 3) := by decide +kernel
theorem dJ7_checkLength_df160_12 : decode cJ7_checkLength_df160 12 = .ok (.dup, 1) := by decide +kernel
theorem dJ7_checkLength_df160_13 : decode cJ7_checkLength_df160 13 = .ok (.invokespecial 47, 3) := by decide +kernel
theorem dJ7_checkLength_df160_16 : decode cJ7_checkLength_df160 16 = .ok (.iload_n 0, 1) := by decide +kernel
theorem dJ7_checkLength_df160_17 : decode cJ7_checkLength_df160 17 = .ok (.invokevirtual 54, 3) := by decide +kernel
theorem dJ7_checkLength_df160_20 : decode cJ7_checkLength_df160 20 = .ok (.ldc_w 337, 3) := by decide +kernel
theorem dJ7_checkLength_df160_23 : decode cJ7_checkLength_df160 23 = .ok (.invokevirtual 50, 3) := by decide +kernel
theorem dJ7_checkLength_df160_26 : decode cJ7_checkLength_df160 26 = .ok (.iload_n 1, 1) := by decide +kernel
theorem dJ7_checkLength_df160_27 : decode cJ7_checkLength_df160 27 = .ok (.invokevirtual 54, 3) := by decide +kernel
theorem dJ7_checkLength_df160_30 : decode cJ7_checkLength_df160 30 = .ok (.invokevirtual 61, 3) := by decide +kernel
theorem dJ7_checkLength_df160_33 : decode cJ7_checkLength_df160 33 = .ok (.invokespecial 65, 3) := by decide +kernel
theorem dJ7_checkLength_df160_36 : decode cJ7_checkLength_df160 36 = .ok (.athrow, 1) := by decide +kernel
theorem dJ7_checkLength_df160_37 : decode cJ7_checkLength_df160 37 = .ok (.return_, 1) := by decide +kernel
theorem dJ7_copyOfRange_39247_0 : decode cJ7_copyOfRange_39247 0 = .ok (.iload_n 1, 1) := by decide +kernel
theorem dJ7_copyOfRange_39247_1 : decode cJ7_copyOfRange_39247 1 = .ok (.ifCond .ne 9, 3) := by decide +kernel
theorem dJ7_copyOfRange_39247_4 : decode cJ7_copyOfRange_39247 4 = .ok (.iload_n 2, 1) := by decide +kernel
theorem dJ7_copyOfRange_39247_5 : decode cJ7_copyOfRange_39247 5 = .ok (.aload_n 0, 1) := by decide +kernel
theorem dJ7_copyOfRange_39247_6 : decode cJ7_copyOfRange_39247 6 = .ok (.arraylength, 1) := by decide +kernel
theorem dJ7_copyOfRange_39247_7 : decode cJ7_copyOfRange_39247 7 = .ok (.if_icmp .eq 10, 3) := by decide +kernel
theorem dJ7_copyOfRange_39247_10 : decode cJ7_copyOfRange_39247 10 = .ok (.aload_n 0, 1) := by decide +kernel
theorem dJ7_copyOfRange_39247_11 : decode cJ7_copyOfRange_39247 11 = .ok (.iload_n 1, 1) := by decide +kernel
theorem dJ7_copyOfRange_39247_12 : decode cJ7_copyOfRange_39247 12 = .ok (.iload_n 2, 1) := by decide +kernel
theorem dJ7_copyOfRange_39247_13 : decode cJ7_copyOfRange_39247 13 = .ok (.invokestatic 339, 3) := by decide +kernel
theorem dJ7_copyOfRange_39247_16 : decode cJ7_copyOfRange_39247 16 = .ok (.areturn, 1) := by decide +kernel
theorem dJ7_copyOfRange_39247_17 : decode cJ7_copyOfRange_39247 17 = .ok (.aload_n 0, 1) := by decide +kernel
theorem dJ7_copyOfRange_39247_18 : decode cJ7_copyOfRange_39247 18 = .ok (.invokevirtual 310, 3) := by decide +kernel
theorem dJ7_copyOfRange_39247_21 : decode cJ7_copyOfRange_39247 21 = .ok (.checkcast 311, 3) := by decide +kernel
theorem dJ7_copyOfRange_39247_24 : decode cJ7_copyOfRange_39247 24 = .ok (.areturn, 1) := by decide +kernel
theorem dJ7_copyOfRangeByte_39247_0 : decode cJ7_copyOfRangeByte_39247 0 = .ok (.iload_n 1, 1) := by decide +kernel
theorem dJ7_copyOfRangeByte_39247_1 : decode cJ7_copyOfRangeByte_39247 1 = .ok (.iload_n 2, 1) := by decide +kernel
theorem dJ7_copyOfRangeByte_39247_2 : decode cJ7_copyOfRangeByte_39247 2 = .ok (.invokestatic 343, 3) := by decide +kernel
theorem dJ7_copyOfRangeByte_39247_5 : decode cJ7_copyOfRangeByte_39247 5 = .ok (.iload_n 2, 1) := by decide +kernel
theorem dJ7_copyOfRangeByte_39247_6 : decode cJ7_copyOfRangeByte_39247 6 = .ok (.iload_n 1, 1) := by decide +kernel
theorem dJ7_copyOfRangeByte_39247_7 : decode cJ7_copyOfRangeByte_39247 7 = .ok (.isub, 1) := by decide +kernel
theorem dJ7_copyOfRangeByte_39247_8 : decode cJ7_copyOfRangeByte_39247 8 = .ok (.istore_n 3, 1) := by decide +kernel
theorem dJ7_copyOfRangeByte_39247_9 : decode cJ7_copyOfRangeByte_39247 9 = .ok (.iload_n 3, 1) := by decide +kernel
theorem dJ7_copyOfRangeByte_39247_10 : decode cJ7_copyOfRangeByte_39247 10 = .ok (.newarray .byte, 2) := by decide +kernel
theorem dJ7_copyOfRangeByte_39247_12 : decode cJ7_copyOfRangeByte_39247 12 = .ok (.astore 4, 2) := by decide +kernel
theorem dJ7_copyOfRangeByte_39247_14 : decode cJ7_copyOfRangeByte_39247 14 = .ok (.aload_n 0, 1) := by decide +kernel
theorem dJ7_copyOfRangeByte_39247_15 : decode cJ7_copyOfRangeByte_39247 15 = .ok (.iload_n 1, 1) := by decide +kernel
theorem dJ7_copyOfRangeByte_39247_16 : decode cJ7_copyOfRangeByte_39247 16 = .ok (.aload 4, 2) := by decide +kernel
theorem dJ7_copyOfRangeByte_39247_18 : decode cJ7_copyOfRangeByte_39247 18 = .ok (.iconst 0, 1) := by decide +kernel
theorem dJ7_copyOfRangeByte_39247_19 : decode cJ7_copyOfRangeByte_39247 19 = .ok (.aload_n 0, 1) := by decide +kernel
theorem dJ7_copyOfRangeByte_39247_20 : decode cJ7_copyOfRangeByte_39247 20 = .ok (.arraylength, 1) := by decide +kernel
theorem dJ7_copyOfRangeByte_39247_21 : decode cJ7_copyOfRangeByte_39247 21 = .ok (.iload_n 1, 1) := by decide +kernel
theorem dJ7_copyOfRangeByte_39247_22 : decode cJ7_copyOfRangeByte_39247 22 = .ok (.isub, 1) := by decide +kernel
theorem dJ7_copyOfRangeByte_39247_23 : decode cJ7_copyOfRangeByte_39247 23 = .ok (.iload_n 3, 1) := by decide +kernel
theorem dJ7_copyOfRangeByte_39247_24 : decode cJ7_copyOfRangeByte_39247 24 = .ok (.invokestatic 304, 3) := by decide +kernel
theorem dJ7_copyOfRangeByte_39247_27 : decode cJ7_copyOfRangeByte_39247 27 = .ok (.invokestatic 150, 3) := by decide +kernel
theorem dJ7_copyOfRangeByte_39247_30 : decode cJ7_copyOfRangeByte_39247 30 = .ok (.aload 4, 2) := by decide +kernel
theorem dJ7_copyOfRangeByte_39247_32 : decode cJ7_copyOfRangeByte_39247 32 = .ok (.areturn, 1) := by decide +kernel
theorem dJ8_newLength_cabcc_0 : decode cJ8_newLength_cabcc 0 = .ok (.iload_n 0, 1) := by decide +kernel
theorem dJ8_newLength_cabcc_1 : decode cJ8_newLength_cabcc 1 = .ok (.iload_n 1, 1) := by decide +kernel
theorem dJ8_newLength_cabcc_2 : decode cJ8_newLength_cabcc 2 = .ok (.iload_n 2, 1) := by decide +kernel
theorem dJ8_newLength_cabcc_3 : decode cJ8_newLength_cabcc 3 = .ok (.invokestatic 194, 3) := by decide +kernel
theorem dJ8_newLength_cabcc_6 : decode cJ8_newLength_cabcc 6 = .ok (.iadd, 1) := by decide +kernel
theorem dJ8_newLength_cabcc_7 : decode cJ8_newLength_cabcc 7 = .ok (.istore_n 3, 1) := by decide +kernel
theorem dJ8_newLength_cabcc_8 : decode cJ8_newLength_cabcc 8 = .ok (.iconst 0, 1) := by decide +kernel
theorem dJ8_newLength_cabcc_9 : decode cJ8_newLength_cabcc 9 = .ok (.iload_n 3, 1) := by decide +kernel
theorem dJ8_newLength_cabcc_10 : decode cJ8_newLength_cabcc 10 = .ok (.if_icmp .ge 11, 3) := by decide +kernel
theorem dJ8_newLength_cabcc_13 : decode cJ8_newLength_cabcc 13 = .ok (.iload_n 3, 1) := by decide +kernel
theorem dJ8_newLength_cabcc_14 : decode cJ8_newLength_cabcc 14 = .ok (.ldc 200, 2) := by decide +kernel
theorem dJ8_newLength_cabcc_16 : decode cJ8_newLength_cabcc 16 = .ok (.if_icmp .gt 5, 3) := by decide +kernel
theorem dJ8_newLength_cabcc_19 : decode cJ8_newLength_cabcc 19 = .ok (.iload_n 3, 1) := by decide +kernel
theorem dJ8_newLength_cabcc_20 : decode cJ8_newLength_cabcc 20 = .ok (.ireturn, 1) := by decide +kernel
theorem dJ8_newLength_cabcc_21 : decode cJ8_newLength_cabcc 21 = .ok (.iload_n 0, 1) := by decide +kernel
theorem dJ8_newLength_cabcc_22 : decode cJ8_newLength_cabcc 22 = .ok (.iload_n 1, 1) := by decide +kernel
theorem dJ8_newLength_cabcc_23 : decode cJ8_newLength_cabcc 23 = .ok (.invokestatic 201, 3) := by decide +kernel
theorem dJ8_newLength_cabcc_26 : decode cJ8_newLength_cabcc 26 = .ok (.ireturn, 1) := by decide +kernel
theorem dJ8_hugeLength_7cf53_0 : decode cJ8_hugeLength_7cf53 0 = .ok (.iload_n 0, 1) := by decide +kernel
theorem dJ8_hugeLength_7cf53_1 : decode cJ8_hugeLength_7cf53 1 = .ok (.iload_n 1, 1) := by decide +kernel
theorem dJ8_hugeLength_7cf53_2 : decode cJ8_hugeLength_7cf53 2 = .ok (.iadd, 1) := by decide +kernel
theorem dJ8_hugeLength_7cf53_3 : decode cJ8_hugeLength_7cf53 3 = .ok (.istore_n 2, 1) := by decide +kernel
theorem dJ8_hugeLength_7cf53_4 : decode cJ8_hugeLength_7cf53 4 = .ok (.iload_n 2, 1) := by decide +kernel
theorem dJ8_hugeLength_7cf53_5 : decode cJ8_hugeLength_7cf53 5 = .ok (.ifCond .ge 44, 3) := by decide +kernel
theorem dJ8_hugeLength_7cf53_8 : decode cJ8_hugeLength_7cf53 8 = .ok (.new 204, 3) := by decide +kernel
theorem dJ8_hugeLength_7cf53_11 : decode cJ8_hugeLength_7cf53 11 = .ok (.dup, 1) := by decide +kernel
theorem dJ8_hugeLength_7cf53_12 : decode cJ8_hugeLength_7cf53 12 = .ok (.new 89, 3) := by decide +kernel
theorem dJ8_hugeLength_7cf53_15 : decode cJ8_hugeLength_7cf53 15 = .ok (.dup, 1) := by decide +kernel
theorem dJ8_hugeLength_7cf53_16 : decode cJ8_hugeLength_7cf53 16 = .ok (.invokespecial 91, 3) := by decide +kernel
theorem dJ8_hugeLength_7cf53_19 : decode cJ8_hugeLength_7cf53 19 = .ok (.ldc 206, 2) := by decide +kernel
theorem dJ8_hugeLength_7cf53_21 : decode cJ8_hugeLength_7cf53 21 = .ok (.invokevirtual 94, 3) := by decide +kernel
theorem dJ8_hugeLength_7cf53_24 : decode cJ8_hugeLength_7cf53 24 = .ok (.iload_n 0, 1) := by decide +kernel
theorem dJ8_hugeLength_7cf53_25 : decode cJ8_hugeLength_7cf53 25 = .ok (.invokevirtual 98, 3) := by decide +kernel
theorem dJ8_hugeLength_7cf53_28 : decode cJ8_hugeLength_7cf53 28 = .ok (.ldc 208, 2) := by decide +kernel
theorem dJ8_hugeLength_7cf53_30 : decode cJ8_hugeLength_7cf53 30 = .ok (.invokevirtual 94, 3) := by decide +kernel
theorem dJ8_hugeLength_7cf53_33 : decode cJ8_hugeLength_7cf53 33 = .ok (.iload_n 1, 1) := by decide +kernel
theorem dJ8_hugeLength_7cf53_34 : decode cJ8_hugeLength_7cf53 34 = .ok (.invokevirtual 98, 3) := by decide +kernel
theorem dJ8_hugeLength_7cf53_37 : decode cJ8_hugeLength_7cf53 37 = .ok (.ldc 210, 2) := by decide +kernel
theorem dJ8_hugeLength_7cf53_39 : decode cJ8_hugeLength_7cf53 39 = .ok (.invokevirtual 94, 3) := by decide +kernel
theorem dJ8_hugeLength_7cf53_42 : decode cJ8_hugeLength_7cf53 42 = .ok (.invokevirtual 101, 3) := by decide +kernel
theorem dJ8_hugeLength_7cf53_45 : decode cJ8_hugeLength_7cf53 45 = .ok (.invokespecial 212, 3) := by decide +kernel
theorem dJ8_hugeLength_7cf53_48 : decode cJ8_hugeLength_7cf53 48 = .ok (.athrow, 1) := by decide +kernel
theorem dJ8_hugeLength_7cf53_49 : decode cJ8_hugeLength_7cf53 49 = .ok (.iload_n 2, 1) := by decide +kernel
theorem dJ8_hugeLength_7cf53_50 : decode cJ8_hugeLength_7cf53 50 = .ok (.ldc 200, 2) := by decide +kernel
theorem dJ8_hugeLength_7cf53_52 : decode cJ8_hugeLength_7cf53 52 = .ok (.if_icmp .gt 6, 3) := by decide +kernel
theorem dJ8_hugeLength_7cf53_55 : decode cJ8_hugeLength_7cf53 55 = .ok (.ldc 200, 2) := by decide +kernel
theorem dJ8_hugeLength_7cf53_57 : decode cJ8_hugeLength_7cf53 57 = .ok (.ireturn, 1) := by decide +kernel
theorem dJ8_hugeLength_7cf53_58 : decode cJ8_hugeLength_7cf53 58 = .ok (.iload_n 2, 1) := by decide +kernel
theorem dJ8_hugeLength_7cf53_59 : decode cJ8_hugeLength_7cf53 59 = .ok (.ireturn, 1) := by decide +kernel
theorem dJ3_checkIndex_8e157_0 : decode cJ3_checkIndex_8e157 0 = .ok (.iload_n 0, 1) := by decide +kernel
theorem dJ3_checkIndex_8e157_1 : decode cJ3_checkIndex_8e157 1 = .ok (.ifCond .lt 8, 3) := by decide +kernel
theorem dJ3_checkIndex_8e157_4 : decode cJ3_checkIndex_8e157 4 = .ok (.iload_n 0, 1) := by decide +kernel
theorem dJ3_checkIndex_8e157_5 : decode cJ3_checkIndex_8e157 5 = .ok (.iload_n 1, 1) := by decide +kernel
theorem dJ3_checkIndex_8e157_6 : decode cJ3_checkIndex_8e157 6 = .ok (.if_icmp .lt 10, 3) := by decide +kernel
theorem dJ3_checkIndex_8e157_9 : decode cJ3_checkIndex_8e157 9 = .ok (.aload_n 2, 1) := by decide +kernel
theorem dJ3_checkIndex_8e157_10 : decode cJ3_checkIndex_8e157 10 = .ok (.iload_n 0, 1) := by decide +kernel
theorem dJ3_checkIndex_8e157_11 : decode cJ3_checkIndex_8e157 11 = .ok (.iload_n 1, 1) := by decide +kernel
theorem dJ3_checkIndex_8e157_12 : decode cJ3_checkIndex_8e157 12 = .ok (.invokestatic 95, 3) := by decide +kernel
theorem dJ3_checkIndex_8e157_15 : decode cJ3_checkIndex_8e157 15 = .ok (.athrow, 1) := by decide +kernel
theorem dJ3_checkIndex_8e157_16 : decode cJ3_checkIndex_8e157 16 = .ok (.iload_n 0, 1) := by decide +kernel
theorem dJ3_checkIndex_8e157_17 : decode cJ3_checkIndex_8e157 17 = .ok (.ireturn, 1) := by decide +kernel
theorem dJ3_checkFromToIndex_8c36e_0 : decode cJ3_checkFromToIndex_8c36e 0 = .ok (.iload_n 0, 1) := by decide +kernel
theorem dJ3_checkFromToIndex_8c36e_1 : decode cJ3_checkFromToIndex_8c36e 1 = .ok (.ifCond .lt 13, 3) := by decide +kernel
theorem dJ3_checkFromToIndex_8c36e_4 : decode cJ3_checkFromToIndex_8c36e 4 = .ok (.iload_n 0, 1) := by decide +kernel
theorem dJ3_checkFromToIndex_8c36e_5 : decode cJ3_checkFromToIndex_8c36e 5 = .ok (.iload_n 1, 1) := by decide +kernel
theorem dJ3_checkFromToIndex_8c36e_6 : decode cJ3_checkFromToIndex_8c36e 6 = .ok (.if_icmp .gt 8, 3) := by decide +kernel
theorem dJ3_checkFromToIndex_8c36e_9 : decode cJ3_checkFromToIndex_8c36e 9 = .ok (.iload_n 1, 1) := by decide +kernel
theorem dJ3_checkFromToIndex_8c36e_10 : decode cJ3_checkFromToIndex_8c36e 10 = .ok (.iload_n 2, 1) := by decide +kernel
theorem dJ3_checkFromToIndex_8c36e_11 : decode cJ3_checkFromToIndex_8c36e 11 = .ok (.if_icmp .le 11, 3) := by decide +kernel
theorem dJ3_checkFromToIndex_8c36e_14 : decode cJ3_checkFromToIndex_8c36e 14 = .ok (.aload_n 3, 1) := by decide +kernel
theorem dJ3_checkFromToIndex_8c36e_15 : decode cJ3_checkFromToIndex_8c36e 15 = .ok (.iload_n 0, 1) := by decide +kernel
theorem dJ3_checkFromToIndex_8c36e_16 : decode cJ3_checkFromToIndex_8c36e 16 = .ok (.iload_n 1, 1) := by decide +kernel
theorem dJ3_checkFromToIndex_8c36e_17 : decode cJ3_checkFromToIndex_8c36e 17 = .ok (.iload_n 2, 1) := by decide +kernel
theorem dJ3_checkFromToIndex_8c36e_18 : decode cJ3_checkFromToIndex_8c36e 18 = .ok (.invokestatic 99, 3) := by decide +kernel
theorem dJ3_checkFromToIndex_8c36e_21 : decode cJ3_checkFromToIndex_8c36e 21 = .ok (.athrow, 1) := by decide +kernel
theorem dJ3_checkFromToIndex_8c36e_22 : decode cJ3_checkFromToIndex_8c36e 22 = .ok (.iload_n 0, 1) := by decide +kernel
theorem dJ3_checkFromToIndex_8c36e_23 : decode cJ3_checkFromToIndex_8c36e 23 = .ok (.ireturn, 1) := by decide +kernel
theorem dJ3_checkFromIndexSize_8c36e_0 : decode cJ3_checkFromIndexSize_8c36e 0 = .ok (.iload_n 2, 1) := by decide +kernel
theorem dJ3_checkFromIndexSize_8c36e_1 : decode cJ3_checkFromIndexSize_8c36e 1 = .ok (.iload_n 0, 1) := by decide +kernel
theorem dJ3_checkFromIndexSize_8c36e_2 : decode cJ3_checkFromIndexSize_8c36e 2 = .ok (.ior, 1) := by decide +kernel
theorem dJ3_checkFromIndexSize_8c36e_3 : decode cJ3_checkFromIndexSize_8c36e 3 = .ok (.iload_n 1, 1) := by decide +kernel
theorem dJ3_checkFromIndexSize_8c36e_4 : decode cJ3_checkFromIndexSize_8c36e 4 = .ok (.ior, 1) := by decide +kernel
theorem dJ3_checkFromIndexSize_8c36e_5 : decode cJ3_checkFromIndexSize_8c36e 5 = .ok (.ifCond .lt 10, 3) := by decide +kernel
theorem dJ3_checkFromIndexSize_8c36e_8 : decode cJ3_checkFromIndexSize_8c36e 8 = .ok (.iload_n 1, 1) := by decide +kernel
theorem dJ3_checkFromIndexSize_8c36e_9 : decode cJ3_checkFromIndexSize_8c36e 9 = .ok (.iload_n 2, 1) := by decide +kernel
theorem dJ3_checkFromIndexSize_8c36e_10 : decode cJ3_checkFromIndexSize_8c36e 10 = .ok (.iload_n 0, 1) := by decide +kernel
theorem dJ3_checkFromIndexSize_8c36e_11 : decode cJ3_checkFromIndexSize_8c36e 11 = .ok (.isub, 1) := by decide +kernel
theorem dJ3_checkFromIndexSize_8c36e_12 : decode cJ3_checkFromIndexSize_8c36e 12 = .ok (.if_icmp .le 11, 3) := by decide +kernel
theorem dJ3_checkFromIndexSize_8c36e_15 : decode cJ3_checkFromIndexSize_8c36e 15 = .ok (.aload_n 3, 1) := by decide +kernel
theorem dJ3_checkFromIndexSize_8c36e_16 : decode cJ3_checkFromIndexSize_8c36e 16 = .ok (.iload_n 0, 1) := by decide +kernel
theorem dJ3_checkFromIndexSize_8c36e_17 : decode cJ3_checkFromIndexSize_8c36e 17 = .ok (.iload_n 1, 1) := by decide +kernel
theorem dJ3_checkFromIndexSize_8c36e_18 : decode cJ3_checkFromIndexSize_8c36e 18 = .ok (.iload_n 2, 1) := by decide +kernel
theorem dJ3_checkFromIndexSize_8c36e_19 : decode cJ3_checkFromIndexSize_8c36e 19 = .ok (.invokestatic 103, 3) := by decide +kernel
theorem dJ3_checkFromIndexSize_8c36e_22 : decode cJ3_checkFromIndexSize_8c36e 22 = .ok (.athrow, 1) := by decide +kernel
theorem dJ3_checkFromIndexSize_8c36e_23 : decode cJ3_checkFromIndexSize_8c36e 23 = .ok (.iload_n 0, 1) := by decide +kernel
theorem dJ3_checkFromIndexSize_8c36e_24 : decode cJ3_checkFromIndexSize_8c36e 24 = .ok (.ireturn, 1) := by decide +kernel
end
section
/-! numbers: an int of the machine as a whole number; the rows of the kit, over whole numbers -/
def vs_I (x : Int) : Int32 := Int32.ofInt x
def vs_R (x : Int) : Prop := -2147483648 ≤ x ∧ x ≤ 2147483647
abbrev vs_St : Type := Nat → Int → Int
def vs_up (f : Int → Int) (e x : Int) : Int → Int := fun i => if i = e then x else f i
def vs_st (S : vs_St) (k : Nat) (e x : Int) : vs_St := fun j => cond (Nat.beq j k) (vs_up (S k) e x) (S j)
def vs_en (f : Int → Int) : Nat → Int32 := fun i => vs_I (f (i : Int))
theorem vs_I_add (x y : Int) : vs_I x + vs_I y = vs_I (x + y) := (Int32.ofInt_add x y).symm
theorem vs_I_sub (x y : Int) : vs_I x - vs_I y = vs_I (x - y) := (Int32.ofInt_sub x y).symm
theorem vs_I_mul (x y : Int) : vs_I x * vs_I y = vs_I (x * y) := (Int32.ofInt_mul x y).symm
theorem vs_I_toInt {x : Int} (h : vs_R x) : (vs_I x).toInt = x := Int32.toInt_ofInt_of_le (by have := h.1; omega) (by have := h.2; omega)
theorem vs_I_lt {x y : Int} (hx : vs_R x) (hy : vs_R y) : vs_I x < vs_I y ↔ x < y := by rw [Int32.lt_iff_toInt_lt, vs_I_toInt hx, vs_I_toInt hy]
theorem vs_I_le {x y : Int} (hx : vs_R x) (hy : vs_R y) : vs_I x ≤ vs_I y ↔ x ≤ y := by rw [Int32.le_iff_toInt_le, vs_I_toInt hx, vs_I_toInt hy]
theorem vs_I_eq {x y : Int} (hx : vs_R x) (hy : vs_R y) : vs_I x = vs_I y ↔ x = y := by rw [← Int32.toInt_inj, vs_I_toInt hx, vs_I_toInt hy]
theorem vs_R0 : vs_R 0 := ⟨by decide, by decide⟩
theorem vs_I_0 : vs_I 0 = 0 := rfl
theorem vs_I_nat {x : Int} (h0 : 0 ≤ x) (h : x ≤ 2147483647) : (vs_I x).toNatClampNeg = x.toNat := Int32.toNatClampNeg_ofInt_of_le (by omega) (by omega)
theorem vs_I_in {x : Int} {n : Nat} (h0 : 0 ≤ x) (h : x < n) (hn : n ≤ 2147483647) : vp_in (vs_I x) n := by
  rintro (q | q)
  · rw [← vs_I_0, vs_I_lt ⟨by omega, by omega⟩ vs_R0] at q; omega
  · rw [vs_I_nat h0 (by omega)] at q; omega
theorem vs_en_at (f : Int → Int) {x : Int} (h0 : 0 ≤ x) (h : x ≤ 2147483647) : vs_en f (vs_I x).toNatClampNeg = vs_I (f x) := by
  rw [vs_I_nat h0 h]; unfold vs_en; rw [Int.toNat_of_nonneg h0]
theorem vs_en_up (f : Int → Int) {x y : Int} (h0 : 0 ≤ x) (h : x ≤ 2147483647) : upd (vs_en f) (vs_I x).toNatClampNeg (vs_I y) = vs_en (vs_up f x y) := by
  rw [vs_I_nat h0 h]
  funext j
  unfold upd vs_en vs_up
  by_cases q : j = x.toNat
  · subst q; rw [if_pos rfl, if_pos (Int.toNat_of_nonneg h0)]
  · rw [if_neg q, if_neg (fun e => q (by omega))]
theorem vs_I_div {x y : Int} (h0 : 0 ≤ x) (h : x ≤ 2147483647) (hy : 0 < y) (hy2 : y ≤ 2147483647) : vs_I x / vs_I y = vs_I (x / y) := by
  unfold vs_I
  rw [← Int32.ofInt_tdiv (by show (-2147483648 : Int) ≤ x; omega) (by show x ≤ (2147483647 : Int); omega) (by show (-2147483648 : Int) ≤ y; omega) (by show y ≤ (2147483647 : Int); omega), Int.tdiv_eq_ediv_of_nonneg h0]
theorem vs_I_mod {x y : Int} (h0 : 0 ≤ x) (h : x ≤ 2147483647) (hy : 0 < y) (hy2 : y ≤ 2147483647) : vs_I x - vs_I x / vs_I y * vs_I y = vs_I (x % y) := by
  rw [vs_I_div h0 h hy hy2, vs_I_mul, vs_I_sub, Int.emod_def, Int.mul_comm y]
def vs_and (x y : Int) : Int := (vs_I x &&& vs_I y).toInt
def vs_or (x y : Int) : Int := (vs_I x ||| vs_I y).toInt
def vs_xor (x y : Int) : Int := (vs_I x ^^^ vs_I y).toInt
def vs_shl (x y : Int) : Int := (vs_I x <<< (vs_I y &&& 31)).toInt
def vs_shr (x y : Int) : Int := (vs_I x >>> (vs_I y &&& 31)).toInt
def vs_ushr (x y : Int) : Int := ((vs_I x).toUInt32 >>> ((vs_I y).toUInt32 &&& Int32.toUInt32 31)).toInt32.toInt
theorem vs_I_of (z : Int32) : vs_I z.toInt = z := Int32.ofInt_toInt z
theorem vs_nar_z {x : Int} (h : x = 0 ∨ x = 1) : vp_nar .boolean (vs_I x) = vs_I x := by rcases h with rfl | rfl <;> decide +kernel
theorem vs_narr_z {x : Int} (h : x = 0 ∨ x = 1) : narrow .boolean (.int (vs_I x)) = .int (vs_I x) := by rcases h with rfl | rfl <;> rfl
theorem vs_c16 {v : Int32} (h0 : 0 ≤ v.toInt) (h : v.toInt < 65536) : (v.toUInt32 % 65536).toInt32 = v := by
  have e : (v.toUInt32 % 65536) = v.toUInt32 := by
    apply UInt32.toNat_inj.mp
    rw [UInt32.toNat_mod]
    show v.toUInt32.toNat % 65536 = _
    apply Nat.mod_eq_of_lt
    have hb : v.toInt = v.toBitVec.toInt := rfl
    rw [hb, BitVec.toInt_eq_toNat_cond] at h h0
    have e2 : v.toUInt32.toNat = v.toBitVec.toNat := rfl
    have := v.toBitVec.isLt
    split at h <;> omega
  rw [e]
  rfl
theorem vs_c16b {v : Int32} (h0 : 0 ≤ v.toInt) (h : v.toInt < 65536) : v.toUInt32.toUInt16.toUInt32.toInt32 = v := by
  have e3 : v.toUInt32.toUInt16.toUInt32 = v.toUInt32 % 65536 := by
    apply UInt32.toNat_inj.mp
    simp
  rw [e3]
  exact vs_c16 h0 h
theorem vs_narr_c {x : Int} (h0 : 0 ≤ x) (h : x < 65536) : narrow .char (.int (vs_I x)) = .int (vs_I x) := by
  have e := vs_c16b (v := vs_I x) (by rw [vs_I_toInt ⟨by omega, by omega⟩]; exact h0) (by rw [vs_I_toInt ⟨by omega, by omega⟩]; exact h)
  simp only [narrow, e]
theorem vs_nar_c {x : Int} (h0 : 0 ≤ x) (h : x < 65536) : vp_nar .char (vs_I x) = vs_I x := by
  unfold vp_nar; rw [vs_narr_c h0 h]
theorem vs_st_same (S : vs_St) (k : Nat) (e x : Int) : vs_st S k e x k = vs_up (S k) e x := by unfold vs_st; rw [Nat.beq_refl]; rfl
theorem vs_st_ne (S : vs_St) {j k : Nat} (h : j ≠ k) (e x : Int) : vs_st S k e x j = S j := by
  unfold vs_st
  cases hb : Nat.beq j k
  · rfl
  · exact absurd (Nat.eq_of_beq_eq_true hb) h
end
