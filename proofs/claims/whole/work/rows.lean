section
-- ===== PART A: goes FIRST, ahead of the names: the tables' words, and 'selects' of the private methods out of them =====
/-- a private method of a class that the tables say can be made, by its rows of tables_1 -/
def lw_okq (q : MethodName × Nat) : Prop := (q.1.cls ≠ "java/lang/invoke/MethodHandle" ∧ q.1.cls ≠ "java/lang/invoke/VarHandle") ∧ Cond.instantiable q.1.cls q.2 ∈ tables_1 ∧ Cond.privateMethod q.1 ∈ tables_1 ∧ Cond.instanceMethod q.1 ∈ tables_1
theorem lw_p0 : lw_okq (⟨"OtherHat", "failed", "(I)I"⟩, 8) := ⟨⟨by decide +kernel, by decide +kernel⟩, List.mem_of_getElem? (i := 20) (by decide +kernel), List.mem_of_getElem? (i := 254) (by decide +kernel), List.mem_of_getElem? (i := 255) (by decide +kernel)⟩
theorem lw_p1 : lw_okq (⟨"OtherHat$Scene", "addMan", "(I)I"⟩, 11) := ⟨⟨by decide +kernel, by decide +kernel⟩, List.mem_of_getElem? (i := 34) (by decide +kernel), List.mem_of_getElem? (i := 261) (by decide +kernel), List.mem_of_getElem? (i := 262) (by decide +kernel)⟩
theorem lw_p2 : lw_okq (⟨"OtherHat", "isMan", "(I)Z"⟩, 8) := ⟨⟨by decide +kernel, by decide +kernel⟩, List.mem_of_getElem? (i := 20) (by decide +kernel), List.mem_of_getElem? (i := 272) (by decide +kernel), List.mem_of_getElem? (i := 273) (by decide +kernel)⟩
theorem lw_p3 : lw_okq (⟨"OtherHat", "isWorld", "(I)Z"⟩, 8) := ⟨⟨by decide +kernel, by decide +kernel⟩, List.mem_of_getElem? (i := 20) (by decide +kernel), List.mem_of_getElem? (i := 283) (by decide +kernel), List.mem_of_getElem? (i := 284) (by decide +kernel)⟩
theorem lw_p4 : lw_okq (⟨"OtherHat$Scene", "worldCount", "()I"⟩, 11) := ⟨⟨by decide +kernel, by decide +kernel⟩, List.mem_of_getElem? (i := 34) (by decide +kernel), List.mem_of_getElem? (i := 287) (by decide +kernel), List.mem_of_getElem? (i := 288) (by decide +kernel)⟩
theorem lw_p5 : lw_okq (⟨"OtherHat$Row", "add", "(I)V"⟩, 2) := ⟨⟨by decide +kernel, by decide +kernel⟩, List.mem_of_getElem? (i := 95) (by decide +kernel), List.mem_of_getElem? (i := 313) (by decide +kernel), List.mem_of_getElem? (i := 314) (by decide +kernel)⟩
theorem lw_p6 : lw_okq (⟨"OtherHat$Reader", "faultOf", "(LOtherHat$Row;I)I"⟩, 4) := ⟨⟨by decide +kernel, by decide +kernel⟩, List.mem_of_getElem? (i := 155) (by decide +kernel), List.mem_of_getElem? (i := 324) (by decide +kernel), List.mem_of_getElem? (i := 325) (by decide +kernel)⟩
theorem lw_p7 : lw_okq (⟨"OtherHat$Row", "take", "(LOtherHat$Row;)V"⟩, 2) := ⟨⟨by decide +kernel, by decide +kernel⟩, List.mem_of_getElem? (i := 95) (by decide +kernel), List.mem_of_getElem? (i := 328) (by decide +kernel), List.mem_of_getElem? (i := 329) (by decide +kernel)⟩
theorem lw_p8 : lw_okq (⟨"OtherHat$Row", "clear", "()V"⟩, 2) := ⟨⟨by decide +kernel, by decide +kernel⟩, List.mem_of_getElem? (i := 95) (by decide +kernel), List.mem_of_getElem? (i := 332) (by decide +kernel), List.mem_of_getElem? (i := 333) (by decide +kernel)⟩
theorem lw_p9 : lw_okq (⟨"OtherHat$Row", "get", "(I)I"⟩, 2) := ⟨⟨by decide +kernel, by decide +kernel⟩, List.mem_of_getElem? (i := 95) (by decide +kernel), List.mem_of_getElem? (i := 336) (by decide +kernel), List.mem_of_getElem? (i := 337) (by decide +kernel)⟩
theorem lw_p10 : lw_okq (⟨"OtherHat$Reader", "readLevel", "(II)Z"⟩, 4) := ⟨⟨by decide +kernel, by decide +kernel⟩, List.mem_of_getElem? (i := 155) (by decide +kernel), List.mem_of_getElem? (i := 344) (by decide +kernel), List.mem_of_getElem? (i := 345) (by decide +kernel)⟩
theorem lw_p11 : lw_okq (⟨"OtherHat$Reader", "readUnit", "(I)Z"⟩, 4) := ⟨⟨by decide +kernel, by decide +kernel⟩, List.mem_of_getElem? (i := 155) (by decide +kernel), List.mem_of_getElem? (i := 348) (by decide +kernel), List.mem_of_getElem? (i := 349) (by decide +kernel)⟩
theorem lw_p12 : lw_okq (⟨"OtherHat$Reader", "next", "()I"⟩, 4) := ⟨⟨by decide +kernel, by decide +kernel⟩, List.mem_of_getElem? (i := 155) (by decide +kernel), List.mem_of_getElem? (i := 352) (by decide +kernel), List.mem_of_getElem? (i := 353) (by decide +kernel)⟩
theorem lw_p13 : lw_okq (⟨"OtherHat$Reader", "readNumber", "()V"⟩, 4) := ⟨⟨by decide +kernel, by decide +kernel⟩, List.mem_of_getElem? (i := 155) (by decide +kernel), List.mem_of_getElem? (i := 360) (by decide +kernel), List.mem_of_getElem? (i := 361) (by decide +kernel)⟩
theorem lw_p14 : lw_okq (⟨"OtherHat$Reader", "readNot", "(I)Z"⟩, 4) := ⟨⟨by decide +kernel, by decide +kernel⟩, List.mem_of_getElem? (i := 155) (by decide +kernel), List.mem_of_getElem? (i := 365) (by decide +kernel), List.mem_of_getElem? (i := 366) (by decide +kernel)⟩
theorem lw_p15 : lw_okq (⟨"OtherHat$Reader", "readInside", "(I)Z"⟩, 4) := ⟨⟨by decide +kernel, by decide +kernel⟩, List.mem_of_getElem? (i := 155) (by decide +kernel), List.mem_of_getElem? (i := 369) (by decide +kernel), List.mem_of_getElem? (i := 370) (by decide +kernel)⟩
def lw_privs_1 : List (MethodName × Nat) := [(⟨"OtherHat", "failed", "(I)I"⟩, 8), (⟨"OtherHat$Scene", "addMan", "(I)I"⟩, 11), (⟨"OtherHat", "isMan", "(I)Z"⟩, 8), (⟨"OtherHat", "isWorld", "(I)Z"⟩, 8), (⟨"OtherHat$Scene", "worldCount", "()I"⟩, 11), (⟨"OtherHat$Row", "add", "(I)V"⟩, 2), (⟨"OtherHat$Reader", "faultOf", "(LOtherHat$Row;I)I"⟩, 4), (⟨"OtherHat$Row", "take", "(LOtherHat$Row;)V"⟩, 2), (⟨"OtherHat$Row", "clear", "()V"⟩, 2), (⟨"OtherHat$Row", "get", "(I)I"⟩, 2), (⟨"OtherHat$Reader", "readLevel", "(II)Z"⟩, 4), (⟨"OtherHat$Reader", "readUnit", "(I)Z"⟩, 4), (⟨"OtherHat$Reader", "next", "()I"⟩, 4), (⟨"OtherHat$Reader", "readNumber", "()V"⟩, 4), (⟨"OtherHat$Reader", "readNot", "(I)Z"⟩, 4), (⟨"OtherHat$Reader", "readInside", "(I)Z"⟩, 4)]
theorem lw_r1 : ∀ q ∈ lw_privs_1, lw_okq q := List.forall_mem_cons.mpr ⟨lw_p0, List.forall_mem_cons.mpr ⟨lw_p1, List.forall_mem_cons.mpr ⟨lw_p2, List.forall_mem_cons.mpr ⟨lw_p3, List.forall_mem_cons.mpr ⟨lw_p4, List.forall_mem_cons.mpr ⟨lw_p5, List.forall_mem_cons.mpr ⟨lw_p6, List.forall_mem_cons.mpr ⟨lw_p7, List.forall_mem_cons.mpr ⟨lw_p8, List.forall_mem_cons.mpr ⟨lw_p9, List.forall_mem_cons.mpr ⟨lw_p10, List.forall_mem_cons.mpr ⟨lw_p11, List.forall_mem_cons.mpr ⟨lw_p12, List.forall_mem_cons.mpr ⟨lw_p13, List.forall_mem_cons.mpr ⟨lw_p14, List.forall_mem_cons.mpr ⟨lw_p15, fun _ h => absurd h List.not_mem_nil⟩⟩⟩⟩⟩⟩⟩⟩⟩⟩⟩⟩⟩⟩⟩⟩
theorem lw_p16 : lw_okq (⟨"OtherHat", "lawOf", "(I)LOtherHat$Law;"⟩, 8) := ⟨⟨by decide +kernel, by decide +kernel⟩, List.mem_of_getElem? (i := 20) (by decide +kernel), List.mem_of_getElem? (i := 459) (by decide +kernel), List.mem_of_getElem? (i := 460) (by decide +kernel)⟩
theorem lw_p17 : lw_okq (⟨"OtherHat$Law", "gives", "(IIII)I"⟩, 3) := ⟨⟨by decide +kernel, by decide +kernel⟩, List.mem_of_getElem? (i := 89) (by decide +kernel), List.mem_of_getElem? (i := 468) (by decide +kernel), List.mem_of_getElem? (i := 469) (by decide +kernel)⟩
theorem lw_p18 : lw_okq (⟨"OtherHat$Law", "workedOut", "(IIII)I"⟩, 3) := ⟨⟨by decide +kernel, by decide +kernel⟩, List.mem_of_getElem? (i := 89) (by decide +kernel), List.mem_of_getElem? (i := 472) (by decide +kernel), List.mem_of_getElem? (i := 473) (by decide +kernel)⟩
theorem lw_p19 : lw_okq (⟨"OtherHat$Scene", "givenBy", "(LOtherHat$Law;)J"⟩, 11) := ⟨⟨by decide +kernel, by decide +kernel⟩, List.mem_of_getElem? (i := 34) (by decide +kernel), List.mem_of_getElem? (i := 492) (by decide +kernel), List.mem_of_getElem? (i := 493) (by decide +kernel)⟩
theorem lw_p20 : lw_okq (⟨"OtherHat", "whyNoBells", "(I)I"⟩, 8) := ⟨⟨by decide +kernel, by decide +kernel⟩, List.mem_of_getElem? (i := 20) (by decide +kernel), List.mem_of_getElem? (i := 523) (by decide +kernel), List.mem_of_getElem? (i := 524) (by decide +kernel)⟩
theorem lw_p21 : lw_okq (⟨"OtherHat$Scene", "ring", "(LOtherHat$Law;)Z"⟩, 11) := ⟨⟨by decide +kernel, by decide +kernel⟩, List.mem_of_getElem? (i := 34) (by decide +kernel), List.mem_of_getElem? (i := 527) (by decide +kernel), List.mem_of_getElem? (i := 528) (by decide +kernel)⟩
theorem lw_p22 : lw_okq (⟨"OtherHat$Scene", "speakers", "()I"⟩, 11) := ⟨⟨by decide +kernel, by decide +kernel⟩, List.mem_of_getElem? (i := 34) (by decide +kernel), List.mem_of_getElem? (i := 531) (by decide +kernel), List.mem_of_getElem? (i := 532) (by decide +kernel)⟩
theorem lw_p23 : lw_okq (⟨"OtherHat$Scene", "thought", "(II)J"⟩, 11) := ⟨⟨by decide +kernel, by decide +kernel⟩, List.mem_of_getElem? (i := 34) (by decide +kernel), List.mem_of_getElem? (i := 535) (by decide +kernel), List.mem_of_getElem? (i := 536) (by decide +kernel)⟩
theorem lw_p24 : lw_okq (⟨"OtherHat$Scene", "speaks", "(IJ)Z"⟩, 11) := ⟨⟨by decide +kernel, by decide +kernel⟩, List.mem_of_getElem? (i := 34) (by decide +kernel), List.mem_of_getElem? (i := 545) (by decide +kernel), List.mem_of_getElem? (i := 546) (by decide +kernel)⟩
theorem lw_p25 : lw_okq (⟨"OtherHat$Scene", "hasSpoken", "(I)Z"⟩, 11) := ⟨⟨by decide +kernel, by decide +kernel⟩, List.mem_of_getElem? (i := 34) (by decide +kernel), List.mem_of_getElem? (i := 549) (by decide +kernel), List.mem_of_getElem? (i := 550) (by decide +kernel)⟩
theorem lw_p26 : lw_okq (⟨"OtherHat$Scene", "isSure", "(IJ)Z"⟩, 11) := ⟨⟨by decide +kernel, by decide +kernel⟩, List.mem_of_getElem? (i := 34) (by decide +kernel), List.mem_of_getElem? (i := 553) (by decide +kernel), List.mem_of_getElem? (i := 554) (by decide +kernel)⟩
theorem lw_p27 : lw_okq (⟨"OtherHat$Scene", "sayings", "(I)I"⟩, 11) := ⟨⟨by decide +kernel, by decide +kernel⟩, List.mem_of_getElem? (i := 34) (by decide +kernel), List.mem_of_getElem? (i := 566) (by decide +kernel), List.mem_of_getElem? (i := 567) (by decide +kernel)⟩
theorem lw_p28 : lw_okq (⟨"OtherHat$Scene", "hear", "(IILOtherHat$Law;)Z"⟩, 11) := ⟨⟨by decide +kernel, by decide +kernel⟩, List.mem_of_getElem? (i := 34) (by decide +kernel), List.mem_of_getElem? (i := 575) (by decide +kernel), List.mem_of_getElem? (i := 576) (by decide +kernel)⟩
theorem lw_p29 : lw_okq (⟨"OtherHat$Scene", "fitting", "(IJZI)J"⟩, 11) := ⟨⟨by decide +kernel, by decide +kernel⟩, List.mem_of_getElem? (i := 34) (by decide +kernel), List.mem_of_getElem? (i := 579) (by decide +kernel), List.mem_of_getElem? (i := 580) (by decide +kernel)⟩
theorem lw_p30 : lw_okq (⟨"OtherHat$Scene", "payAll", "(IILOtherHat$Law;)V"⟩, 11) := ⟨⟨by decide +kernel, by decide +kernel⟩, List.mem_of_getElem? (i := 34) (by decide +kernel), List.mem_of_getElem? (i := 585) (by decide +kernel), List.mem_of_getElem? (i := 586) (by decide +kernel)⟩
theorem lw_p31 : lw_okq (⟨"OtherHat$Book", "ringLoosely", "()V"⟩, 6) := ⟨⟨by decide +kernel, by decide +kernel⟩, List.mem_of_getElem? (i := 28) (by decide +kernel), List.mem_of_getElem? (i := 596) (by decide +kernel), List.mem_of_getElem? (i := 597) (by decide +kernel)⟩
def lw_privs_2 : List (MethodName × Nat) := [(⟨"OtherHat", "lawOf", "(I)LOtherHat$Law;"⟩, 8), (⟨"OtherHat$Law", "gives", "(IIII)I"⟩, 3), (⟨"OtherHat$Law", "workedOut", "(IIII)I"⟩, 3), (⟨"OtherHat$Scene", "givenBy", "(LOtherHat$Law;)J"⟩, 11), (⟨"OtherHat", "whyNoBells", "(I)I"⟩, 8), (⟨"OtherHat$Scene", "ring", "(LOtherHat$Law;)Z"⟩, 11), (⟨"OtherHat$Scene", "speakers", "()I"⟩, 11), (⟨"OtherHat$Scene", "thought", "(II)J"⟩, 11), (⟨"OtherHat$Scene", "speaks", "(IJ)Z"⟩, 11), (⟨"OtherHat$Scene", "hasSpoken", "(I)Z"⟩, 11), (⟨"OtherHat$Scene", "isSure", "(IJ)Z"⟩, 11), (⟨"OtherHat$Scene", "sayings", "(I)I"⟩, 11), (⟨"OtherHat$Scene", "hear", "(IILOtherHat$Law;)Z"⟩, 11), (⟨"OtherHat$Scene", "fitting", "(IJZI)J"⟩, 11), (⟨"OtherHat$Scene", "payAll", "(IILOtherHat$Law;)V"⟩, 11), (⟨"OtherHat$Book", "ringLoosely", "()V"⟩, 6)]
theorem lw_r2 : ∀ q ∈ lw_privs_2, lw_okq q := List.forall_mem_cons.mpr ⟨lw_p16, List.forall_mem_cons.mpr ⟨lw_p17, List.forall_mem_cons.mpr ⟨lw_p18, List.forall_mem_cons.mpr ⟨lw_p19, List.forall_mem_cons.mpr ⟨lw_p20, List.forall_mem_cons.mpr ⟨lw_p21, List.forall_mem_cons.mpr ⟨lw_p22, List.forall_mem_cons.mpr ⟨lw_p23, List.forall_mem_cons.mpr ⟨lw_p24, List.forall_mem_cons.mpr ⟨lw_p25, List.forall_mem_cons.mpr ⟨lw_p26, List.forall_mem_cons.mpr ⟨lw_p27, List.forall_mem_cons.mpr ⟨lw_p28, List.forall_mem_cons.mpr ⟨lw_p29, List.forall_mem_cons.mpr ⟨lw_p30, List.forall_mem_cons.mpr ⟨lw_p31, fun _ h => absurd h List.not_mem_nil⟩⟩⟩⟩⟩⟩⟩⟩⟩⟩⟩⟩⟩⟩⟩⟩
theorem lw_p32 : lw_okq (⟨"OtherHat$Book", "drawn", "()I"⟩, 6) := ⟨⟨by decide +kernel, by decide +kernel⟩, List.mem_of_getElem? (i := 28) (by decide +kernel), List.mem_of_getElem? (i := 603) (by decide +kernel), List.mem_of_getElem? (i := 604) (by decide +kernel)⟩
theorem lw_p33 : lw_okq (⟨"OtherHat", "startAhead", "()V"⟩, 8) := ⟨⟨by decide +kernel, by decide +kernel⟩, List.mem_of_getElem? (i := 20) (by decide +kernel), List.mem_of_getElem? (i := 628) (by decide +kernel), List.mem_of_getElem? (i := 629) (by decide +kernel)⟩
theorem lw_p34 : lw_okq (⟨"OtherHat$Scene", "take", "(LOtherHat$Scene;)V"⟩, 11) := ⟨⟨by decide +kernel, by decide +kernel⟩, List.mem_of_getElem? (i := 34) (by decide +kernel), List.mem_of_getElem? (i := 632) (by decide +kernel), List.mem_of_getElem? (i := 633) (by decide +kernel)⟩
theorem lw_p35 : lw_okq (⟨"OtherHat", "ringAhead", "(I)I"⟩, 8) := ⟨⟨by decide +kernel, by decide +kernel⟩, List.mem_of_getElem? (i := 20) (by decide +kernel), List.mem_of_getElem? (i := 636) (by decide +kernel), List.mem_of_getElem? (i := 637) (by decide +kernel)⟩
theorem lw_p36 : lw_okq (⟨"OtherHat$Scene", "isPastAllNumbers", "()Z"⟩, 11) := ⟨⟨by decide +kernel, by decide +kernel⟩, List.mem_of_getElem? (i := 34) (by decide +kernel), List.mem_of_getElem? (i := 640) (by decide +kernel), List.mem_of_getElem? (i := 641) (by decide +kernel)⟩
theorem lw_p37 : lw_okq (⟨"OtherHat", "bellsTillSpoken", "(I)I"⟩, 8) := ⟨⟨by decide +kernel, by decide +kernel⟩, List.mem_of_getElem? (i := 20) (by decide +kernel), List.mem_of_getElem? (i := 652) (by decide +kernel), List.mem_of_getElem? (i := 653) (by decide +kernel)⟩
theorem lw_p38 : lw_okq (⟨"OtherHat", "ranAlike", "()J"⟩, 8) := ⟨⟨by decide +kernel, by decide +kernel⟩, List.mem_of_getElem? (i := 20) (by decide +kernel), List.mem_of_getElem? (i := 665) (by decide +kernel), List.mem_of_getElem? (i := 666) (by decide +kernel)⟩
theorem lw_p39 : lw_okq (⟨"OtherHat", "knowBySignal", "(I)I"⟩, 8) := ⟨⟨by decide +kernel, by decide +kernel⟩, List.mem_of_getElem? (i := 20) (by decide +kernel), List.mem_of_getElem? (i := 677) (by decide +kernel), List.mem_of_getElem? (i := 678) (by decide +kernel)⟩
theorem lw_p40 : lw_okq (⟨"OtherHat$Voices", "heard", "(LOtherHat$Scene;III)I"⟩, 4) := ⟨⟨by decide +kernel, by decide +kernel⟩, List.mem_of_getElem? (i := 179) (by decide +kernel), List.mem_of_getElem? (i := 704) (by decide +kernel), List.mem_of_getElem? (i := 705) (by decide +kernel)⟩
theorem lw_p41 : lw_okq (⟨"OtherHat$Voices", "own", "(III)I"⟩, 4) := ⟨⟨by decide +kernel, by decide +kernel⟩, List.mem_of_getElem? (i := 179) (by decide +kernel), List.mem_of_getElem? (i := 709) (by decide +kernel), List.mem_of_getElem? (i := 710) (by decide +kernel)⟩
theorem lw_p42 : lw_okq (⟨"OtherHat$Voices", "from", "(IIII)I"⟩, 4) := ⟨⟨by decide +kernel, by decide +kernel⟩, List.mem_of_getElem? (i := 179) (by decide +kernel), List.mem_of_getElem? (i := 713) (by decide +kernel), List.mem_of_getElem? (i := 714) (by decide +kernel)⟩
theorem lw_p43 : lw_okq (⟨"OtherHat$Voices", "workedOut", "(III)I"⟩, 4) := ⟨⟨by decide +kernel, by decide +kernel⟩, List.mem_of_getElem? (i := 179) (by decide +kernel), List.mem_of_getElem? (i := 720) (by decide +kernel), List.mem_of_getElem? (i := 721) (by decide +kernel)⟩
theorem lw_p44 : lw_okq (⟨"OtherHat$Sheet", "renew", "(II)V"⟩, 3) := ⟨⟨by decide +kernel, by decide +kernel⟩, List.mem_of_getElem? (i := 202) (by decide +kernel), List.mem_of_getElem? (i := 737) (by decide +kernel), List.mem_of_getElem? (i := 738) (by decide +kernel)⟩
theorem lw_p45 : lw_okq (⟨"OtherHat$Sheet", "write", "(II)V"⟩, 3) := ⟨⟨by decide +kernel, by decide +kernel⟩, List.mem_of_getElem? (i := 202) (by decide +kernel), List.mem_of_getElem? (i := 746) (by decide +kernel), List.mem_of_getElem? (i := 747) (by decide +kernel)⟩
theorem lw_p46 : lw_okq (⟨"OtherHat$Sheet", "hasRun", "(II)Z"⟩, 3) := ⟨⟨by decide +kernel, by decide +kernel⟩, List.mem_of_getElem? (i := 202) (by decide +kernel), List.mem_of_getElem? (i := 754) (by decide +kernel), List.mem_of_getElem? (i := 755) (by decide +kernel)⟩
theorem lw_p47 : lw_okq (⟨"OtherHat$Sheet", "asWorlds", "()J"⟩, 3) := ⟨⟨by decide +kernel, by decide +kernel⟩, List.mem_of_getElem? (i := 202) (by decide +kernel), List.mem_of_getElem? (i := 765) (by decide +kernel), List.mem_of_getElem? (i := 766) (by decide +kernel)⟩
def lw_privs_3 : List (MethodName × Nat) := [(⟨"OtherHat$Book", "drawn", "()I"⟩, 6), (⟨"OtherHat", "startAhead", "()V"⟩, 8), (⟨"OtherHat$Scene", "take", "(LOtherHat$Scene;)V"⟩, 11), (⟨"OtherHat", "ringAhead", "(I)I"⟩, 8), (⟨"OtherHat$Scene", "isPastAllNumbers", "()Z"⟩, 11), (⟨"OtherHat", "bellsTillSpoken", "(I)I"⟩, 8), (⟨"OtherHat", "ranAlike", "()J"⟩, 8), (⟨"OtherHat", "knowBySignal", "(I)I"⟩, 8), (⟨"OtherHat$Voices", "heard", "(LOtherHat$Scene;III)I"⟩, 4), (⟨"OtherHat$Voices", "own", "(III)I"⟩, 4), (⟨"OtherHat$Voices", "from", "(IIII)I"⟩, 4), (⟨"OtherHat$Voices", "workedOut", "(III)I"⟩, 4), (⟨"OtherHat$Sheet", "renew", "(II)V"⟩, 3), (⟨"OtherHat$Sheet", "write", "(II)V"⟩, 3), (⟨"OtherHat$Sheet", "hasRun", "(II)Z"⟩, 3), (⟨"OtherHat$Sheet", "asWorlds", "()J"⟩, 3)]
theorem lw_r3 : ∀ q ∈ lw_privs_3, lw_okq q := List.forall_mem_cons.mpr ⟨lw_p32, List.forall_mem_cons.mpr ⟨lw_p33, List.forall_mem_cons.mpr ⟨lw_p34, List.forall_mem_cons.mpr ⟨lw_p35, List.forall_mem_cons.mpr ⟨lw_p36, List.forall_mem_cons.mpr ⟨lw_p37, List.forall_mem_cons.mpr ⟨lw_p38, List.forall_mem_cons.mpr ⟨lw_p39, List.forall_mem_cons.mpr ⟨lw_p40, List.forall_mem_cons.mpr ⟨lw_p41, List.forall_mem_cons.mpr ⟨lw_p42, List.forall_mem_cons.mpr ⟨lw_p43, List.forall_mem_cons.mpr ⟨lw_p44, List.forall_mem_cons.mpr ⟨lw_p45, List.forall_mem_cons.mpr ⟨lw_p46, List.forall_mem_cons.mpr ⟨lw_p47, fun _ h => absurd h List.not_mem_nil⟩⟩⟩⟩⟩⟩⟩⟩⟩⟩⟩⟩⟩⟩⟩⟩
theorem lw_p48 : lw_okq (⟨"OtherHat$Book", "take", "(LOtherHat$Book;)V"⟩, 6) := ⟨⟨by decide +kernel, by decide +kernel⟩, List.mem_of_getElem? (i := 28) (by decide +kernel), List.mem_of_getElem? (i := 773) (by decide +kernel), List.mem_of_getElem? (i := 774) (by decide +kernel)⟩
theorem lw_p49 : lw_okq (⟨"OtherHatModel", "finds", "(I)I"⟩, 26) := ⟨⟨by decide +kernel, by decide +kernel⟩, List.mem_of_getElem? (i := 799) (by decide +kernel), List.mem_of_getElem? (i := 892) (by decide +kernel), List.mem_of_getElem? (i := 893) (by decide +kernel)⟩
theorem lw_p50 : lw_okq (⟨"OtherHatModel", "worked", "(III)I"⟩, 26) := ⟨⟨by decide +kernel, by decide +kernel⟩, List.mem_of_getElem? (i := 799) (by decide +kernel), List.mem_of_getElem? (i := 902) (by decide +kernel), List.mem_of_getElem? (i := 903) (by decide +kernel)⟩
theorem lw_p51 : lw_okq (⟨"OtherHatModel", "either", "()I"⟩, 26) := ⟨⟨by decide +kernel, by decide +kernel⟩, List.mem_of_getElem? (i := 799) (by decide +kernel), List.mem_of_getElem? (i := 906) (by decide +kernel), List.mem_of_getElem? (i := 907) (by decide +kernel)⟩
theorem lw_p52 : lw_okq (⟨"OtherHatModel", "both", "()I"⟩, 26) := ⟨⟨by decide +kernel, by decide +kernel⟩, List.mem_of_getElem? (i := 799) (by decide +kernel), List.mem_of_getElem? (i := 910) (by decide +kernel), List.mem_of_getElem? (i := 911) (by decide +kernel)⟩
theorem lw_p53 : lw_okq (⟨"OtherHatModel", "compared", "()I"⟩, 26) := ⟨⟨by decide +kernel, by decide +kernel⟩, List.mem_of_getElem? (i := 799) (by decide +kernel), List.mem_of_getElem? (i := 914) (by decide +kernel), List.mem_of_getElem? (i := 915) (by decide +kernel)⟩
theorem lw_p54 : lw_okq (⟨"OtherHatModel", "sum", "()I"⟩, 26) := ⟨⟨by decide +kernel, by decide +kernel⟩, List.mem_of_getElem? (i := 799) (by decide +kernel), List.mem_of_getElem? (i := 918) (by decide +kernel), List.mem_of_getElem? (i := 919) (by decide +kernel)⟩
theorem lw_p55 : lw_okq (⟨"OtherHatModel", "product", "()I"⟩, 26) := ⟨⟨by decide +kernel, by decide +kernel⟩, List.mem_of_getElem? (i := 799) (by decide +kernel), List.mem_of_getElem? (i := 922) (by decide +kernel), List.mem_of_getElem? (i := 923) (by decide +kernel)⟩
theorem lw_p56 : lw_okq (⟨"OtherHatModel", "unit", "()I"⟩, 26) := ⟨⟨by decide +kernel, by decide +kernel⟩, List.mem_of_getElem? (i := 799) (by decide +kernel), List.mem_of_getElem? (i := 926) (by decide +kernel), List.mem_of_getElem? (i := 927) (by decide +kernel)⟩
theorem lw_p57 : lw_okq (⟨"OtherHatModel", "here", "()I"⟩, 26) := ⟨⟨by decide +kernel, by decide +kernel⟩, List.mem_of_getElem? (i := 799) (by decide +kernel), List.mem_of_getElem? (i := 930) (by decide +kernel), List.mem_of_getElem? (i := 931) (by decide +kernel)⟩
theorem lw_p58 : lw_okq (⟨"OtherHatModel", "wrong", "()I"⟩, 26) := ⟨⟨by decide +kernel, by decide +kernel⟩, List.mem_of_getElem? (i := 799) (by decide +kernel), List.mem_of_getElem? (i := 934) (by decide +kernel), List.mem_of_getElem? (i := 935) (by decide +kernel)⟩
theorem lw_p59 : lw_okq (⟨"OtherHatModel", "takes", "(I)Z"⟩, 26) := ⟨⟨by decide +kernel, by decide +kernel⟩, List.mem_of_getElem? (i := 799) (by decide +kernel), List.mem_of_getElem? (i := 938) (by decide +kernel), List.mem_of_getElem? (i := 939) (by decide +kernel)⟩
theorem lw_p60 : lw_okq (⟨"OtherHatModel", "nameOf", "(I)I"⟩, 26) := ⟨⟨by decide +kernel, by decide +kernel⟩, List.mem_of_getElem? (i := 799) (by decide +kernel), List.mem_of_getElem? (i := 942) (by decide +kernel), List.mem_of_getElem? (i := 943) (by decide +kernel)⟩
theorem lw_p61 : lw_okq (⟨"OtherHatModel", "gives", "(IIIII)I"⟩, 26) := ⟨⟨by decide +kernel, by decide +kernel⟩, List.mem_of_getElem? (i := 799) (by decide +kernel), List.mem_of_getElem? (i := 952) (by decide +kernel), List.mem_of_getElem? (i := 953) (by decide +kernel)⟩
theorem lw_p62 : lw_okq (⟨"OtherHatModel", "isOpen", "()Z"⟩, 26) := ⟨⟨by decide +kernel, by decide +kernel⟩, List.mem_of_getElem? (i := 799) (by decide +kernel), List.mem_of_getElem? (i := 964) (by decide +kernel), List.mem_of_getElem? (i := 965) (by decide +kernel)⟩
theorem lw_p63 : lw_okq (⟨"OtherHatModel", "of", "(II)I"⟩, 26) := ⟨⟨by decide +kernel, by decide +kernel⟩, List.mem_of_getElem? (i := 799) (by decide +kernel), List.mem_of_getElem? (i := 968) (by decide +kernel), List.mem_of_getElem? (i := 969) (by decide +kernel)⟩
def lw_privs_4 : List (MethodName × Nat) := [(⟨"OtherHat$Book", "take", "(LOtherHat$Book;)V"⟩, 6), (⟨"OtherHatModel", "finds", "(I)I"⟩, 26), (⟨"OtherHatModel", "worked", "(III)I"⟩, 26), (⟨"OtherHatModel", "either", "()I"⟩, 26), (⟨"OtherHatModel", "both", "()I"⟩, 26), (⟨"OtherHatModel", "compared", "()I"⟩, 26), (⟨"OtherHatModel", "sum", "()I"⟩, 26), (⟨"OtherHatModel", "product", "()I"⟩, 26), (⟨"OtherHatModel", "unit", "()I"⟩, 26), (⟨"OtherHatModel", "here", "()I"⟩, 26), (⟨"OtherHatModel", "wrong", "()I"⟩, 26), (⟨"OtherHatModel", "takes", "(I)Z"⟩, 26), (⟨"OtherHatModel", "nameOf", "(I)I"⟩, 26), (⟨"OtherHatModel", "gives", "(IIIII)I"⟩, 26), (⟨"OtherHatModel", "isOpen", "()Z"⟩, 26), (⟨"OtherHatModel", "of", "(II)I"⟩, 26)]
theorem lw_r4 : ∀ q ∈ lw_privs_4, lw_okq q := List.forall_mem_cons.mpr ⟨lw_p48, List.forall_mem_cons.mpr ⟨lw_p49, List.forall_mem_cons.mpr ⟨lw_p50, List.forall_mem_cons.mpr ⟨lw_p51, List.forall_mem_cons.mpr ⟨lw_p52, List.forall_mem_cons.mpr ⟨lw_p53, List.forall_mem_cons.mpr ⟨lw_p54, List.forall_mem_cons.mpr ⟨lw_p55, List.forall_mem_cons.mpr ⟨lw_p56, List.forall_mem_cons.mpr ⟨lw_p57, List.forall_mem_cons.mpr ⟨lw_p58, List.forall_mem_cons.mpr ⟨lw_p59, List.forall_mem_cons.mpr ⟨lw_p60, List.forall_mem_cons.mpr ⟨lw_p61, List.forall_mem_cons.mpr ⟨lw_p62, List.forall_mem_cons.mpr ⟨lw_p63, fun _ h => absurd h List.not_mem_nil⟩⟩⟩⟩⟩⟩⟩⟩⟩⟩⟩⟩⟩⟩⟩⟩
theorem lw_p64 : lw_okq (⟨"OtherHatModel", "becomes", "(III)V"⟩, 26) := ⟨⟨by decide +kernel, by decide +kernel⟩, List.mem_of_getElem? (i := 799) (by decide +kernel), List.mem_of_getElem? (i := 972) (by decide +kernel), List.mem_of_getElem? (i := 973) (by decide +kernel)⟩
theorem lw_p65 : lw_okq (⟨"OtherHatModel", "isMan", "(I)Z"⟩, 26) := ⟨⟨by decide +kernel, by decide +kernel⟩, List.mem_of_getElem? (i := 799) (by decide +kernel), List.mem_of_getElem? (i := 980) (by decide +kernel), List.mem_of_getElem? (i := 981) (by decide +kernel)⟩
theorem lw_p66 : lw_okq (⟨"OtherHatModel", "allMen", "()I"⟩, 26) := ⟨⟨by decide +kernel, by decide +kernel⟩, List.mem_of_getElem? (i := 799) (by decide +kernel), List.mem_of_getElem? (i := 991) (by decide +kernel), List.mem_of_getElem? (i := 992) (by decide +kernel)⟩
theorem lw_p67 : lw_okq (⟨"OtherHatModel", "hats", "()I"⟩, 26) := ⟨⟨by decide +kernel, by decide +kernel⟩, List.mem_of_getElem? (i := 799) (by decide +kernel), List.mem_of_getElem? (i := 1019) (by decide +kernel), List.mem_of_getElem? (i := 1020) (by decide +kernel)⟩
theorem lw_p68 : lw_okq (⟨"OtherHatModel", "rung", "(IZ)I"⟩, 26) := ⟨⟨by decide +kernel, by decide +kernel⟩, List.mem_of_getElem? (i := 799) (by decide +kernel), List.mem_of_getElem? (i := 1034) (by decide +kernel), List.mem_of_getElem? (i := 1035) (by decide +kernel)⟩
theorem lw_p69 : lw_okq (⟨"OtherHatModel", "goesOn", "(IZ)V"⟩, 26) := ⟨⟨by decide +kernel, by decide +kernel⟩, List.mem_of_getElem? (i := 799) (by decide +kernel), List.mem_of_getElem? (i := 1039) (by decide +kernel), List.mem_of_getElem? (i := 1040) (by decide +kernel)⟩
theorem lw_p70 : lw_okq (⟨"OtherHatModel", "rings", "(Z)V"⟩, 26) := ⟨⟨by decide +kernel, by decide +kernel⟩, List.mem_of_getElem? (i := 799) (by decide +kernel), List.mem_of_getElem? (i := 1043) (by decide +kernel), List.mem_of_getElem? (i := 1044) (by decide +kernel)⟩
theorem lw_p71 : lw_okq (⟨"OtherHatModel", "think", "()V"⟩, 26) := ⟨⟨by decide +kernel, by decide +kernel⟩, List.mem_of_getElem? (i := 799) (by decide +kernel), List.mem_of_getElem? (i := 1047) (by decide +kernel), List.mem_of_getElem? (i := 1048) (by decide +kernel)⟩
theorem lw_p72 : lw_okq (⟨"OtherHatModel", "isPossible", "(I)Z"⟩, 26) := ⟨⟨by decide +kernel, by decide +kernel⟩, List.mem_of_getElem? (i := 799) (by decide +kernel), List.mem_of_getElem? (i := 1051) (by decide +kernel), List.mem_of_getElem? (i := 1052) (by decide +kernel)⟩
theorem lw_p73 : lw_okq (⟨"OtherHatModel", "speakers", "(I)I"⟩, 26) := ⟨⟨by decide +kernel, by decide +kernel⟩, List.mem_of_getElem? (i := 799) (by decide +kernel), List.mem_of_getElem? (i := 1055) (by decide +kernel), List.mem_of_getElem? (i := 1056) (by decide +kernel)⟩
theorem lw_p74 : lw_okq (⟨"OtherHatModel", "speaks", "(II)Z"⟩, 26) := ⟨⟨by decide +kernel, by decide +kernel⟩, List.mem_of_getElem? (i := 799) (by decide +kernel), List.mem_of_getElem? (i := 1059) (by decide +kernel), List.mem_of_getElem? (i := 1060) (by decide +kernel)⟩
theorem lw_p75 : lw_okq (⟨"OtherHatModel", "isHasty", "(II)Z"⟩, 26) := ⟨⟨by decide +kernel, by decide +kernel⟩, List.mem_of_getElem? (i := 799) (by decide +kernel), List.mem_of_getElem? (i := 1063) (by decide +kernel), List.mem_of_getElem? (i := 1064) (by decide +kernel)⟩
theorem lw_p76 : lw_okq (⟨"OtherHatModel", "knows", "(II)Z"⟩, 26) := ⟨⟨by decide +kernel, by decide +kernel⟩, List.mem_of_getElem? (i := 799) (by decide +kernel), List.mem_of_getElem? (i := 1067) (by decide +kernel), List.mem_of_getElem? (i := 1068) (by decide +kernel)⟩
theorem lw_p77 : lw_okq (⟨"OtherHatModel", "blackOf", "(II)I"⟩, 26) := ⟨⟨by decide +kernel, by decide +kernel⟩, List.mem_of_getElem? (i := 799) (by decide +kernel), List.mem_of_getElem? (i := 1071) (by decide +kernel), List.mem_of_getElem? (i := 1072) (by decide +kernel)⟩
theorem lw_p78 : lw_okq (⟨"OtherHatModel", "whiteOf", "(II)I"⟩, 26) := ⟨⟨by decide +kernel, by decide +kernel⟩, List.mem_of_getElem? (i := 799) (by decide +kernel), List.mem_of_getElem? (i := 1075) (by decide +kernel), List.mem_of_getElem? (i := 1076) (by decide +kernel)⟩
theorem lw_p79 : lw_okq (⟨"OtherHatModel", "sayings", "(II)I"⟩, 26) := ⟨⟨by decide +kernel, by decide +kernel⟩, List.mem_of_getElem? (i := 799) (by decide +kernel), List.mem_of_getElem? (i := 1079) (by decide +kernel), List.mem_of_getElem? (i := 1080) (by decide +kernel)⟩
def lw_privs_5 : List (MethodName × Nat) := [(⟨"OtherHatModel", "becomes", "(III)V"⟩, 26), (⟨"OtherHatModel", "isMan", "(I)Z"⟩, 26), (⟨"OtherHatModel", "allMen", "()I"⟩, 26), (⟨"OtherHatModel", "hats", "()I"⟩, 26), (⟨"OtherHatModel", "rung", "(IZ)I"⟩, 26), (⟨"OtherHatModel", "goesOn", "(IZ)V"⟩, 26), (⟨"OtherHatModel", "rings", "(Z)V"⟩, 26), (⟨"OtherHatModel", "think", "()V"⟩, 26), (⟨"OtherHatModel", "isPossible", "(I)Z"⟩, 26), (⟨"OtherHatModel", "speakers", "(I)I"⟩, 26), (⟨"OtherHatModel", "speaks", "(II)Z"⟩, 26), (⟨"OtherHatModel", "isHasty", "(II)Z"⟩, 26), (⟨"OtherHatModel", "knows", "(II)Z"⟩, 26), (⟨"OtherHatModel", "blackOf", "(II)I"⟩, 26), (⟨"OtherHatModel", "whiteOf", "(II)I"⟩, 26), (⟨"OtherHatModel", "sayings", "(II)I"⟩, 26)]
theorem lw_r5 : ∀ q ∈ lw_privs_5, lw_okq q := List.forall_mem_cons.mpr ⟨lw_p64, List.forall_mem_cons.mpr ⟨lw_p65, List.forall_mem_cons.mpr ⟨lw_p66, List.forall_mem_cons.mpr ⟨lw_p67, List.forall_mem_cons.mpr ⟨lw_p68, List.forall_mem_cons.mpr ⟨lw_p69, List.forall_mem_cons.mpr ⟨lw_p70, List.forall_mem_cons.mpr ⟨lw_p71, List.forall_mem_cons.mpr ⟨lw_p72, List.forall_mem_cons.mpr ⟨lw_p73, List.forall_mem_cons.mpr ⟨lw_p74, List.forall_mem_cons.mpr ⟨lw_p75, List.forall_mem_cons.mpr ⟨lw_p76, List.forall_mem_cons.mpr ⟨lw_p77, List.forall_mem_cons.mpr ⟨lw_p78, List.forall_mem_cons.mpr ⟨lw_p79, fun _ h => absurd h List.not_mem_nil⟩⟩⟩⟩⟩⟩⟩⟩⟩⟩⟩⟩⟩⟩⟩⟩
theorem lw_p80 : lw_okq (⟨"OtherHatModel", "wouldSay", "(II)I"⟩, 26) := ⟨⟨by decide +kernel, by decide +kernel⟩, List.mem_of_getElem? (i := 799) (by decide +kernel), List.mem_of_getElem? (i := 1083) (by decide +kernel), List.mem_of_getElem? (i := 1084) (by decide +kernel)⟩
theorem lw_p81 : lw_okq (⟨"OtherHatModel", "drawn", "()I"⟩, 26) := ⟨⟨by decide +kernel, by decide +kernel⟩, List.mem_of_getElem? (i := 799) (by decide +kernel), List.mem_of_getElem? (i := 1087) (by decide +kernel), List.mem_of_getElem? (i := 1088) (by decide +kernel)⟩
theorem lw_p82 : lw_okq (⟨"OtherHatModel", "pays", "(IZI)V"⟩, 26) := ⟨⟨by decide +kernel, by decide +kernel⟩, List.mem_of_getElem? (i := 799) (by decide +kernel), List.mem_of_getElem? (i := 1092) (by decide +kernel), List.mem_of_getElem? (i := 1093) (by decide +kernel)⟩
theorem lw_p83 : lw_okq (⟨"OtherHatModel", "why", "(Z)I"⟩, 26) := ⟨⟨by decide +kernel, by decide +kernel⟩, List.mem_of_getElem? (i := 799) (by decide +kernel), List.mem_of_getElem? (i := 1106) (by decide +kernel), List.mem_of_getElem? (i := 1107) (by decide +kernel)⟩
theorem lw_p84 : lw_okq (⟨"OtherHatModel", "begins", "()V"⟩, 26) := ⟨⟨by decide +kernel, by decide +kernel⟩, List.mem_of_getElem? (i := 799) (by decide +kernel), List.mem_of_getElem? (i := 1118) (by decide +kernel), List.mem_of_getElem? (i := 1119) (by decide +kernel)⟩
theorem lw_p85 : lw_okq (⟨"OtherHatModel", "ends", "()V"⟩, 26) := ⟨⟨by decide +kernel, by decide +kernel⟩, List.mem_of_getElem? (i := 799) (by decide +kernel), List.mem_of_getElem? (i := 1125) (by decide +kernel), List.mem_of_getElem? (i := 1126) (by decide +kernel)⟩
theorem lw_p86 : lw_okq (⟨"OtherHatModel", "soonest", "(I)I"⟩, 26) := ⟨⟨by decide +kernel, by decide +kernel⟩, List.mem_of_getElem? (i := 799) (by decide +kernel), List.mem_of_getElem? (i := 1137) (by decide +kernel), List.mem_of_getElem? (i := 1138) (by decide +kernel)⟩
theorem lw_p87 : lw_okq (⟨"OtherHatModel", "othersBy", "(II)I"⟩, 26) := ⟨⟨by decide +kernel, by decide +kernel⟩, List.mem_of_getElem? (i := 799) (by decide +kernel), List.mem_of_getElem? (i := 1145) (by decide +kernel), List.mem_of_getElem? (i := 1146) (by decide +kernel)⟩
theorem lw_p88 : lw_okq (⟨"OtherHatModel", "hatsBecome", "(I)V"⟩, 26) := ⟨⟨by decide +kernel, by decide +kernel⟩, List.mem_of_getElem? (i := 799) (by decide +kernel), List.mem_of_getElem? (i := 1153) (by decide +kernel), List.mem_of_getElem? (i := 1154) (by decide +kernel)⟩
theorem lw_p89 : lw_okq (⟨"OtherHatModel", "whoKnowBy", "(I)I"⟩, 26) := ⟨⟨by decide +kernel, by decide +kernel⟩, List.mem_of_getElem? (i := 799) (by decide +kernel), List.mem_of_getElem? (i := 1165) (by decide +kernel), List.mem_of_getElem? (i := 1166) (by decide +kernel)⟩
theorem lw_p90 : lw_okq (⟨"OtherHatModel", "own", "()I"⟩, 26) := ⟨⟨by decide +kernel, by decide +kernel⟩, List.mem_of_getElem? (i := 799) (by decide +kernel), List.mem_of_getElem? (i := 1192) (by decide +kernel), List.mem_of_getElem? (i := 1193) (by decide +kernel)⟩
theorem lw_p91 : lw_okq (⟨"OtherHatModel", "looks", "(II)I"⟩, 26) := ⟨⟨by decide +kernel, by decide +kernel⟩, List.mem_of_getElem? (i := 799) (by decide +kernel), List.mem_of_getElem? (i := 1196) (by decide +kernel), List.mem_of_getElem? (i := 1197) (by decide +kernel)⟩
theorem lw_p92 : lw_okq (⟨"OtherHatModel", "ran", "(I)V"⟩, 26) := ⟨⟨by decide +kernel, by decide +kernel⟩, List.mem_of_getElem? (i := 799) (by decide +kernel), List.mem_of_getElem? (i := 1200) (by decide +kernel), List.mem_of_getElem? (i := 1201) (by decide +kernel)⟩
theorem lw_p93 : lw_okq (⟨"OtherHatModel", "thoughts", "(II)I"⟩, 26) := ⟨⟨by decide +kernel, by decide +kernel⟩, List.mem_of_getElem? (i := 799) (by decide +kernel), List.mem_of_getElem? (i := 1204) (by decide +kernel), List.mem_of_getElem? (i := 1205) (by decide +kernel)⟩
theorem lw_p94 : lw_okq (⟨"OtherHatModel", "says", "(II)I"⟩, 26) := ⟨⟨by decide +kernel, by decide +kernel⟩, List.mem_of_getElem? (i := 799) (by decide +kernel), List.mem_of_getElem? (i := 1208) (by decide +kernel), List.mem_of_getElem? (i := 1209) (by decide +kernel)⟩
theorem lw_p95 : lw_okq (⟨"OtherHatModel", "tells", "(II)I"⟩, 26) := ⟨⟨by decide +kernel, by decide +kernel⟩, List.mem_of_getElem? (i := 799) (by decide +kernel), List.mem_of_getElem? (i := 1212) (by decide +kernel), List.mem_of_getElem? (i := 1213) (by decide +kernel)⟩
def lw_privs_6 : List (MethodName × Nat) := [(⟨"OtherHatModel", "wouldSay", "(II)I"⟩, 26), (⟨"OtherHatModel", "drawn", "()I"⟩, 26), (⟨"OtherHatModel", "pays", "(IZI)V"⟩, 26), (⟨"OtherHatModel", "why", "(Z)I"⟩, 26), (⟨"OtherHatModel", "begins", "()V"⟩, 26), (⟨"OtherHatModel", "ends", "()V"⟩, 26), (⟨"OtherHatModel", "soonest", "(I)I"⟩, 26), (⟨"OtherHatModel", "othersBy", "(II)I"⟩, 26), (⟨"OtherHatModel", "hatsBecome", "(I)V"⟩, 26), (⟨"OtherHatModel", "whoKnowBy", "(I)I"⟩, 26), (⟨"OtherHatModel", "own", "()I"⟩, 26), (⟨"OtherHatModel", "looks", "(II)I"⟩, 26), (⟨"OtherHatModel", "ran", "(I)V"⟩, 26), (⟨"OtherHatModel", "thoughts", "(II)I"⟩, 26), (⟨"OtherHatModel", "says", "(II)I"⟩, 26), (⟨"OtherHatModel", "tells", "(II)I"⟩, 26)]
theorem lw_r6 : ∀ q ∈ lw_privs_6, lw_okq q := List.forall_mem_cons.mpr ⟨lw_p80, List.forall_mem_cons.mpr ⟨lw_p81, List.forall_mem_cons.mpr ⟨lw_p82, List.forall_mem_cons.mpr ⟨lw_p83, List.forall_mem_cons.mpr ⟨lw_p84, List.forall_mem_cons.mpr ⟨lw_p85, List.forall_mem_cons.mpr ⟨lw_p86, List.forall_mem_cons.mpr ⟨lw_p87, List.forall_mem_cons.mpr ⟨lw_p88, List.forall_mem_cons.mpr ⟨lw_p89, List.forall_mem_cons.mpr ⟨lw_p90, List.forall_mem_cons.mpr ⟨lw_p91, List.forall_mem_cons.mpr ⟨lw_p92, List.forall_mem_cons.mpr ⟨lw_p93, List.forall_mem_cons.mpr ⟨lw_p94, List.forall_mem_cons.mpr ⟨lw_p95, fun _ h => absurd h List.not_mem_nil⟩⟩⟩⟩⟩⟩⟩⟩⟩⟩⟩⟩⟩⟩⟩⟩
def lw_privs : List (MethodName × Nat) := lw_privs_1 ++ (lw_privs_2 ++ (lw_privs_3 ++ (lw_privs_4 ++ (lw_privs_5 ++ (lw_privs_6)))))
def lw_tbl : List Cond := k2_sels lw_privs ++ tables_1
theorem lw_privs_ok : ∀ q ∈ lw_privs, lw_okq q := by
  show ∀ q ∈ lw_privs_1 ++ (lw_privs_2 ++ (lw_privs_3 ++ (lw_privs_4 ++ (lw_privs_5 ++ (lw_privs_6))))), lw_okq q
  exact List.forall_mem_append.mpr ⟨lw_r1, List.forall_mem_append.mpr ⟨lw_r2, List.forall_mem_append.mpr ⟨lw_r3, List.forall_mem_append.mpr ⟨lw_r4, List.forall_mem_append.mpr ⟨lw_r5, lw_r6⟩⟩⟩⟩⟩
/-! ===== BEGIN words of one list among another's, by their places ===== -/
theorem goodIn_r {big : List Cond} (ws : List Cond) (ps : List Nat) (hp : ws = ps.filterMap (fun i => big[i]?)) (h : ws.all goodWord = true) : GoodIn big ws := by
  intro w hw
  have h1 := List.all_eq_true.mp h w hw
  rw [hp] at hw
  obtain ⟨i, -, hi⟩ := List.mem_filterMap.mp hw
  have hm : w ∈ big := by first | exact List.mem_of_getElem? hi | exact List.getElem?_mem hi
  exact ⟨hm, good_of_word h1⟩
theorem goodIn_app {big a b : List Cond} (ha : GoodIn big a) (hb : GoodIn big b) : GoodIn big (a ++ b) := fun w h => (List.mem_append.mp h).elim (ha w) (hb w)
theorem goodIn_ca {big a b : List Cond} {c : Cond} (ha : GoodIn big (c :: a)) (hb : GoodIn big b) : GoodIn big (c :: (a ++ b)) := fun w h => (List.mem_cons.mp h).elim (fun e => ha w (List.mem_cons.mpr (Or.inl e))) (fun h => (List.mem_append.mp h).elim (fun h => ha w (List.mem_cons.mpr (Or.inr h))) (hb w))
theorem goodIn_sub {big ws : List Cond} (hm : ∀ w ∈ ws, w ∈ big) (h : ws.all goodWord = true) : GoodIn big ws := fun w hw => ⟨hm w hw, good_of_word (List.all_eq_true.mp h w hw)⟩
/-! ===== END ===== -/

/-! ===== BEGIN printed: names, fields, word lists, decode rows ===== -/
def RX0 : String := "OtherHat$Book"
def TX0 : u_T := fun k => match k with
  | 0 => ("OtherHat$Book", "scene", "LOtherHat$Scene;", true)
  | 1 => ("OtherHat$Book", "rule", "LOtherHat$Law;", true)
  | 2 => ("OtherHat$Book", "pays", "LOtherHat$Law;", true)
  | 3 => ("OtherHat$Book", "tape", "LOtherHat$Row;", true)
  | 4 => ("OtherHat$Book", "waiting", "LOtherHat$Row;", true)
  | _ => ("OtherHat$Book", "z", "I", false)
def tyX0 : Nat → FieldType := fun k => match k with
  | 0 => .object "OtherHat$Scene"
  | 1 => .object "OtherHat$Law"
  | 2 => .object "OtherHat$Law"
  | 3 => .object "OtherHat$Row"
  | 4 => .object "OtherHat$Row"
  | _ => .int
abbrev wsX00 : List Cond := u_ws RX0 TX0 6
theorem nmX0 : ∀ a, a < 6 → ∀ b, b < 6 → a ≠ b → (TX0 a).2.1 ≠ (TX0 b).2.1 := by decide +kernel
theorem tyX0_ok : ∀ k, k < 6 → parseFieldDescriptor (TX0 k).2.2.1 = some (tyX0 k) := by decide +kernel
abbrev cX0_init : ByteArray := prog_2_method_1_code
def yX0_init : MethodName := ⟨RX0, "<init>", "()V"⟩
abbrev cX0_take : ByteArray := prog_2_method_2_code
def yX0_take : MethodName := ⟨RX0, "take", "(LOtherHat$Book;)V"⟩
abbrev cX0_drawn : ByteArray := prog_2_method_3_code
def yX0_drawn : MethodName := ⟨RX0, "drawn", "()I"⟩
abbrev cX0_ringLoosely : ByteArray := prog_2_method_4_code
def yX0_ringLoosely : MethodName := ⟨RX0, "ringLoosely", "()V"⟩
def RX1 : String := "OtherHat$Law"
def TX1 : u_T := fun k => match k with
  | 0 => ("OtherHat$Law", "use", "I", true)
  | 1 => ("OtherHat$Law", "code", "LOtherHat$Row;", true)
  | _ => ("OtherHat$Law", "stack", "[I", true)
def tyX1 : Nat → FieldType := fun k => match k with
  | 0 => .int
  | 1 => .object "OtherHat$Row"
  | _ => .array .int
abbrev wsX10 : List Cond := u_ws RX1 TX1 3
theorem nmX1 : ∀ a, a < 3 → ∀ b, b < 3 → a ≠ b → (TX1 a).2.1 ≠ (TX1 b).2.1 := by decide +kernel
theorem tyX1_ok : ∀ k, k < 3 → parseFieldDescriptor (TX1 k).2.2.1 = some (tyX1 k) := by decide +kernel
abbrev cX1_init : ByteArray := prog_3_method_1_code
def yX1_init : MethodName := ⟨RX1, "<init>", "(I)V"⟩
abbrev cX1_gives : ByteArray := prog_3_method_2_code
def yX1_gives : MethodName := ⟨RX1, "gives", "(IIII)I"⟩
abbrev cX1_workedOut : ByteArray := prog_3_method_3_code
def yX1_workedOut : MethodName := ⟨RX1, "workedOut", "(IIII)I"⟩
abbrev cX1_named : ByteArray := prog_3_method_4_code
def yX1_named : MethodName := ⟨RX1, "named", "(IIIII)I"⟩
abbrev cX1_joined : ByteArray := prog_3_method_5_code
def yX1_joined : MethodName := ⟨RX1, "joined", "(III)I"⟩
def RX2 : String := "OtherHat$Reader"
def TX2 : u_T := fun k => match k with
  | 0 => ("OtherHat$Reader", "code", "LOtherHat$Row;", true)
  | 1 => ("OtherHat$Reader", "bytes", "LOtherHat$Row;", true)
  | 2 => ("OtherHat$Reader", "names", "Ljava/lang/String;", false)
  | _ => ("OtherHat$Reader", "at", "I", false)
def tyX2 : Nat → FieldType := fun k => match k with
  | 0 => .object "OtherHat$Row"
  | 1 => .object "OtherHat$Row"
  | 2 => .object "java/lang/String"
  | _ => .int
abbrev wsX20 : List Cond := u_ws RX2 TX2 4
theorem nmX2 : ∀ a, a < 4 → ∀ b, b < 4 → a ≠ b → (TX2 a).2.1 ≠ (TX2 b).2.1 := by decide +kernel
theorem tyX2_ok : ∀ k, k < 4 → parseFieldDescriptor (TX2 k).2.2.1 = some (tyX2 k) := by decide +kernel
abbrev cX2_init : ByteArray := prog_4_method_1_code
def yX2_init : MethodName := ⟨RX2, "<init>", "()V"⟩
abbrev cX2_faultOf : ByteArray := prog_4_method_2_code
def yX2_faultOf : MethodName := ⟨RX2, "faultOf", "(LOtherHat$Row;I)I"⟩
abbrev cX2_readLevel : ByteArray := prog_4_method_3_code
def yX2_readLevel : MethodName := ⟨RX2, "readLevel", "(II)Z"⟩
abbrev cX2_readUnit : ByteArray := prog_4_method_4_code
def yX2_readUnit : MethodName := ⟨RX2, "readUnit", "(I)Z"⟩
abbrev cX2_readNot : ByteArray := prog_4_method_5_code
def yX2_readNot : MethodName := ⟨RX2, "readNot", "(I)Z"⟩
abbrev cX2_readInside : ByteArray := prog_4_method_6_code
def yX2_readInside : MethodName := ⟨RX2, "readInside", "(I)Z"⟩
abbrev cX2_readNumber : ByteArray := prog_4_method_7_code
def yX2_readNumber : MethodName := ⟨RX2, "readNumber", "()V"⟩
abbrev cX2_next : ByteArray := prog_4_method_8_code
def yX2_next : MethodName := ⟨RX2, "next", "()I"⟩
abbrev cX2_isDigit : ByteArray := prog_4_method_9_code
def yX2_isDigit : MethodName := ⟨RX2, "isDigit", "(I)Z"⟩
abbrev cX2_isSignOf : ByteArray := prog_4_method_10_code
def yX2_isSignOf : MethodName := ⟨RX2, "isSignOf", "(II)Z"⟩
def RX3 : String := "OtherHat$Row"
def TX3 : u_T := fun k => match k with
  | 0 => ("OtherHat$Row", "items", "[I", true)
  | _ => ("OtherHat$Row", "size", "I", false)
def tyX3 : Nat → FieldType := fun k => match k with
  | 0 => .array .int
  | _ => .int
abbrev wsX30 : List Cond := u_ws RX3 TX3 2
theorem nmX3 : ∀ a, a < 2 → ∀ b, b < 2 → a ≠ b → (TX3 a).2.1 ≠ (TX3 b).2.1 := by decide +kernel
theorem tyX3_ok : ∀ k, k < 2 → parseFieldDescriptor (TX3 k).2.2.1 = some (tyX3 k) := by decide +kernel
abbrev cX3_init : ByteArray := prog_5_method_1_code
def yX3_init : MethodName := ⟨RX3, "<init>", "(I)V"⟩
abbrev cX3_add : ByteArray := prog_5_method_2_code
def yX3_add : MethodName := ⟨RX3, "add", "(I)V"⟩
abbrev cX3_get : ByteArray := prog_5_method_3_code
def yX3_get : MethodName := ⟨RX3, "get", "(I)I"⟩
abbrev cX3_clear : ByteArray := prog_5_method_4_code
def yX3_clear : MethodName := ⟨RX3, "clear", "()V"⟩
abbrev cX3_take : ByteArray := prog_5_method_5_code
def yX3_take : MethodName := ⟨RX3, "take", "(LOtherHat$Row;)V"⟩
def RX4 : String := "OtherHat$Scene"
def TX4 : u_T := fun k => match k with
  | 0 => ("OtherHat$Scene", "men", "I", false)
  | 1 => ("OtherHat$Scene", "kind", "[I", true)
  | 2 => ("OtherHat$Scene", "number", "[I", true)
  | 3 => ("OtherHat$Scene", "sees", "[I", true)
  | 4 => ("OtherHat$Scene", "paid", "[I", true)
  | 5 => ("OtherHat$Scene", "world", "I", false)
  | 6 => ("OtherHat$Scene", "fine", "I", false)
  | 7 => ("OtherHat$Scene", "open", "Z", false)
  | 8 => ("OtherHat$Scene", "possible", "J", false)
  | 9 => ("OtherHat$Scene", "spoke", "I", false)
  | _ => ("OtherHat$Scene", "bell", "I", false)
def tyX4 : Nat → FieldType := fun k => match k with
  | 0 => .int
  | 1 => .array .int
  | 2 => .array .int
  | 3 => .array .int
  | 4 => .array .int
  | 5 => .int
  | 6 => .int
  | 7 => .boolean
  | 8 => .long
  | 9 => .int
  | _ => .int
abbrev wsX40 : List Cond := u_ws RX4 TX4 11
theorem nmX4 : ∀ a, a < 11 → ∀ b, b < 11 → a ≠ b → (TX4 a).2.1 ≠ (TX4 b).2.1 := by decide +kernel
theorem tyX4_ok : ∀ k, k < 11 → parseFieldDescriptor (TX4 k).2.2.1 = some (tyX4 k) := by decide +kernel
abbrev cX4_init : ByteArray := prog_6_method_1_code
def yX4_init : MethodName := ⟨RX4, "<init>", "()V"⟩
abbrev cX4_take : ByteArray := prog_6_method_2_code
def yX4_take : MethodName := ⟨RX4, "take", "(LOtherHat$Scene;)V"⟩
abbrev cX4_worldCount : ByteArray := prog_6_method_3_code
def yX4_worldCount : MethodName := ⟨RX4, "worldCount", "()I"⟩
abbrev cX4_addMan : ByteArray := prog_6_method_4_code
def yX4_addMan : MethodName := ⟨RX4, "addMan", "(I)I"⟩
abbrev cX4_givenBy : ByteArray := prog_6_method_5_code
def yX4_givenBy : MethodName := ⟨RX4, "givenBy", "(LOtherHat$Law;)J"⟩
abbrev cX4_thought : ByteArray := prog_6_method_6_code
def yX4_thought : MethodName := ⟨RX4, "thought", "(II)J"⟩
abbrev cX4_hasSpoken : ByteArray := prog_6_method_7_code
def yX4_hasSpoken : MethodName := ⟨RX4, "hasSpoken", "(I)Z"⟩
abbrev cX4_speaks : ByteArray := prog_6_method_8_code
def yX4_speaks : MethodName := ⟨RX4, "speaks", "(IJ)Z"⟩
abbrev cX4_isSure : ByteArray := prog_6_method_9_code
def yX4_isSure : MethodName := ⟨RX4, "isSure", "(IJ)Z"⟩
abbrev cX4_speakers : ByteArray := prog_6_method_10_code
def yX4_speakers : MethodName := ⟨RX4, "speakers", "()I"⟩
abbrev cX4_sayings : ByteArray := prog_6_method_11_code
def yX4_sayings : MethodName := ⟨RX4, "sayings", "(I)I"⟩
abbrev cX4_ring : ByteArray := prog_6_method_12_code
def yX4_ring : MethodName := ⟨RX4, "ring", "(LOtherHat$Law;)Z"⟩
abbrev cX4_hear : ByteArray := prog_6_method_13_code
def yX4_hear : MethodName := ⟨RX4, "hear", "(IILOtherHat$Law;)Z"⟩
abbrev cX4_fitting : ByteArray := prog_6_method_14_code
def yX4_fitting : MethodName := ⟨RX4, "fitting", "(IJZI)J"⟩
abbrev cX4_payAll : ByteArray := prog_6_method_15_code
def yX4_payAll : MethodName := ⟨RX4, "payAll", "(IILOtherHat$Law;)V"⟩
abbrev cX4_isPastAllNumbers : ByteArray := prog_6_method_16_code
def yX4_isPastAllNumbers : MethodName := ⟨RX4, "isPastAllNumbers", "()Z"⟩
def RX5 : String := "OtherHat$Sheet"
def TX5 : u_T := fun k => match k with
  | 0 => ("OtherHat$Sheet", "bits", "I", false)
  | 1 => ("OtherHat$Sheet", "size", "I", false)
  | _ => ("OtherHat$Sheet", "items", "[I", true)
def tyX5 : Nat → FieldType := fun k => match k with
  | 0 => .int
  | 1 => .int
  | _ => .array .int
abbrev wsX50 : List Cond := u_ws RX5 TX5 3
theorem nmX5 : ∀ a, a < 3 → ∀ b, b < 3 → a ≠ b → (TX5 a).2.1 ≠ (TX5 b).2.1 := by decide +kernel
theorem tyX5_ok : ∀ k, k < 3 → parseFieldDescriptor (TX5 k).2.2.1 = some (tyX5 k) := by decide +kernel
abbrev cX5_init : ByteArray := prog_7_method_1_code
def yX5_init : MethodName := ⟨RX5, "<init>", "()V"⟩
abbrev cX5_renew : ByteArray := prog_7_method_2_code
def yX5_renew : MethodName := ⟨RX5, "renew", "(II)V"⟩
abbrev cX5_write : ByteArray := prog_7_method_3_code
def yX5_write : MethodName := ⟨RX5, "write", "(II)V"⟩
abbrev cX5_hasRun : ByteArray := prog_7_method_4_code
def yX5_hasRun : MethodName := ⟨RX5, "hasRun", "(II)Z"⟩
abbrev cX5_asWorlds : ByteArray := prog_7_method_5_code
def yX5_asWorlds : MethodName := ⟨RX5, "asWorlds", "()J"⟩
def RX6 : String := "OtherHat$Voices"
def TX6 : u_T := fun k => match k with
  | 0 => ("OtherHat$Voices", "bodies", "LOtherHat$Row;", true)
  | 1 => ("OtherHat$Voices", "kind", "I", false)
  | 2 => ("OtherHat$Voices", "n", "I", false)
  | _ => ("OtherHat$Voices", "m", "I", false)
def tyX6 : Nat → FieldType := fun k => match k with
  | 0 => .object "OtherHat$Row"
  | 1 => .int
  | 2 => .int
  | _ => .int
abbrev wsX60 : List Cond := u_ws RX6 TX6 4
theorem nmX6 : ∀ a, a < 4 → ∀ b, b < 4 → a ≠ b → (TX6 a).2.1 ≠ (TX6 b).2.1 := by decide +kernel
theorem tyX6_ok : ∀ k, k < 4 → parseFieldDescriptor (TX6 k).2.2.1 = some (tyX6 k) := by decide +kernel
abbrev cX6_init : ByteArray := prog_8_method_1_code
def yX6_init : MethodName := ⟨RX6, "<init>", "()V"⟩
abbrev cX6_heard : ByteArray := prog_8_method_2_code
def yX6_heard : MethodName := ⟨RX6, "heard", "(LOtherHat$Scene;III)I"⟩
abbrev cX6_own : ByteArray := prog_8_method_3_code
def yX6_own : MethodName := ⟨RX6, "own", "(III)I"⟩
abbrev cX6_from : ByteArray := prog_8_method_4_code
def yX6_from : MethodName := ⟨RX6, "from", "(IIII)I"⟩
abbrev cX6_workedOut : ByteArray := prog_8_method_5_code
def yX6_workedOut : MethodName := ⟨RX6, "workedOut", "(III)I"⟩
def RX7 : String := "OtherHat"
def TX7 : u_T := fun k => match k with
  | 0 => ("OtherHat", "now", "LOtherHat$Book;", true)
  | 1 => ("OtherHat", "kept", "LOtherHat$Book;", true)
  | 2 => ("OtherHat", "ahead", "LOtherHat$Scene;", true)
  | 3 => ("OtherHat", "reader", "LOtherHat$Reader;", true)
  | 4 => ("OtherHat", "voices", "LOtherHat$Voices;", true)
  | 5 => ("OtherHat", "sheets", "[LOtherHat$Sheet;", true)
  | 6 => ("OtherHat", "errors", "[I", true)
  | _ => ("OtherHat", "images", "I", false)
def tyX7 : Nat → FieldType := fun k => match k with
  | 0 => .object "OtherHat$Book"
  | 1 => .object "OtherHat$Book"
  | 2 => .object "OtherHat$Scene"
  | 3 => .object "OtherHat$Reader"
  | 4 => .object "OtherHat$Voices"
  | 5 => .array (.object "OtherHat$Sheet")
  | 6 => .array .int
  | _ => .int
abbrev wsX70 : List Cond := u_ws RX7 TX7 8
theorem nmX7 : ∀ a, a < 8 → ∀ b, b < 8 → a ≠ b → (TX7 a).2.1 ≠ (TX7 b).2.1 := by decide +kernel
theorem tyX7_ok : ∀ k, k < 8 → parseFieldDescriptor (TX7 k).2.2.1 = some (tyX7 k) := by decide +kernel
abbrev cX7_init : ByteArray := prog_1_method_1_code
def yX7_init : MethodName := ⟨RX7, "<init>", "()V"⟩
abbrev cX7_man : ByteArray := prog_1_method_2_code
def yX7_man : MethodName := ⟨RX7, "man", "(I)I"⟩
abbrev cX7_ofMan : ByteArray := prog_1_method_3_code
def yX7_ofMan : MethodName := ⟨RX7, "ofMan", "(II)I"⟩
abbrev cX7_tellMan : ByteArray := prog_1_method_4_code
def yX7_tellMan : MethodName := ⟨RX7, "tellMan", "(III)I"⟩
abbrev cX7_become : ByteArray := prog_1_method_5_code
def yX7_become : MethodName := ⟨RX7, "become", "(II)I"⟩
abbrev cX7_as : ByteArray := prog_1_method_6_code
def yX7_as : MethodName := ⟨RX7, "as", "(II)I"⟩
abbrev cX7_fine : ByteArray := prog_1_method_7_code
def yX7_fine : MethodName := ⟨RX7, "fine", "(I)I"⟩
abbrev cX7_feed : ByteArray := prog_1_method_8_code
def yX7_feed : MethodName := ⟨RX7, "feed", "(JI)I"⟩
abbrev cX7_text : ByteArray := prog_1_method_9_code
def yX7_text : MethodName := ⟨RX7, "text", "(I)I"⟩
abbrev cX7_law : ByteArray := prog_1_method_10_code
def yX7_law : MethodName := ⟨RX7, "law", "(IIIII)I"⟩
abbrev cX7_open : ByteArray := prog_1_method_11_code
def yX7_open : MethodName := ⟨RX7, "open", "()I"⟩
abbrev cX7_close : ByteArray := prog_1_method_12_code
def yX7_close : MethodName := ⟨RX7, "close", "()I"⟩
abbrev cX7_bells : ByteArray := prog_1_method_13_code
def yX7_bells : MethodName := ⟨RX7, "bells", "(I)I"⟩
abbrev cX7_loose : ByteArray := prog_1_method_14_code
def yX7_loose : MethodName := ⟨RX7, "loose", "(I)I"⟩
abbrev cX7_possible : ByteArray := prog_1_method_15_code
def yX7_possible : MethodName := ⟨RX7, "possible", "(I)I"⟩
abbrev cX7_thinks : ByteArray := prog_1_method_16_code
def yX7_thinks : MethodName := ⟨RX7, "thinks", "(II)I"⟩
abbrev cX7_then : ByteArray := prog_1_method_17_code
def yX7_then : MethodName := ⟨RX7, "then", "(II)I"⟩
abbrev cX7_thenPaid : ByteArray := prog_1_method_18_code
def yX7_thenPaid : MethodName := ⟨RX7, "thenPaid", "(II)I"⟩
abbrev cX7_when : ByteArray := prog_1_method_19_code
def yX7_when : MethodName := ⟨RX7, "when", "(I)I"⟩
abbrev cX7_silence : ByteArray := prog_1_method_20_code
def yX7_silence : MethodName := ⟨RX7, "silence", "(II)I"⟩
abbrev cX7_trick : ByteArray := prog_1_method_21_code
def yX7_trick : MethodName := ⟨RX7, "trick", "(II)I"⟩
abbrev cX7_longest : ByteArray := prog_1_method_22_code
def yX7_longest : MethodName := ⟨RX7, "longest", "()I"⟩
abbrev cX7_signal : ByteArray := prog_1_method_23_code
def yX7_signal : MethodName := ⟨RX7, "signal", "(II)I"⟩
abbrev cX7_bestSignal : ByteArray := prog_1_method_24_code
def yX7_bestSignal : MethodName := ⟨RX7, "bestSignal", "(II)I"⟩
abbrev cX7_look : ByteArray := prog_1_method_25_code
def yX7_look : MethodName := ⟨RX7, "look", "(I)I"⟩
abbrev cX7_odds : ByteArray := prog_1_method_26_code
def yX7_odds : MethodName := ⟨RX7, "odds", "(II)J"⟩
abbrev cX7_seed : ByteArray := prog_1_method_27_code
def yX7_seed : MethodName := ⟨RX7, "seed", "(I)I"⟩
abbrev cX7_voice : ByteArray := prog_1_method_28_code
def yX7_voice : MethodName := ⟨RX7, "voice", "(III)I"⟩
abbrev cX7_trace : ByteArray := prog_1_method_29_code
def yX7_trace : MethodName := ⟨RX7, "trace", "(I)I"⟩
abbrev cX7_sheet : ByteArray := prog_1_method_30_code
def yX7_sheet : MethodName := ⟨RX7, "sheet", "(III)I"⟩
abbrev cX7_put : ByteArray := prog_1_method_31_code
def yX7_put : MethodName := ⟨RX7, "put", "(III)I"⟩
abbrev cX7_move : ByteArray := prog_1_method_32_code
def yX7_move : MethodName := ⟨RX7, "move", "(IIIII)I"⟩
abbrev cX7_worlds : ByteArray := prog_1_method_33_code
def yX7_worlds : MethodName := ⟨RX7, "worlds", "(I)I"⟩
abbrev cX7_image : ByteArray := prog_1_method_34_code
def yX7_image : MethodName := ⟨RX7, "image", "()I"⟩
abbrev cX7_restore : ByteArray := prog_1_method_35_code
def yX7_restore : MethodName := ⟨RX7, "restore", "()I"⟩
abbrev cX7_tell : ByteArray := prog_1_method_36_code
def yX7_tell : MethodName := ⟨RX7, "tell", "(I)I"⟩
abbrev cX7_check : ByteArray := prog_1_method_37_code
def yX7_check : MethodName := ⟨RX7, "check", "()I"⟩
abbrev cX7_count : ByteArray := prog_1_method_38_code
def yX7_count : MethodName := ⟨RX7, "count", "(I)I"⟩
abbrev cX7_told : ByteArray := prog_1_method_39_code
def yX7_told : MethodName := ⟨RX7, "told", "(I)I"⟩
abbrev cX7_failed : ByteArray := prog_1_method_40_code
def yX7_failed : MethodName := ⟨RX7, "failed", "(I)I"⟩
abbrev cX7_isMan : ByteArray := prog_1_method_41_code
def yX7_isMan : MethodName := ⟨RX7, "isMan", "(I)Z"⟩
abbrev cX7_isWorld : ByteArray := prog_1_method_42_code
def yX7_isWorld : MethodName := ⟨RX7, "isWorld", "(I)Z"⟩
abbrev cX7_isKindWithNumber : ByteArray := prog_1_method_43_code
def yX7_isKindWithNumber : MethodName := ⟨RX7, "isKindWithNumber", "(I)Z"⟩
abbrev cX7_isUse : ByteArray := prog_1_method_44_code
def yX7_isUse : MethodName := ⟨RX7, "isUse", "(I)Z"⟩
abbrev cX7_isAhead : ByteArray := prog_1_method_45_code
def yX7_isAhead : MethodName := ⟨RX7, "isAhead", "(I)Z"⟩
abbrev cX7_isSheet : ByteArray := prog_1_method_46_code
def yX7_isSheet : MethodName := ⟨RX7, "isSheet", "(I)Z"⟩
abbrev cX7_isOfKind : ByteArray := prog_1_method_47_code
def yX7_isOfKind : MethodName := ⟨RX7, "isOfKind", "(II)Z"⟩
abbrev cX7_lawOf : ByteArray := prog_1_method_48_code
def yX7_lawOf : MethodName := ⟨RX7, "lawOf", "(I)LOtherHat$Law;"⟩
abbrev cX7_whyNoBells : ByteArray := prog_1_method_49_code
def yX7_whyNoBells : MethodName := ⟨RX7, "whyNoBells", "(I)I"⟩
abbrev cX7_startAhead : ByteArray := prog_1_method_50_code
def yX7_startAhead : MethodName := ⟨RX7, "startAhead", "()V"⟩
abbrev cX7_ringAhead : ByteArray := prog_1_method_51_code
def yX7_ringAhead : MethodName := ⟨RX7, "ringAhead", "(I)I"⟩
abbrev cX7_bellsTillSpoken : ByteArray := prog_1_method_52_code
def yX7_bellsTillSpoken : MethodName := ⟨RX7, "bellsTillSpoken", "(I)I"⟩
abbrev cX7_ranAlike : ByteArray := prog_1_method_53_code
def yX7_ranAlike : MethodName := ⟨RX7, "ranAlike", "()J"⟩
abbrev cX7_knowBySignal : ByteArray := prog_1_method_54_code
def yX7_knowBySignal : MethodName := ⟨RX7, "knowBySignal", "(I)I"⟩
abbrev cX7_commonDivisor : ByteArray := prog_1_method_55_code
def yX7_commonDivisor : MethodName := ⟨RX7, "commonDivisor", "(II)I"⟩
abbrev cX7_bit : ByteArray := prog_1_method_56_code
def yX7_bit : MethodName := ⟨RX7, "bit", "(II)I"⟩
abbrev cX7_held : ByteArray := prog_1_method_57_code
def yX7_held : MethodName := ⟨RX7, "held", "(III)I"⟩
abbrev cX7_holds : ByteArray := prog_1_method_58_code
def yX7_holds : MethodName := ⟨RX7, "holds", "(JI)Z"⟩
abbrev cX7_blacks : ByteArray := prog_1_method_59_code
def yX7_blacks : MethodName := ⟨RX7, "blacks", "(IJ)I"⟩
abbrev cX7_whites : ByteArray := prog_1_method_60_code
def yX7_whites : MethodName := ⟨RX7, "whites", "(IJ)I"⟩
abbrev cX7_knows : ByteArray := prog_1_method_61_code
def yX7_knows : MethodName := ⟨RX7, "knows", "(IJ)Z"⟩
abbrev cX7_wouldSay : ByteArray := prog_1_method_62_code
def yX7_wouldSay : MethodName := ⟨RX7, "wouldSay", "(IJ)I"⟩
abbrev cX7_allWhite : ByteArray := prog_1_method_63_code
def yX7_allWhite : MethodName := ⟨RX7, "allWhite", "(I)J"⟩
def RX8 : String := "OtherHatModel"
def TX8 : u_T := fun k => match k with
  | 0 => ("OtherHatModel", "d", "[I", true)
  | 1 => ("OtherHatModel", "e", "[I", true)
  | 2 => ("OtherHatModel", "kept", "[I", true)
  | 3 => ("OtherHatModel", "worlds", "J", false)
  | 4 => ("OtherHatModel", "worldsWere", "J", false)
  | 5 => ("OtherHatModel", "worldsKept", "J", false)
  | 6 => ("OtherHatModel", "images", "I", false)
  | 7 => ("OtherHatModel", "found", "[I", true)
  | 8 => ("OtherHatModel", "base", "I", false)
  | 9 => ("OtherHatModel", "at", "I", false)
  | 10 => ("OtherHatModel", "size", "I", false)
  | 11 => ("OtherHatModel", "fault", "I", false)
  | 12 => ("OtherHatModel", "opened", "I", false)
  | 13 => ("OtherHatModel", "isPay", "Z", false)
  | 14 => ("OtherHatModel", "names", "[I", true)
  | 15 => ("OtherHatModel", "blackBy", "[I", true)
  | 16 => ("OtherHatModel", "whiteBy", "[I", true)
  | 17 => ("OtherHatModel", "blackIn", "[I", true)
  | 18 => ("OtherHatModel", "whiteIn", "[I", true)
  | 19 => ("OtherHatModel", "traced", "[I", true)
  | 20 => ("OtherHatModel", "traceMany", "I", false)
  | 21 => ("OtherHatModel", "who", "I", false)
  | 22 => ("OtherHatModel", "bitsOf", "[I", true)
  | 23 => ("OtherHatModel", "sizeOf", "[I", true)
  | 24 => ("OtherHatModel", "number", "[I", true)
  | _ => ("OtherHatModel", "lifted", "[I", true)
def tyX8 : Nat → FieldType := fun k => match k with
  | 0 => .array .int
  | 1 => .array .int
  | 2 => .array .int
  | 3 => .long
  | 4 => .long
  | 5 => .long
  | 6 => .int
  | 7 => .array .int
  | 8 => .int
  | 9 => .int
  | 10 => .int
  | 11 => .int
  | 12 => .int
  | 13 => .boolean
  | 14 => .array .int
  | 15 => .array .int
  | 16 => .array .int
  | 17 => .array .int
  | 18 => .array .int
  | 19 => .array .int
  | 20 => .int
  | 21 => .int
  | 22 => .array .int
  | 23 => .array .int
  | 24 => .array .int
  | _ => .array .int
abbrev wsX80 : List Cond := u_ws RX8 TX8 26
theorem nmX8 : ∀ a, a < 26 → ∀ b, b < 26 → a ≠ b → (TX8 a).2.1 ≠ (TX8 b).2.1 := by decide +kernel
theorem tyX8_ok : ∀ k, k < 26 → parseFieldDescriptor (TX8 k).2.2.1 = some (tyX8 k) := by decide +kernel
abbrev cX8_init : ByteArray := prog_10_method_1_code
def yX8_init : MethodName := ⟨RX8, "<init>", "()V"⟩
abbrev cX8_finds : ByteArray := prog_10_method_3_code
def yX8_finds : MethodName := ⟨RX8, "finds", "(I)I"⟩
abbrev cX8_in : ByteArray := prog_10_method_4_code
def yX8_in : MethodName := ⟨RX8, "in", "(JJJ)Z"⟩
abbrev cX8_held : ByteArray := prog_10_method_5_code
def yX8_held : MethodName := ⟨RX8, "held", "(III)I"⟩
abbrev cX8_copies : ByteArray := prog_10_method_6_code
def yX8_copies : MethodName := ⟨RX8, "copies", "([I[I)V"⟩
abbrev cX8_isMan : ByteArray := prog_10_method_7_code
def yX8_isMan : MethodName := ⟨RX8, "isMan", "(I)Z"⟩
abbrev cX8_of : ByteArray := prog_10_method_8_code
def yX8_of : MethodName := ⟨RX8, "of", "(II)I"⟩
abbrev cX8_becomes : ByteArray := prog_10_method_9_code
def yX8_becomes : MethodName := ⟨RX8, "becomes", "(III)V"⟩
abbrev cX8_allMen : ByteArray := prog_10_method_10_code
def yX8_allMen : MethodName := ⟨RX8, "allMen", "()I"⟩
abbrev cX8_isOpen : ByteArray := prog_10_method_11_code
def yX8_isOpen : MethodName := ⟨RX8, "isOpen", "()Z"⟩
abbrev cX8_here : ByteArray := prog_10_method_12_code
def yX8_here : MethodName := ⟨RX8, "here", "()I"⟩
abbrev cX8_wrong : ByteArray := prog_10_method_13_code
def yX8_wrong : MethodName := ⟨RX8, "wrong", "()I"⟩
abbrev cX8_takes : ByteArray := prog_10_method_14_code
def yX8_takes : MethodName := ⟨RX8, "takes", "(I)Z"⟩
abbrev cX8_nameOf : ByteArray := prog_10_method_15_code
def yX8_nameOf : MethodName := ⟨RX8, "nameOf", "(I)I"⟩
abbrev cX8_either : ByteArray := prog_10_method_16_code
def yX8_either : MethodName := ⟨RX8, "either", "()I"⟩
abbrev cX8_both : ByteArray := prog_10_method_17_code
def yX8_both : MethodName := ⟨RX8, "both", "()I"⟩
abbrev cX8_compared : ByteArray := prog_10_method_18_code
def yX8_compared : MethodName := ⟨RX8, "compared", "()I"⟩
abbrev cX8_sum : ByteArray := prog_10_method_19_code
def yX8_sum : MethodName := ⟨RX8, "sum", "()I"⟩
abbrev cX8_product : ByteArray := prog_10_method_20_code
def yX8_product : MethodName := ⟨RX8, "product", "()I"⟩
abbrev cX8_unit : ByteArray := prog_10_method_21_code
def yX8_unit : MethodName := ⟨RX8, "unit", "()I"⟩
abbrev cX8_worked : ByteArray := prog_10_method_22_code
def yX8_worked : MethodName := ⟨RX8, "worked", "(III)I"⟩
abbrev cX8_feed : ByteArray := prog_10_method_23_code
def yX8_feed : MethodName := ⟨RX8, "feed", "(JI)I"⟩
abbrev cX8_text : ByteArray := prog_10_method_24_code
def yX8_text : MethodName := ⟨RX8, "text", "(I)I"⟩
abbrev cX8_gives : ByteArray := prog_10_method_25_code
def yX8_gives : MethodName := ⟨RX8, "gives", "(IIIII)I"⟩
abbrev cX8_law : ByteArray := prog_10_method_26_code
def yX8_law : MethodName := ⟨RX8, "law", "(IIIII)I"⟩
abbrev cX8_man : ByteArray := prog_10_method_27_code
def yX8_man : MethodName := ⟨RX8, "man", "(I)I"⟩
abbrev cX8_ofMan : ByteArray := prog_10_method_28_code
def yX8_ofMan : MethodName := ⟨RX8, "ofMan", "(II)I"⟩
abbrev cX8_tellMan : ByteArray := prog_10_method_29_code
def yX8_tellMan : MethodName := ⟨RX8, "tellMan", "(III)I"⟩
abbrev cX8_become : ByteArray := prog_10_method_30_code
def yX8_become : MethodName := ⟨RX8, "become", "(II)I"⟩
abbrev cX8_above : ByteArray := prog_10_method_31_code
def yX8_above : MethodName := ⟨RX8, "above", "(I)I"⟩
abbrev cX8_as : ByteArray := prog_10_method_32_code
def yX8_as : MethodName := ⟨RX8, "as", "(II)I"⟩
abbrev cX8_fine : ByteArray := prog_10_method_33_code
def yX8_fine : MethodName := ⟨RX8, "fine", "(I)I"⟩
abbrev cX8_ones : ByteArray := prog_10_method_34_code
def yX8_ones : MethodName := ⟨RX8, "ones", "(I)I"⟩
abbrev cX8_manyOf : ByteArray := prog_10_method_35_code
def yX8_manyOf : MethodName := ⟨RX8, "manyOf", "(J)I"⟩
abbrev cX8_isPossible : ByteArray := prog_10_method_36_code
def yX8_isPossible : MethodName := ⟨RX8, "isPossible", "(I)Z"⟩
abbrev cX8_hats : ByteArray := prog_10_method_37_code
def yX8_hats : MethodName := ⟨RX8, "hats", "()I"⟩
abbrev cX8_think : ByteArray := prog_10_method_38_code
def yX8_think : MethodName := ⟨RX8, "think", "()V"⟩
abbrev cX8_blackOf : ByteArray := prog_10_method_39_code
def yX8_blackOf : MethodName := ⟨RX8, "blackOf", "(II)I"⟩
abbrev cX8_whiteOf : ByteArray := prog_10_method_40_code
def yX8_whiteOf : MethodName := ⟨RX8, "whiteOf", "(II)I"⟩
abbrev cX8_knows : ByteArray := prog_10_method_41_code
def yX8_knows : MethodName := ⟨RX8, "knows", "(II)Z"⟩
abbrev cX8_wouldSay : ByteArray := prog_10_method_42_code
def yX8_wouldSay : MethodName := ⟨RX8, "wouldSay", "(II)I"⟩
abbrev cX8_isHasty : ByteArray := prog_10_method_43_code
def yX8_isHasty : MethodName := ⟨RX8, "isHasty", "(II)Z"⟩
abbrev cX8_speaks : ByteArray := prog_10_method_44_code
def yX8_speaks : MethodName := ⟨RX8, "speaks", "(II)Z"⟩
abbrev cX8_speakers : ByteArray := prog_10_method_45_code
def yX8_speakers : MethodName := ⟨RX8, "speakers", "(I)I"⟩
abbrev cX8_sayings : ByteArray := prog_10_method_46_code
def yX8_sayings : MethodName := ⟨RX8, "sayings", "(II)I"⟩
abbrev cX8_open : ByteArray := prog_10_method_47_code
def yX8_open : MethodName := ⟨RX8, "open", "()I"⟩
abbrev cX8_close : ByteArray := prog_10_method_48_code
def yX8_close : MethodName := ⟨RX8, "close", "()I"⟩
abbrev cX8_drawn : ByteArray := prog_10_method_49_code
def yX8_drawn : MethodName := ⟨RX8, "drawn", "()I"⟩
abbrev cX8_pays : ByteArray := prog_10_method_50_code
def yX8_pays : MethodName := ⟨RX8, "pays", "(IZI)V"⟩
abbrev cX8_rings : ByteArray := prog_10_method_51_code
def yX8_rings : MethodName := ⟨RX8, "rings", "(Z)V"⟩
abbrev cX8_goesOn : ByteArray := prog_10_method_52_code
def yX8_goesOn : MethodName := ⟨RX8, "goesOn", "(IZ)V"⟩
abbrev cX8_rung : ByteArray := prog_10_method_53_code
def yX8_rung : MethodName := ⟨RX8, "rung", "(IZ)I"⟩
abbrev cX8_bells : ByteArray := prog_10_method_54_code
def yX8_bells : MethodName := ⟨RX8, "bells", "(I)I"⟩
abbrev cX8_loose : ByteArray := prog_10_method_55_code
def yX8_loose : MethodName := ⟨RX8, "loose", "(I)I"⟩
abbrev cX8_why : ByteArray := prog_10_method_56_code
def yX8_why : MethodName := ⟨RX8, "why", "(Z)I"⟩
abbrev cX8_possible : ByteArray := prog_10_method_57_code
def yX8_possible : MethodName := ⟨RX8, "possible", "(I)I"⟩
abbrev cX8_thinks : ByteArray := prog_10_method_58_code
def yX8_thinks : MethodName := ⟨RX8, "thinks", "(II)I"⟩
abbrev cX8_begins : ByteArray := prog_10_method_59_code
def yX8_begins : MethodName := ⟨RX8, "begins", "()V"⟩
abbrev cX8_ends : ByteArray := prog_10_method_60_code
def yX8_ends : MethodName := ⟨RX8, "ends", "()V"⟩
abbrev cX8_then : ByteArray := prog_10_method_61_code
def yX8_then : MethodName := ⟨RX8, "then", "(II)I"⟩
abbrev cX8_thenPaid : ByteArray := prog_10_method_62_code
def yX8_thenPaid : MethodName := ⟨RX8, "thenPaid", "(II)I"⟩
abbrev cX8_soonest : ByteArray := prog_10_method_63_code
def yX8_soonest : MethodName := ⟨RX8, "soonest", "(I)I"⟩
abbrev cX8_when : ByteArray := prog_10_method_64_code
def yX8_when : MethodName := ⟨RX8, "when", "(I)I"⟩
abbrev cX8_othersBy : ByteArray := prog_10_method_65_code
def yX8_othersBy : MethodName := ⟨RX8, "othersBy", "(II)I"⟩
abbrev cX8_silence : ByteArray := prog_10_method_66_code
def yX8_silence : MethodName := ⟨RX8, "silence", "(II)I"⟩
abbrev cX8_hatsBecome : ByteArray := prog_10_method_67_code
def yX8_hatsBecome : MethodName := ⟨RX8, "hatsBecome", "(I)V"⟩
abbrev cX8_trick : ByteArray := prog_10_method_68_code
def yX8_trick : MethodName := ⟨RX8, "trick", "(II)I"⟩
abbrev cX8_longest : ByteArray := prog_10_method_69_code
def yX8_longest : MethodName := ⟨RX8, "longest", "()I"⟩
abbrev cX8_whoKnowBy : ByteArray := prog_10_method_70_code
def yX8_whoKnowBy : MethodName := ⟨RX8, "whoKnowBy", "(I)I"⟩
abbrev cX8_signal : ByteArray := prog_10_method_71_code
def yX8_signal : MethodName := ⟨RX8, "signal", "(II)I"⟩
abbrev cX8_bestSignal : ByteArray := prog_10_method_72_code
def yX8_bestSignal : MethodName := ⟨RX8, "bestSignal", "(II)I"⟩
abbrev cX8_look : ByteArray := prog_10_method_73_code
def yX8_look : MethodName := ⟨RX8, "look", "(I)I"⟩
abbrev cX8_common : ByteArray := prog_10_method_74_code
def yX8_common : MethodName := ⟨RX8, "common", "(II)I"⟩
abbrev cX8_odds : ByteArray := prog_10_method_75_code
def yX8_odds : MethodName := ⟨RX8, "odds", "(II)J"⟩
abbrev cX8_seed : ByteArray := prog_10_method_76_code
def yX8_seed : MethodName := ⟨RX8, "seed", "(I)I"⟩
abbrev cX8_ran : ByteArray := prog_10_method_77_code
def yX8_ran : MethodName := ⟨RX8, "ran", "(I)V"⟩
abbrev cX8_own : ByteArray := prog_10_method_78_code
def yX8_own : MethodName := ⟨RX8, "own", "()I"⟩
abbrev cX8_looks : ByteArray := prog_10_method_79_code
def yX8_looks : MethodName := ⟨RX8, "looks", "(II)I"⟩
abbrev cX8_thoughts : ByteArray := prog_10_method_80_code
def yX8_thoughts : MethodName := ⟨RX8, "thoughts", "(II)I"⟩
abbrev cX8_says : ByteArray := prog_10_method_81_code
def yX8_says : MethodName := ⟨RX8, "says", "(II)I"⟩
abbrev cX8_tells : ByteArray := prog_10_method_82_code
def yX8_tells : MethodName := ⟨RX8, "tells", "(II)I"⟩
abbrev cX8_voice : ByteArray := prog_10_method_83_code
def yX8_voice : MethodName := ⟨RX8, "voice", "(III)I"⟩
abbrev cX8_trace : ByteArray := prog_10_method_84_code
def yX8_trace : MethodName := ⟨RX8, "trace", "(I)I"⟩
abbrev cX8_isSheet : ByteArray := prog_10_method_85_code
def yX8_isSheet : MethodName := ⟨RX8, "isSheet", "(I)Z"⟩
abbrev cX8_sheet : ByteArray := prog_10_method_86_code
def yX8_sheet : MethodName := ⟨RX8, "sheet", "(III)I"⟩
abbrev cX8_put : ByteArray := prog_10_method_87_code
def yX8_put : MethodName := ⟨RX8, "put", "(III)I"⟩
abbrev cX8_move : ByteArray := prog_10_method_88_code
def yX8_move : MethodName := ⟨RX8, "move", "(IIIII)I"⟩
abbrev cX8_worlds : ByteArray := prog_10_method_89_code
def yX8_worlds : MethodName := ⟨RX8, "worlds", "(I)I"⟩
abbrev cX8_image : ByteArray := prog_10_method_90_code
def yX8_image : MethodName := ⟨RX8, "image", "()I"⟩
abbrev cX8_restore : ByteArray := prog_10_method_91_code
def yX8_restore : MethodName := ⟨RX8, "restore", "()I"⟩
abbrev cX8_tell : ByteArray := prog_10_method_92_code
def yX8_tell : MethodName := ⟨RX8, "tell", "(I)I"⟩
abbrev cX8_check : ByteArray := prog_10_method_93_code
def yX8_check : MethodName := ⟨RX8, "check", "()I"⟩
abbrev cX8_count : ByteArray := prog_10_method_94_code
def yX8_count : MethodName := ⟨RX8, "count", "(I)I"⟩
abbrev cX8_told : ByteArray := prog_10_method_95_code
def yX8_told : MethodName := ⟨RX8, "told", "(I)I"⟩
def RJ11 : String := "java/lang/Character"
def TJ11 : u_T := fun k => match k with
  | _ => ("", "", "", false)
def tyJ11 : Nat → FieldType := fun k => match k with
  | _ => .int
abbrev wsJ110 : List Cond := u_ws RJ11 TJ11 0
theorem nmJ11 : ∀ a, a < 0 → ∀ b, b < 0 → a ≠ b → (TJ11 a).2.1 ≠ (TJ11 b).2.1 := by decide +kernel
theorem tyJ11_ok : ∀ k, k < 0 → parseFieldDescriptor (TJ11 k).2.2.1 = some (tyJ11 k) := by decide +kernel
abbrev cJ11_isValidCodePoint_9a6ad : ByteArray := prog_11_method_11_code
def yJ11_isValidCodePoint_9a6ad : MethodName := ⟨RJ11, "isValidCodePoint", "(I)Z"⟩
abbrev cJ11_highSurrogate_5068e : ByteArray := prog_11_method_28_code
def yJ11_highSurrogate_5068e : MethodName := ⟨RJ11, "highSurrogate", "(I)C"⟩
abbrev cJ11_lowSurrogate_5068e : ByteArray := prog_11_method_29_code
def yJ11_lowSurrogate_5068e : MethodName := ⟨RJ11, "lowSurrogate", "(I)C"⟩
def RJ6 : String := "java/lang/Integer"
def TJ6 : u_T := fun k => match k with
  | _ => ("", "", "", false)
def tyJ6 : Nat → FieldType := fun k => match k with
  | _ => .int
abbrev wsJ60 : List Cond := u_ws RJ6 TJ6 0
theorem nmJ6 : ∀ a, a < 0 → ∀ b, b < 0 → a ≠ b → (TJ6 a).2.1 ≠ (TJ6 b).2.1 := by decide +kernel
theorem tyJ6_ok : ∀ k, k < 0 → parseFieldDescriptor (TJ6 k).2.2.1 = some (tyJ6 k) := by decide +kernel
abbrev cJ6_bitCount_0f7a4 : ByteArray := prog_12_method_49_code
def yJ6_bitCount_0f7a4 : MethodName := ⟨RJ6, "bitCount", "(I)I"⟩
def RJ13 : String := "java/lang/Long"
def TJ13 : u_T := fun k => match k with
  | _ => ("", "", "", false)
def tyJ13 : Nat → FieldType := fun k => match k with
  | _ => .int
abbrev wsJ130 : List Cond := u_ws RJ13 TJ13 0
theorem nmJ13 : ∀ a, a < 0 → ∀ b, b < 0 → a ≠ b → (TJ13 a).2.1 ≠ (TJ13 b).2.1 := by decide +kernel
theorem tyJ13_ok : ∀ k, k < 0 → parseFieldDescriptor (TJ13 k).2.2.1 = some (tyJ13 k) := by decide +kernel
abbrev cJ13_bitCount_95d88 : ByteArray := prog_13_method_50_code
def yJ13_bitCount_95d88 : MethodName := ⟨RJ13, "bitCount", "(J)I"⟩
def RJ9 : String := "java/lang/Math"
def TJ9 : u_T := fun k => match k with
  | _ => ("", "", "", false)
def tyJ9 : Nat → FieldType := fun k => match k with
  | _ => .int
abbrev wsJ90 : List Cond := u_ws RJ9 TJ9 0
theorem nmJ9 : ∀ a, a < 0 → ∀ b, b < 0 → a ≠ b → (TJ9 a).2.1 ≠ (TJ9 b).2.1 := by decide +kernel
theorem tyJ9_ok : ∀ k, k < 0 → parseFieldDescriptor (TJ9 k).2.2.1 = some (tyJ9 k) := by decide +kernel
abbrev cJ9_max_7cf53 : ByteArray := prog_14_method_65_code
def yJ9_max_7cf53 : MethodName := ⟨RJ9, "max", "(II)I"⟩
abbrev cJ9_min_7cf53 : ByteArray := prog_14_method_69_code
def yJ9_min_7cf53 : MethodName := ⟨RJ9, "min", "(II)I"⟩
def RJ0 : String := "java/lang/String"
def TJ0 : u_T := fun k => match k with
  | _ => ("", "", "", false)
def tyJ0 : Nat → FieldType := fun k => match k with
  | _ => .int
abbrev wsJ00 : List Cond := u_ws RJ0 TJ0 0
theorem nmJ0 : ∀ a, a < 0 → ∀ b, b < 0 → a ≠ b → (TJ0 a).2.1 ≠ (TJ0 b).2.1 := by decide +kernel
theorem tyJ0_ok : ∀ k, k < 0 → parseFieldDescriptor (TJ0 k).2.2.1 = some (tyJ0 k) := by decide +kernel
abbrev cJ0_length_8abf5 : ByteArray := prog_15_method_54_code
def yJ0_length_8abf5 : MethodName := ⟨RJ0, "length", "()I"⟩
abbrev cJ0_indexOf_0f7a4 : ByteArray := prog_15_method_79_code
def yJ0_indexOf_0f7a4 : MethodName := ⟨RJ0, "indexOf", "(I)I"⟩
abbrev cJ0_indexOf_7cf53 : ByteArray := prog_15_method_80_code
def yJ0_indexOf_7cf53 : MethodName := ⟨RJ0, "indexOf", "(II)I"⟩
abbrev cJ0_coder_7d493 : ByteArray := prog_15_method_152_code
def yJ0_coder_7d493 : MethodName := ⟨RJ0, "coder", "()B"⟩
abbrev cJ0_isLatin1_aae02 : ByteArray := prog_15_method_154_code
def yJ0_isLatin1_aae02 : MethodName := ⟨RJ0, "isLatin1", "()Z"⟩
abbrev cJ0_checkBoundsBeginEnd_23922 : ByteArray := prog_15_method_158_code
def yJ0_checkBoundsBeginEnd_23922 : MethodName := ⟨RJ0, "checkBoundsBeginEnd", "(III)V"⟩
def RJ1 : String := "java/lang/StringLatin1"
def TJ1 : u_T := fun k => match k with
  | _ => ("", "", "", false)
def tyJ1 : Nat → FieldType := fun k => match k with
  | _ => .int
abbrev wsJ10 : List Cond := u_ws RJ1 TJ1 0
theorem nmJ1 : ∀ a, a < 0 → ∀ b, b < 0 → a ≠ b → (TJ1 a).2.1 ≠ (TJ1 b).2.1 := by decide +kernel
theorem tyJ1_ok : ∀ k, k < 0 → parseFieldDescriptor (TJ1 k).2.2.1 = some (tyJ1 k) := by decide +kernel
abbrev cJ1_canEncode_9a6ad : ByteArray := prog_16_method_4_code
def yJ1_canEncode_9a6ad : MethodName := ⟨RJ1, "canEncode", "(I)Z"⟩
abbrev cJ1_indexOf_4cfef : ByteArray := prog_16_method_22_code
def yJ1_indexOf_4cfef : MethodName := ⟨RJ1, "indexOf", "([BIII)I"⟩
abbrev cJ1_indexOfChar_4cfef : ByteArray := prog_16_method_23_code
def yJ1_indexOfChar_4cfef : MethodName := ⟨RJ1, "indexOfChar", "([BIII)I"⟩
def RJ2 : String := "java/lang/StringUTF16"
def TJ2 : u_T := fun k => match k with
  | _ => ("", "", "", false)
def tyJ2 : Nat → FieldType := fun k => match k with
  | _ => .int
abbrev wsJ20 : List Cond := u_ws RJ2 TJ2 0
theorem nmJ2 : ∀ a, a < 0 → ∀ b, b < 0 → a ≠ b → (TJ2 a).2.1 ≠ (TJ2 b).2.1 := by decide +kernel
theorem tyJ2_ok : ∀ k, k < 0 → parseFieldDescriptor (TJ2 k).2.2.1 = some (tyJ2 k) := by decide +kernel
abbrev cJ2_getChar_3b067 : ByteArray := prog_17_method_5_code
def yJ2_getChar_3b067 : MethodName := ⟨RJ2, "getChar", "([BI)C"⟩
abbrev cJ2_length_9d52b : ByteArray := prog_17_method_6_code
def yJ2_length_9d52b : MethodName := ⟨RJ2, "length", "([B)I"⟩
abbrev cJ2_indexOf_4cfef : ByteArray := prog_17_method_40_code
def yJ2_indexOf_4cfef : MethodName := ⟨RJ2, "indexOf", "([BIII)I"⟩
abbrev cJ2_indexOfChar_4cfef : ByteArray := prog_17_method_47_code
def yJ2_indexOfChar_4cfef : MethodName := ⟨RJ2, "indexOfChar", "([BIII)I"⟩
abbrev cJ2_indexOfCharUnsafe_4cfef : ByteArray := prog_17_method_48_code
def yJ2_indexOfCharUnsafe_4cfef : MethodName := ⟨RJ2, "indexOfCharUnsafe", "([BIII)I"⟩
abbrev cJ2_indexOfSupplementary_4cfef : ByteArray := prog_17_method_49_code
def yJ2_indexOfSupplementary_4cfef : MethodName := ⟨RJ2, "indexOfSupplementary", "([BIII)I"⟩
abbrev cJ2_checkBoundsBeginEnd_d044e : ByteArray := prog_17_method_93_code
def yJ2_checkBoundsBeginEnd_d044e : MethodName := ⟨RJ2, "checkBoundsBeginEnd", "(II[B)V"⟩
def RJ10 : String := "java/lang/System"
def TJ10 : u_T := fun k => match k with
  | _ => ("", "", "", false)
def tyJ10 : Nat → FieldType := fun k => match k with
  | _ => .int
abbrev wsJ100 : List Cond := u_ws RJ10 TJ10 0
theorem nmJ10 : ∀ a, a < 0 → ∀ b, b < 0 → a ≠ b → (TJ10 a).2.1 ≠ (TJ10 b).2.1 := by decide +kernel
theorem tyJ10_ok : ∀ k, k < 0 → parseFieldDescriptor (TJ10 k).2.2.1 = some (tyJ10 k) := by decide +kernel
def RJ3 : String := "jdk/internal/util/Preconditions"
def TJ3 : u_T := fun k => match k with
  | _ => ("", "", "", false)
def tyJ3 : Nat → FieldType := fun k => match k with
  | _ => .int
abbrev wsJ30 : List Cond := u_ws RJ3 TJ3 0
theorem nmJ3 : ∀ a, a < 0 → ∀ b, b < 0 → a ≠ b → (TJ3 a).2.1 ≠ (TJ3 b).2.1 := by decide +kernel
theorem tyJ3_ok : ∀ k, k < 0 → parseFieldDescriptor (TJ3 k).2.2.1 = some (tyJ3 k) := by decide +kernel
abbrev cJ3_checkFromToIndex_8c36e : ByteArray := prog_19_method_12_code
def yJ3_checkFromToIndex_8c36e : MethodName := ⟨RJ3, "checkFromToIndex", "(IIILjava/util/function/BiFunction;)I"⟩
def RL : String := "OtherHatLaw"
abbrev cL_law : ByteArray := code
def yL_law : MethodName := ⟨RL, "law", "([I)Z"⟩
/-! END names -/
abbrev vwCl : List vw_C := [(RX0, TX0, 6), (RX1, TX1, 3), (RX2, TX2, 4), (RX3, TX3, 2), (RX4, TX4, 11), (RX5, TX5, 3), (RX6, TX6, 4), (RX7, TX7, 8), (RX8, TX8, 26)]
end
section
/-! THEORY: a clean picture of the machine for methods that make no object: ids instead of addresses, two functions for all ints and longs. -/
abbrev oh_St : Type := (Nat → Nat → Int32) × (Nat → Nat → Int64)
abbrev oh_Sh : Type := (Nat × List (Nat × Nat)) ⊕ (Nat ⊕ List Nat)
abbrev oh_L : Type := List (Option Value)
abbrev oh_Q : Type := Option Value → oh_St → Prop
abbrev oh_I : Type := Instr × Nat × Nat × Nat × Nat × Nat × Nat
abbrev oh_C : Type := List oh_I
abbrev oh_T : Type := List (Nat × Option (List Bool) × oh_C)
abbrev oh_E : Type := Nat → List Value → oh_St → oh_Q → Prop
abbrev oh_P : Type := Nat → oh_C → oh_L → List Value → oh_St → Prop
def oh_upi (h : oh_St) (o k : Nat) (v : Int32) : oh_St := (fun a => if a = o then upd (h.1 o) k v else h.1 a, h.2)
def oh_upl (h : oh_St) (o k : Nat) (v : Int64) : oh_St := (h.1, fun a => if a = o then vp_updL (h.2 o) k v else h.2 a)
def oh_upa (h : oh_St) (o : Nat) (f : Nat → Int32) : oh_St := (fun a => if a = o then f else h.1 a, h.2)
def oh_nth {α : Type} : List α → Nat → Option α
  | [], _ => none
  | x :: _, 0 => some x
  | _ :: l, n + 1 => oh_nth l n
theorem oh_nth_eq {α : Type} : ∀ (l : List α) (n : Nat), oh_nth l n = l[n]?
  | [], n => by simp [oh_nth]
  | x :: l, 0 => by simp [oh_nth]
  | x :: l, n + 1 => by simp [oh_nth, oh_nth_eq l n]
def oh_find {α : Type} : List (Nat × α) → Nat → Option α
  | [], _ => none
  | (p, x) :: r, pc => match Nat.beq p pc with
    | true => some x
    | false => oh_find r pc
def oh_get : oh_L → Nat → Option Value
  | [], _ => none
  | o :: _, 0 => o
  | _ :: l, n + 1 => oh_get l n
def oh_put : oh_L → Nat → Option Value → oh_L
  | [], _, _ => []
  | _ :: l, 0, v => v :: l
  | o :: l, n + 1, v => o :: oh_put l n v
def oh_clr (l : oh_L) (i : Nat) : oh_L := match i with
  | 0 => l
  | n + 1 => match oh_get l n with
    | some (.long _) => oh_put l n none
    | some (.double _) => oh_put l n none
    | _ => l
def oh_st1 (l : oh_L) (i : Nat) (v : Value) : oh_L := oh_put (oh_clr l i) i (some v)
def oh_st2 (l : oh_L) (i : Nat) (v : Value) : oh_L := oh_put (oh_put (oh_clr l i) i (some v)) (i + 1) none
def oh_mask : List Bool → oh_L → oh_L
  | true :: m, o :: l => o :: oh_mask m l
  | false :: m, _ :: l => none :: oh_mask m l
  | _, l => l
def oh_xI : List (Nat × List Int32) := [(1000, [-1, 0, 0, 0, 1, 2, 3]), (1001, [10, 11, 12, 13, 0, 20, 0, 0, 30, 0, 0, 0, 0, 0, 40, 0, 0, 50, 0, 0, 0, 0, 0, 60, 0, 0, 70, 71])]
def oh_xL : List (Nat × List Int64) := [(1002, [-6148914691236517206, -3689348814741910324, -1085102592571150096, -71777214294589696, -281470681808896, -4294967296])]
-- words on the stack
def oh_II (st : List Value) (K : Int32 → Int32 → List Value → Prop) : Prop := match st with
  | .int y :: .int x :: r => K x y r
  | _ => False
def oh_I1 (st : List Value) (K : Int32 → List Value → Prop) : Prop := match st with
  | .int x :: r => K x r
  | _ => False
def oh_LL (st : List Value) (K : Int64 → Int64 → List Value → Prop) : Prop := match st with
  | .long y :: .long x :: r => K x y r
  | _ => False
def oh_L1 (st : List Value) (K : Int64 → List Value → Prop) : Prop := match st with
  | .long x :: r => K x r
  | _ => False
def oh_LI (st : List Value) (K : Int64 → Int32 → List Value → Prop) : Prop := match st with
  | .int y :: .long x :: r => K x y r
  | _ => False
def oh_R1 (st : List Value) (K : Nat → List Value → Prop) : Prop := match st with
  | .ref x :: r => K x r
  | _ => False
def oh_RI (st : List Value) (K : Nat → Int32 → List Value → Prop) : Prop := match st with
  | .int y :: .ref x :: r => K x y r
  | _ => False
def oh_RII (st : List Value) (K : Nat → Int32 → Int32 → List Value → Prop) : Prop := match st with
  | .int z :: .int y :: .ref x :: r => K x y z r
  | _ => False
def oh_V1 (st : List Value) (K : Value → List Value → Prop) : Prop := match st with
  | x :: r => match Nat.beq x.category 1 with
    | true => K x r
    | false => False
  | _ => False
def oh_RV (st : List Value) (K : Nat → Value → List Value → Prop) : Prop := match st with
  | v :: .ref x :: r => K x v r
  | _ => False
def oh_Z (st : List Value) (K : Prop) : Prop := match st with
  | [] => K
  | _ => False
theorem oh_II_i {st : List Value} {K : Int32 → Int32 → List Value → Prop} (h : oh_II st K) : ∃ x y r, st = .int y :: .int x :: r ∧ K x y r := by
  unfold oh_II at h
  split at h
  · exact ⟨_, _, _, rfl, h⟩
  · exact h.elim
theorem oh_I1_i {st : List Value} {K : Int32 → List Value → Prop} (h : oh_I1 st K) : ∃ x r, st = .int x :: r ∧ K x r := by
  unfold oh_I1 at h
  split at h
  · exact ⟨_, _, rfl, h⟩
  · exact h.elim
theorem oh_LL_i {st : List Value} {K : Int64 → Int64 → List Value → Prop} (h : oh_LL st K) : ∃ x y r, st = .long y :: .long x :: r ∧ K x y r := by
  unfold oh_LL at h
  split at h
  · exact ⟨_, _, _, rfl, h⟩
  · exact h.elim
theorem oh_L1_i {st : List Value} {K : Int64 → List Value → Prop} (h : oh_L1 st K) : ∃ x r, st = .long x :: r ∧ K x r := by
  unfold oh_L1 at h
  split at h
  · exact ⟨_, _, rfl, h⟩
  · exact h.elim
theorem oh_LI_i {st : List Value} {K : Int64 → Int32 → List Value → Prop} (h : oh_LI st K) : ∃ x y r, st = .int y :: .long x :: r ∧ K x y r := by
  unfold oh_LI at h
  split at h
  · exact ⟨_, _, _, rfl, h⟩
  · exact h.elim
theorem oh_R1_i {st : List Value} {K : Nat → List Value → Prop} (h : oh_R1 st K) : ∃ x r, st = .ref x :: r ∧ K x r := by
  unfold oh_R1 at h
  split at h
  · exact ⟨_, _, rfl, h⟩
  · exact h.elim
theorem oh_RI_i {st : List Value} {K : Nat → Int32 → List Value → Prop} (h : oh_RI st K) : ∃ x y r, st = .int y :: .ref x :: r ∧ K x y r := by
  unfold oh_RI at h
  split at h
  · exact ⟨_, _, _, rfl, h⟩
  · exact h.elim
theorem oh_RII_i {st : List Value} {K : Nat → Int32 → Int32 → List Value → Prop} (h : oh_RII st K) : ∃ x y z r, st = .int z :: .int y :: .ref x :: r ∧ K x y z r := by
  unfold oh_RII at h
  split at h
  · exact ⟨_, _, _, _, rfl, h⟩
  · exact h.elim
theorem oh_V1_i {st : List Value} {K : Value → List Value → Prop} (h : oh_V1 st K) : ∃ x r, st = x :: r ∧ x.category = 1 ∧ K x r := by
  unfold oh_V1 at h
  split at h
  · split at h
    · rename_i hb
      exact ⟨_, _, rfl, Nat.eq_of_beq_eq_true hb, h⟩
    · exact h.elim
  · exact h.elim
theorem oh_RV_i {st : List Value} {K : Nat → Value → List Value → Prop} (h : oh_RV st K) : ∃ x v r, st = v :: .ref x :: r ∧ K x v r := by
  unfold oh_RV at h
  split at h
  · exact ⟨_, _, _, rfl, h⟩
  · exact h.elim
theorem oh_Z_i {st : List Value} {K : Prop} (h : oh_Z st K) : st = [] ∧ K := by
  unfold oh_Z at h
  split at h
  · exact ⟨rfl, h⟩
  · exact h.elim
theorem oh_II_m {st : List Value} {K K' : Int32 → Int32 → List Value → Prop} (hk : ∀ x y r, K x y r → K' x y r) (h : oh_II st K) : oh_II st K' := by
  obtain ⟨x, y, r, rfl, h⟩ := oh_II_i h; exact hk _ _ _ h
theorem oh_I1_m {st : List Value} {K K' : Int32 → List Value → Prop} (hk : ∀ x r, K x r → K' x r) (h : oh_I1 st K) : oh_I1 st K' := by
  obtain ⟨x, r, rfl, h⟩ := oh_I1_i h; exact hk _ _ h
theorem oh_LL_m {st : List Value} {K K' : Int64 → Int64 → List Value → Prop} (hk : ∀ x y r, K x y r → K' x y r) (h : oh_LL st K) : oh_LL st K' := by
  obtain ⟨x, y, r, rfl, h⟩ := oh_LL_i h; exact hk _ _ _ h
theorem oh_L1_m {st : List Value} {K K' : Int64 → List Value → Prop} (hk : ∀ x r, K x r → K' x r) (h : oh_L1 st K) : oh_L1 st K' := by
  obtain ⟨x, r, rfl, h⟩ := oh_L1_i h; exact hk _ _ h
theorem oh_LI_m {st : List Value} {K K' : Int64 → Int32 → List Value → Prop} (hk : ∀ x y r, K x y r → K' x y r) (h : oh_LI st K) : oh_LI st K' := by
  obtain ⟨x, y, r, rfl, h⟩ := oh_LI_i h; exact hk _ _ _ h
theorem oh_R1_m {st : List Value} {K K' : Nat → List Value → Prop} (hk : ∀ x r, K x r → K' x r) (h : oh_R1 st K) : oh_R1 st K' := by
  obtain ⟨x, r, rfl, h⟩ := oh_R1_i h; exact hk _ _ h
theorem oh_RI_m {st : List Value} {K K' : Nat → Int32 → List Value → Prop} (hk : ∀ x y r, K x y r → K' x y r) (h : oh_RI st K) : oh_RI st K' := by
  obtain ⟨x, y, r, rfl, h⟩ := oh_RI_i h; exact hk _ _ _ h
theorem oh_RII_m {st : List Value} {K K' : Nat → Int32 → Int32 → List Value → Prop} (hk : ∀ x y z r, K x y z r → K' x y z r) (h : oh_RII st K) : oh_RII st K' := by
  obtain ⟨x, y, z, r, rfl, h⟩ := oh_RII_i h; exact hk _ _ _ _ h
theorem oh_V1_m {st : List Value} {K K' : Value → List Value → Prop} (hk : ∀ x r, K x r → K' x r) (h : oh_V1 st K) : oh_V1 st K' := by
  obtain ⟨x, r, rfl, hc, h⟩ := oh_V1_i h
  unfold oh_V1
  simp only [hc]
  exact hk _ _ h
theorem oh_RV_m {st : List Value} {K K' : Nat → Value → List Value → Prop} (hk : ∀ x v r, K x v r → K' x v r) (h : oh_RV st K) : oh_RV st K' := by
  obtain ⟨x, v, r, rfl, h⟩ := oh_RV_i h; exact hk _ _ _ h
theorem oh_Z_m {st : List Value} {K K' : Prop} (hk : K → K') (h : oh_Z st K) : oh_Z st K' := by
  obtain ⟨rfl, h⟩ := oh_Z_i h; exact hk h
/-- a compare and its two ways -/
def oh_br (c : ClassFile.Cond) (x y : Int32) (A B : Prop) : Prop := match c with
  | .eq => (x = y → A) ∧ (¬ x = y → B)
  | .ne => (¬ x = y → A) ∧ (x = y → B)
  | .lt => (x < y → A) ∧ (¬ x < y → B)
  | .ge => (y ≤ x → A) ∧ (¬ y ≤ x → B)
  | .gt => (y < x → A) ∧ (¬ y < x → B)
  | .le => (x ≤ y → A) ∧ (¬ x ≤ y → B)
theorem oh_br_m {c : ClassFile.Cond} {x y : Int32} {A B A' B' : Prop} (ha : A → A') (hb : B → B') (h : oh_br c x y A B) : oh_br c x y A' B' := by
  cases c <;> exact ⟨fun q => ha (h.1 q), fun q => hb (h.2 q)⟩
/-- a number that is written out -/
def oh_num (a b : Nat) : Int32 := match b with
  | 0 => Int32.ofNat a
  | _ => -(Int32.ofNat a)
def oh_numL (a b : Nat) : Int64 := match b with
  | 0 => Int64.ofNat a
  | _ => -(Int64.ofNat a)
def oh_tab (J : Nat → Prop) (pc : Nat) (x : Int32) : Nat → List Int → Int → Prop
  | _, [], d => J ((pc : Int) + d).toNat
  | lo, o :: r, d => (x = Int32.ofNat lo → J ((pc : Int) + o).toNat) ∧ (¬ x = Int32.ofNat lo → oh_tab J pc x (lo + 1) r d)
theorem oh_tab_m {J J' : Nat → Prop} {pc : Nat} {x : Int32} (hj : ∀ q, J q → J' q) : ∀ (lo : Nat) (r : List Int) (d : Int), oh_tab J pc x lo r d → oh_tab J' pc x lo r d
  | _, [], _, h => hj _ h
  | lo, o :: r, d, h => ⟨fun q => hj _ (h.1 q), fun q => oh_tab_m hj (lo + 1) r d (h.2 q)⟩
def oh_lkp (J : Nat → Prop) (pc : Nat) (x : Int32) (d : Int) : List (Int × Int) → Prop
  | [] => J ((pc : Int) + d).toNat
  | o :: r => (x = Int32.ofNat o.1.toNat → J ((pc : Int) + o.2).toNat) ∧ (¬ x = Int32.ofNat o.1.toNat → oh_lkp J pc x d r)
theorem oh_lkp_m {J J' : Nat → Prop} {pc : Nat} {x : Int32} {d : Int} (hj : ∀ q, J q → J' q) : ∀ (r : List (Int × Int)), oh_lkp J pc x d r → oh_lkp J' pc x d r
  | [], h => hj _ h
  | o :: r, h => ⟨fun q => hj _ (h.1 q), fun q => oh_lkp_m hj r (h.2 q)⟩
def oh_J (T : oh_T) (P' P : oh_P) (pc : Nat) (l : oh_L) (st : List Value) (h : oh_St) : Prop := match oh_find T pc with
  | some (none, c) => P' pc c l st h
  | some (some mm, c) => P pc c (oh_mask mm l) st h
  | none => False
theorem oh_J_m {T : oh_T} {P' P P2' P2 : oh_P} (h1 : ∀ pc c l st h, P' pc c l st h → P2' pc c l st h) (h2 : ∀ pc c l st h, P pc c l st h → P2 pc c l st h) {pc : Nat} {l : oh_L} {st : List Value} {h : oh_St} (q : oh_J T P' P pc l st h) : oh_J T P2' P2 pc l st h := by
  unfold oh_J at q ⊢
  split at q
  · exact h1 _ _ _ _ _ q
  · exact h2 _ _ _ _ _ q
  · exact q.elim
def oh_csum : List Value → Nat
  | [] => 0
  | v :: r => v.category + oh_csum r
/-- what an answer of each kind is used for -/
def oh_r0 (K : oh_St → Prop) : oh_Q := fun r h => match r with
  | none => K h
  | _ => False
def oh_r1 (K : Int32 → oh_St → Prop) : oh_Q := fun r h => match r with
  | some (.int x) => K x h
  | _ => False
def oh_r2 (K : Int64 → oh_St → Prop) : oh_Q := fun r h => match r with
  | some (.long x) => K x h
  | _ => False
def oh_r3 (K : Nat → oh_St → Prop) : oh_Q := fun r h => match r with
  | some (.ref x) => K x h
  | _ => False
theorem oh_r0_i {K : oh_St → Prop} {r : Option Value} {h : oh_St} (q : oh_r0 K r h) : r = none ∧ K h := by
  unfold oh_r0 at q
  split at q
  · exact ⟨rfl, q⟩
  · exact q.elim
theorem oh_r1_i {K : Int32 → oh_St → Prop} {r : Option Value} {h : oh_St} (q : oh_r1 K r h) : ∃ x, r = some (.int x) ∧ K x h := by
  unfold oh_r1 at q
  split at q
  · exact ⟨_, rfl, q⟩
  · exact q.elim
theorem oh_r2_i {K : Int64 → oh_St → Prop} {r : Option Value} {h : oh_St} (q : oh_r2 K r h) : ∃ x, r = some (.long x) ∧ K x h := by
  unfold oh_r2 at q
  split at q
  · exact ⟨_, rfl, q⟩
  · exact q.elim
theorem oh_r3_i {K : Nat → oh_St → Prop} {r : Option Value} {h : oh_St} (q : oh_r3 K r h) : ∃ x, r = some (.ref x) ∧ K x h := by
  unfold oh_r3 at q
  split at q
  · exact ⟨_, rfl, q⟩
  · exact q.elim
theorem oh_r0_m {K K' : oh_St → Prop} (hk : ∀ h, K h → K' h) (r : Option Value) (h : oh_St) (q : oh_r0 K r h) : oh_r0 K' r h := by
  obtain ⟨rfl, q⟩ := oh_r0_i q; exact hk _ q
theorem oh_r1_m {K K' : Int32 → oh_St → Prop} (hk : ∀ x h, K x h → K' x h) (r : Option Value) (h : oh_St) (q : oh_r1 K r h) : oh_r1 K' r h := by
  obtain ⟨x, rfl, q⟩ := oh_r1_i q; exact hk _ _ q
theorem oh_r2_m {K K' : Int64 → oh_St → Prop} (hk : ∀ x h, K x h → K' x h) (r : Option Value) (h : oh_St) (q : oh_r2 K r h) : oh_r2 K' r h := by
  obtain ⟨x, rfl, q⟩ := oh_r2_i q; exact hk _ _ q
theorem oh_r3_m {K K' : Nat → oh_St → Prop} (hk : ∀ x h, K x h → K' x h) (r : Option Value) (h : oh_St) (q : oh_r3 K r h) : oh_r3 K' r h := by
  obtain ⟨x, rfl, q⟩ := oh_r3_i q; exact hk _ _ q
def oh_callK (E : oh_E) (j k : Nat) (av rest : List Value) (h : oh_St) (K : List Value → oh_St → Prop) : Prop := match k with
  | 0 => E j av h (oh_r0 (fun h' => K rest h'))
  | 1 => E j av h (oh_r1 (fun x h' => K (.int x :: rest) h'))
  | 2 => E j av h (oh_r2 (fun x h' => K (.long x :: rest) h'))
  | 3 => E j av h (oh_r3 (fun x h' => K (.ref x :: rest) h'))
  | _ => False
/-- the top of the stack as arguments in their order, and the rest -/
def oh_split : Nat → List Value → List Value → (List Value → List Value → Prop) → Prop
  | 0, st, acc, K => K acc st
  | n + 1, v :: st, acc, K => oh_split n st (v :: acc) K
  | _ + 1, [], _, _ => False
theorem oh_split_i : ∀ (n : Nat) (st acc : List Value) (K : List Value → List Value → Prop), oh_split n st acc K → n ≤ st.length ∧ K ((st.take n).reverse ++ acc) (st.drop n)
  | 0, st, acc, K, q => ⟨Nat.zero_le _, q⟩
  | n + 1, v :: st, acc, K, q => by
    obtain ⟨h1, h2⟩ := oh_split_i n st (v :: acc) K q
    refine ⟨by simp; omega, ?_⟩
    simpa using h2
  | _ + 1, [], _, _, q => q.elim
theorem oh_split_m {K K' : List Value → List Value → Prop} (hk : ∀ a r, K a r → K' a r) : ∀ (n : Nat) (st acc : List Value), oh_split n st acc K → oh_split n st acc K'
  | 0, _, _, q => hk _ _ q
  | n + 1, v :: st, acc, q => oh_split_m hk n st (v :: acc) q
  | _ + 1, [], _, q => q.elim
def oh_call (E : oh_E) (j n k : Nat) (st : List Value) (h : oh_St) (K : List Value → oh_St → Prop) : Prop := oh_split n st [] (fun av rest => match Nat.ble (oh_csum rest) 8 with
  | true => oh_callK E j k av rest h K
  | false => False)
def oh_Emono (E : oh_E) : Prop := ∀ (j : Nat) (a : List Value) (h : oh_St) (Q Q' : oh_Q), (∀ r h', Q r h' → Q' r h') → E j a h Q → E j a h Q'
theorem oh_callK_i {E : oh_E} {j k : Nat} {av rest : List Value} {h : oh_St} {K : List Value → oh_St → Prop} (q : oh_callK E j k av rest h K) : ∃ Q' : oh_Q, E j av h Q' ∧ ∀ r h', Q' r h' → K (r.toList ++ rest) h' := by
  unfold oh_callK at q
  split at q
  · exact ⟨_, q, fun r h' z => by obtain ⟨rfl, z⟩ := oh_r0_i z; exact z⟩
  · exact ⟨_, q, fun r h' z => by obtain ⟨x, rfl, z⟩ := oh_r1_i z; exact z⟩
  · exact ⟨_, q, fun r h' z => by obtain ⟨x, rfl, z⟩ := oh_r2_i z; exact z⟩
  · exact ⟨_, q, fun r h' z => by obtain ⟨x, rfl, z⟩ := oh_r3_i z; exact z⟩
  · exact q.elim
theorem oh_call_i {E : oh_E} {j n k : Nat} {st : List Value} {h : oh_St} {K : List Value → oh_St → Prop} (q : oh_call E j n k st h K) : n ≤ st.length ∧ oh_csum (st.drop n) ≤ 8 ∧ ∃ Q' : oh_Q, E j (st.take n).reverse h Q' ∧ ∀ r h', Q' r h' → K (r.toList ++ st.drop n) h' := by
  obtain ⟨h1, h2⟩ := oh_split_i _ _ _ _ q
  rw [List.append_nil] at h2
  split at h2
  · rename_i h3
    exact ⟨h1, Nat.le_of_ble_eq_true h3, oh_callK_i h2⟩
  · exact h2.elim
theorem oh_callK_m {E : oh_E} (hE : oh_Emono E) {j k : Nat} {av rest : List Value} {h : oh_St} {K K' : List Value → oh_St → Prop} (hk : ∀ s h, K s h → K' s h) (q : oh_callK E j k av rest h K) : oh_callK E j k av rest h K' := by
  unfold oh_callK at q ⊢
  split at q
  · exact hE _ _ _ _ _ (oh_r0_m (fun h => hk _ _)) q
  · exact hE _ _ _ _ _ (oh_r1_m (fun x h => hk _ _)) q
  · exact hE _ _ _ _ _ (oh_r2_m (fun x h => hk _ _)) q
  · exact hE _ _ _ _ _ (oh_r3_m (fun x h => hk _ _)) q
  · exact q
theorem oh_call_m {E : oh_E} (hE : oh_Emono E) {j n k : Nat} {st : List Value} {h : oh_St} {K K' : List Value → oh_St → Prop} (hk : ∀ s h, K s h → K' s h) (q : oh_call E j n k st h K) : oh_call E j n k st h K' := by
  refine oh_split_m (fun a r z => ?_) n st [] q
  split at z
  · exact oh_callK_m hE hk z
  · exact z.elim
/-- a field read -/
def oh_gf (G : List oh_Sh) (ci k o : Nat) (h : oh_St) (K : Value → Prop) : Prop := match oh_nth G o with
  | some (.inl (c2, sl)) => match Nat.beq c2 ci with
    | true => match oh_nth sl k with
      | some (0, _) => K (.int (h.1 o k))
      | some (1, _) => K (.long (h.2 o k))
      | some (2, j) => K (.ref j)
      | some (3, _) => K (.ref (2000 + (h.1 o k).toNatClampNeg))
      | some (4, _) => K (.int (h.1 o k))
      | _ => False
    | false => False
  | _ => False
theorem oh_gf_m {G : List oh_Sh} {ci k o : Nat} {h : oh_St} {K K' : Value → Prop} (hk : ∀ v, K v → K' v) (q : oh_gf G ci k o h K) : oh_gf G ci k o h K' := by
  unfold oh_gf at q ⊢
  split at q
  · split at q
    · split at q <;> first | exact hk _ q | exact q.elim
    · exact q.elim
  · exact q.elim
/-- a field write -/
def oh_pf (G : List oh_Sh) (ci k o : Nat) (v : Value) (h : oh_St) (K : oh_St → Prop) : Prop := match oh_nth G o with
  | some (.inl (c2, sl)) => match Nat.beq c2 ci with
    | true => match oh_nth sl k, v with
      | some (0, _), .int x => K (oh_upi h o k x)
      | some (1, _), .long x => K (oh_upl h o k x)
      | some (3, _), .ref j => match Nat.ble 2000 j, Nat.ble j 2002 with
        | true, true => K (oh_upi h o k (Int32.ofNat (j - 2000)))
        | _, _ => False
      | some (4, _), .int x => (x = 0 ∨ x = 1) ∧ K (oh_upi h o k x)
      | _, _ => False
    | false => False
  | _ => False
theorem oh_pf_m {G : List oh_Sh} {ci k o : Nat} {v : Value} {h : oh_St} {K K' : oh_St → Prop} (hk : ∀ h, K h → K' h) (q : oh_pf G ci k o v h K) : oh_pf G ci k o v h K' := by
  unfold oh_pf at q ⊢
  split at q
  · split at q
    · split at q
      · exact hk _ q
      · exact hk _ q
      · split at q
        · exact hk _ q
        · exact q.elim
      · exact ⟨q.1, hk _ q.2⟩
      · exact q.elim
    · exact q.elim
  · exact q.elim
/-- an int row read -/
def oh_ia (G : List oh_Sh) (o : Nat) (i : Int32) (h : oh_St) (K : Int32 → Prop) : Prop := match oh_nth G o with
  | some (.inr (.inl n)) => vp_in i n ∧ K (h.1 o i.toNatClampNeg)
  | some _ => False
  | none => match oh_find oh_xI o with
    | some l => vp_in i l.length ∧ K (l.getD i.toNatClampNeg 0)
    | none => False
theorem oh_ia_m {G : List oh_Sh} {o : Nat} {i : Int32} {h : oh_St} {K K' : Int32 → Prop} (hk : ∀ v, K v → K' v) (q : oh_ia G o i h K) : oh_ia G o i h K' := by
  unfold oh_ia at q ⊢
  split at q
  · exact ⟨q.1, hk _ q.2⟩
  · exact q.elim
  · split at q
    · exact ⟨q.1, hk _ q.2⟩
    · exact q.elim
def oh_la (G : List oh_Sh) (o : Nat) (i : Int32) (K : Int64 → Prop) : Prop := match oh_nth G o with
  | some _ => False
  | none => match oh_find oh_xL o with
    | some l => vp_in i l.length ∧ K (l.getD i.toNatClampNeg 0)
    | none => False
theorem oh_la_m {G : List oh_Sh} {o : Nat} {i : Int32} {K K' : Int64 → Prop} (hk : ∀ v, K v → K' v) (q : oh_la G o i K) : oh_la G o i K' := by
  unfold oh_la at q ⊢
  split at q
  · exact q.elim
  · split at q
    · exact ⟨q.1, hk _ q.2⟩
    · exact q.elim
def oh_ias (G : List oh_Sh) (o : Nat) (i x : Int32) (h : oh_St) (K : oh_St → Prop) : Prop := match oh_nth G o with
  | some (.inr (.inl n)) => vp_in i n ∧ K (oh_upi h o i.toNatClampNeg x)
  | _ => False
theorem oh_ias_m {G : List oh_Sh} {o : Nat} {i x : Int32} {h : oh_St} {K K' : oh_St → Prop} (hk : ∀ h, K h → K' h) (q : oh_ias G o i x h K) : oh_ias G o i x h K' := by
  unfold oh_ias at q ⊢
  split at q
  · exact ⟨q.1, hk _ q.2⟩
  · exact q.elim
def oh_aal (G : List oh_Sh) (o : Nat) (i : Int32) (K : Nat → Prop) : Prop := match oh_nth G o with
  | some (.inr (.inr js)) => vp_in i js.length ∧ (match oh_nth js i.toNatClampNeg with
    | some j => K j
    | none => False)
  | _ => False
theorem oh_aal_m {G : List oh_Sh} {o : Nat} {i : Int32} {K K' : Nat → Prop} (hk : ∀ v, K v → K' v) (q : oh_aal G o i K) : oh_aal G o i K' := by
  unfold oh_aal at q ⊢
  split at q
  · refine ⟨q.1, ?_⟩
    have q2 := q.2
    split at q2
    · exact hk _ q2
    · exact q2.elim
  · exact q.elim
def oh_al (G : List oh_Sh) (o : Nat) (K : Int32 → Prop) : Prop := match oh_nth G o with
  | some (.inr (.inl n)) => K (Int32.ofNat n)
  | _ => False
theorem oh_al_m {G : List oh_Sh} {o : Nat} {K K' : Int32 → Prop} (hk : ∀ v, K v → K' v) (q : oh_al G o K) : oh_al G o K' := by
  unfold oh_al at q ⊢
  split at q
  · exact hk _ q
  · exact q.elim
/-- System.arraycopy of int rows -/
def oh_acp (G : List oh_Sh) (st : List Value) (h : oh_St) (K : List Value → oh_St → Prop) : Prop := match st with
  | .int n :: .int dp :: .ref o1 :: .int sp :: .ref o0 :: r => match oh_nth G o0, oh_nth G o1, Nat.ble (oh_csum r) 8 with
    | some (.inr (.inl n0)), some (.inr (.inl n1)), true => (¬ sp < 0 ∧ ¬ dp < 0 ∧ ¬ n < 0 ∧ sp.toNatClampNeg + n.toNatClampNeg ≤ n0 ∧ dp.toNatClampNeg + n.toNatClampNeg ≤ n1) ∧ K r (oh_upa h o1 (va_cpy (h.1 o0) (h.1 o1) sp.toNatClampNeg dp.toNatClampNeg n.toNatClampNeg))
    | _, _, _ => False
  | _ => False
theorem oh_acp_m {G : List oh_Sh} {st : List Value} {h : oh_St} {K K' : List Value → oh_St → Prop} (hk : ∀ s h, K s h → K' s h) (q : oh_acp G st h K) : oh_acp G st h K' := by
  unfold oh_acp at q ⊢
  split at q
  · split at q
    · exact ⟨q.1, hk _ _ q.2⟩
    · exact q.elim
  · exact q.elim
/-- a local read, of a kind -/
def oh_ldI (l : oh_L) (i : Nat) (K : Value → Prop) : Prop := match oh_get l i with
  | some (.int x) => K (.int x)
  | _ => False
def oh_ldL (l : oh_L) (i : Nat) (K : Value → Prop) : Prop := match oh_get l i with
  | some (.long x) => K (.long x)
  | _ => False
def oh_ldA (l : oh_L) (i : Nat) (K : Value → Prop) : Prop := match oh_get l i with
  | some (.ref x) => K (.ref x)
  | _ => False
theorem oh_ldI_i {l : oh_L} {i : Nat} {K : Value → Prop} (h : oh_ldI l i K) : ∃ x, oh_get l i = some (.int x) ∧ K (.int x) := by
  unfold oh_ldI at h
  split at h
  · exact ⟨_, by assumption, h⟩
  · exact h.elim
theorem oh_ldL_i {l : oh_L} {i : Nat} {K : Value → Prop} (h : oh_ldL l i K) : ∃ x, oh_get l i = some (.long x) ∧ K (.long x) := by
  unfold oh_ldL at h
  split at h
  · exact ⟨_, by assumption, h⟩
  · exact h.elim
theorem oh_ldA_i {l : oh_L} {i : Nat} {K : Value → Prop} (h : oh_ldA l i K) : ∃ x, oh_get l i = some (.ref x) ∧ K (.ref x) := by
  unfold oh_ldA at h
  split at h
  · exact ⟨_, by assumption, h⟩
  · exact h.elim
theorem oh_ldI_m {l : oh_L} {i : Nat} {K K' : Value → Prop} (hk : ∀ v, K v → K' v) (h : oh_ldI l i K) : oh_ldI l i K' := by
  obtain ⟨x, e, h⟩ := oh_ldI_i h
  unfold oh_ldI
  rw [e]
  exact hk _ h
theorem oh_ldL_m {l : oh_L} {i : Nat} {K K' : Value → Prop} (hk : ∀ v, K v → K' v) (h : oh_ldL l i K) : oh_ldL l i K' := by
  obtain ⟨x, e, h⟩ := oh_ldL_i h
  unfold oh_ldL
  rw [e]
  exact hk _ h
theorem oh_ldA_m {l : oh_L} {i : Nat} {K K' : Value → Prop} (hk : ∀ v, K v → K' v) (h : oh_ldA l i K) : oh_ldA l i K' := by
  obtain ⟨x, e, h⟩ := oh_ldA_i h
  unfold oh_ldA
  rw [e]
  exact hk _ h
/-- a local written: there is room for it; the new list is laid out at once -/
def oh_putK : oh_L → Nat → Option Value → (oh_L → Prop) → Prop
  | [], _, _, K => K []
  | _ :: l, 0, v, K => K (v :: l)
  | o :: l, n + 1, v, K => oh_putK l n v (fun l' => K (o :: l'))
theorem oh_putK_eq : ∀ (l : oh_L) (i : Nat) (v : Option Value) (K : oh_L → Prop), oh_putK l i v K = K (oh_put l i v)
  | [], _, _, _ => rfl
  | _ :: l, 0, _, _ => rfl
  | o :: l, n + 1, v, K => oh_putK_eq l n v (fun l' => K (o :: l'))
def oh_clrK (l : oh_L) (i : Nat) (K : oh_L → Prop) : Prop := match i with
  | 0 => K l
  | n + 1 => match oh_get l n with
    | some (.long _) => oh_putK l n none K
    | some (.double _) => oh_putK l n none K
    | _ => K l
theorem oh_clrK_eq (l : oh_L) (i : Nat) (K : oh_L → Prop) : oh_clrK l i K = K (oh_clr l i) := by
  unfold oh_clrK oh_clr
  cases i with
  | zero => rfl
  | succ n => dsimp only; split <;> first | rfl | exact oh_putK_eq _ _ _ _
def oh_wr1 (l : oh_L) (i : Nat) (v : Value) (K : oh_L → Prop) : Prop := match Nat.blt i l.length with
  | true => oh_clrK l i (fun l => oh_putK l i (some v) K)
  | false => False
def oh_wr2 (l : oh_L) (i : Nat) (v : Value) (K : oh_L → Prop) : Prop := match Nat.blt (i + 1) l.length with
  | true => oh_clrK l i (fun l => oh_putK l i (some v) (fun l => oh_putK l (i + 1) none K))
  | false => False
theorem oh_wr1_i {l : oh_L} {i : Nat} {v : Value} {K : oh_L → Prop} (h : oh_wr1 l i v K) : i < l.length ∧ K (oh_st1 l i v) := by
  unfold oh_wr1 at h
  split at h
  · rename_i q
    rw [oh_clrK_eq, oh_putK_eq] at h
    exact ⟨Nat.le_of_ble_eq_true q, h⟩
  · exact h.elim
theorem oh_wr2_i {l : oh_L} {i : Nat} {v : Value} {K : oh_L → Prop} (h : oh_wr2 l i v K) : i + 1 < l.length ∧ K (oh_st2 l i v) := by
  unfold oh_wr2 at h
  split at h
  · rename_i q
    rw [oh_clrK_eq, oh_putK_eq, oh_putK_eq] at h
    exact ⟨Nat.le_of_ble_eq_true q, h⟩
  · exact h.elim
theorem oh_wr1_m {l : oh_L} {i : Nat} {v : Value} {K K' : oh_L → Prop} (hk : ∀ l, K l → K' l) (h : oh_wr1 l i v K) : oh_wr1 l i v K' := by
  unfold oh_wr1 at h ⊢
  split at h
  · rw [oh_clrK_eq, oh_putK_eq] at h ⊢
    exact hk _ h
  · exact h.elim
theorem oh_wr2_m {l : oh_L} {i : Nat} {v : Value} {K K' : oh_L → Prop} (hk : ∀ l, K l → K' l) (h : oh_wr2 l i v K) : oh_wr2 l i v K' := by
  unfold oh_wr2 at h ⊢
  split at h
  · rw [oh_clrK_eq, oh_putK_eq, oh_putK_eq] at h ⊢
    exact hk _ h
  · exact h.elim
/-- the receiver is of the class that the call names (99: a text) -/
def oh_rcv (G : List oh_Sh) (e n : Nat) (st : List Value) (K : Prop) : Prop := oh_split n st [] (fun av _ => match av with
  | .ref o :: _ => match Nat.beq e 99 with
    | true => (2000 ≤ (o : Nat) ∧ (o : Nat) ≤ 2002) ∧ K
    | false => match oh_nth G o with
      | some (.inl (c2, _)) => match Nat.beq c2 e with
        | true => K
        | false => False
      | _ => False
  | _ => False)
theorem oh_rcv_m {G : List oh_Sh} {e n : Nat} {st : List Value} {K K' : Prop} (hk : K → K') (q : oh_rcv G e n st K) : oh_rcv G e n st K' := by
  refine oh_split_m (fun a r q => ?_) n st [] q
  split at q
  · split at q
    · exact ⟨q.1, hk q.2⟩
    · split at q
      · split at q
        · exact hk q
        · exact q.elim
      · exact q.elim
  · exact q.elim
theorem oh_rcv_i {G : List oh_Sh} {e n : Nat} {st : List Value} {K : Prop} (q : oh_rcv G e n st K) : ∃ (o : Nat) (r : List Value), (st.take n).reverse = .ref o :: r ∧ ((e = 99 ∧ 2000 ≤ o ∧ o ≤ 2002) ∨ (¬ e = 99 ∧ ∃ sl, oh_nth G o = some (.inl (e, sl)))) ∧ K := by
  obtain ⟨h1, q2⟩ := oh_split_i _ _ _ _ q
  clear q
  rw [List.append_nil] at q2
  have q := q2
  clear q2
  split at q
  · rename_i o r hs
    split at q
    · rename_i h9
      exact ⟨o, r, hs, Or.inl ⟨Nat.eq_of_beq_eq_true h9, q.1.1, q.1.2⟩, q.2⟩
    · rename_i h9
      split at q
      · rename_i c2 sl hg
        split at q
        · rename_i hc
          have := Nat.eq_of_beq_eq_true hc
          subst this
          exact ⟨o, r, hs, Or.inr ⟨fun z => (by rw [z] at h9; cases h9), sl, hg⟩, q⟩
        · exact q.elim
      · exact q.elim
  · exact q.elim
end
section
/-- one instruction: what must hold of the next states (P': go on, P: stop at a cut) -/
def oh_nx (G : List oh_Sh) (T : oh_T) (E : oh_E) (Q : oh_Q) (P' P : oh_P) (pc : Nat) (code : oh_C) (l : oh_L) (st : List Value) (h : oh_St) : Prop := match code with
  | [] => oh_J T P' P pc l st h
  | (i, n, a, b, c, e, _) :: r => match i with
    | .iconst _ => P' (pc + n) r l (.int (oh_num a b) :: st) h
    | .bipush _ => P' (pc + n) r l (.int (oh_num a b) :: st) h
    | .sipush _ => P' (pc + n) r l (.int (oh_num a b) :: st) h
    | .lconst _ => P' (pc + n) r l (.long (oh_numL a b) :: st) h
    | .ldc _ => match b with
      | 0 => P' (pc + n) r l (.int (oh_num a e) :: st) h
      | _ => P' (pc + n) r l (.ref a :: st) h
    | .ldc_w _ => P' (pc + n) r l (.int (oh_num a b) :: st) h
    | .ldc2_w _ => P' (pc + n) r l (.long (oh_numL a b) :: st) h
    | .iload_n _ => oh_ldI l a (fun v => P' (pc + n) r l (v :: st) h)
    | .iload _ => oh_ldI l a (fun v => P' (pc + n) r l (v :: st) h)
    | .lload_n _ => oh_ldL l a (fun v => P' (pc + n) r l (v :: st) h)
    | .lload _ => oh_ldL l a (fun v => P' (pc + n) r l (v :: st) h)
    | .aload_n _ => oh_ldA l a (fun v => P' (pc + n) r l (v :: st) h)
    | .aload _ => oh_ldA l a (fun v => P' (pc + n) r l (v :: st) h)
    | .istore_n _ => oh_I1 st (fun x st => oh_wr1 l a (.int x) (fun l => P' (pc + n) r l st h))
    | .istore _ => oh_I1 st (fun x st => oh_wr1 l a (.int x) (fun l => P' (pc + n) r l st h))
    | .lstore_n _ => oh_L1 st (fun x st => oh_wr2 l a (.long x) (fun l => P' (pc + n) r l st h))
    | .lstore _ => oh_L1 st (fun x st => oh_wr2 l a (.long x) (fun l => P' (pc + n) r l st h))
    | .astore_n _ => oh_R1 st (fun x st => oh_wr1 l a (.ref x) (fun l => P' (pc + n) r l st h))
    | .astore _ => oh_R1 st (fun x st => oh_wr1 l a (.ref x) (fun l => P' (pc + n) r l st h))
    | .iinc _ _ => oh_ldI l a (fun w => match w with
      | .int x => oh_wr1 l a (.int (x + oh_num b c)) (fun l => P' (pc + n) r l st h)
      | _ => False)
    | .iadd => oh_II st (fun x y st => P' (pc + n) r l (.int (x + y) :: st) h)
    | .isub => oh_II st (fun x y st => P' (pc + n) r l (.int (x - y) :: st) h)
    | .imul => oh_II st (fun x y st => P' (pc + n) r l (.int (x * y) :: st) h)
    | .iand => oh_II st (fun x y st => P' (pc + n) r l (.int (x &&& y) :: st) h)
    | .ior => oh_II st (fun x y st => P' (pc + n) r l (.int (x ||| y) :: st) h)
    | .ixor => oh_II st (fun x y st => P' (pc + n) r l (.int (x ^^^ y) :: st) h)
    | .ishl => oh_II st (fun x y st => P' (pc + n) r l (.int (x <<< (y &&& 31)) :: st) h)
    | .ishr => oh_II st (fun x y st => P' (pc + n) r l (.int (x >>> (y &&& 31)) :: st) h)
    | .iushr => oh_II st (fun x y st => P' (pc + n) r l (.int (x.toUInt32 >>> (y.toUInt32 &&& Int32.toUInt32 31)).toInt32 :: st) h)
    | .idiv => oh_II st (fun x y st => ¬ y = 0 ∧ P' (pc + n) r l (.int (x / y) :: st) h)
    | .irem => oh_II st (fun x y st => ¬ y = 0 ∧ P' (pc + n) r l (.int (x - x / y * y) :: st) h)
    | .ineg => oh_I1 st (fun x st => P' (pc + n) r l (.int (-x) :: st) h)
    | .ladd => oh_LL st (fun x y st => P' (pc + n) r l (.long (x + y) :: st) h)
    | .lsub => oh_LL st (fun x y st => P' (pc + n) r l (.long (x - y) :: st) h)
    | .land => oh_LL st (fun x y st => P' (pc + n) r l (.long (x &&& y) :: st) h)
    | .lor => oh_LL st (fun x y st => P' (pc + n) r l (.long (x ||| y) :: st) h)
    | .lxor => oh_LL st (fun x y st => P' (pc + n) r l (.long (x ^^^ y) :: st) h)
    | .lcmp => oh_LL st (fun x y st => P' (pc + n) r l (.int (lg_cmp x y) :: st) h)
    | .lshl => oh_LI st (fun x y st => P' (pc + n) r l (.long (x <<< (y.toInt64 &&& 63)) :: st) h)
    | .lshr => oh_LI st (fun x y st => P' (pc + n) r l (.long (x >>> (y.toInt64 &&& 63)) :: st) h)
    | .lushr => oh_LI st (fun x y st => P' (pc + n) r l (.long (x.toUInt64 >>> (y.toInt64.toUInt64 &&& Int64.toUInt64 63)).toInt64 :: st) h)
    | .i2l => oh_I1 st (fun x st => P' (pc + n) r l (.long x.toInt64 :: st) h)
    | .l2i => oh_L1 st (fun x st => P' (pc + n) r l (.int x.toInt32 :: st) h)
    | .i2b => oh_I1 st (fun x st => P' (pc + n) r l (.int x.toInt8.toInt32 :: st) h)
    | .i2s => oh_I1 st (fun x st => P' (pc + n) r l (.int x.toInt16.toInt32 :: st) h)
    | .i2c => oh_I1 st (fun x st => P' (pc + n) r l (.int (x.toUInt32 % 65536).toInt32 :: st) h)
    | .dup => oh_V1 st (fun v st => P' (pc + n) r l (v :: v :: st) h)
    | .pop => oh_V1 st (fun _ st => P' (pc + n) r l st h)
    | .dup2 => oh_V1 st (fun v st => oh_V1 st (fun w st => P' (pc + n) r l (v :: w :: v :: w :: st) h))
    | .goto _ => oh_J T P' P a l st h
    | .ifCond cd _ => oh_I1 st (fun x st => oh_br cd x 0 (oh_J T P' P a l st h) (P' (pc + n) r l st h))
    | .if_icmp cd _ => oh_II st (fun x y st => oh_br cd x y (oh_J T P' P a l st h) (P' (pc + n) r l st h))
    | .tableswitch d lo _ os => oh_I1 st (fun x st => oh_tab (fun q => oh_J T P' P q l st h) pc x lo.toNat os.toList d)
    | .lookupswitch d ps => oh_I1 st (fun x st => oh_lkp (fun q => oh_J T P' P q l st h) pc x d ps.toList)
    | .getfield _ => oh_R1 st (fun o st => oh_gf G a b o h (fun v => P' (pc + n) r l (v :: st) h))
    | .putfield _ => oh_RV st (fun o v st => oh_pf G a b o v h (fun h => P' (pc + n) r l st h))
    | .getstatic _ => P' (pc + n) r l (.ref a :: st) h
    | .iaload => oh_RI st (fun o i st => oh_ia G o i h (fun v => P' (pc + n) r l (.int v :: st) h))
    | .laload => oh_RI st (fun o i st => oh_la G o i (fun v => P' (pc + n) r l (.long v :: st) h))
    | .aaload => oh_RI st (fun o i st => oh_aal G o i (fun v => P' (pc + n) r l (.ref v :: st) h))
    | .iastore => oh_RII st (fun o i x st => oh_ias G o i x h (fun h => P' (pc + n) r l st h))
    | .arraylength => oh_R1 st (fun o st => oh_al G o (fun v => P' (pc + n) r l (.int v :: st) h))
    | .invokevirtual _ => oh_rcv G e b st (oh_call E a b c st h (fun st h => P' (pc + n) r l st h))
    | .invokestatic _ => match c with
      | 4 => oh_acp G st h (fun st h => P' (pc + n) r l st h)
      | c => oh_call E a b c st h (fun st h => P' (pc + n) r l st h)
    | .ireturn => oh_I1 st (fun x st => oh_Z st (match a with
      | 0 => Q (some (.int x)) h
      | _ => (x = 0 ∨ x = 1) ∧ Q (some (.int x)) h))
    | .lreturn => oh_L1 st (fun x st => oh_Z st (Q (some (.long x)) h))
    | .areturn => oh_R1 st (fun x st => oh_Z st (Q (some (.ref x)) h))
    | .return_ => oh_Z st (Q none h)
    | _ => False
set_option maxHeartbeats 4000000 in
theorem oh_nx_m {G : List oh_Sh} {T : oh_T} {E : oh_E} (hE : oh_Emono E) {Q : oh_Q} {P' P P2' P2 : oh_P} (h1 : ∀ pc c l st h, P' pc c l st h → P2' pc c l st h) (h2 : ∀ pc c l st h, P pc c l st h → P2 pc c l st h) {pc : Nat} {code : oh_C} {l : oh_L} {st : List Value} {h : oh_St} (q : oh_nx G T E Q P' P pc code l st h) : oh_nx G T E Q P2' P2 pc code l st h := by
  rcases code with _ | ⟨⟨i, n, a, b, c, e, ps⟩, r⟩
  · exact oh_J_m h1 h2 q
  · cases i
    all_goals dsimp only [oh_nx] at q ⊢
    all_goals first
      | exact h1 _ _ _ _ _ q
      | exact False.elim q
      | exact oh_J_m h1 h2 q
      | exact q
      | exact oh_ldI_m (fun v => h1 _ _ _ _ _) q
      | exact oh_ldL_m (fun v => h1 _ _ _ _ _) q
      | exact oh_ldA_m (fun v => h1 _ _ _ _ _) q
      | exact oh_I1_m (fun x st => oh_wr1_m (fun l => h1 _ _ _ _ _)) q
      | exact oh_L1_m (fun x st => oh_wr2_m (fun l => h1 _ _ _ _ _)) q
      | exact oh_R1_m (fun x st => oh_wr1_m (fun l => h1 _ _ _ _ _)) q
      | exact oh_II_m (fun x y st => h1 _ _ _ _ _) q
      | exact oh_II_m (fun x y st z => ⟨z.1, h1 _ _ _ _ _ z.2⟩) q
      | exact oh_I1_m (fun x st => h1 _ _ _ _ _) q
      | exact oh_LL_m (fun x y st => h1 _ _ _ _ _) q
      | exact oh_LI_m (fun x y st => h1 _ _ _ _ _) q
      | exact oh_L1_m (fun x st => h1 _ _ _ _ _) q
      | exact oh_V1_m (fun v st => h1 _ _ _ _ _) q
      | exact oh_V1_m (fun v st => oh_V1_m (fun w st => h1 _ _ _ _ _)) q
      | exact oh_I1_m (fun x st => oh_br_m (oh_J_m h1 h2) (h1 _ _ _ _ _)) q
      | exact oh_II_m (fun x y st => oh_br_m (oh_J_m h1 h2) (h1 _ _ _ _ _)) q
      | exact oh_I1_m (fun x st => oh_tab_m (fun q => oh_J_m h1 h2) _ _ _) q
      | exact oh_I1_m (fun x st => oh_lkp_m (fun q => oh_J_m h1 h2) _) q
      | exact oh_R1_m (fun o st => oh_gf_m (fun v => h1 _ _ _ _ _)) q
      | exact oh_RV_m (fun o v st => oh_pf_m (fun h => h1 _ _ _ _ _)) q
      | exact oh_RI_m (fun o i st => oh_ia_m (fun v => h1 _ _ _ _ _)) q
      | exact oh_RI_m (fun o i st => oh_la_m (fun v => h1 _ _ _ _ _)) q
      | exact oh_RI_m (fun o i st => oh_aal_m (fun v => h1 _ _ _ _ _)) q
      | exact oh_RII_m (fun o i x st => oh_ias_m (fun h => h1 _ _ _ _ _)) q
      | exact oh_R1_m (fun o st => oh_al_m (fun v => h1 _ _ _ _ _)) q
      | exact oh_rcv_m (oh_call_m hE (fun s h => h1 _ _ _ _ _)) q
      | (refine oh_ldI_m (fun w => ?_) q; cases w <;> first | exact False.elim | exact oh_wr1_m (fun l => h1 _ _ _ _ _))
      | (split at q <;> first | exact h1 _ _ _ _ _ q | exact oh_acp_m (fun s h => h1 _ _ _ _ _) q | exact oh_call_m hE (fun s h => h1 _ _ _ _ _) q)
/-- more locals are known -/
def oh_more : oh_L → oh_L → Prop
  | [], [] => True
  | o :: l, o' :: l' => (o = none ∨ o = o') ∧ oh_more l l'
  | _, _ => False
/-- from here the method comes to an end with Q: the least that is closed under the instructions, and under knowing more locals -/
def oh_wp (G : List oh_Sh) (T : oh_T) (E : oh_E) (Q : oh_Q) (pc : Nat) (code : oh_C) (l : oh_L) (st : List Value) (h : oh_St) : Prop :=
  ∀ P : oh_P, (∀ pc code l st h, oh_nx G T E Q P P pc code l st h → P pc code l st h) → (∀ pc code l l' st h, oh_more l l' → P pc code l st h → P pc code l' st h) → P pc code l st h
theorem oh_wp_1 {G : List oh_Sh} {T : oh_T} {E : oh_E} (hE : oh_Emono E) {Q : oh_Q} {pc : Nat} {code : oh_C} {l : oh_L} {st : List Value} {h : oh_St} (q : oh_nx G T E Q (oh_wp G T E Q) (oh_wp G T E Q) pc code l st h) : oh_wp G T E Q pc code l st h := by
  intro P hc hw
  exact hc _ _ _ _ _ (oh_nx_m hE (fun _ _ _ _ _ z => z P hc hw) (fun _ _ _ _ _ z => z P hc hw) q)
theorem oh_wp_w {G : List oh_Sh} {T : oh_T} {E : oh_E} {Q : oh_Q} {pc : Nat} {code : oh_C} {l l' : oh_L} {st : List Value} {h : oh_St} (hl : oh_more l l') (q : oh_wp G T E Q pc code l st h) : oh_wp G T E Q pc code l' st h := by
  intro P hc hw
  exact hw _ _ _ _ _ _ hl (q P hc hw)
theorem oh_nx_q {G : List oh_Sh} {T : oh_T} {E : oh_E} {Q Q' : oh_Q} (hQ : ∀ r h, Q r h → Q' r h) {P' P : oh_P} {pc : Nat} {code : oh_C} {l : oh_L} {st : List Value} {h : oh_St} (q : oh_nx G T E Q P' P pc code l st h) : oh_nx G T E Q' P' P pc code l st h := by
  rcases code with _ | ⟨⟨i, n, a, b, c, e, ps⟩, r⟩
  · exact q
  · cases i <;> first
      | exact q
      | exact oh_L1_m (fun x st => oh_Z_m (hQ _ _)) q
      | exact oh_R1_m (fun x st => oh_Z_m (hQ _ _)) q
      | exact oh_Z_m (hQ _ _) q
      | exact oh_I1_m (fun x st => oh_Z_m (by rcases a with _ | a; exact hQ _ _; exact fun z => ⟨z.1, hQ _ _ z.2⟩)) q
theorem oh_wp_m {G : List oh_Sh} {T : oh_T} {E : oh_E} {Q Q' : oh_Q} (hQ : ∀ r h, Q r h → Q' r h) {pc : Nat} {code : oh_C} {l : oh_L} {st : List Value} {h : oh_St} (q : oh_wp G T E Q pc code l st h) : oh_wp G T E Q' pc code l st h := by
  intro P hc hw
  exact q P (fun _ _ _ _ _ z => hc _ _ _ _ _ (oh_nx_q hQ z)) hw
/-- many instructions at once, up to the cuts -/
def oh_run (G : List oh_Sh) (T : oh_T) (E : oh_E) (Q : oh_Q) : Nat → oh_P
  | 0 => oh_wp G T E Q
  | k + 1 => oh_nx G T E Q (oh_run G T E Q k) (oh_wp G T E Q)
theorem oh_run_wp {G : List oh_Sh} {T : oh_T} {E : oh_E} (hE : oh_Emono E) {Q : oh_Q} : ∀ (k : Nat) {pc : Nat} {code : oh_C} {l : oh_L} {st : List Value} {h : oh_St}, oh_run G T E Q k pc code l st h → oh_wp G T E Q pc code l st h
  | 0, _, _, _, _, _, q => q
  | k + 1, _, _, _, _, _, q => oh_wp_1 hE (oh_nx_m hE (fun _ _ _ _ _ z => oh_run_wp hE k z) (fun _ _ _ _ _ z => z) q)
def oh_arg : List Value → oh_L
  | [] => []
  | .long x :: r => some (.long x) :: none :: oh_arg r
  | .double x :: r => some (.double x) :: none :: oh_arg r
  | v :: r => some v :: oh_arg r
def oh_pad : Nat → oh_L → oh_L
  | 0, l => l
  | n + 1, [] => none :: oh_pad n []
  | n + 1, o :: l => o :: oh_pad n l
/-- indexOf over the texts by number -/
def oh_tx : List (List Int32) := [[], [98, 110, 102, 108], [104, 116, 99]]
def oh_ixF (c : Int32) : List Int32 → Nat → Int32
  | [], _ => -1
  | b :: l, k => if b = c then nI k else oh_ixF c l (k + 1)
/-- a method by its number, so many calls deep -/
def oh_mwp (G : List oh_Sh) (M : List (Nat × oh_T)) : Nat → oh_E
  | 0 => fun _ _ _ _ => False
  | d + 1 => fun j a h Q => match oh_nth M j with
    | some (nL, T) => match nL with
      | 0 => match a with
        | [.ref k, .int c] => 5 ≤ d ∧ 2000 ≤ k ∧ k ≤ 2002 ∧ Q (some (.int (oh_ixF c (oh_tx.getD (k - 2000) []) 0))) h
        | _ => False
      | _ => Nat.ble (oh_arg a).length nL = true ∧ oh_J T (oh_wp G T (oh_mwp G M d) Q) (oh_wp G T (oh_mwp G M d) Q) 0 (oh_pad nL (oh_arg a)) [] h
    | none => False
theorem oh_mwp_m {G : List oh_Sh} {M : List (Nat × oh_T)} : ∀ d : Nat, oh_Emono (oh_mwp G M d)
  | 0 => fun _ _ _ _ _ _ q => q
  | d + 1 => fun j a h Q Q' hQ q => by
    unfold oh_mwp at q ⊢
    split at q
    · split at q
      · split at q
        · exact ⟨q.1, q.2.1, q.2.2.1, hQ _ _ q.2.2.2⟩
        · exact q
      · exact ⟨q.1, oh_J_m (fun _ _ _ _ _ => oh_wp_m hQ) (fun _ _ _ _ _ => oh_wp_m hQ) q.2⟩
    · exact q
end
section
/-! PICTURES: ids and addresses; what a method of the class finds around it -/
def oh_V (ad : Nat → Nat) : Value → Value
  | .ref i => .ref (ad i)
  | v => v
theorem oh_V_cat (ad : Nat → Nat) (v : Value) : (oh_V ad v).category = v.category := by cases v <;> rfl
def oh_slv (ad : Nat → Nat) (h : oh_St) (o k : Nat) (q : Nat × Nat) : Value := match q.1 with
  | 0 => .int (h.1 o k)
  | 1 => .long (h.2 o k)
  | 2 => .ref (ad q.2)
  | 3 => .ref (ad (2000 + (h.1 o k).toNatClampNeg))
  | _ => .int (h.1 o k)
def oh_cell (cI cR : ClassId) (ad : Nat → Nat) (h : oh_St) (o : Nat) (s : oh_Sh) : va_E := match s with
  | .inl q => .inr (q.1, q.2.mapIdx (fun k z => oh_slv ad h o k z))
  | .inr (.inl n) => .inl (cI, n, .inl (h.1 o))
  | .inr (.inr js) => .inl (cR, js.length, .inr (.inr (.inr (.inr (fun k => (js[k]?).map ad)))))
def oh_W (cI cR : ClassId) (ad : Nat → Nat) (G : List oh_Sh) (h : oh_St) : va_W := G.mapIdx (fun o s => (ad o, oh_cell cI cR ad h o s))
theorem oh_W_at {cI cR : ClassId} {ad : Nat → Nat} {G : List oh_Sh} {h : oh_St} {o : Nat} {s : oh_Sh} (hs : oh_nth G o = some s) : (oh_W cI cR ad G h)[o]? = some (ad o, oh_cell cI cR ad h o s) := by
  rw [oh_nth_eq] at hs
  simp [oh_W, hs]
theorem oh_W_inv {cI cR : ClassId} {ad : Nat → Nat} {G : List oh_Sh} {h : oh_St} {o : Nat} {q : Nat × va_E} (hq : (oh_W cI cR ad G h)[o]? = some q) : o < G.length ∧ q.1 = ad o := by
  simp only [oh_W, List.getElem?_mapIdx, Option.map_eq_some_iff] at hq
  obtain ⟨s, h1, h2⟩ := hq
  exact ⟨(List.getElem?_eq_some_iff.mp h1).1, by rw [← h2]⟩
theorem oh_W_D {cI cR : ClassId} {ad : Nat → Nat} {G : List oh_Sh} {h : oh_St} {A : Nat → Prop} (hinj : ∀ i j, i < G.length → j < G.length → ad i = ad j → i = j) (hA : ∀ i, i < G.length → A (ad i)) : va_D A (oh_W cI cR ad G h) := by
  refine ⟨fun i j p q hi hj hpq => ?_, fun k q hk => ?_⟩
  · obtain ⟨a1, a2⟩ := oh_W_inv hi
    obtain ⟨b1, b2⟩ := oh_W_inv hj
    exact hinj i j a1 b1 (by rw [← a2, ← b2, hpq])
  · obtain ⟨a1, a2⟩ := oh_W_inv hk
    rw [a2]; exact hA k a1
theorem oh_cell_ne {cI cR : ClassId} {ad : Nat → Nat} {h h' : oh_St} {o : Nat} {s : oh_Sh} (h1 : h'.1 o = h.1 o) (h2 : h'.2 o = h.2 o) : oh_cell cI cR ad h' o s = oh_cell cI cR ad h o s := by
  rcases s with ⟨ci, sl⟩ | n | js
  · simp only [oh_cell]
    congr 3
    funext k z
    simp only [oh_slv, h1, h2]
  · simp only [oh_cell, h1]
  · rfl
/-- one cell changes -/
theorem oh_W_set {cI cR : ClassId} {ad : Nat → Nat} {G : List oh_Sh} {h h' : oh_St} {o : Nat} {s : oh_Sh} {e : va_E} (hs : oh_nth G o = some s) (hne : ∀ a, a ≠ o → h'.1 a = h.1 a ∧ h'.2 a = h.2 a) (he : oh_cell cI cR ad h' o s = e) : (oh_W cI cR ad G h).set o (ad o, e) = oh_W cI cR ad G h' := by
  rw [oh_nth_eq] at hs
  have hl := (List.getElem?_eq_some_iff.mp hs).1
  apply List.ext_getElem?
  intro i
  by_cases hi : i = o
  · subst hi
    rw [List.getElem?_set_self (by simpa [oh_W] using hl)]
    simp [oh_W, hs, he]
  · rw [List.getElem?_set_ne (Ne.symm hi)]
    simp only [oh_W, List.getElem?_mapIdx]
    cases hg : G[i]? with
    | none => rfl
    | some s' => simp only [Option.map_some]; rw [oh_cell_ne (hne i hi).1 (hne i hi).2]
theorem oh_upi_1 (h : oh_St) (o k : Nat) (x : Int32) : (oh_upi h o k x).1 o = upd (h.1 o) k x := by simp [oh_upi]
theorem oh_upi_n (h : oh_St) (o k : Nat) (x : Int32) : ∀ a, a ≠ o → (oh_upi h o k x).1 a = h.1 a ∧ (oh_upi h o k x).2 a = h.2 a := by
  intro a ha
  simp [oh_upi, ha]
theorem oh_upl_1 (h : oh_St) (o k : Nat) (x : Int64) : (oh_upl h o k x).2 o = vp_updL (h.2 o) k x := by simp [oh_upl]
theorem oh_upl_n (h : oh_St) (o k : Nat) (x : Int64) : ∀ a, a ≠ o → (oh_upl h o k x).1 a = h.1 a ∧ (oh_upl h o k x).2 a = h.2 a := by
  intro a ha
  simp [oh_upl, ha]
theorem oh_upa_n (h : oh_St) (o : Nat) (f : Nat → Int32) : ∀ a, a ≠ o → (oh_upa h o f).1 a = h.1 a ∧ (oh_upa h o f).2 a = h.2 a := by
  intro a ha
  simp [oh_upa, ha]
/-- an object's slot is written -/
theorem oh_slots_set {ad : Nat → Nat} {h h' : oh_St} {o k : Nat} {sl : List (Nat × Nat)} {z : Nat × Nat} {v : Value} (hz : oh_nth sl k = some z) (hk : oh_slv ad h' o k z = v) (hne : ∀ j, j ≠ k → h'.1 o j = h.1 o j ∧ h'.2 o j = h.2 o j) : sl.mapIdx (fun k z => oh_slv ad h' o k z) = (sl.mapIdx (fun k z => oh_slv ad h o k z)).set k v := by
  rw [oh_nth_eq] at hz
  have hl := (List.getElem?_eq_some_iff.mp hz).1
  apply List.ext_getElem?
  intro i
  by_cases hi : i = k
  · subst hi
    rw [List.getElem?_set_self (by simpa using hl)]
    simp [hz, hk]
  · rw [List.getElem?_set_ne (Ne.symm hi)]
    simp only [List.getElem?_mapIdx]
    cases sl[i]? with
    | none => rfl
    | some q => simp only [Option.map_some]; congr 1; simp only [oh_slv, (hne i hi).1, (hne i hi).2]
-- locals
theorem oh_get_put : ∀ (l : oh_L) (i : Nat) (o : Option Value) (j : Nat), oh_get (oh_put l i o) j = if j = i ∧ i < l.length then o else oh_get l j
  | [], i, o, j => by simp [oh_put, oh_get]
  | x :: l, 0, o, 0 => by simp [oh_put, oh_get]
  | x :: l, 0, o, j + 1 => by simp [oh_put, oh_get]
  | x :: l, i + 1, o, 0 => by simp [oh_put, oh_get]
  | x :: l, i + 1, o, j + 1 => by
    simp only [oh_put, oh_get, oh_get_put l i o j, List.length_cons]
    congr 1
    simp
theorem oh_put_len : ∀ (l : oh_L) (i : Nat) (o : Option Value), (oh_put l i o).length = l.length
  | [], _, _ => rfl
  | _ :: l, 0, _ => rfl
  | _ :: l, i + 1, o => by simp [oh_put, oh_put_len l i o]
theorem oh_clr_len (l : oh_L) (i : Nat) : (oh_clr l i).length = l.length := by
  unfold oh_clr
  split
  · rfl
  · split <;> simp [oh_put_len]
theorem oh_clr_get {l : oh_L} {i j : Nat} {v : Value} (h : oh_get (oh_clr l i) j = some v) : oh_get l j = some v ∧ ¬ (j + 1 = i ∧ v.category = 2) := by
  unfold oh_clr at h
  split at h
  · exact ⟨h, fun q => by omega⟩
  · rename_i n
    split at h
    · rename_i x hx
      rw [oh_get_put] at h
      split at h
      · cases h
      · rename_i hc
        refine ⟨h, fun q => ?_⟩
        have hj : j = n := by omega
        subst hj
        by_cases hl : j < l.length
        · exact hc ⟨rfl, hl⟩
        · have : oh_get l j = none := by
            clear h hx hc
            induction l generalizing j with
            | nil => rfl
            | cons a l ih =>
              cases j with
              | zero => simp at hl
              | succ j => exact ih (by omega) (by simpa using hl)
          rw [this] at h; cases h
    · rename_i x hx
      rw [oh_get_put] at h
      split at h
      · cases h
      · rename_i hc
        refine ⟨h, fun q => ?_⟩
        have hj : j = n := by omega
        subst hj
        by_cases hl : j < l.length
        · exact hc ⟨rfl, hl⟩
        · have : oh_get l j = none := by
            clear h hx hc
            induction l generalizing j with
            | nil => rfl
            | cons a l ih =>
              cases j with
              | zero => simp at hl
              | succ j => exact ih (by omega) (by simpa using hl)
          rw [this] at h; cases h
    · rename_i h1 h2
      refine ⟨h, fun q => ?_⟩
      have hj : j = n := by omega
      subst hj
      cases v with
      | long x => exact h1 x h
      | double x => exact h2 x h
      | _ => exact absurd q.2 (by simp [Value.category])
/-- the machine's locals hold what is known of them -/
def oh_loc (ad : Nat → Nat) (lsc : Array Slot) (nL : Nat) (l : oh_L) : Prop := l.length = nL ∧ lsc.size = nL ∧ lv_wf lsc ∧ ∀ (i : Nat) (v : Value), oh_get l i = some v → lsc[i]? = some (.val (oh_V ad v))
def oh_asF (ad : Nat → Nat) : Nat → oh_L → List (Nat × Value)
  | _, [] => []
  | k, none :: l => oh_asF ad (k + 1) l
  | k, some v :: l => (k, oh_V ad v) :: oh_asF ad (k + 1) l
theorem oh_asF_get {ad : Nat → Nat} : ∀ (l : oh_L) (k i : Nat) (v : Value), oh_get l i = some v → (k + i, oh_V ad v) ∈ oh_asF ad k l
  | [], _, _, _, h => by cases h
  | none :: l, k, 0, v, h => by cases h
  | none :: l, k, i + 1, v, h => by
    have := oh_asF_get (ad := ad) l (k + 1) i v h
    rw [show k + (i + 1) = k + 1 + i by omega]
    exact this
  | some w :: l, k, 0, v, h => by
    cases h
    exact List.mem_cons_self
  | some w :: l, k, i + 1, v, h => by
    have := oh_asF_get (ad := ad) l (k + 1) i v h
    rw [show k + (i + 1) = k + 1 + i by omega]
    exact List.mem_cons_of_mem _ this
theorem oh_asF_mem {ad : Nat → Nat} : ∀ (l : oh_L) (k : Nat) (q : Nat × Value), q ∈ oh_asF ad k l → ∃ i v, q.1 = k + i ∧ oh_get l i = some v ∧ q.2 = oh_V ad v
  | [], _, _, h => by cases h
  | none :: l, k, q, h => by
    obtain ⟨i, v, h1, h2, h3⟩ := oh_asF_mem l (k + 1) q h
    exact ⟨i + 1, v, by omega, h2, h3⟩
  | some w :: l, k, q, h => by
    rcases List.mem_cons.mp h with rfl | h
    · exact ⟨0, w, rfl, rfl, rfl⟩
    · obtain ⟨i, v, h1, h2, h3⟩ := oh_asF_mem l (k + 1) q h
      exact ⟨i + 1, v, by omega, h2, h3⟩
theorem oh_loc_has {ad : Nat → Nat} {lsc : Array Slot} {nL : Nat} {l : oh_L} (h : oh_loc ad lsc nL l) : lv_has lsc nL (oh_asF ad 0 l) := by
  refine ⟨h.2.1, h.2.2.1, fun q hq => ?_⟩
  obtain ⟨i, v, h1, h2, h3⟩ := oh_asF_mem l 0 q hq
  rw [h1, h3, Nat.zero_add]
  exact h.2.2.2 i v h2
theorem oh_loc_1 {ad : Nat → Nat} {lsc ls' : Array Slot} {nL i : Nat} {l : oh_L} {v : Value} (h : oh_loc ad lsc nL l) (hs : lv_has ls' nL ((i, oh_V ad v) :: (oh_asF ad 0 l).filter (fun q => !(q.1 == i) && !(q.1 + 1 == i && q.2.category == 2)))) : oh_loc ad ls' nL (oh_st1 l i v) := by
  refine ⟨by rw [oh_st1, oh_put_len, oh_clr_len]; exact h.1, hs.1, hs.2.1, fun j w hj => ?_⟩
  rw [oh_st1, oh_get_put] at hj
  split at hj
  · rename_i hc
    obtain ⟨rfl, -⟩ := hc
    cases hj
    exact hs.2.2 _ List.mem_cons_self
  · rename_i hc
    obtain ⟨h1, h2⟩ := oh_clr_get hj
    by_cases hji : j = i
    · subst hji
      exfalso
      refine hc ⟨rfl, ?_⟩
      rw [oh_clr_len]
      have : lsc[j]? = some (.val (oh_V ad w)) := h.2.2.2 j w h1
      have := lv_lt this
      rw [h.1, ← h.2.1]; exact this
    · refine hs.2.2 (j, oh_V ad w) (List.mem_cons_of_mem _ (List.mem_filter.mpr ⟨by simpa using oh_asF_get (ad := ad) l 0 j w h1, ?_⟩))
      simp only [Bool.and_eq_true, Bool.not_eq_true', beq_eq_false_iff_ne, ne_eq, Bool.and_eq_false_iff, oh_V_cat]
      refine ⟨hji, ?_⟩
      by_cases hj1 : j + 1 = i
      · right
        exact fun z => h2 ⟨hj1, z⟩
      · left
        exact hj1
theorem oh_loc_2 {ad : Nat → Nat} {lsc ls' : Array Slot} {nL i : Nat} {l : oh_L} {v : Value} (h : oh_loc ad lsc nL l) (hi : i + 1 < nL) (hs : lv_has ls' nL ((i, oh_V ad v) :: (oh_asF ad 0 l).filter (fun q => !(q.1 == i) && (!(q.1 == i + 1) && !(q.1 + 1 == i && q.2.category == 2))))) : oh_loc ad ls' nL (oh_st2 l i v) := by
  refine ⟨by rw [oh_st2, oh_put_len, oh_put_len, oh_clr_len]; exact h.1, hs.1, hs.2.1, fun j w hj => ?_⟩
  rw [oh_st2, oh_get_put] at hj
  split at hj
  · cases hj
  · rename_i hc0
    rw [oh_get_put] at hj
    split at hj
    · rename_i hc
      obtain ⟨rfl, -⟩ := hc
      cases hj
      exact hs.2.2 _ List.mem_cons_self
    · rename_i hc
      obtain ⟨h1, h2⟩ := oh_clr_get hj
      have hjl : j < l.length := by
        have : lsc[j]? = some (.val (oh_V ad w)) := h.2.2.2 j w h1
        have := lv_lt this
        rw [h.1, ← h.2.1]; exact this
      have hji : ¬ j = i := fun z => hc ⟨z, by rw [oh_clr_len]; omega⟩
      have hji1 : ¬ j = i + 1 := fun z => hc0 ⟨z, by rw [oh_put_len, oh_clr_len]; omega⟩
      refine hs.2.2 (j, oh_V ad w) (List.mem_cons_of_mem _ (List.mem_filter.mpr ⟨by simpa using oh_asF_get (ad := ad) l 0 j w h1, ?_⟩))
      simp only [Bool.and_eq_true, Bool.not_eq_true', beq_eq_false_iff_ne, ne_eq, Bool.and_eq_false_iff, oh_V_cat]
      refine ⟨hji, hji1, ?_⟩
      by_cases hj1 : j + 1 = i
      · right
        exact fun z => h2 ⟨hj1, z⟩
      · left
        exact hj1
theorem oh_more_get : ∀ {l l' : oh_L}, oh_more l l' → ∀ (i : Nat) (v : Value), oh_get l i = some v → oh_get l' i = some v
  | [], [], _, _, _, h => h
  | o :: l, o' :: l', hm, 0, v, h => by
    rcases hm.1 with z | z
    · change o = some v at h
      rw [z] at h; cases h
    · change o' = some v
      rw [← z]; exact h
  | o :: l, o' :: l', hm, i + 1, v, h => oh_more_get hm.2 i v h
  | [], _ :: _, hm, _, _, _ => hm.elim
  | _ :: _, [], hm, _, _, _ => hm.elim
theorem oh_more_len : ∀ {l l' : oh_L}, oh_more l l' → l.length = l'.length
  | [], [], _ => rfl
  | o :: l, o' :: l', hm => by simp [oh_more_len hm.2]
  | [], _ :: _, hm => hm.elim
  | _ :: _, [], hm => hm.elim
theorem oh_more_refl : ∀ l : oh_L, oh_more l l
  | [] => trivial
  | o :: l => ⟨Or.inr rfl, oh_more_refl l⟩
theorem oh_more_mask : ∀ (m : List Bool) (l : oh_L), oh_more (oh_mask m l) l
  | [], [] => trivial
  | [], o :: l => oh_more_refl (o :: l)
  | true :: m, [] => trivial
  | false :: m, [] => trivial
  | true :: m, o :: l => ⟨Or.inr rfl, oh_more_mask m l⟩
  | false :: m, o :: l => ⟨Or.inl rfl, oh_more_mask m l⟩
theorem oh_loc_less {ad : Nat → Nat} {lsc : Array Slot} {nL : Nat} {l l' : oh_L} (hm : oh_more l l') (h : oh_loc ad lsc nL l') : oh_loc ad lsc nL l := ⟨(oh_more_len hm).trans h.1, h.2.1, h.2.2.1, fun i v hv => h.2.2.2 i v (oh_more_get hm i v hv)⟩
theorem oh_pad_len : ∀ (n : Nat) (l : oh_L), l.length ≤ n → (oh_pad n l).length = n
  | 0, [], _ => rfl
  | 0, _ :: _, h => by simp at h
  | n + 1, [], _ => by simp [oh_pad, oh_pad_len n [] (by simp)]
  | n + 1, o :: l, h => by simp [oh_pad, oh_pad_len n l (by simpa using h)]
theorem oh_pad_get : ∀ (n : Nat) (l : oh_L) (i : Nat) (v : Value), oh_get (oh_pad n l) i = some v → oh_get l i = some v
  | 0, l, i, v, h => h
  | n + 1, [], 0, v, h => by cases h
  | n + 1, [], i + 1, v, h => by
    have := oh_pad_get n [] i v h
    cases this
  | n + 1, o :: l, 0, v, h => h
  | n + 1, o :: l, i + 1, v, h => oh_pad_get n l i v h
theorem oh_arg_len (ad : Nat → Nat) : ∀ vs : List Value, (oh_arg vs).length = (lg_sl (vs.map (oh_V ad))).length
  | [] => rfl
  | v :: r => by
    have ih := oh_arg_len ad r
    simp only [lg_sl, List.map_cons, List.flatMap_cons, List.length_append, oh_V_cat] at ih ⊢
    cases v <;> simp [oh_arg, Value.category, ih] <;> omega
theorem oh_arg_get (ad : Nat → Nat) : ∀ (vs : List Value) (k i : Nat) (v : Value), oh_get (oh_arg vs) i = some v → (k + i, oh_V ad v) ∈ lv_args k (vs.map (oh_V ad))
  | [], _, _, _, h => by cases h
  | w :: r, k, i, v, h => by
    have key1 : ∀ (w' : Value), w'.category = 1 → oh_arg (w' :: r) = some w' :: oh_arg r := by
      intro w' hw
      cases w' <;> first | rfl | cases hw
    have key2 : ∀ (w' : Value), w'.category = 2 → oh_arg (w' :: r) = some w' :: none :: oh_arg r := by
      intro w' hw
      cases w' <;> first | rfl | cases hw
    simp only [List.map_cons, lv_args, oh_V_cat]
    rcases lv_cat w with hw | hw
    · rw [key1 w hw] at h
      rw [if_neg (by omega)]
      cases i with
      | zero => cases h; exact List.mem_cons_self
      | succ i =>
        refine List.mem_cons_of_mem _ ?_
        rw [show k + (i + 1) = k + 1 + i by omega]
        exact oh_arg_get ad r (k + 1) i v h
    · rw [key2 w hw] at h
      rw [if_pos hw]
      cases i with
      | zero => cases h; exact List.mem_cons_self
      | succ i =>
        cases i with
        | zero => cases h
        | succ i =>
          refine List.mem_cons_of_mem _ ?_
          rw [show k + (i + 1 + 1) = k + 2 + i by omega]
          exact oh_arg_get ad r (k + 2) i v h
end
section
/-! WHAT STANDS AROUND: the tables' words, statics, texts; checks of a method's code by program -/
def oh_nest : Cond → Bool
  | .fieldLinkNest _ _ _ _ _ _ => true
  | .methodLinkNest _ _ _ _ => true
  | _ => false
def oh_okw (w : Cond) : Bool := (w.onTables && w.keeps) || oh_nest w
theorem oh_okw_on {w : Cond} (h : oh_okw w = true) : w.onTables = true := by
  unfold oh_okw at h
  rcases (Bool.or_eq_true _ _).mp h with h | h
  · exact ((Bool.and_eq_true _ _).mp h).1
  · cases w <;> first | rfl | cases h
theorem oh_okw_warm {w : Cond} (h : oh_okw w = true) {s U : State} (hW : s.WarmedH U.vm) (hw : va_Nw w s) : va_Nw w U := by
  unfold oh_okw at h
  rcases (Bool.or_eq_true _ _).mp h with h | h
  · exact word_at hW (Or.inl h) hw
  · cases w <;> first | cases h; done | exact va_Nw.warmF hW hw | exact va_Nw.warmM hW hw
def oh_B (b0 : Nat) : Nat → Prop := fun q => b0 ≤ q
def oh_xN : List (Nat × String × String × String) := [(1000, "OtherHat", "ABOVE", "[I"), (1001, "OtherHat$Voices", "OWN", "[I"), (1002, "OtherHat", "BLACK_FOR", "[J")]
def oh_xS : List (Nat × Nat × String) := [(23, 0, ""), (33, 1, "bnfl"), (35, 2, "htc")]
def oh_Amb (D : va_G) (cI cR : ClassId) (ad : Nat → Nat) (b0 : Nat) (U : State) (H : Heap) : Prop :=
  va_K D vwCl [(cI, .int), (cR, .object RX5)] U ∧ (∀ w ∈ lw_tbl, oh_okw w = true → va_Nw w U) ∧
  (∀ x q, oh_find oh_xN x = some q → va_Z q.1 q.2.1 q.2.2 (.ref (ad x)) (oh_B b0) U H) ∧
  (∀ x l, oh_find oh_xI x = some l → va_T .int (ad x) l.length (fun j => .int (l.getD j 0)) (oh_B b0) U H) ∧
  (∀ x l, oh_find oh_xL x = some l → va_T .long (ad x) l.length (fun j => .long (l.getD j 0)) (oh_B b0) U H) ∧
  (∀ q ∈ oh_xS, vk_R RX2 q.1 q.2.2 (ad (2000 + q.2.1)) U) ∧
  vk_S 3 (oh_tx.map List.length) oh_tx (fun i => ad (2000 + i)) (fun i => ad (3000 + i)) (oh_B b0) U H ∧
  (va_Z "java/lang/String" "COMPACT_STRINGS" "Z" (.int 1) (oh_B b0) U H)
theorem oh_Amb_go {D : va_G} {cI cR : ClassId} {ad : Nat → Nat} {b0 : Nat} {s U : State} {H H1 : Heap} (h : oh_Amb D cI cR ad b0 s H) (hW : s.WarmedH U.vm) (hq : ∀ a : Nat, a < H.size → ¬ oh_B b0 a → H1[a]? = H[a]?) : oh_Amb D cI cR ad b0 U H1 := by
  obtain ⟨h1, h2, h3, h4, h5, h6, h7, h8⟩ := h
  exact ⟨va_K.moved hW.alike h1, fun w hw ho => oh_okw_warm ho hW (h2 w hw ho), fun x q hx => va_Z.moved hW.alike ((h3 x q hx).kept hq), fun x q hx => va_T.moved hW.alike ((h4 x q hx).kept hq), fun x q hx => va_T.moved hW.alike ((h5 x q hx).kept hq), fun q hx => vk_R.warm hW (h6 q hx), vk_S.moved hW.alike (h7.kept hq), va_Z.moved hW.alike (h8.kept hq)⟩
theorem oh_Amb_same {D : va_G} {cI cR : ClassId} {ad : Nat → Nat} {b0 : Nat} {u U : State} {H : Heap} (h : oh_Amb D cI cR ad b0 u H) (hv : u.vm = U.vm) : oh_Amb D cI cR ad b0 U H := by
  have hal : u.vm.Alike U.vm := by rw [hv]; exact Vm.Alike.refl U.vm
  obtain ⟨h1, h2, h3, h4, h5, h6, h7, h8⟩ := h
  exact ⟨va_K.moved hal h1, fun w hw ho => va_Nw.same (oh_okw_on ho) hv (h2 w hw ho), fun x q hx => va_Z.moved hal (h3 x q hx), fun x q hx => va_T.moved hal (h4 x q hx), fun x q hx => va_T.moved hal (h5 x q hx), fun q hx => vk_R.same hv.symm (h6 q hx), vk_S.moved hal h7, va_Z.moved hal h8⟩
def oh_A (ad : Nat → Nat) (G : List oh_Sh) (sz : Nat) : Nat → Prop := fun q => (∃ i, i < G.length ∧ q = ad i) ∨ sz ≤ q
def oh_Pc (D : va_G) (cI cR : ClassId) (ad : Nat → Nat) (b0 : Nat) (G : List oh_Sh) (h : oh_St) (av : List Value) (sz : Nat) : Array Value → State → Prop := fun v U => v = (av.map (oh_V ad)).toArray ∧ U.heap.size = sz ∧ va_P D vwCl (oh_W cI cR ad G h) U.heap ∧ oh_Amb D cI cR ad b0 U U.heap
def oh_Qc (D : va_G) (cI cR : ClassId) (ad : Nat → Nat) (G : List oh_Sh) (Q : oh_Q) (sz : Nat) : Array Value → State → Outcome → State → Prop := fun _ st oc t => (∃ (r : Option Value) (h' : oh_St), oc = .returned (r.map (oh_V ad)) ∧ Q r h' ∧ va_P D vwCl (oh_W cI cR ad G h') t.heap) ∧ va_F (oh_A ad G sz) st t
theorem oh_Pc_blind {D : va_G} {cI cR : ClassId} {ad : Nat → Nat} {b0 : Nat} {G : List oh_Sh} {h : oh_St} {av : List Value} {sz : Nat} : FrameBlind (oh_Pc D cI cR ad b0 G h av sz) := fun _ _ _ _ q => ⟨q.1, q.2.1, q.2.2.1, oh_Amb_same q.2.2.2 rfl⟩
def oh_rm (d : Nat) : Room := { frames := d, cells := 0, slots := 0, locals := 60 * d }
/-- behind a call -/
theorem oh_callW {p : Program} {l : Launch} {e : Env} {R : Room} {s : State} {m : MethodId} {args : Array Value} {below : List Frame} {meth : Method} {c : Code} {H : Heap} {locs : List Loc} {cells slots : Nat} {Q : State → Prop} {pc : Nat} {ls : Array Slot} {rest st0 : List Value} {a : Array Value} {A0 : Nat → Prop} {H0 : Heap} {D : va_G} {cI cR : ClassId} {ad : Nat → Nat} {G : List oh_Sh} {Q' : oh_Q}
    (hr : va_Run p l e R s m args below meth c H locs cells slots 0 0 (F0 m pc ls st0) rest (oh_Qc D cI cR ad G Q' H.size a) (oh_A ad G H.size)) (hS : va_S A0 H0 H locs) (hA : ∀ q, oh_A ad G H.size q → A0 q)
    (kk : ∀ (r : Option Value) (h' : oh_St) (H1 : Heap) (locs1 : List Loc), Q' r h' → va_P D vwCl (oh_W cI cR ad G h') H1 → va_S A0 H0 H1 locs1 → W p l e R s m args below meth c H1 locs1 cells slots Q (F0 m (pc + 3) ls ((r.map (oh_V ad)).toList ++ rest))) : W p l e R s m args below meth c H locs cells slots Q (F0 m pc ls st0) := by
  intro T hT X
  obtain ⟨v, st₀, t, T', L, h0, X', hL, e1, e2, ⟨⟨r, h', hv, hp, hb⟩, hz, hk⟩, st⟩ := hr T hT X
  cases hv
  rw [h0] at hz hk
  obtain ⟨t2, a1, b1⟩ := kk r h' T'.heap (locs ++ L) hp (by rw [e1]; exact hb)
    ⟨Nat.le_trans hS.1 (by rw [e1]; exact hz), fun q h1 h2 => by rw [e1, hk q (Nat.lt_of_lt_of_le h1 hS.1) (fun z => h2 (hA q z))]; exact hS.2.1 q h1 h2, fun q hq => by
      rcases List.mem_append.mp hq with h | h
      · exact hS.2.2 q h
      · exact hA _ (hL q h)⟩ T' rfl X'
  exact ⟨t2, st t2 a1, b1⟩
-- checks
abbrev oh_MI : Type := MethodName × ByteArray × Nat × Option FieldType × Bool × Nat × Nat × Nat × Nat
def oh_wd (ps : Nat) (w : Cond) : Bool := (match oh_nth lw_tbl ps with
  | some w' => decide (w' = w)
  | none => false) && oh_okw w
theorem oh_wd_i {ps : Nat} {w : Cond} (h : oh_wd ps w = true) : w ∈ lw_tbl ∧ oh_okw w = true := by
  unfold oh_wd at h
  obtain ⟨h1, h2⟩ := (Bool.and_eq_true _ _).mp h
  split at h1
  · rename_i w' hw
    have := of_decide_eq_true h1
    subst this
    rw [oh_nth_eq] at hw
    exact ⟨List.mem_of_getElem? hw, h2⟩
  · cases h1
def oh_ln (i : Instr) (n : Nat) : Bool := match i with
  | .bipush _ => Nat.beq n 2
  | .ldc _ => Nat.beq n 2
  | .iload _ => Nat.beq n 2
  | .lload _ => Nat.beq n 2
  | .aload _ => Nat.beq n 2
  | .istore _ => Nat.beq n 2
  | .lstore _ => Nat.beq n 2
  | .astore _ => Nat.beq n 2
  | .sipush _ => Nat.beq n 3
  | .ldc_w _ => Nat.beq n 3
  | .ldc2_w _ => Nat.beq n 3
  | .iinc _ _ => Nat.beq n 3
  | .goto _ => Nat.beq n 3
  | .ifCond _ _ => Nat.beq n 3
  | .if_icmp _ _ => Nat.beq n 3
  | .getfield _ => Nat.beq n 3
  | .putfield _ => Nat.beq n 3
  | .getstatic _ => Nat.beq n 3
  | .invokevirtual _ => Nat.beq n 3
  | .invokestatic _ => Nat.beq n 3
  | .tableswitch _ _ _ _ => true
  | .lookupswitch _ _ => true
  | _ => Nat.beq n 1
def oh_ckF (own : String) (x a b ps : Nat) : Bool := match oh_nth vwCl a with
  | some (C, T, N) => Nat.blt b N && decide ((T b).1 = C) && (oh_wd ps (.fieldLink own x C (T b).2.1 (T b).2.2.1) || oh_wd ps (.fieldLinkNest own x C (T b).2.1 (T b).2.2.1 "OtherHat"))
  | none => false
def oh_ckN (a b : Nat) : Bool := match oh_nth vwCl a with
  | some (_, T, _) => !(T b).2.2.2
  | none => false
def oh_ckY (own : String) (x : Nat) (y : MethodName) (ps : Nat) : Bool := oh_wd ps (.methodLink own x y) || oh_wd ps (.methodLinkNest own x y "OtherHat")
def oh_ckC (e : Nat) (cls : String) : Bool := match Nat.beq e 99 with
  | true => decide (cls = "java/lang/String")
  | false => match oh_nth vwCl e with
    | some (C, _, _) => decide (C = cls)
    | none => false
def oh_ckI (mi : List oh_MI) (own : String) (ret : Option FieldType) (pc : Nat) (i : Instr) (a b c e ps : Nat) : Bool := match i with
  | .iconst v => decide (Int32.ofInt v = oh_num a b)
  | .bipush v => decide ((Int8.ofInt v).toInt32 = oh_num a b)
  | .sipush v => decide ((Int16.ofInt v).toInt32 = oh_num a b)
  | .lconst v => decide (Int64.ofNat v.1 = oh_numL a b)
  | .iload_n k => Nat.beq k.1 a
  | .iload k => Nat.beq k a
  | .lload_n k => Nat.beq k.1 a
  | .lload k => Nat.beq k a
  | .aload_n k => Nat.beq k.1 a
  | .aload k => Nat.beq k a
  | .istore_n k => Nat.beq k.1 a
  | .istore k => Nat.beq k a
  | .lstore_n k => Nat.beq k.1 a
  | .lstore k => Nat.beq k a
  | .astore_n k => Nat.beq k.1 a
  | .astore k => Nat.beq k a
  | .iinc k v => Nat.beq k a && decide (Int32.ofInt v = oh_num b c)
  | .goto o => decide ((pc : Int) + o = (a : Int))
  | .ifCond _ o => decide ((pc : Int) + o = (a : Int))
  | .if_icmp _ o => decide ((pc : Int) + o = (a : Int))
  | .getfield x => oh_ckF own x a b ps
  | .putfield x => oh_ckF own x a b ps && oh_ckN a b
  | .getstatic x => match oh_find oh_xN a with
    | some q => oh_wd ps (.fieldLink own x q.1 q.2.1 q.2.2) || oh_wd ps (.fieldLinkNest own x q.1 q.2.1 q.2.2 "OtherHat")
    | none => false
  | .ldc x => match b with
    | 0 => oh_wd ps (.constant own x (oh_num a e))
    | _ => decide (own = RX2) && (match oh_nth oh_xS c with
      | some q => decide (q.1 = x) && decide (2000 + q.2.1 = a)
      | none => false)
  | .ldc_w x => oh_wd ps (.constant own x (oh_num a b))
  | .ldc2_w x => oh_wd ps (.constantLong own x (oh_numL a b))
  | .invokevirtual x => match oh_nth mi a with
    | some q => !q.2.2.2.2.1 && oh_ckY own x q.1 ps && decide ((parseMethodDescriptor q.1.desc).map (fun d => d.parameters.length) = some (b - 1)) && Nat.blt 0 b && oh_ckC e q.1.cls
    | none => false
  | .invokestatic x => match c with
    | 4 => oh_wd ps (.methodLink own x arraycopyName) && oh_wd a (.native arraycopyName) && oh_wd b (.static arraycopyName) && oh_wd e (.initialized "java/lang/System")
    | _ => match oh_nth mi a with
      | some q => q.2.2.2.2.1 && oh_ckY own x q.1 ps && decide ((parseMethodDescriptor q.1.desc).map (fun d => d.parameters.length) = some b)
      | none => false
  | .ireturn => match a with
    | 0 => decide (ret = some .int)
    | _ => decide (ret = some .boolean)
  | .lreturn => decide (ret = some .long)
  | .areturn => match ret with
    | some (.object _) => true
    | _ => false
  | .return_ => decide (ret = none)
  | .tableswitch d lo hi os => decide (0 ≤ lo) && decide (hi ≤ 2147483647) && decide (hi = lo + os.toList.length - 1) && decide (0 ≤ (pc : Int) + d) && os.toList.all (fun o => decide (0 ≤ (pc : Int) + o))
  | .lookupswitch d ps => decide (0 ≤ (pc : Int) + d) && ps.toList.all (fun o => decide (0 ≤ (pc : Int) + o.2) && decide (0 ≤ o.1) && decide (o.1 ≤ 2147483647)) && (ps.toList.zip (ps.toList.drop 1)).all (fun (a, next) => a.1 < next.1)
  | _ => true
def oh_ckS (mi : List oh_MI) (own : String) (ret : Option FieldType) (bytes : ByteArray) : Nat → oh_C → Bool
  | _, [] => true
  | pc, (i, n, a, b, c, e, ps) :: r => decide (decode bytes pc = .ok (i, n)) && oh_ln i n && oh_ckI mi own ret pc i a b c e ps && oh_ckS mi own ret bytes (pc + n) r
theorem oh_ckS_i {mi : List oh_MI} {own : String} {ret : Option FieldType} {bytes : ByteArray} {pc : Nat} {i : Instr} {n a b c e ps : Nat} {r : oh_C} (h : oh_ckS mi own ret bytes pc ((i, n, a, b, c, e, ps) :: r) = true) : decode bytes pc = .ok (i, n) ∧ oh_ln i n = true ∧ oh_ckI mi own ret pc i a b c e ps = true ∧ oh_ckS mi own ret bytes (pc + n) r = true := by
  unfold oh_ckS at h
  simp only [Bool.and_eq_true] at h
  exact ⟨of_decide_eq_true h.1.1.1, h.1.1.2, h.1.2, h.2⟩
def oh_ckT (mi : List oh_MI) (own : String) (ret : Option FieldType) (bytes : ByteArray) : oh_T → Bool
  | [] => true
  | (pc, _, c) :: r => oh_ckS mi own ret bytes pc c && oh_ckT mi own ret bytes r
theorem oh_ckT_i {mi : List oh_MI} {own : String} {ret : Option FieldType} {bytes : ByteArray} : ∀ {T : oh_T}, oh_ckT mi own ret bytes T = true → ∀ {pc : Nat} {q : Option (List Bool) × oh_C}, oh_find T pc = some q → oh_ckS mi own ret bytes pc q.2 = true
  | [], _, _, _, h => by cases h
  | (p, mm, c) :: r, hc, pc, q, h => by
    unfold oh_ckT at hc
    obtain ⟨h1, h2⟩ := (Bool.and_eq_true _ _).mp hc
    unfold oh_find at h
    split at h
    · rename_i hb
      have := Nat.eq_of_beq_eq_true hb
      subst this
      cases h
      exact h1
    · exact oh_ckT_i h2 h
def oh_ckM (q : oh_MI) : Bool := match q with
  | (y, bs, mL, ret, stc, p1, p2, p3, p4) => oh_wd p1 (.code y bs mL ret) && (match stc with
      | true => oh_wd p2 (.static y)
      | false => oh_wd p2 (.instanceMethod y) && oh_wd p3 (.selects y.cls y y)) && oh_wd p4 (.initialized y.cls) && decide (y.cls ≠ "java/lang/invoke/MethodHandle") && decide (y.cls ≠ "java/lang/invoke/VarHandle") && plainName y.cls && Nat.ble mL 40
/-- the shapes agree with the classes' tables -/
def oh_kd (k : Nat) (d : String) : Bool := match k with
  | 0 => decide (d = "I")
  | 1 => decide (d = "J")
  | 2 => true
  | 3 => decide (d = "Ljava/lang/String;")
  | 4 => decide (d = "Z")
  | _ => false
def oh_kds (T : u_T) : Nat → List (Nat × Nat) → Bool
  | _, [] => true
  | k, z :: r => oh_kd z.1 (T k).2.2.1 && oh_kds T (k + 1) r
theorem oh_kds_i {T : u_T} : ∀ {sl : List (Nat × Nat)} {k : Nat}, oh_kds T k sl = true → ∀ {j : Nat} {z : Nat × Nat}, oh_nth sl j = some z → oh_kd z.1 (T (k + j)).2.2.1 = true
  | [], _, _, _, _, h => by cases h
  | z :: r, k, hk, 0, z', h => by
    unfold oh_kds at hk
    cases h
    exact ((Bool.and_eq_true _ _).mp hk).1
  | z :: r, k, hk, j + 1, z', h => by
    unfold oh_kds at hk
    have := oh_kds_i ((Bool.and_eq_true _ _).mp hk).2 (j := j) h
    rw [show k + (j + 1) = k + 1 + j by omega]
    exact this
def oh_ckG (G : List oh_Sh) : Bool := G.all (fun s => match s with
  | .inl (ci, sl) => match oh_nth vwCl ci with
    | some (_, T, N) => Nat.beq sl.length N && oh_kds T 0 sl
    | none => false
  | .inr (.inl _) => true
  | .inr (.inr js) => Nat.ble js.length 1000)
theorem oh_ckG_j {G : List oh_Sh} (h : oh_ckG G = true) {o : Nat} {js : List Nat} (hg : oh_nth G o = some (.inr (.inr js))) : js.length ≤ 1000 := by
  rw [oh_nth_eq] at hg
  have h1 := List.all_eq_true.mp h _ (List.mem_of_getElem? hg)
  exact Nat.le_of_ble_eq_true h1
theorem oh_ckG_i {G : List oh_Sh} (h : oh_ckG G = true) {o ci : Nat} {sl : List (Nat × Nat)} (hg : oh_nth G o = some (.inl (ci, sl))) : ∃ C T N, oh_nth vwCl ci = some (C, T, N) ∧ sl.length = N ∧ oh_kds T 0 sl = true := by
  rw [oh_nth_eq] at hg
  have h1 := List.all_eq_true.mp h _ (List.mem_of_getElem? hg)
  dsimp only at h1
  split at h1
  · rename_i C T N hn
    obtain ⟨h2, h3⟩ := (Bool.and_eq_true _ _).mp h1
    exact ⟨C, T, N, hn, Nat.eq_of_beq_eq_true h2, h3⟩
  · cases h1
/-- of each class: its fields' types, their names apart, its layout's words -/
theorem oh_cls {ci : Nat} {C : String} {T : u_T} {N : Nat} (h : oh_nth vwCl ci = some (C, T, N)) : (∃ ty0 : Nat → FieldType, ∀ k, k < N → parseFieldDescriptor (T k).2.2.1 = some (ty0 k)) ∧ ∀ a, a < N → ∀ b, b < N → a ≠ b → (T a).2.1 ≠ (T b).2.1 := by
  rw [oh_nth_eq] at h
  match ci, h with
  | 0, h => cases h; exact ⟨⟨_, tyX0_ok⟩, nmX0⟩
  | 1, h => cases h; exact ⟨⟨_, tyX1_ok⟩, nmX1⟩
  | 2, h => cases h; exact ⟨⟨_, tyX2_ok⟩, nmX2⟩
  | 3, h => cases h; exact ⟨⟨_, tyX3_ok⟩, nmX3⟩
  | 4, h => cases h; exact ⟨⟨_, tyX4_ok⟩, nmX4⟩
  | 5, h => cases h; exact ⟨⟨_, tyX5_ok⟩, nmX5⟩
  | 6, h => cases h; exact ⟨⟨_, tyX6_ok⟩, nmX6⟩
  | 7, h => cases h; exact ⟨⟨_, tyX7_ok⟩, nmX7⟩
  | 8, h => cases h; exact ⟨⟨_, tyX8_ok⟩, nmX8⟩
  | k + 9, h => simp [vwCl] at h
def oh_clw : Bool := (vwCl.flatMap (fun q => u_ws q.1 q.2.1 q.2.2)).all (fun w => decide (w ∈ tables_1) && oh_okw w)
theorem oh_clw_ok : oh_clw = true := by decide +kernel
theorem oh_cls_w {ci : Nat} {C : String} {T : u_T} {N : Nat} (h : oh_nth vwCl ci = some (C, T, N)) : ∀ w ∈ u_ws C T N, w ∈ lw_tbl ∧ oh_okw w = true := by
  intro w hw
  rw [oh_nth_eq] at h
  have h1 := List.all_eq_true.mp oh_clw_ok w (List.mem_flatMap.mpr ⟨_, List.mem_of_getElem? h, hw⟩)
  obtain ⟨h2, h3⟩ := (Bool.and_eq_true _ _).mp h1
  exact ⟨List.mem_append_right _ (of_decide_eq_true h2), h3⟩
end
section
/-! SOUNDNESS: the clean picture's steps are the machine's -/
def oh_Pm (p : Program) (l : Launch) (e : Env) (R : Room) (s : State) (m : MethodId) (args : Array Value) (below : List Frame) (meth : Method) (c : Code) (D : va_G) (cI cR : ClassId) (ad : Nat → Nat) (G : List oh_Sh) (A : Nat → Prop) (Qm : State → Prop) (mi : List oh_MI) (own : String) (ret : Option FieldType) (bytes : ByteArray) (nL : Nat) : oh_P := fun pc code l' st h => ∀ (H : Heap) (locs : List Loc) (lsc : Array Slot), va_P D vwCl (oh_W cI cR ad G h) H → va_S A s.heap H locs → oh_loc ad lsc nL l' → oh_ckS mi own ret bytes pc code = true → W p l e R s m args below meth c H locs 0 0 Qm (F0 m pc lsc (st.map (oh_V ad)))
section OHS
variable {p : Program} {l : Launch} {e : Env} {R : Room} {s : State} {m : MethodId} {args : Array Value} {below : List Frame} {meth : Method} {c : Code} {D : va_G} {cI cR : ClassId} {ad : Nat → Nat} {G : List oh_Sh} {A : Nat → Prop} {Qm : State → Prop} {mi : List oh_MI} {own : String} {ret : Option FieldType} {bytes : ByteArray} {nL b0 : Nat} {T : oh_T}
theorem oh_J_W {pc : Nat} {l' : oh_L} {st : List Value} {h : oh_St} {H : Heap} {locs : List Loc} {lsc : Array Slot} (hT : oh_ckT mi own ret bytes T = true) (q : oh_J T (oh_Pm p l e R s m args below meth c D cI cR ad G A Qm mi own ret bytes nL) (oh_Pm p l e R s m args below meth c D cI cR ad G A Qm mi own ret bytes nL) pc l' st h) (hP : va_P D vwCl (oh_W cI cR ad G h) H) (hS : va_S A s.heap H locs) (hl : oh_loc ad lsc nL l') : W p l e R s m args below meth c H locs 0 0 Qm (F0 m pc lsc (st.map (oh_V ad))) := by
  unfold oh_J at q
  split at q
  · rename_i c2 hf
    exact q H locs lsc hP hS hl (oh_ckT_i hT hf)
  · rename_i mm c2 hf
    exact q H locs lsc hP hS (oh_loc_less (oh_more_mask mm l') hl) (oh_ckT_i hT hf)
  · exact q.elim
theorem oh_Ab {w : Cond} (hAmb : oh_Amb D cI cR ad b0 s s.heap) (hw : w ∈ lw_tbl ∧ oh_okw w = true) : w.before args s = true := va_Nw.use (oh_okw_on hw.2) (hAmb.2.1 w hw.1 hw.2)
theorem oh_ts (hAmb : oh_Amb D cI cR ad b0 s s.heap) : ∀ w ∈ lw_tbl.filter oh_okw, w.before args s = true := fun w hw => by
  obtain ⟨h1, h2⟩ := List.mem_filter.mp hw
  exact oh_Ab hAmb ⟨h1, h2⟩
theorem oh_getW {C : String} {T' : u_T} {N ci index k o pc : Nat} {sl : List (Nat × Nat)} {z : Nat × Nat} {h : oh_St} {H : Heap} {locs : List Loc} {ls : Array Slot} {rest : List Value} {v : Value} (hx : p.tables.exec = Jvm.exec) (hb : c.code = bytes) (hown : s.vm.findClass own = some m.cls) (hAmb : oh_Amb D cI cR ad b0 s s.heap)
    (hP : va_P D vwCl (oh_W cI cR ad G h) H) (hg : oh_nth G o = some (.inl (ci, sl))) (hc : oh_nth vwCl ci = some (C, T', N)) (hk : k < N) (hC : (T' k).1 = C) {ps : Nat} (hw : oh_wd ps (.fieldLink own index C (T' k).2.1 (T' k).2.2.1) = true ∨ oh_wd ps (.fieldLinkNest own index C (T' k).2.1 (T' k).2.2.1 "OtherHat") = true) (hz : oh_nth sl k = some z) (hv : oh_slv ad h o k z = v) (hdg : decode bytes pc = .ok (.getfield index, 3))
    (kk : W p l e R s m args below meth c H locs 0 0 Qm (F0 m (pc + 3) ls (v :: rest))) : W p l e R s m args below meth c H locs 0 0 Qm (F0 m pc ls (.ref (ad o) :: rest)) := by
  have he : (oh_W cI cR ad G h)[o]? = some (ad o, .inr (ci, sl.mapIdx (fun k z => oh_slv ad h o k z))) := oh_W_at hg
  have hin : ∀ w ∈ u_ws C T' N, w ∈ lw_tbl.filter oh_okw := fun w hw => List.mem_filter.mpr ((oh_cls_w hc) w hw)
  have hfs : (sl.mapIdx (fun k z => oh_slv ad h o k z))[k]? = some v := by
    rw [oh_nth_eq] at hz
    simp [hz, hv]
  have hc' : vwCl[ci]? = some (C, T', N) := by rw [← oh_nth_eq]; exact hc
  rcases hw with hw | hw
  · exact va_get (ref := C) hx hb (oh_ts hAmb) hin hown hAmb.1 hP o he hc' k hk (oh_Ab hAmb (oh_wd_i hw)) (fun x hh => by rw [hC] at hh; exact hh) hfs hdg kk
  · exact va_getN (ref := C) (host := "OtherHat") hx hb (oh_ts hAmb) hin hown hAmb.1 hP o he hc' k hk (oh_Ab hAmb (oh_wd_i hw)) (fun x hh => by rw [hC] at hh; exact hh) hfs hdg kk
theorem oh_putW {C : String} {T' : u_T} {N ci index k o pc : Nat} {sl : List (Nat × Nat)} {z : Nat × Nat} {h h' : oh_St} {H : Heap} {locs : List Loc} {ls : Array Slot} {rest : List Value} {v : Value} {ty : FieldType} (hx : p.tables.exec = Jvm.exec) (hb : c.code = bytes) (hown : s.vm.findClass own = some m.cls) (hAmb : oh_Amb D cI cR ad b0 s s.heap)
    (hP : va_P D vwCl (oh_W cI cR ad G h) H) (hD : va_D A (oh_W cI cR ad G h)) (hS : va_S A s.heap H locs) (hg : oh_nth G o = some (.inl (ci, sl))) (hc : oh_nth vwCl ci = some (C, T', N)) (hk : k < N) (hC : (T' k).1 = C) (hfin : (T' k).2.2.2 = false) {ps : Nat} (hw : oh_wd ps (.fieldLink own index C (T' k).2.1 (T' k).2.2.1) = true ∨ oh_wd ps (.fieldLinkNest own index C (T' k).2.1 (T' k).2.2.1 "OtherHat") = true) (hz : oh_nth sl k = some z)
    (hd : parseFieldDescriptor (T' k).2.2.1 = some ty) (hn : narrow ty v = v) (hfit : fits ty v = true) (hv : oh_slv ad h' o k z = v) (hne : ∀ a, a ≠ o → h'.1 a = h.1 a ∧ h'.2 a = h.2 a) (hne2 : ∀ j, j ≠ k → h'.1 o j = h.1 o j ∧ h'.2 o j = h.2 o j) (hdg : decode bytes pc = .ok (.putfield index, 3))
    (kk : ∀ (H1 : Heap) (locs1 : List Loc), va_P D vwCl (oh_W cI cR ad G h') H1 → va_S A s.heap H1 locs1 → W p l e R s m args below meth c H1 locs1 0 0 Qm (F0 m (pc + 3) ls rest)) : W p l e R s m args below meth c H locs 0 0 Qm (F0 m pc ls (v :: .ref (ad o) :: rest)) := by
  have he : (oh_W cI cR ad G h)[o]? = some (ad o, .inr (ci, sl.mapIdx (fun k z => oh_slv ad h o k z))) := oh_W_at hg
  have hin : ∀ w ∈ u_ws C T' N, w ∈ lw_tbl.filter oh_okw := fun w hw => List.mem_filter.mpr ((oh_cls_w hc) w hw)
  have hl : k < (sl.mapIdx (fun k z => oh_slv ad h o k z)).length := by
    rw [oh_nth_eq] at hz
    simpa using (List.getElem?_eq_some_iff.mp hz).1
  have hc' : vwCl[ci]? = some (C, T', N) := by rw [← oh_nth_eq]; exact hc
  obtain ⟨⟨ty0, hty⟩, hnm⟩ := oh_cls hc
  have hset : (oh_W cI cR ad G h).set o (ad o, .inr (ci, (sl.mapIdx (fun k z => oh_slv ad h o k z)).set k v)) = oh_W cI cR ad G h' := oh_W_set hg hne (by
    show Sum.inr (ci, sl.mapIdx (fun k z => oh_slv ad h' o k z)) = _
    rw [oh_slots_set hz hv hne2])
  rcases hw with hw | hw
  · exact va_put (ref := C) hx hb (oh_ts hAmb) hin ty0 hty hnm hown hAmb.1 hP hD hS o he hc' k hk (oh_Ab hAmb (oh_wd_i hw)) (fun x hh => by rw [hC] at hh; exact hh) hfin hd hn hfit hl hdg (fun H1 locs1 hP1 _ hS1 => kk H1 locs1 (by rw [hset] at hP1; exact hP1) hS1)
  · exact va_putN (ref := C) (host := "OtherHat") hx hb (oh_ts hAmb) hin ty0 hty hnm hown hAmb.1 hP hD hS o he hc' k hk (oh_Ab hAmb (oh_wd_i hw)) (fun x hh => by rw [hC] at hh; exact hh) hfin hd hn hfit hl hdg (fun H1 locs1 hP1 _ hS1 => kk H1 locs1 (by rw [hset] at hP1; exact hP1) hS1)
theorem oh_csum_eq : ∀ st : List Value, ((st.map (oh_V ad)).map fun v => v.category).sum = oh_csum st
  | [] => rfl
  | v :: r => by simp only [List.map_cons, List.sum_cons, oh_csum, oh_V_cat, oh_csum_eq r]
/-- which cells change: those of the world, and new ones -/
theorem oh_A_sub {H : Heap} {locs : List Loc} (hA : ∀ q, A q ↔ oh_A ad G s.heap.size q) (hS : va_S A s.heap H locs) : ∀ q, oh_A ad G H.size q → A q := by
  intro q hq
  rw [hA]
  rcases hq with h | h
  · exact Or.inl h
  · exact Or.inr (Nat.le_trans hS.1 h)
theorem oh_AmbU {H : Heap} {locs : List Loc} {U : State} (hAmb : oh_Amb D cI cR ad b0 s s.heap) (hAB : ∀ q, A q → b0 ≤ q) (hS : va_S A s.heap H locs) (hU : U.heap = H) (hW : s.WarmedH U.vm) : oh_Amb D cI cR ad b0 U U.heap := by
  rw [hU]
  exact oh_Amb_go hAmb hW (fun a h1 h2 => hS.2.1 a h1 (fun z => h2 (hAB a z)))
/-- what is known of the methods that are called -/
def oh_Ms (l : Launch) (D : va_G) (cI cR : ClassId) (ad : Nat → Nat) (b0 : Nat) (G : List oh_Sh) (mi : List oh_MI) (d : Nat) (E : oh_E) : Prop :=
  ∀ (j : Nat) (q : oh_MI), oh_nth mi j = some q → ∀ (av : List Value) (h : oh_St) (Q : oh_Q) (sz : Nat), b0 ≤ sz → E j av h Q → Met l q.1 [.code q.1 q.2.1 q.2.2.1 q.2.2.2.1] (oh_rm d) (oh_Pc D cI cR ad b0 G h av sz) (oh_Qc D cI cR ad G Q sz) 0 0 (oh_A ad G sz)
theorem oh_ckM_i {q : oh_MI} (h : oh_ckM q = true) : (Cond.code q.1 q.2.1 q.2.2.1 q.2.2.2.1 ∈ lw_tbl ∧ oh_okw (.code q.1 q.2.1 q.2.2.1 q.2.2.2.1) = true) ∧ ((q.2.2.2.2.1 = true ∧ Cond.static q.1 ∈ lw_tbl ∧ oh_okw (.static q.1) = true) ∨ (q.2.2.2.2.1 = false ∧ (Cond.instanceMethod q.1 ∈ lw_tbl ∧ oh_okw (.instanceMethod q.1) = true) ∧ (Cond.selects q.1.cls q.1 q.1 ∈ lw_tbl ∧ oh_okw (.selects q.1.cls q.1 q.1) = true))) ∧ (Cond.initialized q.1.cls ∈ lw_tbl ∧ oh_okw (.initialized q.1.cls) = true) ∧ (q.1.cls ≠ "java/lang/invoke/MethodHandle" ∧ q.1.cls ≠ "java/lang/invoke/VarHandle") ∧ plainName q.1.cls = true ∧ q.2.2.1 ≤ 40 := by
  obtain ⟨y, bs, mL, rt, stc, p1, p2, p3, p4⟩ := q
  unfold oh_ckM at h
  simp only [Bool.and_eq_true] at h
  obtain ⟨⟨⟨⟨⟨⟨h1, h2⟩, h3⟩, h4⟩, h5⟩, h6⟩, h7⟩ := h
  refine ⟨oh_wd_i h1, ?_, oh_wd_i h3, ⟨of_decide_eq_true h4, of_decide_eq_true h5⟩, h6, Nat.le_of_ble_eq_true h7⟩
  cases stc with
  | true => exact Or.inl ⟨rfl, oh_wd_i h2⟩
  | false =>
    obtain ⟨h8, h9⟩ := (Bool.and_eq_true _ _).mp h2
    exact Or.inr ⟨rfl, oh_wd_i h8, oh_wd_i h9⟩
theorem oh_good_code {y : MethodName} {bs : ByteArray} {mL : Nat} {rt : Option FieldType} (h : oh_okw (.code y bs mL rt) = true) : ((Cond.code y bs mL rt).onTables && (Cond.code y bs mL rt).keeps) = true := by
  unfold oh_okw at h
  rcases (Bool.or_eq_true _ _).mp h with h | h
  · exact h
  · cases h
/-- a call of a method of an object -/
theorem oh_callV {d j n k pc x ps e' : Nat} {q : oh_MI} {E : oh_E} {st : List Value} {h : oh_St} {H : Heap} {locs : List Loc} {lsc : Array Slot} {K : List Value → oh_St → Prop} (hx : p.tables.exec = Jvm.exec) (hb : c.code = bytes) (hml : c.maxLocals = nL) (hown : s.vm.findClass own = some m.cls) (hAmb : oh_Amb D cI cR ad b0 s s.heap) (hA : ∀ q, A q ↔ oh_A ad G s.heap.size q) (hAB : ∀ q, A q → b0 ≤ q) (hR : R = oh_rm (d + 1)) (hE : oh_Ms l D cI cR ad b0 G mi d E)
    (hP : va_P D vwCl (oh_W cI cR ad G h) H) (hS : va_S A s.heap H locs) (hsz : lsc.size = nL) (hq : oh_nth mi j = some q) (hM : oh_ckM q = true) (hstc : q.2.2.2.2.1 = false) (hY : oh_ckY own x q.1 ps = true) (hdes : (parseMethodDescriptor q.1.desc).map (fun d => d.parameters.length) = some (n - 1)) (hn0 : 0 < n) (hC : oh_ckC e' q.1.cls = true) (hdg : decode bytes pc = .ok (.invokevirtual x, 3)) (hrc : oh_rcv G e' n st (oh_call E j n k st h K)) (hbs : b0 ≤ s.heap.size)
    (kk : ∀ (r : Option Value) (h' : oh_St) (H1 : Heap) (locs1 : List Loc), K (r.toList ++ st.drop n) h' → va_P D vwCl (oh_W cI cR ad G h') H1 → va_S A s.heap H1 locs1 → W p l e R s m args below meth c H1 locs1 0 0 Qm (F0 m (pc + 3) lsc ((r.map (oh_V ad)).toList ++ (st.drop n).map (oh_V ad)))) : W p l e R s m args below meth c H locs 0 0 Qm (F0 m pc lsc (st.map (oh_V ad))) := by
  obtain ⟨o, As, hst, hcls, hcall⟩ := oh_rcv_i hrc
  obtain ⟨hnl, hcs, Q', hEj, hQ'⟩ := oh_call_i hcall
  obtain ⟨hcode, hinst, hini, hmh, hpl, hmL⟩ := oh_ckM_i hM
  rcases hinst with ⟨z, -⟩ | ⟨-, hin, hsel⟩
  · rw [hstc] at z; cases z
  have hlen : (st.take n).reverse.length = n := by simp [hnl]
  rw [hst] at hlen
  have hAs : As.length = n - 1 := by simp at hlen; omega
  have hstk : st = As.reverse ++ .ref o :: st.drop n := by
    have h1 : st.take n = As.reverse ++ [.ref o] := by
      have := congrArg List.reverse hst
      simpa using this
    calc st = st.take n ++ st.drop n := (List.take_append_drop n st).symm
      _ = As.reverse ++ .ref o :: st.drop n := by rw [h1]; simp
  have hMet := hE j q hq (st.take n).reverse h _ H.size (Nat.le_trans hbs hS.1) hEj
  have hfix : CallFix p m c bytes nL s args (lw_tbl.filter oh_okw) own := ⟨hx, hb, hml, hown, oh_ts hAmb⟩
  have hroom : (oh_rm d).frames + 1 ≤ R.frames ∧ 8 + (q.2.2.1 + 11) + (oh_rm d).locals ≤ R.locals := by
    rw [hR]; simp only [oh_rm]; omega
  have hws : ∀ w ∈ [Cond.code q.1 q.2.1 q.2.2.1 q.2.2.2.1], ∀ (a' : Array Value) (U : State), s.WarmedH U.vm → w.before a' U = true := fun w hw a' U hW => by
    rw [List.mem_singleton] at hw
    subst hw
    exact word_at (args := args) hW (Or.inl (oh_good_code hcode.2)) (oh_Ab hAmb hcode)
  have hpar : ∀ sig, parseMethodDescriptor q.1.desc = some sig → n - 1 = sig.parameters.length := fun sig hs => by
    rw [hs] at hdes
    exact (Option.some.inj hdes).symm
  have hPcU : ∀ U : State, U.heap = H → s.WarmedH U.vm → oh_Pc D cI cR ad b0 G h (st.take n).reverse H.size (Value.ref (ad o) :: As.map (oh_V ad)).toArray U := fun U hU hW => by
    refine ⟨?_, by rw [hU], by rw [hU]; exact hP, oh_AmbU hAmb hAB hS hU hW⟩
    rw [hst]; rfl
  have hcell : ∃ cellB : Cell, H[ad o]? = some cellB ∧ cellB.vm.isStatics = false ∧ s.vm.findClass q.1.cls = some cellB.cls := by
    rcases hcls with ⟨h9, ho1, ho2⟩ | ⟨h9, sl, hg⟩
    · subst h9
      have hcn : q.1.cls = "java/lang/String" := of_decide_eq_true hC
      rw [hcn]
      have := vk_recv (H := H) (i := o - 2000) (vk_S.narrow hAmb.2.2.2.2.2.2.1 hAB) (by omega) hS
      rw [show 2000 + (o - 2000) = o by omega] at this
      exact this
    · unfold oh_ckC at hC
      split at hC
      · rename_i hb9
        exact absurd (Nat.eq_of_beq_eq_true hb9) h9
      · split at hC
        · rename_i C2 T2 N2 hcl
          have hcn : C2 = q.1.cls := of_decide_eq_true hC
          rw [← hcn]
          exact va_recv (q := (C2, T2, N2)) hAmb.1 hP (by rw [← oh_nth_eq]; exact hcl) (oh_W_at hg)
        · cases hC
  have hstack : (F0 m pc lsc (st.map (oh_V ad))).stack = (As.map (oh_V ad)).reverse ++ .ref (ad o) :: (st.drop n).map (oh_V ad) := by
    show st.map (oh_V ad) = _
    conv => lhs; rw [hstk]
    simp [oh_V]
  have hWr : 2 * (F0 m pc lsc (st.map (oh_V ad))).monitorRoom + (((st.drop n).map (oh_V ad)).map fun v => v.category).sum ≤ 8 := lv_room (by rw [oh_csum_eq]; exact hcs)
  unfold oh_ckY at hY
  rcases (Bool.or_eq_true _ _).mp hY with hY | hY
  · refine oh_callW (va_runV (C := q.1.cls) (As := As.map (oh_V ad)) (rest := (st.drop n).map (oh_V ad)) (n := n - 1) hfix hMet ⟨⟨rfl, rfl, hroom.1, hroom.2, hws, List.mem_cons_self, oh_Ab hAmb hcode, oh_Ab hAmb hini, hmh, hpar, oh_Ab hAmb (oh_wd_i hY)⟩, oh_Ab hAmb hin, oh_Ab hAmb hsel⟩ ⟨oh_Pc_blind, hcell, hPcU⟩ rfl (by simpa using hAs) hsz hstack hWr hdg ⟨Nat.zero_le _, Nat.zero_le _⟩) hS (oh_A_sub hA hS) ?_
    exact fun r h' H1 locs1 hq => kk r h' H1 locs1 (hQ' r h' hq)
  · refine oh_callW (va_runVN (C := q.1.cls) (host := "OtherHat") (As := As.map (oh_V ad)) (rest := (st.drop n).map (oh_V ad)) (n := n - 1) hfix hMet ⟨⟨⟨rfl, rfl, hroom.1, hroom.2, hws, List.mem_cons_self⟩, oh_Ab hAmb hcode, oh_Ab hAmb hini, hmh, hpar, oh_Ab hAmb (oh_wd_i hY)⟩, oh_Ab hAmb hin, oh_Ab hAmb hsel⟩ ⟨oh_Pc_blind, hcell, hPcU⟩ rfl (by simpa using hAs) hsz hstack hWr hdg ⟨Nat.zero_le _, Nat.zero_le _⟩) hS (oh_A_sub hA hS) ?_
    exact fun r h' H1 locs1 hq => kk r h' H1 locs1 (hQ' r h' hq)
/-- a call of a static method -/
theorem oh_callS {d j n k pc x ps : Nat} {q : oh_MI} {E : oh_E} {st : List Value} {h : oh_St} {H : Heap} {locs : List Loc} {lsc : Array Slot} {K : List Value → oh_St → Prop} (hx : p.tables.exec = Jvm.exec) (hb : c.code = bytes) (hml : c.maxLocals = nL) (hown : s.vm.findClass own = some m.cls) (hAmb : oh_Amb D cI cR ad b0 s s.heap) (hA : ∀ q, A q ↔ oh_A ad G s.heap.size q) (hAB : ∀ q, A q → b0 ≤ q) (hR : R = oh_rm (d + 1)) (hE : oh_Ms l D cI cR ad b0 G mi d E)
    (hP : va_P D vwCl (oh_W cI cR ad G h) H) (hS : va_S A s.heap H locs) (hsz : lsc.size = nL) (hq : oh_nth mi j = some q) (hM : oh_ckM q = true) (hstc : q.2.2.2.2.1 = true) (hY : oh_ckY own x q.1 ps = true) (hdes : (parseMethodDescriptor q.1.desc).map (fun d => d.parameters.length) = some n) (hdg : decode bytes pc = .ok (.invokestatic x, 3)) (hcall : oh_call E j n k st h K) (hbs : b0 ≤ s.heap.size)
    (kk : ∀ (r : Option Value) (h' : oh_St) (H1 : Heap) (locs1 : List Loc), K (r.toList ++ st.drop n) h' → va_P D vwCl (oh_W cI cR ad G h') H1 → va_S A s.heap H1 locs1 → W p l e R s m args below meth c H1 locs1 0 0 Qm (F0 m (pc + 3) lsc ((r.map (oh_V ad)).toList ++ (st.drop n).map (oh_V ad)))) : W p l e R s m args below meth c H locs 0 0 Qm (F0 m pc lsc (st.map (oh_V ad))) := by
  obtain ⟨hnl, hcs, Q', hEj, hQ'⟩ := oh_call_i hcall
  obtain ⟨hcode, hinst, hini, hmh, hpl, hmL⟩ := oh_ckM_i hM
  rcases hinst with ⟨-, hst⟩ | ⟨z, -⟩
  case inr => rw [hstc] at z; cases z
  have hMet := hE j q hq (st.take n).reverse h _ H.size (Nat.le_trans hbs hS.1) hEj
  have hfix : CallFix p m c bytes nL s args (lw_tbl.filter oh_okw) own := ⟨hx, hb, hml, hown, oh_ts hAmb⟩
  have hroom : (oh_rm d).frames + 1 ≤ R.frames ∧ 8 + (q.2.2.1 + 11) + (oh_rm d).locals ≤ R.locals := by
    rw [hR]; simp only [oh_rm]; omega
  have hws : ∀ w ∈ [Cond.code q.1 q.2.1 q.2.2.1 q.2.2.2.1], ∀ (a' : Array Value) (U : State), s.WarmedH U.vm → w.before a' U = true := fun w hw a' U hW => by
    rw [List.mem_singleton] at hw
    subst hw
    exact word_at (args := args) hW (Or.inl (oh_good_code hcode.2)) (oh_Ab hAmb hcode)
  have hpar : ∀ sig, parseMethodDescriptor q.1.desc = some sig → n = sig.parameters.length := fun sig hs => by
    rw [hs] at hdes
    exact (Option.some.inj hdes).symm
  have hPcU : ∀ U : State, U.heap = H → s.WarmedH U.vm → oh_Pc D cI cR ad b0 G h (st.take n).reverse H.size ((st.take n).reverse.map (oh_V ad)).toArray U := fun U hU hW => ⟨rfl, by rw [hU], by rw [hU]; exact hP, oh_AmbU hAmb hAB hS hU hW⟩
  have hstack : (F0 m pc lsc (st.map (oh_V ad))).stack = ((st.take n).reverse.map (oh_V ad)).reverse ++ (st.drop n).map (oh_V ad) := by
    show st.map (oh_V ad) = _
    rw [List.map_reverse, List.reverse_reverse, ← List.map_append, List.take_append_drop]
  have hWr : 2 * (F0 m pc lsc (st.map (oh_V ad))).monitorRoom + (((st.drop n).map (oh_V ad)).map fun v => v.category).sum ≤ 8 := lv_room (by rw [oh_csum_eq]; exact hcs)
  unfold oh_ckY at hY
  rcases (Bool.or_eq_true _ _).mp hY with hY | hY
  · refine oh_callW (va_runS (As := (st.take n).reverse.map (oh_V ad)) (rest := (st.drop n).map (oh_V ad)) (n := n) hfix hMet ⟨⟨rfl, rfl, hroom.1, hroom.2, hws, List.mem_cons_self, oh_Ab hAmb hcode, oh_Ab hAmb hini, hmh, hpar, oh_Ab hAmb (oh_wd_i hY)⟩, oh_Ab hAmb hst⟩ ⟨oh_Pc_blind, hPcU⟩ rfl (by simp [hnl]) hsz hstack hWr hdg ⟨Nat.zero_le _, Nat.zero_le _⟩) hS (oh_A_sub hA hS) ?_
    exact fun r h' H1 locs1 hq => kk r h' H1 locs1 (hQ' r h' hq)
  · refine oh_callW (va_runSN (host := "OtherHat") (As := (st.take n).reverse.map (oh_V ad)) (rest := (st.drop n).map (oh_V ad)) (n := n) hfix hMet ⟨⟨⟨rfl, rfl, hroom.1, hroom.2, hws, List.mem_cons_self⟩, oh_Ab hAmb hcode, oh_Ab hAmb hini, hmh, hpar, oh_Ab hAmb (oh_wd_i hY)⟩, oh_Ab hAmb hst, trivial⟩ ⟨oh_Pc_blind, hPcU⟩ rfl (by simp [hnl]) hsz hstack hWr hdg ⟨Nat.zero_le _, Nat.zero_le _⟩) hS (oh_A_sub hA hS) ?_
    exact fun r h' H1 locs1 hq => kk r h' H1 locs1 (hQ' r h' hq)
end OHS
end
section
/-! SOUNDNESS: each instruction -/
theorem oh_gf_i {G : List oh_Sh} {ci k o : Nat} {h : oh_St} {K : Value → Prop} (q : oh_gf G ci k o h K) : ∃ sl z v, oh_nth G o = some (.inl (ci, sl)) ∧ oh_nth sl k = some z ∧ (∀ ad, oh_slv ad h o k z = oh_V ad v) ∧ K v := by
  unfold oh_gf at q
  split at q
  · rename_i c2 sl hg
    split at q
    · rename_i hb
      have := Nat.eq_of_beq_eq_true hb
      subst this
      split at q
      · rename_i z hz
        exact ⟨sl, _, _, hg, hz, fun _ => rfl, q⟩
      · rename_i z hz
        exact ⟨sl, _, _, hg, hz, fun _ => rfl, q⟩
      · rename_i z hz
        exact ⟨sl, _, _, hg, hz, fun _ => rfl, q⟩
      · rename_i z hz
        exact ⟨sl, _, _, hg, hz, fun _ => rfl, q⟩
      · rename_i z hz
        exact ⟨sl, _, _, hg, hz, fun _ => rfl, q⟩
      · exact q.elim
    · exact q.elim
  · exact q.elim
theorem oh_upi_k (h : oh_St) (o k : Nat) (x : Int32) : ∀ j, j ≠ k → (oh_upi h o k x).1 o j = h.1 o j ∧ (oh_upi h o k x).2 o j = h.2 o j := by
  intro j hj
  simp [oh_upi, upd, hj]
theorem oh_upl_k (h : oh_St) (o k : Nat) (x : Int64) : ∀ j, j ≠ k → (oh_upl h o k x).1 o j = h.1 o j ∧ (oh_upl h o k x).2 o j = h.2 o j := by
  intro j hj
  simp [oh_upl, vp_updL, hj]
theorem oh_upi_v (h : oh_St) (o k : Nat) (x : Int32) : (oh_upi h o k x).1 o k = x := by simp [oh_upi, upd]
theorem oh_upl_v (h : oh_St) (o k : Nat) (x : Int64) : (oh_upl h o k x).2 o k = x := by simp [oh_upl, vp_updL]
theorem oh_pf_i {G : List oh_Sh} {ci k o : Nat} {v : Value} {h : oh_St} {K : oh_St → Prop} (q : oh_pf G ci k o v h K) : ∃ sl z h', oh_nth G o = some (.inl (ci, sl)) ∧ oh_nth sl k = some z ∧ (∀ ad, oh_slv ad h' o k z = oh_V ad v) ∧ (∀ a, a ≠ o → h'.1 a = h.1 a ∧ h'.2 a = h.2 a) ∧ (∀ j, j ≠ k → h'.1 o j = h.1 o j ∧ h'.2 o j = h.2 o j) ∧ (∃ ty, (∀ dsc, oh_kd z.1 dsc = true → parseFieldDescriptor dsc = some ty) ∧ ∀ ad, narrow ty (oh_V ad v) = oh_V ad v ∧ fits ty (oh_V ad v) = true) ∧ K h' := by
  unfold oh_pf at q
  split at q
  · rename_i c2 sl hg
    split at q
    · rename_i hb
      have := Nat.eq_of_beq_eq_true hb
      subst this
      split at q
      · rename_i z x hz
        refine ⟨sl, _, _, hg, hz, fun _ => ?_, oh_upi_n h o k x, oh_upi_k h o k x, ⟨.int, fun dsc hd => ?_, fun _ => ⟨rfl, rfl⟩⟩, q⟩
        · show Value.int _ = Value.int x
          rw [oh_upi_v]
        · have := of_decide_eq_true hd
          subst this
          decide +kernel
      · rename_i z x hz
        refine ⟨sl, _, _, hg, hz, fun _ => ?_, oh_upl_n h o k x, oh_upl_k h o k x, ⟨.long, fun dsc hd => ?_, fun _ => ⟨rfl, rfl⟩⟩, q⟩
        · show Value.long _ = Value.long x
          rw [oh_upl_v]
        · have := of_decide_eq_true hd
          subst this
          decide +kernel
      · rename_i z j hz
        split at q
        · rename_i h1 h2
          have h1 : 2000 ≤ (j : Nat) := Nat.le_of_ble_eq_true h1
          have h2 : (j : Nat) ≤ 2002 := Nat.le_of_ble_eq_true h2
          refine ⟨sl, _, _, hg, hz, fun ad => ?_, oh_upi_n h o k _, oh_upi_k h o k _, ⟨.object "java/lang/String", fun dsc hd => ?_, fun _ => ⟨rfl, rfl⟩⟩, q⟩
          · show Value.ref (ad (2000 + _)) = Value.ref (ad j)
            rw [oh_upi_v]
            have key : ∀ i : Nat, 2000 ≤ i → i ≤ 2002 → 2000 + (Int32.ofNat (i - 2000)).toNatClampNeg = i := by
              intro i g1 g2
              have hi : i = 2000 ∨ i = 2001 ∨ i = 2002 := by omega
              rcases hi with rfl | rfl | rfl <;> rfl
            exact congrArg (fun z => Value.ref (ad z)) (key j h1 h2)
          · have := of_decide_eq_true hd
            subst this
            decide +kernel
        · exact q.elim
      · rename_i z x hz
        refine ⟨sl, _, _, hg, hz, fun _ => ?_, oh_upi_n h o k x, oh_upi_k h o k x, ⟨.boolean, fun dsc hd => ?_, fun _ => ?_⟩, q.2⟩
        · show Value.int _ = Value.int x
          rw [oh_upi_v]
        · have := of_decide_eq_true hd
          subst this
          decide +kernel
        · rcases q.1 with rfl | rfl
          · exact ⟨(by decide +kernel : narrow .boolean (.int 0) = .int 0), (by decide +kernel : fits .boolean (.int 0) = true)⟩
          · exact ⟨(by decide +kernel : narrow .boolean (.int 1) = .int 1), (by decide +kernel : fits .boolean (.int 1) = true)⟩
      · exact q.elim
    · exact q.elim
  · exact q.elim
theorem oh_tab_i {J : Nat → Prop} {pc : Nat} {x : Int32} : ∀ (os : List Int) (lo : Nat) (d : Int), (lo : Int) + os.length - 1 ≤ 2147483647 → oh_tab J pc x lo os d → ((x.toInt < lo ∨ (lo : Int) + os.length - 1 < x.toInt) → J ((pc : Int) + d).toNat) ∧ ∀ (k : Nat) (off : Int), os[k]? = some off → x.toInt = lo + k → J ((pc : Int) + off).toNat
  | [], lo, d, _, q => ⟨fun _ => q, fun k off h => by simp at h⟩
  | o :: r, lo, d, h2, q => by
    simp only [List.length_cons] at h2
    have hlo : (Int32.ofNat lo).toInt = lo := nI_toInt (by omega)
    by_cases hx : x = Int32.ofNat lo
    · have hx' : x.toInt = lo := by rw [hx, hlo]
      refine ⟨fun h => by simp only [List.length_cons] at h; omega, fun k off hk he => ?_⟩
      have hk0 : k = 0 := by omega
      subst hk0
      simp at hk
      subst hk
      exact q.1 hx
    · have hx' : ¬ x.toInt = lo := fun z => hx (Int32.toInt_inj.mp (by rw [hlo]; exact z))
      have ih := oh_tab_i r (lo + 1) d (by omega) (q.2 hx)
      refine ⟨fun h => ih.1 (by simp only [List.length_cons] at h; omega), fun k off hk he => ?_⟩
      cases k with
      | zero => exact absurd (by simpa using he) hx'
      | succ k => exact ih.2 k off (by simpa using hk) (by rw [he]; push_cast; omega)
theorem oh_lkp_i {J : Nat → Prop} {pc : Nat} {x : Int32} {d : Int} : ∀ (ps : List (Int × Int)), (∀ o ∈ ps, 0 ≤ o.1 ∧ o.1 ≤ 2147483647) → oh_lkp J pc x d ps → J ((pc : Int) + Op.lookupswitch.offset ps d x.toInt).toNat
  | [], _, q => q
  | o :: r, hr, q => by
    obtain ⟨a, of⟩ := o
    have h1 := hr (a, of) List.mem_cons_self
    have hlo : (Int32.ofNat a.toNat).toInt = a := by
      have := nI_toInt (n := a.toNat) (by omega)
      rw [show nI a.toNat = Int32.ofNat a.toNat from rfl] at this
      rw [this]
      omega
    by_cases hx : x = Int32.ofNat a.toNat
    · have hx' : x.toInt = a := by rw [hx, hlo]
      rw [Op.lookupswitch.offset_cons, if_pos hx'.symm]
      exact q.1 hx
    · rw [lv_osw hx hlo]
      exact oh_lkp_i r (fun o ho => hr o (List.mem_cons_of_mem _ ho)) (q.2 hx)
theorem oh_lkp_0 {pc : Nat} {x d : Int} : ∀ (ps : List (Int × Int)), (∀ o ∈ ps, 0 ≤ (pc : Int) + o.2) → 0 ≤ (pc : Int) + d → 0 ≤ (pc : Int) + Op.lookupswitch.offset ps d x
  | [], _, h => h
  | o :: r, hr, h => by
    obtain ⟨a, of⟩ := o
    rw [Op.lookupswitch.offset_cons]
    split
    · exact hr (a, of) List.mem_cons_self
    · exact oh_lkp_0 r (fun o ho => hr o (List.mem_cons_of_mem _ ho)) h
section OHC
variable {p : Program} {l : Launch} {e : Env} {R : Room} {s : State} {m : MethodId} {args : Array Value} {below : List Frame} {meth : Method} {c : Code} {D : va_G} {cI cR : ClassId} {ad : Nat → Nat} {G : List oh_Sh} {mi : List oh_MI} {own : String} {ret : Option FieldType} {bytes : ByteArray} {nL b0 : Nat} {T : oh_T}
set_option maxHeartbeats 8000000 in
theorem oh_closed {d : Nat} {E : oh_E} {Q : oh_Q} (hx : p.tables.exec = Jvm.exec) (hb : c.code = bytes) (hml : c.maxLocals = nL) (hown : s.vm.findClass own = some m.cls) (hr : meth.sig.returnType = ret) (hlocks : meth.locks = false) (hAmb : oh_Amb D cI cR ad b0 s s.heap) (hG : oh_ckG G = true) (hinj : ∀ i j, i < G.length → j < G.length → ad i = ad j → i = j) (hb0 : ∀ i, i < G.length → b0 ≤ ad i) (hbs : b0 ≤ s.heap.size) (hR : R = oh_rm (d + 1)) (hE : oh_Ms l D cI cR ad b0 G mi d E) (hmi : ∀ j q, oh_nth mi j = some q → oh_ckM q = true) (hT : oh_ckT mi own ret bytes T = true)
    (pc : Nat) (code : oh_C) (l' : oh_L) (st : List Value) (h : oh_St)
    (q : oh_nx G T E Q (oh_Pm p l e R s m args below meth c D cI cR ad G (oh_A ad G s.heap.size) (MQ below (oh_Qc D cI cR ad G Q s.heap.size) args s 0 0 (oh_A ad G s.heap.size)) mi own ret bytes nL) (oh_Pm p l e R s m args below meth c D cI cR ad G (oh_A ad G s.heap.size) (MQ below (oh_Qc D cI cR ad G Q s.heap.size) args s 0 0 (oh_A ad G s.heap.size)) mi own ret bytes nL) pc code l' st h) :
    oh_Pm p l e R s m args below meth c D cI cR ad G (oh_A ad G s.heap.size) (MQ below (oh_Qc D cI cR ad G Q s.heap.size) args s 0 0 (oh_A ad G s.heap.size)) mi own ret bytes nL pc code l' st h := by
  intro H locs lsc hP hS hl hk
  have hAB : ∀ q, oh_A ad G s.heap.size q → b0 ≤ q := fun z hz => by
    rcases hz with ⟨i, hi, rfl⟩ | hz
    · exact hb0 i hi
    · exact Nat.le_trans hbs hz
  have hD : va_D (oh_A ad G s.heap.size) (oh_W cI cR ad G h) := oh_W_D hinj (fun i hi => Or.inl ⟨i, hi, rfl⟩)
  rcases code with _ | ⟨⟨i, n, a, b, c', e', ps⟩, r⟩
  · exact oh_J_W hT q hP hS hl
  obtain ⟨hdg, hln, hck, hkr⟩ := oh_ckS_i hk
  cases i
  all_goals dsimp only [oh_nx] at q
  all_goals try exact q.elim
  case iconst v =>
    obtain rfl : n = 1 := Nat.eq_of_beq_eq_true hln
    exact lv_iconst hx hb hdg (of_decide_eq_true hck) (q H locs lsc hP hS hl hkr)
  case bipush v =>
    obtain rfl : n = 2 := Nat.eq_of_beq_eq_true hln
    exact lv_bipush hx hb hdg (of_decide_eq_true hck) (q H locs lsc hP hS hl hkr)
  case sipush v =>
    obtain rfl : n = 3 := Nat.eq_of_beq_eq_true hln
    exact lv_sipush hx hb hdg (of_decide_eq_true hck) (q H locs lsc hP hS hl hkr)
  case lconst v =>
    obtain rfl : n = 1 := Nat.eq_of_beq_eq_true hln
    exact lv_lconst hx hb hdg (of_decide_eq_true hck) (q H locs lsc hP hS hl hkr)
  case ldc x =>
    obtain rfl : n = 2 := Nat.eq_of_beq_eq_true hln
    rcases b with _ | b
    · exact lv_ldc hx hb hown (oh_Ab hAmb (oh_wd_i hck)) hdg (q H locs lsc hP hS hl hkr)
    · obtain ⟨h1, h2⟩ := (Bool.and_eq_true _ _).mp hck
      have := of_decide_eq_true h1
      subst this
      split at h2
      · rename_i z hz
        obtain ⟨h3, h4⟩ := (Bool.and_eq_true _ _).mp h2
        have h3 := of_decide_eq_true h3
        have h4 := of_decide_eq_true h4
        rw [oh_nth_eq] at hz
        have h6 := hAmb.2.2.2.2.2.1 z (List.mem_of_getElem? hz)
        rw [h3, h4] at h6
        exact va_ldcS hx hb hown h6 hdg (q H locs lsc hP hS hl hkr)
      · cases h2
  case ldc_w x =>
    obtain rfl : n = 3 := Nat.eq_of_beq_eq_true hln
    exact lv_ldcw hx hb hown (oh_Ab hAmb (oh_wd_i hck)) hdg (q H locs lsc hP hS hl hkr)
  case ldc2_w x =>
    obtain rfl : n = 3 := Nat.eq_of_beq_eq_true hln
    exact lv_ldc2 hx hb hown (oh_Ab hAmb (oh_wd_i hck)) hdg (q H locs lsc hP hS hl hkr)
  case iload_n k =>
    obtain rfl : n = 1 := Nat.eq_of_beq_eq_true hln
    obtain ⟨x, hg, q1⟩ := oh_ldI_i q
    exact lv_iload_n hx hb hdg (Nat.eq_of_beq_eq_true hck) (hl.2.2.2 _ _ hg) (q1 H locs lsc hP hS hl hkr)
  case iload k =>
    obtain rfl : k = a := Nat.eq_of_beq_eq_true hck
    obtain rfl : n = 2 := Nat.eq_of_beq_eq_true hln
    obtain ⟨x, hg, q1⟩ := oh_ldI_i q
    exact lv_iload hx hb hdg (hl.2.2.2 _ _ hg) (q1 H locs lsc hP hS hl hkr)
  case lload_n k =>
    obtain rfl : n = 1 := Nat.eq_of_beq_eq_true hln
    obtain ⟨x, hg, q1⟩ := oh_ldL_i q
    exact lv_lload_n hx hb hdg (Nat.eq_of_beq_eq_true hck) (hl.2.2.2 _ _ hg) (q1 H locs lsc hP hS hl hkr)
  case lload k =>
    obtain rfl : k = a := Nat.eq_of_beq_eq_true hck
    obtain rfl : n = 2 := Nat.eq_of_beq_eq_true hln
    obtain ⟨x, hg, q1⟩ := oh_ldL_i q
    exact lv_lload hx hb hdg (hl.2.2.2 _ _ hg) (q1 H locs lsc hP hS hl hkr)
  case aload_n k =>
    obtain rfl : n = 1 := Nat.eq_of_beq_eq_true hln
    obtain ⟨x, hg, q1⟩ := oh_ldA_i q
    exact lv_aload_n hx hb hdg (Nat.eq_of_beq_eq_true hck) (hl.2.2.2 _ _ hg) (q1 H locs lsc hP hS hl hkr)
  case aload k =>
    obtain rfl : k = a := Nat.eq_of_beq_eq_true hck
    obtain rfl : n = 2 := Nat.eq_of_beq_eq_true hln
    obtain ⟨x, hg, q1⟩ := oh_ldA_i q
    exact lv_aload hx hb hdg (hl.2.2.2 _ _ hg) (q1 H locs lsc hP hS hl hkr)
  case istore_n k =>
    obtain rfl : n = 1 := Nat.eq_of_beq_eq_true hln
    obtain ⟨x, st, rfl, q1⟩ := oh_I1_i q
    obtain ⟨hi, q2⟩ := oh_wr1_i q1
    exact lv_istore_n hx hb hdg (Nat.eq_of_beq_eq_true hck) (oh_loc_has hl) (by rw [← hl.1]; exact hi) rfl (fun ls' hl' => q2 H locs ls' hP hS (oh_loc_1 (v := .int x) hl hl') hkr)
  case istore k =>
    obtain rfl : k = a := Nat.eq_of_beq_eq_true hck
    obtain rfl : n = 2 := Nat.eq_of_beq_eq_true hln
    obtain ⟨x, st, rfl, q1⟩ := oh_I1_i q
    obtain ⟨hi, q2⟩ := oh_wr1_i q1
    exact lv_istore hx hb hdg (oh_loc_has hl) (by rw [← hl.1]; exact hi) rfl (fun ls' hl' => q2 H locs ls' hP hS (oh_loc_1 (v := .int x) hl hl') hkr)
  case lstore_n k =>
    obtain rfl : n = 1 := Nat.eq_of_beq_eq_true hln
    obtain ⟨x, st, rfl, q1⟩ := oh_L1_i q
    obtain ⟨hi, q2⟩ := oh_wr2_i q1
    exact lv_lstore_n hx hb hdg (Nat.eq_of_beq_eq_true hck) (oh_loc_has hl) (by rw [← hl.1]; exact hi) rfl (fun ls' hl' => q2 H locs ls' hP hS (oh_loc_2 (v := .long x) hl (by rw [← hl.1]; exact hi) hl') hkr)
  case lstore k =>
    obtain rfl : k = a := Nat.eq_of_beq_eq_true hck
    obtain rfl : n = 2 := Nat.eq_of_beq_eq_true hln
    obtain ⟨x, st, rfl, q1⟩ := oh_L1_i q
    obtain ⟨hi, q2⟩ := oh_wr2_i q1
    exact lv_lstore hx hb hdg (oh_loc_has hl) (by rw [← hl.1]; exact hi) rfl (fun ls' hl' => q2 H locs ls' hP hS (oh_loc_2 (v := .long x) hl (by rw [← hl.1]; exact hi) hl') hkr)
  case astore_n k =>
    obtain rfl : n = 1 := Nat.eq_of_beq_eq_true hln
    obtain ⟨x, st, rfl, q1⟩ := oh_R1_i q
    obtain ⟨hi, q2⟩ := oh_wr1_i q1
    exact lv_astore_n hx hb hdg (Nat.eq_of_beq_eq_true hck) (oh_loc_has hl) (by rw [← hl.1]; exact hi) rfl (fun ls' hl' => q2 H locs ls' hP hS (oh_loc_1 (v := .ref x) hl hl') hkr)
  case astore k =>
    obtain rfl : k = a := Nat.eq_of_beq_eq_true hck
    obtain rfl : n = 2 := Nat.eq_of_beq_eq_true hln
    obtain ⟨x, st, rfl, q1⟩ := oh_R1_i q
    obtain ⟨hi, q2⟩ := oh_wr1_i q1
    exact lv_astore hx hb hdg (oh_loc_has hl) (by rw [← hl.1]; exact hi) rfl (fun ls' hl' => q2 H locs ls' hP hS (oh_loc_1 (v := .ref x) hl hl') hkr)
  case iinc k v =>
    obtain rfl : n = 3 := Nat.eq_of_beq_eq_true hln
    obtain ⟨hk1, hk2⟩ := (Bool.and_eq_true _ _).mp hck
    obtain rfl : k = a := Nat.eq_of_beq_eq_true hk1
    have hv := of_decide_eq_true hk2
    obtain ⟨x, hg, q1⟩ := oh_ldI_i q
    obtain ⟨hi, q2⟩ := oh_wr1_i q1
    obtain ⟨kk, hkk⟩ := List.getElem?_of_mem (oh_asF_get (ad := ad) l' 0 k (.int x) hg)
    rw [Nat.zero_add] at hkk
    exact lv_iinc (x := x) (k := kk) hx hb hdg (oh_loc_has hl) hkk (by rw [hv]) (by rw [← hl.1]; exact hi) rfl (fun ls' hl' => q2 H locs ls' hP hS (oh_loc_1 (v := .int (x + oh_num b c')) hl hl') hkr)
  case iadd =>
    obtain rfl : n = 1 := Nat.eq_of_beq_eq_true hln
    obtain ⟨x, y, st, rfl, q1⟩ := oh_II_i q
    exact lv_iadd hx hb hdg (q1 H locs lsc hP hS hl hkr)
  case isub =>
    obtain rfl : n = 1 := Nat.eq_of_beq_eq_true hln
    obtain ⟨x, y, st, rfl, q1⟩ := oh_II_i q
    exact lv_isub hx hb hdg (q1 H locs lsc hP hS hl hkr)
  case imul =>
    obtain rfl : n = 1 := Nat.eq_of_beq_eq_true hln
    obtain ⟨x, y, st, rfl, q1⟩ := oh_II_i q
    exact lv_imul hx hb hdg (q1 H locs lsc hP hS hl hkr)
  case iand =>
    obtain rfl : n = 1 := Nat.eq_of_beq_eq_true hln
    obtain ⟨x, y, st, rfl, q1⟩ := oh_II_i q
    exact lv_iand hx hb hdg (q1 H locs lsc hP hS hl hkr)
  case ior =>
    obtain rfl : n = 1 := Nat.eq_of_beq_eq_true hln
    obtain ⟨x, y, st, rfl, q1⟩ := oh_II_i q
    exact lv_ior hx hb hdg (q1 H locs lsc hP hS hl hkr)
  case ixor =>
    obtain rfl : n = 1 := Nat.eq_of_beq_eq_true hln
    obtain ⟨x, y, st, rfl, q1⟩ := oh_II_i q
    exact lv_ixor hx hb hdg (q1 H locs lsc hP hS hl hkr)
  case ishl =>
    obtain rfl : n = 1 := Nat.eq_of_beq_eq_true hln
    obtain ⟨x, y, st, rfl, q1⟩ := oh_II_i q
    exact lv_ishl hx hb hdg (q1 H locs lsc hP hS hl hkr)
  case ishr =>
    obtain rfl : n = 1 := Nat.eq_of_beq_eq_true hln
    obtain ⟨x, y, st, rfl, q1⟩ := oh_II_i q
    exact lv_ishr hx hb hdg (q1 H locs lsc hP hS hl hkr)
  case iushr =>
    obtain rfl : n = 1 := Nat.eq_of_beq_eq_true hln
    obtain ⟨x, y, st, rfl, q1⟩ := oh_II_i q
    exact lv_iushr hx hb hdg rfl (q1 H locs lsc hP hS hl hkr)
  case idiv =>
    obtain rfl : n = 1 := Nat.eq_of_beq_eq_true hln
    obtain ⟨x, y, st, rfl, hy, q1⟩ := oh_II_i q
    exact lv_idiv hx hb hdg hy (q1 H locs lsc hP hS hl hkr)
  case irem =>
    obtain rfl : n = 1 := Nat.eq_of_beq_eq_true hln
    obtain ⟨x, y, st, rfl, hy, q1⟩ := oh_II_i q
    exact lv_irem hx hb hdg hy (q1 H locs lsc hP hS hl hkr)
  case ineg =>
    obtain rfl : n = 1 := Nat.eq_of_beq_eq_true hln
    obtain ⟨x, st, rfl, q1⟩ := oh_I1_i q
    exact lv_ineg hx hb hdg (q1 H locs lsc hP hS hl hkr)
  case ladd =>
    obtain rfl : n = 1 := Nat.eq_of_beq_eq_true hln
    obtain ⟨x, y, st, rfl, q1⟩ := oh_LL_i q
    exact lv_ladd hx hb hdg (q1 H locs lsc hP hS hl hkr)
  case lsub =>
    obtain rfl : n = 1 := Nat.eq_of_beq_eq_true hln
    obtain ⟨x, y, st, rfl, q1⟩ := oh_LL_i q
    exact lv_lsub hx hb hdg (q1 H locs lsc hP hS hl hkr)
  case land =>
    obtain rfl : n = 1 := Nat.eq_of_beq_eq_true hln
    obtain ⟨x, y, st, rfl, q1⟩ := oh_LL_i q
    exact lv_land hx hb hdg (q1 H locs lsc hP hS hl hkr)
  case lor =>
    obtain rfl : n = 1 := Nat.eq_of_beq_eq_true hln
    obtain ⟨x, y, st, rfl, q1⟩ := oh_LL_i q
    exact lv_lor hx hb hdg (q1 H locs lsc hP hS hl hkr)
  case lxor =>
    obtain rfl : n = 1 := Nat.eq_of_beq_eq_true hln
    obtain ⟨x, y, st, rfl, q1⟩ := oh_LL_i q
    exact lv_lxor hx hb hdg (q1 H locs lsc hP hS hl hkr)
  case lcmp =>
    obtain rfl : n = 1 := Nat.eq_of_beq_eq_true hln
    obtain ⟨x, y, st, rfl, q1⟩ := oh_LL_i q
    exact W.lcmp hx hb hdg (q1 H locs lsc hP hS hl hkr)
  case lshl =>
    obtain rfl : n = 1 := Nat.eq_of_beq_eq_true hln
    obtain ⟨x, y, st, rfl, q1⟩ := oh_LI_i q
    exact lv_lshl hx hb hdg rfl (q1 H locs lsc hP hS hl hkr)
  case lshr =>
    obtain rfl : n = 1 := Nat.eq_of_beq_eq_true hln
    obtain ⟨x, y, st, rfl, q1⟩ := oh_LI_i q
    exact lv_lshr hx hb hdg rfl (q1 H locs lsc hP hS hl hkr)
  case lushr =>
    obtain rfl : n = 1 := Nat.eq_of_beq_eq_true hln
    obtain ⟨x, y, st, rfl, q1⟩ := oh_LI_i q
    exact lv_lushr hx hb hdg rfl (q1 H locs lsc hP hS hl hkr)
  case i2l =>
    obtain rfl : n = 1 := Nat.eq_of_beq_eq_true hln
    obtain ⟨x, st, rfl, q1⟩ := oh_I1_i q
    exact lv_i2l hx hb hdg rfl (q1 H locs lsc hP hS hl hkr)
  case l2i =>
    obtain rfl : n = 1 := Nat.eq_of_beq_eq_true hln
    obtain ⟨x, st, rfl, q1⟩ := oh_L1_i q
    exact lv_l2i hx hb hdg rfl (q1 H locs lsc hP hS hl hkr)
  case i2b =>
    obtain rfl : n = 1 := Nat.eq_of_beq_eq_true hln
    obtain ⟨x, st, rfl, q1⟩ := oh_I1_i q
    exact lv_i2b hx hb hdg rfl (q1 H locs lsc hP hS hl hkr)
  case i2s =>
    obtain rfl : n = 1 := Nat.eq_of_beq_eq_true hln
    obtain ⟨x, st, rfl, q1⟩ := oh_I1_i q
    exact lv_i2s hx hb hdg rfl (q1 H locs lsc hP hS hl hkr)
  case i2c =>
    obtain rfl : n = 1 := Nat.eq_of_beq_eq_true hln
    obtain ⟨x, st, rfl, q1⟩ := oh_I1_i q
    exact lv_i2c hx hb hdg rfl (q1 H locs lsc hP hS hl hkr)
  case dup =>
    obtain rfl : n = 1 := Nat.eq_of_beq_eq_true hln
    obtain ⟨x, st, rfl, hc, q1⟩ := oh_V1_i q
    exact lv_dup hx hb hdg (by rw [oh_V_cat]; exact hc) (q1 H locs lsc hP hS hl hkr)
  case pop =>
    obtain rfl : n = 1 := Nat.eq_of_beq_eq_true hln
    obtain ⟨x, st, rfl, hc, q1⟩ := oh_V1_i q
    exact lv_pop hx hb hdg (by rw [oh_V_cat]; exact hc) (q1 H locs lsc hP hS hl hkr)
  case dup2 =>
    obtain rfl : n = 1 := Nat.eq_of_beq_eq_true hln
    obtain ⟨x, st, rfl, hc, q1⟩ := oh_V1_i q
    obtain ⟨y, st, rfl, hc2, q2⟩ := oh_V1_i q1
    exact lv_dup2_11 hx hb hdg (by rw [oh_V_cat]; exact hc) (by rw [oh_V_cat]; exact hc2) (q2 H locs lsc hP hS hl hkr)
  case goto o =>
    obtain rfl : n = 3 := Nat.eq_of_beq_eq_true hln
    exact lv_goto hx hb hdg (of_decide_eq_true hck) (oh_J_W hT q hP hS hl)
  case ifCond cd o =>
    obtain rfl : n = 3 := Nat.eq_of_beq_eq_true hln
    obtain ⟨x, st, rfl, q1⟩ := oh_I1_i q
    cases cd
    · exact lv_if_eq hx hb hdg (of_decide_eq_true hck) (fun z => oh_J_W hT (q1.1 z) hP hS hl) (fun z => q1.2 z H locs lsc hP hS hl hkr)
    · exact lv_if_ne hx hb hdg (of_decide_eq_true hck) (fun z => oh_J_W hT (q1.1 z) hP hS hl) (fun z => q1.2 z H locs lsc hP hS hl hkr)
    · exact lv_if_lt hx hb hdg (of_decide_eq_true hck) (fun z => oh_J_W hT (q1.1 z) hP hS hl) (fun z => q1.2 z H locs lsc hP hS hl hkr)
    · exact lv_if_ge hx hb hdg (of_decide_eq_true hck) (fun z => oh_J_W hT (q1.1 z) hP hS hl) (fun z => q1.2 z H locs lsc hP hS hl hkr)
    · exact lv_if_gt hx hb hdg (of_decide_eq_true hck) (fun z => oh_J_W hT (q1.1 z) hP hS hl) (fun z => q1.2 z H locs lsc hP hS hl hkr)
    · exact lv_if_le hx hb hdg (of_decide_eq_true hck) (fun z => oh_J_W hT (q1.1 z) hP hS hl) (fun z => q1.2 z H locs lsc hP hS hl hkr)
  case if_icmp cd o =>
    obtain rfl : n = 3 := Nat.eq_of_beq_eq_true hln
    obtain ⟨x, y, st, rfl, q1⟩ := oh_II_i q
    cases cd
    · exact lv_icmp_eq hx hb hdg (of_decide_eq_true hck) (fun z => oh_J_W hT (q1.1 z) hP hS hl) (fun z => q1.2 z H locs lsc hP hS hl hkr)
    · exact lv_icmp_ne hx hb hdg (of_decide_eq_true hck) (fun z => oh_J_W hT (q1.1 z) hP hS hl) (fun z => q1.2 z H locs lsc hP hS hl hkr)
    · exact lv_icmp_lt hx hb hdg (of_decide_eq_true hck) (fun z => oh_J_W hT (q1.1 z) hP hS hl) (fun z => q1.2 z H locs lsc hP hS hl hkr)
    · exact lv_icmp_ge hx hb hdg (of_decide_eq_true hck) (fun z => oh_J_W hT (q1.1 z) hP hS hl) (fun z => q1.2 z H locs lsc hP hS hl hkr)
    · exact lv_icmp_gt hx hb hdg (of_decide_eq_true hck) (fun z => oh_J_W hT (q1.1 z) hP hS hl) (fun z => q1.2 z H locs lsc hP hS hl hkr)
    · exact lv_icmp_le hx hb hdg (of_decide_eq_true hck) (fun z => oh_J_W hT (q1.1 z) hP hS hl) (fun z => q1.2 z H locs lsc hP hS hl hkr)
  case tableswitch dd lo hi os =>
    obtain ⟨x, st, rfl, q1⟩ := oh_I1_i q
    unfold oh_ckI at hck
    simp only [Bool.and_eq_true, decide_eq_true_eq, List.all_eq_true] at hck
    obtain ⟨⟨⟨⟨h1, h2⟩, h3⟩, h4⟩, h5⟩ := hck
    obtain ⟨t1, t2⟩ := oh_tab_i os.toList lo.toNat dd (by omega) q1
    by_cases hlo : x.toInt < lo
    · exact lv_tableOut hx hb hdg (Or.inl hlo) (Int.toNat_of_nonneg h4).symm (oh_J_W hT (t1 (Or.inl (by omega))) hP hS hl)
    · by_cases hhi : hi < x.toInt
      · exact lv_tableOut hx hb hdg (Or.inr hhi) (Int.toNat_of_nonneg h4).symm (oh_J_W hT (t1 (Or.inr (by omega))) hP hS hl)
      · have hk1 : (x.toInt - lo).toNat < os.toList.length := by omega
        have hk2 : os.toList[(x.toInt - lo).toNat]? = some os.toList[(x.toInt - lo).toNat] := List.getElem?_eq_getElem hk1
        exact lv_tableIn hx hb hdg hlo hhi (by rw [← Array.getElem?_toList]; exact hk2) (Int.toNat_of_nonneg (h5 _ (List.getElem_mem hk1))).symm (oh_J_W hT (t2 _ _ hk2 (by omega)) hP hS hl)
  case lookupswitch dd pp =>
    obtain ⟨x, st, rfl, q1⟩ := oh_I1_i q
    unfold oh_ckI at hck
    obtain ⟨h12, h3⟩ := (Bool.and_eq_true _ _).mp hck
    obtain ⟨h1, h2⟩ := (Bool.and_eq_true _ _).mp h12
    have h1 := of_decide_eq_true h1
    have h2 : ∀ o ∈ pp.toList, 0 ≤ (pc : Int) + o.2 ∧ 0 ≤ o.1 ∧ o.1 ≤ 2147483647 := fun o ho => by
      have := List.all_eq_true.mp h2 o ho
      simp only [Bool.and_eq_true, decide_eq_true_eq] at this
      exact ⟨this.1.1, this.1.2, this.2⟩
    exact lv_lookup hx hb hdg h3 rfl (Int.toNat_of_nonneg (oh_lkp_0 _ (fun o ho => (h2 o ho).1) h1)).symm (oh_J_W hT (oh_lkp_i pp.toList (fun o ho => (h2 o ho).2) q1) hP hS hl)
  case getfield x =>
    obtain rfl : n = 3 := Nat.eq_of_beq_eq_true hln
    obtain ⟨o, st, rfl, q1⟩ := oh_R1_i q
    obtain ⟨sl, z, v, hg, hz, hv, q2⟩ := oh_gf_i q1
    unfold oh_ckI oh_ckF at hck
    dsimp only at hck
    split at hck
    · rename_i C T' N hcl
      simp only [Bool.and_eq_true, Bool.or_eq_true] at hck
      obtain ⟨⟨h1, h2⟩, h3⟩ := hck
      exact oh_getW hx hb hown hAmb hP hg hcl (Nat.le_of_ble_eq_true h1) (of_decide_eq_true h2) h3 hz (hv ad) hdg (q2 H locs lsc hP hS hl hkr)
    · cases hck
  case putfield x =>
    obtain rfl : n = 3 := Nat.eq_of_beq_eq_true hln
    obtain ⟨o, v, st, rfl, q1⟩ := oh_RV_i q
    obtain ⟨sl, z, h', hg, hz, hv, hne, hne2, ⟨ty, hty, hnf⟩, q2⟩ := oh_pf_i q1
    unfold oh_ckI oh_ckF oh_ckN at hck
    dsimp only at hck
    obtain ⟨C0, T0, N0, hc0, hsl, hkds⟩ := oh_ckG_i hG hg
    rw [hc0] at hck
    simp only [Bool.and_eq_true, Bool.or_eq_true, Bool.not_eq_true'] at hck
    obtain ⟨⟨⟨h1, h2⟩, h3⟩, h4⟩ := hck
    have hkd := oh_kds_i hkds hz
    rw [Nat.zero_add] at hkd
    exact oh_putW hx hb hown hAmb hP hD hS hg hc0 (Nat.le_of_ble_eq_true h1) (of_decide_eq_true h2) h4 h3 hz (hty _ hkd) (hnf ad).1 (hnf ad).2 (hv ad) hne hne2 hdg (fun H1 locs1 hP1 hS1 => q2 H1 locs1 lsc hP1 hS1 hl hkr)
  case getstatic x =>
    obtain rfl : n = 3 := Nat.eq_of_beq_eq_true hln
    unfold oh_ckI at hck
    dsimp only at hck
    split at hck
    · rename_i z hz
      rcases (Bool.or_eq_true _ _).mp hck with h1 | h1
      · exact va_gets hx hb (va_Z.narrow (hAmb.2.2.1 a z hz) hAB) hS hown (oh_Ab hAmb (oh_wd_i h1)) (fun _ hh => hh) hdg (q H locs lsc hP hS hl hkr)
      · exact va_getsN hx hb (va_Z.narrow (hAmb.2.2.1 a z hz) hAB) hS hown (oh_Ab hAmb (oh_wd_i h1)) (fun _ hh => hh) hdg (q H locs lsc hP hS hl hkr)
    · cases hck
  case iaload =>
    obtain rfl : n = 1 := Nat.eq_of_beq_eq_true hln
    obtain ⟨o, i, st, rfl, q1⟩ := oh_RI_i q
    unfold oh_ia at q1
    split at q1
    · rename_i nn hg
      exact va_iald hx hb hAmb.1 hP o 0 (oh_W_at hg) rfl q1.1 hdg (q1.2 H locs lsc hP hS hl hkr)
    · exact q1.elim
    · split at q1
      · rename_i lst hf
        exact va_ti hx hb (va_T.narrow (hAmb.2.2.2.1 o lst hf) hAB) hS q1.1 rfl hdg (q1.2 H locs lsc hP hS hl hkr)
      · exact q1.elim
  case laload =>
    obtain rfl : n = 1 := Nat.eq_of_beq_eq_true hln
    obtain ⟨o, i, st, rfl, q1⟩ := oh_RI_i q
    unfold oh_la at q1
    split at q1
    · exact q1.elim
    · split at q1
      · rename_i lst hf
        exact va_tl hx hb (va_T.narrow (hAmb.2.2.2.2.1 o lst hf) hAB) hS q1.1 rfl hdg (q1.2 H locs lsc hP hS hl hkr)
      · exact q1.elim
  case aaload =>
    obtain rfl : n = 1 := Nat.eq_of_beq_eq_true hln
    obtain ⟨o, i, st, rfl, q1⟩ := oh_RI_i q
    unfold oh_aal at q1
    split at q1
    · rename_i js hg
      have hjl := oh_ckG_j hG hg
      obtain ⟨k, hk1, hk2⟩ := vp_in_of q1.1 (by omega)
      have hjk : js[k]? = some js[k] := List.getElem?_eq_getElem hk1
      have hik : i.toNatClampNeg = k := by rw [hk2, nI_clamp (by omega)]
      have q2 := q1.2
      rw [oh_nth_eq, hik, hjk] at q2
      refine va_aldq hx hb hAmb.1 hP o 1 (oh_W_at hg) rfl q1.1 hdg ?_
      have he : va_rf ((js[i.toNatClampNeg]?).map ad) = .ref (ad js[k]) := by
        rw [hik, hjk]; rfl
      rw [he]
      exact q2 H locs lsc hP hS hl hkr
    · exact q1.elim
  case iastore =>
    obtain rfl : n = 1 := Nat.eq_of_beq_eq_true hln
    obtain ⟨o, i, x, st, rfl, q1⟩ := oh_RII_i q
    unfold oh_ias at q1
    split at q1
    · rename_i nn hg
      have hset := oh_W_set (cI := cI) (cR := cR) (ad := ad) (h := h) hg (oh_upi_n h o i.toNatClampNeg x) (e := .inl (cI, nn, .inl (upd (h.1 o) i.toNatClampNeg x))) (by
        show Sum.inl (cI, nn, Sum.inl ((oh_upi h o i.toNatClampNeg x).1 o)) = _
        rw [oh_upi_1])
      exact va_iast hx hb hAmb.1 hP hD hS o 0 (oh_W_at hg) rfl q1.1 hdg (fun H1 locs1 hP1 _ hS1 => q1.2 H1 locs1 lsc (by rw [hset] at hP1; exact hP1) hS1 hl hkr)
    · exact q1.elim
  case arraylength =>
    obtain rfl : n = 1 := Nat.eq_of_beq_eq_true hln
    obtain ⟨o, st, rfl, q1⟩ := oh_R1_i q
    unfold oh_al at q1
    split at q1
    · rename_i nn hg
      exact va_alen hx hb hAmb.1 hP o 0 (oh_W_at hg) (ty := .int) rfl rfl hdg (q1 H locs lsc hP hS hl hkr)
    · exact q1.elim
  case invokevirtual x =>
    obtain rfl : n = 3 := Nat.eq_of_beq_eq_true hln
    unfold oh_ckI at hck
    dsimp only at hck
    split at hck
    · rename_i z hz
      simp only [Bool.and_eq_true, Bool.not_eq_true', decide_eq_true_eq] at hck
      obtain ⟨⟨⟨⟨h1, h2⟩, h3⟩, h4⟩, h5⟩ := hck
      refine oh_callV hx hb hml hown hAmb (fun _ => Iff.rfl) hAB hR hE hP hS hl.2.1 hz (hmi _ _ hz) h1 h2 h3 (Nat.le_of_ble_eq_true h4) h5 hdg q hbs (fun r' h' H1 locs1 hq hP1 hS1 => ?_)
      have := hq H1 locs1 lsc hP1 hS1 hl hkr
      rw [List.map_append] at this
      cases r' <;> exact this
    · cases hck
  case invokestatic x =>
    obtain rfl : n = 3 := Nat.eq_of_beq_eq_true hln
    unfold oh_ckI at hck
    dsimp only at hck
    split at q
    · simp only [Bool.and_eq_true] at hck
      obtain ⟨⟨⟨h1, h2⟩, h3⟩, h4⟩ := hck
      unfold oh_acp at q
      split at q
      · rename_i nn dp o1 sp o0 r0
        split at q
        · rename_i n0 n1 hg0 hg1 hcs
          obtain ⟨⟨g1, g2, g3, g4, g5⟩, q⟩ := q
          have hset := oh_W_set (cI := cI) (cR := cR) (ad := ad) (h := h) hg1 (oh_upa_n h o1 (va_cpy (h.1 o0) (h.1 o1) sp.toNatClampNeg dp.toNatClampNeg nn.toNatClampNeg)) (e := .inl (cI, n1, .inl (va_cpy (h.1 o0) (h.1 o1) sp.toNatClampNeg dp.toNatClampNeg nn.toNatClampNeg))) (by
            show Sum.inl (cI, n1, Sum.inl ((oh_upa h o1 _).1 o1)) = _
            simp [oh_upa])
          have hcs' : ((r0.map (oh_V ad)).map fun v => v.category).sum ≤ 8 := by rw [oh_csum_eq]; exact Nat.le_of_ble_eq_true hcs
          have hnf : nativeFrameWords "java/lang/System" "arraycopy" 5 = 7 := by decide +kernel
          exact va_copyi (rest := r0.map (oh_V ad)) hx hb (hml.trans hl.2.1.symm) hown (oh_Ab hAmb (oh_wd_i h1)) (oh_Ab hAmb (oh_wd_i h2)) (oh_Ab hAmb (oh_wd_i h3)) (oh_Ab hAmb (oh_wd_i h4)) hAmb.1 hP hD hS o0 o1 0 0 (oh_W_at hg0) (oh_W_at hg1) (ty := .int) rfl rfl rfl g1 g2 g3 g4 g5 (fun _ _ => rfl) (by rw [hR]; simp [oh_rm]) (by rw [hR, hnf]; simp only [oh_rm]; omega) hdg (fun H1 locs1 hP1 _ hS1 => q H1 locs1 lsc (by rw [hset] at hP1; exact hP1) hS1 hl hkr)
        · exact q.elim
      · exact q.elim
    · split at hck
      · exact absurd rfl (by assumption)
      · split at hck
        · rename_i z hz
          simp only [Bool.and_eq_true, decide_eq_true_eq] at hck
          obtain ⟨⟨h1, h2⟩, h3⟩ := hck
          refine oh_callS hx hb hml hown hAmb (fun _ => Iff.rfl) hAB hR hE hP hS hl.2.1 hz (hmi _ _ hz) h1 h2 h3 hdg q hbs (fun r' h' H1 locs1 hq hP1 hS1 => ?_)
          have := hq H1 locs1 lsc hP1 hS1 hl hkr
          rw [List.map_append] at this
          cases r' <;> exact this
        · cases hck
  case ireturn =>
    obtain rfl : n = 1 := Nat.eq_of_beq_eq_true hln
    obtain ⟨x, st, rfl, q1⟩ := oh_I1_i q
    obtain ⟨rfl, q2⟩ := oh_Z_i q1
    rcases a with _ | a
    · exact W.iret (v := x) hx hb (hr.trans (of_decide_eq_true hck)) (fun t ht hW => ⟨⟨some (.int x), h, rfl, q2, by rw [ht]; exact hP⟩, hS.F ht⟩) hS.2.2 hdg (hlocks := hlocks)
    · exact W.zret (v := x) (ty := .boolean) hx hb (hr.trans (of_decide_eq_true hck)) (by rcases q2.1 with rfl | rfl <;> decide +kernel) (fun t ht hW => ⟨⟨some (.int x), h, rfl, q2.2, by rw [ht]; exact hP⟩, hS.F ht⟩) hS.2.2 hdg (hlocks := hlocks)
  case lreturn =>
    obtain rfl : n = 1 := Nat.eq_of_beq_eq_true hln
    obtain ⟨x, st, rfl, q1⟩ := oh_L1_i q
    obtain ⟨rfl, q2⟩ := oh_Z_i q1
    exact W.lret (v := x) hx hb (hr.trans (of_decide_eq_true hck)) (fun t ht hW => ⟨⟨some (.long x), h, rfl, q2, by rw [ht]; exact hP⟩, hS.F ht⟩) hS.2.2 hdg (hlocks := hlocks)
  case areturn =>
    obtain rfl : n = 1 := Nat.eq_of_beq_eq_true hln
    obtain ⟨x, st, rfl, q1⟩ := oh_R1_i q
    obtain ⟨rfl, q2⟩ := oh_Z_i q1
    unfold oh_ckI at hck
    dsimp only at hck
    split at hck
    · exact W.aret (v := .ref (ad x)) hx hb hr (Or.inl ⟨_, rfl⟩) (Or.inr ⟨_, rfl⟩) (fun t ht hW => ⟨⟨some (.ref x), h, rfl, q2, by rw [ht]; exact hP⟩, hS.F ht⟩) hS.2.2 hdg (hlocks := hlocks)
    · cases hck
  case return_ =>
    obtain rfl : n = 1 := Nat.eq_of_beq_eq_true hln
    obtain ⟨rfl, q1⟩ := oh_Z_i q
    exact W.vret hx hb (hr.trans (of_decide_eq_true hck)) (fun t ht hW => ⟨⟨none, h, rfl, q1, by rw [ht]; exact hP⟩, hS.F ht⟩) hS.2.2 hdg (hlocks := hlocks)
end OHC
end
section
/-! SOUNDNESS: each method, by the depth of its calls -/
/-- what is wanted of the methods that are taken by hand (the JDK's indexOf) -/
def oh_Prim (l : Launch) (D : va_G) (cI cR : ClassId) (ad : Nat → Nat) (b0 : Nat) (G : List oh_Sh) (mi : List oh_MI) (M : List (Nat × oh_T)) : Prop :=
  ∀ (j : Nat) (q : oh_MI) (T : oh_T), oh_nth mi j = some q → oh_nth M j = some (0, T) → ∀ (d k : Nat) (x : Int32) (h : oh_St) (Q : oh_Q) (sz : Nat), b0 ≤ sz → 5 ≤ d → 2000 ≤ k → k ≤ 2002 → Q (some (.int (oh_ixF x (oh_tx.getD (k - 2000) []) 0))) h → Met l q.1 [.code q.1 q.2.1 q.2.2.1 q.2.2.2.1] (oh_rm (d + 1)) (oh_Pc D cI cR ad b0 G h [.ref k, .int x] sz) (oh_Qc D cI cR ad G Q sz) 0 0 (oh_A ad G sz)
theorem oh_sound {l : Launch} {D : va_G} {cI cR : ClassId} {ad : Nat → Nat} {b0 : Nat} {G : List oh_Sh} {mi : List oh_MI} {M : List (Nat × oh_T)} (hG : oh_ckG G = true) (hinj : ∀ i j, i < G.length → j < G.length → ad i = ad j → i = j) (hb0 : ∀ i, i < G.length → b0 ≤ ad i) (hmi : ∀ j q, oh_nth mi j = some q → oh_ckM q = true)
    (hM : ∀ j q, oh_nth mi j = some q → ∃ nL T, oh_nth M j = some (nL, T) ∧ (nL = 0 ∨ (nL = q.2.2.1 ∧ oh_ckT mi q.1.cls q.2.2.2.1 q.2.1 T = true))) (hprim : oh_Prim l D cI cR ad b0 G mi M) : ∀ d : Nat, oh_Ms l D cI cR ad b0 G mi d (oh_mwp G M d)
  | 0 => fun _ _ _ _ _ _ _ _ h => h.elim
  | d + 1 => by
    have ih := oh_sound hG hinj hb0 hmi hM hprim d
    intro j q hq av h Q sz hsz hE
    obtain ⟨nL, T, hMj, hnL⟩ := hM j q hq
    unfold oh_mwp at hE
    rw [hMj] at hE
    dsimp only at hE
    rcases nL with _ | nL'
    · split at hE
      · split at hE
        · rename_i k x
          exact hprim j q T hq hMj d k x h Q sz hsz hE.1 hE.2.1 hE.2.2.1 hE.2.2.2
        · exact hE.elim
      · rename_i hne
        exact absurd rfl hne
    · rcases hnL with h0 | ⟨hnL, hT⟩
      · cases h0
      · obtain ⟨hlen, hJ⟩ := hE
        have hlen : (oh_arg av).length ≤ nL' + 1 := Nat.le_of_ble_eq_true hlen
        have hpl := (oh_ckM_i (hmi j q hq)).2.2.2.2.1
        refine Met.ofW (cc := q.2.1) (maxL := q.2.2.1) (ret := q.2.2.2.1) hpl rfl ?_
        intro p e s m args below meth c s₁ B hml hv
        obtain ⟨rfl, hsz', hP, hAmb⟩ := hv
        subst hsz'
        have hown : s.vm.findClass q.1.cls = some m.cls := findClass_of_methodNamed B.named
        rw [← hnL] at hml ⊢
        rw [lg_entry_eq]
        have hent := lv_entry (av.map (oh_V ad)) (n := nL' + 1) (by rw [← oh_arg_len]; exact hlen)
        generalize (lg_sl (av.map (oh_V ad)) ++ List.replicate (nL' + 1 - (lg_sl (av.map (oh_V ad))).length) Slot.unset).toArray = lsc at hent ⊢
        have hl : oh_loc ad lsc (nL' + 1) (oh_pad (nL' + 1) (oh_arg av)) := ⟨oh_pad_len _ _ hlen, hent.1, hent.2.1, fun i v hv => by
          have := hent.2.2 _ (oh_arg_get ad av 0 i v (oh_pad_get _ _ i v hv))
          rw [Nat.zero_add] at this
          exact this⟩
        have hcl := oh_closed (p := p) (l := l) (e := e) (R := oh_rm (d + 1)) (s := s) (m := m) (args := (av.map (oh_V ad)).toArray) (below := below) (meth := meth) (c := c) (D := D) (cI := cI) (cR := cR) (ad := ad) (G := G) (mi := mi) (own := q.1.cls) (ret := q.2.2.2.1) (bytes := q.2.1) (nL := nL' + 1) (b0 := b0) (T := T) (d := d) (E := oh_mwp G M d) (Q := Q) B.exec B.bytes hml hown B.returns B.notSynchronized hAmb hG hinj hb0 hsz rfl ih hmi hT
        have hw : ∀ pc code l2 l3 st h, oh_more l2 l3 → oh_Pm p l e (oh_rm (d + 1)) s m (av.map (oh_V ad)).toArray below meth c D cI cR ad G (oh_A ad G s.heap.size) (MQ below (oh_Qc D cI cR ad G Q s.heap.size) (av.map (oh_V ad)).toArray s 0 0 (oh_A ad G s.heap.size)) mi q.1.cls q.2.2.2.1 q.2.1 (nL' + 1) pc code l2 st h → oh_Pm p l e (oh_rm (d + 1)) s m (av.map (oh_V ad)).toArray below meth c D cI cR ad G (oh_A ad G s.heap.size) (MQ below (oh_Qc D cI cR ad G Q s.heap.size) (av.map (oh_V ad)).toArray s 0 0 (oh_A ad G s.heap.size)) mi q.1.cls q.2.2.2.1 q.2.1 (nL' + 1) pc code l3 st h := fun pc code l2 l3 st h hm z H locs lsc hP hS hl hk => z H locs lsc hP hS (oh_loc_less hm hl) hk
        exact oh_J_W (A := oh_A ad G s.heap.size) (R := oh_rm (d + 1)) (l' := oh_pad (nL' + 1) (oh_arg av)) (st := []) (h := h) hT (oh_J_m (fun pc' c2 l2 st2 h2 z => z _ hcl hw) (fun pc' c2 l2 st2 h2 z => z _ hcl hw) hJ) hP va_S.rf hl
end
section
/-! TABLES of the methods, by program (wip/whole/gen1.py): blocks of decoded instructions with what they link to; checked below -/
def cX0_take_0 : oh_C := [(.aload_n 0, 1, 0, 0, 0, 0, 0), (.getfield 12, 3, 0, 0, 0, 0, 223), (.aload_n 1, 1, 1, 0, 0, 0, 0), (.getfield 12, 3, 0, 0, 0, 0, 223), (.invokevirtual 44, 3, 20, 2, 0, 4, 872), (.aload_n 0, 1, 0, 0, 0, 0, 0), (.getfield 23, 3, 0, 1, 0, 0, 225), (.getfield 48, 3, 1, 1, 0, 0, 211), (.aload_n 1, 1, 1, 0, 0, 0, 0), (.getfield 23, 3, 0, 1, 0, 0, 225), (.getfield 48, 3, 1, 1, 0, 0, 211), (.invokevirtual 51, 3, 19, 2, 0, 3, 873), (.aload_n 0, 1, 0, 0, 0, 0, 0), (.getfield 27, 3, 0, 2, 0, 0, 227), (.getfield 48, 3, 1, 1, 0, 0, 211), (.aload_n 1, 1, 1, 0, 0, 0, 0), (.getfield 27, 3, 0, 2, 0, 0, 227), (.getfield 48, 3, 1, 1, 0, 0, 211), (.invokevirtual 51, 3, 19, 2, 0, 3, 873), (.aload_n 0, 1, 0, 0, 0, 0, 0), (.getfield 33, 3, 0, 3, 0, 0, 229), (.aload_n 1, 1, 1, 0, 0, 0, 0), (.getfield 33, 3, 0, 3, 0, 0, 229), (.invokevirtual 51, 3, 19, 2, 0, 3, 873), (.aload_n 0, 1, 0, 0, 0, 0, 0), (.getfield 37, 3, 0, 4, 0, 0, 231), (.aload_n 1, 1, 1, 0, 0, 0, 0), (.getfield 37, 3, 0, 4, 0, 0, 231), (.invokevirtual 51, 3, 19, 2, 0, 3, 873), (.aload_n 0, 1, 0, 0, 0, 0, 0), (.aload_n 1, 1, 1, 0, 0, 0, 0), (.getfield 40, 3, 0, 5, 0, 0, 233), (.putfield 40, 3, 0, 5, 0, 0, 233), (.return_, 1, 0, 0, 0, 0, 0)]
def tX0_take : oh_T := [(0, none, cX0_take_0)]
def cX0_drawn_0 : oh_C := [(.aload_n 0, 1, 0, 0, 0, 0, 0), (.aload_n 0, 1, 0, 0, 0, 0, 0), (.getfield 40, 3, 0, 5, 0, 0, 233), (.ldc 54, 2, 1103515245, 0, 0, 0, 702), (.imul, 1, 0, 0, 0, 0, 0), (.sipush 12345, 3, 12345, 0, 0, 0, 0), (.iadd, 1, 0, 0, 0, 0, 0), (.putfield 40, 3, 0, 5, 0, 0, 233), (.aload_n 0, 1, 0, 0, 0, 0, 0), (.getfield 40, 3, 0, 5, 0, 0, 233), (.bipush 8, 2, 8, 0, 0, 0, 0), (.iushr, 1, 0, 0, 0, 0, 0), (.ireturn, 1, 0, 0, 0, 0, 0)]
def tX0_drawn : oh_T := [(0, none, cX0_drawn_0)]
def cX0_ringLoosely_0 : oh_C := [(.aload_n 0, 1, 0, 0, 0, 0, 0), (.getfield 12, 3, 0, 0, 0, 0, 223), (.invokevirtual 55, 3, 28, 1, 1, 4, 695), (.istore_n 1, 1, 1, 0, 0, 0, 0), (.aload_n 0, 1, 0, 0, 0, 0, 0), (.getfield 12, 3, 0, 0, 0, 0, 223), (.iload_n 1, 1, 1, 0, 0, 0, 0), (.invokevirtual 59, 3, 29, 2, 1, 4, 696), (.istore_n 2, 1, 2, 0, 0, 0, 0), (.iconst 0, 1, 0, 0, 0, 0, 0), (.istore_n 3, 1, 3, 0, 0, 0, 0)]
def cX0_ringLoosely_19 : oh_C := [(.iload_n 3, 1, 3, 0, 0, 0, 0), (.aload_n 0, 1, 0, 0, 0, 0, 0), (.getfield 12, 3, 0, 0, 0, 0, 223), (.getfield 63, 3, 4, 0, 0, 0, 137), (.if_icmp .ge 34, 3, 61, 0, 0, 0, 0), (.iload_n 1, 1, 1, 0, 0, 0, 0), (.iload_n 3, 1, 3, 0, 0, 0, 0), (.invokestatic 66, 3, 97, 2, 1, 0, 697), (.iconst 1, 1, 1, 0, 0, 0, 0), (.if_icmp .ne 19, 3, 55, 0, 0, 0, 0), (.aload_n 0, 1, 0, 0, 0, 0, 0), (.invokevirtual 70, 3, 1, 1, 1, 0, 698), (.bipush 8, 2, 8, 0, 0, 0, 0), (.irem, 1, 0, 0, 0, 0, 0), (.ifCond .ne 9, 3, 55, 0, 0, 0, 0), (.iload_n 2, 1, 2, 0, 0, 0, 0), (.iconst 1, 1, 1, 0, 0, 0, 0), (.iload_n 3, 1, 3, 0, 0, 0, 0), (.ishl, 1, 0, 0, 0, 0, 0), (.ixor, 1, 0, 0, 0, 0, 0), (.istore_n 2, 1, 2, 0, 0, 0, 0)]
def cX0_ringLoosely_55 : oh_C := [(.iinc 3 1, 3, 3, 1, 0, 0, 0), (.goto (-39), 3, 19, 0, 0, 0, 0)]
def cX0_ringLoosely_61 : oh_C := [(.aload_n 0, 1, 0, 0, 0, 0, 0), (.getfield 12, 3, 0, 0, 0, 0, 223), (.iload_n 1, 1, 1, 0, 0, 0, 0), (.iload_n 2, 1, 2, 0, 0, 0, 0), (.aload_n 0, 1, 0, 0, 0, 0, 0), (.getfield 27, 3, 0, 2, 0, 0, 227), (.invokevirtual 73, 3, 31, 4, 1, 4, 703), (.pop, 1, 0, 0, 0, 0, 0), (.return_, 1, 0, 0, 0, 0, 0)]
def tX0_ringLoosely : oh_T := [(0, none, cX0_ringLoosely_0), (19, some [true, true, true, true], cX0_ringLoosely_19), (55, none, cX0_ringLoosely_55), (61, none, cX0_ringLoosely_61)]
def cX1_gives_0 : oh_C := [(.aload_n 0, 1, 0, 0, 0, 0, 0), (.getfield 24, 3, 1, 0, 0, 0, 209), (.ifCond .ne 27, 3, 31, 0, 0, 0, 0), (.aload_n 0, 1, 0, 0, 0, 0, 0), (.getfield 14, 3, 1, 1, 0, 0, 210), (.getfield 28, 3, 3, 1, 0, 0, 201), (.ifCond .ne 7, 3, 21, 0, 0, 0, 0), (.iconst 1, 1, 1, 0, 0, 0, 0), (.goto 12, 3, 30, 0, 0, 0, 0)]
def cX1_gives_21 : oh_C := [(.aload_n 0, 1, 0, 0, 0, 0, 0), (.iload_n 1, 1, 1, 0, 0, 0, 0), (.iload_n 2, 1, 2, 0, 0, 0, 0), (.iload_n 3, 1, 3, 0, 0, 0, 0), (.iload 4, 2, 4, 0, 0, 0, 0), (.invokevirtual 31, 3, 4, 5, 1, 1, 567)]
def cX1_gives_30 : oh_C := [(.ireturn, 1, 0, 0, 0, 0, 0)]
def cX1_gives_31 : oh_C := [(.aload_n 0, 1, 0, 0, 0, 0, 0), (.getfield 14, 3, 1, 1, 0, 0, 210), (.getfield 28, 3, 3, 1, 0, 0, 201), (.ifCond .ne 14, 3, 52, 0, 0, 0, 0), (.iload_n 1, 1, 1, 0, 0, 0, 0), (.bipush 10, 2, 10, 0, 0, 0, 0), (.imul, 1, 0, 0, 0, 0, 0), (.iconst 5, 1, 5, 0, 0, 0, 0), (.iadd, 1, 0, 0, 0, 0, 0), (.iload_n 2, 1, 2, 0, 0, 0, 0), (.isub, 1, 0, 0, 0, 0, 0), (.goto 12, 3, 61, 0, 0, 0, 0)]
def cX1_gives_52 : oh_C := [(.aload_n 0, 1, 0, 0, 0, 0, 0), (.iload_n 1, 1, 1, 0, 0, 0, 0), (.iload_n 2, 1, 2, 0, 0, 0, 0), (.iload_n 3, 1, 3, 0, 0, 0, 0), (.iload 4, 2, 4, 0, 0, 0, 0), (.invokevirtual 31, 3, 4, 5, 1, 1, 567)]
def cX1_gives_61 : oh_C := [(.istore 5, 2, 5, 0, 0, 0, 0), (.iload 5, 2, 5, 0, 0, 0, 0), (.iconst 0, 1, 0, 0, 0, 0, 0), (.sipush 999, 3, 999, 0, 0, 0, 0), (.invokestatic 35, 3, 98, 3, 1, 0, 578), (.ireturn, 1, 0, 0, 0, 0, 0)]
def tX1_gives : oh_T := [(0, none, cX1_gives_0), (21, none, cX1_gives_21), (30, none, cX1_gives_30), (31, none, cX1_gives_31), (52, none, cX1_gives_52), (61, none, cX1_gives_61)]
def cX1_workedOut_0 : oh_C := [(.iconst 0, 1, 0, 0, 0, 0, 0), (.istore 5, 2, 5, 0, 0, 0, 0), (.iconst 0, 1, 0, 0, 0, 0, 0), (.istore 6, 2, 6, 0, 0, 0, 0)]
def cX1_workedOut_6 : oh_C := [(.iload 6, 2, 6, 0, 0, 0, 0), (.aload_n 0, 1, 0, 0, 0, 0, 0), (.getfield 14, 3, 1, 1, 0, 0, 210), (.getfield 28, 3, 3, 1, 0, 0, 201), (.if_icmp .ge 178, 3, 193, 0, 0, 0, 0), (.aload_n 0, 1, 0, 0, 0, 0, 0), (.getfield 14, 3, 1, 1, 0, 0, 210), (.iload 6, 2, 6, 0, 0, 0, 0), (.invokevirtual 39, 3, 17, 2, 1, 3, 571), (.istore 7, 2, 7, 0, 0, 0, 0), (.iload 7, 2, 7, 0, 0, 0, 0), (.sipush 10000, 3, 10000, 0, 0, 0, 0), (.if_icmp .lt 11, 3, 45, 0, 0, 0, 0), (.iload 7, 2, 7, 0, 0, 0, 0), (.sipush 20000, 3, 20000, 0, 0, 0, 0), (.if_icmp .lt 55, 3, 97, 0, 0, 0, 0)]
def cX1_workedOut_45 : oh_C := [(.iload 5, 2, 5, 0, 0, 0, 0), (.aload_n 0, 1, 0, 0, 0, 0, 0), (.getfield 20, 3, 1, 2, 0, 0, 213), (.arraylength, 1, 0, 0, 0, 0, 0), (.if_icmp .lt 5, 3, 57, 0, 0, 0, 0), (.iconst 0, 1, 0, 0, 0, 0, 0), (.ireturn, 1, 0, 0, 0, 0, 0)]
def cX1_workedOut_57 : oh_C := [(.aload_n 0, 1, 0, 0, 0, 0, 0), (.getfield 20, 3, 1, 2, 0, 0, 213), (.iload 5, 2, 5, 0, 0, 0, 0), (.iload 7, 2, 7, 0, 0, 0, 0), (.sipush 10000, 3, 10000, 0, 0, 0, 0), (.if_icmp .ge 8, 3, 76, 0, 0, 0, 0), (.iload 7, 2, 7, 0, 0, 0, 0), (.goto 17, 3, 90, 0, 0, 0, 0)]
def cX1_workedOut_76 : oh_C := [(.iload 7, 2, 7, 0, 0, 0, 0), (.sipush 20000, 3, 20000, 0, 0, 0, 0), (.isub, 1, 0, 0, 0, 0, 0), (.iload_n 1, 1, 1, 0, 0, 0, 0), (.iload_n 2, 1, 2, 0, 0, 0, 0), (.iload_n 3, 1, 3, 0, 0, 0, 0), (.iload 4, 2, 4, 0, 0, 0, 0), (.invokestatic 43, 3, 5, 5, 1, 0, 572)]
def cX1_workedOut_90 : oh_C := [(.iastore, 1, 0, 0, 0, 0, 0), (.iinc 5 1, 3, 5, 1, 0, 0, 0), (.goto 93, 3, 187, 0, 0, 0, 0)]
def cX1_workedOut_97 : oh_C := [(.iload 7, 2, 7, 0, 0, 0, 0), (.sipush 10033, 3, 10033, 0, 0, 0, 0), (.if_icmp .ne 40, 3, 142, 0, 0, 0, 0), (.iload 5, 2, 5, 0, 0, 0, 0), (.iconst 1, 1, 1, 0, 0, 0, 0), (.if_icmp .ge 5, 3, 113, 0, 0, 0, 0), (.iconst 0, 1, 0, 0, 0, 0, 0), (.ireturn, 1, 0, 0, 0, 0, 0)]
def cX1_workedOut_113 : oh_C := [(.aload_n 0, 1, 0, 0, 0, 0, 0), (.getfield 20, 3, 1, 2, 0, 0, 213), (.iload 5, 2, 5, 0, 0, 0, 0), (.iconst 1, 1, 1, 0, 0, 0, 0), (.isub, 1, 0, 0, 0, 0, 0), (.aload_n 0, 1, 0, 0, 0, 0, 0), (.getfield 20, 3, 1, 2, 0, 0, 213), (.iload 5, 2, 5, 0, 0, 0, 0), (.iconst 1, 1, 1, 0, 0, 0, 0), (.isub, 1, 0, 0, 0, 0, 0), (.iaload, 1, 0, 0, 0, 0, 0), (.ifCond .ne 7, 3, 137, 0, 0, 0, 0), (.iconst 1, 1, 1, 0, 0, 0, 0), (.goto 4, 3, 138, 0, 0, 0, 0)]
def cX1_workedOut_137 : oh_C := [(.iconst 0, 1, 0, 0, 0, 0, 0)]
def cX1_workedOut_138 : oh_C := [(.iastore, 1, 0, 0, 0, 0, 0), (.goto 48, 3, 187, 0, 0, 0, 0)]
def cX1_workedOut_142 : oh_C := [(.iload 5, 2, 5, 0, 0, 0, 0), (.iconst 2, 1, 2, 0, 0, 0, 0), (.if_icmp .ge 5, 3, 150, 0, 0, 0, 0), (.iconst 0, 1, 0, 0, 0, 0, 0), (.ireturn, 1, 0, 0, 0, 0, 0)]
def cX1_workedOut_150 : oh_C := [(.iinc 5 (-1), 3, 5, 1, 1, 0, 0), (.aload_n 0, 1, 0, 0, 0, 0, 0), (.getfield 20, 3, 1, 2, 0, 0, 213), (.iload 5, 2, 5, 0, 0, 0, 0), (.iconst 1, 1, 1, 0, 0, 0, 0), (.isub, 1, 0, 0, 0, 0, 0), (.iload 7, 2, 7, 0, 0, 0, 0), (.sipush 10000, 3, 10000, 0, 0, 0, 0), (.isub, 1, 0, 0, 0, 0, 0), (.aload_n 0, 1, 0, 0, 0, 0, 0), (.getfield 20, 3, 1, 2, 0, 0, 213), (.iload 5, 2, 5, 0, 0, 0, 0), (.iconst 1, 1, 1, 0, 0, 0, 0), (.isub, 1, 0, 0, 0, 0, 0), (.iaload, 1, 0, 0, 0, 0, 0), (.aload_n 0, 1, 0, 0, 0, 0, 0), (.getfield 20, 3, 1, 2, 0, 0, 213), (.iload 5, 2, 5, 0, 0, 0, 0), (.iaload, 1, 0, 0, 0, 0, 0), (.invokestatic 47, 3, 6, 3, 1, 0, 575), (.iastore, 1, 0, 0, 0, 0, 0)]
def cX1_workedOut_187 : oh_C := [(.iinc 6 1, 3, 6, 1, 0, 0, 0), (.goto (-184), 3, 6, 0, 0, 0, 0)]
def cX1_workedOut_193 : oh_C := [(.iload 5, 2, 5, 0, 0, 0, 0), (.iconst 1, 1, 1, 0, 0, 0, 0), (.if_icmp .ge 7, 3, 203, 0, 0, 0, 0), (.iconst 0, 1, 0, 0, 0, 0, 0), (.goto 9, 3, 209, 0, 0, 0, 0)]
def cX1_workedOut_203 : oh_C := [(.aload_n 0, 1, 0, 0, 0, 0, 0), (.getfield 20, 3, 1, 2, 0, 0, 213), (.iconst 0, 1, 0, 0, 0, 0, 0), (.iaload, 1, 0, 0, 0, 0, 0)]
def cX1_workedOut_209 : oh_C := [(.ireturn, 1, 0, 0, 0, 0, 0)]
def tX1_workedOut : oh_T := [(0, none, cX1_workedOut_0), (6, some [true, true, true, true, true, true, true, false], cX1_workedOut_6), (45, none, cX1_workedOut_45), (57, none, cX1_workedOut_57), (76, none, cX1_workedOut_76), (90, none, cX1_workedOut_90), (97, none, cX1_workedOut_97), (113, none, cX1_workedOut_113), (137, none, cX1_workedOut_137), (138, none, cX1_workedOut_138), (142, none, cX1_workedOut_142), (150, none, cX1_workedOut_150), (187, none, cX1_workedOut_187), (193, none, cX1_workedOut_193), (203, none, cX1_workedOut_203), (209, none, cX1_workedOut_209)]
def cX1_named_0 : oh_C := [(.iload_n 0, 1, 0, 0, 0, 0, 0), (.tableswitch 33 0 2 #[27, 29, 31], 27, 0, 0, 0, 0, 0)]
def cX1_named_28 : oh_C := [(.iload_n 1, 1, 1, 0, 0, 0, 0), (.ireturn, 1, 0, 0, 0, 0, 0)]
def cX1_named_30 : oh_C := [(.iload_n 2, 1, 2, 0, 0, 0, 0), (.ireturn, 1, 0, 0, 0, 0, 0)]
def cX1_named_32 : oh_C := [(.iload_n 3, 1, 3, 0, 0, 0, 0), (.ireturn, 1, 0, 0, 0, 0, 0)]
def cX1_named_34 : oh_C := [(.iload 4, 2, 4, 0, 0, 0, 0), (.ireturn, 1, 0, 0, 0, 0, 0)]
def tX1_named : oh_T := [(0, none, cX1_named_0), (28, none, cX1_named_28), (30, none, cX1_named_30), (32, none, cX1_named_32), (34, none, cX1_named_34)]
def cX1_joined_0 : oh_C := [(.iload_n 0, 1, 0, 0, 0, 0, 0), (.lookupswitch 188 #[(37, 176), (38, 105), (42, 160), (43, 152), (45, 156), (47, 164), (60, 119), (61, 130), (62, 141), (124, 91)], 91, 0, 0, 0, 0, 0)]
def cX1_joined_92 : oh_C := [(.iload_n 1, 1, 1, 0, 0, 0, 0), (.ifCond .ne 7, 3, 100, 0, 0, 0, 0), (.iload_n 2, 1, 2, 0, 0, 0, 0), (.ifCond .eq 7, 3, 104, 0, 0, 0, 0)]
def cX1_joined_100 : oh_C := [(.iconst 1, 1, 1, 0, 0, 0, 0), (.goto 4, 3, 105, 0, 0, 0, 0)]
def cX1_joined_104 : oh_C := [(.iconst 0, 1, 0, 0, 0, 0, 0)]
def cX1_joined_105 : oh_C := [(.ireturn, 1, 0, 0, 0, 0, 0)]
def cX1_joined_106 : oh_C := [(.iload_n 1, 1, 1, 0, 0, 0, 0), (.ifCond .eq 11, 3, 118, 0, 0, 0, 0), (.iload_n 2, 1, 2, 0, 0, 0, 0), (.ifCond .eq 7, 3, 118, 0, 0, 0, 0), (.iconst 1, 1, 1, 0, 0, 0, 0), (.goto 4, 3, 119, 0, 0, 0, 0)]
def cX1_joined_118 : oh_C := [(.iconst 0, 1, 0, 0, 0, 0, 0)]
def cX1_joined_119 : oh_C := [(.ireturn, 1, 0, 0, 0, 0, 0)]
def cX1_joined_120 : oh_C := [(.iload_n 1, 1, 1, 0, 0, 0, 0), (.iload_n 2, 1, 2, 0, 0, 0, 0), (.if_icmp .ge 7, 3, 129, 0, 0, 0, 0), (.iconst 1, 1, 1, 0, 0, 0, 0), (.goto 4, 3, 130, 0, 0, 0, 0)]
def cX1_joined_129 : oh_C := [(.iconst 0, 1, 0, 0, 0, 0, 0)]
def cX1_joined_130 : oh_C := [(.ireturn, 1, 0, 0, 0, 0, 0)]
def cX1_joined_131 : oh_C := [(.iload_n 1, 1, 1, 0, 0, 0, 0), (.iload_n 2, 1, 2, 0, 0, 0, 0), (.if_icmp .ne 7, 3, 140, 0, 0, 0, 0), (.iconst 1, 1, 1, 0, 0, 0, 0), (.goto 4, 3, 141, 0, 0, 0, 0)]
def cX1_joined_140 : oh_C := [(.iconst 0, 1, 0, 0, 0, 0, 0)]
def cX1_joined_141 : oh_C := [(.ireturn, 1, 0, 0, 0, 0, 0)]
def cX1_joined_142 : oh_C := [(.iload_n 1, 1, 1, 0, 0, 0, 0), (.iload_n 2, 1, 2, 0, 0, 0, 0), (.if_icmp .le 7, 3, 151, 0, 0, 0, 0), (.iconst 1, 1, 1, 0, 0, 0, 0), (.goto 4, 3, 152, 0, 0, 0, 0)]
def cX1_joined_151 : oh_C := [(.iconst 0, 1, 0, 0, 0, 0, 0)]
def cX1_joined_152 : oh_C := [(.ireturn, 1, 0, 0, 0, 0, 0)]
def cX1_joined_153 : oh_C := [(.iload_n 1, 1, 1, 0, 0, 0, 0), (.iload_n 2, 1, 2, 0, 0, 0, 0), (.iadd, 1, 0, 0, 0, 0, 0), (.ireturn, 1, 0, 0, 0, 0, 0)]
def cX1_joined_157 : oh_C := [(.iload_n 1, 1, 1, 0, 0, 0, 0), (.iload_n 2, 1, 2, 0, 0, 0, 0), (.isub, 1, 0, 0, 0, 0, 0), (.ireturn, 1, 0, 0, 0, 0, 0)]
def cX1_joined_161 : oh_C := [(.iload_n 1, 1, 1, 0, 0, 0, 0), (.iload_n 2, 1, 2, 0, 0, 0, 0), (.imul, 1, 0, 0, 0, 0, 0), (.ireturn, 1, 0, 0, 0, 0, 0)]
def cX1_joined_165 : oh_C := [(.iload_n 2, 1, 2, 0, 0, 0, 0), (.ifCond .ne 7, 3, 173, 0, 0, 0, 0), (.iconst 0, 1, 0, 0, 0, 0, 0), (.goto 6, 3, 176, 0, 0, 0, 0)]
def cX1_joined_173 : oh_C := [(.iload_n 1, 1, 1, 0, 0, 0, 0), (.iload_n 2, 1, 2, 0, 0, 0, 0), (.idiv, 1, 0, 0, 0, 0, 0)]
def cX1_joined_176 : oh_C := [(.ireturn, 1, 0, 0, 0, 0, 0)]
def cX1_joined_177 : oh_C := [(.iload_n 2, 1, 2, 0, 0, 0, 0), (.ifCond .ne 7, 3, 185, 0, 0, 0, 0), (.iconst 0, 1, 0, 0, 0, 0, 0), (.goto 6, 3, 188, 0, 0, 0, 0)]
def cX1_joined_185 : oh_C := [(.iload_n 1, 1, 1, 0, 0, 0, 0), (.iload_n 2, 1, 2, 0, 0, 0, 0), (.irem, 1, 0, 0, 0, 0, 0)]
def cX1_joined_188 : oh_C := [(.ireturn, 1, 0, 0, 0, 0, 0)]
def cX1_joined_189 : oh_C := [(.iconst 0, 1, 0, 0, 0, 0, 0), (.ireturn, 1, 0, 0, 0, 0, 0)]
def tX1_joined : oh_T := [(0, none, cX1_joined_0), (92, none, cX1_joined_92), (100, none, cX1_joined_100), (104, none, cX1_joined_104), (105, none, cX1_joined_105), (106, none, cX1_joined_106), (118, none, cX1_joined_118), (119, none, cX1_joined_119), (120, none, cX1_joined_120), (129, none, cX1_joined_129), (130, none, cX1_joined_130), (131, none, cX1_joined_131), (140, none, cX1_joined_140), (141, none, cX1_joined_141), (142, none, cX1_joined_142), (151, none, cX1_joined_151), (152, none, cX1_joined_152), (153, none, cX1_joined_153), (157, none, cX1_joined_157), (161, none, cX1_joined_161), (165, none, cX1_joined_165), (173, none, cX1_joined_173), (176, none, cX1_joined_176), (177, none, cX1_joined_177), (185, none, cX1_joined_185), (188, none, cX1_joined_188), (189, none, cX1_joined_189)]
def cX2_faultOf_0 : oh_C := [(.aload_n 0, 1, 0, 0, 0, 0, 0), (.getfield 20, 3, 2, 1, 0, 0, 261), (.aload_n 1, 1, 1, 0, 0, 0, 0), (.invokevirtual 29, 3, 19, 2, 0, 3, 423), (.aload_n 0, 1, 0, 0, 0, 0, 0), (.iload_n 2, 1, 2, 0, 0, 0, 0), (.ifCond .ne 8, 3, 18, 0, 0, 0, 0), (.ldc 33, 2, 2001, 1, 1, 0, 436), (.goto 5, 3, 20, 0, 0, 0, 0)]
def cX2_faultOf_18 : oh_C := [(.ldc 35, 2, 2002, 1, 2, 0, 437)]
def cX2_faultOf_20 : oh_C := [(.putfield 25, 3, 2, 2, 0, 0, 262), (.aload_n 0, 1, 0, 0, 0, 0, 0), (.iconst 0, 1, 0, 0, 0, 0, 0), (.putfield 37, 3, 2, 3, 0, 0, 263), (.aload_n 0, 1, 0, 0, 0, 0, 0), (.getfield 14, 3, 2, 0, 0, 0, 259), (.invokevirtual 41, 3, 18, 1, 0, 3, 438), (.aload_n 0, 1, 0, 0, 0, 0, 0), (.iconst 0, 1, 0, 0, 0, 0, 0), (.iconst 0, 1, 0, 0, 0, 0, 0), (.invokevirtual 44, 3, 8, 3, 1, 2, 439), (.ifCond .eq 21, 3, 62, 0, 0, 0, 0), (.aload_n 0, 1, 0, 0, 0, 0, 0), (.getfield 37, 3, 2, 3, 0, 0, 263), (.aload_n 0, 1, 0, 0, 0, 0, 0), (.getfield 20, 3, 2, 1, 0, 0, 261), (.getfield 48, 3, 3, 1, 0, 0, 202), (.if_icmp .ne 7, 3, 62, 0, 0, 0, 0), (.iconst (-1), 1, 1, 1, 0, 0, 0), (.goto 7, 3, 66, 0, 0, 0, 0)]
def cX2_faultOf_62 : oh_C := [(.aload_n 0, 1, 0, 0, 0, 0, 0), (.getfield 37, 3, 2, 3, 0, 0, 263)]
def cX2_faultOf_66 : oh_C := [(.ireturn, 1, 0, 0, 0, 0, 0)]
def tX2_faultOf : oh_T := [(0, none, cX2_faultOf_0), (18, none, cX2_faultOf_18), (20, none, cX2_faultOf_20), (62, none, cX2_faultOf_62), (66, none, cX2_faultOf_66)]
def cX2_readLevel_0 : oh_C := [(.iload_n 1, 1, 1, 0, 0, 0, 0), (.iconst 5, 1, 5, 0, 0, 0, 0), (.if_icmp .lt 9, 3, 11, 0, 0, 0, 0), (.aload_n 0, 1, 0, 0, 0, 0, 0), (.iload_n 2, 1, 2, 0, 0, 0, 0), (.invokevirtual 51, 3, 9, 2, 1, 2, 443), (.ireturn, 1, 1, 0, 0, 0, 0)]
def cX2_readLevel_11 : oh_C := [(.aload_n 0, 1, 0, 0, 0, 0, 0), (.iload_n 1, 1, 1, 0, 0, 0, 0), (.iconst 1, 1, 1, 0, 0, 0, 0), (.iadd, 1, 0, 0, 0, 0, 0), (.iload_n 2, 1, 2, 0, 0, 0, 0), (.invokevirtual 44, 3, 8, 3, 1, 2, 439), (.ifCond .ne 5, 3, 24, 0, 0, 0, 0), (.iconst 0, 1, 0, 0, 0, 0, 0), (.ireturn, 1, 1, 0, 0, 0, 0)]
def cX2_readLevel_24 : oh_C := [(.iload_n 1, 1, 1, 0, 0, 0, 0), (.iconst 2, 1, 2, 0, 0, 0, 0), (.if_icmp .ne 7, 3, 33, 0, 0, 0, 0), (.iconst 1, 1, 1, 0, 0, 0, 0), (.goto 5, 3, 35, 0, 0, 0, 0)]
def cX2_readLevel_33 : oh_C := [(.bipush 50, 2, 50, 0, 0, 0, 0)]
def cX2_readLevel_35 : oh_C := [(.istore_n 3, 1, 3, 0, 0, 0, 0), (.iconst 0, 1, 0, 0, 0, 0, 0), (.istore 4, 2, 4, 0, 0, 0, 0)]
def cX2_readLevel_39 : oh_C := [(.iload 4, 2, 4, 0, 0, 0, 0), (.iload_n 3, 1, 3, 0, 0, 0, 0), (.if_icmp .ge 62, 3, 104, 0, 0, 0, 0), (.iload_n 1, 1, 1, 0, 0, 0, 0), (.aload_n 0, 1, 0, 0, 0, 0, 0), (.invokevirtual 55, 3, 13, 1, 1, 2, 447), (.invokestatic 59, 3, 15, 2, 1, 0, 550), (.ifCond .eq 51, 3, 104, 0, 0, 0, 0), (.aload_n 0, 1, 0, 0, 0, 0, 0), (.invokevirtual 55, 3, 13, 1, 1, 2, 447), (.istore 5, 2, 5, 0, 0, 0, 0), (.aload_n 0, 1, 0, 0, 0, 0, 0), (.dup, 1, 0, 0, 0, 0, 0), (.getfield 37, 3, 2, 3, 0, 0, 263), (.iconst 1, 1, 1, 0, 0, 0, 0), (.iadd, 1, 0, 0, 0, 0, 0), (.putfield 37, 3, 2, 3, 0, 0, 263), (.aload_n 0, 1, 0, 0, 0, 0, 0), (.iload_n 1, 1, 1, 0, 0, 0, 0), (.iconst 1, 1, 1, 0, 0, 0, 0), (.iadd, 1, 0, 0, 0, 0, 0), (.iload_n 2, 1, 2, 0, 0, 0, 0), (.invokevirtual 44, 3, 8, 3, 1, 2, 439), (.ifCond .ne 5, 3, 85, 0, 0, 0, 0), (.iconst 0, 1, 0, 0, 0, 0, 0), (.ireturn, 1, 1, 0, 0, 0, 0)]
def cX2_readLevel_85 : oh_C := [(.aload_n 0, 1, 0, 0, 0, 0, 0), (.getfield 14, 3, 2, 0, 0, 0, 259), (.sipush 10000, 3, 10000, 0, 0, 0, 0), (.iload 5, 2, 5, 0, 0, 0, 0), (.iadd, 1, 0, 0, 0, 0, 0), (.invokevirtual 64, 3, 16, 2, 0, 3, 459), (.iinc 4 1, 3, 4, 1, 0, 0, 0), (.goto (-62), 3, 39, 0, 0, 0, 0)]
def cX2_readLevel_104 : oh_C := [(.iconst 1, 1, 1, 0, 0, 0, 0), (.ireturn, 1, 1, 0, 0, 0, 0)]
def tX2_readLevel : oh_T := [(0, none, cX2_readLevel_0), (11, none, cX2_readLevel_11), (24, none, cX2_readLevel_24), (33, none, cX2_readLevel_33), (35, none, cX2_readLevel_35), (39, some [true, true, true, true, true, false], cX2_readLevel_39), (85, none, cX2_readLevel_85), (104, none, cX2_readLevel_104)]
def cX2_readUnit_0 : oh_C := [(.aload_n 0, 1, 0, 0, 0, 0, 0), (.invokevirtual 55, 3, 13, 1, 1, 2, 447), (.istore_n 2, 1, 2, 0, 0, 0, 0), (.iload_n 2, 1, 2, 0, 0, 0, 0), (.invokestatic 67, 3, 14, 1, 1, 0, 452), (.ifCond .eq 9, 3, 18, 0, 0, 0, 0), (.aload_n 0, 1, 0, 0, 0, 0, 0), (.invokevirtual 70, 3, 12, 1, 0, 2, 455), (.iconst 1, 1, 1, 0, 0, 0, 0), (.ireturn, 1, 1, 0, 0, 0, 0)]
def cX2_readUnit_18 : oh_C := [(.iload_n 2, 1, 2, 0, 0, 0, 0), (.bipush 33, 2, 33, 0, 0, 0, 0), (.if_icmp .eq 9, 3, 30, 0, 0, 0, 0), (.iload_n 2, 1, 2, 0, 0, 0, 0), (.bipush 40, 2, 40, 0, 0, 0, 0), (.if_icmp .ne 44, 3, 71, 0, 0, 0, 0)]
def cX2_readUnit_30 : oh_C := [(.iload_n 1, 1, 1, 0, 0, 0, 0), (.iconst 5, 1, 5, 0, 0, 0, 0), (.if_icmp .lt 5, 3, 37, 0, 0, 0, 0), (.iconst 0, 1, 0, 0, 0, 0, 0), (.ireturn, 1, 1, 0, 0, 0, 0)]
def cX2_readUnit_37 : oh_C := [(.aload_n 0, 1, 0, 0, 0, 0, 0), (.dup, 1, 0, 0, 0, 0, 0), (.getfield 37, 3, 2, 3, 0, 0, 263), (.iconst 1, 1, 1, 0, 0, 0, 0), (.iadd, 1, 0, 0, 0, 0, 0), (.putfield 37, 3, 2, 3, 0, 0, 263), (.iload_n 2, 1, 2, 0, 0, 0, 0), (.bipush 33, 2, 33, 0, 0, 0, 0), (.if_icmp .ne 13, 3, 63, 0, 0, 0, 0), (.aload_n 0, 1, 0, 0, 0, 0, 0), (.iload_n 1, 1, 1, 0, 0, 0, 0), (.iconst 1, 1, 1, 0, 0, 0, 0), (.iadd, 1, 0, 0, 0, 0, 0), (.invokevirtual 73, 3, 10, 2, 1, 2, 460), (.goto 10, 3, 70, 0, 0, 0, 0)]
def cX2_readUnit_63 : oh_C := [(.aload_n 0, 1, 0, 0, 0, 0, 0), (.iload_n 1, 1, 1, 0, 0, 0, 0), (.iconst 1, 1, 1, 0, 0, 0, 0), (.iadd, 1, 0, 0, 0, 0, 0), (.invokevirtual 76, 3, 11, 2, 1, 2, 464)]
def cX2_readUnit_70 : oh_C := [(.ireturn, 1, 1, 0, 0, 0, 0)]
def cX2_readUnit_71 : oh_C := [(.iload_n 2, 1, 2, 0, 0, 0, 0), (.ifCond .ge 7, 3, 79, 0, 0, 0, 0), (.iconst (-1), 1, 1, 1, 0, 0, 0), (.goto 12, 3, 88, 0, 0, 0, 0)]
def cX2_readUnit_79 : oh_C := [(.aload_n 0, 1, 0, 0, 0, 0, 0), (.getfield 25, 3, 2, 2, 0, 0, 262), (.iload_n 2, 1, 2, 0, 0, 0, 0), (.i2c, 1, 0, 0, 0, 0, 0), (.invokevirtual 79, 3, 202, 2, 1, 99, 468)]
def cX2_readUnit_88 : oh_C := [(.istore_n 3, 1, 3, 0, 0, 0, 0), (.iload_n 3, 1, 3, 0, 0, 0, 0), (.ifCond .ge 5, 3, 95, 0, 0, 0, 0), (.iconst 0, 1, 0, 0, 0, 0, 0), (.ireturn, 1, 1, 0, 0, 0, 0)]
def cX2_readUnit_95 : oh_C := [(.aload_n 0, 1, 0, 0, 0, 0, 0), (.dup, 1, 0, 0, 0, 0, 0), (.getfield 37, 3, 2, 3, 0, 0, 263), (.iconst 1, 1, 1, 0, 0, 0, 0), (.iadd, 1, 0, 0, 0, 0, 0), (.putfield 37, 3, 2, 3, 0, 0, 263), (.aload_n 0, 1, 0, 0, 0, 0, 0), (.getfield 14, 3, 2, 0, 0, 0, 259), (.sipush 20000, 3, 20000, 0, 0, 0, 0), (.iload_n 3, 1, 3, 0, 0, 0, 0), (.iadd, 1, 0, 0, 0, 0, 0), (.invokevirtual 64, 3, 16, 2, 0, 3, 459), (.iconst 1, 1, 1, 0, 0, 0, 0), (.ireturn, 1, 1, 0, 0, 0, 0)]
def tX2_readUnit : oh_T := [(0, none, cX2_readUnit_0), (18, none, cX2_readUnit_18), (30, none, cX2_readUnit_30), (37, none, cX2_readUnit_37), (63, none, cX2_readUnit_63), (70, none, cX2_readUnit_70), (71, none, cX2_readUnit_71), (79, none, cX2_readUnit_79), (88, none, cX2_readUnit_88), (95, none, cX2_readUnit_95)]
def cX2_readNot_0 : oh_C := [(.aload_n 0, 1, 0, 0, 0, 0, 0), (.iload_n 1, 1, 1, 0, 0, 0, 0), (.invokevirtual 51, 3, 9, 2, 1, 2, 443), (.istore_n 2, 1, 2, 0, 0, 0, 0), (.aload_n 0, 1, 0, 0, 0, 0, 0), (.getfield 14, 3, 2, 0, 0, 0, 259), (.sipush 10033, 3, 10033, 0, 0, 0, 0), (.invokevirtual 64, 3, 16, 2, 0, 3, 459), (.iload_n 2, 1, 2, 0, 0, 0, 0), (.ireturn, 1, 1, 0, 0, 0, 0)]
def tX2_readNot : oh_T := [(0, none, cX2_readNot_0)]
def cX2_readInside_0 : oh_C := [(.aload_n 0, 1, 0, 0, 0, 0, 0), (.iconst 0, 1, 0, 0, 0, 0, 0), (.iload_n 1, 1, 1, 0, 0, 0, 0), (.invokevirtual 44, 3, 8, 3, 1, 2, 439), (.ifCond .eq 12, 3, 18, 0, 0, 0, 0), (.aload_n 0, 1, 0, 0, 0, 0, 0), (.invokevirtual 55, 3, 13, 1, 1, 2, 447), (.bipush 41, 2, 41, 0, 0, 0, 0), (.if_icmp .eq 5, 3, 20, 0, 0, 0, 0)]
def cX2_readInside_18 : oh_C := [(.iconst 0, 1, 0, 0, 0, 0, 0), (.ireturn, 1, 1, 0, 0, 0, 0)]
def cX2_readInside_20 : oh_C := [(.aload_n 0, 1, 0, 0, 0, 0, 0), (.dup, 1, 0, 0, 0, 0, 0), (.getfield 37, 3, 2, 3, 0, 0, 263), (.iconst 1, 1, 1, 0, 0, 0, 0), (.iadd, 1, 0, 0, 0, 0, 0), (.putfield 37, 3, 2, 3, 0, 0, 263), (.iconst 1, 1, 1, 0, 0, 0, 0), (.ireturn, 1, 1, 0, 0, 0, 0)]
def tX2_readInside : oh_T := [(0, none, cX2_readInside_0), (18, none, cX2_readInside_18), (20, none, cX2_readInside_20)]
def cX2_readNumber_0 : oh_C := [(.iconst 0, 1, 0, 0, 0, 0, 0), (.istore_n 1, 1, 1, 0, 0, 0, 0), (.iconst 0, 1, 0, 0, 0, 0, 0), (.istore_n 2, 1, 2, 0, 0, 0, 0)]
def cX2_readNumber_4 : oh_C := [(.iload_n 2, 1, 2, 0, 0, 0, 0), (.iconst 4, 1, 4, 0, 0, 0, 0), (.if_icmp .ge 42, 3, 48, 0, 0, 0, 0), (.aload_n 0, 1, 0, 0, 0, 0, 0), (.invokevirtual 55, 3, 13, 1, 1, 2, 447), (.invokestatic 67, 3, 14, 1, 1, 0, 452), (.ifCond .eq 32, 3, 48, 0, 0, 0, 0), (.iload_n 1, 1, 1, 0, 0, 0, 0), (.bipush 10, 2, 10, 0, 0, 0, 0), (.imul, 1, 0, 0, 0, 0, 0), (.aload_n 0, 1, 0, 0, 0, 0, 0), (.invokevirtual 55, 3, 13, 1, 1, 2, 447), (.iadd, 1, 0, 0, 0, 0, 0), (.bipush 48, 2, 48, 0, 0, 0, 0), (.isub, 1, 0, 0, 0, 0, 0), (.istore_n 1, 1, 1, 0, 0, 0, 0), (.aload_n 0, 1, 0, 0, 0, 0, 0), (.dup, 1, 0, 0, 0, 0, 0), (.getfield 37, 3, 2, 3, 0, 0, 263), (.iconst 1, 1, 1, 0, 0, 0, 0), (.iadd, 1, 0, 0, 0, 0, 0), (.putfield 37, 3, 2, 3, 0, 0, 263), (.iinc 2 1, 3, 2, 1, 0, 0, 0), (.goto (-41), 3, 4, 0, 0, 0, 0)]
def cX2_readNumber_48 : oh_C := [(.aload_n 0, 1, 0, 0, 0, 0, 0), (.getfield 14, 3, 2, 0, 0, 0, 259), (.iload_n 1, 1, 1, 0, 0, 0, 0), (.invokevirtual 64, 3, 16, 2, 0, 3, 459), (.return_, 1, 0, 0, 0, 0, 0)]
def tX2_readNumber : oh_T := [(0, none, cX2_readNumber_0), (4, some [true, true, true], cX2_readNumber_4), (48, none, cX2_readNumber_48)]
def cX2_next_0 : oh_C := [(.aload_n 0, 1, 0, 0, 0, 0, 0), (.getfield 37, 3, 2, 3, 0, 0, 263), (.aload_n 0, 1, 0, 0, 0, 0, 0), (.getfield 20, 3, 2, 1, 0, 0, 261), (.getfield 48, 3, 3, 1, 0, 0, 202), (.if_icmp .ge 17, 3, 28, 0, 0, 0, 0), (.aload_n 0, 1, 0, 0, 0, 0, 0), (.getfield 20, 3, 2, 1, 0, 0, 261), (.aload_n 0, 1, 0, 0, 0, 0, 0), (.getfield 37, 3, 2, 3, 0, 0, 263), (.invokevirtual 85, 3, 17, 2, 1, 3, 451), (.goto 4, 3, 29, 0, 0, 0, 0)]
def cX2_next_28 : oh_C := [(.iconst (-1), 1, 1, 1, 0, 0, 0)]
def cX2_next_29 : oh_C := [(.ireturn, 1, 0, 0, 0, 0, 0)]
def tX2_next : oh_T := [(0, none, cX2_next_0), (28, none, cX2_next_28), (29, none, cX2_next_29)]
def cX2_isDigit_0 : oh_C := [(.iload_n 0, 1, 0, 0, 0, 0, 0), (.bipush 48, 2, 48, 0, 0, 0, 0), (.if_icmp .lt 13, 3, 16, 0, 0, 0, 0), (.iload_n 0, 1, 0, 0, 0, 0, 0), (.bipush 57, 2, 57, 0, 0, 0, 0), (.if_icmp .gt 7, 3, 16, 0, 0, 0, 0), (.iconst 1, 1, 1, 0, 0, 0, 0), (.goto 4, 3, 17, 0, 0, 0, 0)]
def cX2_isDigit_16 : oh_C := [(.iconst 0, 1, 0, 0, 0, 0, 0)]
def cX2_isDigit_17 : oh_C := [(.ireturn, 1, 1, 0, 0, 0, 0)]
def tX2_isDigit : oh_T := [(0, none, cX2_isDigit_0), (16, none, cX2_isDigit_16), (17, none, cX2_isDigit_17)]
def cX2_isSignOf_0 : oh_C := [(.iload_n 0, 1, 0, 0, 0, 0, 0), (.tableswitch 125 0 4 #[35, 47, 59, 83, 101], 35, 0, 0, 0, 0, 0)]
def cX2_isSignOf_36 : oh_C := [(.iload_n 1, 1, 1, 0, 0, 0, 0), (.bipush 124, 2, 124, 0, 0, 0, 0), (.if_icmp .ne 7, 3, 46, 0, 0, 0, 0), (.iconst 1, 1, 1, 0, 0, 0, 0), (.goto 4, 3, 47, 0, 0, 0, 0)]
def cX2_isSignOf_46 : oh_C := [(.iconst 0, 1, 0, 0, 0, 0, 0)]
def cX2_isSignOf_47 : oh_C := [(.ireturn, 1, 1, 0, 0, 0, 0)]
def cX2_isSignOf_48 : oh_C := [(.iload_n 1, 1, 1, 0, 0, 0, 0), (.bipush 38, 2, 38, 0, 0, 0, 0), (.if_icmp .ne 7, 3, 58, 0, 0, 0, 0), (.iconst 1, 1, 1, 0, 0, 0, 0), (.goto 4, 3, 59, 0, 0, 0, 0)]
def cX2_isSignOf_58 : oh_C := [(.iconst 0, 1, 0, 0, 0, 0, 0)]
def cX2_isSignOf_59 : oh_C := [(.ireturn, 1, 1, 0, 0, 0, 0)]
def cX2_isSignOf_60 : oh_C := [(.iload_n 1, 1, 1, 0, 0, 0, 0), (.bipush 60, 2, 60, 0, 0, 0, 0), (.if_icmp .eq 15, 3, 78, 0, 0, 0, 0), (.iload_n 1, 1, 1, 0, 0, 0, 0), (.bipush 61, 2, 61, 0, 0, 0, 0), (.if_icmp .eq 9, 3, 78, 0, 0, 0, 0), (.iload_n 1, 1, 1, 0, 0, 0, 0), (.bipush 62, 2, 62, 0, 0, 0, 0), (.if_icmp .ne 7, 3, 82, 0, 0, 0, 0)]
def cX2_isSignOf_78 : oh_C := [(.iconst 1, 1, 1, 0, 0, 0, 0), (.goto 4, 3, 83, 0, 0, 0, 0)]
def cX2_isSignOf_82 : oh_C := [(.iconst 0, 1, 0, 0, 0, 0, 0)]
def cX2_isSignOf_83 : oh_C := [(.ireturn, 1, 1, 0, 0, 0, 0)]
def cX2_isSignOf_84 : oh_C := [(.iload_n 1, 1, 1, 0, 0, 0, 0), (.bipush 43, 2, 43, 0, 0, 0, 0), (.if_icmp .eq 9, 3, 96, 0, 0, 0, 0), (.iload_n 1, 1, 1, 0, 0, 0, 0), (.bipush 45, 2, 45, 0, 0, 0, 0), (.if_icmp .ne 7, 3, 100, 0, 0, 0, 0)]
def cX2_isSignOf_96 : oh_C := [(.iconst 1, 1, 1, 0, 0, 0, 0), (.goto 4, 3, 101, 0, 0, 0, 0)]
def cX2_isSignOf_100 : oh_C := [(.iconst 0, 1, 0, 0, 0, 0, 0)]
def cX2_isSignOf_101 : oh_C := [(.ireturn, 1, 1, 0, 0, 0, 0)]
def cX2_isSignOf_102 : oh_C := [(.iload_n 1, 1, 1, 0, 0, 0, 0), (.bipush 42, 2, 42, 0, 0, 0, 0), (.if_icmp .eq 15, 3, 120, 0, 0, 0, 0), (.iload_n 1, 1, 1, 0, 0, 0, 0), (.bipush 47, 2, 47, 0, 0, 0, 0), (.if_icmp .eq 9, 3, 120, 0, 0, 0, 0), (.iload_n 1, 1, 1, 0, 0, 0, 0), (.bipush 37, 2, 37, 0, 0, 0, 0), (.if_icmp .ne 7, 3, 124, 0, 0, 0, 0)]
def cX2_isSignOf_120 : oh_C := [(.iconst 1, 1, 1, 0, 0, 0, 0), (.goto 4, 3, 125, 0, 0, 0, 0)]
def cX2_isSignOf_124 : oh_C := [(.iconst 0, 1, 0, 0, 0, 0, 0)]
def cX2_isSignOf_125 : oh_C := [(.ireturn, 1, 1, 0, 0, 0, 0)]
def cX2_isSignOf_126 : oh_C := [(.iconst 0, 1, 0, 0, 0, 0, 0), (.ireturn, 1, 1, 0, 0, 0, 0)]
def tX2_isSignOf : oh_T := [(0, none, cX2_isSignOf_0), (36, none, cX2_isSignOf_36), (46, none, cX2_isSignOf_46), (47, none, cX2_isSignOf_47), (48, none, cX2_isSignOf_48), (58, none, cX2_isSignOf_58), (59, none, cX2_isSignOf_59), (60, none, cX2_isSignOf_60), (78, none, cX2_isSignOf_78), (82, none, cX2_isSignOf_82), (83, none, cX2_isSignOf_83), (84, none, cX2_isSignOf_84), (96, none, cX2_isSignOf_96), (100, none, cX2_isSignOf_100), (101, none, cX2_isSignOf_101), (102, none, cX2_isSignOf_102), (120, none, cX2_isSignOf_120), (124, none, cX2_isSignOf_124), (125, none, cX2_isSignOf_125), (126, none, cX2_isSignOf_126)]
def cX3_add_0 : oh_C := [(.aload_n 0, 1, 0, 0, 0, 0, 0), (.getfield 19, 3, 3, 1, 0, 0, 200), (.aload_n 0, 1, 0, 0, 0, 0, 0), (.getfield 13, 3, 3, 0, 0, 0, 199), (.arraylength, 1, 0, 0, 0, 0, 0), (.if_icmp .ge 23, 3, 32, 0, 0, 0, 0), (.aload_n 0, 1, 0, 0, 0, 0, 0), (.getfield 13, 3, 3, 0, 0, 0, 199), (.aload_n 0, 1, 0, 0, 0, 0, 0), (.getfield 19, 3, 3, 1, 0, 0, 200), (.iload_n 1, 1, 1, 0, 0, 0, 0), (.iastore, 1, 0, 0, 0, 0, 0), (.aload_n 0, 1, 0, 0, 0, 0, 0), (.dup, 1, 0, 0, 0, 0, 0), (.getfield 19, 3, 3, 1, 0, 0, 200), (.iconst 1, 1, 1, 0, 0, 0, 0), (.iadd, 1, 0, 0, 0, 0, 0), (.putfield 19, 3, 3, 1, 0, 0, 200)]
def cX3_add_32 : oh_C := [(.return_, 1, 0, 0, 0, 0, 0)]
def tX3_add : oh_T := [(0, none, cX3_add_0), (32, none, cX3_add_32)]
def cX3_get_0 : oh_C := [(.iload_n 1, 1, 1, 0, 0, 0, 0), (.ifCond .lt 29, 3, 30, 0, 0, 0, 0), (.iload_n 1, 1, 1, 0, 0, 0, 0), (.aload_n 0, 1, 0, 0, 0, 0, 0), (.getfield 19, 3, 3, 1, 0, 0, 200), (.if_icmp .ge 21, 3, 30, 0, 0, 0, 0), (.iload_n 1, 1, 1, 0, 0, 0, 0), (.aload_n 0, 1, 0, 0, 0, 0, 0), (.getfield 13, 3, 3, 0, 0, 0, 199), (.arraylength, 1, 0, 0, 0, 0, 0), (.if_icmp .ge 12, 3, 30, 0, 0, 0, 0), (.aload_n 0, 1, 0, 0, 0, 0, 0), (.getfield 13, 3, 3, 0, 0, 0, 199), (.iload_n 1, 1, 1, 0, 0, 0, 0), (.iaload, 1, 0, 0, 0, 0, 0), (.goto 4, 3, 31, 0, 0, 0, 0)]
def cX3_get_30 : oh_C := [(.iconst 0, 1, 0, 0, 0, 0, 0)]
def cX3_get_31 : oh_C := [(.ireturn, 1, 0, 0, 0, 0, 0)]
def tX3_get : oh_T := [(0, none, cX3_get_0), (30, none, cX3_get_30), (31, none, cX3_get_31)]
def cX3_clear_0 : oh_C := [(.aload_n 0, 1, 0, 0, 0, 0, 0), (.iconst 0, 1, 0, 0, 0, 0, 0), (.putfield 19, 3, 3, 1, 0, 0, 200), (.return_, 1, 0, 0, 0, 0, 0)]
def tX3_clear : oh_T := [(0, none, cX3_clear_0)]
def cX3_take_0 : oh_C := [(.aload_n 0, 1, 0, 0, 0, 0, 0), (.invokevirtual 23, 3, 18, 1, 0, 3, 427), (.iconst 0, 1, 0, 0, 0, 0, 0), (.istore_n 2, 1, 2, 0, 0, 0, 0)]
def cX3_take_6 : oh_C := [(.iload_n 2, 1, 2, 0, 0, 0, 0), (.aload_n 1, 1, 1, 0, 0, 0, 0), (.getfield 19, 3, 3, 1, 0, 0, 200), (.if_icmp .ge 18, 3, 29, 0, 0, 0, 0), (.aload_n 0, 1, 0, 0, 0, 0, 0), (.aload_n 1, 1, 1, 0, 0, 0, 0), (.iload_n 2, 1, 2, 0, 0, 0, 0), (.invokevirtual 26, 3, 17, 2, 1, 3, 431), (.invokevirtual 30, 3, 16, 2, 0, 3, 435), (.iinc 2 1, 3, 2, 1, 0, 0, 0), (.goto (-20), 3, 6, 0, 0, 0, 0)]
def cX3_take_29 : oh_C := [(.return_, 1, 0, 0, 0, 0, 0)]
def tX3_take : oh_T := [(0, none, cX3_take_0), (6, some [true, true, true], cX3_take_6), (29, none, cX3_take_29)]
def cX4_take_0 : oh_C := [(.aload_n 0, 1, 0, 0, 0, 0, 0), (.aload_n 1, 1, 1, 0, 0, 0, 0), (.getfield 28, 3, 4, 0, 0, 0, 135), (.putfield 28, 3, 4, 0, 0, 0, 135), (.iconst 0, 1, 0, 0, 0, 0, 0), (.istore_n 2, 1, 2, 0, 0, 0, 0)]
def cX4_take_10 : oh_C := [(.iload_n 2, 1, 2, 0, 0, 0, 0), (.bipush 6, 2, 6, 0, 0, 0, 0), (.if_icmp .ge 57, 3, 70, 0, 0, 0, 0), (.aload_n 0, 1, 0, 0, 0, 0, 0), (.getfield 9, 3, 4, 1, 0, 0, 138), (.iload_n 2, 1, 2, 0, 0, 0, 0), (.aload_n 1, 1, 1, 0, 0, 0, 0), (.getfield 9, 3, 4, 1, 0, 0, 138), (.iload_n 2, 1, 2, 0, 0, 0, 0), (.iaload, 1, 0, 0, 0, 0, 0), (.iastore, 1, 0, 0, 0, 0, 0), (.aload_n 0, 1, 0, 0, 0, 0, 0), (.getfield 15, 3, 4, 2, 0, 0, 141), (.iload_n 2, 1, 2, 0, 0, 0, 0), (.aload_n 1, 1, 1, 0, 0, 0, 0), (.getfield 15, 3, 4, 2, 0, 0, 141), (.iload_n 2, 1, 2, 0, 0, 0, 0), (.iaload, 1, 0, 0, 0, 0, 0), (.iastore, 1, 0, 0, 0, 0, 0), (.aload_n 0, 1, 0, 0, 0, 0, 0), (.getfield 18, 3, 4, 3, 0, 0, 144), (.iload_n 2, 1, 2, 0, 0, 0, 0), (.aload_n 1, 1, 1, 0, 0, 0, 0), (.getfield 18, 3, 4, 3, 0, 0, 144), (.iload_n 2, 1, 2, 0, 0, 0, 0), (.iaload, 1, 0, 0, 0, 0, 0), (.iastore, 1, 0, 0, 0, 0, 0), (.aload_n 0, 1, 0, 0, 0, 0, 0), (.getfield 21, 3, 4, 4, 0, 0, 146), (.iload_n 2, 1, 2, 0, 0, 0, 0), (.aload_n 1, 1, 1, 0, 0, 0, 0), (.getfield 21, 3, 4, 4, 0, 0, 146), (.iload_n 2, 1, 2, 0, 0, 0, 0), (.iaload, 1, 0, 0, 0, 0, 0), (.iastore, 1, 0, 0, 0, 0, 0), (.iinc 2 1, 3, 2, 1, 0, 0, 0), (.goto (-57), 3, 10, 0, 0, 0, 0)]
def cX4_take_70 : oh_C := [(.aload_n 0, 1, 0, 0, 0, 0, 0), (.aload_n 1, 1, 1, 0, 0, 0, 0), (.getfield 31, 3, 4, 5, 0, 0, 148), (.putfield 31, 3, 4, 5, 0, 0, 148), (.aload_n 0, 1, 0, 0, 0, 0, 0), (.aload_n 1, 1, 1, 0, 0, 0, 0), (.getfield 24, 3, 4, 6, 0, 0, 150), (.putfield 24, 3, 4, 6, 0, 0, 150), (.aload_n 0, 1, 0, 0, 0, 0, 0), (.aload_n 1, 1, 1, 0, 0, 0, 0), (.getfield 34, 3, 4, 7, 0, 0, 153), (.putfield 34, 3, 4, 7, 0, 0, 153), (.aload_n 0, 1, 0, 0, 0, 0, 0), (.aload_n 1, 1, 1, 0, 0, 0, 0), (.getfield 38, 3, 4, 8, 0, 0, 154), (.putfield 38, 3, 4, 8, 0, 0, 154), (.aload_n 0, 1, 0, 0, 0, 0, 0), (.aload_n 1, 1, 1, 0, 0, 0, 0), (.getfield 42, 3, 4, 9, 0, 0, 156), (.putfield 42, 3, 4, 9, 0, 0, 156), (.aload_n 0, 1, 0, 0, 0, 0, 0), (.aload_n 1, 1, 1, 0, 0, 0, 0), (.getfield 45, 3, 4, 10, 0, 0, 158), (.putfield 45, 3, 4, 10, 0, 0, 158), (.return_, 1, 0, 0, 0, 0, 0)]
def tX4_take : oh_T := [(0, none, cX4_take_0), (10, some [true, true, true], cX4_take_10), (70, none, cX4_take_70)]
def cX4_worldCount_0 : oh_C := [(.iconst 1, 1, 1, 0, 0, 0, 0), (.aload_n 0, 1, 0, 0, 0, 0, 0), (.getfield 28, 3, 4, 0, 0, 0, 135), (.ishl, 1, 0, 0, 0, 0, 0), (.ireturn, 1, 0, 0, 0, 0, 0)]
def tX4_worldCount : oh_T := [(0, none, cX4_worldCount_0)]
def cX4_addMan_0 : oh_C := [(.aload_n 0, 1, 0, 0, 0, 0, 0), (.getfield 28, 3, 4, 0, 0, 0, 135), (.iconst 5, 1, 5, 0, 0, 0, 0), (.invokestatic 48, 3, 201, 2, 1, 0, 360), (.istore_n 2, 1, 2, 0, 0, 0, 0), (.iconst 0, 1, 0, 0, 0, 0, 0), (.istore_n 3, 1, 3, 0, 0, 0, 0)]
def cX4_addMan_11 : oh_C := [(.iload_n 3, 1, 3, 0, 0, 0, 0), (.iload_n 2, 1, 2, 0, 0, 0, 0), (.if_icmp .ge 21, 3, 34, 0, 0, 0, 0), (.aload_n 0, 1, 0, 0, 0, 0, 0), (.getfield 18, 3, 4, 3, 0, 0, 144), (.iload_n 3, 1, 3, 0, 0, 0, 0), (.dup2, 1, 0, 0, 0, 0, 0), (.iaload, 1, 0, 0, 0, 0, 0), (.iconst 1, 1, 1, 0, 0, 0, 0), (.iload_n 2, 1, 2, 0, 0, 0, 0), (.ishl, 1, 0, 0, 0, 0, 0), (.ior, 1, 0, 0, 0, 0, 0), (.iastore, 1, 0, 0, 0, 0, 0), (.iinc 3 1, 3, 3, 1, 0, 0, 0), (.goto (-20), 3, 11, 0, 0, 0, 0)]
def cX4_addMan_34 : oh_C := [(.aload_n 0, 1, 0, 0, 0, 0, 0), (.getfield 9, 3, 4, 1, 0, 0, 138), (.iload_n 2, 1, 2, 0, 0, 0, 0), (.iload_n 1, 1, 1, 0, 0, 0, 0), (.bipush 10, 2, 10, 0, 0, 0, 0), (.idiv, 1, 0, 0, 0, 0, 0), (.iastore, 1, 0, 0, 0, 0, 0), (.aload_n 0, 1, 0, 0, 0, 0, 0), (.getfield 15, 3, 4, 2, 0, 0, 141), (.iload_n 2, 1, 2, 0, 0, 0, 0), (.iload_n 1, 1, 1, 0, 0, 0, 0), (.bipush 10, 2, 10, 0, 0, 0, 0), (.irem, 1, 0, 0, 0, 0, 0), (.iastore, 1, 0, 0, 0, 0, 0), (.aload_n 0, 1, 0, 0, 0, 0, 0), (.getfield 18, 3, 4, 3, 0, 0, 144), (.iload_n 2, 1, 2, 0, 0, 0, 0), (.iconst 1, 1, 1, 0, 0, 0, 0), (.iload_n 2, 1, 2, 0, 0, 0, 0), (.ishl, 1, 0, 0, 0, 0, 0), (.iconst 1, 1, 1, 0, 0, 0, 0), (.isub, 1, 0, 0, 0, 0, 0), (.iastore, 1, 0, 0, 0, 0, 0), (.aload_n 0, 1, 0, 0, 0, 0, 0), (.iload_n 2, 1, 2, 0, 0, 0, 0), (.iconst 1, 1, 1, 0, 0, 0, 0), (.iadd, 1, 0, 0, 0, 0, 0), (.putfield 28, 3, 4, 0, 0, 0, 135), (.iload_n 2, 1, 2, 0, 0, 0, 0), (.ireturn, 1, 0, 0, 0, 0, 0)]
def tX4_addMan : oh_T := [(0, none, cX4_addMan_0), (11, some [true, true, true, true], cX4_addMan_11), (34, none, cX4_addMan_34)]
def cX4_givenBy_0 : oh_C := [(.lconst 0, 1, 0, 0, 0, 0, 0), (.lstore_n 2, 1, 2, 0, 0, 0, 0), (.iconst 0, 1, 0, 0, 0, 0, 0), (.istore 4, 2, 4, 0, 0, 0, 0)]
def cX4_givenBy_5 : oh_C := [(.iload 4, 2, 4, 0, 0, 0, 0), (.aload_n 0, 1, 0, 0, 0, 0, 0), (.invokevirtual 54, 3, 21, 1, 1, 4, 591), (.if_icmp .ge 66, 3, 77, 0, 0, 0, 0), (.iload 4, 2, 4, 0, 0, 0, 0), (.iconst 1, 1, 1, 0, 0, 0, 0), (.iand, 1, 0, 0, 0, 0, 0), (.istore 5, 2, 5, 0, 0, 0, 0), (.aload_n 0, 1, 0, 0, 0, 0, 0), (.getfield 28, 3, 4, 0, 0, 0, 135), (.ifCond .ne 7, 3, 31, 0, 0, 0, 0), (.iconst 0, 1, 0, 0, 0, 0, 0), (.goto 14, 3, 42, 0, 0, 0, 0)]
def cX4_givenBy_31 : oh_C := [(.iload 4, 2, 4, 0, 0, 0, 0), (.aload_n 0, 1, 0, 0, 0, 0, 0), (.getfield 28, 3, 4, 0, 0, 0, 135), (.iconst 1, 1, 1, 0, 0, 0, 0), (.isub, 1, 0, 0, 0, 0, 0), (.invokestatic 58, 3, 97, 2, 1, 0, 592)]
def cX4_givenBy_42 : oh_C := [(.istore 6, 2, 6, 0, 0, 0, 0), (.aload_n 1, 1, 1, 0, 0, 0, 0), (.iload 4, 2, 4, 0, 0, 0, 0), (.invokestatic 61, 3, 198, 1, 1, 0, 593), (.aload_n 0, 1, 0, 0, 0, 0, 0), (.getfield 28, 3, 4, 0, 0, 0, 135), (.iload 5, 2, 5, 0, 0, 0, 0), (.iload 6, 2, 6, 0, 0, 0, 0), (.invokevirtual 67, 3, 3, 5, 1, 1, 599), (.ifCond .eq 10, 3, 71, 0, 0, 0, 0), (.lload_n 2, 1, 2, 0, 0, 0, 0), (.lconst 1, 1, 1, 0, 0, 0, 0), (.iload 4, 2, 4, 0, 0, 0, 0), (.lshl, 1, 0, 0, 0, 0, 0), (.lor, 1, 0, 0, 0, 0, 0), (.lstore_n 2, 1, 2, 0, 0, 0, 0)]
def cX4_givenBy_71 : oh_C := [(.iinc 4 1, 3, 4, 1, 0, 0, 0), (.goto (-69), 3, 5, 0, 0, 0, 0)]
def cX4_givenBy_77 : oh_C := [(.lload_n 2, 1, 2, 0, 0, 0, 0), (.lreturn, 1, 0, 0, 0, 0, 0)]
def tX4_givenBy : oh_T := [(0, none, cX4_givenBy_0), (5, some [true, true, true, false, true, false, false], cX4_givenBy_5), (31, none, cX4_givenBy_31), (42, none, cX4_givenBy_42), (71, none, cX4_givenBy_71), (77, none, cX4_givenBy_77)]
def cX4_thought_0 : oh_C := [(.iload_n 1, 1, 1, 0, 0, 0, 0), (.ifCond .lt 9, 3, 10, 0, 0, 0, 0), (.iload_n 1, 1, 1, 0, 0, 0, 0), (.bipush 6, 2, 6, 0, 0, 0, 0), (.if_icmp .lt 5, 3, 12, 0, 0, 0, 0)]
def cX4_thought_10 : oh_C := [(.lconst 0, 1, 0, 0, 0, 0, 0), (.lreturn, 1, 0, 0, 0, 0, 0)]
def cX4_thought_12 : oh_C := [(.aload_n 0, 1, 0, 0, 0, 0, 0), (.getfield 38, 3, 4, 8, 0, 0, 154), (.aload_n 0, 1, 0, 0, 0, 0, 0), (.getfield 18, 3, 4, 3, 0, 0, 144), (.iload_n 1, 1, 1, 0, 0, 0, 0), (.iaload, 1, 0, 0, 0, 0, 0), (.invokestatic 73, 3, 104, 1, 2, 0, 634), (.iload_n 2, 1, 2, 0, 0, 0, 0), (.aload_n 0, 1, 0, 0, 0, 0, 0), (.getfield 18, 3, 4, 3, 0, 0, 144), (.iload_n 1, 1, 1, 0, 0, 0, 0), (.iaload, 1, 0, 0, 0, 0, 0), (.iand, 1, 0, 0, 0, 0, 0), (.lshl, 1, 0, 0, 0, 0, 0), (.land, 1, 0, 0, 0, 0, 0), (.lreturn, 1, 0, 0, 0, 0, 0)]
def tX4_thought : oh_T := [(0, none, cX4_thought_0), (10, none, cX4_thought_10), (12, none, cX4_thought_12)]
def cX4_hasSpoken_0 : oh_C := [(.aload_n 0, 1, 0, 0, 0, 0, 0), (.getfield 42, 3, 4, 9, 0, 0, 156), (.iload_n 1, 1, 1, 0, 0, 0, 0), (.invokestatic 58, 3, 97, 2, 1, 0, 592), (.iconst 1, 1, 1, 0, 0, 0, 0), (.if_icmp .ne 7, 3, 16, 0, 0, 0, 0), (.iconst 1, 1, 1, 0, 0, 0, 0), (.goto 4, 3, 17, 0, 0, 0, 0)]
def cX4_hasSpoken_16 : oh_C := [(.iconst 0, 1, 0, 0, 0, 0, 0)]
def cX4_hasSpoken_17 : oh_C := [(.ireturn, 1, 1, 0, 0, 0, 0)]
def tX4_hasSpoken : oh_T := [(0, none, cX4_hasSpoken_0), (16, none, cX4_hasSpoken_16), (17, none, cX4_hasSpoken_17)]
def cX4_speaks_0 : oh_C := [(.iload_n 1, 1, 1, 0, 0, 0, 0), (.ifCond .lt 17, 3, 18, 0, 0, 0, 0), (.iload_n 1, 1, 1, 0, 0, 0, 0), (.bipush 6, 2, 6, 0, 0, 0, 0), (.if_icmp .ge 11, 3, 18, 0, 0, 0, 0), (.aload_n 0, 1, 0, 0, 0, 0, 0), (.iload_n 1, 1, 1, 0, 0, 0, 0), (.invokevirtual 77, 3, 25, 2, 1, 4, 644), (.ifCond .eq 5, 3, 20, 0, 0, 0, 0)]
def cX4_speaks_18 : oh_C := [(.iconst 0, 1, 0, 0, 0, 0, 0), (.ireturn, 1, 1, 0, 0, 0, 0)]
def cX4_speaks_20 : oh_C := [(.aload_n 0, 1, 0, 0, 0, 0, 0), (.getfield 15, 3, 4, 2, 0, 0, 141), (.iload_n 1, 1, 1, 0, 0, 0, 0), (.iaload, 1, 0, 0, 0, 0, 0), (.istore 4, 2, 4, 0, 0, 0, 0), (.aload_n 0, 1, 0, 0, 0, 0, 0), (.getfield 9, 3, 4, 1, 0, 0, 138), (.iload_n 1, 1, 1, 0, 0, 0, 0), (.iaload, 1, 0, 0, 0, 0, 0), (.tableswitch 142 1 6 #[38, 45, 68, 70, 94, 133], 38, 0, 0, 0, 0, 0)]
def cX4_speaks_72 : oh_C := [(.aload_n 0, 1, 0, 0, 0, 0, 0), (.iload_n 1, 1, 1, 0, 0, 0, 0), (.lload_n 2, 1, 2, 0, 0, 0, 0), (.invokevirtual 81, 3, 27, 3, 1, 4, 648), (.ireturn, 1, 1, 0, 0, 0, 0)]
def cX4_speaks_79 : oh_C := [(.aload_n 0, 1, 0, 0, 0, 0, 0), (.getfield 45, 3, 4, 10, 0, 0, 158), (.iload 4, 2, 4, 0, 0, 0, 0), (.if_icmp .lt 15, 3, 100, 0, 0, 0, 0), (.iload_n 1, 1, 1, 0, 0, 0, 0), (.lload_n 2, 1, 2, 0, 0, 0, 0), (.invokestatic 85, 3, 102, 2, 1, 0, 658), (.ifCond .eq 7, 3, 100, 0, 0, 0, 0), (.iconst 1, 1, 1, 0, 0, 0, 0), (.goto 4, 3, 101, 0, 0, 0, 0)]
def cX4_speaks_100 : oh_C := [(.iconst 0, 1, 0, 0, 0, 0, 0)]
def cX4_speaks_101 : oh_C := [(.ireturn, 1, 1, 0, 0, 0, 0)]
def cX4_speaks_102 : oh_C := [(.iconst 0, 1, 0, 0, 0, 0, 0), (.ireturn, 1, 1, 0, 0, 0, 0)]
def cX4_speaks_104 : oh_C := [(.aload_n 0, 1, 0, 0, 0, 0, 0), (.getfield 45, 3, 4, 10, 0, 0, 158), (.iload 4, 2, 4, 0, 0, 0, 0), (.if_icmp .ge 12, 3, 122, 0, 0, 0, 0), (.aload_n 0, 1, 0, 0, 0, 0, 0), (.iload_n 1, 1, 1, 0, 0, 0, 0), (.lload_n 2, 1, 2, 0, 0, 0, 0), (.invokevirtual 81, 3, 27, 3, 1, 4, 648), (.ifCond .eq 7, 3, 126, 0, 0, 0, 0)]
def cX4_speaks_122 : oh_C := [(.iconst 1, 1, 1, 0, 0, 0, 0), (.goto 4, 3, 127, 0, 0, 0, 0)]
def cX4_speaks_126 : oh_C := [(.iconst 0, 1, 0, 0, 0, 0, 0)]
def cX4_speaks_127 : oh_C := [(.ireturn, 1, 1, 0, 0, 0, 0)]
def cX4_speaks_128 : oh_C := [(.aload_n 0, 1, 0, 0, 0, 0, 0), (.getfield 45, 3, 4, 10, 0, 0, 158), (.iload 4, 2, 4, 0, 0, 0, 0), (.if_icmp .lt 31, 3, 165, 0, 0, 0, 0), (.aload_n 0, 1, 0, 0, 0, 0, 0), (.getfield 18, 3, 4, 3, 0, 0, 144), (.iload_n 1, 1, 1, 0, 0, 0, 0), (.iaload, 1, 0, 0, 0, 0, 0), (.aload_n 0, 1, 0, 0, 0, 0, 0), (.getfield 42, 3, 4, 9, 0, 0, 156), (.iconst (-1), 1, 1, 1, 0, 0, 0), (.ixor, 1, 0, 0, 0, 0, 0), (.iand, 1, 0, 0, 0, 0, 0), (.ifCond .ne 15, 3, 165, 0, 0, 0, 0), (.iload_n 1, 1, 1, 0, 0, 0, 0), (.lload_n 2, 1, 2, 0, 0, 0, 0), (.invokestatic 85, 3, 102, 2, 1, 0, 658), (.ifCond .eq 7, 3, 165, 0, 0, 0, 0), (.iconst 1, 1, 1, 0, 0, 0, 0), (.goto 4, 3, 166, 0, 0, 0, 0)]
def cX4_speaks_165 : oh_C := [(.iconst 0, 1, 0, 0, 0, 0, 0)]
def cX4_speaks_166 : oh_C := [(.ireturn, 1, 1, 0, 0, 0, 0)]
def cX4_speaks_167 : oh_C := [(.iload_n 1, 1, 1, 0, 0, 0, 0), (.aload_n 0, 1, 0, 0, 0, 0, 0), (.getfield 38, 3, 4, 8, 0, 0, 154), (.invokestatic 85, 3, 102, 2, 1, 0, 658), (.ireturn, 1, 1, 0, 0, 0, 0)]
def cX4_speaks_176 : oh_C := [(.iload_n 1, 1, 1, 0, 0, 0, 0), (.lload_n 2, 1, 2, 0, 0, 0, 0), (.invokestatic 85, 3, 102, 2, 1, 0, 658), (.ireturn, 1, 1, 0, 0, 0, 0)]
def tX4_speaks : oh_T := [(0, none, cX4_speaks_0), (18, none, cX4_speaks_18), (20, none, cX4_speaks_20), (72, none, cX4_speaks_72), (79, none, cX4_speaks_79), (100, none, cX4_speaks_100), (101, none, cX4_speaks_101), (102, none, cX4_speaks_102), (104, none, cX4_speaks_104), (122, none, cX4_speaks_122), (126, none, cX4_speaks_126), (127, none, cX4_speaks_127), (128, none, cX4_speaks_128), (165, none, cX4_speaks_165), (166, none, cX4_speaks_166), (167, none, cX4_speaks_167), (176, none, cX4_speaks_176)]
def cX4_isSure_0 : oh_C := [(.iload_n 1, 1, 1, 0, 0, 0, 0), (.lload_n 2, 1, 2, 0, 0, 0, 0), (.invokestatic 88, 3, 100, 2, 1, 0, 652), (.istore 4, 2, 4, 0, 0, 0, 0), (.iload_n 1, 1, 1, 0, 0, 0, 0), (.lload_n 2, 1, 2, 0, 0, 0, 0), (.invokestatic 92, 3, 101, 2, 1, 0, 655), (.istore 5, 2, 5, 0, 0, 0, 0), (.iload_n 1, 1, 1, 0, 0, 0, 0), (.ifCond .lt 9, 3, 24, 0, 0, 0, 0), (.iload_n 1, 1, 1, 0, 0, 0, 0), (.bipush 6, 2, 6, 0, 0, 0, 0), (.if_icmp .lt 7, 3, 28, 0, 0, 0, 0)]
def cX4_isSure_24 : oh_C := [(.iconst 0, 1, 0, 0, 0, 0, 0), (.goto 9, 3, 34, 0, 0, 0, 0)]
def cX4_isSure_28 : oh_C := [(.aload_n 0, 1, 0, 0, 0, 0, 0), (.getfield 15, 3, 4, 2, 0, 0, 141), (.iload_n 1, 1, 1, 0, 0, 0, 0), (.iaload, 1, 0, 0, 0, 0, 0)]
def cX4_isSure_34 : oh_C := [(.istore 6, 2, 6, 0, 0, 0, 0), (.iload 4, 2, 4, 0, 0, 0, 0), (.ifCond .eq 28, 3, 66, 0, 0, 0, 0), (.iload 5, 2, 5, 0, 0, 0, 0), (.ifCond .eq 23, 3, 66, 0, 0, 0, 0), (.iload 4, 2, 4, 0, 0, 0, 0), (.iload 6, 2, 6, 0, 0, 0, 0), (.iload 5, 2, 5, 0, 0, 0, 0), (.imul, 1, 0, 0, 0, 0, 0), (.if_icmp .gt 13, 3, 66, 0, 0, 0, 0), (.iload 5, 2, 5, 0, 0, 0, 0), (.iload 6, 2, 6, 0, 0, 0, 0), (.iload 4, 2, 4, 0, 0, 0, 0), (.imul, 1, 0, 0, 0, 0, 0), (.if_icmp .le 7, 3, 70, 0, 0, 0, 0)]
def cX4_isSure_66 : oh_C := [(.iconst 1, 1, 1, 0, 0, 0, 0), (.goto 4, 3, 71, 0, 0, 0, 0)]
def cX4_isSure_70 : oh_C := [(.iconst 0, 1, 0, 0, 0, 0, 0)]
def cX4_isSure_71 : oh_C := [(.ireturn, 1, 1, 0, 0, 0, 0)]
def tX4_isSure : oh_T := [(0, none, cX4_isSure_0), (24, none, cX4_isSure_24), (28, none, cX4_isSure_28), (34, none, cX4_isSure_34), (66, none, cX4_isSure_66), (70, none, cX4_isSure_70), (71, none, cX4_isSure_71)]
def cX4_speakers_0 : oh_C := [(.iconst 0, 1, 0, 0, 0, 0, 0), (.istore_n 1, 1, 1, 0, 0, 0, 0), (.iconst 0, 1, 0, 0, 0, 0, 0), (.istore_n 2, 1, 2, 0, 0, 0, 0)]
def cX4_speakers_4 : oh_C := [(.iload_n 2, 1, 2, 0, 0, 0, 0), (.aload_n 0, 1, 0, 0, 0, 0, 0), (.getfield 28, 3, 4, 0, 0, 0, 135), (.if_icmp .ge 32, 3, 41, 0, 0, 0, 0), (.aload_n 0, 1, 0, 0, 0, 0, 0), (.iload_n 2, 1, 2, 0, 0, 0, 0), (.aload_n 0, 1, 0, 0, 0, 0, 0), (.iload_n 2, 1, 2, 0, 0, 0, 0), (.aload_n 0, 1, 0, 0, 0, 0, 0), (.getfield 31, 3, 4, 5, 0, 0, 148), (.invokevirtual 95, 3, 24, 3, 2, 4, 630), (.invokevirtual 99, 3, 26, 3, 1, 4, 640), (.ifCond .eq 9, 3, 35, 0, 0, 0, 0), (.iload_n 1, 1, 1, 0, 0, 0, 0), (.iconst 1, 1, 1, 0, 0, 0, 0), (.iload_n 2, 1, 2, 0, 0, 0, 0), (.ishl, 1, 0, 0, 0, 0, 0), (.ior, 1, 0, 0, 0, 0, 0), (.istore_n 1, 1, 1, 0, 0, 0, 0)]
def cX4_speakers_35 : oh_C := [(.iinc 2 1, 3, 2, 1, 0, 0, 0), (.goto (-34), 3, 4, 0, 0, 0, 0)]
def cX4_speakers_41 : oh_C := [(.iload_n 1, 1, 1, 0, 0, 0, 0), (.ireturn, 1, 0, 0, 0, 0, 0)]
def tX4_speakers : oh_T := [(0, none, cX4_speakers_0), (4, some [true, true, true], cX4_speakers_4), (35, none, cX4_speakers_35), (41, none, cX4_speakers_41)]
def cX4_sayings_0 : oh_C := [(.iconst 0, 1, 0, 0, 0, 0, 0), (.istore_n 2, 1, 2, 0, 0, 0, 0), (.iconst 0, 1, 0, 0, 0, 0, 0), (.istore_n 3, 1, 3, 0, 0, 0, 0)]
def cX4_sayings_4 : oh_C := [(.iload_n 3, 1, 3, 0, 0, 0, 0), (.aload_n 0, 1, 0, 0, 0, 0, 0), (.getfield 28, 3, 4, 0, 0, 0, 135), (.if_icmp .ge 36, 3, 45, 0, 0, 0, 0), (.iload_n 1, 1, 1, 0, 0, 0, 0), (.iload_n 3, 1, 3, 0, 0, 0, 0), (.invokestatic 58, 3, 97, 2, 1, 0, 592), (.iconst 1, 1, 1, 0, 0, 0, 0), (.if_icmp .ne 21, 3, 39, 0, 0, 0, 0), (.iload_n 2, 1, 2, 0, 0, 0, 0), (.iload_n 3, 1, 3, 0, 0, 0, 0), (.aload_n 0, 1, 0, 0, 0, 0, 0), (.iload_n 3, 1, 3, 0, 0, 0, 0), (.aload_n 0, 1, 0, 0, 0, 0, 0), (.getfield 31, 3, 4, 5, 0, 0, 148), (.invokevirtual 95, 3, 24, 3, 2, 4, 630), (.invokestatic 102, 3, 103, 2, 1, 0, 665), (.iload_n 3, 1, 3, 0, 0, 0, 0), (.ishl, 1, 0, 0, 0, 0, 0), (.ior, 1, 0, 0, 0, 0, 0), (.istore_n 2, 1, 2, 0, 0, 0, 0)]
def cX4_sayings_39 : oh_C := [(.iinc 3 1, 3, 3, 1, 0, 0, 0), (.goto (-38), 3, 4, 0, 0, 0, 0)]
def cX4_sayings_45 : oh_C := [(.iload_n 2, 1, 2, 0, 0, 0, 0), (.ireturn, 1, 0, 0, 0, 0, 0)]
def tX4_sayings : oh_T := [(0, none, cX4_sayings_0), (4, some [true, true, true, true], cX4_sayings_4), (39, none, cX4_sayings_39), (45, none, cX4_sayings_45)]
def cX4_ring_0 : oh_C := [(.aload_n 0, 1, 0, 0, 0, 0, 0), (.invokevirtual 105, 3, 28, 1, 1, 4, 626), (.istore_n 2, 1, 2, 0, 0, 0, 0), (.aload_n 0, 1, 0, 0, 0, 0, 0), (.iload_n 2, 1, 2, 0, 0, 0, 0), (.aload_n 0, 1, 0, 0, 0, 0, 0), (.iload_n 2, 1, 2, 0, 0, 0, 0), (.invokevirtual 108, 3, 29, 2, 1, 4, 661), (.aload_n 1, 1, 1, 0, 0, 0, 0), (.invokevirtual 111, 3, 31, 4, 1, 4, 670), (.ireturn, 1, 1, 0, 0, 0, 0)]
def tX4_ring : oh_T := [(0, none, cX4_ring_0)]
def cX4_hear_0 : oh_C := [(.aload_n 0, 1, 0, 0, 0, 0, 0), (.getfield 38, 3, 4, 8, 0, 0, 154), (.lstore 4, 2, 4, 0, 0, 0, 0), (.iconst 0, 1, 0, 0, 0, 0, 0), (.istore 6, 2, 6, 0, 0, 0, 0)]
def cX4_hear_9 : oh_C := [(.iload 6, 2, 6, 0, 0, 0, 0), (.aload_n 0, 1, 0, 0, 0, 0, 0), (.getfield 28, 3, 4, 0, 0, 0, 135), (.if_icmp .ge 49, 3, 64, 0, 0, 0, 0), (.aload_n 0, 1, 0, 0, 0, 0, 0), (.iload 6, 2, 6, 0, 0, 0, 0), (.invokevirtual 77, 3, 25, 2, 1, 4, 644), (.ifCond .ne 34, 3, 58, 0, 0, 0, 0), (.aload_n 0, 1, 0, 0, 0, 0, 0), (.iload 6, 2, 6, 0, 0, 0, 0), (.lload 4, 2, 4, 0, 0, 0, 0), (.iload_n 1, 1, 1, 0, 0, 0, 0), (.iload 6, 2, 6, 0, 0, 0, 0), (.invokestatic 58, 3, 97, 2, 1, 0, 592), (.iconst 1, 1, 1, 0, 0, 0, 0), (.if_icmp .ne 7, 3, 46, 0, 0, 0, 0), (.iconst 1, 1, 1, 0, 0, 0, 0), (.goto 4, 3, 47, 0, 0, 0, 0)]
def cX4_hear_46 : oh_C := [(.iconst 0, 1, 0, 0, 0, 0, 0)]
def cX4_hear_47 : oh_C := [(.iload_n 2, 1, 2, 0, 0, 0, 0), (.iload 6, 2, 6, 0, 0, 0, 0), (.invokestatic 58, 3, 97, 2, 1, 0, 592), (.invokevirtual 115, 3, 32, 5, 2, 4, 674), (.lstore 4, 2, 4, 0, 0, 0, 0)]
def cX4_hear_58 : oh_C := [(.iinc 6 1, 3, 6, 1, 0, 0, 0), (.goto (-52), 3, 9, 0, 0, 0, 0)]
def cX4_hear_64 : oh_C := [(.aload_n 0, 1, 0, 0, 0, 0, 0), (.iload_n 1, 1, 1, 0, 0, 0, 0), (.iload_n 2, 1, 2, 0, 0, 0, 0), (.aload_n 3, 1, 3, 0, 0, 0, 0), (.invokevirtual 119, 3, 33, 4, 0, 4, 680), (.iload_n 1, 1, 1, 0, 0, 0, 0), (.ifCond .ne 20, 3, 92, 0, 0, 0, 0), (.lload 4, 2, 4, 0, 0, 0, 0), (.lconst 0, 1, 0, 0, 0, 0, 0), (.lcmp, 1, 0, 0, 0, 0, 0), (.ifCond .eq 17, 3, 96, 0, 0, 0, 0), (.lload 4, 2, 4, 0, 0, 0, 0), (.aload_n 0, 1, 0, 0, 0, 0, 0), (.getfield 38, 3, 4, 8, 0, 0, 154), (.lcmp, 1, 0, 0, 0, 0, 0), (.ifCond .eq 7, 3, 96, 0, 0, 0, 0)]
def cX4_hear_92 : oh_C := [(.iconst 1, 1, 1, 0, 0, 0, 0), (.goto 4, 3, 97, 0, 0, 0, 0)]
def cX4_hear_96 : oh_C := [(.iconst 0, 1, 0, 0, 0, 0, 0)]
def cX4_hear_97 : oh_C := [(.istore 6, 2, 6, 0, 0, 0, 0), (.lload 4, 2, 4, 0, 0, 0, 0), (.lconst 0, 1, 0, 0, 0, 0, 0), (.lcmp, 1, 0, 0, 0, 0, 0), (.ifCond .eq 9, 3, 112, 0, 0, 0, 0), (.aload_n 0, 1, 0, 0, 0, 0, 0), (.lload 4, 2, 4, 0, 0, 0, 0), (.putfield 38, 3, 4, 8, 0, 0, 154)]
def cX4_hear_112 : oh_C := [(.aload_n 0, 1, 0, 0, 0, 0, 0), (.dup, 1, 0, 0, 0, 0, 0), (.getfield 42, 3, 4, 9, 0, 0, 156), (.iload_n 1, 1, 1, 0, 0, 0, 0), (.ior, 1, 0, 0, 0, 0, 0), (.putfield 42, 3, 4, 9, 0, 0, 156), (.aload_n 0, 1, 0, 0, 0, 0, 0), (.dup, 1, 0, 0, 0, 0, 0), (.getfield 45, 3, 4, 10, 0, 0, 158), (.iconst 1, 1, 1, 0, 0, 0, 0), (.iadd, 1, 0, 0, 0, 0, 0), (.putfield 45, 3, 4, 10, 0, 0, 158), (.iload 6, 2, 6, 0, 0, 0, 0), (.ireturn, 1, 1, 0, 0, 0, 0)]
def tX4_hear : oh_T := [(0, none, cX4_hear_0), (9, some [true, true, true, true, true, false, true], cX4_hear_9), (46, none, cX4_hear_46), (47, none, cX4_hear_47), (58, none, cX4_hear_58), (64, none, cX4_hear_64), (92, none, cX4_hear_92), (96, none, cX4_hear_96), (97, none, cX4_hear_97), (112, none, cX4_hear_112)]
def cX4_fitting_0 : oh_C := [(.iload_n 1, 1, 1, 0, 0, 0, 0), (.ifCond .lt 9, 3, 10, 0, 0, 0, 0), (.iload_n 1, 1, 1, 0, 0, 0, 0), (.bipush 6, 2, 6, 0, 0, 0, 0), (.if_icmp .lt 7, 3, 14, 0, 0, 0, 0)]
def cX4_fitting_10 : oh_C := [(.iconst 0, 1, 0, 0, 0, 0, 0), (.goto 9, 3, 20, 0, 0, 0, 0)]
def cX4_fitting_14 : oh_C := [(.aload_n 0, 1, 0, 0, 0, 0, 0), (.getfield 18, 3, 4, 3, 0, 0, 144), (.iload_n 1, 1, 1, 0, 0, 0, 0), (.iaload, 1, 0, 0, 0, 0, 0)]
def cX4_fitting_20 : oh_C := [(.istore 6, 2, 6, 0, 0, 0, 0), (.iload 6, 2, 6, 0, 0, 0, 0), (.invokestatic 73, 3, 104, 1, 2, 0, 634), (.lstore 7, 2, 7, 0, 0, 0, 0), (.lconst 0, 1, 0, 0, 0, 0, 0), (.lstore 9, 2, 9, 0, 0, 0, 0), (.lload_n 2, 1, 2, 0, 0, 0, 0), (.lstore 11, 2, 11, 0, 0, 0, 0), (.iconst 0, 1, 0, 0, 0, 0, 0), (.istore 13, 2, 13, 0, 0, 0, 0)]
def cX4_fitting_38 : oh_C := [(.iload 13, 2, 13, 0, 0, 0, 0), (.aload_n 0, 1, 0, 0, 0, 0, 0), (.invokevirtual 54, 3, 21, 1, 1, 4, 591), (.if_icmp .ge 93, 3, 137, 0, 0, 0, 0), (.lload 11, 2, 11, 0, 0, 0, 0), (.lconst 0, 1, 0, 0, 0, 0, 0), (.lcmp, 1, 0, 0, 0, 0, 0), (.ifCond .eq 86, 3, 137, 0, 0, 0, 0), (.lload 11, 2, 11, 0, 0, 0, 0), (.iload 13, 2, 13, 0, 0, 0, 0), (.invokestatic 123, 3, 99, 2, 1, 0, 678), (.ifCond .eq 70, 3, 131, 0, 0, 0, 0), (.aload_n 0, 1, 0, 0, 0, 0, 0), (.getfield 38, 3, 4, 8, 0, 0, 154), (.lload 7, 2, 7, 0, 0, 0, 0), (.iload 13, 2, 13, 0, 0, 0, 0), (.iload 6, 2, 6, 0, 0, 0, 0), (.iand, 1, 0, 0, 0, 0, 0), (.lshl, 1, 0, 0, 0, 0, 0), (.land, 1, 0, 0, 0, 0, 0), (.lstore 14, 2, 14, 0, 0, 0, 0), (.aload_n 0, 1, 0, 0, 0, 0, 0), (.iload_n 1, 1, 1, 0, 0, 0, 0), (.lload 14, 2, 14, 0, 0, 0, 0), (.invokevirtual 99, 3, 26, 3, 1, 4, 640), (.istore 16, 2, 16, 0, 0, 0, 0), (.iload 16, 2, 16, 0, 0, 0, 0), (.iload 4, 2, 4, 0, 0, 0, 0), (.if_icmp .ne 28, 3, 120, 0, 0, 0, 0), (.iload 4, 2, 4, 0, 0, 0, 0), (.ifCond .eq 14, 3, 111, 0, 0, 0, 0), (.iload_n 1, 1, 1, 0, 0, 0, 0), (.lload 14, 2, 14, 0, 0, 0, 0), (.invokestatic 102, 3, 103, 2, 1, 0, 665), (.iload 5, 2, 5, 0, 0, 0, 0), (.if_icmp .ne 12, 3, 120, 0, 0, 0, 0)]
def cX4_fitting_111 : oh_C := [(.lload 9, 2, 9, 0, 0, 0, 0), (.lload 14, 2, 14, 0, 0, 0, 0), (.lload_n 2, 1, 2, 0, 0, 0, 0), (.land, 1, 0, 0, 0, 0, 0), (.lor, 1, 0, 0, 0, 0, 0), (.lstore 9, 2, 9, 0, 0, 0, 0)]
def cX4_fitting_120 : oh_C := [(.lload 11, 2, 11, 0, 0, 0, 0), (.lload 14, 2, 14, 0, 0, 0, 0), (.ldc2_w 127, 3, 1, 1, 0, 0, 679), (.lxor, 1, 0, 0, 0, 0, 0), (.land, 1, 0, 0, 0, 0, 0), (.lstore 11, 2, 11, 0, 0, 0, 0)]
def cX4_fitting_131 : oh_C := [(.iinc 13 1, 3, 13, 1, 0, 0, 0), (.goto (-96), 3, 38, 0, 0, 0, 0)]
def cX4_fitting_137 : oh_C := [(.lload 9, 2, 9, 0, 0, 0, 0), (.lreturn, 1, 0, 0, 0, 0, 0)]
def tX4_fitting : oh_T := [(0, none, cX4_fitting_0), (10, none, cX4_fitting_10), (14, none, cX4_fitting_14), (20, none, cX4_fitting_20), (38, some [true, true, true, false, true, true, true, true, false, true, false, true, false, true, false, false, false], cX4_fitting_38), (111, none, cX4_fitting_111), (120, none, cX4_fitting_120), (131, none, cX4_fitting_131), (137, none, cX4_fitting_137)]
def cX4_payAll_0 : oh_C := [(.iload_n 1, 1, 1, 0, 0, 0, 0), (.invokestatic 61, 3, 198, 1, 1, 0, 593), (.istore 4, 2, 4, 0, 0, 0, 0), (.iconst 0, 1, 0, 0, 0, 0, 0), (.istore 5, 2, 5, 0, 0, 0, 0)]
def cX4_payAll_9 : oh_C := [(.iload 5, 2, 5, 0, 0, 0, 0), (.aload_n 0, 1, 0, 0, 0, 0, 0), (.getfield 28, 3, 4, 0, 0, 0, 135), (.if_icmp .ge 88, 3, 103, 0, 0, 0, 0), (.iload_n 1, 1, 1, 0, 0, 0, 0), (.iload 5, 2, 5, 0, 0, 0, 0), (.invokestatic 58, 3, 97, 2, 1, 0, 592), (.iconst 1, 1, 1, 0, 0, 0, 0), (.if_icmp .ne 72, 3, 97, 0, 0, 0, 0), (.aload_n 0, 1, 0, 0, 0, 0, 0), (.getfield 31, 3, 4, 5, 0, 0, 148), (.iload 5, 2, 5, 0, 0, 0, 0), (.invokestatic 58, 3, 97, 2, 1, 0, 592), (.istore 6, 2, 6, 0, 0, 0, 0), (.iload_n 2, 1, 2, 0, 0, 0, 0), (.iload 5, 2, 5, 0, 0, 0, 0), (.invokestatic 58, 3, 97, 2, 1, 0, 592), (.iload 6, 2, 6, 0, 0, 0, 0), (.if_icmp .ne 19, 3, 66, 0, 0, 0, 0), (.aload_n 3, 1, 3, 0, 0, 0, 0), (.iload 6, 2, 6, 0, 0, 0, 0), (.aload_n 0, 1, 0, 0, 0, 0, 0), (.getfield 45, 3, 4, 10, 0, 0, 158), (.iload 4, 2, 4, 0, 0, 0, 0), (.iconst 0, 1, 0, 0, 0, 0, 0), (.invokevirtual 67, 3, 3, 5, 1, 1, 599), (.goto 8, 3, 71, 0, 0, 0, 0)]
def cX4_payAll_66 : oh_C := [(.aload_n 0, 1, 0, 0, 0, 0, 0), (.getfield 24, 3, 4, 6, 0, 0, 150), (.ineg, 1, 0, 0, 0, 0, 0)]
def cX4_payAll_71 : oh_C := [(.istore 7, 2, 7, 0, 0, 0, 0), (.aload_n 0, 1, 0, 0, 0, 0, 0), (.getfield 21, 3, 4, 4, 0, 0, 146), (.iload 5, 2, 5, 0, 0, 0, 0), (.aload_n 0, 1, 0, 0, 0, 0, 0), (.getfield 21, 3, 4, 4, 0, 0, 146), (.iload 5, 2, 5, 0, 0, 0, 0), (.iaload, 1, 0, 0, 0, 0, 0), (.iload 7, 2, 7, 0, 0, 0, 0), (.iadd, 1, 0, 0, 0, 0, 0), (.ldc 129, 2, 99999, 0, 0, 1, 684), (.ldc 130, 2, 99999, 0, 0, 0, 685), (.invokestatic 131, 3, 98, 3, 1, 0, 686), (.iastore, 1, 0, 0, 0, 0, 0)]
def cX4_payAll_97 : oh_C := [(.iinc 5 1, 3, 5, 1, 0, 0, 0), (.goto (-91), 3, 9, 0, 0, 0, 0)]
def cX4_payAll_103 : oh_C := [(.return_, 1, 0, 0, 0, 0, 0)]
def tX4_payAll : oh_T := [(0, none, cX4_payAll_0), (9, some [true, true, true, true, true, true, false, false], cX4_payAll_9), (66, none, cX4_payAll_66), (71, none, cX4_payAll_71), (97, none, cX4_payAll_97), (103, none, cX4_payAll_103)]
def cX4_isPastAllNumbers_0 : oh_C := [(.aload_n 0, 1, 0, 0, 0, 0, 0), (.getfield 45, 3, 4, 10, 0, 0, 158), (.bipush 9, 2, 9, 0, 0, 0, 0), (.if_icmp .le 7, 3, 13, 0, 0, 0, 0), (.iconst 1, 1, 1, 0, 0, 0, 0), (.goto 4, 3, 14, 0, 0, 0, 0)]
def cX4_isPastAllNumbers_13 : oh_C := [(.iconst 0, 1, 0, 0, 0, 0, 0)]
def cX4_isPastAllNumbers_14 : oh_C := [(.ireturn, 1, 1, 0, 0, 0, 0)]
def tX4_isPastAllNumbers : oh_T := [(0, none, cX4_isPastAllNumbers_0), (13, none, cX4_isPastAllNumbers_13), (14, none, cX4_isPastAllNumbers_14)]
def cX5_renew_0 : oh_C := [(.aload_n 0, 1, 0, 0, 0, 0, 0), (.iload_n 1, 1, 1, 0, 0, 0, 0), (.putfield 15, 3, 5, 0, 0, 0, 303), (.aload_n 0, 1, 0, 0, 0, 0, 0), (.iload_n 2, 1, 2, 0, 0, 0, 0), (.iconst 0, 1, 0, 0, 0, 0, 0), (.bipush 40, 2, 40, 0, 0, 0, 0), (.invokestatic 19, 3, 98, 3, 1, 0, 836), (.putfield 23, 3, 5, 1, 0, 0, 305), (.iconst 0, 1, 0, 0, 0, 0, 0), (.istore_n 3, 1, 3, 0, 0, 0, 0)]
def cX5_renew_18 : oh_C := [(.iload_n 3, 1, 3, 0, 0, 0, 0), (.bipush 40, 2, 40, 0, 0, 0, 0), (.if_icmp .ge 16, 3, 37, 0, 0, 0, 0), (.aload_n 0, 1, 0, 0, 0, 0, 0), (.getfield 9, 3, 5, 2, 0, 0, 307), (.iload_n 3, 1, 3, 0, 0, 0, 0), (.iconst 0, 1, 0, 0, 0, 0, 0), (.iastore, 1, 0, 0, 0, 0, 0), (.iinc 3 1, 3, 3, 1, 0, 0, 0), (.goto (-16), 3, 18, 0, 0, 0, 0)]
def cX5_renew_37 : oh_C := [(.return_, 1, 0, 0, 0, 0, 0)]
def tX5_renew : oh_T := [(0, none, cX5_renew_0), (18, some [true, false, false, true], cX5_renew_18), (37, none, cX5_renew_37)]
def cX5_write_0 : oh_C := [(.iload_n 1, 1, 1, 0, 0, 0, 0), (.ifCond .lt 46, 3, 47, 0, 0, 0, 0), (.iload_n 1, 1, 1, 0, 0, 0, 0), (.aload_n 0, 1, 0, 0, 0, 0, 0), (.getfield 23, 3, 5, 1, 0, 0, 305), (.if_icmp .ge 38, 3, 47, 0, 0, 0, 0), (.aload_n 0, 1, 0, 0, 0, 0, 0), (.getfield 9, 3, 5, 2, 0, 0, 307), (.iload_n 1, 1, 1, 0, 0, 0, 0), (.aload_n 0, 1, 0, 0, 0, 0, 0), (.getfield 15, 3, 5, 0, 0, 0, 303), (.bipush 8, 2, 8, 0, 0, 0, 0), (.if_icmp .ne 8, 3, 31, 0, 0, 0, 0), (.iload_n 2, 1, 2, 0, 0, 0, 0), (.i2b, 1, 0, 0, 0, 0, 0), (.goto 18, 3, 46, 0, 0, 0, 0)]
def cX5_write_31 : oh_C := [(.aload_n 0, 1, 0, 0, 0, 0, 0), (.getfield 15, 3, 5, 0, 0, 0, 303), (.bipush 16, 2, 16, 0, 0, 0, 0), (.if_icmp .ne 8, 3, 45, 0, 0, 0, 0), (.iload_n 2, 1, 2, 0, 0, 0, 0), (.i2s, 1, 0, 0, 0, 0, 0), (.goto 4, 3, 46, 0, 0, 0, 0)]
def cX5_write_45 : oh_C := [(.iload_n 2, 1, 2, 0, 0, 0, 0)]
def cX5_write_46 : oh_C := [(.iastore, 1, 0, 0, 0, 0, 0)]
def cX5_write_47 : oh_C := [(.return_, 1, 0, 0, 0, 0, 0)]
def tX5_write : oh_T := [(0, none, cX5_write_0), (31, none, cX5_write_31), (45, none, cX5_write_45), (46, none, cX5_write_46), (47, none, cX5_write_47)]
def cX5_hasRun_0 : oh_C := [(.iload_n 2, 1, 2, 0, 0, 0, 0), (.ifCond .lt 29, 3, 30, 0, 0, 0, 0), (.iload_n 1, 1, 1, 0, 0, 0, 0), (.ifCond .lt 25, 3, 30, 0, 0, 0, 0), (.iload_n 2, 1, 2, 0, 0, 0, 0), (.aload_n 0, 1, 0, 0, 0, 0, 0), (.getfield 23, 3, 5, 1, 0, 0, 305), (.if_icmp .gt 17, 3, 30, 0, 0, 0, 0), (.iload_n 1, 1, 1, 0, 0, 0, 0), (.aload_n 0, 1, 0, 0, 0, 0, 0), (.getfield 23, 3, 5, 1, 0, 0, 305), (.iload_n 2, 1, 2, 0, 0, 0, 0), (.isub, 1, 0, 0, 0, 0, 0), (.if_icmp .gt 7, 3, 30, 0, 0, 0, 0), (.iconst 1, 1, 1, 0, 0, 0, 0), (.goto 4, 3, 31, 0, 0, 0, 0)]
def cX5_hasRun_30 : oh_C := [(.iconst 0, 1, 0, 0, 0, 0, 0)]
def cX5_hasRun_31 : oh_C := [(.ireturn, 1, 1, 0, 0, 0, 0)]
def tX5_hasRun : oh_T := [(0, none, cX5_hasRun_0), (30, none, cX5_hasRun_30), (31, none, cX5_hasRun_31)]
def cX5_asWorlds_0 : oh_C := [(.lconst 0, 1, 0, 0, 0, 0, 0), (.lstore_n 1, 1, 1, 0, 0, 0, 0), (.iconst 0, 1, 0, 0, 0, 0, 0), (.istore_n 3, 1, 3, 0, 0, 0, 0)]
def cX5_asWorlds_4 : oh_C := [(.iload_n 3, 1, 3, 0, 0, 0, 0), (.aload_n 0, 1, 0, 0, 0, 0, 0), (.getfield 23, 3, 5, 1, 0, 0, 305), (.if_icmp .ge 40, 3, 49, 0, 0, 0, 0), (.aload_n 0, 1, 0, 0, 0, 0, 0), (.getfield 9, 3, 5, 2, 0, 0, 307), (.iload_n 3, 1, 3, 0, 0, 0, 0), (.iaload, 1, 0, 0, 0, 0, 0), (.ifCond .lt 25, 3, 43, 0, 0, 0, 0), (.aload_n 0, 1, 0, 0, 0, 0, 0), (.getfield 9, 3, 5, 2, 0, 0, 307), (.iload_n 3, 1, 3, 0, 0, 0, 0), (.iaload, 1, 0, 0, 0, 0, 0), (.bipush 64, 2, 64, 0, 0, 0, 0), (.if_icmp .ge 14, 3, 43, 0, 0, 0, 0), (.lload_n 1, 1, 1, 0, 0, 0, 0), (.lconst 1, 1, 1, 0, 0, 0, 0), (.aload_n 0, 1, 0, 0, 0, 0, 0), (.getfield 9, 3, 5, 2, 0, 0, 307), (.iload_n 3, 1, 3, 0, 0, 0, 0), (.iaload, 1, 0, 0, 0, 0, 0), (.lshl, 1, 0, 0, 0, 0, 0), (.lor, 1, 0, 0, 0, 0, 0), (.lstore_n 1, 1, 1, 0, 0, 0, 0)]
def cX5_asWorlds_43 : oh_C := [(.iinc 3 1, 3, 3, 1, 0, 0, 0), (.goto (-42), 3, 4, 0, 0, 0, 0)]
def cX5_asWorlds_49 : oh_C := [(.lload_n 1, 1, 1, 0, 0, 0, 0), (.lreturn, 1, 0, 0, 0, 0, 0)]
def tX5_asWorlds : oh_T := [(0, none, cX5_asWorlds_0), (4, some [true, true, false, true], cX5_asWorlds_4), (43, none, cX5_asWorlds_43), (49, none, cX5_asWorlds_49)]
def cX6_heard_0 : oh_C := [(.iload_n 2, 1, 2, 0, 0, 0, 0), (.ifCond .lt 9, 3, 10, 0, 0, 0, 0), (.iload_n 2, 1, 2, 0, 0, 0, 0), (.bipush 6, 2, 6, 0, 0, 0, 0), (.if_icmp .lt 5, 3, 12, 0, 0, 0, 0)]
def cX6_heard_10 : oh_C := [(.iconst 0, 1, 0, 0, 0, 0, 0), (.ireturn, 1, 0, 0, 0, 0, 0)]
def cX6_heard_12 : oh_C := [(.aload_n 0, 1, 0, 0, 0, 0, 0), (.aload_n 1, 1, 1, 0, 0, 0, 0), (.getfield 20, 3, 4, 1, 0, 0, 139), (.iload_n 2, 1, 2, 0, 0, 0, 0), (.iaload, 1, 0, 0, 0, 0, 0), (.putfield 26, 3, 6, 1, 0, 0, 284), (.aload_n 0, 1, 0, 0, 0, 0, 0), (.iload_n 2, 1, 2, 0, 0, 0, 0), (.putfield 29, 3, 6, 2, 0, 0, 285), (.aload_n 0, 1, 0, 0, 0, 0, 0), (.aload_n 1, 1, 1, 0, 0, 0, 0), (.getfield 32, 3, 4, 2, 0, 0, 142), (.iload_n 2, 1, 2, 0, 0, 0, 0), (.iaload, 1, 0, 0, 0, 0, 0), (.putfield 35, 3, 6, 3, 0, 0, 286), (.aload_n 0, 1, 0, 0, 0, 0, 0), (.getfield 14, 3, 6, 0, 0, 0, 282), (.invokevirtual 38, 3, 18, 1, 0, 3, 803), (.aload_n 0, 1, 0, 0, 0, 0, 0), (.iload_n 3, 1, 3, 0, 0, 0, 0), (.iload 4, 2, 4, 0, 0, 0, 0), (.iconst 0, 1, 0, 0, 0, 0, 0), (.invokevirtual 41, 3, 40, 4, 1, 6, 804), (.ireturn, 1, 0, 0, 0, 0, 0)]
def tX6_heard : oh_T := [(0, none, cX6_heard_0), (10, none, cX6_heard_10), (12, none, cX6_heard_12)]
def cX6_own_0 : oh_C := [(.aload_n 0, 1, 0, 0, 0, 0, 0), (.aload_n 0, 1, 0, 0, 0, 0, 0), (.getfield 26, 3, 6, 1, 0, 0, 284), (.iload_n 1, 1, 1, 0, 0, 0, 0), (.iload_n 2, 1, 2, 0, 0, 0, 0), (.iload_n 3, 1, 3, 0, 0, 0, 0), (.invokevirtual 45, 3, 41, 5, 1, 6, 808), (.ireturn, 1, 0, 0, 0, 0, 0)]
def tX6_own : oh_T := [(0, none, cX6_own_0)]
def cX6_from_0 : oh_C := [(.iload 4, 2, 4, 0, 0, 0, 0), (.bipush 12, 2, 12, 0, 0, 0, 0), (.if_icmp .le 5, 3, 9, 0, 0, 0, 0), (.iconst 0, 1, 0, 0, 0, 0, 0), (.ireturn, 1, 0, 0, 0, 0, 0)]
def cX6_from_9 : oh_C := [(.iload_n 1, 1, 1, 0, 0, 0, 0), (.istore 5, 2, 5, 0, 0, 0, 0), (.iconst 0, 1, 0, 0, 0, 0, 0), (.istore 6, 2, 6, 0, 0, 0, 0)]
def cX6_from_15 : oh_C := [(.iload 6, 2, 6, 0, 0, 0, 0), (.bipush 7, 2, 7, 0, 0, 0, 0), (.if_icmp .ge 67, 3, 86, 0, 0, 0, 0), (.iload 5, 2, 5, 0, 0, 0, 0), (.ifCond .lt 62, 3, 86, 0, 0, 0, 0), (.iload 5, 2, 5, 0, 0, 0, 0), (.bipush 7, 2, 7, 0, 0, 0, 0), (.if_icmp .ge 55, 3, 86, 0, 0, 0, 0), (.getstatic 49, 3, 1001, 0, 0, 0, 812), (.iload 5, 2, 5, 0, 0, 0, 0), (.iconst 4, 1, 4, 0, 0, 0, 0), (.imul, 1, 0, 0, 0, 0, 0), (.iload_n 2, 1, 2, 0, 0, 0, 0), (.iadd, 1, 0, 0, 0, 0, 0), (.iaload, 1, 0, 0, 0, 0, 0), (.istore 7, 2, 7, 0, 0, 0, 0), (.iload 7, 2, 7, 0, 0, 0, 0), (.ifCond .eq 24, 3, 72, 0, 0, 0, 0), (.aload_n 0, 1, 0, 0, 0, 0, 0), (.getfield 14, 3, 6, 0, 0, 0, 282), (.iload 7, 2, 7, 0, 0, 0, 0), (.invokevirtual 52, 3, 16, 2, 0, 3, 814), (.aload_n 0, 1, 0, 0, 0, 0, 0), (.iload 7, 2, 7, 0, 0, 0, 0), (.iload_n 3, 1, 3, 0, 0, 0, 0), (.iload 4, 2, 4, 0, 0, 0, 0), (.iconst 1, 1, 1, 0, 0, 0, 0), (.iadd, 1, 0, 0, 0, 0, 0), (.invokevirtual 55, 3, 42, 4, 1, 6, 815), (.ireturn, 1, 0, 0, 0, 0, 0)]
def cX6_from_72 : oh_C := [(.getstatic 58, 3, 1000, 0, 0, 0, 819), (.iload 5, 2, 5, 0, 0, 0, 0), (.iaload, 1, 0, 0, 0, 0, 0), (.istore 5, 2, 5, 0, 0, 0, 0), (.iinc 6 1, 3, 6, 1, 0, 0, 0), (.goto (-68), 3, 15, 0, 0, 0, 0)]
def cX6_from_86 : oh_C := [(.iconst 0, 1, 0, 0, 0, 0, 0), (.ireturn, 1, 0, 0, 0, 0, 0)]
def tX6_from : oh_T := [(0, none, cX6_from_0), (9, none, cX6_from_9), (15, some [true, false, true, true, true, true, true, false], cX6_from_15), (72, none, cX6_from_72), (86, none, cX6_from_86)]
def cX6_workedOut_0 : oh_C := [(.iload_n 1, 1, 1, 0, 0, 0, 0), (.lookupswitch 266 #[(10, 99), (11, 106), (12, 116), (13, 123), (20, 139), (30, 160), (40, 175), (50, 189), (60, 204), (70, 225), (71, 244)], 99, 0, 0, 0, 0, 0)]
def cX6_workedOut_100 : oh_C := [(.iload_n 2, 1, 2, 0, 0, 0, 0), (.aload_n 0, 1, 0, 0, 0, 0, 0), (.getfield 29, 3, 6, 2, 0, 0, 285), (.iadd, 1, 0, 0, 0, 0, 0), (.ireturn, 1, 0, 0, 0, 0, 0)]
def cX6_workedOut_107 : oh_C := [(.aload_n 0, 1, 0, 0, 0, 0, 0), (.iconst 0, 1, 0, 0, 0, 0, 0), (.iload_n 2, 1, 2, 0, 0, 0, 0), (.iload_n 3, 1, 3, 0, 0, 0, 0), (.invokevirtual 41, 3, 40, 4, 1, 6, 804), (.iconst 2, 1, 2, 0, 0, 0, 0), (.imul, 1, 0, 0, 0, 0, 0), (.ireturn, 1, 0, 0, 0, 0, 0)]
def cX6_workedOut_117 : oh_C := [(.iload_n 2, 1, 2, 0, 0, 0, 0), (.aload_n 0, 1, 0, 0, 0, 0, 0), (.getfield 35, 3, 6, 3, 0, 0, 286), (.isub, 1, 0, 0, 0, 0, 0), (.ireturn, 1, 0, 0, 0, 0, 0)]
def cX6_workedOut_124 : oh_C := [(.aload_n 0, 1, 0, 0, 0, 0, 0), (.iconst 1, 1, 1, 0, 0, 0, 0), (.iload_n 2, 1, 2, 0, 0, 0, 0), (.iload_n 3, 1, 3, 0, 0, 0, 0), (.invokevirtual 41, 3, 40, 4, 1, 6, 804), (.aload_n 0, 1, 0, 0, 0, 0, 0), (.iconst 2, 1, 2, 0, 0, 0, 0), (.iload_n 2, 1, 2, 0, 0, 0, 0), (.iload_n 3, 1, 3, 0, 0, 0, 0), (.invokevirtual 41, 3, 40, 4, 1, 6, 804), (.ixor, 1, 0, 0, 0, 0, 0), (.ireturn, 1, 0, 0, 0, 0, 0)]
def cX6_workedOut_140 : oh_C := [(.aload_n 0, 1, 0, 0, 0, 0, 0), (.getstatic 58, 3, 1000, 0, 0, 0, 819), (.iconst 1, 1, 1, 0, 0, 0, 0), (.iaload, 1, 0, 0, 0, 0, 0), (.iconst 1, 1, 1, 0, 0, 0, 0), (.iload_n 2, 1, 2, 0, 0, 0, 0), (.iload_n 3, 1, 3, 0, 0, 0, 0), (.invokevirtual 45, 3, 41, 5, 1, 6, 808), (.aload_n 0, 1, 0, 0, 0, 0, 0), (.iconst 2, 1, 2, 0, 0, 0, 0), (.iconst 1, 1, 1, 0, 0, 0, 0), (.iload_n 3, 1, 3, 0, 0, 0, 0), (.invokevirtual 41, 3, 40, 4, 1, 6, 804), (.isub, 1, 0, 0, 0, 0, 0), (.ireturn, 1, 0, 0, 0, 0, 0)]
def cX6_workedOut_161 : oh_C := [(.aload_n 0, 1, 0, 0, 0, 0, 0), (.getstatic 58, 3, 1000, 0, 0, 0, 819), (.iconst 2, 1, 2, 0, 0, 0, 0), (.iaload, 1, 0, 0, 0, 0, 0), (.iconst 0, 1, 0, 0, 0, 0, 0), (.iload_n 2, 1, 2, 0, 0, 0, 0), (.iload_n 3, 1, 3, 0, 0, 0, 0), (.invokevirtual 45, 3, 41, 5, 1, 6, 808), (.iconst 3, 1, 3, 0, 0, 0, 0), (.imul, 1, 0, 0, 0, 0, 0), (.ireturn, 1, 0, 0, 0, 0, 0)]
def cX6_workedOut_176 : oh_C := [(.aload_n 0, 1, 0, 0, 0, 0, 0), (.getstatic 58, 3, 1000, 0, 0, 0, 819), (.iconst 3, 1, 3, 0, 0, 0, 0), (.iaload, 1, 0, 0, 0, 0, 0), (.iconst 2, 1, 2, 0, 0, 0, 0), (.iload_n 2, 1, 2, 0, 0, 0, 0), (.iload_n 3, 1, 3, 0, 0, 0, 0), (.invokevirtual 45, 3, 41, 5, 1, 6, 808), (.ineg, 1, 0, 0, 0, 0, 0), (.ireturn, 1, 0, 0, 0, 0, 0)]
def cX6_workedOut_190 : oh_C := [(.aload_n 0, 1, 0, 0, 0, 0, 0), (.getstatic 58, 3, 1000, 0, 0, 0, 819), (.iconst 4, 1, 4, 0, 0, 0, 0), (.iaload, 1, 0, 0, 0, 0, 0), (.iconst 1, 1, 1, 0, 0, 0, 0), (.iload_n 2, 1, 2, 0, 0, 0, 0), (.iconst 1, 1, 1, 0, 0, 0, 0), (.iadd, 1, 0, 0, 0, 0, 0), (.iload_n 3, 1, 3, 0, 0, 0, 0), (.invokevirtual 45, 3, 41, 5, 1, 6, 808), (.ireturn, 1, 0, 0, 0, 0, 0)]
def cX6_workedOut_205 : oh_C := [(.aload_n 0, 1, 0, 0, 0, 0, 0), (.getstatic 58, 3, 1000, 0, 0, 0, 819), (.iconst 5, 1, 5, 0, 0, 0, 0), (.iaload, 1, 0, 0, 0, 0, 0), (.iconst 3, 1, 3, 0, 0, 0, 0), (.iload_n 2, 1, 2, 0, 0, 0, 0), (.iload_n 3, 1, 3, 0, 0, 0, 0), (.invokevirtual 45, 3, 41, 5, 1, 6, 808), (.aload_n 0, 1, 0, 0, 0, 0, 0), (.iconst 0, 1, 0, 0, 0, 0, 0), (.iconst 2, 1, 2, 0, 0, 0, 0), (.iload_n 3, 1, 3, 0, 0, 0, 0), (.invokevirtual 41, 3, 40, 4, 1, 6, 804), (.isub, 1, 0, 0, 0, 0, 0), (.ireturn, 1, 0, 0, 0, 0, 0)]
def cX6_workedOut_226 : oh_C := [(.aload_n 0, 1, 0, 0, 0, 0, 0), (.getstatic 58, 3, 1000, 0, 0, 0, 819), (.bipush 6, 2, 6, 0, 0, 0, 0), (.iaload, 1, 0, 0, 0, 0, 0), (.iconst 2, 1, 2, 0, 0, 0, 0), (.iload_n 2, 1, 2, 0, 0, 0, 0), (.iload_n 3, 1, 3, 0, 0, 0, 0), (.invokevirtual 45, 3, 41, 5, 1, 6, 808), (.aload_n 0, 1, 0, 0, 0, 0, 0), (.getfield 29, 3, 6, 2, 0, 0, 285), (.ixor, 1, 0, 0, 0, 0, 0), (.ireturn, 1, 0, 0, 0, 0, 0)]
def cX6_workedOut_245 : oh_C := [(.aload_n 0, 1, 0, 0, 0, 0, 0), (.iconst 1, 1, 1, 0, 0, 0, 0), (.iload_n 2, 1, 2, 0, 0, 0, 0), (.iload_n 3, 1, 3, 0, 0, 0, 0), (.invokevirtual 41, 3, 40, 4, 1, 6, 804), (.aload_n 0, 1, 0, 0, 0, 0, 0), (.getstatic 58, 3, 1000, 0, 0, 0, 819), (.bipush 6, 2, 6, 0, 0, 0, 0), (.iaload, 1, 0, 0, 0, 0, 0), (.iconst 3, 1, 3, 0, 0, 0, 0), (.iload_n 2, 1, 2, 0, 0, 0, 0), (.iload_n 3, 1, 3, 0, 0, 0, 0), (.invokevirtual 45, 3, 41, 5, 1, 6, 808), (.isub, 1, 0, 0, 0, 0, 0), (.ireturn, 1, 0, 0, 0, 0, 0)]
def cX6_workedOut_267 : oh_C := [(.iconst 0, 1, 0, 0, 0, 0, 0), (.ireturn, 1, 0, 0, 0, 0, 0)]
def tX6_workedOut : oh_T := [(0, none, cX6_workedOut_0), (100, none, cX6_workedOut_100), (107, none, cX6_workedOut_107), (117, none, cX6_workedOut_117), (124, none, cX6_workedOut_124), (140, none, cX6_workedOut_140), (161, none, cX6_workedOut_161), (176, none, cX6_workedOut_176), (190, none, cX6_workedOut_190), (205, none, cX6_workedOut_205), (226, none, cX6_workedOut_226), (245, none, cX6_workedOut_245), (267, none, cX6_workedOut_267)]
def cX7_man_0 : oh_C := [(.iload_n 1, 1, 1, 0, 0, 0, 0), (.invokestatic 51, 3, 84, 1, 1, 0, 345), (.ifCond .ne 10, 3, 14, 0, 0, 0, 0), (.aload_n 0, 1, 0, 0, 0, 0, 0), (.ldc 55, 2, 1000000001, 0, 0, 1, 348), (.invokevirtual 56, 3, 81, 2, 1, 7, 349), (.ireturn, 1, 0, 0, 0, 0, 0)]
def cX7_man_14 : oh_C := [(.aload_n 0, 1, 0, 0, 0, 0, 0), (.getfield 12, 3, 7, 0, 0, 0, 316), (.getfield 60, 3, 0, 0, 0, 0, 224), (.getfield 63, 3, 4, 7, 0, 0, 152), (.ifCond .eq 10, 3, 34, 0, 0, 0, 0), (.aload_n 0, 1, 0, 0, 0, 0, 0), (.ldc 67, 2, 1000000003, 0, 0, 1, 354), (.invokevirtual 56, 3, 81, 2, 1, 7, 349), (.ireturn, 1, 0, 0, 0, 0, 0)]
def cX7_man_34 : oh_C := [(.aload_n 0, 1, 0, 0, 0, 0, 0), (.getfield 12, 3, 7, 0, 0, 0, 316), (.getfield 60, 3, 0, 0, 0, 0, 224), (.getfield 68, 3, 4, 0, 0, 0, 136), (.bipush 6, 2, 6, 0, 0, 0, 0), (.if_icmp .lt 10, 3, 56, 0, 0, 0, 0), (.aload_n 0, 1, 0, 0, 0, 0, 0), (.ldc 72, 2, 1000000004, 0, 0, 1, 355), (.invokevirtual 56, 3, 81, 2, 1, 7, 349), (.ireturn, 1, 0, 0, 0, 0, 0)]
def cX7_man_56 : oh_C := [(.aload_n 0, 1, 0, 0, 0, 0, 0), (.getfield 12, 3, 7, 0, 0, 0, 316), (.getfield 60, 3, 0, 0, 0, 0, 224), (.iload_n 1, 1, 1, 0, 0, 0, 0), (.invokevirtual 73, 3, 22, 2, 1, 4, 356), (.ireturn, 1, 0, 0, 0, 0, 0)]
def tX7_man : oh_T := [(0, none, cX7_man_0), (14, none, cX7_man_14), (34, none, cX7_man_34), (56, none, cX7_man_56)]
def cX7_ofMan_0 : oh_C := [(.aload_n 0, 1, 0, 0, 0, 0, 0), (.iload_n 1, 1, 1, 0, 0, 0, 0), (.invokevirtual 76, 3, 82, 2, 1, 7, 367), (.ifCond .ne 10, 3, 15, 0, 0, 0, 0), (.aload_n 0, 1, 0, 0, 0, 0, 0), (.ldc 55, 2, 1000000001, 0, 0, 1, 348), (.invokevirtual 56, 3, 81, 2, 1, 7, 349), (.ireturn, 1, 0, 0, 0, 0, 0)]
def cX7_ofMan_15 : oh_C := [(.aload_n 0, 1, 0, 0, 0, 0, 0), (.getfield 12, 3, 7, 0, 0, 0, 316), (.getfield 60, 3, 0, 0, 0, 0, 224), (.astore_n 3, 1, 3, 0, 0, 0, 0), (.iload_n 2, 1, 2, 0, 0, 0, 0), (.tableswitch 73 0 4 #[36, 43, 50, 59, 66], 36, 0, 0, 0, 0, 0)]
def cX7_ofMan_60 : oh_C := [(.aload_n 3, 1, 3, 0, 0, 0, 0), (.getfield 79, 3, 4, 1, 0, 0, 140), (.iload_n 1, 1, 1, 0, 0, 0, 0), (.iaload, 1, 0, 0, 0, 0, 0), (.ireturn, 1, 0, 0, 0, 0, 0)]
def cX7_ofMan_67 : oh_C := [(.aload_n 3, 1, 3, 0, 0, 0, 0), (.getfield 82, 3, 4, 2, 0, 0, 143), (.iload_n 1, 1, 1, 0, 0, 0, 0), (.iaload, 1, 0, 0, 0, 0, 0), (.ireturn, 1, 0, 0, 0, 0, 0)]
def cX7_ofMan_74 : oh_C := [(.aload_n 3, 1, 3, 0, 0, 0, 0), (.getfield 85, 3, 4, 5, 0, 0, 149), (.iload_n 1, 1, 1, 0, 0, 0, 0), (.invokestatic 88, 3, 97, 2, 1, 0, 371), (.ireturn, 1, 0, 0, 0, 0, 0)]
def cX7_ofMan_83 : oh_C := [(.aload_n 3, 1, 3, 0, 0, 0, 0), (.getfield 92, 3, 4, 3, 0, 0, 145), (.iload_n 1, 1, 1, 0, 0, 0, 0), (.iaload, 1, 0, 0, 0, 0, 0), (.ireturn, 1, 0, 0, 0, 0, 0)]
def cX7_ofMan_90 : oh_C := [(.aload_n 3, 1, 3, 0, 0, 0, 0), (.getfield 95, 3, 4, 4, 0, 0, 147), (.iload_n 1, 1, 1, 0, 0, 0, 0), (.iaload, 1, 0, 0, 0, 0, 0), (.ireturn, 1, 0, 0, 0, 0, 0)]
def cX7_ofMan_97 : oh_C := [(.aload_n 0, 1, 0, 0, 0, 0, 0), (.ldc 55, 2, 1000000001, 0, 0, 1, 348), (.invokevirtual 56, 3, 81, 2, 1, 7, 349), (.ireturn, 1, 0, 0, 0, 0, 0)]
def tX7_ofMan : oh_T := [(0, none, cX7_ofMan_0), (15, none, cX7_ofMan_15), (60, none, cX7_ofMan_60), (67, none, cX7_ofMan_67), (74, none, cX7_ofMan_74), (83, none, cX7_ofMan_83), (90, none, cX7_ofMan_90), (97, none, cX7_ofMan_97)]
def cX7_tellMan_0 : oh_C := [(.iload_n 2, 1, 2, 0, 0, 0, 0), (.iconst 2, 1, 2, 0, 0, 0, 0), (.if_icmp .ne 20, 3, 22, 0, 0, 0, 0), (.iload_n 3, 1, 3, 0, 0, 0, 0), (.ifCond .eq 8, 3, 14, 0, 0, 0, 0), (.iload_n 3, 1, 3, 0, 0, 0, 0), (.iconst 1, 1, 1, 0, 0, 0, 0), (.if_icmp .ne 7, 3, 18, 0, 0, 0, 0)]
def cX7_tellMan_14 : oh_C := [(.iconst 1, 1, 1, 0, 0, 0, 0), (.goto 41, 3, 56, 0, 0, 0, 0)]
def cX7_tellMan_18 : oh_C := [(.iconst 0, 1, 0, 0, 0, 0, 0), (.goto 37, 3, 56, 0, 0, 0, 0)]
def cX7_tellMan_22 : oh_C := [(.iload_n 2, 1, 2, 0, 0, 0, 0), (.iconst 3, 1, 3, 0, 0, 0, 0), (.if_icmp .ne 31, 3, 55, 0, 0, 0, 0), (.aload_n 0, 1, 0, 0, 0, 0, 0), (.iload_n 3, 1, 3, 0, 0, 0, 0), (.invokevirtual 98, 3, 83, 2, 1, 7, 378), (.ifCond .eq 23, 3, 55, 0, 0, 0, 0), (.aload_n 0, 1, 0, 0, 0, 0, 0), (.iload_n 1, 1, 1, 0, 0, 0, 0), (.invokevirtual 76, 3, 82, 2, 1, 7, 367), (.ifCond .eq 15, 3, 55, 0, 0, 0, 0), (.iload_n 3, 1, 3, 0, 0, 0, 0), (.iload_n 1, 1, 1, 0, 0, 0, 0), (.invokestatic 88, 3, 97, 2, 1, 0, 371), (.ifCond .ne 7, 3, 55, 0, 0, 0, 0), (.iconst 1, 1, 1, 0, 0, 0, 0), (.goto 4, 3, 56, 0, 0, 0, 0)]
def cX7_tellMan_55 : oh_C := [(.iconst 0, 1, 0, 0, 0, 0, 0)]
def cX7_tellMan_56 : oh_C := [(.istore 4, 2, 4, 0, 0, 0, 0), (.aload_n 0, 1, 0, 0, 0, 0, 0), (.iload_n 1, 1, 1, 0, 0, 0, 0), (.invokevirtual 76, 3, 82, 2, 1, 7, 367), (.ifCond .eq 8, 3, 71, 0, 0, 0, 0), (.iload 4, 2, 4, 0, 0, 0, 0), (.ifCond .ne 10, 3, 78, 0, 0, 0, 0)]
def cX7_tellMan_71 : oh_C := [(.aload_n 0, 1, 0, 0, 0, 0, 0), (.ldc 55, 2, 1000000001, 0, 0, 1, 348), (.invokevirtual 56, 3, 81, 2, 1, 7, 349), (.ireturn, 1, 0, 0, 0, 0, 0)]
def cX7_tellMan_78 : oh_C := [(.aload_n 0, 1, 0, 0, 0, 0, 0), (.getfield 12, 3, 7, 0, 0, 0, 316), (.getfield 60, 3, 0, 0, 0, 0, 224), (.astore 5, 2, 5, 0, 0, 0, 0), (.aload 5, 2, 5, 0, 0, 0, 0), (.getfield 63, 3, 4, 7, 0, 0, 152), (.ifCond .eq 10, 3, 102, 0, 0, 0, 0), (.aload_n 0, 1, 0, 0, 0, 0, 0), (.ldc 67, 2, 1000000003, 0, 0, 1, 354), (.invokevirtual 56, 3, 81, 2, 1, 7, 349), (.ireturn, 1, 0, 0, 0, 0, 0)]
def cX7_tellMan_102 : oh_C := [(.iload_n 2, 1, 2, 0, 0, 0, 0), (.iconst 2, 1, 2, 0, 0, 0, 0), (.if_icmp .ne 37, 3, 141, 0, 0, 0, 0), (.aload 5, 2, 5, 0, 0, 0, 0), (.getfield 85, 3, 4, 5, 0, 0, 149), (.iload_n 1, 1, 1, 0, 0, 0, 0), (.invokestatic 88, 3, 97, 2, 1, 0, 371), (.istore 6, 2, 6, 0, 0, 0, 0), (.aload 5, 2, 5, 0, 0, 0, 0), (.aload 5, 2, 5, 0, 0, 0, 0), (.getfield 85, 3, 4, 5, 0, 0, 149), (.iconst 1, 1, 1, 0, 0, 0, 0), (.iload_n 1, 1, 1, 0, 0, 0, 0), (.ishl, 1, 0, 0, 0, 0, 0), (.iconst (-1), 1, 1, 1, 0, 0, 0), (.ixor, 1, 0, 0, 0, 0, 0), (.iand, 1, 0, 0, 0, 0, 0), (.iload_n 3, 1, 3, 0, 0, 0, 0), (.iload_n 1, 1, 1, 0, 0, 0, 0), (.ishl, 1, 0, 0, 0, 0, 0), (.ior, 1, 0, 0, 0, 0, 0), (.putfield 85, 3, 4, 5, 0, 0, 149), (.goto 20, 3, 158, 0, 0, 0, 0)]
def cX7_tellMan_141 : oh_C := [(.aload 5, 2, 5, 0, 0, 0, 0), (.getfield 92, 3, 4, 3, 0, 0, 145), (.iload_n 1, 1, 1, 0, 0, 0, 0), (.iaload, 1, 0, 0, 0, 0, 0), (.istore 6, 2, 6, 0, 0, 0, 0), (.aload 5, 2, 5, 0, 0, 0, 0), (.getfield 92, 3, 4, 3, 0, 0, 145), (.iload_n 1, 1, 1, 0, 0, 0, 0), (.iload_n 3, 1, 3, 0, 0, 0, 0), (.iastore, 1, 0, 0, 0, 0, 0)]
def cX7_tellMan_158 : oh_C := [(.iload 6, 2, 6, 0, 0, 0, 0), (.ireturn, 1, 0, 0, 0, 0, 0)]
def tX7_tellMan : oh_T := [(0, none, cX7_tellMan_0), (14, none, cX7_tellMan_14), (18, none, cX7_tellMan_18), (22, none, cX7_tellMan_22), (55, none, cX7_tellMan_55), (56, none, cX7_tellMan_56), (71, none, cX7_tellMan_71), (78, none, cX7_tellMan_78), (102, none, cX7_tellMan_102), (141, none, cX7_tellMan_141), (158, none, cX7_tellMan_158)]
def cX7_become_0 : oh_C := [(.aload_n 0, 1, 0, 0, 0, 0, 0), (.iload_n 1, 1, 1, 0, 0, 0, 0), (.invokevirtual 76, 3, 82, 2, 1, 7, 367), (.ifCond .eq 10, 3, 15, 0, 0, 0, 0), (.iload_n 2, 1, 2, 0, 0, 0, 0), (.invokestatic 51, 3, 84, 1, 1, 0, 345), (.ifCond .ne 10, 3, 22, 0, 0, 0, 0)]
def cX7_become_15 : oh_C := [(.aload_n 0, 1, 0, 0, 0, 0, 0), (.ldc 55, 2, 1000000001, 0, 0, 1, 348), (.invokevirtual 56, 3, 81, 2, 1, 7, 349), (.ireturn, 1, 0, 0, 0, 0, 0)]
def cX7_become_22 : oh_C := [(.aload_n 0, 1, 0, 0, 0, 0, 0), (.getfield 12, 3, 7, 0, 0, 0, 316), (.getfield 60, 3, 0, 0, 0, 0, 224), (.getfield 79, 3, 4, 1, 0, 0, 140), (.iload_n 1, 1, 1, 0, 0, 0, 0), (.iaload, 1, 0, 0, 0, 0, 0), (.istore_n 3, 1, 3, 0, 0, 0, 0), (.aload_n 0, 1, 0, 0, 0, 0, 0), (.getfield 12, 3, 7, 0, 0, 0, 316), (.getfield 60, 3, 0, 0, 0, 0, 224), (.getfield 79, 3, 4, 1, 0, 0, 140), (.iload_n 1, 1, 1, 0, 0, 0, 0), (.iload_n 2, 1, 2, 0, 0, 0, 0), (.bipush 10, 2, 10, 0, 0, 0, 0), (.idiv, 1, 0, 0, 0, 0, 0), (.iastore, 1, 0, 0, 0, 0, 0), (.aload_n 0, 1, 0, 0, 0, 0, 0), (.getfield 12, 3, 7, 0, 0, 0, 316), (.getfield 60, 3, 0, 0, 0, 0, 224), (.getfield 82, 3, 4, 2, 0, 0, 143), (.iload_n 1, 1, 1, 0, 0, 0, 0), (.iload_n 2, 1, 2, 0, 0, 0, 0), (.bipush 10, 2, 10, 0, 0, 0, 0), (.irem, 1, 0, 0, 0, 0, 0), (.iastore, 1, 0, 0, 0, 0, 0), (.iload_n 3, 1, 3, 0, 0, 0, 0), (.ireturn, 1, 0, 0, 0, 0, 0)]
def tX7_become : oh_T := [(0, none, cX7_become_0), (15, none, cX7_become_15), (22, none, cX7_become_22)]
def cX7_as_0 : oh_C := [(.aload_n 0, 1, 0, 0, 0, 0, 0), (.iload_n 1, 1, 1, 0, 0, 0, 0), (.invokevirtual 76, 3, 82, 2, 1, 7, 367), (.ifCond .eq 13, 3, 18, 0, 0, 0, 0), (.iload_n 2, 1, 2, 0, 0, 0, 0), (.ifCond .lt 9, 3, 18, 0, 0, 0, 0), (.iload_n 2, 1, 2, 0, 0, 0, 0), (.bipush 7, 2, 7, 0, 0, 0, 0), (.if_icmp .lt 10, 3, 25, 0, 0, 0, 0)]
def cX7_as_18 : oh_C := [(.aload_n 0, 1, 0, 0, 0, 0, 0), (.ldc 55, 2, 1000000001, 0, 0, 1, 348), (.invokevirtual 56, 3, 81, 2, 1, 7, 349), (.ireturn, 1, 0, 0, 0, 0, 0)]
def cX7_as_25 : oh_C := [(.aload_n 0, 1, 0, 0, 0, 0, 0), (.getfield 12, 3, 7, 0, 0, 0, 316), (.getfield 60, 3, 0, 0, 0, 0, 224), (.getfield 79, 3, 4, 1, 0, 0, 140), (.iload_n 1, 1, 1, 0, 0, 0, 0), (.iaload, 1, 0, 0, 0, 0, 0), (.iload_n 2, 1, 2, 0, 0, 0, 0), (.invokestatic 101, 3, 88, 2, 1, 0, 394), (.ifCond .ne 10, 3, 51, 0, 0, 0, 0), (.aload_n 0, 1, 0, 0, 0, 0, 0), (.ldc 105, 2, 1000000005, 0, 0, 1, 399), (.invokevirtual 56, 3, 81, 2, 1, 7, 349), (.ireturn, 1, 0, 0, 0, 0, 0)]
def cX7_as_51 : oh_C := [(.aload_n 0, 1, 0, 0, 0, 0, 0), (.getfield 12, 3, 7, 0, 0, 0, 316), (.getfield 60, 3, 0, 0, 0, 0, 224), (.getfield 82, 3, 4, 2, 0, 0, 143), (.iload_n 1, 1, 1, 0, 0, 0, 0), (.iaload, 1, 0, 0, 0, 0, 0), (.ireturn, 1, 0, 0, 0, 0, 0)]
def tX7_as : oh_T := [(0, none, cX7_as_0), (18, none, cX7_as_18), (25, none, cX7_as_25), (51, none, cX7_as_51)]
def cX7_fine_0 : oh_C := [(.iload_n 1, 1, 1, 0, 0, 0, 0), (.ifCond .lt 9, 3, 10, 0, 0, 0, 0), (.iload_n 1, 1, 1, 0, 0, 0, 0), (.bipush 99, 2, 99, 0, 0, 0, 0), (.if_icmp .le 10, 3, 17, 0, 0, 0, 0)]
def cX7_fine_10 : oh_C := [(.aload_n 0, 1, 0, 0, 0, 0, 0), (.ldc 55, 2, 1000000001, 0, 0, 1, 348), (.invokevirtual 56, 3, 81, 2, 1, 7, 349), (.ireturn, 1, 0, 0, 0, 0, 0)]
def cX7_fine_17 : oh_C := [(.aload_n 0, 1, 0, 0, 0, 0, 0), (.getfield 12, 3, 7, 0, 0, 0, 316), (.getfield 60, 3, 0, 0, 0, 0, 224), (.getfield 106, 3, 4, 6, 0, 0, 151), (.istore_n 2, 1, 2, 0, 0, 0, 0), (.aload_n 0, 1, 0, 0, 0, 0, 0), (.getfield 12, 3, 7, 0, 0, 0, 316), (.getfield 60, 3, 0, 0, 0, 0, 224), (.iload_n 1, 1, 1, 0, 0, 0, 0), (.putfield 106, 3, 4, 6, 0, 0, 151), (.iload_n 2, 1, 2, 0, 0, 0, 0), (.ireturn, 1, 0, 0, 0, 0, 0)]
def tX7_fine : oh_T := [(0, none, cX7_fine_0), (10, none, cX7_fine_10), (17, none, cX7_fine_17)]
def cX7_feed_0 : oh_C := [(.iload_n 3, 1, 3, 0, 0, 0, 0), (.iconst 1, 1, 1, 0, 0, 0, 0), (.if_icmp .lt 9, 3, 11, 0, 0, 0, 0), (.iload_n 3, 1, 3, 0, 0, 0, 0), (.bipush 8, 2, 8, 0, 0, 0, 0), (.if_icmp .le 10, 3, 18, 0, 0, 0, 0)]
def cX7_feed_11 : oh_C := [(.aload_n 0, 1, 0, 0, 0, 0, 0), (.ldc 55, 2, 1000000001, 0, 0, 1, 348), (.invokevirtual 56, 3, 81, 2, 1, 7, 349), (.ireturn, 1, 0, 0, 0, 0, 0)]
def cX7_feed_18 : oh_C := [(.aload_n 0, 1, 0, 0, 0, 0, 0), (.getfield 12, 3, 7, 0, 0, 0, 316), (.getfield 109, 3, 0, 3, 0, 0, 230), (.getfield 113, 3, 3, 1, 0, 0, 203), (.bipush 50, 2, 50, 0, 0, 0, 0), (.iload_n 3, 1, 3, 0, 0, 0, 0), (.isub, 1, 0, 0, 0, 0, 0), (.if_icmp .le 10, 3, 42, 0, 0, 0, 0), (.aload_n 0, 1, 0, 0, 0, 0, 0), (.ldc 72, 2, 1000000004, 0, 0, 1, 355), (.invokevirtual 56, 3, 81, 2, 1, 7, 349), (.ireturn, 1, 0, 0, 0, 0, 0)]
def cX7_feed_42 : oh_C := [(.iconst 0, 1, 0, 0, 0, 0, 0), (.istore 4, 2, 4, 0, 0, 0, 0)]
def cX7_feed_45 : oh_C := [(.iload 4, 2, 4, 0, 0, 0, 0), (.iload_n 3, 1, 3, 0, 0, 0, 0), (.if_icmp .ge 31, 3, 79, 0, 0, 0, 0), (.aload_n 0, 1, 0, 0, 0, 0, 0), (.getfield 12, 3, 7, 0, 0, 0, 316), (.getfield 109, 3, 0, 3, 0, 0, 230), (.lload_n 1, 1, 1, 0, 0, 0, 0), (.bipush 8, 2, 8, 0, 0, 0, 0), (.iload 4, 2, 4, 0, 0, 0, 0), (.imul, 1, 0, 0, 0, 0, 0), (.lushr, 1, 0, 0, 0, 0, 0), (.l2i, 1, 0, 0, 0, 0, 0), (.sipush 255, 3, 255, 0, 0, 0, 0), (.iand, 1, 0, 0, 0, 0, 0), (.invokevirtual 118, 3, 16, 2, 0, 3, 408), (.iinc 4 1, 3, 4, 1, 0, 0, 0), (.goto (-31), 3, 45, 0, 0, 0, 0)]
def cX7_feed_79 : oh_C := [(.aload_n 0, 1, 0, 0, 0, 0, 0), (.getfield 12, 3, 7, 0, 0, 0, 316), (.getfield 109, 3, 0, 3, 0, 0, 230), (.getfield 113, 3, 3, 1, 0, 0, 203), (.ireturn, 1, 0, 0, 0, 0, 0)]
def tX7_feed : oh_T := [(0, none, cX7_feed_0), (11, none, cX7_feed_11), (18, none, cX7_feed_18), (42, none, cX7_feed_42), (45, some [true, true, false, true, true], cX7_feed_45), (79, none, cX7_feed_79)]
def cX7_text_0 : oh_C := [(.iload_n 1, 1, 1, 0, 0, 0, 0), (.invokestatic 122, 3, 85, 1, 1, 0, 416), (.ifCond .ne 10, 3, 14, 0, 0, 0, 0), (.aload_n 0, 1, 0, 0, 0, 0, 0), (.ldc 55, 2, 1000000001, 0, 0, 1, 348), (.invokevirtual 56, 3, 81, 2, 1, 7, 349), (.ireturn, 1, 0, 0, 0, 0, 0)]
def cX7_text_14 : oh_C := [(.aload_n 0, 1, 0, 0, 0, 0, 0), (.getfield 29, 3, 7, 3, 0, 0, 319), (.aload_n 0, 1, 0, 0, 0, 0, 0), (.getfield 12, 3, 7, 0, 0, 0, 316), (.getfield 109, 3, 0, 3, 0, 0, 230), (.iload_n 1, 1, 1, 0, 0, 0, 0), (.invokevirtual 125, 3, 7, 3, 1, 2, 419), (.istore_n 2, 1, 2, 0, 0, 0, 0), (.aload_n 0, 1, 0, 0, 0, 0, 0), (.getfield 12, 3, 7, 0, 0, 0, 316), (.getfield 109, 3, 0, 3, 0, 0, 230), (.invokevirtual 129, 3, 18, 1, 0, 3, 553), (.iload_n 2, 1, 2, 0, 0, 0, 0), (.ifCond .lt 8, 3, 49, 0, 0, 0, 0), (.bipush (-10), 2, 10, 1, 0, 0, 0), (.iload_n 2, 1, 2, 0, 0, 0, 0), (.isub, 1, 0, 0, 0, 0, 0), (.ireturn, 1, 0, 0, 0, 0, 0)]
def cX7_text_49 : oh_C := [(.aload_n 0, 1, 0, 0, 0, 0, 0), (.iload_n 1, 1, 1, 0, 0, 0, 0), (.invokevirtual 132, 3, 89, 2, 3, 7, 554)]
def cX7_text_54 : oh_C := [(.getfield 136, 3, 1, 1, 0, 0, 212), (.aload_n 0, 1, 0, 0, 0, 0, 0), (.getfield 29, 3, 7, 3, 0, 0, 319), (.getfield 141, 3, 2, 0, 0, 0, 260), (.invokevirtual 142, 3, 19, 2, 0, 3, 558), (.iconst 1, 1, 1, 0, 0, 0, 0), (.ireturn, 1, 0, 0, 0, 0, 0)]
def tX7_text : oh_T := [(0, none, cX7_text_0), (14, none, cX7_text_14), (49, none, cX7_text_49), (54, some [true, false, false], cX7_text_54)]
def cX7_law_0 : oh_C := [(.iload_n 1, 1, 1, 0, 0, 0, 0), (.invokestatic 122, 3, 85, 1, 1, 0, 416), (.ifCond .ne 10, 3, 14, 0, 0, 0, 0), (.aload_n 0, 1, 0, 0, 0, 0, 0), (.ldc 55, 2, 1000000001, 0, 0, 1, 348), (.invokevirtual 56, 3, 81, 2, 1, 7, 349), (.ireturn, 1, 0, 0, 0, 0, 0)]
def cX7_law_14 : oh_C := [(.aload_n 0, 1, 0, 0, 0, 0, 0), (.iload_n 1, 1, 1, 0, 0, 0, 0), (.invokevirtual 132, 3, 89, 2, 3, 7, 554)]
def cX7_law_19 : oh_C := [(.iload_n 2, 1, 2, 0, 0, 0, 0), (.iload_n 3, 1, 3, 0, 0, 0, 0), (.iload 4, 2, 4, 0, 0, 0, 0), (.iload 5, 2, 5, 0, 0, 0, 0), (.invokevirtual 146, 3, 3, 5, 1, 1, 563), (.ireturn, 1, 0, 0, 0, 0, 0)]
def tX7_law : oh_T := [(0, none, cX7_law_0), (14, none, cX7_law_14), (19, some [false, false, true, true, true, true], cX7_law_19)]
def cX7_open_0 : oh_C := [(.aload_n 0, 1, 0, 0, 0, 0, 0), (.getfield 12, 3, 7, 0, 0, 0, 316), (.getfield 60, 3, 0, 0, 0, 0, 224), (.astore_n 1, 1, 1, 0, 0, 0, 0), (.aload_n 1, 1, 1, 0, 0, 0, 0), (.getfield 63, 3, 4, 7, 0, 0, 152), (.ifCond .eq 10, 3, 22, 0, 0, 0, 0), (.aload_n 0, 1, 0, 0, 0, 0, 0), (.ldc 67, 2, 1000000003, 0, 0, 1, 354), (.invokevirtual 56, 3, 81, 2, 1, 7, 349), (.ireturn, 1, 0, 0, 0, 0, 0)]
def cX7_open_22 : oh_C := [(.aload_n 1, 1, 1, 0, 0, 0, 0), (.aload_n 0, 1, 0, 0, 0, 0, 0), (.getfield 12, 3, 7, 0, 0, 0, 316), (.getfield 150, 3, 0, 1, 0, 0, 226), (.invokevirtual 154, 3, 23, 2, 2, 4, 587), (.lstore_n 2, 1, 2, 0, 0, 0, 0), (.lload_n 2, 1, 2, 0, 0, 0, 0), (.aload_n 1, 1, 1, 0, 0, 0, 0), (.getfield 85, 3, 4, 5, 0, 0, 149), (.invokestatic 158, 3, 99, 2, 1, 0, 600), (.ifCond .ne 10, 3, 52, 0, 0, 0, 0), (.aload_n 0, 1, 0, 0, 0, 0, 0), (.ldc 67, 2, 1000000003, 0, 0, 1, 354), (.invokevirtual 56, 3, 81, 2, 1, 7, 349), (.ireturn, 1, 0, 0, 0, 0, 0)]
def cX7_open_52 : oh_C := [(.aload_n 1, 1, 1, 0, 0, 0, 0), (.iconst 1, 1, 1, 0, 0, 0, 0), (.putfield 63, 3, 4, 7, 0, 0, 152), (.aload_n 1, 1, 1, 0, 0, 0, 0), (.lload_n 2, 1, 2, 0, 0, 0, 0), (.putfield 162, 3, 4, 8, 0, 0, 155), (.aload_n 1, 1, 1, 0, 0, 0, 0), (.iconst 0, 1, 0, 0, 0, 0, 0), (.putfield 166, 3, 4, 9, 0, 0, 157), (.aload_n 1, 1, 1, 0, 0, 0, 0), (.iconst 0, 1, 0, 0, 0, 0, 0), (.putfield 169, 3, 4, 10, 0, 0, 159), (.lload_n 2, 1, 2, 0, 0, 0, 0), (.invokestatic 172, 3, 199, 1, 1, 0, 603), (.ireturn, 1, 0, 0, 0, 0, 0)]
def tX7_open : oh_T := [(0, none, cX7_open_0), (22, none, cX7_open_22), (52, none, cX7_open_52)]
def cX7_close_0 : oh_C := [(.aload_n 0, 1, 0, 0, 0, 0, 0), (.getfield 12, 3, 7, 0, 0, 0, 316), (.getfield 60, 3, 0, 0, 0, 0, 224), (.getfield 63, 3, 4, 7, 0, 0, 152), (.ifCond .ne 10, 3, 20, 0, 0, 0, 0), (.aload_n 0, 1, 0, 0, 0, 0, 0), (.ldc 67, 2, 1000000003, 0, 0, 1, 354), (.invokevirtual 56, 3, 81, 2, 1, 7, 349), (.ireturn, 1, 0, 0, 0, 0, 0)]
def cX7_close_20 : oh_C := [(.aload_n 0, 1, 0, 0, 0, 0, 0), (.getfield 12, 3, 7, 0, 0, 0, 316), (.getfield 60, 3, 0, 0, 0, 0, 224), (.iconst 0, 1, 0, 0, 0, 0, 0), (.putfield 63, 3, 4, 7, 0, 0, 152), (.aload_n 0, 1, 0, 0, 0, 0, 0), (.getfield 12, 3, 7, 0, 0, 0, 316), (.getfield 60, 3, 0, 0, 0, 0, 224), (.lconst 0, 1, 0, 0, 0, 0, 0), (.putfield 162, 3, 4, 8, 0, 0, 155), (.aload_n 0, 1, 0, 0, 0, 0, 0), (.getfield 12, 3, 7, 0, 0, 0, 316), (.getfield 60, 3, 0, 0, 0, 0, 224), (.getfield 166, 3, 4, 9, 0, 0, 157), (.invokestatic 178, 3, 198, 1, 1, 0, 613), (.ireturn, 1, 0, 0, 0, 0, 0)]
def tX7_close : oh_T := [(0, none, cX7_close_0), (20, none, cX7_close_20)]
def cX7_bells_0 : oh_C := [(.aload_n 0, 1, 0, 0, 0, 0, 0), (.iload_n 1, 1, 1, 0, 0, 0, 0), (.invokevirtual 182, 3, 90, 2, 1, 7, 618), (.istore_n 2, 1, 2, 0, 0, 0, 0), (.iload_n 2, 1, 2, 0, 0, 0, 0), (.ifCond .eq 9, 3, 16, 0, 0, 0, 0), (.aload_n 0, 1, 0, 0, 0, 0, 0), (.iload_n 2, 1, 2, 0, 0, 0, 0), (.invokevirtual 56, 3, 81, 2, 1, 7, 349), (.ireturn, 1, 0, 0, 0, 0, 0)]
def cX7_bells_16 : oh_C := [(.iconst 0, 1, 0, 0, 0, 0, 0), (.istore_n 3, 1, 3, 0, 0, 0, 0)]
def cX7_bells_18 : oh_C := [(.iload_n 3, 1, 3, 0, 0, 0, 0), (.iload_n 1, 1, 1, 0, 0, 0, 0), (.if_icmp .ge 27, 3, 47, 0, 0, 0, 0), (.aload_n 0, 1, 0, 0, 0, 0, 0), (.getfield 12, 3, 7, 0, 0, 0, 316), (.getfield 60, 3, 0, 0, 0, 0, 224), (.aload_n 0, 1, 0, 0, 0, 0, 0), (.getfield 12, 3, 7, 0, 0, 0, 316), (.getfield 185, 3, 0, 2, 0, 0, 228), (.invokevirtual 188, 3, 30, 2, 1, 4, 622), (.pop, 1, 0, 0, 0, 0, 0), (.iinc 3 1, 3, 3, 1, 0, 0, 0), (.goto (-26), 3, 18, 0, 0, 0, 0)]
def cX7_bells_47 : oh_C := [(.aload_n 0, 1, 0, 0, 0, 0, 0), (.getfield 12, 3, 7, 0, 0, 0, 316), (.getfield 60, 3, 0, 0, 0, 0, 224), (.getfield 166, 3, 4, 9, 0, 0, 157), (.ireturn, 1, 0, 0, 0, 0, 0)]
def tX7_bells : oh_T := [(0, none, cX7_bells_0), (16, none, cX7_bells_16), (18, some [true, true, false, true], cX7_bells_18), (47, none, cX7_bells_47)]
def cX7_loose_0 : oh_C := [(.aload_n 0, 1, 0, 0, 0, 0, 0), (.iload_n 1, 1, 1, 0, 0, 0, 0), (.invokevirtual 182, 3, 90, 2, 1, 7, 618), (.istore_n 2, 1, 2, 0, 0, 0, 0), (.iload_n 2, 1, 2, 0, 0, 0, 0), (.ifCond .eq 9, 3, 16, 0, 0, 0, 0), (.aload_n 0, 1, 0, 0, 0, 0, 0), (.iload_n 2, 1, 2, 0, 0, 0, 0), (.invokevirtual 56, 3, 81, 2, 1, 7, 349), (.ireturn, 1, 0, 0, 0, 0, 0)]
def cX7_loose_16 : oh_C := [(.iconst 0, 1, 0, 0, 0, 0, 0), (.istore_n 3, 1, 3, 0, 0, 0, 0)]
def cX7_loose_18 : oh_C := [(.iload_n 3, 1, 3, 0, 0, 0, 0), (.iload_n 1, 1, 1, 0, 0, 0, 0), (.if_icmp .ge 16, 3, 36, 0, 0, 0, 0), (.aload_n 0, 1, 0, 0, 0, 0, 0), (.getfield 12, 3, 7, 0, 0, 0, 316), (.invokevirtual 192, 3, 2, 1, 0, 0, 691), (.iinc 3 1, 3, 3, 1, 0, 0, 0), (.goto (-15), 3, 18, 0, 0, 0, 0)]
def cX7_loose_36 : oh_C := [(.aload_n 0, 1, 0, 0, 0, 0, 0), (.getfield 12, 3, 7, 0, 0, 0, 316), (.getfield 60, 3, 0, 0, 0, 0, 224), (.getfield 166, 3, 4, 9, 0, 0, 157), (.ireturn, 1, 0, 0, 0, 0, 0)]
def tX7_loose : oh_T := [(0, none, cX7_loose_0), (16, none, cX7_loose_16), (18, some [true, true, false, true], cX7_loose_18), (36, none, cX7_loose_36)]
def cX7_possible_0 : oh_C := [(.aload_n 0, 1, 0, 0, 0, 0, 0), (.iload_n 1, 1, 1, 0, 0, 0, 0), (.invokevirtual 98, 3, 83, 2, 1, 7, 378), (.ifCond .ne 10, 3, 15, 0, 0, 0, 0), (.aload_n 0, 1, 0, 0, 0, 0, 0), (.ldc 55, 2, 1000000001, 0, 0, 1, 348), (.invokevirtual 56, 3, 81, 2, 1, 7, 349), (.ireturn, 1, 0, 0, 0, 0, 0)]
def cX7_possible_15 : oh_C := [(.aload_n 0, 1, 0, 0, 0, 0, 0), (.getfield 12, 3, 7, 0, 0, 0, 316), (.getfield 60, 3, 0, 0, 0, 0, 224), (.getfield 63, 3, 4, 7, 0, 0, 152), (.ifCond .ne 10, 3, 35, 0, 0, 0, 0), (.aload_n 0, 1, 0, 0, 0, 0, 0), (.ldc 67, 2, 1000000003, 0, 0, 1, 354), (.invokevirtual 56, 3, 81, 2, 1, 7, 349), (.ireturn, 1, 0, 0, 0, 0, 0)]
def cX7_possible_35 : oh_C := [(.aload_n 0, 1, 0, 0, 0, 0, 0), (.getfield 12, 3, 7, 0, 0, 0, 316), (.getfield 60, 3, 0, 0, 0, 0, 224), (.getfield 162, 3, 4, 8, 0, 0, 155), (.iload_n 1, 1, 1, 0, 0, 0, 0), (.invokestatic 158, 3, 99, 2, 1, 0, 600), (.ifCond .eq 7, 3, 56, 0, 0, 0, 0), (.iconst 1, 1, 1, 0, 0, 0, 0), (.goto 4, 3, 57, 0, 0, 0, 0)]
def cX7_possible_56 : oh_C := [(.iconst 0, 1, 0, 0, 0, 0, 0)]
def cX7_possible_57 : oh_C := [(.ireturn, 1, 0, 0, 0, 0, 0)]
def tX7_possible : oh_T := [(0, none, cX7_possible_0), (15, none, cX7_possible_15), (35, none, cX7_possible_35), (56, none, cX7_possible_56), (57, none, cX7_possible_57)]
def cX7_thinks_0 : oh_C := [(.aload_n 0, 1, 0, 0, 0, 0, 0), (.iload_n 1, 1, 1, 0, 0, 0, 0), (.invokevirtual 76, 3, 82, 2, 1, 7, 367), (.ifCond .eq 12, 3, 17, 0, 0, 0, 0), (.iload_n 2, 1, 2, 0, 0, 0, 0), (.ifCond .lt 8, 3, 17, 0, 0, 0, 0), (.iload_n 2, 1, 2, 0, 0, 0, 0), (.iconst 4, 1, 4, 0, 0, 0, 0), (.if_icmp .le 10, 3, 24, 0, 0, 0, 0)]
def cX7_thinks_17 : oh_C := [(.aload_n 0, 1, 0, 0, 0, 0, 0), (.ldc 55, 2, 1000000001, 0, 0, 1, 348), (.invokevirtual 56, 3, 81, 2, 1, 7, 349), (.ireturn, 1, 0, 0, 0, 0, 0)]
def cX7_thinks_24 : oh_C := [(.aload_n 0, 1, 0, 0, 0, 0, 0), (.getfield 12, 3, 7, 0, 0, 0, 316), (.getfield 60, 3, 0, 0, 0, 0, 224), (.astore_n 3, 1, 3, 0, 0, 0, 0), (.aload_n 3, 1, 3, 0, 0, 0, 0), (.getfield 63, 3, 4, 7, 0, 0, 152), (.ifCond .ne 10, 3, 46, 0, 0, 0, 0), (.aload_n 0, 1, 0, 0, 0, 0, 0), (.ldc 67, 2, 1000000003, 0, 0, 1, 354), (.invokevirtual 56, 3, 81, 2, 1, 7, 349), (.ireturn, 1, 0, 0, 0, 0, 0)]
def cX7_thinks_46 : oh_C := [(.aload_n 3, 1, 3, 0, 0, 0, 0), (.iload_n 1, 1, 1, 0, 0, 0, 0), (.aload_n 3, 1, 3, 0, 0, 0, 0), (.getfield 85, 3, 4, 5, 0, 0, 149), (.invokevirtual 195, 3, 24, 3, 2, 4, 712), (.lstore 4, 2, 4, 0, 0, 0, 0), (.iload_n 2, 1, 2, 0, 0, 0, 0), (.tableswitch 66 0 3 #[30, 37, 44, 59], 30, 0, 0, 0, 0, 0)]
def cX7_thinks_88 : oh_C := [(.iload_n 1, 1, 1, 0, 0, 0, 0), (.lload 4, 2, 4, 0, 0, 0, 0), (.invokestatic 199, 3, 100, 2, 1, 0, 668), (.ireturn, 1, 0, 0, 0, 0, 0)]
def cX7_thinks_95 : oh_C := [(.iload_n 1, 1, 1, 0, 0, 0, 0), (.lload 4, 2, 4, 0, 0, 0, 0), (.invokestatic 203, 3, 101, 2, 1, 0, 669), (.ireturn, 1, 0, 0, 0, 0, 0)]
def cX7_thinks_102 : oh_C := [(.iload_n 1, 1, 1, 0, 0, 0, 0), (.lload 4, 2, 4, 0, 0, 0, 0), (.invokestatic 206, 3, 102, 2, 1, 0, 713), (.ifCond .eq 7, 3, 115, 0, 0, 0, 0), (.iconst 1, 1, 1, 0, 0, 0, 0), (.goto 4, 3, 116, 0, 0, 0, 0)]
def cX7_thinks_115 : oh_C := [(.iconst 0, 1, 0, 0, 0, 0, 0)]
def cX7_thinks_116 : oh_C := [(.ireturn, 1, 0, 0, 0, 0, 0)]
def cX7_thinks_117 : oh_C := [(.iload_n 1, 1, 1, 0, 0, 0, 0), (.lload 4, 2, 4, 0, 0, 0, 0), (.invokestatic 210, 3, 103, 2, 1, 0, 714), (.ireturn, 1, 0, 0, 0, 0, 0)]
def cX7_thinks_124 : oh_C := [(.aload_n 3, 1, 3, 0, 0, 0, 0), (.iload_n 1, 1, 1, 0, 0, 0, 0), (.lload 4, 2, 4, 0, 0, 0, 0), (.invokevirtual 213, 3, 26, 3, 1, 4, 715), (.ifCond .eq 7, 3, 138, 0, 0, 0, 0), (.iconst 1, 1, 1, 0, 0, 0, 0), (.goto 4, 3, 139, 0, 0, 0, 0)]
def cX7_thinks_138 : oh_C := [(.iconst 0, 1, 0, 0, 0, 0, 0)]
def cX7_thinks_139 : oh_C := [(.ireturn, 1, 0, 0, 0, 0, 0)]
def tX7_thinks : oh_T := [(0, none, cX7_thinks_0), (17, none, cX7_thinks_17), (24, none, cX7_thinks_24), (46, none, cX7_thinks_46), (88, none, cX7_thinks_88), (95, none, cX7_thinks_95), (102, none, cX7_thinks_102), (115, none, cX7_thinks_115), (116, none, cX7_thinks_116), (117, none, cX7_thinks_117), (124, none, cX7_thinks_124), (138, none, cX7_thinks_138), (139, none, cX7_thinks_139)]
def cX7_then_0 : oh_C := [(.iload_n 1, 1, 1, 0, 0, 0, 0), (.invokestatic 216, 3, 86, 1, 1, 0, 720), (.ifCond .eq 12, 3, 16, 0, 0, 0, 0), (.iload_n 2, 1, 2, 0, 0, 0, 0), (.ifCond .lt 8, 3, 16, 0, 0, 0, 0), (.iload_n 2, 1, 2, 0, 0, 0, 0), (.iconst 1, 1, 1, 0, 0, 0, 0), (.if_icmp .le 10, 3, 23, 0, 0, 0, 0)]
def cX7_then_16 : oh_C := [(.aload_n 0, 1, 0, 0, 0, 0, 0), (.ldc 55, 2, 1000000001, 0, 0, 1, 348), (.invokevirtual 56, 3, 81, 2, 1, 7, 349), (.ireturn, 1, 0, 0, 0, 0, 0)]
def cX7_then_23 : oh_C := [(.aload_n 0, 1, 0, 0, 0, 0, 0), (.getfield 12, 3, 7, 0, 0, 0, 316), (.getfield 60, 3, 0, 0, 0, 0, 224), (.getfield 63, 3, 4, 7, 0, 0, 152), (.ifCond .ne 10, 3, 43, 0, 0, 0, 0), (.aload_n 0, 1, 0, 0, 0, 0, 0), (.ldc 67, 2, 1000000003, 0, 0, 1, 354), (.invokevirtual 56, 3, 81, 2, 1, 7, 349), (.ireturn, 1, 0, 0, 0, 0, 0)]
def cX7_then_43 : oh_C := [(.aload_n 0, 1, 0, 0, 0, 0, 0), (.invokevirtual 219, 3, 91, 1, 0, 7, 723), (.aload_n 0, 1, 0, 0, 0, 0, 0), (.iload_n 1, 1, 1, 0, 0, 0, 0), (.invokevirtual 222, 3, 92, 2, 1, 7, 731), (.pop, 1, 0, 0, 0, 0, 0), (.iload_n 2, 1, 2, 0, 0, 0, 0), (.ifCond .ne 13, 3, 67, 0, 0, 0, 0), (.aload_n 0, 1, 0, 0, 0, 0, 0), (.getfield 22, 3, 7, 2, 0, 0, 318), (.getfield 166, 3, 4, 9, 0, 0, 157), (.goto 13, 3, 77, 0, 0, 0, 0)]
def cX7_then_67 : oh_C := [(.aload_n 0, 1, 0, 0, 0, 0, 0), (.getfield 22, 3, 7, 2, 0, 0, 318), (.getfield 162, 3, 4, 8, 0, 0, 155), (.invokestatic 172, 3, 199, 1, 1, 0, 603)]
def cX7_then_77 : oh_C := [(.ireturn, 1, 0, 0, 0, 0, 0)]
def tX7_then : oh_T := [(0, none, cX7_then_0), (16, none, cX7_then_16), (23, none, cX7_then_23), (43, none, cX7_then_43), (67, none, cX7_then_67), (77, none, cX7_then_77)]
def cX7_thenPaid_0 : oh_C := [(.iload_n 1, 1, 1, 0, 0, 0, 0), (.invokestatic 216, 3, 86, 1, 1, 0, 720), (.ifCond .eq 11, 3, 15, 0, 0, 0, 0), (.aload_n 0, 1, 0, 0, 0, 0, 0), (.iload_n 2, 1, 2, 0, 0, 0, 0), (.invokevirtual 76, 3, 82, 2, 1, 7, 367), (.ifCond .ne 10, 3, 22, 0, 0, 0, 0)]
def cX7_thenPaid_15 : oh_C := [(.aload_n 0, 1, 0, 0, 0, 0, 0), (.ldc 55, 2, 1000000001, 0, 0, 1, 348), (.invokevirtual 56, 3, 81, 2, 1, 7, 349), (.ireturn, 1, 0, 0, 0, 0, 0)]
def cX7_thenPaid_22 : oh_C := [(.aload_n 0, 1, 0, 0, 0, 0, 0), (.getfield 12, 3, 7, 0, 0, 0, 316), (.getfield 60, 3, 0, 0, 0, 0, 224), (.getfield 63, 3, 4, 7, 0, 0, 152), (.ifCond .ne 10, 3, 42, 0, 0, 0, 0), (.aload_n 0, 1, 0, 0, 0, 0, 0), (.ldc 67, 2, 1000000003, 0, 0, 1, 354), (.invokevirtual 56, 3, 81, 2, 1, 7, 349), (.ireturn, 1, 0, 0, 0, 0, 0)]
def cX7_thenPaid_42 : oh_C := [(.aload_n 0, 1, 0, 0, 0, 0, 0), (.invokevirtual 219, 3, 91, 1, 0, 7, 723), (.aload_n 0, 1, 0, 0, 0, 0, 0), (.iload_n 1, 1, 1, 0, 0, 0, 0), (.invokevirtual 222, 3, 92, 2, 1, 7, 731), (.pop, 1, 0, 0, 0, 0, 0), (.aload_n 0, 1, 0, 0, 0, 0, 0), (.getfield 22, 3, 7, 2, 0, 0, 318), (.getfield 95, 3, 4, 4, 0, 0, 147), (.iload_n 2, 1, 2, 0, 0, 0, 0), (.iaload, 1, 0, 0, 0, 0, 0), (.ireturn, 1, 0, 0, 0, 0, 0)]
def tX7_thenPaid : oh_T := [(0, none, cX7_thenPaid_0), (15, none, cX7_thenPaid_15), (22, none, cX7_thenPaid_22), (42, none, cX7_thenPaid_42)]
def cX7_when_0 : oh_C := [(.aload_n 0, 1, 0, 0, 0, 0, 0), (.iload_n 1, 1, 1, 0, 0, 0, 0), (.invokevirtual 76, 3, 82, 2, 1, 7, 367), (.ifCond .ne 10, 3, 15, 0, 0, 0, 0), (.aload_n 0, 1, 0, 0, 0, 0, 0), (.ldc 55, 2, 1000000001, 0, 0, 1, 348), (.invokevirtual 56, 3, 81, 2, 1, 7, 349), (.ireturn, 1, 0, 0, 0, 0, 0)]
def cX7_when_15 : oh_C := [(.aload_n 0, 1, 0, 0, 0, 0, 0), (.getfield 12, 3, 7, 0, 0, 0, 316), (.getfield 60, 3, 0, 0, 0, 0, 224), (.getfield 63, 3, 4, 7, 0, 0, 152), (.ifCond .ne 10, 3, 35, 0, 0, 0, 0), (.aload_n 0, 1, 0, 0, 0, 0, 0), (.ldc 67, 2, 1000000003, 0, 0, 1, 354), (.invokevirtual 56, 3, 81, 2, 1, 7, 349), (.ireturn, 1, 0, 0, 0, 0, 0)]
def cX7_when_35 : oh_C := [(.aload_n 0, 1, 0, 0, 0, 0, 0), (.invokevirtual 219, 3, 91, 1, 0, 7, 723), (.aload_n 0, 1, 0, 0, 0, 0, 0), (.iload_n 1, 1, 1, 0, 0, 0, 0), (.invokevirtual 225, 3, 93, 2, 1, 7, 747), (.istore_n 2, 1, 2, 0, 0, 0, 0), (.iload_n 2, 1, 2, 0, 0, 0, 0), (.bipush 30, 2, 30, 0, 0, 0, 0), (.if_icmp .le 12, 3, 60, 0, 0, 0, 0), (.aload_n 0, 1, 0, 0, 0, 0, 0), (.ldc 228, 2, 1000000002, 0, 0, 1, 751), (.invokevirtual 56, 3, 81, 2, 1, 7, 349), (.goto 4, 3, 61, 0, 0, 0, 0)]
def cX7_when_60 : oh_C := [(.iload_n 2, 1, 2, 0, 0, 0, 0)]
def cX7_when_61 : oh_C := [(.ireturn, 1, 0, 0, 0, 0, 0)]
def tX7_when : oh_T := [(0, none, cX7_when_0), (15, none, cX7_when_15), (35, none, cX7_when_35), (60, none, cX7_when_60), (61, none, cX7_when_61)]
def cX7_silence_0 : oh_C := [(.aload_n 0, 1, 0, 0, 0, 0, 0), (.iload_n 1, 1, 1, 0, 0, 0, 0), (.invokevirtual 76, 3, 82, 2, 1, 7, 367), (.ifCond .eq 10, 3, 15, 0, 0, 0, 0), (.iload_n 2, 1, 2, 0, 0, 0, 0), (.invokestatic 216, 3, 86, 1, 1, 0, 720), (.ifCond .ne 10, 3, 22, 0, 0, 0, 0)]
def cX7_silence_15 : oh_C := [(.aload_n 0, 1, 0, 0, 0, 0, 0), (.ldc 55, 2, 1000000001, 0, 0, 1, 348), (.invokevirtual 56, 3, 81, 2, 1, 7, 349), (.ireturn, 1, 0, 0, 0, 0, 0)]
def cX7_silence_22 : oh_C := [(.aload_n 0, 1, 0, 0, 0, 0, 0), (.getfield 12, 3, 7, 0, 0, 0, 316), (.getfield 60, 3, 0, 0, 0, 0, 224), (.getfield 63, 3, 4, 7, 0, 0, 152), (.ifCond .ne 10, 3, 42, 0, 0, 0, 0), (.aload_n 0, 1, 0, 0, 0, 0, 0), (.ldc 67, 2, 1000000003, 0, 0, 1, 354), (.invokevirtual 56, 3, 81, 2, 1, 7, 349), (.ireturn, 1, 0, 0, 0, 0, 0)]
def cX7_silence_42 : oh_C := [(.iconst 1, 1, 1, 0, 0, 0, 0), (.iload_n 1, 1, 1, 0, 0, 0, 0), (.ishl, 1, 0, 0, 0, 0, 0), (.iconst (-1), 1, 1, 1, 0, 0, 0), (.ixor, 1, 0, 0, 0, 0, 0), (.istore_n 3, 1, 3, 0, 0, 0, 0), (.aload_n 0, 1, 0, 0, 0, 0, 0), (.invokevirtual 219, 3, 91, 1, 0, 7, 723), (.aload_n 0, 1, 0, 0, 0, 0, 0), (.iload_n 2, 1, 2, 0, 0, 0, 0), (.invokevirtual 222, 3, 92, 2, 1, 7, 731), (.pop, 1, 0, 0, 0, 0, 0), (.aload_n 0, 1, 0, 0, 0, 0, 0), (.getfield 22, 3, 7, 2, 0, 0, 318), (.getfield 166, 3, 4, 9, 0, 0, 157), (.iload_n 3, 1, 3, 0, 0, 0, 0), (.iand, 1, 0, 0, 0, 0, 0), (.invokestatic 178, 3, 198, 1, 1, 0, 613), (.istore 4, 2, 4, 0, 0, 0, 0), (.aload_n 0, 1, 0, 0, 0, 0, 0), (.invokevirtual 219, 3, 91, 1, 0, 7, 723), (.aload_n 0, 1, 0, 0, 0, 0, 0), (.getfield 22, 3, 7, 2, 0, 0, 318), (.getfield 79, 3, 4, 1, 0, 0, 140), (.iload_n 1, 1, 1, 0, 0, 0, 0), (.iconst 3, 1, 3, 0, 0, 0, 0), (.iastore, 1, 0, 0, 0, 0, 0), (.aload_n 0, 1, 0, 0, 0, 0, 0), (.iload_n 2, 1, 2, 0, 0, 0, 0), (.invokevirtual 222, 3, 92, 2, 1, 7, 731), (.pop, 1, 0, 0, 0, 0, 0), (.iload 4, 2, 4, 0, 0, 0, 0), (.aload_n 0, 1, 0, 0, 0, 0, 0), (.getfield 22, 3, 7, 2, 0, 0, 318), (.getfield 166, 3, 4, 9, 0, 0, 157), (.iload_n 3, 1, 3, 0, 0, 0, 0), (.iand, 1, 0, 0, 0, 0, 0), (.invokestatic 178, 3, 198, 1, 1, 0, 613), (.isub, 1, 0, 0, 0, 0, 0), (.ireturn, 1, 0, 0, 0, 0, 0)]
def tX7_silence : oh_T := [(0, none, cX7_silence_0), (15, none, cX7_silence_15), (22, none, cX7_silence_22), (42, none, cX7_silence_42)]
def cX7_trick_0 : oh_C := [(.iload_n 1, 1, 1, 0, 0, 0, 0), (.invokestatic 216, 3, 86, 1, 1, 0, 720), (.ifCond .eq 12, 3, 16, 0, 0, 0, 0), (.iload_n 2, 1, 2, 0, 0, 0, 0), (.ifCond .lt 8, 3, 16, 0, 0, 0, 0), (.iload_n 2, 1, 2, 0, 0, 0, 0), (.iconst 1, 1, 1, 0, 0, 0, 0), (.if_icmp .le 10, 3, 23, 0, 0, 0, 0)]
def cX7_trick_16 : oh_C := [(.aload_n 0, 1, 0, 0, 0, 0, 0), (.ldc 55, 2, 1000000001, 0, 0, 1, 348), (.invokevirtual 56, 3, 81, 2, 1, 7, 349), (.ireturn, 1, 0, 0, 0, 0, 0)]
def cX7_trick_23 : oh_C := [(.aload_n 0, 1, 0, 0, 0, 0, 0), (.getfield 12, 3, 7, 0, 0, 0, 316), (.getfield 60, 3, 0, 0, 0, 0, 224), (.getfield 63, 3, 4, 7, 0, 0, 152), (.ifCond .ne 10, 3, 43, 0, 0, 0, 0), (.aload_n 0, 1, 0, 0, 0, 0, 0), (.ldc 67, 2, 1000000003, 0, 0, 1, 354), (.invokevirtual 56, 3, 81, 2, 1, 7, 349), (.ireturn, 1, 0, 0, 0, 0, 0)]
def cX7_trick_43 : oh_C := [(.bipush 7, 2, 7, 0, 0, 0, 0), (.istore_n 3, 1, 3, 0, 0, 0, 0), (.iconst 0, 1, 0, 0, 0, 0, 0), (.istore 4, 2, 4, 0, 0, 0, 0), (.aload_n 0, 1, 0, 0, 0, 0, 0), (.getfield 12, 3, 7, 0, 0, 0, 316), (.getfield 60, 3, 0, 0, 0, 0, 224), (.getfield 162, 3, 4, 8, 0, 0, 155), (.lstore 5, 2, 5, 0, 0, 0, 0), (.iconst 0, 1, 0, 0, 0, 0, 0), (.istore 7, 2, 7, 0, 0, 0, 0)]
def cX7_trick_64 : oh_C := [(.iload 7, 2, 7, 0, 0, 0, 0), (.aload_n 0, 1, 0, 0, 0, 0, 0), (.getfield 12, 3, 7, 0, 0, 0, 316), (.getfield 60, 3, 0, 0, 0, 0, 224), (.invokevirtual 229, 3, 21, 1, 1, 4, 382), (.if_icmp .ge 76, 3, 152, 0, 0, 0, 0), (.lload 5, 2, 5, 0, 0, 0, 0), (.iload 7, 2, 7, 0, 0, 0, 0), (.invokestatic 158, 3, 99, 2, 1, 0, 600), (.ifCond .eq 60, 3, 146, 0, 0, 0, 0), (.aload_n 0, 1, 0, 0, 0, 0, 0), (.invokevirtual 219, 3, 91, 1, 0, 7, 723), (.aload_n 0, 1, 0, 0, 0, 0, 0), (.getfield 22, 3, 7, 2, 0, 0, 318), (.iload 7, 2, 7, 0, 0, 0, 0), (.putfield 85, 3, 4, 5, 0, 0, 149), (.aload_n 0, 1, 0, 0, 0, 0, 0), (.iload_n 1, 1, 1, 0, 0, 0, 0), (.invokevirtual 222, 3, 92, 2, 1, 7, 731), (.pop, 1, 0, 0, 0, 0, 0), (.aload_n 0, 1, 0, 0, 0, 0, 0), (.getfield 22, 3, 7, 2, 0, 0, 318), (.getfield 166, 3, 4, 9, 0, 0, 157), (.invokestatic 178, 3, 198, 1, 1, 0, 613), (.istore 8, 2, 8, 0, 0, 0, 0), (.iload 8, 2, 8, 0, 0, 0, 0), (.iload_n 3, 1, 3, 0, 0, 0, 0), (.if_icmp .ge 10, 3, 133, 0, 0, 0, 0), (.iload 8, 2, 8, 0, 0, 0, 0), (.istore_n 3, 1, 3, 0, 0, 0, 0), (.iload 7, 2, 7, 0, 0, 0, 0), (.istore 4, 2, 4, 0, 0, 0, 0)]
def cX7_trick_133 : oh_C := [(.lload 5, 2, 5, 0, 0, 0, 0), (.aload_n 0, 1, 0, 0, 0, 0, 0), (.invokevirtual 233, 3, 94, 1, 2, 7, 760), (.ldc2_w 237, 3, 1, 1, 0, 0, 637), (.lxor, 1, 0, 0, 0, 0, 0), (.land, 1, 0, 0, 0, 0, 0), (.lstore 5, 2, 5, 0, 0, 0, 0)]
def cX7_trick_146 : oh_C := [(.iinc 7 1, 3, 7, 1, 0, 0, 0), (.goto (-85), 3, 64, 0, 0, 0, 0)]
def cX7_trick_152 : oh_C := [(.iload_n 2, 1, 2, 0, 0, 0, 0), (.ifCond .ne 8, 3, 161, 0, 0, 0, 0), (.iload 4, 2, 4, 0, 0, 0, 0), (.goto 4, 3, 162, 0, 0, 0, 0)]
def cX7_trick_161 : oh_C := [(.iload_n 3, 1, 3, 0, 0, 0, 0)]
def cX7_trick_162 : oh_C := [(.ireturn, 1, 0, 0, 0, 0, 0)]
def tX7_trick : oh_T := [(0, none, cX7_trick_0), (16, none, cX7_trick_16), (23, none, cX7_trick_23), (43, none, cX7_trick_43), (64, some [true, true, true, true, true, true, false, true, false], cX7_trick_64), (133, none, cX7_trick_133), (146, none, cX7_trick_146), (152, none, cX7_trick_152), (161, none, cX7_trick_161), (162, none, cX7_trick_162)]
def cX7_longest_0 : oh_C := [(.aload_n 0, 1, 0, 0, 0, 0, 0), (.getfield 12, 3, 7, 0, 0, 0, 316), (.getfield 60, 3, 0, 0, 0, 0, 224), (.getfield 63, 3, 4, 7, 0, 0, 152), (.ifCond .ne 10, 3, 20, 0, 0, 0, 0), (.aload_n 0, 1, 0, 0, 0, 0, 0), (.ldc 67, 2, 1000000003, 0, 0, 1, 354), (.invokevirtual 56, 3, 81, 2, 1, 7, 349), (.ireturn, 1, 0, 0, 0, 0, 0)]
def cX7_longest_20 : oh_C := [(.iconst 0, 1, 0, 0, 0, 0, 0), (.istore_n 1, 1, 1, 0, 0, 0, 0), (.aload_n 0, 1, 0, 0, 0, 0, 0), (.getfield 12, 3, 7, 0, 0, 0, 316), (.getfield 60, 3, 0, 0, 0, 0, 224), (.getfield 162, 3, 4, 8, 0, 0, 155), (.lstore_n 2, 1, 2, 0, 0, 0, 0), (.iconst 0, 1, 0, 0, 0, 0, 0), (.istore 4, 2, 4, 0, 0, 0, 0)]
def cX7_longest_36 : oh_C := [(.iload 4, 2, 4, 0, 0, 0, 0), (.aload_n 0, 1, 0, 0, 0, 0, 0), (.getfield 12, 3, 7, 0, 0, 0, 316), (.getfield 60, 3, 0, 0, 0, 0, 224), (.invokevirtual 229, 3, 21, 1, 1, 4, 382), (.if_icmp .ge 53, 3, 101, 0, 0, 0, 0), (.lload_n 2, 1, 2, 0, 0, 0, 0), (.iload 4, 2, 4, 0, 0, 0, 0), (.invokestatic 158, 3, 99, 2, 1, 0, 600), (.ifCond .eq 38, 3, 95, 0, 0, 0, 0), (.aload_n 0, 1, 0, 0, 0, 0, 0), (.invokevirtual 219, 3, 91, 1, 0, 7, 723), (.aload_n 0, 1, 0, 0, 0, 0, 0), (.getfield 22, 3, 7, 2, 0, 0, 318), (.iload 4, 2, 4, 0, 0, 0, 0), (.putfield 85, 3, 4, 5, 0, 0, 149), (.iload_n 1, 1, 1, 0, 0, 0, 0), (.aload_n 0, 1, 0, 0, 0, 0, 0), (.bipush 30, 2, 30, 0, 0, 0, 0), (.invokevirtual 222, 3, 92, 2, 1, 7, 731), (.invokestatic 239, 3, 200, 2, 1, 0, 582), (.istore_n 1, 1, 1, 0, 0, 0, 0), (.lload_n 2, 1, 2, 0, 0, 0, 0), (.aload_n 0, 1, 0, 0, 0, 0, 0), (.invokevirtual 233, 3, 94, 1, 2, 7, 760), (.ldc2_w 237, 3, 1, 1, 0, 0, 637), (.lxor, 1, 0, 0, 0, 0, 0), (.land, 1, 0, 0, 0, 0, 0), (.lstore_n 2, 1, 2, 0, 0, 0, 0)]
def cX7_longest_95 : oh_C := [(.iinc 4 1, 3, 4, 1, 0, 0, 0), (.goto (-62), 3, 36, 0, 0, 0, 0)]
def cX7_longest_101 : oh_C := [(.iload_n 1, 1, 1, 0, 0, 0, 0), (.ireturn, 1, 0, 0, 0, 0, 0)]
def tX7_longest : oh_T := [(0, none, cX7_longest_0), (20, none, cX7_longest_20), (36, some [true, true, true, false, true], cX7_longest_36), (95, none, cX7_longest_95), (101, none, cX7_longest_101)]
def cX7_signal_0 : oh_C := [(.aload_n 0, 1, 0, 0, 0, 0, 0), (.iload_n 1, 1, 1, 0, 0, 0, 0), (.invokevirtual 76, 3, 82, 2, 1, 7, 367), (.ifCond .eq 22, 3, 27, 0, 0, 0, 0), (.iload_n 2, 1, 2, 0, 0, 0, 0), (.aload_n 0, 1, 0, 0, 0, 0, 0), (.getfield 12, 3, 7, 0, 0, 0, 316), (.getfield 60, 3, 0, 0, 0, 0, 224), (.getfield 92, 3, 4, 3, 0, 0, 145), (.iload_n 1, 1, 1, 0, 0, 0, 0), (.iaload, 1, 0, 0, 0, 0, 0), (.iconst (-1), 1, 1, 1, 0, 0, 0), (.ixor, 1, 0, 0, 0, 0, 0), (.iand, 1, 0, 0, 0, 0, 0), (.ifCond .eq 10, 3, 34, 0, 0, 0, 0)]
def cX7_signal_27 : oh_C := [(.aload_n 0, 1, 0, 0, 0, 0, 0), (.ldc 55, 2, 1000000001, 0, 0, 1, 348), (.invokevirtual 56, 3, 81, 2, 1, 7, 349), (.ireturn, 1, 0, 0, 0, 0, 0)]
def cX7_signal_34 : oh_C := [(.aload_n 0, 1, 0, 0, 0, 0, 0), (.getfield 12, 3, 7, 0, 0, 0, 316), (.getfield 60, 3, 0, 0, 0, 0, 224), (.getfield 63, 3, 4, 7, 0, 0, 152), (.ifCond .ne 10, 3, 54, 0, 0, 0, 0), (.aload_n 0, 1, 0, 0, 0, 0, 0), (.ldc 67, 2, 1000000003, 0, 0, 1, 354), (.invokevirtual 56, 3, 81, 2, 1, 7, 349), (.ireturn, 1, 0, 0, 0, 0, 0)]
def cX7_signal_54 : oh_C := [(.aload_n 0, 1, 0, 0, 0, 0, 0), (.iload_n 2, 1, 2, 0, 0, 0, 0), (.invokevirtual 244, 3, 95, 2, 1, 7, 772), (.ireturn, 1, 0, 0, 0, 0, 0)]
def tX7_signal : oh_T := [(0, none, cX7_signal_0), (27, none, cX7_signal_27), (34, none, cX7_signal_34), (54, none, cX7_signal_54)]
def cX7_bestSignal_0 : oh_C := [(.aload_n 0, 1, 0, 0, 0, 0, 0), (.iload_n 1, 1, 1, 0, 0, 0, 0), (.invokevirtual 76, 3, 82, 2, 1, 7, 367), (.ifCond .eq 12, 3, 17, 0, 0, 0, 0), (.iload_n 2, 1, 2, 0, 0, 0, 0), (.ifCond .lt 8, 3, 17, 0, 0, 0, 0), (.iload_n 2, 1, 2, 0, 0, 0, 0), (.iconst 1, 1, 1, 0, 0, 0, 0), (.if_icmp .le 10, 3, 24, 0, 0, 0, 0)]
def cX7_bestSignal_17 : oh_C := [(.aload_n 0, 1, 0, 0, 0, 0, 0), (.ldc 55, 2, 1000000001, 0, 0, 1, 348), (.invokevirtual 56, 3, 81, 2, 1, 7, 349), (.ireturn, 1, 0, 0, 0, 0, 0)]
def cX7_bestSignal_24 : oh_C := [(.aload_n 0, 1, 0, 0, 0, 0, 0), (.getfield 12, 3, 7, 0, 0, 0, 316), (.getfield 60, 3, 0, 0, 0, 0, 224), (.getfield 63, 3, 4, 7, 0, 0, 152), (.ifCond .ne 10, 3, 44, 0, 0, 0, 0), (.aload_n 0, 1, 0, 0, 0, 0, 0), (.ldc 67, 2, 1000000003, 0, 0, 1, 354), (.invokevirtual 56, 3, 81, 2, 1, 7, 349), (.ireturn, 1, 0, 0, 0, 0, 0)]
def cX7_bestSignal_44 : oh_C := [(.iconst (-1), 1, 1, 1, 0, 0, 0), (.istore_n 3, 1, 3, 0, 0, 0, 0), (.iconst 0, 1, 0, 0, 0, 0, 0), (.istore 4, 2, 4, 0, 0, 0, 0), (.iconst 0, 1, 0, 0, 0, 0, 0), (.istore 5, 2, 5, 0, 0, 0, 0)]
def cX7_bestSignal_52 : oh_C := [(.iload 5, 2, 5, 0, 0, 0, 0), (.aload_n 0, 1, 0, 0, 0, 0, 0), (.getfield 12, 3, 7, 0, 0, 0, 316), (.getfield 60, 3, 0, 0, 0, 0, 224), (.invokevirtual 229, 3, 21, 1, 1, 4, 382), (.if_icmp .ge 50, 3, 114, 0, 0, 0, 0), (.iload 5, 2, 5, 0, 0, 0, 0), (.aload_n 0, 1, 0, 0, 0, 0, 0), (.getfield 12, 3, 7, 0, 0, 0, 316), (.getfield 60, 3, 0, 0, 0, 0, 224), (.getfield 92, 3, 4, 3, 0, 0, 145), (.iload_n 1, 1, 1, 0, 0, 0, 0), (.iaload, 1, 0, 0, 0, 0, 0), (.iconst (-1), 1, 1, 1, 0, 0, 0), (.ixor, 1, 0, 0, 0, 0, 0), (.iand, 1, 0, 0, 0, 0, 0), (.ifCond .ne 24, 3, 108, 0, 0, 0, 0), (.aload_n 0, 1, 0, 0, 0, 0, 0), (.iload 5, 2, 5, 0, 0, 0, 0), (.invokevirtual 244, 3, 95, 2, 1, 7, 772), (.istore 6, 2, 6, 0, 0, 0, 0), (.iload 6, 2, 6, 0, 0, 0, 0), (.iload_n 3, 1, 3, 0, 0, 0, 0), (.if_icmp .le 10, 3, 108, 0, 0, 0, 0), (.iload 6, 2, 6, 0, 0, 0, 0), (.istore_n 3, 1, 3, 0, 0, 0, 0), (.iload 5, 2, 5, 0, 0, 0, 0), (.istore 4, 2, 4, 0, 0, 0, 0)]
def cX7_bestSignal_108 : oh_C := [(.iinc 5 1, 3, 5, 1, 0, 0, 0), (.goto (-59), 3, 52, 0, 0, 0, 0)]
def cX7_bestSignal_114 : oh_C := [(.iload_n 2, 1, 2, 0, 0, 0, 0), (.ifCond .ne 8, 3, 123, 0, 0, 0, 0), (.iload 4, 2, 4, 0, 0, 0, 0), (.goto 4, 3, 124, 0, 0, 0, 0)]
def cX7_bestSignal_123 : oh_C := [(.iload_n 3, 1, 3, 0, 0, 0, 0)]
def cX7_bestSignal_124 : oh_C := [(.ireturn, 1, 0, 0, 0, 0, 0)]
def tX7_bestSignal : oh_T := [(0, none, cX7_bestSignal_0), (17, none, cX7_bestSignal_17), (24, none, cX7_bestSignal_24), (44, none, cX7_bestSignal_44), (52, some [true, true, true, true, true, true, false], cX7_bestSignal_52), (108, none, cX7_bestSignal_108), (114, none, cX7_bestSignal_114), (123, none, cX7_bestSignal_123), (124, none, cX7_bestSignal_124)]
def cX7_look_0 : oh_C := [(.aload_n 0, 1, 0, 0, 0, 0, 0), (.iload_n 1, 1, 1, 0, 0, 0, 0), (.invokevirtual 76, 3, 82, 2, 1, 7, 367), (.ifCond .ne 10, 3, 15, 0, 0, 0, 0), (.aload_n 0, 1, 0, 0, 0, 0, 0), (.ldc 55, 2, 1000000001, 0, 0, 1, 348), (.invokevirtual 56, 3, 81, 2, 1, 7, 349), (.ireturn, 1, 0, 0, 0, 0, 0)]
def cX7_look_15 : oh_C := [(.aload_n 0, 1, 0, 0, 0, 0, 0), (.getfield 12, 3, 7, 0, 0, 0, 316), (.getfield 60, 3, 0, 0, 0, 0, 224), (.getfield 63, 3, 4, 7, 0, 0, 152), (.ifCond .ne 10, 3, 35, 0, 0, 0, 0), (.aload_n 0, 1, 0, 0, 0, 0, 0), (.ldc 67, 2, 1000000003, 0, 0, 1, 354), (.invokevirtual 56, 3, 81, 2, 1, 7, 349), (.ireturn, 1, 0, 0, 0, 0, 0)]
def cX7_look_35 : oh_C := [(.bipush 31, 2, 31, 0, 0, 0, 0), (.istore_n 2, 1, 2, 0, 0, 0, 0), (.iconst (-1), 1, 1, 1, 0, 0, 0), (.istore_n 3, 1, 3, 0, 0, 0, 0), (.iconst 0, 1, 0, 0, 0, 0, 0), (.istore 4, 2, 4, 0, 0, 0, 0)]
def cX7_look_43 : oh_C := [(.iload 4, 2, 4, 0, 0, 0, 0), (.aload_n 0, 1, 0, 0, 0, 0, 0), (.getfield 12, 3, 7, 0, 0, 0, 316), (.getfield 60, 3, 0, 0, 0, 0, 224), (.getfield 68, 3, 4, 0, 0, 0, 136), (.if_icmp .ge 74, 3, 129, 0, 0, 0, 0), (.iload 4, 2, 4, 0, 0, 0, 0), (.iload_n 1, 1, 1, 0, 0, 0, 0), (.if_icmp .eq 62, 3, 123, 0, 0, 0, 0), (.aload_n 0, 1, 0, 0, 0, 0, 0), (.getfield 12, 3, 7, 0, 0, 0, 316), (.getfield 60, 3, 0, 0, 0, 0, 224), (.getfield 92, 3, 4, 3, 0, 0, 145), (.iload_n 1, 1, 1, 0, 0, 0, 0), (.iaload, 1, 0, 0, 0, 0, 0), (.iload 4, 2, 4, 0, 0, 0, 0), (.invokestatic 88, 3, 97, 2, 1, 0, 371), (.ifCond .ne 42, 3, 123, 0, 0, 0, 0), (.aload_n 0, 1, 0, 0, 0, 0, 0), (.invokevirtual 219, 3, 91, 1, 0, 7, 723), (.aload_n 0, 1, 0, 0, 0, 0, 0), (.getfield 22, 3, 7, 2, 0, 0, 318), (.getfield 92, 3, 4, 3, 0, 0, 145), (.iload_n 1, 1, 1, 0, 0, 0, 0), (.dup2, 1, 0, 0, 0, 0, 0), (.iaload, 1, 0, 0, 0, 0, 0), (.iconst 1, 1, 1, 0, 0, 0, 0), (.iload 4, 2, 4, 0, 0, 0, 0), (.ishl, 1, 0, 0, 0, 0, 0), (.ior, 1, 0, 0, 0, 0, 0), (.iastore, 1, 0, 0, 0, 0, 0), (.aload_n 0, 1, 0, 0, 0, 0, 0), (.iload_n 1, 1, 1, 0, 0, 0, 0), (.invokevirtual 225, 3, 93, 2, 1, 7, 747), (.istore 5, 2, 5, 0, 0, 0, 0), (.iload 5, 2, 5, 0, 0, 0, 0), (.iload_n 2, 1, 2, 0, 0, 0, 0), (.if_icmp .ge 9, 3, 123, 0, 0, 0, 0), (.iload 5, 2, 5, 0, 0, 0, 0), (.istore_n 2, 1, 2, 0, 0, 0, 0), (.iload 4, 2, 4, 0, 0, 0, 0), (.istore_n 3, 1, 3, 0, 0, 0, 0)]
def cX7_look_123 : oh_C := [(.iinc 4 1, 3, 4, 1, 0, 0, 0), (.goto (-83), 3, 43, 0, 0, 0, 0)]
def cX7_look_129 : oh_C := [(.iload_n 3, 1, 3, 0, 0, 0, 0), (.ifCond .ge 12, 3, 142, 0, 0, 0, 0), (.aload_n 0, 1, 0, 0, 0, 0, 0), (.ldc 228, 2, 1000000002, 0, 0, 1, 751), (.invokevirtual 56, 3, 81, 2, 1, 7, 349), (.goto 4, 3, 143, 0, 0, 0, 0)]
def cX7_look_142 : oh_C := [(.iload_n 3, 1, 3, 0, 0, 0, 0)]
def cX7_look_143 : oh_C := [(.ireturn, 1, 0, 0, 0, 0, 0)]
def tX7_look : oh_T := [(0, none, cX7_look_0), (15, none, cX7_look_15), (35, none, cX7_look_35), (43, some [true, true, true, true, true, false], cX7_look_43), (123, none, cX7_look_123), (129, none, cX7_look_129), (142, none, cX7_look_142), (143, none, cX7_look_143)]
def cX7_odds_0 : oh_C := [(.aload_n 0, 1, 0, 0, 0, 0, 0), (.iload_n 1, 1, 1, 0, 0, 0, 0), (.invokevirtual 76, 3, 82, 2, 1, 7, 367), (.ifCond .eq 12, 3, 17, 0, 0, 0, 0), (.iload_n 2, 1, 2, 0, 0, 0, 0), (.ifCond .lt 8, 3, 17, 0, 0, 0, 0), (.iload_n 2, 1, 2, 0, 0, 0, 0), (.iconst 1, 1, 1, 0, 0, 0, 0), (.if_icmp .le 11, 3, 25, 0, 0, 0, 0)]
def cX7_odds_17 : oh_C := [(.aload_n 0, 1, 0, 0, 0, 0, 0), (.ldc 55, 2, 1000000001, 0, 0, 1, 348), (.invokevirtual 56, 3, 81, 2, 1, 7, 349), (.i2l, 1, 0, 0, 0, 0, 0), (.lreturn, 1, 0, 0, 0, 0, 0)]
def cX7_odds_25 : oh_C := [(.aload_n 0, 1, 0, 0, 0, 0, 0), (.getfield 12, 3, 7, 0, 0, 0, 316), (.getfield 60, 3, 0, 0, 0, 0, 224), (.getfield 63, 3, 4, 7, 0, 0, 152), (.ifCond .ne 11, 3, 46, 0, 0, 0, 0), (.aload_n 0, 1, 0, 0, 0, 0, 0), (.ldc 67, 2, 1000000003, 0, 0, 1, 354), (.invokevirtual 56, 3, 81, 2, 1, 7, 349), (.i2l, 1, 0, 0, 0, 0, 0), (.lreturn, 1, 0, 0, 0, 0, 0)]
def cX7_odds_46 : oh_C := [(.aload_n 0, 1, 0, 0, 0, 0, 0), (.getfield 12, 3, 7, 0, 0, 0, 316), (.getfield 60, 3, 0, 0, 0, 0, 224), (.iload_n 1, 1, 1, 0, 0, 0, 0), (.aload_n 0, 1, 0, 0, 0, 0, 0), (.getfield 12, 3, 7, 0, 0, 0, 316), (.getfield 60, 3, 0, 0, 0, 0, 224), (.getfield 85, 3, 4, 5, 0, 0, 149), (.invokevirtual 195, 3, 24, 3, 2, 4, 712), (.lstore_n 3, 1, 3, 0, 0, 0, 0), (.iload_n 1, 1, 1, 0, 0, 0, 0), (.lload_n 3, 1, 3, 0, 0, 0, 0), (.invokestatic 199, 3, 100, 2, 1, 0, 668), (.istore 5, 2, 5, 0, 0, 0, 0), (.iload 5, 2, 5, 0, 0, 0, 0), (.ifCond .ne 6, 3, 83, 0, 0, 0, 0), (.iload_n 2, 1, 2, 0, 0, 0, 0), (.i2l, 1, 0, 0, 0, 0, 0), (.lreturn, 1, 0, 0, 0, 0, 0)]
def cX7_odds_83 : oh_C := [(.lload_n 3, 1, 3, 0, 0, 0, 0), (.invokestatic 172, 3, 199, 1, 1, 0, 603), (.istore 6, 2, 6, 0, 0, 0, 0), (.iload 5, 2, 5, 0, 0, 0, 0), (.iload 6, 2, 6, 0, 0, 0, 0), (.invokestatic 247, 3, 96, 2, 1, 0, 788), (.istore 7, 2, 7, 0, 0, 0, 0), (.iload_n 2, 1, 2, 0, 0, 0, 0), (.ifCond .ne 8, 3, 107, 0, 0, 0, 0), (.iload 5, 2, 5, 0, 0, 0, 0), (.goto 5, 3, 109, 0, 0, 0, 0)]
def cX7_odds_107 : oh_C := [(.iload 6, 2, 6, 0, 0, 0, 0)]
def cX7_odds_109 : oh_C := [(.istore 8, 2, 8, 0, 0, 0, 0), (.iload 7, 2, 7, 0, 0, 0, 0), (.ifCond .ne 9, 3, 122, 0, 0, 0, 0), (.iload 8, 2, 8, 0, 0, 0, 0), (.i2l, 1, 0, 0, 0, 0, 0), (.goto 9, 3, 128, 0, 0, 0, 0)]
def cX7_odds_122 : oh_C := [(.iload 8, 2, 8, 0, 0, 0, 0), (.iload 7, 2, 7, 0, 0, 0, 0), (.idiv, 1, 0, 0, 0, 0, 0), (.i2l, 1, 0, 0, 0, 0, 0)]
def cX7_odds_128 : oh_C := [(.lreturn, 1, 0, 0, 0, 0, 0)]
def tX7_odds : oh_T := [(0, none, cX7_odds_0), (17, none, cX7_odds_17), (25, none, cX7_odds_25), (46, none, cX7_odds_46), (83, none, cX7_odds_83), (107, none, cX7_odds_107), (109, none, cX7_odds_109), (122, none, cX7_odds_122), (128, none, cX7_odds_128)]
def cX7_seed_0 : oh_C := [(.aload_n 0, 1, 0, 0, 0, 0, 0), (.getfield 12, 3, 7, 0, 0, 0, 316), (.getfield 250, 3, 0, 5, 0, 0, 234), (.istore_n 2, 1, 2, 0, 0, 0, 0), (.aload_n 0, 1, 0, 0, 0, 0, 0), (.getfield 12, 3, 7, 0, 0, 0, 316), (.iload_n 1, 1, 1, 0, 0, 0, 0), (.putfield 250, 3, 0, 5, 0, 0, 234), (.iload_n 2, 1, 2, 0, 0, 0, 0), (.ireturn, 1, 0, 0, 0, 0, 0)]
def tX7_seed : oh_T := [(0, none, cX7_seed_0)]
def cX7_voice_0 : oh_C := [(.aload_n 0, 1, 0, 0, 0, 0, 0), (.iload_n 1, 1, 1, 0, 0, 0, 0), (.invokevirtual 76, 3, 82, 2, 1, 7, 367), (.ifCond .eq 12, 3, 17, 0, 0, 0, 0), (.iload_n 2, 1, 2, 0, 0, 0, 0), (.ifCond .lt 8, 3, 17, 0, 0, 0, 0), (.iload_n 2, 1, 2, 0, 0, 0, 0), (.iconst 4, 1, 4, 0, 0, 0, 0), (.if_icmp .lt 10, 3, 24, 0, 0, 0, 0)]
def cX7_voice_17 : oh_C := [(.aload_n 0, 1, 0, 0, 0, 0, 0), (.ldc 55, 2, 1000000001, 0, 0, 1, 348), (.invokevirtual 56, 3, 81, 2, 1, 7, 349), (.ireturn, 1, 0, 0, 0, 0, 0)]
def cX7_voice_24 : oh_C := [(.aload_n 0, 1, 0, 0, 0, 0, 0), (.getfield 36, 3, 7, 4, 0, 0, 320), (.aload_n 0, 1, 0, 0, 0, 0, 0), (.getfield 12, 3, 7, 0, 0, 0, 316), (.getfield 60, 3, 0, 0, 0, 0, 224), (.iload_n 1, 1, 1, 0, 0, 0, 0), (.iload_n 2, 1, 2, 0, 0, 0, 0), (.iload_n 3, 1, 3, 0, 0, 0, 0), (.invokevirtual 253, 3, 39, 5, 1, 6, 799), (.ireturn, 1, 0, 0, 0, 0, 0)]
def tX7_voice : oh_T := [(0, none, cX7_voice_0), (17, none, cX7_voice_17), (24, none, cX7_voice_24)]
def cX7_trace_0 : oh_C := [(.iload_n 1, 1, 1, 0, 0, 0, 0), (.ifCond .lt 17, 3, 18, 0, 0, 0, 0), (.iload_n 1, 1, 1, 0, 0, 0, 0), (.aload_n 0, 1, 0, 0, 0, 0, 0), (.getfield 36, 3, 7, 4, 0, 0, 320), (.getfield 257, 3, 6, 0, 0, 0, 283), (.getfield 113, 3, 3, 1, 0, 0, 203), (.if_icmp .lt 10, 3, 25, 0, 0, 0, 0)]
def cX7_trace_18 : oh_C := [(.aload_n 0, 1, 0, 0, 0, 0, 0), (.ldc 228, 2, 1000000002, 0, 0, 1, 751), (.invokevirtual 56, 3, 81, 2, 1, 7, 349), (.ireturn, 1, 0, 0, 0, 0, 0)]
def cX7_trace_25 : oh_C := [(.aload_n 0, 1, 0, 0, 0, 0, 0), (.getfield 36, 3, 7, 4, 0, 0, 320), (.getfield 257, 3, 6, 0, 0, 0, 283), (.iload_n 1, 1, 1, 0, 0, 0, 0), (.invokevirtual 260, 3, 17, 2, 1, 3, 824), (.ireturn, 1, 0, 0, 0, 0, 0)]
def tX7_trace : oh_T := [(0, none, cX7_trace_0), (18, none, cX7_trace_18), (25, none, cX7_trace_25)]
def cX7_sheet_0 : oh_C := [(.iload_n 1, 1, 1, 0, 0, 0, 0), (.invokestatic 263, 3, 87, 1, 1, 0, 829), (.ifCond .eq 25, 3, 29, 0, 0, 0, 0), (.iload_n 2, 1, 2, 0, 0, 0, 0), (.ifCond .eq 28, 3, 36, 0, 0, 0, 0), (.iload_n 2, 1, 2, 0, 0, 0, 0), (.bipush 8, 2, 8, 0, 0, 0, 0), (.if_icmp .eq 22, 3, 36, 0, 0, 0, 0), (.iload_n 2, 1, 2, 0, 0, 0, 0), (.bipush 16, 2, 16, 0, 0, 0, 0), (.if_icmp .eq 16, 3, 36, 0, 0, 0, 0), (.iload_n 2, 1, 2, 0, 0, 0, 0), (.bipush 32, 2, 32, 0, 0, 0, 0), (.if_icmp .eq 10, 3, 36, 0, 0, 0, 0)]
def cX7_sheet_29 : oh_C := [(.aload_n 0, 1, 0, 0, 0, 0, 0), (.ldc 55, 2, 1000000001, 0, 0, 1, 348), (.invokevirtual 56, 3, 81, 2, 1, 7, 349), (.ireturn, 1, 0, 0, 0, 0, 0)]
def cX7_sheet_36 : oh_C := [(.iload_n 2, 1, 2, 0, 0, 0, 0), (.ifCond .eq 14, 3, 51, 0, 0, 0, 0), (.iload_n 3, 1, 3, 0, 0, 0, 0), (.ifCond .ge 10, 3, 51, 0, 0, 0, 0), (.aload_n 0, 1, 0, 0, 0, 0, 0), (.ldc 67, 2, 1000000003, 0, 0, 1, 354), (.invokevirtual 56, 3, 81, 2, 1, 7, 349), (.ireturn, 1, 0, 0, 0, 0, 0)]
def cX7_sheet_51 : oh_C := [(.iload_n 2, 1, 2, 0, 0, 0, 0), (.ifCond .eq 16, 3, 68, 0, 0, 0, 0), (.iload_n 3, 1, 3, 0, 0, 0, 0), (.bipush 40, 2, 40, 0, 0, 0, 0), (.if_icmp .le 10, 3, 68, 0, 0, 0, 0), (.aload_n 0, 1, 0, 0, 0, 0, 0), (.ldc 55, 2, 1000000001, 0, 0, 1, 348), (.invokevirtual 56, 3, 81, 2, 1, 7, 349), (.ireturn, 1, 0, 0, 0, 0, 0)]
def cX7_sheet_68 : oh_C := [(.aload_n 0, 1, 0, 0, 0, 0, 0), (.getfield 43, 3, 7, 5, 0, 0, 321), (.iload_n 1, 1, 1, 0, 0, 0, 0), (.aaload, 1, 0, 0, 0, 0, 0), (.iload_n 2, 1, 2, 0, 0, 0, 0), (.iload_n 2, 1, 2, 0, 0, 0, 0), (.ifCond .ne 7, 3, 83, 0, 0, 0, 0), (.iconst 0, 1, 0, 0, 0, 0, 0), (.goto 4, 3, 84, 0, 0, 0, 0)]
def cX7_sheet_83 : oh_C := [(.iload_n 3, 1, 3, 0, 0, 0, 0)]
def cX7_sheet_84 : oh_C := [(.invokevirtual 266, 3, 35, 3, 0, 5, 832), (.iconst 1, 1, 1, 0, 0, 0, 0), (.ireturn, 1, 0, 0, 0, 0, 0)]
def tX7_sheet : oh_T := [(0, none, cX7_sheet_0), (29, none, cX7_sheet_29), (36, none, cX7_sheet_36), (51, none, cX7_sheet_51), (68, some [true, true, true, true], cX7_sheet_68), (83, none, cX7_sheet_83), (84, none, cX7_sheet_84)]
def cX7_put_0 : oh_C := [(.iload_n 1, 1, 1, 0, 0, 0, 0), (.invokestatic 263, 3, 87, 1, 1, 0, 829), (.ifCond .ne 10, 3, 14, 0, 0, 0, 0), (.aload_n 0, 1, 0, 0, 0, 0, 0), (.ldc 55, 2, 1000000001, 0, 0, 1, 348), (.invokevirtual 56, 3, 81, 2, 1, 7, 349), (.ireturn, 1, 0, 0, 0, 0, 0)]
def cX7_put_14 : oh_C := [(.aload_n 0, 1, 0, 0, 0, 0, 0), (.getfield 43, 3, 7, 5, 0, 0, 321), (.iload_n 1, 1, 1, 0, 0, 0, 0), (.aaload, 1, 0, 0, 0, 0, 0), (.getfield 270, 3, 5, 0, 0, 0, 304), (.ifCond .ne 10, 3, 33, 0, 0, 0, 0), (.aload_n 0, 1, 0, 0, 0, 0, 0), (.ldc 228, 2, 1000000002, 0, 0, 1, 751), (.invokevirtual 56, 3, 81, 2, 1, 7, 349), (.ireturn, 1, 0, 0, 0, 0, 0)]
def cX7_put_33 : oh_C := [(.iload_n 2, 1, 2, 0, 0, 0, 0), (.ifCond .lt 16, 3, 50, 0, 0, 0, 0), (.iload_n 2, 1, 2, 0, 0, 0, 0), (.aload_n 0, 1, 0, 0, 0, 0, 0), (.getfield 43, 3, 7, 5, 0, 0, 321), (.iload_n 1, 1, 1, 0, 0, 0, 0), (.aaload, 1, 0, 0, 0, 0, 0), (.getfield 273, 3, 5, 1, 0, 0, 306), (.if_icmp .lt 10, 3, 57, 0, 0, 0, 0)]
def cX7_put_50 : oh_C := [(.aload_n 0, 1, 0, 0, 0, 0, 0), (.ldc 55, 2, 1000000001, 0, 0, 1, 348), (.invokevirtual 56, 3, 81, 2, 1, 7, 349), (.ireturn, 1, 0, 0, 0, 0, 0)]
def cX7_put_57 : oh_C := [(.aload_n 0, 1, 0, 0, 0, 0, 0), (.getfield 43, 3, 7, 5, 0, 0, 321), (.iload_n 1, 1, 1, 0, 0, 0, 0), (.aaload, 1, 0, 0, 0, 0, 0), (.iload_n 2, 1, 2, 0, 0, 0, 0), (.iload_n 3, 1, 3, 0, 0, 0, 0), (.invokevirtual 274, 3, 36, 3, 0, 5, 841), (.iconst 1, 1, 1, 0, 0, 0, 0), (.ireturn, 1, 0, 0, 0, 0, 0)]
def tX7_put : oh_T := [(0, none, cX7_put_0), (14, some [true, true, true, true], cX7_put_14), (33, none, cX7_put_33), (50, none, cX7_put_50), (57, none, cX7_put_57)]
def cX7_move_0 : oh_C := [(.iload_n 1, 1, 1, 0, 0, 0, 0), (.invokestatic 263, 3, 87, 1, 1, 0, 829), (.ifCond .eq 10, 3, 14, 0, 0, 0, 0), (.iload_n 3, 1, 3, 0, 0, 0, 0), (.invokestatic 263, 3, 87, 1, 1, 0, 829), (.ifCond .ne 10, 3, 21, 0, 0, 0, 0)]
def cX7_move_14 : oh_C := [(.aload_n 0, 1, 0, 0, 0, 0, 0), (.ldc 55, 2, 1000000001, 0, 0, 1, 348), (.invokevirtual 56, 3, 81, 2, 1, 7, 349), (.ireturn, 1, 0, 0, 0, 0, 0)]
def cX7_move_21 : oh_C := [(.aload_n 0, 1, 0, 0, 0, 0, 0), (.getfield 43, 3, 7, 5, 0, 0, 321), (.iload_n 1, 1, 1, 0, 0, 0, 0), (.aaload, 1, 0, 0, 0, 0, 0), (.astore 6, 2, 6, 0, 0, 0, 0), (.aload_n 0, 1, 0, 0, 0, 0, 0), (.getfield 43, 3, 7, 5, 0, 0, 321), (.iload_n 3, 1, 3, 0, 0, 0, 0), (.aaload, 1, 0, 0, 0, 0, 0), (.astore 7, 2, 7, 0, 0, 0, 0), (.aload 6, 2, 6, 0, 0, 0, 0), (.getfield 270, 3, 5, 0, 0, 0, 304), (.ifCond .eq 11, 3, 53, 0, 0, 0, 0), (.aload 7, 2, 7, 0, 0, 0, 0), (.getfield 270, 3, 5, 0, 0, 0, 304), (.ifCond .ne 10, 3, 60, 0, 0, 0, 0)]
def cX7_move_53 : oh_C := [(.aload_n 0, 1, 0, 0, 0, 0, 0), (.ldc 228, 2, 1000000002, 0, 0, 1, 751), (.invokevirtual 56, 3, 81, 2, 1, 7, 349), (.ireturn, 1, 0, 0, 0, 0, 0)]
def cX7_move_60 : oh_C := [(.aload 6, 2, 6, 0, 0, 0, 0), (.getfield 270, 3, 5, 0, 0, 0, 304), (.aload 7, 2, 7, 0, 0, 0, 0), (.getfield 270, 3, 5, 0, 0, 0, 304), (.if_icmp .eq 10, 3, 80, 0, 0, 0, 0), (.aload_n 0, 1, 0, 0, 0, 0, 0), (.ldc 105, 2, 1000000005, 0, 0, 1, 399), (.invokevirtual 56, 3, 81, 2, 1, 7, 349), (.ireturn, 1, 0, 0, 0, 0, 0)]
def cX7_move_80 : oh_C := [(.aload 6, 2, 6, 0, 0, 0, 0), (.iload_n 2, 1, 2, 0, 0, 0, 0), (.iload 5, 2, 5, 0, 0, 0, 0), (.invokevirtual 277, 3, 37, 3, 1, 5, 849), (.ifCond .eq 15, 3, 103, 0, 0, 0, 0), (.aload 7, 2, 7, 0, 0, 0, 0), (.iload 4, 2, 4, 0, 0, 0, 0), (.iload 5, 2, 5, 0, 0, 0, 0), (.invokevirtual 277, 3, 37, 3, 1, 5, 849), (.ifCond .ne 10, 3, 110, 0, 0, 0, 0)]
def cX7_move_103 : oh_C := [(.aload_n 0, 1, 0, 0, 0, 0, 0), (.ldc 55, 2, 1000000001, 0, 0, 1, 348), (.invokevirtual 56, 3, 81, 2, 1, 7, 349), (.ireturn, 1, 0, 0, 0, 0, 0)]
def cX7_move_110 : oh_C := [(.aload 6, 2, 6, 0, 0, 0, 0), (.getfield 280, 3, 5, 2, 0, 0, 308), (.iload_n 2, 1, 2, 0, 0, 0, 0), (.aload 7, 2, 7, 0, 0, 0, 0), (.getfield 280, 3, 5, 2, 0, 0, 308), (.iload 4, 2, 4, 0, 0, 0, 0), (.iload 5, 2, 5, 0, 0, 0, 0), (.invokestatic 283, 3, 855, 854, 4, 114, 853), (.iload 5, 2, 5, 0, 0, 0, 0), (.ireturn, 1, 0, 0, 0, 0, 0)]
def tX7_move : oh_T := [(0, none, cX7_move_0), (14, none, cX7_move_14), (21, some [true, true, true, true, true, true, false, false], cX7_move_21), (53, none, cX7_move_53), (60, none, cX7_move_60), (80, none, cX7_move_80), (103, none, cX7_move_103), (110, none, cX7_move_110)]
def cX7_worlds_0 : oh_C := [(.iload_n 1, 1, 1, 0, 0, 0, 0), (.invokestatic 263, 3, 87, 1, 1, 0, 829), (.ifCond .ne 10, 3, 14, 0, 0, 0, 0), (.aload_n 0, 1, 0, 0, 0, 0, 0), (.ldc 55, 2, 1000000001, 0, 0, 1, 348), (.invokevirtual 56, 3, 81, 2, 1, 7, 349), (.ireturn, 1, 0, 0, 0, 0, 0)]
def cX7_worlds_14 : oh_C := [(.aload_n 0, 1, 0, 0, 0, 0, 0), (.getfield 43, 3, 7, 5, 0, 0, 321), (.iload_n 1, 1, 1, 0, 0, 0, 0), (.aaload, 1, 0, 0, 0, 0, 0), (.getfield 270, 3, 5, 0, 0, 0, 304), (.ifCond .ne 10, 3, 33, 0, 0, 0, 0), (.aload_n 0, 1, 0, 0, 0, 0, 0), (.ldc 228, 2, 1000000002, 0, 0, 1, 751), (.invokevirtual 56, 3, 81, 2, 1, 7, 349), (.ireturn, 1, 0, 0, 0, 0, 0)]
def cX7_worlds_33 : oh_C := [(.aload_n 0, 1, 0, 0, 0, 0, 0), (.getfield 12, 3, 7, 0, 0, 0, 316), (.getfield 60, 3, 0, 0, 0, 0, 224), (.getfield 162, 3, 4, 8, 0, 0, 155), (.aload_n 0, 1, 0, 0, 0, 0, 0), (.getfield 43, 3, 7, 5, 0, 0, 321), (.iload_n 1, 1, 1, 0, 0, 0, 0), (.aaload, 1, 0, 0, 0, 0, 0), (.invokevirtual 289, 3, 38, 1, 2, 5, 860), (.land, 1, 0, 0, 0, 0, 0), (.lstore_n 2, 1, 2, 0, 0, 0, 0), (.aload_n 0, 1, 0, 0, 0, 0, 0), (.getfield 12, 3, 7, 0, 0, 0, 316), (.getfield 60, 3, 0, 0, 0, 0, 224), (.getfield 63, 3, 4, 7, 0, 0, 152), (.ifCond .eq 20, 3, 84, 0, 0, 0, 0), (.lload_n 2, 1, 2, 0, 0, 0, 0), (.aload_n 0, 1, 0, 0, 0, 0, 0), (.getfield 12, 3, 7, 0, 0, 0, 316), (.getfield 60, 3, 0, 0, 0, 0, 224), (.getfield 85, 3, 4, 5, 0, 0, 149), (.invokestatic 158, 3, 99, 2, 1, 0, 600), (.ifCond .ne 10, 3, 91, 0, 0, 0, 0)]
def cX7_worlds_84 : oh_C := [(.aload_n 0, 1, 0, 0, 0, 0, 0), (.ldc 67, 2, 1000000003, 0, 0, 1, 354), (.invokevirtual 56, 3, 81, 2, 1, 7, 349), (.ireturn, 1, 0, 0, 0, 0, 0)]
def cX7_worlds_91 : oh_C := [(.aload_n 0, 1, 0, 0, 0, 0, 0), (.getfield 12, 3, 7, 0, 0, 0, 316), (.getfield 60, 3, 0, 0, 0, 0, 224), (.lload_n 2, 1, 2, 0, 0, 0, 0), (.putfield 162, 3, 4, 8, 0, 0, 155), (.lload_n 2, 1, 2, 0, 0, 0, 0), (.invokestatic 172, 3, 199, 1, 1, 0, 603), (.ireturn, 1, 0, 0, 0, 0, 0)]
def tX7_worlds : oh_T := [(0, none, cX7_worlds_0), (14, some [true, true, false, false], cX7_worlds_14), (33, none, cX7_worlds_33), (84, none, cX7_worlds_84), (91, none, cX7_worlds_91)]
def cX7_image_0 : oh_C := [(.aload_n 0, 1, 0, 0, 0, 0, 0), (.getfield 16, 3, 7, 1, 0, 0, 317), (.aload_n 0, 1, 0, 0, 0, 0, 0), (.getfield 12, 3, 7, 0, 0, 0, 316), (.invokevirtual 292, 3, 0, 2, 0, 0, 868), (.aload_n 0, 1, 0, 0, 0, 0, 0), (.dup, 1, 0, 0, 0, 0, 0), (.getfield 295, 3, 7, 7, 0, 0, 323), (.iconst 1, 1, 1, 0, 0, 0, 0), (.iadd, 1, 0, 0, 0, 0, 0), (.putfield 295, 3, 7, 7, 0, 0, 323), (.aload_n 0, 1, 0, 0, 0, 0, 0), (.getfield 295, 3, 7, 7, 0, 0, 323), (.ireturn, 1, 0, 0, 0, 0, 0)]
def tX7_image : oh_T := [(0, none, cX7_image_0)]
def cX7_restore_0 : oh_C := [(.aload_n 0, 1, 0, 0, 0, 0, 0), (.getfield 295, 3, 7, 7, 0, 0, 323), (.ifCond .ne 10, 3, 14, 0, 0, 0, 0), (.aload_n 0, 1, 0, 0, 0, 0, 0), (.ldc 228, 2, 1000000002, 0, 0, 1, 751), (.invokevirtual 56, 3, 81, 2, 1, 7, 349), (.ireturn, 1, 0, 0, 0, 0, 0)]
def cX7_restore_14 : oh_C := [(.aload_n 0, 1, 0, 0, 0, 0, 0), (.getfield 12, 3, 7, 0, 0, 0, 316), (.aload_n 0, 1, 0, 0, 0, 0, 0), (.getfield 16, 3, 7, 1, 0, 0, 317), (.invokevirtual 292, 3, 0, 2, 0, 0, 868), (.aload_n 0, 1, 0, 0, 0, 0, 0), (.getfield 12, 3, 7, 0, 0, 0, 316), (.getfield 60, 3, 0, 0, 0, 0, 224), (.getfield 169, 3, 4, 10, 0, 0, 159), (.ireturn, 1, 0, 0, 0, 0, 0)]
def tX7_restore : oh_T := [(0, none, cX7_restore_0), (14, none, cX7_restore_14)]
def cX7_tell_0 : oh_C := [(.aload_n 0, 1, 0, 0, 0, 0, 0), (.getfield 12, 3, 7, 0, 0, 0, 316), (.getfield 298, 3, 0, 4, 0, 0, 232), (.getfield 113, 3, 3, 1, 0, 0, 203), (.bipush 20, 2, 20, 0, 0, 0, 0), (.if_icmp .lt 10, 3, 22, 0, 0, 0, 0), (.aload_n 0, 1, 0, 0, 0, 0, 0), (.ldc 72, 2, 1000000004, 0, 0, 1, 355), (.invokevirtual 56, 3, 81, 2, 1, 7, 349), (.ireturn, 1, 0, 0, 0, 0, 0)]
def cX7_tell_22 : oh_C := [(.aload_n 0, 1, 0, 0, 0, 0, 0), (.getfield 12, 3, 7, 0, 0, 0, 316), (.getfield 298, 3, 0, 4, 0, 0, 232), (.iload_n 1, 1, 1, 0, 0, 0, 0), (.invokevirtual 118, 3, 16, 2, 0, 3, 408), (.aload_n 0, 1, 0, 0, 0, 0, 0), (.getfield 12, 3, 7, 0, 0, 0, 316), (.getfield 298, 3, 0, 4, 0, 0, 232), (.getfield 113, 3, 3, 1, 0, 0, 203), (.ireturn, 1, 0, 0, 0, 0, 0)]
def tX7_tell : oh_T := [(0, none, cX7_tell_0), (22, none, cX7_tell_22)]
def cX7_check_0 : oh_C := [(.aload_n 0, 1, 0, 0, 0, 0, 0), (.getfield 12, 3, 7, 0, 0, 0, 316), (.getfield 60, 3, 0, 0, 0, 0, 224), (.getfield 63, 3, 4, 7, 0, 0, 152), (.ifCond .ne 20, 3, 30, 0, 0, 0, 0), (.aload_n 0, 1, 0, 0, 0, 0, 0), (.getfield 12, 3, 7, 0, 0, 0, 316), (.getfield 298, 3, 0, 4, 0, 0, 232), (.invokevirtual 129, 3, 18, 1, 0, 3, 553), (.aload_n 0, 1, 0, 0, 0, 0, 0), (.ldc 67, 2, 1000000003, 0, 0, 1, 354), (.invokevirtual 56, 3, 81, 2, 1, 7, 349), (.ireturn, 1, 0, 0, 0, 0, 0)]
def cX7_check_30 : oh_C := [(.iconst 0, 1, 0, 0, 0, 0, 0), (.istore_n 1, 1, 1, 0, 0, 0, 0), (.aload_n 0, 1, 0, 0, 0, 0, 0), (.invokevirtual 219, 3, 91, 1, 0, 7, 723), (.iconst 0, 1, 0, 0, 0, 0, 0), (.istore_n 2, 1, 2, 0, 0, 0, 0)]
def cX7_check_38 : oh_C := [(.iload_n 2, 1, 2, 0, 0, 0, 0), (.aload_n 0, 1, 0, 0, 0, 0, 0), (.getfield 12, 3, 7, 0, 0, 0, 316), (.getfield 298, 3, 0, 4, 0, 0, 232), (.getfield 113, 3, 3, 1, 0, 0, 203), (.if_icmp .ge 53, 3, 102, 0, 0, 0, 0), (.iload_n 1, 1, 1, 0, 0, 0, 0), (.ifCond .ne 49, 3, 102, 0, 0, 0, 0), (.aload_n 0, 1, 0, 0, 0, 0, 0), (.getfield 22, 3, 7, 2, 0, 0, 318), (.aload_n 0, 1, 0, 0, 0, 0, 0), (.getfield 12, 3, 7, 0, 0, 0, 316), (.getfield 185, 3, 0, 2, 0, 0, 228), (.invokevirtual 188, 3, 30, 2, 1, 4, 622), (.pop, 1, 0, 0, 0, 0, 0), (.aload_n 0, 1, 0, 0, 0, 0, 0), (.getfield 12, 3, 7, 0, 0, 0, 316), (.getfield 298, 3, 0, 4, 0, 0, 232), (.iload_n 2, 1, 2, 0, 0, 0, 0), (.invokevirtual 260, 3, 17, 2, 1, 3, 824), (.aload_n 0, 1, 0, 0, 0, 0, 0), (.getfield 22, 3, 7, 2, 0, 0, 318), (.getfield 166, 3, 4, 9, 0, 0, 157), (.if_icmp .eq 7, 3, 96, 0, 0, 0, 0), (.iload_n 2, 1, 2, 0, 0, 0, 0), (.iconst 1, 1, 1, 0, 0, 0, 0), (.iadd, 1, 0, 0, 0, 0, 0), (.istore_n 1, 1, 1, 0, 0, 0, 0)]
def cX7_check_96 : oh_C := [(.iinc 2 1, 3, 2, 1, 0, 0, 0), (.goto (-61), 3, 38, 0, 0, 0, 0)]
def cX7_check_102 : oh_C := [(.aload_n 0, 1, 0, 0, 0, 0, 0), (.getfield 12, 3, 7, 0, 0, 0, 316), (.getfield 298, 3, 0, 4, 0, 0, 232), (.invokevirtual 129, 3, 18, 1, 0, 3, 553), (.iload_n 1, 1, 1, 0, 0, 0, 0), (.ireturn, 1, 0, 0, 0, 0, 0)]
def tX7_check : oh_T := [(0, none, cX7_check_0), (30, none, cX7_check_30), (38, some [true, true, true], cX7_check_38), (96, none, cX7_check_96), (102, none, cX7_check_102)]
def cX7_count_0 : oh_C := [(.iload_n 1, 1, 1, 0, 0, 0, 0), (.tableswitch 173 0 9 #[55, 66, 85, 96, 107, 121, 132, 143, 154, 165], 55, 0, 0, 0, 0, 0)]
def cX7_count_56 : oh_C := [(.aload_n 0, 1, 0, 0, 0, 0, 0), (.getfield 12, 3, 7, 0, 0, 0, 316), (.getfield 60, 3, 0, 0, 0, 0, 224), (.getfield 68, 3, 4, 0, 0, 0, 136), (.ireturn, 1, 0, 0, 0, 0, 0)]
def cX7_count_67 : oh_C := [(.aload_n 0, 1, 0, 0, 0, 0, 0), (.getfield 12, 3, 7, 0, 0, 0, 316), (.getfield 60, 3, 0, 0, 0, 0, 224), (.getfield 63, 3, 4, 7, 0, 0, 152), (.ifCond .eq 7, 3, 84, 0, 0, 0, 0), (.iconst 1, 1, 1, 0, 0, 0, 0), (.goto 4, 3, 85, 0, 0, 0, 0)]
def cX7_count_84 : oh_C := [(.iconst 0, 1, 0, 0, 0, 0, 0)]
def cX7_count_85 : oh_C := [(.ireturn, 1, 0, 0, 0, 0, 0)]
def cX7_count_86 : oh_C := [(.aload_n 0, 1, 0, 0, 0, 0, 0), (.getfield 12, 3, 7, 0, 0, 0, 316), (.getfield 60, 3, 0, 0, 0, 0, 224), (.getfield 169, 3, 4, 10, 0, 0, 159), (.ireturn, 1, 0, 0, 0, 0, 0)]
def cX7_count_97 : oh_C := [(.aload_n 0, 1, 0, 0, 0, 0, 0), (.getfield 12, 3, 7, 0, 0, 0, 316), (.getfield 60, 3, 0, 0, 0, 0, 224), (.getfield 166, 3, 4, 9, 0, 0, 157), (.ireturn, 1, 0, 0, 0, 0, 0)]
def cX7_count_108 : oh_C := [(.aload_n 0, 1, 0, 0, 0, 0, 0), (.getfield 12, 3, 7, 0, 0, 0, 316), (.getfield 60, 3, 0, 0, 0, 0, 224), (.getfield 162, 3, 4, 8, 0, 0, 155), (.invokestatic 172, 3, 199, 1, 1, 0, 603), (.ireturn, 1, 0, 0, 0, 0, 0)]
def cX7_count_122 : oh_C := [(.aload_n 0, 1, 0, 0, 0, 0, 0), (.getfield 12, 3, 7, 0, 0, 0, 316), (.getfield 60, 3, 0, 0, 0, 0, 224), (.getfield 106, 3, 4, 6, 0, 0, 151), (.ireturn, 1, 0, 0, 0, 0, 0)]
def cX7_count_133 : oh_C := [(.aload_n 0, 1, 0, 0, 0, 0, 0), (.getfield 12, 3, 7, 0, 0, 0, 316), (.getfield 109, 3, 0, 3, 0, 0, 230), (.getfield 113, 3, 3, 1, 0, 0, 203), (.ireturn, 1, 0, 0, 0, 0, 0)]
def cX7_count_144 : oh_C := [(.aload_n 0, 1, 0, 0, 0, 0, 0), (.getfield 12, 3, 7, 0, 0, 0, 316), (.getfield 298, 3, 0, 4, 0, 0, 232), (.getfield 113, 3, 3, 1, 0, 0, 203), (.ireturn, 1, 0, 0, 0, 0, 0)]
def cX7_count_155 : oh_C := [(.aload_n 0, 1, 0, 0, 0, 0, 0), (.getfield 36, 3, 7, 4, 0, 0, 320), (.getfield 257, 3, 6, 0, 0, 0, 283), (.getfield 113, 3, 3, 1, 0, 0, 203), (.ireturn, 1, 0, 0, 0, 0, 0)]
def cX7_count_166 : oh_C := [(.aload_n 0, 1, 0, 0, 0, 0, 0), (.getfield 12, 3, 7, 0, 0, 0, 316), (.getfield 250, 3, 0, 5, 0, 0, 234), (.ireturn, 1, 0, 0, 0, 0, 0)]
def cX7_count_174 : oh_C := [(.aload_n 0, 1, 0, 0, 0, 0, 0), (.ldc 55, 2, 1000000001, 0, 0, 1, 348), (.invokevirtual 56, 3, 81, 2, 1, 7, 349), (.ireturn, 1, 0, 0, 0, 0, 0)]
def tX7_count : oh_T := [(0, none, cX7_count_0), (56, none, cX7_count_56), (67, none, cX7_count_67), (84, none, cX7_count_84), (85, none, cX7_count_85), (86, none, cX7_count_86), (97, none, cX7_count_97), (108, none, cX7_count_108), (122, none, cX7_count_122), (133, none, cX7_count_133), (144, none, cX7_count_144), (155, none, cX7_count_155), (166, none, cX7_count_166), (174, none, cX7_count_174)]
def cX7_told_0 : oh_C := [(.iload_n 1, 1, 1, 0, 0, 0, 0), (.iconst 1, 1, 1, 0, 0, 0, 0), (.if_icmp .lt 8, 3, 10, 0, 0, 0, 0), (.iload_n 1, 1, 1, 0, 0, 0, 0), (.iconst 5, 1, 5, 0, 0, 0, 0), (.if_icmp .le 10, 3, 17, 0, 0, 0, 0)]
def cX7_told_10 : oh_C := [(.aload_n 0, 1, 0, 0, 0, 0, 0), (.ldc 55, 2, 1000000001, 0, 0, 1, 348), (.invokevirtual 56, 3, 81, 2, 1, 7, 349), (.ireturn, 1, 0, 0, 0, 0, 0)]
def cX7_told_17 : oh_C := [(.aload_n 0, 1, 0, 0, 0, 0, 0), (.getfield 47, 3, 7, 6, 0, 0, 322), (.iload_n 1, 1, 1, 0, 0, 0, 0), (.iaload, 1, 0, 0, 0, 0, 0), (.ireturn, 1, 0, 0, 0, 0, 0)]
def tX7_told : oh_T := [(0, none, cX7_told_0), (10, none, cX7_told_10), (17, none, cX7_told_17)]
def cX7_failed_0 : oh_C := [(.ldc_w 301, 3, 1000000000, 1, 0, 0, 353), (.iload_n 1, 1, 1, 0, 0, 0, 0), (.isub, 1, 0, 0, 0, 0, 0), (.istore_n 2, 1, 2, 0, 0, 0, 0), (.iload_n 2, 1, 2, 0, 0, 0, 0), (.iconst 1, 1, 1, 0, 0, 0, 0), (.if_icmp .lt 18, 3, 26, 0, 0, 0, 0), (.iload_n 2, 1, 2, 0, 0, 0, 0), (.iconst 5, 1, 5, 0, 0, 0, 0), (.if_icmp .gt 13, 3, 26, 0, 0, 0, 0), (.aload_n 0, 1, 0, 0, 0, 0, 0), (.getfield 47, 3, 7, 6, 0, 0, 322), (.iload_n 2, 1, 2, 0, 0, 0, 0), (.dup2, 1, 0, 0, 0, 0, 0), (.iaload, 1, 0, 0, 0, 0, 0), (.iconst 1, 1, 1, 0, 0, 0, 0), (.iadd, 1, 0, 0, 0, 0, 0), (.iastore, 1, 0, 0, 0, 0, 0)]
def cX7_failed_26 : oh_C := [(.iload_n 1, 1, 1, 0, 0, 0, 0), (.ireturn, 1, 0, 0, 0, 0, 0)]
def tX7_failed : oh_T := [(0, none, cX7_failed_0), (26, none, cX7_failed_26)]
def cX7_isMan_0 : oh_C := [(.iload_n 1, 1, 1, 0, 0, 0, 0), (.ifCond .lt 21, 3, 22, 0, 0, 0, 0), (.iload_n 1, 1, 1, 0, 0, 0, 0), (.aload_n 0, 1, 0, 0, 0, 0, 0), (.getfield 12, 3, 7, 0, 0, 0, 316), (.getfield 60, 3, 0, 0, 0, 0, 224), (.getfield 68, 3, 4, 0, 0, 0, 136), (.if_icmp .ge 7, 3, 22, 0, 0, 0, 0), (.iconst 1, 1, 1, 0, 0, 0, 0), (.goto 4, 3, 23, 0, 0, 0, 0)]
def cX7_isMan_22 : oh_C := [(.iconst 0, 1, 0, 0, 0, 0, 0)]
def cX7_isMan_23 : oh_C := [(.ireturn, 1, 1, 0, 0, 0, 0)]
def tX7_isMan : oh_T := [(0, none, cX7_isMan_0), (22, none, cX7_isMan_22), (23, none, cX7_isMan_23)]
def cX7_isWorld_0 : oh_C := [(.iload_n 1, 1, 1, 0, 0, 0, 0), (.ifCond .lt 21, 3, 22, 0, 0, 0, 0), (.iload_n 1, 1, 1, 0, 0, 0, 0), (.aload_n 0, 1, 0, 0, 0, 0, 0), (.getfield 12, 3, 7, 0, 0, 0, 316), (.getfield 60, 3, 0, 0, 0, 0, 224), (.invokevirtual 229, 3, 21, 1, 1, 4, 382), (.if_icmp .ge 7, 3, 22, 0, 0, 0, 0), (.iconst 1, 1, 1, 0, 0, 0, 0), (.goto 4, 3, 23, 0, 0, 0, 0)]
def cX7_isWorld_22 : oh_C := [(.iconst 0, 1, 0, 0, 0, 0, 0)]
def cX7_isWorld_23 : oh_C := [(.ireturn, 1, 1, 0, 0, 0, 0)]
def tX7_isWorld : oh_T := [(0, none, cX7_isWorld_0), (22, none, cX7_isWorld_22), (23, none, cX7_isWorld_23)]
def cX7_isKindWithNumber_0 : oh_C := [(.iload_n 0, 1, 0, 0, 0, 0, 0), (.ifCond .lt 13, 3, 14, 0, 0, 0, 0), (.iload_n 0, 1, 0, 0, 0, 0, 0), (.bipush 69, 2, 69, 0, 0, 0, 0), (.if_icmp .gt 7, 3, 14, 0, 0, 0, 0), (.iconst 1, 1, 1, 0, 0, 0, 0), (.goto 4, 3, 15, 0, 0, 0, 0)]
def cX7_isKindWithNumber_14 : oh_C := [(.iconst 0, 1, 0, 0, 0, 0, 0)]
def cX7_isKindWithNumber_15 : oh_C := [(.ireturn, 1, 1, 0, 0, 0, 0)]
def tX7_isKindWithNumber : oh_T := [(0, none, cX7_isKindWithNumber_0), (14, none, cX7_isKindWithNumber_14), (15, none, cX7_isKindWithNumber_15)]
def cX7_isUse_0 : oh_C := [(.iload_n 0, 1, 0, 0, 0, 0, 0), (.ifCond .eq 8, 3, 9, 0, 0, 0, 0), (.iload_n 0, 1, 0, 0, 0, 0, 0), (.iconst 1, 1, 1, 0, 0, 0, 0), (.if_icmp .ne 7, 3, 13, 0, 0, 0, 0)]
def cX7_isUse_9 : oh_C := [(.iconst 1, 1, 1, 0, 0, 0, 0), (.goto 4, 3, 14, 0, 0, 0, 0)]
def cX7_isUse_13 : oh_C := [(.iconst 0, 1, 0, 0, 0, 0, 0)]
def cX7_isUse_14 : oh_C := [(.ireturn, 1, 1, 0, 0, 0, 0)]
def tX7_isUse : oh_T := [(0, none, cX7_isUse_0), (9, none, cX7_isUse_9), (13, none, cX7_isUse_13), (14, none, cX7_isUse_14)]
def cX7_isAhead_0 : oh_C := [(.iload_n 0, 1, 0, 0, 0, 0, 0), (.ifCond .lt 13, 3, 14, 0, 0, 0, 0), (.iload_n 0, 1, 0, 0, 0, 0, 0), (.bipush 30, 2, 30, 0, 0, 0, 0), (.if_icmp .gt 7, 3, 14, 0, 0, 0, 0), (.iconst 1, 1, 1, 0, 0, 0, 0), (.goto 4, 3, 15, 0, 0, 0, 0)]
def cX7_isAhead_14 : oh_C := [(.iconst 0, 1, 0, 0, 0, 0, 0)]
def cX7_isAhead_15 : oh_C := [(.ireturn, 1, 1, 0, 0, 0, 0)]
def tX7_isAhead : oh_T := [(0, none, cX7_isAhead_0), (14, none, cX7_isAhead_14), (15, none, cX7_isAhead_15)]
def cX7_isSheet_0 : oh_C := [(.iload_n 0, 1, 0, 0, 0, 0, 0), (.ifCond .lt 12, 3, 13, 0, 0, 0, 0), (.iload_n 0, 1, 0, 0, 0, 0, 0), (.iconst 4, 1, 4, 0, 0, 0, 0), (.if_icmp .ge 7, 3, 13, 0, 0, 0, 0), (.iconst 1, 1, 1, 0, 0, 0, 0), (.goto 4, 3, 14, 0, 0, 0, 0)]
def cX7_isSheet_13 : oh_C := [(.iconst 0, 1, 0, 0, 0, 0, 0)]
def cX7_isSheet_14 : oh_C := [(.ireturn, 1, 1, 0, 0, 0, 0)]
def tX7_isSheet : oh_T := [(0, none, cX7_isSheet_0), (13, none, cX7_isSheet_13), (14, none, cX7_isSheet_14)]
def cX7_isOfKind_0 : oh_C := [(.iload_n 0, 1, 0, 0, 0, 0, 0), (.istore_n 2, 1, 2, 0, 0, 0, 0), (.iconst 0, 1, 0, 0, 0, 0, 0), (.istore_n 3, 1, 3, 0, 0, 0, 0)]
def cX7_isOfKind_4 : oh_C := [(.iload_n 3, 1, 3, 0, 0, 0, 0), (.bipush 7, 2, 7, 0, 0, 0, 0), (.if_icmp .ge 32, 3, 39, 0, 0, 0, 0), (.iload_n 2, 1, 2, 0, 0, 0, 0), (.ifCond .lt 28, 3, 39, 0, 0, 0, 0), (.iload_n 2, 1, 2, 0, 0, 0, 0), (.bipush 7, 2, 7, 0, 0, 0, 0), (.if_icmp .ge 22, 3, 39, 0, 0, 0, 0), (.iload_n 2, 1, 2, 0, 0, 0, 0), (.iload_n 1, 1, 1, 0, 0, 0, 0), (.if_icmp .ne 5, 3, 27, 0, 0, 0, 0), (.iconst 1, 1, 1, 0, 0, 0, 0), (.ireturn, 1, 1, 0, 0, 0, 0)]
def cX7_isOfKind_27 : oh_C := [(.getstatic 302, 3, 1000, 0, 0, 0, 397), (.iload_n 2, 1, 2, 0, 0, 0, 0), (.iaload, 1, 0, 0, 0, 0, 0), (.istore_n 2, 1, 2, 0, 0, 0, 0), (.iinc 3 1, 3, 3, 1, 0, 0, 0), (.goto (-32), 3, 4, 0, 0, 0, 0)]
def cX7_isOfKind_39 : oh_C := [(.iconst 0, 1, 0, 0, 0, 0, 0), (.ireturn, 1, 1, 0, 0, 0, 0)]
def tX7_isOfKind : oh_T := [(0, none, cX7_isOfKind_0), (4, some [false, true, true, true], cX7_isOfKind_4), (27, none, cX7_isOfKind_27), (39, none, cX7_isOfKind_39)]
def cX7_lawOf_0 : oh_C := [(.iload_n 1, 1, 1, 0, 0, 0, 0), (.iconst 1, 1, 1, 0, 0, 0, 0), (.if_icmp .ne 13, 3, 15, 0, 0, 0, 0), (.aload_n 0, 1, 0, 0, 0, 0, 0), (.getfield 12, 3, 7, 0, 0, 0, 316), (.getfield 185, 3, 0, 2, 0, 0, 228), (.goto 10, 3, 22, 0, 0, 0, 0)]
def cX7_lawOf_15 : oh_C := [(.aload_n 0, 1, 0, 0, 0, 0, 0), (.getfield 12, 3, 7, 0, 0, 0, 316), (.getfield 150, 3, 0, 1, 0, 0, 226)]
def cX7_lawOf_22 : oh_C := [(.areturn, 1, 0, 0, 0, 0, 0)]
def tX7_lawOf : oh_T := [(0, none, cX7_lawOf_0), (15, none, cX7_lawOf_15), (22, none, cX7_lawOf_22)]
def cX7_whyNoBells_0 : oh_C := [(.iload_n 1, 1, 1, 0, 0, 0, 0), (.iconst 1, 1, 1, 0, 0, 0, 0), (.if_icmp .lt 9, 3, 11, 0, 0, 0, 0), (.iload_n 1, 1, 1, 0, 0, 0, 0), (.bipush 30, 2, 30, 0, 0, 0, 0), (.if_icmp .le 6, 3, 14, 0, 0, 0, 0)]
def cX7_whyNoBells_11 : oh_C := [(.ldc 55, 2, 1000000001, 0, 0, 1, 348), (.ireturn, 1, 0, 0, 0, 0, 0)]
def cX7_whyNoBells_14 : oh_C := [(.aload_n 0, 1, 0, 0, 0, 0, 0), (.getfield 12, 3, 7, 0, 0, 0, 316), (.getfield 60, 3, 0, 0, 0, 0, 224), (.getfield 63, 3, 4, 7, 0, 0, 152), (.ifCond .eq 20, 3, 44, 0, 0, 0, 0), (.aload_n 0, 1, 0, 0, 0, 0, 0), (.getfield 12, 3, 7, 0, 0, 0, 316), (.getfield 60, 3, 0, 0, 0, 0, 224), (.getfield 169, 3, 4, 10, 0, 0, 159), (.iload_n 1, 1, 1, 0, 0, 0, 0), (.iadd, 1, 0, 0, 0, 0, 0), (.bipush 99, 2, 99, 0, 0, 0, 0), (.if_icmp .le 8, 3, 49, 0, 0, 0, 0)]
def cX7_whyNoBells_44 : oh_C := [(.ldc 67, 2, 1000000003, 0, 0, 1, 354), (.goto 4, 3, 50, 0, 0, 0, 0)]
def cX7_whyNoBells_49 : oh_C := [(.iconst 0, 1, 0, 0, 0, 0, 0)]
def cX7_whyNoBells_50 : oh_C := [(.ireturn, 1, 0, 0, 0, 0, 0)]
def tX7_whyNoBells : oh_T := [(0, none, cX7_whyNoBells_0), (11, none, cX7_whyNoBells_11), (14, none, cX7_whyNoBells_14), (44, none, cX7_whyNoBells_44), (49, none, cX7_whyNoBells_49), (50, none, cX7_whyNoBells_50)]
def cX7_startAhead_0 : oh_C := [(.aload_n 0, 1, 0, 0, 0, 0, 0), (.getfield 22, 3, 7, 2, 0, 0, 318), (.aload_n 0, 1, 0, 0, 0, 0, 0), (.getfield 12, 3, 7, 0, 0, 0, 316), (.getfield 60, 3, 0, 0, 0, 0, 224), (.invokevirtual 305, 3, 20, 2, 0, 4, 727), (.return_, 1, 0, 0, 0, 0, 0)]
def tX7_startAhead : oh_T := [(0, none, cX7_startAhead_0)]
def cX7_ringAhead_0 : oh_C := [(.iconst 0, 1, 0, 0, 0, 0, 0), (.istore_n 2, 1, 2, 0, 0, 0, 0), (.iconst 1, 1, 1, 0, 0, 0, 0), (.istore_n 3, 1, 3, 0, 0, 0, 0)]
def cX7_ringAhead_4 : oh_C := [(.iload_n 3, 1, 3, 0, 0, 0, 0), (.iload_n 1, 1, 1, 0, 0, 0, 0), (.if_icmp .gt 66, 3, 72, 0, 0, 0, 0), (.aload_n 0, 1, 0, 0, 0, 0, 0), (.getfield 22, 3, 7, 2, 0, 0, 318), (.getfield 166, 3, 4, 9, 0, 0, 157), (.istore 4, 2, 4, 0, 0, 0, 0), (.aload_n 0, 1, 0, 0, 0, 0, 0), (.getfield 22, 3, 7, 2, 0, 0, 318), (.aload_n 0, 1, 0, 0, 0, 0, 0), (.getfield 12, 3, 7, 0, 0, 0, 316), (.getfield 185, 3, 0, 2, 0, 0, 228), (.invokevirtual 188, 3, 30, 2, 1, 4, 622), (.istore 5, 2, 5, 0, 0, 0, 0), (.aload_n 0, 1, 0, 0, 0, 0, 0), (.getfield 22, 3, 7, 2, 0, 0, 318), (.getfield 166, 3, 4, 9, 0, 0, 157), (.iload 4, 2, 4, 0, 0, 0, 0), (.if_icmp .eq 5, 3, 48, 0, 0, 0, 0), (.iload_n 3, 1, 3, 0, 0, 0, 0), (.istore_n 2, 1, 2, 0, 0, 0, 0)]
def cX7_ringAhead_48 : oh_C := [(.iload 5, 2, 5, 0, 0, 0, 0), (.ifCond .ne 16, 3, 66, 0, 0, 0, 0), (.aload_n 0, 1, 0, 0, 0, 0, 0), (.getfield 22, 3, 7, 2, 0, 0, 318), (.invokevirtual 308, 3, 34, 1, 1, 4, 735), (.ifCond .eq 6, 3, 66, 0, 0, 0, 0), (.goto 9, 3, 72, 0, 0, 0, 0)]
def cX7_ringAhead_66 : oh_C := [(.iinc 3 1, 3, 3, 1, 0, 0, 0), (.goto (-65), 3, 4, 0, 0, 0, 0)]
def cX7_ringAhead_72 : oh_C := [(.iload_n 2, 1, 2, 0, 0, 0, 0), (.ireturn, 1, 0, 0, 0, 0, 0)]
def tX7_ringAhead : oh_T := [(0, none, cX7_ringAhead_0), (4, some [true, true, true, true, false, false], cX7_ringAhead_4), (48, none, cX7_ringAhead_48), (66, none, cX7_ringAhead_66), (72, none, cX7_ringAhead_72)]
def cX7_bellsTillSpoken_0 : oh_C := [(.iconst 0, 1, 0, 0, 0, 0, 0), (.istore_n 2, 1, 2, 0, 0, 0, 0)]
def cX7_bellsTillSpoken_2 : oh_C := [(.iload_n 2, 1, 2, 0, 0, 0, 0), (.bipush 30, 2, 30, 0, 0, 0, 0), (.if_icmp .gt 56, 3, 61, 0, 0, 0, 0), (.aload_n 0, 1, 0, 0, 0, 0, 0), (.getfield 22, 3, 7, 2, 0, 0, 318), (.getfield 166, 3, 4, 9, 0, 0, 157), (.iload_n 1, 1, 1, 0, 0, 0, 0), (.invokestatic 88, 3, 97, 2, 1, 0, 371), (.iconst 1, 1, 1, 0, 0, 0, 0), (.if_icmp .ne 5, 3, 25, 0, 0, 0, 0), (.iload_n 2, 1, 2, 0, 0, 0, 0), (.ireturn, 1, 0, 0, 0, 0, 0)]
def cX7_bellsTillSpoken_25 : oh_C := [(.aload_n 0, 1, 0, 0, 0, 0, 0), (.getfield 22, 3, 7, 2, 0, 0, 318), (.aload_n 0, 1, 0, 0, 0, 0, 0), (.getfield 12, 3, 7, 0, 0, 0, 316), (.getfield 185, 3, 0, 2, 0, 0, 228), (.invokevirtual 188, 3, 30, 2, 1, 4, 622), (.ifCond .ne 16, 3, 55, 0, 0, 0, 0), (.aload_n 0, 1, 0, 0, 0, 0, 0), (.getfield 22, 3, 7, 2, 0, 0, 318), (.invokevirtual 308, 3, 34, 1, 1, 4, 735), (.ifCond .eq 6, 3, 55, 0, 0, 0, 0), (.goto 9, 3, 61, 0, 0, 0, 0)]
def cX7_bellsTillSpoken_55 : oh_C := [(.iinc 2 1, 3, 2, 1, 0, 0, 0), (.goto (-56), 3, 2, 0, 0, 0, 0)]
def cX7_bellsTillSpoken_61 : oh_C := [(.bipush 31, 2, 31, 0, 0, 0, 0), (.ireturn, 1, 0, 0, 0, 0, 0)]
def tX7_bellsTillSpoken : oh_T := [(0, none, cX7_bellsTillSpoken_0), (2, some [true, true, true], cX7_bellsTillSpoken_2), (25, none, cX7_bellsTillSpoken_25), (55, none, cX7_bellsTillSpoken_55), (61, none, cX7_bellsTillSpoken_61)]
def cX7_ranAlike_0 : oh_C := [(.aload_n 0, 1, 0, 0, 0, 0, 0), (.getfield 22, 3, 7, 2, 0, 0, 318), (.getfield 162, 3, 4, 8, 0, 0, 155), (.lreturn, 1, 0, 0, 0, 0, 0)]
def tX7_ranAlike : oh_T := [(0, none, cX7_ranAlike_0)]
def cX7_knowBySignal_0 : oh_C := [(.aload_n 0, 1, 0, 0, 0, 0, 0), (.getfield 12, 3, 7, 0, 0, 0, 316), (.getfield 60, 3, 0, 0, 0, 0, 224), (.astore_n 2, 1, 2, 0, 0, 0, 0), (.aload_n 2, 1, 2, 0, 0, 0, 0), (.getfield 85, 3, 4, 5, 0, 0, 149), (.iload_n 1, 1, 1, 0, 0, 0, 0), (.iand, 1, 0, 0, 0, 0, 0), (.invokestatic 178, 3, 198, 1, 1, 0, 613), (.iconst 1, 1, 1, 0, 0, 0, 0), (.iand, 1, 0, 0, 0, 0, 0), (.istore_n 3, 1, 3, 0, 0, 0, 0), (.lconst 0, 1, 0, 0, 0, 0, 0), (.lstore 4, 2, 4, 0, 0, 0, 0), (.iconst 0, 1, 0, 0, 0, 0, 0), (.istore 6, 2, 6, 0, 0, 0, 0)]
def cX7_knowBySignal_26 : oh_C := [(.iload 6, 2, 6, 0, 0, 0, 0), (.aload_n 2, 1, 2, 0, 0, 0, 0), (.invokevirtual 229, 3, 21, 1, 1, 4, 382), (.if_icmp .ge 31, 3, 63, 0, 0, 0, 0), (.iload 6, 2, 6, 0, 0, 0, 0), (.iload_n 1, 1, 1, 0, 0, 0, 0), (.iand, 1, 0, 0, 0, 0, 0), (.invokestatic 178, 3, 198, 1, 1, 0, 613), (.iconst 1, 1, 1, 0, 0, 0, 0), (.iand, 1, 0, 0, 0, 0, 0), (.iload_n 3, 1, 3, 0, 0, 0, 0), (.if_icmp .ne 12, 3, 57, 0, 0, 0, 0), (.lload 4, 2, 4, 0, 0, 0, 0), (.lconst 1, 1, 1, 0, 0, 0, 0), (.iload 6, 2, 6, 0, 0, 0, 0), (.lshl, 1, 0, 0, 0, 0, 0), (.lor, 1, 0, 0, 0, 0, 0), (.lstore 4, 2, 4, 0, 0, 0, 0)]
def cX7_knowBySignal_57 : oh_C := [(.iinc 6 1, 3, 6, 1, 0, 0, 0), (.goto (-34), 3, 26, 0, 0, 0, 0)]
def cX7_knowBySignal_63 : oh_C := [(.iconst 0, 1, 0, 0, 0, 0, 0), (.istore 6, 2, 6, 0, 0, 0, 0), (.iconst 0, 1, 0, 0, 0, 0, 0), (.istore 7, 2, 7, 0, 0, 0, 0)]
def cX7_knowBySignal_69 : oh_C := [(.iload 7, 2, 7, 0, 0, 0, 0), (.aload_n 2, 1, 2, 0, 0, 0, 0), (.getfield 68, 3, 4, 0, 0, 0, 136), (.if_icmp .ge 33, 3, 108, 0, 0, 0, 0), (.iload 7, 2, 7, 0, 0, 0, 0), (.aload_n 2, 1, 2, 0, 0, 0, 0), (.iload 7, 2, 7, 0, 0, 0, 0), (.aload_n 2, 1, 2, 0, 0, 0, 0), (.getfield 85, 3, 4, 5, 0, 0, 149), (.invokevirtual 195, 3, 24, 3, 2, 4, 712), (.lload 4, 2, 4, 0, 0, 0, 0), (.land, 1, 0, 0, 0, 0, 0), (.invokestatic 206, 3, 102, 2, 1, 0, 713), (.ifCond .eq 6, 3, 102, 0, 0, 0, 0), (.iinc 6 1, 3, 6, 1, 0, 0, 0)]
def cX7_knowBySignal_102 : oh_C := [(.iinc 7 1, 3, 7, 1, 0, 0, 0), (.goto (-36), 3, 69, 0, 0, 0, 0)]
def cX7_knowBySignal_108 : oh_C := [(.iload 6, 2, 6, 0, 0, 0, 0), (.ireturn, 1, 0, 0, 0, 0, 0)]
def tX7_knowBySignal : oh_T := [(0, none, cX7_knowBySignal_0), (26, some [false, true, true, true, true, false, true, false], cX7_knowBySignal_26), (57, none, cX7_knowBySignal_57), (63, none, cX7_knowBySignal_63), (69, some [false, false, true, false, true, false, true, true], cX7_knowBySignal_69), (102, none, cX7_knowBySignal_102), (108, none, cX7_knowBySignal_108)]
def cX7_commonDivisor_0 : oh_C := [(.iload_n 0, 1, 0, 0, 0, 0, 0), (.istore_n 2, 1, 2, 0, 0, 0, 0), (.iload_n 1, 1, 1, 0, 0, 0, 0), (.istore_n 3, 1, 3, 0, 0, 0, 0), (.iconst 0, 1, 0, 0, 0, 0, 0), (.istore 4, 2, 4, 0, 0, 0, 0)]
def cX7_commonDivisor_7 : oh_C := [(.iload 4, 2, 4, 0, 0, 0, 0), (.bipush 64, 2, 64, 0, 0, 0, 0), (.if_icmp .ge 23, 3, 34, 0, 0, 0, 0), (.iload_n 3, 1, 3, 0, 0, 0, 0), (.ifCond .eq 19, 3, 34, 0, 0, 0, 0), (.iload_n 2, 1, 2, 0, 0, 0, 0), (.iload_n 3, 1, 3, 0, 0, 0, 0), (.irem, 1, 0, 0, 0, 0, 0), (.istore 5, 2, 5, 0, 0, 0, 0), (.iload_n 3, 1, 3, 0, 0, 0, 0), (.istore_n 2, 1, 2, 0, 0, 0, 0), (.iload 5, 2, 5, 0, 0, 0, 0), (.istore_n 3, 1, 3, 0, 0, 0, 0), (.iinc 4 1, 3, 4, 1, 0, 0, 0), (.goto (-24), 3, 7, 0, 0, 0, 0)]
def cX7_commonDivisor_34 : oh_C := [(.iload_n 2, 1, 2, 0, 0, 0, 0), (.ireturn, 1, 0, 0, 0, 0, 0)]
def tX7_commonDivisor : oh_T := [(0, none, cX7_commonDivisor_0), (7, some [false, false, true, true, true, false], cX7_commonDivisor_7), (34, none, cX7_commonDivisor_34)]
def cX7_bit_0 : oh_C := [(.iload_n 0, 1, 0, 0, 0, 0, 0), (.iload_n 1, 1, 1, 0, 0, 0, 0), (.ishr, 1, 0, 0, 0, 0, 0), (.iconst 1, 1, 1, 0, 0, 0, 0), (.iand, 1, 0, 0, 0, 0, 0), (.ireturn, 1, 0, 0, 0, 0, 0)]
def tX7_bit : oh_T := [(0, none, cX7_bit_0)]
def cX7_held_0 : oh_C := [(.iload_n 1, 1, 1, 0, 0, 0, 0), (.iload_n 2, 1, 2, 0, 0, 0, 0), (.iload_n 0, 1, 0, 0, 0, 0, 0), (.invokestatic 312, 3, 201, 2, 1, 0, 581), (.invokestatic 239, 3, 200, 2, 1, 0, 582), (.ireturn, 1, 0, 0, 0, 0, 0)]
def tX7_held : oh_T := [(0, none, cX7_held_0)]
def cX7_holds_0 : oh_C := [(.lload_n 0, 1, 0, 0, 0, 0, 0), (.iload_n 2, 1, 2, 0, 0, 0, 0), (.lushr, 1, 0, 0, 0, 0, 0), (.lconst 1, 1, 1, 0, 0, 0, 0), (.land, 1, 0, 0, 0, 0, 0), (.lconst 1, 1, 1, 0, 0, 0, 0), (.lcmp, 1, 0, 0, 0, 0, 0), (.ifCond .ne 7, 3, 14, 0, 0, 0, 0), (.iconst 1, 1, 1, 0, 0, 0, 0), (.goto 4, 3, 15, 0, 0, 0, 0)]
def cX7_holds_14 : oh_C := [(.iconst 0, 1, 0, 0, 0, 0, 0)]
def cX7_holds_15 : oh_C := [(.ireturn, 1, 1, 0, 0, 0, 0)]
def tX7_holds : oh_T := [(0, none, cX7_holds_0), (14, none, cX7_holds_14), (15, none, cX7_holds_15)]
def cX7_blacks_0 : oh_C := [(.iload_n 0, 1, 0, 0, 0, 0, 0), (.ifCond .lt 9, 3, 10, 0, 0, 0, 0), (.iload_n 0, 1, 0, 0, 0, 0, 0), (.bipush 6, 2, 6, 0, 0, 0, 0), (.if_icmp .lt 7, 3, 14, 0, 0, 0, 0)]
def cX7_blacks_10 : oh_C := [(.iconst 0, 1, 0, 0, 0, 0, 0), (.goto 13, 3, 24, 0, 0, 0, 0)]
def cX7_blacks_14 : oh_C := [(.lload_n 1, 1, 1, 0, 0, 0, 0), (.getstatic 315, 3, 1002, 0, 0, 0, 638), (.iload_n 0, 1, 0, 0, 0, 0, 0), (.laload, 1, 0, 0, 0, 0, 0), (.land, 1, 0, 0, 0, 0, 0), (.invokestatic 172, 3, 199, 1, 1, 0, 603)]
def cX7_blacks_24 : oh_C := [(.ireturn, 1, 0, 0, 0, 0, 0)]
def tX7_blacks : oh_T := [(0, none, cX7_blacks_0), (10, none, cX7_blacks_10), (14, none, cX7_blacks_14), (24, none, cX7_blacks_24)]
def cX7_whites_0 : oh_C := [(.iload_n 0, 1, 0, 0, 0, 0, 0), (.ifCond .lt 9, 3, 10, 0, 0, 0, 0), (.iload_n 0, 1, 0, 0, 0, 0, 0), (.bipush 6, 2, 6, 0, 0, 0, 0), (.if_icmp .lt 7, 3, 14, 0, 0, 0, 0)]
def cX7_whites_10 : oh_C := [(.iconst 0, 1, 0, 0, 0, 0, 0), (.goto 17, 3, 28, 0, 0, 0, 0)]
def cX7_whites_14 : oh_C := [(.lload_n 1, 1, 1, 0, 0, 0, 0), (.getstatic 315, 3, 1002, 0, 0, 0, 638), (.iload_n 0, 1, 0, 0, 0, 0, 0), (.laload, 1, 0, 0, 0, 0, 0), (.ldc2_w 237, 3, 1, 1, 0, 0, 637), (.lxor, 1, 0, 0, 0, 0, 0), (.land, 1, 0, 0, 0, 0, 0), (.invokestatic 172, 3, 199, 1, 1, 0, 603)]
def cX7_whites_28 : oh_C := [(.ireturn, 1, 0, 0, 0, 0, 0)]
def tX7_whites : oh_T := [(0, none, cX7_whites_0), (10, none, cX7_whites_10), (14, none, cX7_whites_14), (28, none, cX7_whites_28)]
def cX7_knows_0 : oh_C := [(.iload_n 0, 1, 0, 0, 0, 0, 0), (.ifCond .lt 37, 3, 38, 0, 0, 0, 0), (.iload_n 0, 1, 0, 0, 0, 0, 0), (.bipush 6, 2, 6, 0, 0, 0, 0), (.if_icmp .ge 31, 3, 38, 0, 0, 0, 0), (.lload_n 1, 1, 1, 0, 0, 0, 0), (.getstatic 315, 3, 1002, 0, 0, 0, 638), (.iload_n 0, 1, 0, 0, 0, 0, 0), (.laload, 1, 0, 0, 0, 0, 0), (.land, 1, 0, 0, 0, 0, 0), (.lconst 0, 1, 0, 0, 0, 0, 0), (.lcmp, 1, 0, 0, 0, 0, 0), (.ifCond .eq 19, 3, 38, 0, 0, 0, 0), (.lload_n 1, 1, 1, 0, 0, 0, 0), (.getstatic 315, 3, 1002, 0, 0, 0, 638), (.iload_n 0, 1, 0, 0, 0, 0, 0), (.laload, 1, 0, 0, 0, 0, 0), (.ldc2_w 237, 3, 1, 1, 0, 0, 637), (.lxor, 1, 0, 0, 0, 0, 0), (.land, 1, 0, 0, 0, 0, 0), (.lconst 0, 1, 0, 0, 0, 0, 0), (.lcmp, 1, 0, 0, 0, 0, 0), (.ifCond .ne 7, 3, 42, 0, 0, 0, 0)]
def cX7_knows_38 : oh_C := [(.iconst 1, 1, 1, 0, 0, 0, 0), (.goto 4, 3, 43, 0, 0, 0, 0)]
def cX7_knows_42 : oh_C := [(.iconst 0, 1, 0, 0, 0, 0, 0)]
def cX7_knows_43 : oh_C := [(.ireturn, 1, 1, 0, 0, 0, 0)]
def tX7_knows : oh_T := [(0, none, cX7_knows_0), (38, none, cX7_knows_38), (42, none, cX7_knows_42), (43, none, cX7_knows_43)]
def cX7_wouldSay_0 : oh_C := [(.iload_n 0, 1, 0, 0, 0, 0, 0), (.lload_n 1, 1, 1, 0, 0, 0, 0), (.invokestatic 199, 3, 100, 2, 1, 0, 668), (.iload_n 0, 1, 0, 0, 0, 0, 0), (.lload_n 1, 1, 1, 0, 0, 0, 0), (.invokestatic 203, 3, 101, 2, 1, 0, 669), (.if_icmp .lt 7, 3, 17, 0, 0, 0, 0), (.iconst 1, 1, 1, 0, 0, 0, 0), (.goto 4, 3, 18, 0, 0, 0, 0)]
def cX7_wouldSay_17 : oh_C := [(.iconst 0, 1, 0, 0, 0, 0, 0)]
def cX7_wouldSay_18 : oh_C := [(.ireturn, 1, 0, 0, 0, 0, 0)]
def tX7_wouldSay : oh_T := [(0, none, cX7_wouldSay_0), (17, none, cX7_wouldSay_17), (18, none, cX7_wouldSay_18)]
def cX7_allWhite_0 : oh_C := [(.ldc2_w 237, 3, 1, 1, 0, 0, 637), (.lstore_n 1, 1, 1, 0, 0, 0, 0), (.iconst 0, 1, 0, 0, 0, 0, 0), (.istore_n 3, 1, 3, 0, 0, 0, 0)]
def cX7_allWhite_6 : oh_C := [(.iload_n 3, 1, 3, 0, 0, 0, 0), (.bipush 6, 2, 6, 0, 0, 0, 0), (.if_icmp .ge 30, 3, 39, 0, 0, 0, 0), (.iload_n 0, 1, 0, 0, 0, 0, 0), (.iload_n 3, 1, 3, 0, 0, 0, 0), (.invokestatic 88, 3, 97, 2, 1, 0, 371), (.iconst 1, 1, 1, 0, 0, 0, 0), (.if_icmp .ne 15, 3, 33, 0, 0, 0, 0), (.lload_n 1, 1, 1, 0, 0, 0, 0), (.getstatic 315, 3, 1002, 0, 0, 0, 638), (.iload_n 3, 1, 3, 0, 0, 0, 0), (.laload, 1, 0, 0, 0, 0, 0), (.ldc2_w 237, 3, 1, 1, 0, 0, 637), (.lxor, 1, 0, 0, 0, 0, 0), (.land, 1, 0, 0, 0, 0, 0), (.lstore_n 1, 1, 1, 0, 0, 0, 0)]
def cX7_allWhite_33 : oh_C := [(.iinc 3 1, 3, 3, 1, 0, 0, 0), (.goto (-30), 3, 6, 0, 0, 0, 0)]
def cX7_allWhite_39 : oh_C := [(.lload_n 1, 1, 1, 0, 0, 0, 0), (.lreturn, 1, 0, 0, 0, 0, 0)]
def tX7_allWhite : oh_T := [(0, none, cX7_allWhite_0), (6, some [true, true, false, true], cX7_allWhite_6), (33, none, cX7_allWhite_33), (39, none, cX7_allWhite_39)]
def cX8_finds_0 : oh_C := [(.aload_n 0, 1, 0, 0, 0, 0, 0), (.getfield 19, 3, 8, 7, 0, 0, 907), (.iload_n 1, 1, 1, 0, 0, 0, 0), (.dup2, 1, 0, 0, 0, 0, 0), (.iaload, 1, 0, 0, 0, 0, 0), (.iconst 1, 1, 1, 0, 0, 0, 0), (.iadd, 1, 0, 0, 0, 0, 0), (.iastore, 1, 0, 0, 0, 0, 0), (.ldc 52, 2, 1000000000, 0, 0, 1, 991), (.iload_n 1, 1, 1, 0, 0, 0, 0), (.isub, 1, 0, 0, 0, 0, 0), (.ireturn, 1, 0, 0, 0, 0, 0)]
def tX8_finds : oh_T := [(0, none, cX8_finds_0)]
def cX8_in_0 : oh_C := [(.lload_n 0, 1, 0, 0, 0, 0, 0), (.lload_n 2, 1, 2, 0, 0, 0, 0), (.lcmp, 1, 0, 0, 0, 0, 0), (.ifCond .lt 14, 3, 17, 0, 0, 0, 0), (.lload_n 0, 1, 0, 0, 0, 0, 0), (.lload 4, 2, 4, 0, 0, 0, 0), (.lcmp, 1, 0, 0, 0, 0, 0), (.ifCond .gt 7, 3, 17, 0, 0, 0, 0), (.iconst 1, 1, 1, 0, 0, 0, 0), (.goto 4, 3, 18, 0, 0, 0, 0)]
def cX8_in_17 : oh_C := [(.iconst 0, 1, 0, 0, 0, 0, 0)]
def cX8_in_18 : oh_C := [(.ireturn, 1, 1, 0, 0, 0, 0)]
def tX8_in : oh_T := [(0, none, cX8_in_0), (17, none, cX8_in_17), (18, none, cX8_in_18)]
def cX8_held_0 : oh_C := [(.iload_n 0, 1, 0, 0, 0, 0, 0), (.iload_n 1, 1, 1, 0, 0, 0, 0), (.if_icmp .ge 7, 3, 9, 0, 0, 0, 0), (.iload_n 1, 1, 1, 0, 0, 0, 0), (.goto 13, 3, 19, 0, 0, 0, 0)]
def cX8_held_9 : oh_C := [(.iload_n 0, 1, 0, 0, 0, 0, 0), (.iload_n 2, 1, 2, 0, 0, 0, 0), (.if_icmp .le 7, 3, 18, 0, 0, 0, 0), (.iload_n 2, 1, 2, 0, 0, 0, 0), (.goto 4, 3, 19, 0, 0, 0, 0)]
def cX8_held_18 : oh_C := [(.iload_n 0, 1, 0, 0, 0, 0, 0)]
def cX8_held_19 : oh_C := [(.ireturn, 1, 0, 0, 0, 0, 0)]
def tX8_held : oh_T := [(0, none, cX8_held_0), (9, none, cX8_held_9), (18, none, cX8_held_18), (19, none, cX8_held_19)]
def cX8_copies_0 : oh_C := [(.iconst 0, 1, 0, 0, 0, 0, 0), (.istore_n 2, 1, 2, 0, 0, 0, 0)]
def cX8_copies_2 : oh_C := [(.iload_n 2, 1, 2, 0, 0, 0, 0), (.sipush 210, 3, 210, 0, 0, 0, 0), (.if_icmp .ge 15, 3, 21, 0, 0, 0, 0), (.aload_n 1, 1, 1, 0, 0, 0, 0), (.iload_n 2, 1, 2, 0, 0, 0, 0), (.aload_n 0, 1, 0, 0, 0, 0, 0), (.iload_n 2, 1, 2, 0, 0, 0, 0), (.iaload, 1, 0, 0, 0, 0, 0), (.iastore, 1, 0, 0, 0, 0, 0), (.iinc 2 1, 3, 2, 1, 0, 0, 0), (.goto (-16), 3, 2, 0, 0, 0, 0)]
def cX8_copies_21 : oh_C := [(.return_, 1, 0, 0, 0, 0, 0)]
def tX8_copies : oh_T := [(0, none, cX8_copies_0), (2, some [true, true, true], cX8_copies_2), (21, none, cX8_copies_21)]
def cX8_isMan_0 : oh_C := [(.iload_n 1, 1, 1, 0, 0, 0, 0), (.i2l, 1, 0, 0, 0, 0, 0), (.lconst 0, 1, 0, 0, 0, 0, 0), (.aload_n 0, 1, 0, 0, 0, 0, 0), (.getfield 7, 3, 8, 0, 0, 0, 900), (.iconst 0, 1, 0, 0, 0, 0, 0), (.iaload, 1, 0, 0, 0, 0, 0), (.iconst 1, 1, 1, 0, 0, 0, 0), (.isub, 1, 0, 0, 0, 0, 0), (.i2l, 1, 0, 0, 0, 0, 0), (.invokestatic 53, 3, 106, 3, 1, 0, 984), (.ireturn, 1, 1, 0, 0, 0, 0)]
def tX8_isMan : oh_T := [(0, none, cX8_isMan_0)]
def cX8_of_0 : oh_C := [(.aload_n 0, 1, 0, 0, 0, 0, 0), (.getfield 7, 3, 8, 0, 0, 0, 900), (.bipush 8, 2, 8, 0, 0, 0, 0), (.iconst 5, 1, 5, 0, 0, 0, 0), (.iload_n 1, 1, 1, 0, 0, 0, 0), (.imul, 1, 0, 0, 0, 0, 0), (.iadd, 1, 0, 0, 0, 0, 0), (.iload_n 2, 1, 2, 0, 0, 0, 0), (.iadd, 1, 0, 0, 0, 0, 0), (.iaload, 1, 0, 0, 0, 0, 0), (.ireturn, 1, 0, 0, 0, 0, 0)]
def tX8_of : oh_T := [(0, none, cX8_of_0)]
def cX8_becomes_0 : oh_C := [(.aload_n 0, 1, 0, 0, 0, 0, 0), (.getfield 7, 3, 8, 0, 0, 0, 900), (.bipush 8, 2, 8, 0, 0, 0, 0), (.iconst 5, 1, 5, 0, 0, 0, 0), (.iload_n 1, 1, 1, 0, 0, 0, 0), (.imul, 1, 0, 0, 0, 0, 0), (.iadd, 1, 0, 0, 0, 0, 0), (.iload_n 2, 1, 2, 0, 0, 0, 0), (.iadd, 1, 0, 0, 0, 0, 0), (.iload_n 3, 1, 3, 0, 0, 0, 0), (.iastore, 1, 0, 0, 0, 0, 0), (.return_, 1, 0, 0, 0, 0, 0)]
def tX8_becomes : oh_T := [(0, none, cX8_becomes_0)]
def cX8_allMen_0 : oh_C := [(.iconst 1, 1, 1, 0, 0, 0, 0), (.aload_n 0, 1, 0, 0, 0, 0, 0), (.getfield 7, 3, 8, 0, 0, 0, 900), (.iconst 0, 1, 0, 0, 0, 0, 0), (.iaload, 1, 0, 0, 0, 0, 0), (.ishl, 1, 0, 0, 0, 0, 0), (.iconst 1, 1, 1, 0, 0, 0, 0), (.isub, 1, 0, 0, 0, 0, 0), (.ireturn, 1, 0, 0, 0, 0, 0)]
def tX8_allMen : oh_T := [(0, none, cX8_allMen_0)]
def cX8_isOpen_0 : oh_C := [(.aload_n 0, 1, 0, 0, 0, 0, 0), (.getfield 7, 3, 8, 0, 0, 0, 900), (.iconst 1, 1, 1, 0, 0, 0, 0), (.iaload, 1, 0, 0, 0, 0, 0), (.iconst 1, 1, 1, 0, 0, 0, 0), (.if_icmp .ne 7, 3, 14, 0, 0, 0, 0), (.iconst 1, 1, 1, 0, 0, 0, 0), (.goto 4, 3, 15, 0, 0, 0, 0)]
def cX8_isOpen_14 : oh_C := [(.iconst 0, 1, 0, 0, 0, 0, 0)]
def cX8_isOpen_15 : oh_C := [(.ireturn, 1, 1, 0, 0, 0, 0)]
def tX8_isOpen : oh_T := [(0, none, cX8_isOpen_0), (14, none, cX8_isOpen_14), (15, none, cX8_isOpen_15)]
def cX8_here_0 : oh_C := [(.aload_n 0, 1, 0, 0, 0, 0, 0), (.getfield 57, 3, 8, 9, 0, 0, 909), (.aload_n 0, 1, 0, 0, 0, 0, 0), (.getfield 61, 3, 8, 10, 0, 0, 910), (.if_icmp .ge 27, 3, 35, 0, 0, 0, 0), (.aload_n 0, 1, 0, 0, 0, 0, 0), (.getfield 64, 3, 8, 11, 0, 0, 911), (.ifCond .ge 20, 3, 35, 0, 0, 0, 0), (.aload_n 0, 1, 0, 0, 0, 0, 0), (.getfield 7, 3, 8, 0, 0, 0, 900), (.aload_n 0, 1, 0, 0, 0, 0, 0), (.getfield 67, 3, 8, 8, 0, 0, 908), (.aload_n 0, 1, 0, 0, 0, 0, 0), (.getfield 57, 3, 8, 9, 0, 0, 909), (.iadd, 1, 0, 0, 0, 0, 0), (.iaload, 1, 0, 0, 0, 0, 0), (.goto 4, 3, 36, 0, 0, 0, 0)]
def cX8_here_35 : oh_C := [(.iconst (-1), 1, 1, 1, 0, 0, 0)]
def cX8_here_36 : oh_C := [(.ireturn, 1, 0, 0, 0, 0, 0)]
def tX8_here : oh_T := [(0, none, cX8_here_0), (35, none, cX8_here_35), (36, none, cX8_here_36)]
def cX8_wrong_0 : oh_C := [(.aload_n 0, 1, 0, 0, 0, 0, 0), (.aload_n 0, 1, 0, 0, 0, 0, 0), (.getfield 64, 3, 8, 11, 0, 0, 911), (.ifCond .ge 10, 3, 15, 0, 0, 0, 0), (.aload_n 0, 1, 0, 0, 0, 0, 0), (.getfield 57, 3, 8, 9, 0, 0, 909), (.goto 7, 3, 19, 0, 0, 0, 0)]
def cX8_wrong_15 : oh_C := [(.aload_n 0, 1, 0, 0, 0, 0, 0), (.getfield 64, 3, 8, 11, 0, 0, 911)]
def cX8_wrong_19 : oh_C := [(.putfield 64, 3, 8, 11, 0, 0, 911), (.iconst 0, 1, 0, 0, 0, 0, 0), (.ireturn, 1, 0, 0, 0, 0, 0)]
def tX8_wrong : oh_T := [(0, none, cX8_wrong_0), (15, none, cX8_wrong_15), (19, none, cX8_wrong_19)]
def cX8_takes_0 : oh_C := [(.aload_n 0, 1, 0, 0, 0, 0, 0), (.invokevirtual 70, 3, 114, 1, 1, 8, 1025), (.iload_n 1, 1, 1, 0, 0, 0, 0), (.if_icmp .eq 5, 3, 10, 0, 0, 0, 0), (.iconst 0, 1, 0, 0, 0, 0, 0), (.ireturn, 1, 1, 0, 0, 0, 0)]
def cX8_takes_10 : oh_C := [(.aload_n 0, 1, 0, 0, 0, 0, 0), (.dup, 1, 0, 0, 0, 0, 0), (.getfield 57, 3, 8, 9, 0, 0, 909), (.iconst 1, 1, 1, 0, 0, 0, 0), (.iadd, 1, 0, 0, 0, 0, 0), (.putfield 57, 3, 8, 9, 0, 0, 909), (.iconst 1, 1, 1, 0, 0, 0, 0), (.ireturn, 1, 1, 0, 0, 0, 0)]
def tX8_takes : oh_T := [(0, none, cX8_takes_0), (10, none, cX8_takes_10)]
def cX8_nameOf_0 : oh_C := [(.aload_n 0, 1, 0, 0, 0, 0, 0), (.getfield 74, 3, 8, 13, 0, 0, 913), (.ifCond .eq 35, 3, 39, 0, 0, 0, 0), (.iload_n 1, 1, 1, 0, 0, 0, 0), (.bipush 104, 2, 104, 0, 0, 0, 0), (.if_icmp .ne 7, 3, 17, 0, 0, 0, 0), (.iconst 0, 1, 0, 0, 0, 0, 0), (.goto 24, 3, 38, 0, 0, 0, 0)]
def cX8_nameOf_17 : oh_C := [(.iload_n 1, 1, 1, 0, 0, 0, 0), (.bipush 116, 2, 116, 0, 0, 0, 0), (.if_icmp .ne 7, 3, 27, 0, 0, 0, 0), (.iconst 1, 1, 1, 0, 0, 0, 0), (.goto 14, 3, 38, 0, 0, 0, 0)]
def cX8_nameOf_27 : oh_C := [(.iload_n 1, 1, 1, 0, 0, 0, 0), (.bipush 99, 2, 99, 0, 0, 0, 0), (.if_icmp .ne 7, 3, 37, 0, 0, 0, 0), (.iconst 2, 1, 2, 0, 0, 0, 0), (.goto 4, 3, 38, 0, 0, 0, 0)]
def cX8_nameOf_37 : oh_C := [(.iconst (-1), 1, 1, 1, 0, 0, 0)]
def cX8_nameOf_38 : oh_C := [(.ireturn, 1, 0, 0, 0, 0, 0)]
def cX8_nameOf_39 : oh_C := [(.iload_n 1, 1, 1, 0, 0, 0, 0), (.bipush 98, 2, 98, 0, 0, 0, 0), (.if_icmp .ne 7, 3, 49, 0, 0, 0, 0), (.iconst 0, 1, 0, 0, 0, 0, 0), (.goto 34, 3, 80, 0, 0, 0, 0)]
def cX8_nameOf_49 : oh_C := [(.iload_n 1, 1, 1, 0, 0, 0, 0), (.bipush 110, 2, 110, 0, 0, 0, 0), (.if_icmp .ne 7, 3, 59, 0, 0, 0, 0), (.iconst 1, 1, 1, 0, 0, 0, 0), (.goto 24, 3, 80, 0, 0, 0, 0)]
def cX8_nameOf_59 : oh_C := [(.iload_n 1, 1, 1, 0, 0, 0, 0), (.bipush 102, 2, 102, 0, 0, 0, 0), (.if_icmp .ne 7, 3, 69, 0, 0, 0, 0), (.iconst 2, 1, 2, 0, 0, 0, 0), (.goto 14, 3, 80, 0, 0, 0, 0)]
def cX8_nameOf_69 : oh_C := [(.iload_n 1, 1, 1, 0, 0, 0, 0), (.bipush 108, 2, 108, 0, 0, 0, 0), (.if_icmp .ne 7, 3, 79, 0, 0, 0, 0), (.iconst 3, 1, 3, 0, 0, 0, 0), (.goto 4, 3, 80, 0, 0, 0, 0)]
def cX8_nameOf_79 : oh_C := [(.iconst (-1), 1, 1, 1, 0, 0, 0)]
def cX8_nameOf_80 : oh_C := [(.ireturn, 1, 0, 0, 0, 0, 0)]
def tX8_nameOf : oh_T := [(0, none, cX8_nameOf_0), (17, none, cX8_nameOf_17), (27, none, cX8_nameOf_27), (37, none, cX8_nameOf_37), (38, none, cX8_nameOf_38), (39, none, cX8_nameOf_39), (49, none, cX8_nameOf_49), (59, none, cX8_nameOf_59), (69, none, cX8_nameOf_69), (79, none, cX8_nameOf_79), (80, none, cX8_nameOf_80)]
def cX8_either_0 : oh_C := [(.aload_n 0, 1, 0, 0, 0, 0, 0), (.invokevirtual 78, 3, 119, 1, 1, 8, 1005), (.istore_n 1, 1, 1, 0, 0, 0, 0)]
def cX8_either_5 : oh_C := [(.aload_n 0, 1, 0, 0, 0, 0, 0), (.bipush 124, 2, 124, 0, 0, 0, 0), (.invokevirtual 81, 3, 116, 2, 1, 8, 1033), (.ifCond .eq 25, 3, 36, 0, 0, 0, 0), (.aload_n 0, 1, 0, 0, 0, 0, 0), (.invokevirtual 78, 3, 119, 1, 1, 8, 1005), (.istore_n 2, 1, 2, 0, 0, 0, 0), (.iload_n 1, 1, 1, 0, 0, 0, 0), (.ifCond .ne 7, 3, 27, 0, 0, 0, 0), (.iload_n 2, 1, 2, 0, 0, 0, 0), (.ifCond .eq 7, 3, 31, 0, 0, 0, 0)]
def cX8_either_27 : oh_C := [(.iconst 1, 1, 1, 0, 0, 0, 0), (.goto 4, 3, 32, 0, 0, 0, 0)]
def cX8_either_31 : oh_C := [(.iconst 0, 1, 0, 0, 0, 0, 0)]
def cX8_either_32 : oh_C := [(.istore_n 1, 1, 1, 0, 0, 0, 0), (.goto (-28), 3, 5, 0, 0, 0, 0)]
def cX8_either_36 : oh_C := [(.iload_n 1, 1, 1, 0, 0, 0, 0), (.ireturn, 1, 0, 0, 0, 0, 0)]
def tX8_either : oh_T := [(0, none, cX8_either_0), (5, some [true, true, false], cX8_either_5), (27, none, cX8_either_27), (31, none, cX8_either_31), (32, none, cX8_either_32), (36, none, cX8_either_36)]
def cX8_both_0 : oh_C := [(.aload_n 0, 1, 0, 0, 0, 0, 0), (.invokevirtual 85, 3, 120, 1, 1, 8, 1009), (.istore_n 1, 1, 1, 0, 0, 0, 0)]
def cX8_both_5 : oh_C := [(.aload_n 0, 1, 0, 0, 0, 0, 0), (.bipush 38, 2, 38, 0, 0, 0, 0), (.invokevirtual 81, 3, 116, 2, 1, 8, 1033), (.ifCond .eq 25, 3, 36, 0, 0, 0, 0), (.aload_n 0, 1, 0, 0, 0, 0, 0), (.invokevirtual 85, 3, 120, 1, 1, 8, 1009), (.istore_n 2, 1, 2, 0, 0, 0, 0), (.iload_n 1, 1, 1, 0, 0, 0, 0), (.ifCond .eq 11, 3, 31, 0, 0, 0, 0), (.iload_n 2, 1, 2, 0, 0, 0, 0), (.ifCond .eq 7, 3, 31, 0, 0, 0, 0), (.iconst 1, 1, 1, 0, 0, 0, 0), (.goto 4, 3, 32, 0, 0, 0, 0)]
def cX8_both_31 : oh_C := [(.iconst 0, 1, 0, 0, 0, 0, 0)]
def cX8_both_32 : oh_C := [(.istore_n 1, 1, 1, 0, 0, 0, 0), (.goto (-28), 3, 5, 0, 0, 0, 0)]
def cX8_both_36 : oh_C := [(.iload_n 1, 1, 1, 0, 0, 0, 0), (.ireturn, 1, 0, 0, 0, 0, 0)]
def tX8_both : oh_T := [(0, none, cX8_both_0), (5, some [true, true, false], cX8_both_5), (31, none, cX8_both_31), (32, none, cX8_both_32), (36, none, cX8_both_36)]
def cX8_compared_0 : oh_C := [(.aload_n 0, 1, 0, 0, 0, 0, 0), (.invokevirtual 88, 3, 121, 1, 1, 8, 1013), (.istore_n 1, 1, 1, 0, 0, 0, 0), (.aload_n 0, 1, 0, 0, 0, 0, 0), (.invokevirtual 70, 3, 114, 1, 1, 8, 1025), (.istore_n 2, 1, 2, 0, 0, 0, 0), (.iload_n 2, 1, 2, 0, 0, 0, 0), (.bipush 60, 2, 60, 0, 0, 0, 0), (.if_icmp .eq 17, 3, 30, 0, 0, 0, 0), (.iload_n 2, 1, 2, 0, 0, 0, 0), (.bipush 61, 2, 61, 0, 0, 0, 0), (.if_icmp .eq 11, 3, 30, 0, 0, 0, 0), (.iload_n 2, 1, 2, 0, 0, 0, 0), (.bipush 62, 2, 62, 0, 0, 0, 0), (.if_icmp .eq 5, 3, 30, 0, 0, 0, 0), (.iload_n 1, 1, 1, 0, 0, 0, 0), (.ireturn, 1, 0, 0, 0, 0, 0)]
def cX8_compared_30 : oh_C := [(.aload_n 0, 1, 0, 0, 0, 0, 0), (.dup, 1, 0, 0, 0, 0, 0), (.getfield 57, 3, 8, 9, 0, 0, 909), (.iconst 1, 1, 1, 0, 0, 0, 0), (.iadd, 1, 0, 0, 0, 0, 0), (.putfield 57, 3, 8, 9, 0, 0, 909), (.aload_n 0, 1, 0, 0, 0, 0, 0), (.invokevirtual 88, 3, 121, 1, 1, 8, 1013), (.istore_n 3, 1, 3, 0, 0, 0, 0), (.iload_n 2, 1, 2, 0, 0, 0, 0), (.bipush 60, 2, 60, 0, 0, 0, 0), (.if_icmp .ne 11, 3, 59, 0, 0, 0, 0), (.iload_n 1, 1, 1, 0, 0, 0, 0), (.iload_n 3, 1, 3, 0, 0, 0, 0), (.if_icmp .ge 29, 3, 82, 0, 0, 0, 0), (.goto 22, 3, 78, 0, 0, 0, 0)]
def cX8_compared_59 : oh_C := [(.iload_n 2, 1, 2, 0, 0, 0, 0), (.bipush 61, 2, 61, 0, 0, 0, 0), (.if_icmp .ne 11, 3, 73, 0, 0, 0, 0), (.iload_n 1, 1, 1, 0, 0, 0, 0), (.iload_n 3, 1, 3, 0, 0, 0, 0), (.if_icmp .ne 15, 3, 82, 0, 0, 0, 0), (.goto 8, 3, 78, 0, 0, 0, 0)]
def cX8_compared_73 : oh_C := [(.iload_n 1, 1, 1, 0, 0, 0, 0), (.iload_n 3, 1, 3, 0, 0, 0, 0), (.if_icmp .le 7, 3, 82, 0, 0, 0, 0)]
def cX8_compared_78 : oh_C := [(.iconst 1, 1, 1, 0, 0, 0, 0), (.goto 4, 3, 83, 0, 0, 0, 0)]
def cX8_compared_82 : oh_C := [(.iconst 0, 1, 0, 0, 0, 0, 0)]
def cX8_compared_83 : oh_C := [(.ireturn, 1, 0, 0, 0, 0, 0)]
def tX8_compared : oh_T := [(0, none, cX8_compared_0), (30, none, cX8_compared_30), (59, none, cX8_compared_59), (73, none, cX8_compared_73), (78, none, cX8_compared_78), (82, none, cX8_compared_82), (83, none, cX8_compared_83)]
def cX8_sum_0 : oh_C := [(.aload_n 0, 1, 0, 0, 0, 0, 0), (.invokevirtual 91, 3, 122, 1, 1, 8, 1017), (.istore_n 1, 1, 1, 0, 0, 0, 0)]
def cX8_sum_5 : oh_C := [(.aload_n 0, 1, 0, 0, 0, 0, 0), (.invokevirtual 70, 3, 114, 1, 1, 8, 1025), (.bipush 43, 2, 43, 0, 0, 0, 0), (.if_icmp .eq 12, 3, 23, 0, 0, 0, 0), (.aload_n 0, 1, 0, 0, 0, 0, 0), (.invokevirtual 70, 3, 114, 1, 1, 8, 1025), (.bipush 45, 2, 45, 0, 0, 0, 0), (.if_icmp .ne 42, 3, 62, 0, 0, 0, 0)]
def cX8_sum_23 : oh_C := [(.aload_n 0, 1, 0, 0, 0, 0, 0), (.invokevirtual 70, 3, 114, 1, 1, 8, 1025), (.istore_n 2, 1, 2, 0, 0, 0, 0), (.aload_n 0, 1, 0, 0, 0, 0, 0), (.dup, 1, 0, 0, 0, 0, 0), (.getfield 57, 3, 8, 9, 0, 0, 909), (.iconst 1, 1, 1, 0, 0, 0, 0), (.iadd, 1, 0, 0, 0, 0, 0), (.putfield 57, 3, 8, 9, 0, 0, 909), (.aload_n 0, 1, 0, 0, 0, 0, 0), (.invokevirtual 91, 3, 122, 1, 1, 8, 1017), (.istore_n 3, 1, 3, 0, 0, 0, 0), (.iload_n 2, 1, 2, 0, 0, 0, 0), (.bipush 43, 2, 43, 0, 0, 0, 0), (.if_icmp .ne 9, 3, 55, 0, 0, 0, 0), (.iload_n 1, 1, 1, 0, 0, 0, 0), (.iload_n 3, 1, 3, 0, 0, 0, 0), (.iadd, 1, 0, 0, 0, 0, 0), (.goto 6, 3, 58, 0, 0, 0, 0)]
def cX8_sum_55 : oh_C := [(.iload_n 1, 1, 1, 0, 0, 0, 0), (.iload_n 3, 1, 3, 0, 0, 0, 0), (.isub, 1, 0, 0, 0, 0, 0)]
def cX8_sum_58 : oh_C := [(.istore_n 1, 1, 1, 0, 0, 0, 0), (.goto (-54), 3, 5, 0, 0, 0, 0)]
def cX8_sum_62 : oh_C := [(.iload_n 1, 1, 1, 0, 0, 0, 0), (.ireturn, 1, 0, 0, 0, 0, 0)]
def tX8_sum : oh_T := [(0, none, cX8_sum_0), (5, some [true, true, false, false], cX8_sum_5), (23, none, cX8_sum_23), (55, none, cX8_sum_55), (58, none, cX8_sum_58), (62, none, cX8_sum_62)]
def cX8_product_0 : oh_C := [(.aload_n 0, 1, 0, 0, 0, 0, 0), (.invokevirtual 94, 3, 123, 1, 1, 8, 1021), (.istore_n 1, 1, 1, 0, 0, 0, 0)]
def cX8_product_5 : oh_C := [(.aload_n 0, 1, 0, 0, 0, 0, 0), (.invokevirtual 70, 3, 114, 1, 1, 8, 1025), (.bipush 42, 2, 42, 0, 0, 0, 0), (.if_icmp .eq 21, 3, 32, 0, 0, 0, 0), (.aload_n 0, 1, 0, 0, 0, 0, 0), (.invokevirtual 70, 3, 114, 1, 1, 8, 1025), (.bipush 47, 2, 47, 0, 0, 0, 0), (.if_icmp .eq 12, 3, 32, 0, 0, 0, 0), (.aload_n 0, 1, 0, 0, 0, 0, 0), (.invokevirtual 70, 3, 114, 1, 1, 8, 1025), (.bipush 37, 2, 37, 0, 0, 0, 0), (.if_icmp .ne 62, 3, 91, 0, 0, 0, 0)]
def cX8_product_32 : oh_C := [(.aload_n 0, 1, 0, 0, 0, 0, 0), (.invokevirtual 70, 3, 114, 1, 1, 8, 1025), (.istore_n 2, 1, 2, 0, 0, 0, 0), (.aload_n 0, 1, 0, 0, 0, 0, 0), (.dup, 1, 0, 0, 0, 0, 0), (.getfield 57, 3, 8, 9, 0, 0, 909), (.iconst 1, 1, 1, 0, 0, 0, 0), (.iadd, 1, 0, 0, 0, 0, 0), (.putfield 57, 3, 8, 9, 0, 0, 909), (.aload_n 0, 1, 0, 0, 0, 0, 0), (.invokevirtual 94, 3, 123, 1, 1, 8, 1021), (.istore_n 3, 1, 3, 0, 0, 0, 0), (.iload_n 2, 1, 2, 0, 0, 0, 0), (.bipush 42, 2, 42, 0, 0, 0, 0), (.if_icmp .ne 9, 3, 64, 0, 0, 0, 0), (.iload_n 1, 1, 1, 0, 0, 0, 0), (.iload_n 3, 1, 3, 0, 0, 0, 0), (.imul, 1, 0, 0, 0, 0, 0), (.goto 26, 3, 87, 0, 0, 0, 0)]
def cX8_product_64 : oh_C := [(.iload_n 3, 1, 3, 0, 0, 0, 0), (.ifCond .ne 7, 3, 72, 0, 0, 0, 0), (.iconst 0, 1, 0, 0, 0, 0, 0), (.goto 18, 3, 87, 0, 0, 0, 0)]
def cX8_product_72 : oh_C := [(.iload_n 2, 1, 2, 0, 0, 0, 0), (.bipush 47, 2, 47, 0, 0, 0, 0), (.if_icmp .ne 9, 3, 84, 0, 0, 0, 0), (.iload_n 1, 1, 1, 0, 0, 0, 0), (.iload_n 3, 1, 3, 0, 0, 0, 0), (.idiv, 1, 0, 0, 0, 0, 0), (.goto 6, 3, 87, 0, 0, 0, 0)]
def cX8_product_84 : oh_C := [(.iload_n 1, 1, 1, 0, 0, 0, 0), (.iload_n 3, 1, 3, 0, 0, 0, 0), (.irem, 1, 0, 0, 0, 0, 0)]
def cX8_product_87 : oh_C := [(.istore_n 1, 1, 1, 0, 0, 0, 0), (.goto (-83), 3, 5, 0, 0, 0, 0)]
def cX8_product_91 : oh_C := [(.iload_n 1, 1, 1, 0, 0, 0, 0), (.ireturn, 1, 0, 0, 0, 0, 0)]
def tX8_product : oh_T := [(0, none, cX8_product_0), (5, some [true, true, false, false], cX8_product_5), (32, none, cX8_product_32), (64, none, cX8_product_64), (72, none, cX8_product_72), (84, none, cX8_product_84), (87, none, cX8_product_87), (91, none, cX8_product_91)]
def cX8_unit_0 : oh_C := [(.aload_n 0, 1, 0, 0, 0, 0, 0), (.invokevirtual 70, 3, 114, 1, 1, 8, 1025), (.istore_n 1, 1, 1, 0, 0, 0, 0), (.iload_n 1, 1, 1, 0, 0, 0, 0), (.bipush 33, 2, 33, 0, 0, 0, 0), (.if_icmp .eq 9, 3, 17, 0, 0, 0, 0), (.iload_n 1, 1, 1, 0, 0, 0, 0), (.bipush 40, 2, 40, 0, 0, 0, 0), (.if_icmp .ne 104, 3, 118, 0, 0, 0, 0)]
def cX8_unit_17 : oh_C := [(.aload_n 0, 1, 0, 0, 0, 0, 0), (.getfield 97, 3, 8, 12, 0, 0, 912), (.iconst 5, 1, 5, 0, 0, 0, 0), (.if_icmp .ne 8, 3, 30, 0, 0, 0, 0), (.aload_n 0, 1, 0, 0, 0, 0, 0), (.invokevirtual 100, 3, 115, 1, 1, 8, 1029), (.ireturn, 1, 0, 0, 0, 0, 0)]
def cX8_unit_30 : oh_C := [(.aload_n 0, 1, 0, 0, 0, 0, 0), (.dup, 1, 0, 0, 0, 0, 0), (.getfield 97, 3, 8, 12, 0, 0, 912), (.iconst 1, 1, 1, 0, 0, 0, 0), (.iadd, 1, 0, 0, 0, 0, 0), (.putfield 97, 3, 8, 12, 0, 0, 912), (.aload_n 0, 1, 0, 0, 0, 0, 0), (.dup, 1, 0, 0, 0, 0, 0), (.getfield 57, 3, 8, 9, 0, 0, 909), (.iconst 1, 1, 1, 0, 0, 0, 0), (.iadd, 1, 0, 0, 0, 0, 0), (.putfield 57, 3, 8, 9, 0, 0, 909), (.iload_n 1, 1, 1, 0, 0, 0, 0), (.bipush 40, 2, 40, 0, 0, 0, 0), (.if_icmp .ne 10, 3, 63, 0, 0, 0, 0), (.aload_n 0, 1, 0, 0, 0, 0, 0), (.invokevirtual 103, 3, 118, 1, 1, 8, 1001), (.goto 7, 3, 67, 0, 0, 0, 0)]
def cX8_unit_63 : oh_C := [(.aload_n 0, 1, 0, 0, 0, 0, 0), (.invokevirtual 94, 3, 123, 1, 1, 8, 1021)]
def cX8_unit_67 : oh_C := [(.istore_n 2, 1, 2, 0, 0, 0, 0), (.iload_n 1, 1, 1, 0, 0, 0, 0), (.bipush 40, 2, 40, 0, 0, 0, 0), (.if_icmp .ne 17, 3, 88, 0, 0, 0, 0), (.aload_n 0, 1, 0, 0, 0, 0, 0), (.bipush 41, 2, 41, 0, 0, 0, 0), (.invokevirtual 81, 3, 116, 2, 1, 8, 1033), (.ifCond .ne 8, 3, 88, 0, 0, 0, 0), (.aload_n 0, 1, 0, 0, 0, 0, 0), (.invokevirtual 100, 3, 115, 1, 1, 8, 1029), (.ireturn, 1, 0, 0, 0, 0, 0)]
def cX8_unit_88 : oh_C := [(.aload_n 0, 1, 0, 0, 0, 0, 0), (.dup, 1, 0, 0, 0, 0, 0), (.getfield 97, 3, 8, 12, 0, 0, 912), (.iconst 1, 1, 1, 0, 0, 0, 0), (.isub, 1, 0, 0, 0, 0, 0), (.putfield 97, 3, 8, 12, 0, 0, 912), (.iload_n 1, 1, 1, 0, 0, 0, 0), (.bipush 40, 2, 40, 0, 0, 0, 0), (.if_icmp .ne 7, 3, 108, 0, 0, 0, 0), (.iload_n 2, 1, 2, 0, 0, 0, 0), (.goto 12, 3, 117, 0, 0, 0, 0)]
def cX8_unit_108 : oh_C := [(.iload_n 2, 1, 2, 0, 0, 0, 0), (.ifCond .ne 7, 3, 116, 0, 0, 0, 0), (.iconst 1, 1, 1, 0, 0, 0, 0), (.goto 4, 3, 117, 0, 0, 0, 0)]
def cX8_unit_116 : oh_C := [(.iconst 0, 1, 0, 0, 0, 0, 0)]
def cX8_unit_117 : oh_C := [(.ireturn, 1, 0, 0, 0, 0, 0)]
def cX8_unit_118 : oh_C := [(.aload_n 0, 1, 0, 0, 0, 0, 0), (.iload_n 1, 1, 1, 0, 0, 0, 0), (.invokevirtual 106, 3, 117, 2, 1, 8, 1037), (.istore_n 2, 1, 2, 0, 0, 0, 0), (.iload_n 2, 1, 2, 0, 0, 0, 0), (.ifCond .lt 20, 3, 145, 0, 0, 0, 0), (.aload_n 0, 1, 0, 0, 0, 0, 0), (.dup, 1, 0, 0, 0, 0, 0), (.getfield 57, 3, 8, 9, 0, 0, 909), (.iconst 1, 1, 1, 0, 0, 0, 0), (.iadd, 1, 0, 0, 0, 0, 0), (.putfield 57, 3, 8, 9, 0, 0, 909), (.aload_n 0, 1, 0, 0, 0, 0, 0), (.getfield 22, 3, 8, 14, 0, 0, 914), (.iload_n 2, 1, 2, 0, 0, 0, 0), (.iaload, 1, 0, 0, 0, 0, 0), (.ireturn, 1, 0, 0, 0, 0, 0)]
def cX8_unit_145 : oh_C := [(.iconst 0, 1, 0, 0, 0, 0, 0), (.istore_n 3, 1, 3, 0, 0, 0, 0), (.iconst 0, 1, 0, 0, 0, 0, 0), (.istore 4, 2, 4, 0, 0, 0, 0)]
def cX8_unit_150 : oh_C := [(.iload 4, 2, 4, 0, 0, 0, 0), (.iconst 4, 1, 4, 0, 0, 0, 0), (.if_icmp .ge 49, 3, 202, 0, 0, 0, 0), (.aload_n 0, 1, 0, 0, 0, 0, 0), (.invokevirtual 70, 3, 114, 1, 1, 8, 1025), (.i2l, 1, 0, 0, 0, 0, 0), (.ldc2_w 110, 3, 48, 0, 0, 0, 1041), (.ldc2_w 112, 3, 57, 0, 0, 0, 1042), (.invokestatic 53, 3, 106, 3, 1, 0, 984), (.ifCond .eq 32, 3, 202, 0, 0, 0, 0), (.bipush 10, 2, 10, 0, 0, 0, 0), (.iload_n 3, 1, 3, 0, 0, 0, 0), (.imul, 1, 0, 0, 0, 0, 0), (.aload_n 0, 1, 0, 0, 0, 0, 0), (.invokevirtual 70, 3, 114, 1, 1, 8, 1025), (.iadd, 1, 0, 0, 0, 0, 0), (.bipush 48, 2, 48, 0, 0, 0, 0), (.isub, 1, 0, 0, 0, 0, 0), (.istore_n 3, 1, 3, 0, 0, 0, 0), (.aload_n 0, 1, 0, 0, 0, 0, 0), (.dup, 1, 0, 0, 0, 0, 0), (.getfield 57, 3, 8, 9, 0, 0, 909), (.iconst 1, 1, 1, 0, 0, 0, 0), (.iadd, 1, 0, 0, 0, 0, 0), (.putfield 57, 3, 8, 9, 0, 0, 909), (.iinc 4 1, 3, 4, 1, 0, 0, 0), (.goto (-49), 3, 150, 0, 0, 0, 0)]
def cX8_unit_202 : oh_C := [(.iload 4, 2, 4, 0, 0, 0, 0), (.ifCond .ne 10, 3, 214, 0, 0, 0, 0), (.aload_n 0, 1, 0, 0, 0, 0, 0), (.invokevirtual 100, 3, 115, 1, 1, 8, 1029), (.goto 4, 3, 215, 0, 0, 0, 0)]
def cX8_unit_214 : oh_C := [(.iload_n 3, 1, 3, 0, 0, 0, 0)]
def cX8_unit_215 : oh_C := [(.ireturn, 1, 0, 0, 0, 0, 0)]
def tX8_unit : oh_T := [(0, none, cX8_unit_0), (17, none, cX8_unit_17), (30, none, cX8_unit_30), (63, none, cX8_unit_63), (67, none, cX8_unit_67), (88, none, cX8_unit_88), (108, none, cX8_unit_108), (116, none, cX8_unit_116), (117, none, cX8_unit_117), (118, none, cX8_unit_118), (145, none, cX8_unit_145), (150, some [true, false, false, true, true], cX8_unit_150), (202, none, cX8_unit_202), (214, none, cX8_unit_214), (215, none, cX8_unit_215)]
def cX8_worked_0 : oh_C := [(.aload_n 0, 1, 0, 0, 0, 0, 0), (.iload_n 1, 1, 1, 0, 0, 0, 0), (.putfield 67, 3, 8, 8, 0, 0, 908), (.aload_n 0, 1, 0, 0, 0, 0, 0), (.iconst 0, 1, 0, 0, 0, 0, 0), (.putfield 57, 3, 8, 9, 0, 0, 909), (.aload_n 0, 1, 0, 0, 0, 0, 0), (.iload_n 2, 1, 2, 0, 0, 0, 0), (.putfield 61, 3, 8, 10, 0, 0, 910), (.aload_n 0, 1, 0, 0, 0, 0, 0), (.iconst (-1), 1, 1, 1, 0, 0, 0), (.putfield 64, 3, 8, 11, 0, 0, 911), (.aload_n 0, 1, 0, 0, 0, 0, 0), (.iconst 0, 1, 0, 0, 0, 0, 0), (.putfield 97, 3, 8, 12, 0, 0, 912), (.aload_n 0, 1, 0, 0, 0, 0, 0), (.iload_n 3, 1, 3, 0, 0, 0, 0), (.iconst 1, 1, 1, 0, 0, 0, 0), (.if_icmp .ne 7, 3, 35, 0, 0, 0, 0), (.iconst 1, 1, 1, 0, 0, 0, 0), (.goto 4, 3, 36, 0, 0, 0, 0)]
def cX8_worked_35 : oh_C := [(.iconst 0, 1, 0, 0, 0, 0, 0)]
def cX8_worked_36 : oh_C := [(.putfield 74, 3, 8, 13, 0, 0, 913), (.aload_n 0, 1, 0, 0, 0, 0, 0), (.invokevirtual 103, 3, 118, 1, 1, 8, 1001), (.istore 4, 2, 4, 0, 0, 0, 0), (.aload_n 0, 1, 0, 0, 0, 0, 0), (.getfield 64, 3, 8, 11, 0, 0, 911), (.ifCond .ge 19, 3, 68, 0, 0, 0, 0), (.aload_n 0, 1, 0, 0, 0, 0, 0), (.getfield 57, 3, 8, 9, 0, 0, 909), (.aload_n 0, 1, 0, 0, 0, 0, 0), (.getfield 61, 3, 8, 10, 0, 0, 910), (.if_icmp .ge 8, 3, 68, 0, 0, 0, 0), (.aload_n 0, 1, 0, 0, 0, 0, 0), (.invokevirtual 100, 3, 115, 1, 1, 8, 1029), (.ireturn, 1, 0, 0, 0, 0, 0)]
def cX8_worked_68 : oh_C := [(.iload 4, 2, 4, 0, 0, 0, 0), (.ireturn, 1, 0, 0, 0, 0, 0)]
def tX8_worked : oh_T := [(0, none, cX8_worked_0), (35, none, cX8_worked_35), (36, none, cX8_worked_36), (68, none, cX8_worked_68)]
def cX8_feed_0 : oh_C := [(.iload_n 3, 1, 3, 0, 0, 0, 0), (.i2l, 1, 0, 0, 0, 0, 0), (.lconst 1, 1, 1, 0, 0, 0, 0), (.ldc2_w 114, 3, 8, 0, 0, 0, 983), (.invokestatic 53, 3, 106, 3, 1, 0, 984), (.ifCond .ne 9, 3, 18, 0, 0, 0, 0), (.aload_n 0, 1, 0, 0, 0, 0, 0), (.iconst 1, 1, 1, 0, 0, 0, 0), (.invokevirtual 116, 3, 105, 2, 1, 8, 987), (.ireturn, 1, 0, 0, 0, 0, 0)]
def cX8_feed_18 : oh_C := [(.aload_n 0, 1, 0, 0, 0, 0, 0), (.getfield 7, 3, 8, 0, 0, 0, 900), (.bipush 6, 2, 6, 0, 0, 0, 0), (.iaload, 1, 0, 0, 0, 0, 0), (.iload_n 3, 1, 3, 0, 0, 0, 0), (.iadd, 1, 0, 0, 0, 0, 0), (.bipush 50, 2, 50, 0, 0, 0, 0), (.if_icmp .le 9, 3, 38, 0, 0, 0, 0), (.aload_n 0, 1, 0, 0, 0, 0, 0), (.iconst 4, 1, 4, 0, 0, 0, 0), (.invokevirtual 116, 3, 105, 2, 1, 8, 987), (.ireturn, 1, 0, 0, 0, 0, 0)]
def cX8_feed_38 : oh_C := [(.iconst 0, 1, 0, 0, 0, 0, 0), (.istore 4, 2, 4, 0, 0, 0, 0)]
def cX8_feed_41 : oh_C := [(.iload 4, 2, 4, 0, 0, 0, 0), (.iload_n 3, 1, 3, 0, 0, 0, 0), (.if_icmp .ge 48, 3, 92, 0, 0, 0, 0), (.aload_n 0, 1, 0, 0, 0, 0, 0), (.getfield 7, 3, 8, 0, 0, 0, 900), (.sipush 160, 3, 160, 0, 0, 0, 0), (.aload_n 0, 1, 0, 0, 0, 0, 0), (.getfield 7, 3, 8, 0, 0, 0, 900), (.bipush 6, 2, 6, 0, 0, 0, 0), (.iaload, 1, 0, 0, 0, 0, 0), (.iadd, 1, 0, 0, 0, 0, 0), (.lload_n 1, 1, 1, 0, 0, 0, 0), (.bipush 8, 2, 8, 0, 0, 0, 0), (.iload 4, 2, 4, 0, 0, 0, 0), (.imul, 1, 0, 0, 0, 0, 0), (.lshr, 1, 0, 0, 0, 0, 0), (.ldc2_w 119, 3, 255, 0, 0, 0, 992), (.land, 1, 0, 0, 0, 0, 0), (.l2i, 1, 0, 0, 0, 0, 0), (.iastore, 1, 0, 0, 0, 0, 0), (.aload_n 0, 1, 0, 0, 0, 0, 0), (.getfield 7, 3, 8, 0, 0, 0, 900), (.bipush 6, 2, 6, 0, 0, 0, 0), (.dup2, 1, 0, 0, 0, 0, 0), (.iaload, 1, 0, 0, 0, 0, 0), (.iconst 1, 1, 1, 0, 0, 0, 0), (.iadd, 1, 0, 0, 0, 0, 0), (.iastore, 1, 0, 0, 0, 0, 0), (.iinc 4 1, 3, 4, 1, 0, 0, 0), (.goto (-48), 3, 41, 0, 0, 0, 0)]
def cX8_feed_92 : oh_C := [(.aload_n 0, 1, 0, 0, 0, 0, 0), (.getfield 7, 3, 8, 0, 0, 0, 900), (.bipush 6, 2, 6, 0, 0, 0, 0), (.iaload, 1, 0, 0, 0, 0, 0), (.ireturn, 1, 0, 0, 0, 0, 0)]
def tX8_feed : oh_T := [(0, none, cX8_feed_0), (18, none, cX8_feed_18), (38, none, cX8_feed_38), (41, some [true, true, false, true, true], cX8_feed_41), (92, none, cX8_feed_92)]
def cX8_text_0 : oh_C := [(.iload_n 1, 1, 1, 0, 0, 0, 0), (.i2l, 1, 0, 0, 0, 0, 0), (.lconst 0, 1, 0, 0, 0, 0, 0), (.lconst 1, 1, 1, 0, 0, 0, 0), (.invokestatic 53, 3, 106, 3, 1, 0, 984), (.ifCond .ne 9, 3, 16, 0, 0, 0, 0), (.aload_n 0, 1, 0, 0, 0, 0, 0), (.iconst 1, 1, 1, 0, 0, 0, 0), (.invokevirtual 116, 3, 105, 2, 1, 8, 987), (.ireturn, 1, 0, 0, 0, 0, 0)]
def cX8_text_16 : oh_C := [(.aload_n 0, 1, 0, 0, 0, 0, 0), (.getfield 7, 3, 8, 0, 0, 0, 900), (.bipush 6, 2, 6, 0, 0, 0, 0), (.iaload, 1, 0, 0, 0, 0, 0), (.istore_n 2, 1, 2, 0, 0, 0, 0), (.aload_n 0, 1, 0, 0, 0, 0, 0), (.getfield 7, 3, 8, 0, 0, 0, 900), (.bipush 6, 2, 6, 0, 0, 0, 0), (.iconst 0, 1, 0, 0, 0, 0, 0), (.iastore, 1, 0, 0, 0, 0, 0), (.aload_n 0, 1, 0, 0, 0, 0, 0), (.sipush 160, 3, 160, 0, 0, 0, 0), (.iload_n 2, 1, 2, 0, 0, 0, 0), (.iload_n 1, 1, 1, 0, 0, 0, 0), (.invokevirtual 121, 3, 124, 4, 1, 8, 997), (.istore_n 3, 1, 3, 0, 0, 0, 0), (.aload_n 0, 1, 0, 0, 0, 0, 0), (.getfield 64, 3, 8, 11, 0, 0, 911), (.ifCond .lt 11, 3, 57, 0, 0, 0, 0), (.bipush (-10), 2, 10, 1, 0, 0, 0), (.aload_n 0, 1, 0, 0, 0, 0, 0), (.getfield 64, 3, 8, 11, 0, 0, 911), (.isub, 1, 0, 0, 0, 0, 0), (.ireturn, 1, 0, 0, 0, 0, 0)]
def cX8_text_57 : oh_C := [(.aload_n 0, 1, 0, 0, 0, 0, 0), (.getfield 7, 3, 8, 0, 0, 0, 900), (.bipush 38, 2, 38, 0, 0, 0, 0), (.iload_n 1, 1, 1, 0, 0, 0, 0), (.iadd, 1, 0, 0, 0, 0, 0), (.iload_n 2, 1, 2, 0, 0, 0, 0), (.iastore, 1, 0, 0, 0, 0, 0), (.iconst 0, 1, 0, 0, 0, 0, 0), (.istore 4, 2, 4, 0, 0, 0, 0)]
def cX8_text_70 : oh_C := [(.iload 4, 2, 4, 0, 0, 0, 0), (.iload_n 2, 1, 2, 0, 0, 0, 0), (.if_icmp .ge 35, 3, 108, 0, 0, 0, 0), (.aload_n 0, 1, 0, 0, 0, 0, 0), (.getfield 7, 3, 8, 0, 0, 0, 900), (.bipush 60, 2, 60, 0, 0, 0, 0), (.bipush 50, 2, 50, 0, 0, 0, 0), (.iload_n 1, 1, 1, 0, 0, 0, 0), (.imul, 1, 0, 0, 0, 0, 0), (.iadd, 1, 0, 0, 0, 0, 0), (.iload 4, 2, 4, 0, 0, 0, 0), (.iadd, 1, 0, 0, 0, 0, 0), (.aload_n 0, 1, 0, 0, 0, 0, 0), (.getfield 7, 3, 8, 0, 0, 0, 900), (.sipush 160, 3, 160, 0, 0, 0, 0), (.iload 4, 2, 4, 0, 0, 0, 0), (.iadd, 1, 0, 0, 0, 0, 0), (.iaload, 1, 0, 0, 0, 0, 0), (.iastore, 1, 0, 0, 0, 0, 0), (.iinc 4 1, 3, 4, 1, 0, 0, 0), (.goto (-35), 3, 70, 0, 0, 0, 0)]
def cX8_text_108 : oh_C := [(.iconst 1, 1, 1, 0, 0, 0, 0), (.ireturn, 1, 0, 0, 0, 0, 0)]
def tX8_text : oh_T := [(0, none, cX8_text_0), (16, none, cX8_text_16), (57, none, cX8_text_57), (70, some [true, true, true, false, true], cX8_text_70), (108, none, cX8_text_108)]
def cX8_gives_0 : oh_C := [(.iload_n 1, 1, 1, 0, 0, 0, 0), (.ifCond .ne 7, 3, 8, 0, 0, 0, 0), (.iconst 1, 1, 1, 0, 0, 0, 0), (.goto 11, 3, 16, 0, 0, 0, 0)]
def cX8_gives_8 : oh_C := [(.iload_n 2, 1, 2, 0, 0, 0, 0), (.bipush 10, 2, 10, 0, 0, 0, 0), (.imul, 1, 0, 0, 0, 0, 0), (.iconst 5, 1, 5, 0, 0, 0, 0), (.iadd, 1, 0, 0, 0, 0, 0), (.iload_n 3, 1, 3, 0, 0, 0, 0), (.isub, 1, 0, 0, 0, 0, 0)]
def cX8_gives_16 : oh_C := [(.istore 6, 2, 6, 0, 0, 0, 0), (.aload_n 0, 1, 0, 0, 0, 0, 0), (.getfield 7, 3, 8, 0, 0, 0, 900), (.bipush 38, 2, 38, 0, 0, 0, 0), (.iload_n 1, 1, 1, 0, 0, 0, 0), (.iadd, 1, 0, 0, 0, 0, 0), (.iaload, 1, 0, 0, 0, 0, 0), (.ifCond .le 56, 3, 83, 0, 0, 0, 0), (.aload_n 0, 1, 0, 0, 0, 0, 0), (.getfield 22, 3, 8, 14, 0, 0, 914), (.iconst 0, 1, 0, 0, 0, 0, 0), (.iload_n 2, 1, 2, 0, 0, 0, 0), (.iastore, 1, 0, 0, 0, 0, 0), (.aload_n 0, 1, 0, 0, 0, 0, 0), (.getfield 22, 3, 8, 14, 0, 0, 914), (.iconst 1, 1, 1, 0, 0, 0, 0), (.iload_n 3, 1, 3, 0, 0, 0, 0), (.iastore, 1, 0, 0, 0, 0, 0), (.aload_n 0, 1, 0, 0, 0, 0, 0), (.getfield 22, 3, 8, 14, 0, 0, 914), (.iconst 2, 1, 2, 0, 0, 0, 0), (.iload 4, 2, 4, 0, 0, 0, 0), (.iastore, 1, 0, 0, 0, 0, 0), (.aload_n 0, 1, 0, 0, 0, 0, 0), (.getfield 22, 3, 8, 14, 0, 0, 914), (.iconst 3, 1, 3, 0, 0, 0, 0), (.iload 5, 2, 5, 0, 0, 0, 0), (.iastore, 1, 0, 0, 0, 0, 0), (.aload_n 0, 1, 0, 0, 0, 0, 0), (.bipush 60, 2, 60, 0, 0, 0, 0), (.bipush 50, 2, 50, 0, 0, 0, 0), (.iload_n 1, 1, 1, 0, 0, 0, 0), (.imul, 1, 0, 0, 0, 0, 0), (.iadd, 1, 0, 0, 0, 0, 0), (.aload_n 0, 1, 0, 0, 0, 0, 0), (.getfield 7, 3, 8, 0, 0, 0, 900), (.bipush 38, 2, 38, 0, 0, 0, 0), (.iload_n 1, 1, 1, 0, 0, 0, 0), (.iadd, 1, 0, 0, 0, 0, 0), (.iaload, 1, 0, 0, 0, 0, 0), (.iload_n 1, 1, 1, 0, 0, 0, 0), (.invokevirtual 121, 3, 124, 4, 1, 8, 997), (.istore 6, 2, 6, 0, 0, 0, 0)]
def cX8_gives_83 : oh_C := [(.iload_n 1, 1, 1, 0, 0, 0, 0), (.ifCond .ne 8, 3, 92, 0, 0, 0, 0), (.iload 6, 2, 6, 0, 0, 0, 0), (.goto 12, 3, 101, 0, 0, 0, 0)]
def cX8_gives_92 : oh_C := [(.iload 6, 2, 6, 0, 0, 0, 0), (.iconst 0, 1, 0, 0, 0, 0, 0), (.sipush 999, 3, 999, 0, 0, 0, 0), (.invokestatic 125, 3, 107, 3, 1, 0, 1051)]
def cX8_gives_101 : oh_C := [(.ireturn, 1, 0, 0, 0, 0, 0)]
def tX8_gives : oh_T := [(0, none, cX8_gives_0), (8, none, cX8_gives_8), (16, none, cX8_gives_16), (83, none, cX8_gives_83), (92, none, cX8_gives_92), (101, none, cX8_gives_101)]
def cX8_law_0 : oh_C := [(.iload_n 1, 1, 1, 0, 0, 0, 0), (.i2l, 1, 0, 0, 0, 0, 0), (.lconst 0, 1, 0, 0, 0, 0, 0), (.lconst 1, 1, 1, 0, 0, 0, 0), (.invokestatic 53, 3, 106, 3, 1, 0, 984), (.ifCond .eq 17, 3, 24, 0, 0, 0, 0), (.aload_n 0, 1, 0, 0, 0, 0, 0), (.iload_n 1, 1, 1, 0, 0, 0, 0), (.iload_n 2, 1, 2, 0, 0, 0, 0), (.iload_n 3, 1, 3, 0, 0, 0, 0), (.iload 4, 2, 4, 0, 0, 0, 0), (.iload 5, 2, 5, 0, 0, 0, 0), (.invokevirtual 128, 3, 127, 6, 1, 8, 1047), (.goto 8, 3, 29, 0, 0, 0, 0)]
def cX8_law_24 : oh_C := [(.aload_n 0, 1, 0, 0, 0, 0, 0), (.iconst 1, 1, 1, 0, 0, 0, 0), (.invokevirtual 116, 3, 105, 2, 1, 8, 987)]
def cX8_law_29 : oh_C := [(.ireturn, 1, 0, 0, 0, 0, 0)]
def tX8_law : oh_T := [(0, none, cX8_law_0), (24, none, cX8_law_24), (29, none, cX8_law_29)]
def cX8_man_0 : oh_C := [(.iload_n 1, 1, 1, 0, 0, 0, 0), (.i2l, 1, 0, 0, 0, 0, 0), (.lconst 0, 1, 0, 0, 0, 0, 0), (.ldc2_w 132, 3, 69, 0, 0, 0, 1058), (.invokestatic 53, 3, 106, 3, 1, 0, 984), (.ifCond .ne 9, 3, 18, 0, 0, 0, 0), (.aload_n 0, 1, 0, 0, 0, 0, 0), (.iconst 1, 1, 1, 0, 0, 0, 0), (.invokevirtual 116, 3, 105, 2, 1, 8, 987), (.ireturn, 1, 0, 0, 0, 0, 0)]
def cX8_man_18 : oh_C := [(.aload_n 0, 1, 0, 0, 0, 0, 0), (.invokevirtual 134, 3, 113, 1, 1, 8, 1059), (.ifCond .eq 9, 3, 31, 0, 0, 0, 0), (.aload_n 0, 1, 0, 0, 0, 0, 0), (.iconst 3, 1, 3, 0, 0, 0, 0), (.invokevirtual 116, 3, 105, 2, 1, 8, 987), (.ireturn, 1, 0, 0, 0, 0, 0)]
def cX8_man_31 : oh_C := [(.aload_n 0, 1, 0, 0, 0, 0, 0), (.getfield 7, 3, 8, 0, 0, 0, 900), (.iconst 0, 1, 0, 0, 0, 0, 0), (.iaload, 1, 0, 0, 0, 0, 0), (.bipush 6, 2, 6, 0, 0, 0, 0), (.if_icmp .ne 9, 3, 48, 0, 0, 0, 0), (.aload_n 0, 1, 0, 0, 0, 0, 0), (.iconst 4, 1, 4, 0, 0, 0, 0), (.invokevirtual 116, 3, 105, 2, 1, 8, 987), (.ireturn, 1, 0, 0, 0, 0, 0)]
def cX8_man_48 : oh_C := [(.aload_n 0, 1, 0, 0, 0, 0, 0), (.getfield 7, 3, 8, 0, 0, 0, 900), (.iconst 0, 1, 0, 0, 0, 0, 0), (.iaload, 1, 0, 0, 0, 0, 0), (.istore_n 2, 1, 2, 0, 0, 0, 0), (.iconst 0, 1, 0, 0, 0, 0, 0), (.istore_n 3, 1, 3, 0, 0, 0, 0)]
def cX8_man_57 : oh_C := [(.iload_n 3, 1, 3, 0, 0, 0, 0), (.iload_n 2, 1, 2, 0, 0, 0, 0), (.if_icmp .ge 25, 3, 84, 0, 0, 0, 0), (.aload_n 0, 1, 0, 0, 0, 0, 0), (.iload_n 3, 1, 3, 0, 0, 0, 0), (.iconst 3, 1, 3, 0, 0, 0, 0), (.aload_n 0, 1, 0, 0, 0, 0, 0), (.iload_n 3, 1, 3, 0, 0, 0, 0), (.iconst 3, 1, 3, 0, 0, 0, 0), (.invokevirtual 138, 3, 110, 3, 1, 8, 1063), (.iconst 1, 1, 1, 0, 0, 0, 0), (.iload_n 2, 1, 2, 0, 0, 0, 0), (.ishl, 1, 0, 0, 0, 0, 0), (.ior, 1, 0, 0, 0, 0, 0), (.invokevirtual 142, 3, 111, 4, 0, 8, 1067), (.iinc 3 1, 3, 3, 1, 0, 0, 0), (.goto (-24), 3, 57, 0, 0, 0, 0)]
def cX8_man_84 : oh_C := [(.aload_n 0, 1, 0, 0, 0, 0, 0), (.iload_n 2, 1, 2, 0, 0, 0, 0), (.iconst 0, 1, 0, 0, 0, 0, 0), (.iload_n 1, 1, 1, 0, 0, 0, 0), (.bipush 10, 2, 10, 0, 0, 0, 0), (.idiv, 1, 0, 0, 0, 0, 0), (.invokevirtual 142, 3, 111, 4, 0, 8, 1067), (.aload_n 0, 1, 0, 0, 0, 0, 0), (.iload_n 2, 1, 2, 0, 0, 0, 0), (.iconst 1, 1, 1, 0, 0, 0, 0), (.iload_n 1, 1, 1, 0, 0, 0, 0), (.bipush 10, 2, 10, 0, 0, 0, 0), (.irem, 1, 0, 0, 0, 0, 0), (.invokevirtual 142, 3, 111, 4, 0, 8, 1067), (.aload_n 0, 1, 0, 0, 0, 0, 0), (.iload_n 2, 1, 2, 0, 0, 0, 0), (.iconst 2, 1, 2, 0, 0, 0, 0), (.iconst 0, 1, 0, 0, 0, 0, 0), (.invokevirtual 142, 3, 111, 4, 0, 8, 1067), (.aload_n 0, 1, 0, 0, 0, 0, 0), (.iload_n 2, 1, 2, 0, 0, 0, 0), (.iconst 3, 1, 3, 0, 0, 0, 0), (.iconst 1, 1, 1, 0, 0, 0, 0), (.iload_n 2, 1, 2, 0, 0, 0, 0), (.ishl, 1, 0, 0, 0, 0, 0), (.iconst 1, 1, 1, 0, 0, 0, 0), (.isub, 1, 0, 0, 0, 0, 0), (.invokevirtual 142, 3, 111, 4, 0, 8, 1067), (.aload_n 0, 1, 0, 0, 0, 0, 0), (.iload_n 2, 1, 2, 0, 0, 0, 0), (.iconst 4, 1, 4, 0, 0, 0, 0), (.iconst 0, 1, 0, 0, 0, 0, 0), (.invokevirtual 142, 3, 111, 4, 0, 8, 1067), (.aload_n 0, 1, 0, 0, 0, 0, 0), (.getfield 7, 3, 8, 0, 0, 0, 900), (.iconst 0, 1, 0, 0, 0, 0, 0), (.dup2, 1, 0, 0, 0, 0, 0), (.iaload, 1, 0, 0, 0, 0, 0), (.iconst 1, 1, 1, 0, 0, 0, 0), (.iadd, 1, 0, 0, 0, 0, 0), (.iastore, 1, 0, 0, 0, 0, 0), (.iload_n 2, 1, 2, 0, 0, 0, 0), (.ireturn, 1, 0, 0, 0, 0, 0)]
def tX8_man : oh_T := [(0, none, cX8_man_0), (18, none, cX8_man_18), (31, none, cX8_man_31), (48, none, cX8_man_48), (57, some [true, true, true, true], cX8_man_57), (84, none, cX8_man_84)]
def cX8_ofMan_0 : oh_C := [(.aload_n 0, 1, 0, 0, 0, 0, 0), (.iload_n 1, 1, 1, 0, 0, 0, 0), (.invokevirtual 146, 3, 109, 2, 1, 8, 1075), (.ifCond .eq 24, 3, 29, 0, 0, 0, 0), (.iload_n 2, 1, 2, 0, 0, 0, 0), (.i2l, 1, 0, 0, 0, 0, 0), (.lconst 0, 1, 0, 0, 0, 0, 0), (.ldc2_w 149, 3, 4, 0, 0, 0, 1079), (.invokestatic 53, 3, 106, 3, 1, 0, 984), (.ifCond .eq 12, 3, 29, 0, 0, 0, 0), (.aload_n 0, 1, 0, 0, 0, 0, 0), (.iload_n 1, 1, 1, 0, 0, 0, 0), (.iload_n 2, 1, 2, 0, 0, 0, 0), (.invokevirtual 138, 3, 110, 3, 1, 8, 1063), (.goto 8, 3, 34, 0, 0, 0, 0)]
def cX8_ofMan_29 : oh_C := [(.aload_n 0, 1, 0, 0, 0, 0, 0), (.iconst 1, 1, 1, 0, 0, 0, 0), (.invokevirtual 116, 3, 105, 2, 1, 8, 987)]
def cX8_ofMan_34 : oh_C := [(.ireturn, 1, 0, 0, 0, 0, 0)]
def tX8_ofMan : oh_T := [(0, none, cX8_ofMan_0), (29, none, cX8_ofMan_29), (34, none, cX8_ofMan_34)]
def cX8_tellMan_0 : oh_C := [(.aload_n 0, 1, 0, 0, 0, 0, 0), (.iload_n 1, 1, 1, 0, 0, 0, 0), (.invokevirtual 146, 3, 109, 2, 1, 8, 1075), (.ifCond .eq 17, 3, 22, 0, 0, 0, 0), (.iload_n 2, 1, 2, 0, 0, 0, 0), (.i2l, 1, 0, 0, 0, 0, 0), (.ldc2_w 151, 3, 2, 0, 0, 0, 1084), (.ldc2_w 153, 3, 3, 0, 0, 0, 1085), (.invokestatic 53, 3, 106, 3, 1, 0, 984), (.ifCond .ne 9, 3, 28, 0, 0, 0, 0)]
def cX8_tellMan_22 : oh_C := [(.aload_n 0, 1, 0, 0, 0, 0, 0), (.iconst 1, 1, 1, 0, 0, 0, 0), (.invokevirtual 116, 3, 105, 2, 1, 8, 987), (.ireturn, 1, 0, 0, 0, 0, 0)]
def cX8_tellMan_28 : oh_C := [(.iload_n 2, 1, 2, 0, 0, 0, 0), (.iconst 2, 1, 2, 0, 0, 0, 0), (.if_icmp .ne 13, 3, 43, 0, 0, 0, 0), (.iload_n 3, 1, 3, 0, 0, 0, 0), (.i2l, 1, 0, 0, 0, 0, 0), (.lconst 0, 1, 0, 0, 0, 0, 0), (.lconst 1, 1, 1, 0, 0, 0, 0), (.invokestatic 53, 3, 106, 3, 1, 0, 984), (.goto 30, 3, 70, 0, 0, 0, 0)]
def cX8_tellMan_43 : oh_C := [(.iload_n 3, 1, 3, 0, 0, 0, 0), (.i2l, 1, 0, 0, 0, 0, 0), (.lconst 0, 1, 0, 0, 0, 0, 0), (.aload_n 0, 1, 0, 0, 0, 0, 0), (.invokevirtual 155, 3, 112, 1, 1, 8, 1086), (.i2l, 1, 0, 0, 0, 0, 0), (.invokestatic 53, 3, 106, 3, 1, 0, 984), (.ifCond .eq 15, 3, 69, 0, 0, 0, 0), (.iload_n 3, 1, 3, 0, 0, 0, 0), (.iload_n 1, 1, 1, 0, 0, 0, 0), (.ishr, 1, 0, 0, 0, 0, 0), (.iconst 1, 1, 1, 0, 0, 0, 0), (.iand, 1, 0, 0, 0, 0, 0), (.ifCond .ne 7, 3, 69, 0, 0, 0, 0), (.iconst 1, 1, 1, 0, 0, 0, 0), (.goto 4, 3, 70, 0, 0, 0, 0)]
def cX8_tellMan_69 : oh_C := [(.iconst 0, 1, 0, 0, 0, 0, 0)]
def cX8_tellMan_70 : oh_C := [(.istore 4, 2, 4, 0, 0, 0, 0), (.iload 4, 2, 4, 0, 0, 0, 0), (.ifCond .ne 9, 3, 83, 0, 0, 0, 0), (.aload_n 0, 1, 0, 0, 0, 0, 0), (.iconst 1, 1, 1, 0, 0, 0, 0), (.invokevirtual 116, 3, 105, 2, 1, 8, 987), (.ireturn, 1, 0, 0, 0, 0, 0)]
def cX8_tellMan_83 : oh_C := [(.aload_n 0, 1, 0, 0, 0, 0, 0), (.invokevirtual 134, 3, 113, 1, 1, 8, 1059), (.ifCond .eq 9, 3, 96, 0, 0, 0, 0), (.aload_n 0, 1, 0, 0, 0, 0, 0), (.iconst 3, 1, 3, 0, 0, 0, 0), (.invokevirtual 116, 3, 105, 2, 1, 8, 987), (.ireturn, 1, 0, 0, 0, 0, 0)]
def cX8_tellMan_96 : oh_C := [(.aload_n 0, 1, 0, 0, 0, 0, 0), (.iload_n 1, 1, 1, 0, 0, 0, 0), (.iload_n 2, 1, 2, 0, 0, 0, 0), (.invokevirtual 138, 3, 110, 3, 1, 8, 1063), (.istore 5, 2, 5, 0, 0, 0, 0), (.aload_n 0, 1, 0, 0, 0, 0, 0), (.iload_n 1, 1, 1, 0, 0, 0, 0), (.iload_n 2, 1, 2, 0, 0, 0, 0), (.iload_n 3, 1, 3, 0, 0, 0, 0), (.invokevirtual 142, 3, 111, 4, 0, 8, 1067), (.iload 5, 2, 5, 0, 0, 0, 0), (.ireturn, 1, 0, 0, 0, 0, 0)]
def tX8_tellMan : oh_T := [(0, none, cX8_tellMan_0), (22, none, cX8_tellMan_22), (28, none, cX8_tellMan_28), (43, none, cX8_tellMan_43), (69, none, cX8_tellMan_69), (70, none, cX8_tellMan_70), (83, none, cX8_tellMan_83), (96, none, cX8_tellMan_96)]
def cX8_become_0 : oh_C := [(.aload_n 0, 1, 0, 0, 0, 0, 0), (.iload_n 1, 1, 1, 0, 0, 0, 0), (.invokevirtual 146, 3, 109, 2, 1, 8, 1075), (.ifCond .eq 15, 3, 20, 0, 0, 0, 0), (.iload_n 2, 1, 2, 0, 0, 0, 0), (.i2l, 1, 0, 0, 0, 0, 0), (.lconst 0, 1, 0, 0, 0, 0, 0), (.ldc2_w 132, 3, 69, 0, 0, 0, 1058), (.invokestatic 53, 3, 106, 3, 1, 0, 984), (.ifCond .ne 9, 3, 26, 0, 0, 0, 0)]
def cX8_become_20 : oh_C := [(.aload_n 0, 1, 0, 0, 0, 0, 0), (.iconst 1, 1, 1, 0, 0, 0, 0), (.invokevirtual 116, 3, 105, 2, 1, 8, 987), (.ireturn, 1, 0, 0, 0, 0, 0)]
def cX8_become_26 : oh_C := [(.aload_n 0, 1, 0, 0, 0, 0, 0), (.iload_n 1, 1, 1, 0, 0, 0, 0), (.iconst 0, 1, 0, 0, 0, 0, 0), (.invokevirtual 138, 3, 110, 3, 1, 8, 1063), (.istore_n 3, 1, 3, 0, 0, 0, 0), (.aload_n 0, 1, 0, 0, 0, 0, 0), (.iload_n 1, 1, 1, 0, 0, 0, 0), (.iconst 0, 1, 0, 0, 0, 0, 0), (.iload_n 2, 1, 2, 0, 0, 0, 0), (.bipush 10, 2, 10, 0, 0, 0, 0), (.idiv, 1, 0, 0, 0, 0, 0), (.invokevirtual 142, 3, 111, 4, 0, 8, 1067), (.aload_n 0, 1, 0, 0, 0, 0, 0), (.iload_n 1, 1, 1, 0, 0, 0, 0), (.iconst 1, 1, 1, 0, 0, 0, 0), (.iload_n 2, 1, 2, 0, 0, 0, 0), (.bipush 10, 2, 10, 0, 0, 0, 0), (.irem, 1, 0, 0, 0, 0, 0), (.invokevirtual 142, 3, 111, 4, 0, 8, 1067), (.iload_n 3, 1, 3, 0, 0, 0, 0), (.ireturn, 1, 0, 0, 0, 0, 0)]
def tX8_become : oh_T := [(0, none, cX8_become_0), (20, none, cX8_become_20), (26, none, cX8_become_26)]
def cX8_above_0 : oh_C := [(.iload_n 0, 1, 0, 0, 0, 0, 0), (.iconst 4, 1, 4, 0, 0, 0, 0), (.if_icmp .ne 7, 3, 9, 0, 0, 0, 0), (.iconst 1, 1, 1, 0, 0, 0, 0), (.goto 23, 3, 29, 0, 0, 0, 0)]
def cX8_above_9 : oh_C := [(.iload_n 0, 1, 0, 0, 0, 0, 0), (.iconst 5, 1, 5, 0, 0, 0, 0), (.if_icmp .ne 7, 3, 18, 0, 0, 0, 0), (.iconst 2, 1, 2, 0, 0, 0, 0), (.goto 14, 3, 29, 0, 0, 0, 0)]
def cX8_above_18 : oh_C := [(.iload_n 0, 1, 0, 0, 0, 0, 0), (.bipush 6, 2, 6, 0, 0, 0, 0), (.if_icmp .ne 7, 3, 28, 0, 0, 0, 0), (.iconst 3, 1, 3, 0, 0, 0, 0), (.goto 4, 3, 29, 0, 0, 0, 0)]
def cX8_above_28 : oh_C := [(.iconst 0, 1, 0, 0, 0, 0, 0)]
def cX8_above_29 : oh_C := [(.ireturn, 1, 0, 0, 0, 0, 0)]
def tX8_above : oh_T := [(0, none, cX8_above_0), (9, none, cX8_above_9), (18, none, cX8_above_18), (28, none, cX8_above_28), (29, none, cX8_above_29)]
def cX8_as_0 : oh_C := [(.aload_n 0, 1, 0, 0, 0, 0, 0), (.iload_n 1, 1, 1, 0, 0, 0, 0), (.invokevirtual 146, 3, 109, 2, 1, 8, 1075), (.ifCond .eq 15, 3, 20, 0, 0, 0, 0), (.iload_n 2, 1, 2, 0, 0, 0, 0), (.i2l, 1, 0, 0, 0, 0, 0), (.lconst 0, 1, 0, 0, 0, 0, 0), (.ldc2_w 158, 3, 6, 0, 0, 0, 1098), (.invokestatic 53, 3, 106, 3, 1, 0, 984), (.ifCond .ne 9, 3, 26, 0, 0, 0, 0)]
def cX8_as_20 : oh_C := [(.aload_n 0, 1, 0, 0, 0, 0, 0), (.iconst 1, 1, 1, 0, 0, 0, 0), (.invokevirtual 116, 3, 105, 2, 1, 8, 987), (.ireturn, 1, 0, 0, 0, 0, 0)]
def cX8_as_26 : oh_C := [(.aload_n 0, 1, 0, 0, 0, 0, 0), (.iload_n 1, 1, 1, 0, 0, 0, 0), (.iconst 0, 1, 0, 0, 0, 0, 0), (.invokevirtual 138, 3, 110, 3, 1, 8, 1063), (.istore_n 3, 1, 3, 0, 0, 0, 0), (.iload_n 2, 1, 2, 0, 0, 0, 0), (.ifCond .eq 16, 3, 50, 0, 0, 0, 0), (.iload_n 2, 1, 2, 0, 0, 0, 0), (.iload_n 3, 1, 3, 0, 0, 0, 0), (.if_icmp .eq 11, 3, 50, 0, 0, 0, 0), (.iload_n 2, 1, 2, 0, 0, 0, 0), (.iload_n 3, 1, 3, 0, 0, 0, 0), (.invokestatic 160, 3, 133, 1, 1, 0, 1099), (.if_icmp .ne 12, 3, 59, 0, 0, 0, 0)]
def cX8_as_50 : oh_C := [(.aload_n 0, 1, 0, 0, 0, 0, 0), (.iload_n 1, 1, 1, 0, 0, 0, 0), (.iconst 1, 1, 1, 0, 0, 0, 0), (.invokevirtual 138, 3, 110, 3, 1, 8, 1063), (.goto 8, 3, 64, 0, 0, 0, 0)]
def cX8_as_59 : oh_C := [(.aload_n 0, 1, 0, 0, 0, 0, 0), (.iconst 5, 1, 5, 0, 0, 0, 0), (.invokevirtual 116, 3, 105, 2, 1, 8, 987)]
def cX8_as_64 : oh_C := [(.ireturn, 1, 0, 0, 0, 0, 0)]
def tX8_as : oh_T := [(0, none, cX8_as_0), (20, none, cX8_as_20), (26, none, cX8_as_26), (50, none, cX8_as_50), (59, none, cX8_as_59), (64, none, cX8_as_64)]
def cX8_fine_0 : oh_C := [(.iload_n 1, 1, 1, 0, 0, 0, 0), (.i2l, 1, 0, 0, 0, 0, 0), (.lconst 0, 1, 0, 0, 0, 0, 0), (.ldc2_w 163, 3, 99, 0, 0, 0, 1106), (.invokestatic 53, 3, 106, 3, 1, 0, 984), (.ifCond .ne 9, 3, 18, 0, 0, 0, 0), (.aload_n 0, 1, 0, 0, 0, 0, 0), (.iconst 1, 1, 1, 0, 0, 0, 0), (.invokevirtual 116, 3, 105, 2, 1, 8, 987), (.ireturn, 1, 0, 0, 0, 0, 0)]
def cX8_fine_18 : oh_C := [(.aload_n 0, 1, 0, 0, 0, 0, 0), (.getfield 7, 3, 8, 0, 0, 0, 900), (.iconst 4, 1, 4, 0, 0, 0, 0), (.iaload, 1, 0, 0, 0, 0, 0), (.istore_n 2, 1, 2, 0, 0, 0, 0), (.aload_n 0, 1, 0, 0, 0, 0, 0), (.getfield 7, 3, 8, 0, 0, 0, 900), (.iconst 4, 1, 4, 0, 0, 0, 0), (.iload_n 1, 1, 1, 0, 0, 0, 0), (.iastore, 1, 0, 0, 0, 0, 0), (.iload_n 2, 1, 2, 0, 0, 0, 0), (.ireturn, 1, 0, 0, 0, 0, 0)]
def tX8_fine : oh_T := [(0, none, cX8_fine_0), (18, none, cX8_fine_18)]
def cX8_ones_0 : oh_C := [(.iconst 0, 1, 0, 0, 0, 0, 0), (.istore_n 1, 1, 1, 0, 0, 0, 0), (.iconst 0, 1, 0, 0, 0, 0, 0), (.istore_n 2, 1, 2, 0, 0, 0, 0)]
def cX8_ones_4 : oh_C := [(.iload_n 2, 1, 2, 0, 0, 0, 0), (.bipush 6, 2, 6, 0, 0, 0, 0), (.if_icmp .ge 17, 3, 24, 0, 0, 0, 0), (.iload_n 1, 1, 1, 0, 0, 0, 0), (.iload_n 0, 1, 0, 0, 0, 0, 0), (.iload_n 2, 1, 2, 0, 0, 0, 0), (.ishr, 1, 0, 0, 0, 0, 0), (.iconst 1, 1, 1, 0, 0, 0, 0), (.iand, 1, 0, 0, 0, 0, 0), (.iadd, 1, 0, 0, 0, 0, 0), (.istore_n 1, 1, 1, 0, 0, 0, 0), (.iinc 2 1, 3, 2, 1, 0, 0, 0), (.goto (-17), 3, 4, 0, 0, 0, 0)]
def cX8_ones_24 : oh_C := [(.iload_n 1, 1, 1, 0, 0, 0, 0), (.ireturn, 1, 0, 0, 0, 0, 0)]
def tX8_ones : oh_T := [(0, none, cX8_ones_0), (4, some [true, true, true], cX8_ones_4), (24, none, cX8_ones_24)]
def cX8_manyOf_0 : oh_C := [(.iconst 0, 1, 0, 0, 0, 0, 0), (.istore_n 2, 1, 2, 0, 0, 0, 0), (.iconst 0, 1, 0, 0, 0, 0, 0), (.istore_n 3, 1, 3, 0, 0, 0, 0)]
def cX8_manyOf_4 : oh_C := [(.iload_n 3, 1, 3, 0, 0, 0, 0), (.bipush 64, 2, 64, 0, 0, 0, 0), (.if_icmp .ge 18, 3, 25, 0, 0, 0, 0), (.iload_n 2, 1, 2, 0, 0, 0, 0), (.lload_n 0, 1, 0, 0, 0, 0, 0), (.iload_n 3, 1, 3, 0, 0, 0, 0), (.lshr, 1, 0, 0, 0, 0, 0), (.lconst 1, 1, 1, 0, 0, 0, 0), (.land, 1, 0, 0, 0, 0, 0), (.l2i, 1, 0, 0, 0, 0, 0), (.iadd, 1, 0, 0, 0, 0, 0), (.istore_n 2, 1, 2, 0, 0, 0, 0), (.iinc 3 1, 3, 3, 1, 0, 0, 0), (.goto (-18), 3, 4, 0, 0, 0, 0)]
def cX8_manyOf_25 : oh_C := [(.iload_n 2, 1, 2, 0, 0, 0, 0), (.ireturn, 1, 0, 0, 0, 0, 0)]
def tX8_manyOf : oh_T := [(0, none, cX8_manyOf_0), (4, some [true, false, true, true], cX8_manyOf_4), (25, none, cX8_manyOf_25)]
def cX8_isPossible_0 : oh_C := [(.aload_n 0, 1, 0, 0, 0, 0, 0), (.getfield 165, 3, 8, 3, 0, 0, 903), (.iload_n 1, 1, 1, 0, 0, 0, 0), (.lshr, 1, 0, 0, 0, 0, 0), (.lconst 1, 1, 1, 0, 0, 0, 0), (.land, 1, 0, 0, 0, 0, 0), (.lconst 1, 1, 1, 0, 0, 0, 0), (.lcmp, 1, 0, 0, 0, 0, 0), (.ifCond .ne 7, 3, 17, 0, 0, 0, 0), (.iconst 1, 1, 1, 0, 0, 0, 0), (.goto 4, 3, 18, 0, 0, 0, 0)]
def cX8_isPossible_17 : oh_C := [(.iconst 0, 1, 0, 0, 0, 0, 0)]
def cX8_isPossible_18 : oh_C := [(.ireturn, 1, 1, 0, 0, 0, 0)]
def tX8_isPossible : oh_T := [(0, none, cX8_isPossible_0), (17, none, cX8_isPossible_17), (18, none, cX8_isPossible_18)]
def cX8_hats_0 : oh_C := [(.iconst 0, 1, 0, 0, 0, 0, 0), (.istore_n 1, 1, 1, 0, 0, 0, 0), (.iconst 0, 1, 0, 0, 0, 0, 0), (.istore_n 2, 1, 2, 0, 0, 0, 0)]
def cX8_hats_4 : oh_C := [(.iload_n 2, 1, 2, 0, 0, 0, 0), (.aload_n 0, 1, 0, 0, 0, 0, 0), (.getfield 7, 3, 8, 0, 0, 0, 900), (.iconst 0, 1, 0, 0, 0, 0, 0), (.iaload, 1, 0, 0, 0, 0, 0), (.if_icmp .ge 20, 3, 31, 0, 0, 0, 0), (.iload_n 1, 1, 1, 0, 0, 0, 0), (.aload_n 0, 1, 0, 0, 0, 0, 0), (.iload_n 2, 1, 2, 0, 0, 0, 0), (.iconst 2, 1, 2, 0, 0, 0, 0), (.invokevirtual 138, 3, 110, 3, 1, 8, 1063), (.iload_n 2, 1, 2, 0, 0, 0, 0), (.ishl, 1, 0, 0, 0, 0, 0), (.ior, 1, 0, 0, 0, 0, 0), (.istore_n 1, 1, 1, 0, 0, 0, 0), (.iinc 2 1, 3, 2, 1, 0, 0, 0), (.goto (-24), 3, 4, 0, 0, 0, 0)]
def cX8_hats_31 : oh_C := [(.iload_n 1, 1, 1, 0, 0, 0, 0), (.ireturn, 1, 0, 0, 0, 0, 0)]
def tX8_hats : oh_T := [(0, none, cX8_hats_0), (4, some [true, true, true], cX8_hats_4), (31, none, cX8_hats_31)]
def cX8_think_0 : oh_C := [(.iconst 0, 1, 0, 0, 0, 0, 0), (.istore_n 1, 1, 1, 0, 0, 0, 0)]
def cX8_think_2 : oh_C := [(.iload_n 1, 1, 1, 0, 0, 0, 0), (.aload_n 0, 1, 0, 0, 0, 0, 0), (.getfield 7, 3, 8, 0, 0, 0, 900), (.iconst 0, 1, 0, 0, 0, 0, 0), (.iaload, 1, 0, 0, 0, 0, 0), (.if_icmp .ge 165, 3, 174, 0, 0, 0, 0), (.aload_n 0, 1, 0, 0, 0, 0, 0), (.iload_n 1, 1, 1, 0, 0, 0, 0), (.iconst 3, 1, 3, 0, 0, 0, 0), (.invokevirtual 138, 3, 110, 3, 1, 8, 1063), (.istore_n 2, 1, 2, 0, 0, 0, 0), (.aload_n 0, 1, 0, 0, 0, 0, 0), (.getfield 31, 3, 8, 17, 0, 0, 917), (.iload_n 1, 1, 1, 0, 0, 0, 0), (.iconst 0, 1, 0, 0, 0, 0, 0), (.iastore, 1, 0, 0, 0, 0, 0), (.aload_n 0, 1, 0, 0, 0, 0, 0), (.getfield 34, 3, 8, 18, 0, 0, 918), (.iload_n 1, 1, 1, 0, 0, 0, 0), (.iconst 0, 1, 0, 0, 0, 0, 0), (.iastore, 1, 0, 0, 0, 0, 0), (.iconst 0, 1, 0, 0, 0, 0, 0), (.istore_n 3, 1, 3, 0, 0, 0, 0)]
def cX8_think_35 : oh_C := [(.iload_n 3, 1, 3, 0, 0, 0, 0), (.bipush 64, 2, 64, 0, 0, 0, 0), (.if_icmp .ge 33, 3, 71, 0, 0, 0, 0), (.aload_n 0, 1, 0, 0, 0, 0, 0), (.getfield 25, 3, 8, 15, 0, 0, 915), (.bipush 64, 2, 64, 0, 0, 0, 0), (.iload_n 1, 1, 1, 0, 0, 0, 0), (.imul, 1, 0, 0, 0, 0, 0), (.iload_n 3, 1, 3, 0, 0, 0, 0), (.iadd, 1, 0, 0, 0, 0, 0), (.iconst 0, 1, 0, 0, 0, 0, 0), (.iastore, 1, 0, 0, 0, 0, 0), (.aload_n 0, 1, 0, 0, 0, 0, 0), (.getfield 28, 3, 8, 16, 0, 0, 916), (.bipush 64, 2, 64, 0, 0, 0, 0), (.iload_n 1, 1, 1, 0, 0, 0, 0), (.imul, 1, 0, 0, 0, 0, 0), (.iload_n 3, 1, 3, 0, 0, 0, 0), (.iadd, 1, 0, 0, 0, 0, 0), (.iconst 0, 1, 0, 0, 0, 0, 0), (.iastore, 1, 0, 0, 0, 0, 0), (.iinc 3 1, 3, 3, 1, 0, 0, 0), (.goto (-33), 3, 35, 0, 0, 0, 0)]
def cX8_think_71 : oh_C := [(.iconst 0, 1, 0, 0, 0, 0, 0), (.istore_n 3, 1, 3, 0, 0, 0, 0)]
def cX8_think_73 : oh_C := [(.iload_n 3, 1, 3, 0, 0, 0, 0), (.iconst 1, 1, 1, 0, 0, 0, 0), (.aload_n 0, 1, 0, 0, 0, 0, 0), (.getfield 7, 3, 8, 0, 0, 0, 900), (.iconst 0, 1, 0, 0, 0, 0, 0), (.iaload, 1, 0, 0, 0, 0, 0), (.ishl, 1, 0, 0, 0, 0, 0), (.if_icmp .ge 86, 3, 168, 0, 0, 0, 0), (.aload_n 0, 1, 0, 0, 0, 0, 0), (.iload_n 3, 1, 3, 0, 0, 0, 0), (.invokevirtual 169, 3, 138, 2, 1, 8, 1146), (.ifCond .eq 72, 3, 162, 0, 0, 0, 0), (.iload_n 3, 1, 3, 0, 0, 0, 0), (.iload_n 1, 1, 1, 0, 0, 0, 0), (.ishr, 1, 0, 0, 0, 0, 0), (.iconst 1, 1, 1, 0, 0, 0, 0), (.iand, 1, 0, 0, 0, 0, 0), (.istore 4, 2, 4, 0, 0, 0, 0), (.aload_n 0, 1, 0, 0, 0, 0, 0), (.getfield 25, 3, 8, 15, 0, 0, 915), (.bipush 64, 2, 64, 0, 0, 0, 0), (.iload_n 1, 1, 1, 0, 0, 0, 0), (.imul, 1, 0, 0, 0, 0, 0), (.iload_n 3, 1, 3, 0, 0, 0, 0), (.iload_n 2, 1, 2, 0, 0, 0, 0), (.iand, 1, 0, 0, 0, 0, 0), (.iadd, 1, 0, 0, 0, 0, 0), (.dup2, 1, 0, 0, 0, 0, 0), (.iaload, 1, 0, 0, 0, 0, 0), (.iload 4, 2, 4, 0, 0, 0, 0), (.iadd, 1, 0, 0, 0, 0, 0), (.iastore, 1, 0, 0, 0, 0, 0), (.aload_n 0, 1, 0, 0, 0, 0, 0), (.getfield 28, 3, 8, 16, 0, 0, 916), (.bipush 64, 2, 64, 0, 0, 0, 0), (.iload_n 1, 1, 1, 0, 0, 0, 0), (.imul, 1, 0, 0, 0, 0, 0), (.iload_n 3, 1, 3, 0, 0, 0, 0), (.iload_n 2, 1, 2, 0, 0, 0, 0), (.iand, 1, 0, 0, 0, 0, 0), (.iadd, 1, 0, 0, 0, 0, 0), (.dup2, 1, 0, 0, 0, 0, 0), (.iaload, 1, 0, 0, 0, 0, 0), (.iconst 1, 1, 1, 0, 0, 0, 0), (.iload 4, 2, 4, 0, 0, 0, 0), (.isub, 1, 0, 0, 0, 0, 0), (.iadd, 1, 0, 0, 0, 0, 0), (.iastore, 1, 0, 0, 0, 0, 0), (.aload_n 0, 1, 0, 0, 0, 0, 0), (.getfield 31, 3, 8, 17, 0, 0, 917), (.iload_n 1, 1, 1, 0, 0, 0, 0), (.dup2, 1, 0, 0, 0, 0, 0), (.iaload, 1, 0, 0, 0, 0, 0), (.iload 4, 2, 4, 0, 0, 0, 0), (.iadd, 1, 0, 0, 0, 0, 0), (.iastore, 1, 0, 0, 0, 0, 0), (.aload_n 0, 1, 0, 0, 0, 0, 0), (.getfield 34, 3, 8, 18, 0, 0, 918), (.iload_n 1, 1, 1, 0, 0, 0, 0), (.dup2, 1, 0, 0, 0, 0, 0), (.iaload, 1, 0, 0, 0, 0, 0), (.iconst 1, 1, 1, 0, 0, 0, 0), (.iload 4, 2, 4, 0, 0, 0, 0), (.isub, 1, 0, 0, 0, 0, 0), (.iadd, 1, 0, 0, 0, 0, 0), (.iastore, 1, 0, 0, 0, 0, 0)]
def cX8_think_162 : oh_C := [(.iinc 3 1, 3, 3, 1, 0, 0, 0), (.goto (-92), 3, 73, 0, 0, 0, 0)]
def cX8_think_168 : oh_C := [(.iinc 1 1, 3, 1, 1, 0, 0, 0), (.goto (-169), 3, 2, 0, 0, 0, 0)]
def cX8_think_174 : oh_C := [(.return_, 1, 0, 0, 0, 0, 0)]
def tX8_think : oh_T := [(0, none, cX8_think_0), (2, some [true, true, false, false, false], cX8_think_2), (35, some [true, true, true, true, false], cX8_think_35), (71, none, cX8_think_71), (73, some [true, true, true, true, false], cX8_think_73), (162, none, cX8_think_162), (168, none, cX8_think_168), (174, none, cX8_think_174)]
def cX8_blackOf_0 : oh_C := [(.aload_n 0, 1, 0, 0, 0, 0, 0), (.getfield 25, 3, 8, 15, 0, 0, 915), (.bipush 64, 2, 64, 0, 0, 0, 0), (.iload_n 1, 1, 1, 0, 0, 0, 0), (.imul, 1, 0, 0, 0, 0, 0), (.iload_n 2, 1, 2, 0, 0, 0, 0), (.aload_n 0, 1, 0, 0, 0, 0, 0), (.iload_n 1, 1, 1, 0, 0, 0, 0), (.iconst 3, 1, 3, 0, 0, 0, 0), (.invokevirtual 138, 3, 110, 3, 1, 8, 1063), (.iand, 1, 0, 0, 0, 0, 0), (.iadd, 1, 0, 0, 0, 0, 0), (.iaload, 1, 0, 0, 0, 0, 0), (.ireturn, 1, 0, 0, 0, 0, 0)]
def tX8_blackOf : oh_T := [(0, none, cX8_blackOf_0)]
def cX8_whiteOf_0 : oh_C := [(.aload_n 0, 1, 0, 0, 0, 0, 0), (.getfield 28, 3, 8, 16, 0, 0, 916), (.bipush 64, 2, 64, 0, 0, 0, 0), (.iload_n 1, 1, 1, 0, 0, 0, 0), (.imul, 1, 0, 0, 0, 0, 0), (.iload_n 2, 1, 2, 0, 0, 0, 0), (.aload_n 0, 1, 0, 0, 0, 0, 0), (.iload_n 1, 1, 1, 0, 0, 0, 0), (.iconst 3, 1, 3, 0, 0, 0, 0), (.invokevirtual 138, 3, 110, 3, 1, 8, 1063), (.iand, 1, 0, 0, 0, 0, 0), (.iadd, 1, 0, 0, 0, 0, 0), (.iaload, 1, 0, 0, 0, 0, 0), (.ireturn, 1, 0, 0, 0, 0, 0)]
def tX8_whiteOf : oh_T := [(0, none, cX8_whiteOf_0)]
def cX8_knows_0 : oh_C := [(.aload_n 0, 1, 0, 0, 0, 0, 0), (.iload_n 1, 1, 1, 0, 0, 0, 0), (.iload_n 2, 1, 2, 0, 0, 0, 0), (.invokevirtual 172, 3, 141, 3, 1, 8, 1166), (.ifCond .eq 12, 3, 18, 0, 0, 0, 0), (.aload_n 0, 1, 0, 0, 0, 0, 0), (.iload_n 1, 1, 1, 0, 0, 0, 0), (.iload_n 2, 1, 2, 0, 0, 0, 0), (.invokevirtual 175, 3, 142, 3, 1, 8, 1170), (.ifCond .ne 7, 3, 22, 0, 0, 0, 0)]
def cX8_knows_18 : oh_C := [(.iconst 1, 1, 1, 0, 0, 0, 0), (.goto 4, 3, 23, 0, 0, 0, 0)]
def cX8_knows_22 : oh_C := [(.iconst 0, 1, 0, 0, 0, 0, 0)]
def cX8_knows_23 : oh_C := [(.ireturn, 1, 1, 0, 0, 0, 0)]
def tX8_knows : oh_T := [(0, none, cX8_knows_0), (18, none, cX8_knows_18), (22, none, cX8_knows_22), (23, none, cX8_knows_23)]
def cX8_wouldSay_0 : oh_C := [(.aload_n 0, 1, 0, 0, 0, 0, 0), (.iload_n 1, 1, 1, 0, 0, 0, 0), (.iload_n 2, 1, 2, 0, 0, 0, 0), (.invokevirtual 172, 3, 141, 3, 1, 8, 1166), (.aload_n 0, 1, 0, 0, 0, 0, 0), (.iload_n 1, 1, 1, 0, 0, 0, 0), (.iload_n 2, 1, 2, 0, 0, 0, 0), (.invokevirtual 175, 3, 142, 3, 1, 8, 1170), (.if_icmp .lt 7, 3, 19, 0, 0, 0, 0), (.iconst 1, 1, 1, 0, 0, 0, 0), (.goto 4, 3, 20, 0, 0, 0, 0)]
def cX8_wouldSay_19 : oh_C := [(.iconst 0, 1, 0, 0, 0, 0, 0)]
def cX8_wouldSay_20 : oh_C := [(.ireturn, 1, 0, 0, 0, 0, 0)]
def tX8_wouldSay : oh_T := [(0, none, cX8_wouldSay_0), (19, none, cX8_wouldSay_19), (20, none, cX8_wouldSay_20)]
def cX8_isHasty_0 : oh_C := [(.aload_n 0, 1, 0, 0, 0, 0, 0), (.iload_n 1, 1, 1, 0, 0, 0, 0), (.iconst 1, 1, 1, 0, 0, 0, 0), (.invokevirtual 138, 3, 110, 3, 1, 8, 1063), (.istore_n 3, 1, 3, 0, 0, 0, 0), (.aload_n 0, 1, 0, 0, 0, 0, 0), (.iload_n 1, 1, 1, 0, 0, 0, 0), (.iload_n 2, 1, 2, 0, 0, 0, 0), (.invokevirtual 178, 3, 143, 3, 1, 8, 1162), (.ifCond .ne 37, 3, 50, 0, 0, 0, 0), (.aload_n 0, 1, 0, 0, 0, 0, 0), (.iload_n 1, 1, 1, 0, 0, 0, 0), (.iload_n 2, 1, 2, 0, 0, 0, 0), (.invokevirtual 172, 3, 141, 3, 1, 8, 1166), (.iload_n 3, 1, 3, 0, 0, 0, 0), (.aload_n 0, 1, 0, 0, 0, 0, 0), (.iload_n 1, 1, 1, 0, 0, 0, 0), (.iload_n 2, 1, 2, 0, 0, 0, 0), (.invokevirtual 175, 3, 142, 3, 1, 8, 1170), (.imul, 1, 0, 0, 0, 0, 0), (.if_icmp .gt 20, 3, 50, 0, 0, 0, 0), (.aload_n 0, 1, 0, 0, 0, 0, 0), (.iload_n 1, 1, 1, 0, 0, 0, 0), (.iload_n 2, 1, 2, 0, 0, 0, 0), (.invokevirtual 175, 3, 142, 3, 1, 8, 1170), (.iload_n 3, 1, 3, 0, 0, 0, 0), (.aload_n 0, 1, 0, 0, 0, 0, 0), (.iload_n 1, 1, 1, 0, 0, 0, 0), (.iload_n 2, 1, 2, 0, 0, 0, 0), (.invokevirtual 172, 3, 141, 3, 1, 8, 1166), (.imul, 1, 0, 0, 0, 0, 0), (.if_icmp .le 7, 3, 54, 0, 0, 0, 0)]
def cX8_isHasty_50 : oh_C := [(.iconst 1, 1, 1, 0, 0, 0, 0), (.goto 4, 3, 55, 0, 0, 0, 0)]
def cX8_isHasty_54 : oh_C := [(.iconst 0, 1, 0, 0, 0, 0, 0)]
def cX8_isHasty_55 : oh_C := [(.ireturn, 1, 1, 0, 0, 0, 0)]
def tX8_isHasty : oh_T := [(0, none, cX8_isHasty_0), (50, none, cX8_isHasty_50), (54, none, cX8_isHasty_54), (55, none, cX8_isHasty_55)]
def cX8_speaks_0 : oh_C := [(.aload_n 0, 1, 0, 0, 0, 0, 0), (.getfield 7, 3, 8, 0, 0, 0, 900), (.iconst 3, 1, 3, 0, 0, 0, 0), (.iaload, 1, 0, 0, 0, 0, 0), (.iload_n 1, 1, 1, 0, 0, 0, 0), (.ishr, 1, 0, 0, 0, 0, 0), (.iconst 1, 1, 1, 0, 0, 0, 0), (.iand, 1, 0, 0, 0, 0, 0), (.iconst 1, 1, 1, 0, 0, 0, 0), (.if_icmp .ne 5, 3, 16, 0, 0, 0, 0), (.iconst 0, 1, 0, 0, 0, 0, 0), (.ireturn, 1, 1, 0, 0, 0, 0)]
def cX8_speaks_16 : oh_C := [(.aload_n 0, 1, 0, 0, 0, 0, 0), (.iload_n 1, 1, 1, 0, 0, 0, 0), (.iconst 1, 1, 1, 0, 0, 0, 0), (.invokevirtual 138, 3, 110, 3, 1, 8, 1063), (.istore_n 3, 1, 3, 0, 0, 0, 0), (.aload_n 0, 1, 0, 0, 0, 0, 0), (.iload_n 1, 1, 1, 0, 0, 0, 0), (.iconst 3, 1, 3, 0, 0, 0, 0), (.invokevirtual 138, 3, 110, 3, 1, 8, 1063), (.istore 4, 2, 4, 0, 0, 0, 0), (.aload_n 0, 1, 0, 0, 0, 0, 0), (.iload_n 1, 1, 1, 0, 0, 0, 0), (.iconst 0, 1, 0, 0, 0, 0, 0), (.invokevirtual 138, 3, 110, 3, 1, 8, 1063), (.tableswitch 161 1 6 #[39, 46, 71, 73, 98, 137], 39, 0, 0, 0, 0, 0)]
def cX8_speaks_76 : oh_C := [(.aload_n 0, 1, 0, 0, 0, 0, 0), (.iload_n 1, 1, 1, 0, 0, 0, 0), (.iload_n 2, 1, 2, 0, 0, 0, 0), (.invokevirtual 182, 3, 145, 3, 1, 8, 1158), (.ireturn, 1, 1, 0, 0, 0, 0)]
def cX8_speaks_83 : oh_C := [(.aload_n 0, 1, 0, 0, 0, 0, 0), (.iload_n 1, 1, 1, 0, 0, 0, 0), (.iload_n 2, 1, 2, 0, 0, 0, 0), (.invokevirtual 178, 3, 143, 3, 1, 8, 1162), (.ifCond .eq 17, 3, 106, 0, 0, 0, 0), (.aload_n 0, 1, 0, 0, 0, 0, 0), (.getfield 7, 3, 8, 0, 0, 0, 900), (.iconst 2, 1, 2, 0, 0, 0, 0), (.iaload, 1, 0, 0, 0, 0, 0), (.iload_n 3, 1, 3, 0, 0, 0, 0), (.if_icmp .lt 7, 3, 106, 0, 0, 0, 0), (.iconst 1, 1, 1, 0, 0, 0, 0), (.goto 4, 3, 107, 0, 0, 0, 0)]
def cX8_speaks_106 : oh_C := [(.iconst 0, 1, 0, 0, 0, 0, 0)]
def cX8_speaks_107 : oh_C := [(.ireturn, 1, 1, 0, 0, 0, 0)]
def cX8_speaks_108 : oh_C := [(.iconst 0, 1, 0, 0, 0, 0, 0), (.ireturn, 1, 1, 0, 0, 0, 0)]
def cX8_speaks_110 : oh_C := [(.aload_n 0, 1, 0, 0, 0, 0, 0), (.iload_n 1, 1, 1, 0, 0, 0, 0), (.iload_n 2, 1, 2, 0, 0, 0, 0), (.invokevirtual 182, 3, 145, 3, 1, 8, 1158), (.ifCond .ne 13, 3, 129, 0, 0, 0, 0), (.aload_n 0, 1, 0, 0, 0, 0, 0), (.getfield 7, 3, 8, 0, 0, 0, 900), (.iconst 2, 1, 2, 0, 0, 0, 0), (.iaload, 1, 0, 0, 0, 0, 0), (.iload_n 3, 1, 3, 0, 0, 0, 0), (.if_icmp .lt 7, 3, 133, 0, 0, 0, 0)]
def cX8_speaks_129 : oh_C := [(.iconst 1, 1, 1, 0, 0, 0, 0), (.goto 4, 3, 134, 0, 0, 0, 0)]
def cX8_speaks_133 : oh_C := [(.iconst 0, 1, 0, 0, 0, 0, 0)]
def cX8_speaks_134 : oh_C := [(.ireturn, 1, 1, 0, 0, 0, 0)]
def cX8_speaks_135 : oh_C := [(.aload_n 0, 1, 0, 0, 0, 0, 0), (.iload_n 1, 1, 1, 0, 0, 0, 0), (.iload_n 2, 1, 2, 0, 0, 0, 0), (.invokevirtual 178, 3, 143, 3, 1, 8, 1162), (.ifCond .eq 31, 3, 172, 0, 0, 0, 0), (.aload_n 0, 1, 0, 0, 0, 0, 0), (.getfield 7, 3, 8, 0, 0, 0, 900), (.iconst 2, 1, 2, 0, 0, 0, 0), (.iaload, 1, 0, 0, 0, 0, 0), (.iload_n 3, 1, 3, 0, 0, 0, 0), (.if_icmp .lt 21, 3, 172, 0, 0, 0, 0), (.aload_n 0, 1, 0, 0, 0, 0, 0), (.getfield 7, 3, 8, 0, 0, 0, 900), (.iconst 3, 1, 3, 0, 0, 0, 0), (.iaload, 1, 0, 0, 0, 0, 0), (.iload 4, 2, 4, 0, 0, 0, 0), (.iand, 1, 0, 0, 0, 0, 0), (.iload 4, 2, 4, 0, 0, 0, 0), (.if_icmp .ne 7, 3, 172, 0, 0, 0, 0), (.iconst 1, 1, 1, 0, 0, 0, 0), (.goto 4, 3, 173, 0, 0, 0, 0)]
def cX8_speaks_172 : oh_C := [(.iconst 0, 1, 0, 0, 0, 0, 0)]
def cX8_speaks_173 : oh_C := [(.ireturn, 1, 1, 0, 0, 0, 0)]
def cX8_speaks_174 : oh_C := [(.aload_n 0, 1, 0, 0, 0, 0, 0), (.getfield 31, 3, 8, 17, 0, 0, 917), (.iload_n 1, 1, 1, 0, 0, 0, 0), (.iaload, 1, 0, 0, 0, 0, 0), (.ifCond .eq 12, 3, 192, 0, 0, 0, 0), (.aload_n 0, 1, 0, 0, 0, 0, 0), (.getfield 34, 3, 8, 18, 0, 0, 918), (.iload_n 1, 1, 1, 0, 0, 0, 0), (.iaload, 1, 0, 0, 0, 0, 0), (.ifCond .ne 7, 3, 196, 0, 0, 0, 0)]
def cX8_speaks_192 : oh_C := [(.iconst 1, 1, 1, 0, 0, 0, 0), (.goto 4, 3, 197, 0, 0, 0, 0)]
def cX8_speaks_196 : oh_C := [(.iconst 0, 1, 0, 0, 0, 0, 0)]
def cX8_speaks_197 : oh_C := [(.ireturn, 1, 1, 0, 0, 0, 0)]
def cX8_speaks_198 : oh_C := [(.aload_n 0, 1, 0, 0, 0, 0, 0), (.iload_n 1, 1, 1, 0, 0, 0, 0), (.iload_n 2, 1, 2, 0, 0, 0, 0), (.invokevirtual 178, 3, 143, 3, 1, 8, 1162), (.ireturn, 1, 1, 0, 0, 0, 0)]
def tX8_speaks : oh_T := [(0, none, cX8_speaks_0), (16, none, cX8_speaks_16), (76, none, cX8_speaks_76), (83, none, cX8_speaks_83), (106, none, cX8_speaks_106), (107, none, cX8_speaks_107), (108, none, cX8_speaks_108), (110, none, cX8_speaks_110), (129, none, cX8_speaks_129), (133, none, cX8_speaks_133), (134, none, cX8_speaks_134), (135, none, cX8_speaks_135), (172, none, cX8_speaks_172), (173, none, cX8_speaks_173), (174, none, cX8_speaks_174), (192, none, cX8_speaks_192), (196, none, cX8_speaks_196), (197, none, cX8_speaks_197), (198, none, cX8_speaks_198)]
def cX8_speakers_0 : oh_C := [(.iconst 0, 1, 0, 0, 0, 0, 0), (.istore_n 2, 1, 2, 0, 0, 0, 0), (.iconst 0, 1, 0, 0, 0, 0, 0), (.istore_n 3, 1, 3, 0, 0, 0, 0)]
def cX8_speakers_4 : oh_C := [(.iload_n 3, 1, 3, 0, 0, 0, 0), (.aload_n 0, 1, 0, 0, 0, 0, 0), (.getfield 7, 3, 8, 0, 0, 0, 900), (.iconst 0, 1, 0, 0, 0, 0, 0), (.iaload, 1, 0, 0, 0, 0, 0), (.if_icmp .ge 28, 3, 39, 0, 0, 0, 0), (.iload_n 2, 1, 2, 0, 0, 0, 0), (.aload_n 0, 1, 0, 0, 0, 0, 0), (.iload_n 3, 1, 3, 0, 0, 0, 0), (.iload_n 1, 1, 1, 0, 0, 0, 0), (.invokevirtual 185, 3, 146, 3, 1, 8, 1154), (.ifCond .eq 9, 3, 30, 0, 0, 0, 0), (.iconst 1, 1, 1, 0, 0, 0, 0), (.iload_n 3, 1, 3, 0, 0, 0, 0), (.ishl, 1, 0, 0, 0, 0, 0), (.goto 4, 3, 31, 0, 0, 0, 0)]
def cX8_speakers_30 : oh_C := [(.iconst 0, 1, 0, 0, 0, 0, 0)]
def cX8_speakers_31 : oh_C := [(.ior, 1, 0, 0, 0, 0, 0), (.istore_n 2, 1, 2, 0, 0, 0, 0), (.iinc 3 1, 3, 3, 1, 0, 0, 0), (.goto (-32), 3, 4, 0, 0, 0, 0)]
def cX8_speakers_39 : oh_C := [(.iload_n 2, 1, 2, 0, 0, 0, 0), (.ireturn, 1, 0, 0, 0, 0, 0)]
def tX8_speakers : oh_T := [(0, none, cX8_speakers_0), (4, some [true, true, true, true], cX8_speakers_4), (30, none, cX8_speakers_30), (31, none, cX8_speakers_31), (39, none, cX8_speakers_39)]
def cX8_sayings_0 : oh_C := [(.iconst 0, 1, 0, 0, 0, 0, 0), (.istore_n 3, 1, 3, 0, 0, 0, 0), (.iconst 0, 1, 0, 0, 0, 0, 0), (.istore 4, 2, 4, 0, 0, 0, 0)]
def cX8_sayings_5 : oh_C := [(.iload 4, 2, 4, 0, 0, 0, 0), (.aload_n 0, 1, 0, 0, 0, 0, 0), (.getfield 7, 3, 8, 0, 0, 0, 900), (.iconst 0, 1, 0, 0, 0, 0, 0), (.iaload, 1, 0, 0, 0, 0, 0), (.if_icmp .ge 41, 3, 54, 0, 0, 0, 0), (.iload_n 3, 1, 3, 0, 0, 0, 0), (.iload_n 2, 1, 2, 0, 0, 0, 0), (.iload 4, 2, 4, 0, 0, 0, 0), (.ishr, 1, 0, 0, 0, 0, 0), (.iconst 1, 1, 1, 0, 0, 0, 0), (.iand, 1, 0, 0, 0, 0, 0), (.iconst 1, 1, 1, 0, 0, 0, 0), (.if_icmp .ne 21, 3, 45, 0, 0, 0, 0), (.aload_n 0, 1, 0, 0, 0, 0, 0), (.iload 4, 2, 4, 0, 0, 0, 0), (.iload_n 1, 1, 1, 0, 0, 0, 0), (.invokevirtual 188, 3, 144, 3, 1, 8, 1178), (.iconst 1, 1, 1, 0, 0, 0, 0), (.if_icmp .ne 10, 3, 45, 0, 0, 0, 0), (.iconst 1, 1, 1, 0, 0, 0, 0), (.iload 4, 2, 4, 0, 0, 0, 0), (.ishl, 1, 0, 0, 0, 0, 0), (.goto 4, 3, 46, 0, 0, 0, 0)]
def cX8_sayings_45 : oh_C := [(.iconst 0, 1, 0, 0, 0, 0, 0)]
def cX8_sayings_46 : oh_C := [(.ior, 1, 0, 0, 0, 0, 0), (.istore_n 3, 1, 3, 0, 0, 0, 0), (.iinc 4 1, 3, 4, 1, 0, 0, 0), (.goto (-46), 3, 5, 0, 0, 0, 0)]
def cX8_sayings_54 : oh_C := [(.iload_n 3, 1, 3, 0, 0, 0, 0), (.ireturn, 1, 0, 0, 0, 0, 0)]
def tX8_sayings : oh_T := [(0, none, cX8_sayings_0), (5, some [true, true, true, true, true], cX8_sayings_5), (45, none, cX8_sayings_45), (46, none, cX8_sayings_46), (54, none, cX8_sayings_54)]
def cX8_open_0 : oh_C := [(.aload_n 0, 1, 0, 0, 0, 0, 0), (.invokevirtual 134, 3, 113, 1, 1, 8, 1059), (.ifCond .eq 9, 3, 13, 0, 0, 0, 0), (.aload_n 0, 1, 0, 0, 0, 0, 0), (.iconst 3, 1, 3, 0, 0, 0, 0), (.invokevirtual 116, 3, 105, 2, 1, 8, 987), (.ireturn, 1, 0, 0, 0, 0, 0)]
def cX8_open_13 : oh_C := [(.aload_n 0, 1, 0, 0, 0, 0, 0), (.getfield 7, 3, 8, 0, 0, 0, 900), (.iconst 0, 1, 0, 0, 0, 0, 0), (.iaload, 1, 0, 0, 0, 0, 0), (.istore_n 1, 1, 1, 0, 0, 0, 0), (.lconst 0, 1, 0, 0, 0, 0, 0), (.lstore_n 2, 1, 2, 0, 0, 0, 0), (.iconst 0, 1, 0, 0, 0, 0, 0), (.istore 4, 2, 4, 0, 0, 0, 0)]
def cX8_open_25 : oh_C := [(.iload 4, 2, 4, 0, 0, 0, 0), (.iconst 1, 1, 1, 0, 0, 0, 0), (.iload_n 1, 1, 1, 0, 0, 0, 0), (.ishl, 1, 0, 0, 0, 0, 0), (.if_icmp .ge 58, 3, 88, 0, 0, 0, 0), (.iload_n 1, 1, 1, 0, 0, 0, 0), (.ifCond .ne 7, 3, 41, 0, 0, 0, 0), (.iconst 0, 1, 0, 0, 0, 0, 0), (.goto 11, 3, 49, 0, 0, 0, 0)]
def cX8_open_41 : oh_C := [(.iload 4, 2, 4, 0, 0, 0, 0), (.iload_n 1, 1, 1, 0, 0, 0, 0), (.iconst 1, 1, 1, 0, 0, 0, 0), (.isub, 1, 0, 0, 0, 0, 0), (.ishr, 1, 0, 0, 0, 0, 0), (.iconst 1, 1, 1, 0, 0, 0, 0), (.iand, 1, 0, 0, 0, 0, 0)]
def cX8_open_49 : oh_C := [(.istore 5, 2, 5, 0, 0, 0, 0), (.lload_n 2, 1, 2, 0, 0, 0, 0), (.aload_n 0, 1, 0, 0, 0, 0, 0), (.iconst 0, 1, 0, 0, 0, 0, 0), (.iload 4, 2, 4, 0, 0, 0, 0), (.invokestatic 191, 3, 136, 1, 1, 0, 1111), (.iload_n 1, 1, 1, 0, 0, 0, 0), (.iload 4, 2, 4, 0, 0, 0, 0), (.iconst 1, 1, 1, 0, 0, 0, 0), (.iand, 1, 0, 0, 0, 0, 0), (.iload 5, 2, 5, 0, 0, 0, 0), (.invokevirtual 128, 3, 127, 6, 1, 8, 1047), (.ifCond .eq 10, 3, 79, 0, 0, 0, 0), (.lconst 1, 1, 1, 0, 0, 0, 0), (.iload 4, 2, 4, 0, 0, 0, 0), (.lshl, 1, 0, 0, 0, 0, 0), (.goto 4, 3, 80, 0, 0, 0, 0)]
def cX8_open_79 : oh_C := [(.lconst 0, 1, 0, 0, 0, 0, 0)]
def cX8_open_80 : oh_C := [(.lor, 1, 0, 0, 0, 0, 0), (.lstore_n 2, 1, 2, 0, 0, 0, 0), (.iinc 4 1, 3, 4, 1, 0, 0, 0), (.goto (-60), 3, 25, 0, 0, 0, 0)]
def cX8_open_88 : oh_C := [(.lload_n 2, 1, 2, 0, 0, 0, 0), (.aload_n 0, 1, 0, 0, 0, 0, 0), (.invokevirtual 194, 3, 139, 1, 1, 8, 1114), (.lshr, 1, 0, 0, 0, 0, 0), (.lconst 1, 1, 1, 0, 0, 0, 0), (.land, 1, 0, 0, 0, 0, 0), (.lconst 0, 1, 0, 0, 0, 0, 0), (.lcmp, 1, 0, 0, 0, 0, 0), (.ifCond .ne 9, 3, 107, 0, 0, 0, 0), (.aload_n 0, 1, 0, 0, 0, 0, 0), (.iconst 3, 1, 3, 0, 0, 0, 0), (.invokevirtual 116, 3, 105, 2, 1, 8, 987), (.ireturn, 1, 0, 0, 0, 0, 0)]
def cX8_open_107 : oh_C := [(.aload_n 0, 1, 0, 0, 0, 0, 0), (.lload_n 2, 1, 2, 0, 0, 0, 0), (.putfield 165, 3, 8, 3, 0, 0, 903), (.aload_n 0, 1, 0, 0, 0, 0, 0), (.getfield 7, 3, 8, 0, 0, 0, 900), (.iconst 1, 1, 1, 0, 0, 0, 0), (.iconst 1, 1, 1, 0, 0, 0, 0), (.iastore, 1, 0, 0, 0, 0, 0), (.aload_n 0, 1, 0, 0, 0, 0, 0), (.getfield 7, 3, 8, 0, 0, 0, 900), (.iconst 3, 1, 3, 0, 0, 0, 0), (.iconst 0, 1, 0, 0, 0, 0, 0), (.iastore, 1, 0, 0, 0, 0, 0), (.aload_n 0, 1, 0, 0, 0, 0, 0), (.getfield 7, 3, 8, 0, 0, 0, 900), (.iconst 2, 1, 2, 0, 0, 0, 0), (.iconst 0, 1, 0, 0, 0, 0, 0), (.iastore, 1, 0, 0, 0, 0, 0), (.aload_n 0, 1, 0, 0, 0, 0, 0), (.getfield 165, 3, 8, 3, 0, 0, 903), (.invokestatic 197, 3, 137, 1, 1, 0, 1118), (.ireturn, 1, 0, 0, 0, 0, 0)]
def tX8_open : oh_T := [(0, none, cX8_open_0), (13, none, cX8_open_13), (25, some [true, true, true, false, true, false], cX8_open_25), (41, none, cX8_open_41), (49, none, cX8_open_49), (79, none, cX8_open_79), (80, none, cX8_open_80), (88, none, cX8_open_88), (107, none, cX8_open_107)]
def cX8_close_0 : oh_C := [(.aload_n 0, 1, 0, 0, 0, 0, 0), (.invokevirtual 134, 3, 113, 1, 1, 8, 1059), (.ifCond .ne 9, 3, 13, 0, 0, 0, 0), (.aload_n 0, 1, 0, 0, 0, 0, 0), (.iconst 3, 1, 3, 0, 0, 0, 0), (.invokevirtual 116, 3, 105, 2, 1, 8, 987), (.ireturn, 1, 0, 0, 0, 0, 0)]
def cX8_close_13 : oh_C := [(.aload_n 0, 1, 0, 0, 0, 0, 0), (.getfield 7, 3, 8, 0, 0, 0, 900), (.iconst 1, 1, 1, 0, 0, 0, 0), (.iconst 0, 1, 0, 0, 0, 0, 0), (.iastore, 1, 0, 0, 0, 0, 0), (.aload_n 0, 1, 0, 0, 0, 0, 0), (.getfield 7, 3, 8, 0, 0, 0, 900), (.iconst 3, 1, 3, 0, 0, 0, 0), (.iaload, 1, 0, 0, 0, 0, 0), (.invokestatic 191, 3, 136, 1, 1, 0, 1111), (.ireturn, 1, 0, 0, 0, 0, 0)]
def tX8_close : oh_T := [(0, none, cX8_close_0), (13, none, cX8_close_13)]
def cX8_drawn_0 : oh_C := [(.aload_n 0, 1, 0, 0, 0, 0, 0), (.getfield 7, 3, 8, 0, 0, 0, 900), (.iconst 5, 1, 5, 0, 0, 0, 0), (.aload_n 0, 1, 0, 0, 0, 0, 0), (.getfield 7, 3, 8, 0, 0, 0, 900), (.iconst 5, 1, 5, 0, 0, 0, 0), (.iaload, 1, 0, 0, 0, 0, 0), (.ldc 201, 2, 1103515245, 0, 0, 0, 1186), (.imul, 1, 0, 0, 0, 0, 0), (.sipush 12345, 3, 12345, 0, 0, 0, 0), (.iadd, 1, 0, 0, 0, 0, 0), (.iastore, 1, 0, 0, 0, 0, 0), (.aload_n 0, 1, 0, 0, 0, 0, 0), (.getfield 7, 3, 8, 0, 0, 0, 900), (.iconst 5, 1, 5, 0, 0, 0, 0), (.iaload, 1, 0, 0, 0, 0, 0), (.bipush 8, 2, 8, 0, 0, 0, 0), (.iushr, 1, 0, 0, 0, 0, 0), (.ireturn, 1, 0, 0, 0, 0, 0)]
def tX8_drawn : oh_T := [(0, none, cX8_drawn_0)]
def cX8_pays_0 : oh_C := [(.iload_n 2, 1, 2, 0, 0, 0, 0), (.ifCond .eq 25, 3, 26, 0, 0, 0, 0), (.aload_n 0, 1, 0, 0, 0, 0, 0), (.iconst 1, 1, 1, 0, 0, 0, 0), (.aload_n 0, 1, 0, 0, 0, 0, 0), (.iload_n 1, 1, 1, 0, 0, 0, 0), (.iconst 2, 1, 2, 0, 0, 0, 0), (.invokevirtual 138, 3, 110, 3, 1, 8, 1063), (.aload_n 0, 1, 0, 0, 0, 0, 0), (.getfield 7, 3, 8, 0, 0, 0, 900), (.iconst 2, 1, 2, 0, 0, 0, 0), (.iaload, 1, 0, 0, 0, 0, 0), (.iload_n 3, 1, 3, 0, 0, 0, 0), (.iconst 0, 1, 0, 0, 0, 0, 0), (.invokevirtual 128, 3, 127, 6, 1, 8, 1047), (.goto 10, 3, 33, 0, 0, 0, 0)]
def cX8_pays_26 : oh_C := [(.aload_n 0, 1, 0, 0, 0, 0, 0), (.getfield 7, 3, 8, 0, 0, 0, 900), (.iconst 4, 1, 4, 0, 0, 0, 0), (.iaload, 1, 0, 0, 0, 0, 0), (.ineg, 1, 0, 0, 0, 0, 0)]
def cX8_pays_33 : oh_C := [(.istore 4, 2, 4, 0, 0, 0, 0), (.aload_n 0, 1, 0, 0, 0, 0, 0), (.iload_n 1, 1, 1, 0, 0, 0, 0), (.iconst 4, 1, 4, 0, 0, 0, 0), (.aload_n 0, 1, 0, 0, 0, 0, 0), (.iload_n 1, 1, 1, 0, 0, 0, 0), (.iconst 4, 1, 4, 0, 0, 0, 0), (.invokevirtual 138, 3, 110, 3, 1, 8, 1063), (.iload 4, 2, 4, 0, 0, 0, 0), (.iadd, 1, 0, 0, 0, 0, 0), (.ldc 202, 2, 99999, 0, 0, 1, 1191), (.ldc 203, 2, 99999, 0, 0, 0, 1192), (.invokestatic 125, 3, 107, 3, 1, 0, 1051), (.invokevirtual 142, 3, 111, 4, 0, 8, 1067), (.return_, 1, 0, 0, 0, 0, 0)]
def tX8_pays : oh_T := [(0, none, cX8_pays_0), (26, none, cX8_pays_26), (33, none, cX8_pays_33)]
def cX8_rings_0 : oh_C := [(.aload_n 0, 1, 0, 0, 0, 0, 0), (.invokevirtual 204, 3, 140, 1, 0, 8, 1142), (.aload_n 0, 1, 0, 0, 0, 0, 0), (.invokevirtual 194, 3, 139, 1, 1, 8, 1114), (.istore_n 2, 1, 2, 0, 0, 0, 0), (.aload_n 0, 1, 0, 0, 0, 0, 0), (.iload_n 2, 1, 2, 0, 0, 0, 0), (.invokevirtual 207, 3, 147, 2, 1, 8, 1150), (.istore_n 3, 1, 3, 0, 0, 0, 0), (.aload_n 0, 1, 0, 0, 0, 0, 0), (.iload_n 2, 1, 2, 0, 0, 0, 0), (.iload_n 3, 1, 3, 0, 0, 0, 0), (.invokevirtual 210, 3, 148, 3, 1, 8, 1174), (.istore 4, 2, 4, 0, 0, 0, 0), (.iconst 0, 1, 0, 0, 0, 0, 0), (.istore 5, 2, 5, 0, 0, 0, 0)]
def cX8_rings_26 : oh_C := [(.iload 5, 2, 5, 0, 0, 0, 0), (.aload_n 0, 1, 0, 0, 0, 0, 0), (.getfield 7, 3, 8, 0, 0, 0, 900), (.iconst 0, 1, 0, 0, 0, 0, 0), (.iaload, 1, 0, 0, 0, 0, 0), (.if_icmp .ge 42, 3, 76, 0, 0, 0, 0), (.iload_n 1, 1, 1, 0, 0, 0, 0), (.ifCond .eq 38, 3, 76, 0, 0, 0, 0), (.iload_n 3, 1, 3, 0, 0, 0, 0), (.iload 5, 2, 5, 0, 0, 0, 0), (.ishr, 1, 0, 0, 0, 0, 0), (.iconst 1, 1, 1, 0, 0, 0, 0), (.iand, 1, 0, 0, 0, 0, 0), (.iconst 1, 1, 1, 0, 0, 0, 0), (.if_icmp .ne 22, 3, 70, 0, 0, 0, 0), (.aload_n 0, 1, 0, 0, 0, 0, 0), (.invokevirtual 213, 3, 151, 1, 1, 8, 1182), (.bipush 8, 2, 8, 0, 0, 0, 0), (.irem, 1, 0, 0, 0, 0, 0), (.ifCond .ne 12, 3, 70, 0, 0, 0, 0), (.iload 4, 2, 4, 0, 0, 0, 0), (.iconst 1, 1, 1, 0, 0, 0, 0), (.iload 5, 2, 5, 0, 0, 0, 0), (.ishl, 1, 0, 0, 0, 0, 0), (.ixor, 1, 0, 0, 0, 0, 0), (.istore 4, 2, 4, 0, 0, 0, 0)]
def cX8_rings_70 : oh_C := [(.iinc 5 1, 3, 5, 1, 0, 0, 0), (.goto (-47), 3, 26, 0, 0, 0, 0)]
def cX8_rings_76 : oh_C := [(.lconst 0, 1, 0, 0, 0, 0, 0), (.lstore 5, 2, 5, 0, 0, 0, 0), (.iconst 0, 1, 0, 0, 0, 0, 0), (.istore 7, 2, 7, 0, 0, 0, 0)]
def cX8_rings_82 : oh_C := [(.iload 7, 2, 7, 0, 0, 0, 0), (.iconst 1, 1, 1, 0, 0, 0, 0), (.aload_n 0, 1, 0, 0, 0, 0, 0), (.getfield 7, 3, 8, 0, 0, 0, 900), (.iconst 0, 1, 0, 0, 0, 0, 0), (.iaload, 1, 0, 0, 0, 0, 0), (.ishl, 1, 0, 0, 0, 0, 0), (.if_icmp .ge 49, 3, 141, 0, 0, 0, 0), (.aload_n 0, 1, 0, 0, 0, 0, 0), (.iload 7, 2, 7, 0, 0, 0, 0), (.invokevirtual 169, 3, 138, 2, 1, 8, 1146), (.ifCond .eq 34, 3, 135, 0, 0, 0, 0), (.aload_n 0, 1, 0, 0, 0, 0, 0), (.iload 7, 2, 7, 0, 0, 0, 0), (.invokevirtual 207, 3, 147, 2, 1, 8, 1150), (.iload_n 3, 1, 3, 0, 0, 0, 0), (.if_icmp .ne 24, 3, 135, 0, 0, 0, 0), (.aload_n 0, 1, 0, 0, 0, 0, 0), (.iload 7, 2, 7, 0, 0, 0, 0), (.iload_n 3, 1, 3, 0, 0, 0, 0), (.invokevirtual 210, 3, 148, 3, 1, 8, 1174), (.iload 4, 2, 4, 0, 0, 0, 0), (.if_icmp .ne 12, 3, 135, 0, 0, 0, 0), (.lload 5, 2, 5, 0, 0, 0, 0), (.lconst 1, 1, 1, 0, 0, 0, 0), (.iload 7, 2, 7, 0, 0, 0, 0), (.lshl, 1, 0, 0, 0, 0, 0), (.lor, 1, 0, 0, 0, 0, 0), (.lstore 5, 2, 5, 0, 0, 0, 0)]
def cX8_rings_135 : oh_C := [(.iinc 7 1, 3, 7, 1, 0, 0, 0), (.goto (-56), 3, 82, 0, 0, 0, 0)]
def cX8_rings_141 : oh_C := [(.aload_n 0, 1, 0, 0, 0, 0, 0), (.lload 5, 2, 5, 0, 0, 0, 0), (.lconst 0, 1, 0, 0, 0, 0, 0), (.lcmp, 1, 0, 0, 0, 0, 0), (.ifCond .ne 10, 3, 156, 0, 0, 0, 0), (.aload_n 0, 1, 0, 0, 0, 0, 0), (.getfield 165, 3, 8, 3, 0, 0, 903), (.goto 5, 3, 158, 0, 0, 0, 0)]
def cX8_rings_156 : oh_C := [(.lload 5, 2, 5, 0, 0, 0, 0)]
def cX8_rings_158 : oh_C := [(.putfield 165, 3, 8, 3, 0, 0, 903), (.iconst 0, 1, 0, 0, 0, 0, 0), (.istore 7, 2, 7, 0, 0, 0, 0)]
def cX8_rings_164 : oh_C := [(.iload 7, 2, 7, 0, 0, 0, 0), (.aload_n 0, 1, 0, 0, 0, 0, 0), (.getfield 7, 3, 8, 0, 0, 0, 900), (.iconst 0, 1, 0, 0, 0, 0, 0), (.iaload, 1, 0, 0, 0, 0, 0), (.if_icmp .ge 51, 3, 223, 0, 0, 0, 0), (.iload_n 3, 1, 3, 0, 0, 0, 0), (.iload 7, 2, 7, 0, 0, 0, 0), (.ishr, 1, 0, 0, 0, 0, 0), (.iconst 1, 1, 1, 0, 0, 0, 0), (.iand, 1, 0, 0, 0, 0, 0), (.iconst 1, 1, 1, 0, 0, 0, 0), (.if_icmp .ne 35, 3, 217, 0, 0, 0, 0), (.aload_n 0, 1, 0, 0, 0, 0, 0), (.iload 7, 2, 7, 0, 0, 0, 0), (.iload 4, 2, 4, 0, 0, 0, 0), (.iload 7, 2, 7, 0, 0, 0, 0), (.ishr, 1, 0, 0, 0, 0, 0), (.iconst 1, 1, 1, 0, 0, 0, 0), (.iand, 1, 0, 0, 0, 0, 0), (.aload_n 0, 1, 0, 0, 0, 0, 0), (.iload 7, 2, 7, 0, 0, 0, 0), (.iconst 2, 1, 2, 0, 0, 0, 0), (.invokevirtual 138, 3, 110, 3, 1, 8, 1063), (.if_icmp .ne 7, 3, 209, 0, 0, 0, 0), (.iconst 1, 1, 1, 0, 0, 0, 0), (.goto 4, 3, 210, 0, 0, 0, 0)]
def cX8_rings_209 : oh_C := [(.iconst 0, 1, 0, 0, 0, 0, 0)]
def cX8_rings_210 : oh_C := [(.iload_n 3, 1, 3, 0, 0, 0, 0), (.invokestatic 191, 3, 136, 1, 1, 0, 1111), (.invokevirtual 216, 3, 152, 4, 0, 8, 1187)]
def cX8_rings_217 : oh_C := [(.iinc 7 1, 3, 7, 1, 0, 0, 0), (.goto (-56), 3, 164, 0, 0, 0, 0)]
def cX8_rings_223 : oh_C := [(.aload_n 0, 1, 0, 0, 0, 0, 0), (.getfield 7, 3, 8, 0, 0, 0, 900), (.iconst 3, 1, 3, 0, 0, 0, 0), (.dup2, 1, 0, 0, 0, 0, 0), (.iaload, 1, 0, 0, 0, 0, 0), (.iload_n 3, 1, 3, 0, 0, 0, 0), (.ior, 1, 0, 0, 0, 0, 0), (.iastore, 1, 0, 0, 0, 0, 0), (.aload_n 0, 1, 0, 0, 0, 0, 0), (.getfield 7, 3, 8, 0, 0, 0, 900), (.iconst 2, 1, 2, 0, 0, 0, 0), (.dup2, 1, 0, 0, 0, 0, 0), (.iaload, 1, 0, 0, 0, 0, 0), (.iconst 1, 1, 1, 0, 0, 0, 0), (.iadd, 1, 0, 0, 0, 0, 0), (.iastore, 1, 0, 0, 0, 0, 0), (.return_, 1, 0, 0, 0, 0, 0)]
def tX8_rings : oh_T := [(0, none, cX8_rings_0), (26, some [true, true, false, true, true, true, false, false], cX8_rings_26), (70, none, cX8_rings_70), (76, none, cX8_rings_76), (82, some [true, false, false, true, true, true, false, true], cX8_rings_82), (135, none, cX8_rings_135), (141, none, cX8_rings_141), (156, none, cX8_rings_156), (158, none, cX8_rings_158), (164, some [true, false, false, true, true, false, false, true], cX8_rings_164), (209, none, cX8_rings_209), (210, none, cX8_rings_210), (217, none, cX8_rings_217), (223, none, cX8_rings_223)]
def cX8_goesOn_0 : oh_C := [(.iconst 0, 1, 0, 0, 0, 0, 0), (.istore_n 3, 1, 3, 0, 0, 0, 0)]
def cX8_goesOn_2 : oh_C := [(.iload_n 3, 1, 3, 0, 0, 0, 0), (.iload_n 1, 1, 1, 0, 0, 0, 0), (.if_icmp .ge 14, 3, 18, 0, 0, 0, 0), (.aload_n 0, 1, 0, 0, 0, 0, 0), (.iload_n 2, 1, 2, 0, 0, 0, 0), (.invokevirtual 220, 3, 153, 2, 0, 8, 1138), (.iinc 3 1, 3, 3, 1, 0, 0, 0), (.goto (-13), 3, 2, 0, 0, 0, 0)]
def cX8_goesOn_18 : oh_C := [(.return_, 1, 0, 0, 0, 0, 0)]
def tX8_goesOn : oh_T := [(0, none, cX8_goesOn_0), (2, some [true, true, true, true], cX8_goesOn_2), (18, none, cX8_goesOn_18)]
def cX8_rung_0 : oh_C := [(.iload_n 1, 1, 1, 0, 0, 0, 0), (.i2l, 1, 0, 0, 0, 0, 0), (.lconst 1, 1, 1, 0, 0, 0, 0), (.ldc2_w 224, 3, 30, 0, 0, 0, 1133), (.invokestatic 53, 3, 106, 3, 1, 0, 984), (.ifCond .ne 9, 3, 18, 0, 0, 0, 0), (.aload_n 0, 1, 0, 0, 0, 0, 0), (.iconst 1, 1, 1, 0, 0, 0, 0), (.invokevirtual 116, 3, 105, 2, 1, 8, 987), (.ireturn, 1, 0, 0, 0, 0, 0)]
def cX8_rung_18 : oh_C := [(.aload_n 0, 1, 0, 0, 0, 0, 0), (.invokevirtual 134, 3, 113, 1, 1, 8, 1059), (.ifCond .eq 16, 3, 38, 0, 0, 0, 0), (.aload_n 0, 1, 0, 0, 0, 0, 0), (.getfield 7, 3, 8, 0, 0, 0, 900), (.iconst 2, 1, 2, 0, 0, 0, 0), (.iaload, 1, 0, 0, 0, 0, 0), (.iload_n 1, 1, 1, 0, 0, 0, 0), (.iadd, 1, 0, 0, 0, 0, 0), (.bipush 99, 2, 99, 0, 0, 0, 0), (.if_icmp .le 9, 3, 44, 0, 0, 0, 0)]
def cX8_rung_38 : oh_C := [(.aload_n 0, 1, 0, 0, 0, 0, 0), (.iconst 3, 1, 3, 0, 0, 0, 0), (.invokevirtual 116, 3, 105, 2, 1, 8, 987), (.ireturn, 1, 0, 0, 0, 0, 0)]
def cX8_rung_44 : oh_C := [(.aload_n 0, 1, 0, 0, 0, 0, 0), (.iload_n 1, 1, 1, 0, 0, 0, 0), (.iload_n 2, 1, 2, 0, 0, 0, 0), (.invokevirtual 226, 3, 154, 3, 0, 8, 1134), (.aload_n 0, 1, 0, 0, 0, 0, 0), (.getfield 7, 3, 8, 0, 0, 0, 900), (.iconst 3, 1, 3, 0, 0, 0, 0), (.iaload, 1, 0, 0, 0, 0, 0), (.ireturn, 1, 0, 0, 0, 0, 0)]
def tX8_rung : oh_T := [(0, none, cX8_rung_0), (18, none, cX8_rung_18), (38, none, cX8_rung_38), (44, none, cX8_rung_44)]
def cX8_bells_0 : oh_C := [(.aload_n 0, 1, 0, 0, 0, 0, 0), (.iload_n 1, 1, 1, 0, 0, 0, 0), (.iconst 0, 1, 0, 0, 0, 0, 0), (.invokevirtual 230, 3, 155, 3, 1, 8, 1129), (.ireturn, 1, 0, 0, 0, 0, 0)]
def tX8_bells : oh_T := [(0, none, cX8_bells_0)]
def cX8_loose_0 : oh_C := [(.aload_n 0, 1, 0, 0, 0, 0, 0), (.iload_n 1, 1, 1, 0, 0, 0, 0), (.iconst 1, 1, 1, 0, 0, 0, 0), (.invokevirtual 230, 3, 155, 3, 1, 8, 1129), (.ireturn, 1, 0, 0, 0, 0, 0)]
def tX8_loose : oh_T := [(0, none, cX8_loose_0)]
def cX8_why_0 : oh_C := [(.iload_n 1, 1, 1, 0, 0, 0, 0), (.ifCond .ne 7, 3, 8, 0, 0, 0, 0), (.iconst 1, 1, 1, 0, 0, 0, 0), (.goto 15, 3, 20, 0, 0, 0, 0)]
def cX8_why_8 : oh_C := [(.aload_n 0, 1, 0, 0, 0, 0, 0), (.invokevirtual 134, 3, 113, 1, 1, 8, 1059), (.ifCond .ne 7, 3, 19, 0, 0, 0, 0), (.iconst 3, 1, 3, 0, 0, 0, 0), (.goto 4, 3, 20, 0, 0, 0, 0)]
def cX8_why_19 : oh_C := [(.iconst 0, 1, 0, 0, 0, 0, 0)]
def cX8_why_20 : oh_C := [(.ireturn, 1, 0, 0, 0, 0, 0)]
def tX8_why : oh_T := [(0, none, cX8_why_0), (8, none, cX8_why_8), (19, none, cX8_why_19), (20, none, cX8_why_20)]
def cX8_possible_0 : oh_C := [(.aload_n 0, 1, 0, 0, 0, 0, 0), (.iload_n 1, 1, 1, 0, 0, 0, 0), (.i2l, 1, 0, 0, 0, 0, 0), (.lconst 0, 1, 0, 0, 0, 0, 0), (.aload_n 0, 1, 0, 0, 0, 0, 0), (.invokevirtual 155, 3, 112, 1, 1, 8, 1086), (.i2l, 1, 0, 0, 0, 0, 0), (.invokestatic 53, 3, 106, 3, 1, 0, 984), (.invokevirtual 234, 3, 158, 2, 1, 8, 1201), (.istore_n 2, 1, 2, 0, 0, 0, 0), (.iload_n 2, 1, 2, 0, 0, 0, 0), (.ifCond .eq 11, 3, 28, 0, 0, 0, 0), (.aload_n 0, 1, 0, 0, 0, 0, 0), (.iload_n 2, 1, 2, 0, 0, 0, 0), (.invokevirtual 116, 3, 105, 2, 1, 8, 987), (.goto 16, 3, 41, 0, 0, 0, 0)]
def cX8_possible_28 : oh_C := [(.aload_n 0, 1, 0, 0, 0, 0, 0), (.iload_n 1, 1, 1, 0, 0, 0, 0), (.invokevirtual 169, 3, 138, 2, 1, 8, 1146), (.ifCond .eq 7, 3, 40, 0, 0, 0, 0), (.iconst 1, 1, 1, 0, 0, 0, 0), (.goto 4, 3, 41, 0, 0, 0, 0)]
def cX8_possible_40 : oh_C := [(.iconst 0, 1, 0, 0, 0, 0, 0)]
def cX8_possible_41 : oh_C := [(.ireturn, 1, 0, 0, 0, 0, 0)]
def tX8_possible : oh_T := [(0, none, cX8_possible_0), (28, none, cX8_possible_28), (40, none, cX8_possible_40), (41, none, cX8_possible_41)]
def cX8_thinks_0 : oh_C := [(.aload_n 0, 1, 0, 0, 0, 0, 0), (.aload_n 0, 1, 0, 0, 0, 0, 0), (.iload_n 1, 1, 1, 0, 0, 0, 0), (.invokevirtual 146, 3, 109, 2, 1, 8, 1075), (.ifCond .eq 19, 3, 25, 0, 0, 0, 0), (.iload_n 2, 1, 2, 0, 0, 0, 0), (.i2l, 1, 0, 0, 0, 0, 0), (.lconst 0, 1, 0, 0, 0, 0, 0), (.ldc2_w 149, 3, 4, 0, 0, 0, 1079), (.invokestatic 53, 3, 106, 3, 1, 0, 984), (.ifCond .eq 7, 3, 25, 0, 0, 0, 0), (.iconst 1, 1, 1, 0, 0, 0, 0), (.goto 4, 3, 26, 0, 0, 0, 0)]
def cX8_thinks_25 : oh_C := [(.iconst 0, 1, 0, 0, 0, 0, 0)]
def cX8_thinks_26 : oh_C := [(.invokevirtual 234, 3, 158, 2, 1, 8, 1201), (.istore_n 3, 1, 3, 0, 0, 0, 0), (.iload_n 3, 1, 3, 0, 0, 0, 0), (.ifCond .eq 9, 3, 40, 0, 0, 0, 0), (.aload_n 0, 1, 0, 0, 0, 0, 0), (.iload_n 3, 1, 3, 0, 0, 0, 0), (.invokevirtual 116, 3, 105, 2, 1, 8, 987), (.ireturn, 1, 0, 0, 0, 0, 0)]
def cX8_thinks_40 : oh_C := [(.aload_n 0, 1, 0, 0, 0, 0, 0), (.invokevirtual 204, 3, 140, 1, 0, 8, 1142), (.aload_n 0, 1, 0, 0, 0, 0, 0), (.invokevirtual 194, 3, 139, 1, 1, 8, 1114), (.istore 4, 2, 4, 0, 0, 0, 0), (.iload_n 2, 1, 2, 0, 0, 0, 0), (.tableswitch 69 0 3 #[29, 37, 45, 61], 29, 0, 0, 0, 0, 0)]
def cX8_thinks_80 : oh_C := [(.aload_n 0, 1, 0, 0, 0, 0, 0), (.iload_n 1, 1, 1, 0, 0, 0, 0), (.iload 4, 2, 4, 0, 0, 0, 0), (.invokevirtual 172, 3, 141, 3, 1, 8, 1166), (.ireturn, 1, 0, 0, 0, 0, 0)]
def cX8_thinks_88 : oh_C := [(.aload_n 0, 1, 0, 0, 0, 0, 0), (.iload_n 1, 1, 1, 0, 0, 0, 0), (.iload 4, 2, 4, 0, 0, 0, 0), (.invokevirtual 175, 3, 142, 3, 1, 8, 1170), (.ireturn, 1, 0, 0, 0, 0, 0)]
def cX8_thinks_96 : oh_C := [(.aload_n 0, 1, 0, 0, 0, 0, 0), (.iload_n 1, 1, 1, 0, 0, 0, 0), (.iload 4, 2, 4, 0, 0, 0, 0), (.invokevirtual 178, 3, 143, 3, 1, 8, 1162), (.ifCond .eq 7, 3, 110, 0, 0, 0, 0), (.iconst 1, 1, 1, 0, 0, 0, 0), (.goto 4, 3, 111, 0, 0, 0, 0)]
def cX8_thinks_110 : oh_C := [(.iconst 0, 1, 0, 0, 0, 0, 0)]
def cX8_thinks_111 : oh_C := [(.ireturn, 1, 0, 0, 0, 0, 0)]
def cX8_thinks_112 : oh_C := [(.aload_n 0, 1, 0, 0, 0, 0, 0), (.iload_n 1, 1, 1, 0, 0, 0, 0), (.iload 4, 2, 4, 0, 0, 0, 0), (.invokevirtual 188, 3, 144, 3, 1, 8, 1178), (.ireturn, 1, 0, 0, 0, 0, 0)]
def cX8_thinks_120 : oh_C := [(.aload_n 0, 1, 0, 0, 0, 0, 0), (.iload_n 1, 1, 1, 0, 0, 0, 0), (.iload 4, 2, 4, 0, 0, 0, 0), (.invokevirtual 185, 3, 146, 3, 1, 8, 1154), (.ifCond .eq 7, 3, 134, 0, 0, 0, 0), (.iconst 1, 1, 1, 0, 0, 0, 0), (.goto 4, 3, 135, 0, 0, 0, 0)]
def cX8_thinks_134 : oh_C := [(.iconst 0, 1, 0, 0, 0, 0, 0)]
def cX8_thinks_135 : oh_C := [(.ireturn, 1, 0, 0, 0, 0, 0)]
def tX8_thinks : oh_T := [(0, none, cX8_thinks_0), (25, none, cX8_thinks_25), (26, none, cX8_thinks_26), (40, none, cX8_thinks_40), (80, none, cX8_thinks_80), (88, none, cX8_thinks_88), (96, none, cX8_thinks_96), (110, none, cX8_thinks_110), (111, none, cX8_thinks_111), (112, none, cX8_thinks_112), (120, none, cX8_thinks_120), (134, none, cX8_thinks_134), (135, none, cX8_thinks_135)]
def cX8_begins_0 : oh_C := [(.aload_n 0, 1, 0, 0, 0, 0, 0), (.getfield 7, 3, 8, 0, 0, 0, 900), (.aload_n 0, 1, 0, 0, 0, 0, 0), (.getfield 13, 3, 8, 1, 0, 0, 901), (.invokestatic 238, 3, 108, 2, 0, 0, 1217), (.aload_n 0, 1, 0, 0, 0, 0, 0), (.aload_n 0, 1, 0, 0, 0, 0, 0), (.getfield 165, 3, 8, 3, 0, 0, 903), (.putfield 242, 3, 8, 4, 0, 0, 904), (.return_, 1, 0, 0, 0, 0, 0)]
def tX8_begins : oh_T := [(0, none, cX8_begins_0)]
def cX8_ends_0 : oh_C := [(.aload_n 0, 1, 0, 0, 0, 0, 0), (.getfield 13, 3, 8, 1, 0, 0, 901), (.aload_n 0, 1, 0, 0, 0, 0, 0), (.getfield 7, 3, 8, 0, 0, 0, 900), (.invokestatic 238, 3, 108, 2, 0, 0, 1217), (.aload_n 0, 1, 0, 0, 0, 0, 0), (.aload_n 0, 1, 0, 0, 0, 0, 0), (.getfield 242, 3, 8, 4, 0, 0, 904), (.putfield 165, 3, 8, 3, 0, 0, 903), (.return_, 1, 0, 0, 0, 0, 0)]
def tX8_ends : oh_T := [(0, none, cX8_ends_0)]
def cX8_then_0 : oh_C := [(.aload_n 0, 1, 0, 0, 0, 0, 0), (.iload_n 1, 1, 1, 0, 0, 0, 0), (.i2l, 1, 0, 0, 0, 0, 0), (.lconst 0, 1, 0, 0, 0, 0, 0), (.ldc2_w 224, 3, 30, 0, 0, 0, 1133), (.invokestatic 53, 3, 106, 3, 1, 0, 984), (.ifCond .eq 17, 3, 27, 0, 0, 0, 0), (.iload_n 2, 1, 2, 0, 0, 0, 0), (.i2l, 1, 0, 0, 0, 0, 0), (.lconst 0, 1, 0, 0, 0, 0, 0), (.lconst 1, 1, 1, 0, 0, 0, 0), (.invokestatic 53, 3, 106, 3, 1, 0, 984), (.ifCond .eq 7, 3, 27, 0, 0, 0, 0), (.iconst 1, 1, 1, 0, 0, 0, 0), (.goto 4, 3, 28, 0, 0, 0, 0)]
def cX8_then_27 : oh_C := [(.iconst 0, 1, 0, 0, 0, 0, 0)]
def cX8_then_28 : oh_C := [(.invokevirtual 234, 3, 158, 2, 1, 8, 1201), (.istore_n 3, 1, 3, 0, 0, 0, 0), (.iload_n 3, 1, 3, 0, 0, 0, 0), (.ifCond .eq 9, 3, 42, 0, 0, 0, 0), (.aload_n 0, 1, 0, 0, 0, 0, 0), (.iload_n 3, 1, 3, 0, 0, 0, 0), (.invokevirtual 116, 3, 105, 2, 1, 8, 987), (.ireturn, 1, 0, 0, 0, 0, 0)]
def cX8_then_42 : oh_C := [(.aload_n 0, 1, 0, 0, 0, 0, 0), (.invokevirtual 245, 3, 161, 1, 0, 8, 1213), (.aload_n 0, 1, 0, 0, 0, 0, 0), (.iload_n 1, 1, 1, 0, 0, 0, 0), (.iconst 0, 1, 0, 0, 0, 0, 0), (.invokevirtual 226, 3, 154, 3, 0, 8, 1134), (.iload_n 2, 1, 2, 0, 0, 0, 0), (.ifCond .ne 12, 3, 65, 0, 0, 0, 0), (.aload_n 0, 1, 0, 0, 0, 0, 0), (.getfield 7, 3, 8, 0, 0, 0, 900), (.iconst 3, 1, 3, 0, 0, 0, 0), (.iaload, 1, 0, 0, 0, 0, 0), (.goto 10, 3, 72, 0, 0, 0, 0)]
def cX8_then_65 : oh_C := [(.aload_n 0, 1, 0, 0, 0, 0, 0), (.getfield 165, 3, 8, 3, 0, 0, 903), (.invokestatic 197, 3, 137, 1, 1, 0, 1118)]
def cX8_then_72 : oh_C := [(.istore 4, 2, 4, 0, 0, 0, 0), (.aload_n 0, 1, 0, 0, 0, 0, 0), (.invokevirtual 248, 3, 162, 1, 0, 8, 1220), (.iload 4, 2, 4, 0, 0, 0, 0), (.ireturn, 1, 0, 0, 0, 0, 0)]
def tX8_then : oh_T := [(0, none, cX8_then_0), (27, none, cX8_then_27), (28, none, cX8_then_28), (42, none, cX8_then_42), (65, none, cX8_then_65), (72, none, cX8_then_72)]
def cX8_thenPaid_0 : oh_C := [(.aload_n 0, 1, 0, 0, 0, 0, 0), (.iload_n 1, 1, 1, 0, 0, 0, 0), (.i2l, 1, 0, 0, 0, 0, 0), (.lconst 0, 1, 0, 0, 0, 0, 0), (.ldc2_w 224, 3, 30, 0, 0, 0, 1133), (.invokestatic 53, 3, 106, 3, 1, 0, 984), (.ifCond .eq 15, 3, 25, 0, 0, 0, 0), (.aload_n 0, 1, 0, 0, 0, 0, 0), (.iload_n 2, 1, 2, 0, 0, 0, 0), (.invokevirtual 146, 3, 109, 2, 1, 8, 1075), (.ifCond .eq 7, 3, 25, 0, 0, 0, 0), (.iconst 1, 1, 1, 0, 0, 0, 0), (.goto 4, 3, 26, 0, 0, 0, 0)]
def cX8_thenPaid_25 : oh_C := [(.iconst 0, 1, 0, 0, 0, 0, 0)]
def cX8_thenPaid_26 : oh_C := [(.invokevirtual 234, 3, 158, 2, 1, 8, 1201), (.istore_n 3, 1, 3, 0, 0, 0, 0), (.iload_n 3, 1, 3, 0, 0, 0, 0), (.ifCond .eq 9, 3, 40, 0, 0, 0, 0), (.aload_n 0, 1, 0, 0, 0, 0, 0), (.iload_n 3, 1, 3, 0, 0, 0, 0), (.invokevirtual 116, 3, 105, 2, 1, 8, 987), (.ireturn, 1, 0, 0, 0, 0, 0)]
def cX8_thenPaid_40 : oh_C := [(.aload_n 0, 1, 0, 0, 0, 0, 0), (.invokevirtual 245, 3, 161, 1, 0, 8, 1213), (.aload_n 0, 1, 0, 0, 0, 0, 0), (.iload_n 1, 1, 1, 0, 0, 0, 0), (.iconst 0, 1, 0, 0, 0, 0, 0), (.invokevirtual 226, 3, 154, 3, 0, 8, 1134), (.aload_n 0, 1, 0, 0, 0, 0, 0), (.iload_n 2, 1, 2, 0, 0, 0, 0), (.iconst 4, 1, 4, 0, 0, 0, 0), (.invokevirtual 138, 3, 110, 3, 1, 8, 1063), (.istore 4, 2, 4, 0, 0, 0, 0), (.aload_n 0, 1, 0, 0, 0, 0, 0), (.invokevirtual 248, 3, 162, 1, 0, 8, 1220), (.iload 4, 2, 4, 0, 0, 0, 0), (.ireturn, 1, 0, 0, 0, 0, 0)]
def tX8_thenPaid : oh_T := [(0, none, cX8_thenPaid_0), (25, none, cX8_thenPaid_25), (26, none, cX8_thenPaid_26), (40, none, cX8_thenPaid_40)]
def cX8_soonest_0 : oh_C := [(.iconst 0, 1, 0, 0, 0, 0, 0), (.istore_n 2, 1, 2, 0, 0, 0, 0)]
def cX8_soonest_2 : oh_C := [(.iload_n 2, 1, 2, 0, 0, 0, 0), (.bipush 30, 2, 30, 0, 0, 0, 0), (.if_icmp .gt 30, 3, 35, 0, 0, 0, 0), (.aload_n 0, 1, 0, 0, 0, 0, 0), (.getfield 7, 3, 8, 0, 0, 0, 900), (.iconst 3, 1, 3, 0, 0, 0, 0), (.iaload, 1, 0, 0, 0, 0, 0), (.iload_n 1, 1, 1, 0, 0, 0, 0), (.ishr, 1, 0, 0, 0, 0, 0), (.iconst 1, 1, 1, 0, 0, 0, 0), (.iand, 1, 0, 0, 0, 0, 0), (.iconst 1, 1, 1, 0, 0, 0, 0), (.if_icmp .ne 5, 3, 24, 0, 0, 0, 0), (.iload_n 2, 1, 2, 0, 0, 0, 0), (.ireturn, 1, 0, 0, 0, 0, 0)]
def cX8_soonest_24 : oh_C := [(.aload_n 0, 1, 0, 0, 0, 0, 0), (.iconst 0, 1, 0, 0, 0, 0, 0), (.invokevirtual 220, 3, 153, 2, 0, 8, 1138), (.iinc 2 1, 3, 2, 1, 0, 0, 0), (.goto (-30), 3, 2, 0, 0, 0, 0)]
def cX8_soonest_35 : oh_C := [(.iconst (-1), 1, 1, 1, 0, 0, 0), (.ireturn, 1, 0, 0, 0, 0, 0)]
def tX8_soonest : oh_T := [(0, none, cX8_soonest_0), (2, some [true, true, true], cX8_soonest_2), (24, none, cX8_soonest_24), (35, none, cX8_soonest_35)]
def cX8_when_0 : oh_C := [(.aload_n 0, 1, 0, 0, 0, 0, 0), (.aload_n 0, 1, 0, 0, 0, 0, 0), (.iload_n 1, 1, 1, 0, 0, 0, 0), (.invokevirtual 146, 3, 109, 2, 1, 8, 1075), (.invokevirtual 234, 3, 158, 2, 1, 8, 1201), (.istore_n 2, 1, 2, 0, 0, 0, 0), (.iload_n 2, 1, 2, 0, 0, 0, 0), (.ifCond .eq 9, 3, 20, 0, 0, 0, 0), (.aload_n 0, 1, 0, 0, 0, 0, 0), (.iload_n 2, 1, 2, 0, 0, 0, 0), (.invokevirtual 116, 3, 105, 2, 1, 8, 987), (.ireturn, 1, 0, 0, 0, 0, 0)]
def cX8_when_20 : oh_C := [(.aload_n 0, 1, 0, 0, 0, 0, 0), (.invokevirtual 245, 3, 161, 1, 0, 8, 1213), (.aload_n 0, 1, 0, 0, 0, 0, 0), (.iload_n 1, 1, 1, 0, 0, 0, 0), (.invokevirtual 251, 3, 165, 2, 1, 8, 1232), (.istore_n 3, 1, 3, 0, 0, 0, 0), (.aload_n 0, 1, 0, 0, 0, 0, 0), (.invokevirtual 248, 3, 162, 1, 0, 8, 1220), (.iload_n 3, 1, 3, 0, 0, 0, 0), (.ifCond .ge 11, 3, 46, 0, 0, 0, 0), (.aload_n 0, 1, 0, 0, 0, 0, 0), (.iconst 2, 1, 2, 0, 0, 0, 0), (.invokevirtual 116, 3, 105, 2, 1, 8, 987), (.goto 4, 3, 47, 0, 0, 0, 0)]
def cX8_when_46 : oh_C := [(.iload_n 3, 1, 3, 0, 0, 0, 0)]
def cX8_when_47 : oh_C := [(.ireturn, 1, 0, 0, 0, 0, 0)]
def tX8_when : oh_T := [(0, none, cX8_when_0), (20, none, cX8_when_20), (46, none, cX8_when_46), (47, none, cX8_when_47)]
def cX8_othersBy_0 : oh_C := [(.aload_n 0, 1, 0, 0, 0, 0, 0), (.iload_n 2, 1, 2, 0, 0, 0, 0), (.iconst 0, 1, 0, 0, 0, 0, 0), (.invokevirtual 226, 3, 154, 3, 0, 8, 1134), (.aload_n 0, 1, 0, 0, 0, 0, 0), (.getfield 7, 3, 8, 0, 0, 0, 900), (.iconst 3, 1, 3, 0, 0, 0, 0), (.iaload, 1, 0, 0, 0, 0, 0), (.iconst 1, 1, 1, 0, 0, 0, 0), (.iload_n 1, 1, 1, 0, 0, 0, 0), (.ishl, 1, 0, 0, 0, 0, 0), (.iconst (-1), 1, 1, 1, 0, 0, 0), (.ixor, 1, 0, 0, 0, 0, 0), (.iand, 1, 0, 0, 0, 0, 0), (.invokestatic 191, 3, 136, 1, 1, 0, 1111), (.ireturn, 1, 0, 0, 0, 0, 0)]
def tX8_othersBy : oh_T := [(0, none, cX8_othersBy_0)]
def cX8_silence_0 : oh_C := [(.aload_n 0, 1, 0, 0, 0, 0, 0), (.aload_n 0, 1, 0, 0, 0, 0, 0), (.iload_n 1, 1, 1, 0, 0, 0, 0), (.invokevirtual 146, 3, 109, 2, 1, 8, 1075), (.ifCond .eq 19, 3, 25, 0, 0, 0, 0), (.iload_n 2, 1, 2, 0, 0, 0, 0), (.i2l, 1, 0, 0, 0, 0, 0), (.lconst 0, 1, 0, 0, 0, 0, 0), (.ldc2_w 224, 3, 30, 0, 0, 0, 1133), (.invokestatic 53, 3, 106, 3, 1, 0, 984), (.ifCond .eq 7, 3, 25, 0, 0, 0, 0), (.iconst 1, 1, 1, 0, 0, 0, 0), (.goto 4, 3, 26, 0, 0, 0, 0)]
def cX8_silence_25 : oh_C := [(.iconst 0, 1, 0, 0, 0, 0, 0)]
def cX8_silence_26 : oh_C := [(.invokevirtual 234, 3, 158, 2, 1, 8, 1201), (.istore_n 3, 1, 3, 0, 0, 0, 0), (.iload_n 3, 1, 3, 0, 0, 0, 0), (.ifCond .eq 9, 3, 40, 0, 0, 0, 0), (.aload_n 0, 1, 0, 0, 0, 0, 0), (.iload_n 3, 1, 3, 0, 0, 0, 0), (.invokevirtual 116, 3, 105, 2, 1, 8, 987), (.ireturn, 1, 0, 0, 0, 0, 0)]
def cX8_silence_40 : oh_C := [(.aload_n 0, 1, 0, 0, 0, 0, 0), (.invokevirtual 245, 3, 161, 1, 0, 8, 1213), (.aload_n 0, 1, 0, 0, 0, 0, 0), (.iload_n 1, 1, 1, 0, 0, 0, 0), (.iload_n 2, 1, 2, 0, 0, 0, 0), (.invokevirtual 254, 3, 167, 3, 1, 8, 1240), (.istore 4, 2, 4, 0, 0, 0, 0), (.aload_n 0, 1, 0, 0, 0, 0, 0), (.invokevirtual 248, 3, 162, 1, 0, 8, 1220), (.aload_n 0, 1, 0, 0, 0, 0, 0), (.invokevirtual 245, 3, 161, 1, 0, 8, 1213), (.aload_n 0, 1, 0, 0, 0, 0, 0), (.iload_n 1, 1, 1, 0, 0, 0, 0), (.iconst 0, 1, 0, 0, 0, 0, 0), (.iconst 3, 1, 3, 0, 0, 0, 0), (.invokevirtual 142, 3, 111, 4, 0, 8, 1067), (.aload_n 0, 1, 0, 0, 0, 0, 0), (.iload_n 1, 1, 1, 0, 0, 0, 0), (.iload_n 2, 1, 2, 0, 0, 0, 0), (.invokevirtual 254, 3, 167, 3, 1, 8, 1240), (.istore 5, 2, 5, 0, 0, 0, 0), (.aload_n 0, 1, 0, 0, 0, 0, 0), (.invokevirtual 248, 3, 162, 1, 0, 8, 1220), (.iload 4, 2, 4, 0, 0, 0, 0), (.iload 5, 2, 5, 0, 0, 0, 0), (.isub, 1, 0, 0, 0, 0, 0), (.ireturn, 1, 0, 0, 0, 0, 0)]
def tX8_silence : oh_T := [(0, none, cX8_silence_0), (25, none, cX8_silence_25), (26, none, cX8_silence_26), (40, none, cX8_silence_40)]
def cX8_hatsBecome_0 : oh_C := [(.iconst 0, 1, 0, 0, 0, 0, 0), (.istore_n 2, 1, 2, 0, 0, 0, 0)]
def cX8_hatsBecome_2 : oh_C := [(.iload_n 2, 1, 2, 0, 0, 0, 0), (.aload_n 0, 1, 0, 0, 0, 0, 0), (.getfield 7, 3, 8, 0, 0, 0, 900), (.iconst 0, 1, 0, 0, 0, 0, 0), (.iaload, 1, 0, 0, 0, 0, 0), (.if_icmp .ge 20, 3, 29, 0, 0, 0, 0), (.aload_n 0, 1, 0, 0, 0, 0, 0), (.iload_n 2, 1, 2, 0, 0, 0, 0), (.iconst 2, 1, 2, 0, 0, 0, 0), (.iload_n 1, 1, 1, 0, 0, 0, 0), (.iload_n 2, 1, 2, 0, 0, 0, 0), (.ishr, 1, 0, 0, 0, 0, 0), (.iconst 1, 1, 1, 0, 0, 0, 0), (.iand, 1, 0, 0, 0, 0, 0), (.invokevirtual 142, 3, 111, 4, 0, 8, 1067), (.iinc 2 1, 3, 2, 1, 0, 0, 0), (.goto (-24), 3, 2, 0, 0, 0, 0)]
def cX8_hatsBecome_29 : oh_C := [(.return_, 1, 0, 0, 0, 0, 0)]
def tX8_hatsBecome : oh_T := [(0, none, cX8_hatsBecome_0), (2, some [true, true, true], cX8_hatsBecome_2), (29, none, cX8_hatsBecome_29)]
def cX8_trick_0 : oh_C := [(.aload_n 0, 1, 0, 0, 0, 0, 0), (.iload_n 1, 1, 1, 0, 0, 0, 0), (.i2l, 1, 0, 0, 0, 0, 0), (.lconst 0, 1, 0, 0, 0, 0, 0), (.ldc2_w 224, 3, 30, 0, 0, 0, 1133), (.invokestatic 53, 3, 106, 3, 1, 0, 984), (.ifCond .eq 17, 3, 27, 0, 0, 0, 0), (.iload_n 2, 1, 2, 0, 0, 0, 0), (.i2l, 1, 0, 0, 0, 0, 0), (.lconst 0, 1, 0, 0, 0, 0, 0), (.lconst 1, 1, 1, 0, 0, 0, 0), (.invokestatic 53, 3, 106, 3, 1, 0, 984), (.ifCond .eq 7, 3, 27, 0, 0, 0, 0), (.iconst 1, 1, 1, 0, 0, 0, 0), (.goto 4, 3, 28, 0, 0, 0, 0)]
def cX8_trick_27 : oh_C := [(.iconst 0, 1, 0, 0, 0, 0, 0)]
def cX8_trick_28 : oh_C := [(.invokevirtual 234, 3, 158, 2, 1, 8, 1201), (.istore_n 3, 1, 3, 0, 0, 0, 0), (.iload_n 3, 1, 3, 0, 0, 0, 0), (.ifCond .eq 9, 3, 42, 0, 0, 0, 0), (.aload_n 0, 1, 0, 0, 0, 0, 0), (.iload_n 3, 1, 3, 0, 0, 0, 0), (.invokevirtual 116, 3, 105, 2, 1, 8, 987), (.ireturn, 1, 0, 0, 0, 0, 0)]
def cX8_trick_42 : oh_C := [(.iconst (-1), 1, 1, 1, 0, 0, 0), (.istore 4, 2, 4, 0, 0, 0, 0), (.iconst 0, 1, 0, 0, 0, 0, 0), (.istore 5, 2, 5, 0, 0, 0, 0), (.iconst 0, 1, 0, 0, 0, 0, 0), (.istore 6, 2, 6, 0, 0, 0, 0)]
def cX8_trick_51 : oh_C := [(.iload 6, 2, 6, 0, 0, 0, 0), (.iconst 1, 1, 1, 0, 0, 0, 0), (.aload_n 0, 1, 0, 0, 0, 0, 0), (.getfield 7, 3, 8, 0, 0, 0, 900), (.iconst 0, 1, 0, 0, 0, 0, 0), (.iaload, 1, 0, 0, 0, 0, 0), (.ishl, 1, 0, 0, 0, 0, 0), (.if_icmp .ge 69, 3, 130, 0, 0, 0, 0), (.aload_n 0, 1, 0, 0, 0, 0, 0), (.iload 6, 2, 6, 0, 0, 0, 0), (.invokevirtual 169, 3, 138, 2, 1, 8, 1146), (.ifCond .eq 54, 3, 124, 0, 0, 0, 0), (.aload_n 0, 1, 0, 0, 0, 0, 0), (.invokevirtual 245, 3, 161, 1, 0, 8, 1213), (.aload_n 0, 1, 0, 0, 0, 0, 0), (.iload 6, 2, 6, 0, 0, 0, 0), (.invokevirtual 257, 3, 169, 2, 0, 8, 1248), (.aload_n 0, 1, 0, 0, 0, 0, 0), (.iload_n 1, 1, 1, 0, 0, 0, 0), (.iconst 0, 1, 0, 0, 0, 0, 0), (.invokevirtual 226, 3, 154, 3, 0, 8, 1134), (.aload_n 0, 1, 0, 0, 0, 0, 0), (.getfield 7, 3, 8, 0, 0, 0, 900), (.iconst 3, 1, 3, 0, 0, 0, 0), (.iaload, 1, 0, 0, 0, 0, 0), (.invokestatic 191, 3, 136, 1, 1, 0, 1111), (.istore 7, 2, 7, 0, 0, 0, 0), (.aload_n 0, 1, 0, 0, 0, 0, 0), (.invokevirtual 248, 3, 162, 1, 0, 8, 1220), (.iload 4, 2, 4, 0, 0, 0, 0), (.ifCond .lt 10, 3, 116, 0, 0, 0, 0), (.iload 7, 2, 7, 0, 0, 0, 0), (.iload 5, 2, 5, 0, 0, 0, 0), (.if_icmp .ge 11, 3, 124, 0, 0, 0, 0)]
def cX8_trick_116 : oh_C := [(.iload 6, 2, 6, 0, 0, 0, 0), (.istore 4, 2, 4, 0, 0, 0, 0), (.iload 7, 2, 7, 0, 0, 0, 0), (.istore 5, 2, 5, 0, 0, 0, 0)]
def cX8_trick_124 : oh_C := [(.iinc 6 1, 3, 6, 1, 0, 0, 0), (.goto (-76), 3, 51, 0, 0, 0, 0)]
def cX8_trick_130 : oh_C := [(.iload_n 2, 1, 2, 0, 0, 0, 0), (.ifCond .ne 8, 3, 139, 0, 0, 0, 0), (.iload 4, 2, 4, 0, 0, 0, 0), (.goto 5, 3, 141, 0, 0, 0, 0)]
def cX8_trick_139 : oh_C := [(.iload 5, 2, 5, 0, 0, 0, 0)]
def cX8_trick_141 : oh_C := [(.ireturn, 1, 0, 0, 0, 0, 0)]
def tX8_trick : oh_T := [(0, none, cX8_trick_0), (27, none, cX8_trick_27), (28, none, cX8_trick_28), (42, none, cX8_trick_42), (51, some [true, true, true, false, true, true, true, false], cX8_trick_51), (116, none, cX8_trick_116), (124, none, cX8_trick_124), (130, none, cX8_trick_130), (139, none, cX8_trick_139), (141, none, cX8_trick_141)]
def cX8_longest_0 : oh_C := [(.aload_n 0, 1, 0, 0, 0, 0, 0), (.iconst 1, 1, 1, 0, 0, 0, 0), (.invokevirtual 234, 3, 158, 2, 1, 8, 1201), (.istore_n 1, 1, 1, 0, 0, 0, 0), (.iload_n 1, 1, 1, 0, 0, 0, 0), (.ifCond .eq 9, 3, 16, 0, 0, 0, 0), (.aload_n 0, 1, 0, 0, 0, 0, 0), (.iload_n 1, 1, 1, 0, 0, 0, 0), (.invokevirtual 116, 3, 105, 2, 1, 8, 987), (.ireturn, 1, 0, 0, 0, 0, 0)]
def cX8_longest_16 : oh_C := [(.iconst 0, 1, 0, 0, 0, 0, 0), (.istore_n 2, 1, 2, 0, 0, 0, 0), (.iconst 0, 1, 0, 0, 0, 0, 0), (.istore_n 3, 1, 3, 0, 0, 0, 0)]
def cX8_longest_20 : oh_C := [(.iload_n 3, 1, 3, 0, 0, 0, 0), (.iconst 1, 1, 1, 0, 0, 0, 0), (.aload_n 0, 1, 0, 0, 0, 0, 0), (.getfield 7, 3, 8, 0, 0, 0, 900), (.iconst 0, 1, 0, 0, 0, 0, 0), (.iaload, 1, 0, 0, 0, 0, 0), (.ishl, 1, 0, 0, 0, 0, 0), (.if_icmp .ge 83, 3, 112, 0, 0, 0, 0), (.aload_n 0, 1, 0, 0, 0, 0, 0), (.iload_n 3, 1, 3, 0, 0, 0, 0), (.invokevirtual 169, 3, 138, 2, 1, 8, 1146), (.ifCond .eq 69, 3, 106, 0, 0, 0, 0), (.aload_n 0, 1, 0, 0, 0, 0, 0), (.invokevirtual 245, 3, 161, 1, 0, 8, 1213), (.aload_n 0, 1, 0, 0, 0, 0, 0), (.iload_n 3, 1, 3, 0, 0, 0, 0), (.invokevirtual 257, 3, 169, 2, 0, 8, 1248), (.iconst 1, 1, 1, 0, 0, 0, 0), (.istore 4, 2, 4, 0, 0, 0, 0)]
def cX8_longest_52 : oh_C := [(.iload 4, 2, 4, 0, 0, 0, 0), (.bipush 30, 2, 30, 0, 0, 0, 0), (.if_icmp .gt 46, 3, 102, 0, 0, 0, 0), (.aload_n 0, 1, 0, 0, 0, 0, 0), (.getfield 7, 3, 8, 0, 0, 0, 900), (.iconst 3, 1, 3, 0, 0, 0, 0), (.iaload, 1, 0, 0, 0, 0, 0), (.istore 5, 2, 5, 0, 0, 0, 0), (.aload_n 0, 1, 0, 0, 0, 0, 0), (.iconst 0, 1, 0, 0, 0, 0, 0), (.invokevirtual 220, 3, 153, 2, 0, 8, 1138), (.aload_n 0, 1, 0, 0, 0, 0, 0), (.getfield 7, 3, 8, 0, 0, 0, 900), (.iconst 3, 1, 3, 0, 0, 0, 0), (.iaload, 1, 0, 0, 0, 0, 0), (.iload 5, 2, 5, 0, 0, 0, 0), (.if_icmp .eq 14, 3, 94, 0, 0, 0, 0), (.iload 4, 2, 4, 0, 0, 0, 0), (.iload_n 2, 1, 2, 0, 0, 0, 0), (.if_icmp .le 8, 3, 94, 0, 0, 0, 0), (.iload 4, 2, 4, 0, 0, 0, 0), (.goto 4, 3, 95, 0, 0, 0, 0)]
def cX8_longest_94 : oh_C := [(.iload_n 2, 1, 2, 0, 0, 0, 0)]
def cX8_longest_95 : oh_C := [(.istore_n 2, 1, 2, 0, 0, 0, 0), (.iinc 4 1, 3, 4, 1, 0, 0, 0), (.goto (-47), 3, 52, 0, 0, 0, 0)]
def cX8_longest_102 : oh_C := [(.aload_n 0, 1, 0, 0, 0, 0, 0), (.invokevirtual 248, 3, 162, 1, 0, 8, 1220)]
def cX8_longest_106 : oh_C := [(.iinc 3 1, 3, 3, 1, 0, 0, 0), (.goto (-89), 3, 20, 0, 0, 0, 0)]
def cX8_longest_112 : oh_C := [(.iload_n 2, 1, 2, 0, 0, 0, 0), (.ireturn, 1, 0, 0, 0, 0, 0)]
def tX8_longest : oh_T := [(0, none, cX8_longest_0), (16, none, cX8_longest_16), (20, some [true, false, true, true, false, false], cX8_longest_20), (52, some [true, false, true, true, true, false], cX8_longest_52), (94, none, cX8_longest_94), (95, none, cX8_longest_95), (102, none, cX8_longest_102), (106, none, cX8_longest_106), (112, none, cX8_longest_112)]
def cX8_whoKnowBy_0 : oh_C := [(.aload_n 0, 1, 0, 0, 0, 0, 0), (.getfield 165, 3, 8, 3, 0, 0, 903), (.lstore_n 2, 1, 2, 0, 0, 0, 0), (.aload_n 0, 1, 0, 0, 0, 0, 0), (.invokevirtual 194, 3, 139, 1, 1, 8, 1114), (.iload_n 1, 1, 1, 0, 0, 0, 0), (.iand, 1, 0, 0, 0, 0, 0), (.invokestatic 191, 3, 136, 1, 1, 0, 1111), (.iconst 2, 1, 2, 0, 0, 0, 0), (.irem, 1, 0, 0, 0, 0, 0), (.istore 4, 2, 4, 0, 0, 0, 0), (.aload_n 0, 1, 0, 0, 0, 0, 0), (.lconst 0, 1, 0, 0, 0, 0, 0), (.putfield 165, 3, 8, 3, 0, 0, 903), (.iconst 0, 1, 0, 0, 0, 0, 0), (.istore 5, 2, 5, 0, 0, 0, 0)]
def cX8_whoKnowBy_26 : oh_C := [(.iload 5, 2, 5, 0, 0, 0, 0), (.iconst 1, 1, 1, 0, 0, 0, 0), (.aload_n 0, 1, 0, 0, 0, 0, 0), (.getfield 7, 3, 8, 0, 0, 0, 900), (.iconst 0, 1, 0, 0, 0, 0, 0), (.iaload, 1, 0, 0, 0, 0, 0), (.ishl, 1, 0, 0, 0, 0, 0), (.if_icmp .ge 51, 3, 87, 0, 0, 0, 0), (.aload_n 0, 1, 0, 0, 0, 0, 0), (.dup, 1, 0, 0, 0, 0, 0), (.getfield 165, 3, 8, 3, 0, 0, 903), (.lload_n 2, 1, 2, 0, 0, 0, 0), (.iload 5, 2, 5, 0, 0, 0, 0), (.lshr, 1, 0, 0, 0, 0, 0), (.lconst 1, 1, 1, 0, 0, 0, 0), (.land, 1, 0, 0, 0, 0, 0), (.lconst 1, 1, 1, 0, 0, 0, 0), (.lcmp, 1, 0, 0, 0, 0, 0), (.ifCond .ne 24, 3, 76, 0, 0, 0, 0), (.iload 5, 2, 5, 0, 0, 0, 0), (.iload_n 1, 1, 1, 0, 0, 0, 0), (.iand, 1, 0, 0, 0, 0, 0), (.invokestatic 191, 3, 136, 1, 1, 0, 1111), (.iconst 2, 1, 2, 0, 0, 0, 0), (.irem, 1, 0, 0, 0, 0, 0), (.iload 4, 2, 4, 0, 0, 0, 0), (.if_icmp .ne 10, 3, 76, 0, 0, 0, 0), (.lconst 1, 1, 1, 0, 0, 0, 0), (.iload 5, 2, 5, 0, 0, 0, 0), (.lshl, 1, 0, 0, 0, 0, 0), (.goto 4, 3, 77, 0, 0, 0, 0)]
def cX8_whoKnowBy_76 : oh_C := [(.lconst 0, 1, 0, 0, 0, 0, 0)]
def cX8_whoKnowBy_77 : oh_C := [(.lor, 1, 0, 0, 0, 0, 0), (.putfield 165, 3, 8, 3, 0, 0, 903), (.iinc 5 1, 3, 5, 1, 0, 0, 0), (.goto (-58), 3, 26, 0, 0, 0, 0)]
def cX8_whoKnowBy_87 : oh_C := [(.aload_n 0, 1, 0, 0, 0, 0, 0), (.invokevirtual 204, 3, 140, 1, 0, 8, 1142), (.iconst 0, 1, 0, 0, 0, 0, 0), (.istore 5, 2, 5, 0, 0, 0, 0), (.iconst 0, 1, 0, 0, 0, 0, 0), (.istore 6, 2, 6, 0, 0, 0, 0)]
def cX8_whoKnowBy_97 : oh_C := [(.iload 6, 2, 6, 0, 0, 0, 0), (.aload_n 0, 1, 0, 0, 0, 0, 0), (.getfield 7, 3, 8, 0, 0, 0, 900), (.iconst 0, 1, 0, 0, 0, 0, 0), (.iaload, 1, 0, 0, 0, 0, 0), (.if_icmp .ge 32, 3, 137, 0, 0, 0, 0), (.iload 5, 2, 5, 0, 0, 0, 0), (.aload_n 0, 1, 0, 0, 0, 0, 0), (.iload 6, 2, 6, 0, 0, 0, 0), (.aload_n 0, 1, 0, 0, 0, 0, 0), (.invokevirtual 194, 3, 139, 1, 1, 8, 1114), (.invokevirtual 178, 3, 143, 3, 1, 8, 1162), (.ifCond .eq 7, 3, 127, 0, 0, 0, 0), (.iconst 1, 1, 1, 0, 0, 0, 0), (.goto 4, 3, 128, 0, 0, 0, 0)]
def cX8_whoKnowBy_127 : oh_C := [(.iconst 0, 1, 0, 0, 0, 0, 0)]
def cX8_whoKnowBy_128 : oh_C := [(.iadd, 1, 0, 0, 0, 0, 0), (.istore 5, 2, 5, 0, 0, 0, 0), (.iinc 6 1, 3, 6, 1, 0, 0, 0), (.goto (-37), 3, 97, 0, 0, 0, 0)]
def cX8_whoKnowBy_137 : oh_C := [(.aload_n 0, 1, 0, 0, 0, 0, 0), (.lload_n 2, 1, 2, 0, 0, 0, 0), (.putfield 165, 3, 8, 3, 0, 0, 903), (.iload 5, 2, 5, 0, 0, 0, 0), (.ireturn, 1, 0, 0, 0, 0, 0)]
def tX8_whoKnowBy : oh_T := [(0, none, cX8_whoKnowBy_0), (26, some [true, true, true, false, true, true, false], cX8_whoKnowBy_26), (76, none, cX8_whoKnowBy_76), (77, none, cX8_whoKnowBy_77), (87, none, cX8_whoKnowBy_87), (97, some [true, false, true, false, false, true, true], cX8_whoKnowBy_97), (127, none, cX8_whoKnowBy_127), (128, none, cX8_whoKnowBy_128), (137, none, cX8_whoKnowBy_137)]
def cX8_signal_0 : oh_C := [(.aload_n 0, 1, 0, 0, 0, 0, 0), (.aload_n 0, 1, 0, 0, 0, 0, 0), (.iload_n 1, 1, 1, 0, 0, 0, 0), (.invokevirtual 146, 3, 109, 2, 1, 8, 1075), (.ifCond .eq 20, 3, 26, 0, 0, 0, 0), (.iload_n 2, 1, 2, 0, 0, 0, 0), (.aload_n 0, 1, 0, 0, 0, 0, 0), (.iload_n 1, 1, 1, 0, 0, 0, 0), (.iconst 3, 1, 3, 0, 0, 0, 0), (.invokevirtual 138, 3, 110, 3, 1, 8, 1063), (.iconst (-1), 1, 1, 1, 0, 0, 0), (.ixor, 1, 0, 0, 0, 0, 0), (.iand, 1, 0, 0, 0, 0, 0), (.ifCond .ne 7, 3, 26, 0, 0, 0, 0), (.iconst 1, 1, 1, 0, 0, 0, 0), (.goto 4, 3, 27, 0, 0, 0, 0)]
def cX8_signal_26 : oh_C := [(.iconst 0, 1, 0, 0, 0, 0, 0)]
def cX8_signal_27 : oh_C := [(.invokevirtual 234, 3, 158, 2, 1, 8, 1201), (.istore_n 3, 1, 3, 0, 0, 0, 0), (.iload_n 3, 1, 3, 0, 0, 0, 0), (.ifCond .eq 11, 3, 43, 0, 0, 0, 0), (.aload_n 0, 1, 0, 0, 0, 0, 0), (.iload_n 3, 1, 3, 0, 0, 0, 0), (.invokevirtual 116, 3, 105, 2, 1, 8, 987), (.goto 8, 3, 48, 0, 0, 0, 0)]
def cX8_signal_43 : oh_C := [(.aload_n 0, 1, 0, 0, 0, 0, 0), (.iload_n 2, 1, 2, 0, 0, 0, 0), (.invokevirtual 261, 3, 172, 2, 1, 8, 1260)]
def cX8_signal_48 : oh_C := [(.ireturn, 1, 0, 0, 0, 0, 0)]
def tX8_signal : oh_T := [(0, none, cX8_signal_0), (26, none, cX8_signal_26), (27, none, cX8_signal_27), (43, none, cX8_signal_43), (48, none, cX8_signal_48)]
def cX8_bestSignal_0 : oh_C := [(.aload_n 0, 1, 0, 0, 0, 0, 0), (.aload_n 0, 1, 0, 0, 0, 0, 0), (.iload_n 1, 1, 1, 0, 0, 0, 0), (.invokevirtual 146, 3, 109, 2, 1, 8, 1075), (.ifCond .eq 17, 3, 23, 0, 0, 0, 0), (.iload_n 2, 1, 2, 0, 0, 0, 0), (.i2l, 1, 0, 0, 0, 0, 0), (.lconst 0, 1, 0, 0, 0, 0, 0), (.lconst 1, 1, 1, 0, 0, 0, 0), (.invokestatic 53, 3, 106, 3, 1, 0, 984), (.ifCond .eq 7, 3, 23, 0, 0, 0, 0), (.iconst 1, 1, 1, 0, 0, 0, 0), (.goto 4, 3, 24, 0, 0, 0, 0)]
def cX8_bestSignal_23 : oh_C := [(.iconst 0, 1, 0, 0, 0, 0, 0)]
def cX8_bestSignal_24 : oh_C := [(.invokevirtual 234, 3, 158, 2, 1, 8, 1201), (.istore_n 3, 1, 3, 0, 0, 0, 0), (.iload_n 3, 1, 3, 0, 0, 0, 0), (.ifCond .eq 9, 3, 38, 0, 0, 0, 0), (.aload_n 0, 1, 0, 0, 0, 0, 0), (.iload_n 3, 1, 3, 0, 0, 0, 0), (.invokevirtual 116, 3, 105, 2, 1, 8, 987), (.ireturn, 1, 0, 0, 0, 0, 0)]
def cX8_bestSignal_38 : oh_C := [(.iconst 0, 1, 0, 0, 0, 0, 0), (.istore 4, 2, 4, 0, 0, 0, 0), (.iconst (-1), 1, 1, 1, 0, 0, 0), (.istore 5, 2, 5, 0, 0, 0, 0), (.iconst 0, 1, 0, 0, 0, 0, 0), (.istore 6, 2, 6, 0, 0, 0, 0)]
def cX8_bestSignal_47 : oh_C := [(.iload 6, 2, 6, 0, 0, 0, 0), (.aload_n 0, 1, 0, 0, 0, 0, 0), (.invokevirtual 155, 3, 112, 1, 1, 8, 1086), (.if_icmp .gt 63, 3, 116, 0, 0, 0, 0), (.iload 6, 2, 6, 0, 0, 0, 0), (.aload_n 0, 1, 0, 0, 0, 0, 0), (.iload_n 1, 1, 1, 0, 0, 0, 0), (.iconst 3, 1, 3, 0, 0, 0, 0), (.invokevirtual 138, 3, 110, 3, 1, 8, 1063), (.iconst (-1), 1, 1, 1, 0, 0, 0), (.ixor, 1, 0, 0, 0, 0, 0), (.iand, 1, 0, 0, 0, 0, 0), (.ifCond .ne 43, 3, 110, 0, 0, 0, 0), (.aload_n 0, 1, 0, 0, 0, 0, 0), (.iload 6, 2, 6, 0, 0, 0, 0), (.invokevirtual 261, 3, 172, 2, 1, 8, 1260), (.istore 7, 2, 7, 0, 0, 0, 0), (.iload 7, 2, 7, 0, 0, 0, 0), (.iload 5, 2, 5, 0, 0, 0, 0), (.if_icmp .le 8, 3, 90, 0, 0, 0, 0), (.iload 6, 2, 6, 0, 0, 0, 0), (.goto 5, 3, 92, 0, 0, 0, 0)]
def cX8_bestSignal_90 : oh_C := [(.iload 4, 2, 4, 0, 0, 0, 0)]
def cX8_bestSignal_92 : oh_C := [(.istore 4, 2, 4, 0, 0, 0, 0), (.iload 7, 2, 7, 0, 0, 0, 0), (.iload 5, 2, 5, 0, 0, 0, 0), (.if_icmp .le 8, 3, 106, 0, 0, 0, 0), (.iload 7, 2, 7, 0, 0, 0, 0), (.goto 5, 3, 108, 0, 0, 0, 0)]
def cX8_bestSignal_106 : oh_C := [(.iload 5, 2, 5, 0, 0, 0, 0)]
def cX8_bestSignal_108 : oh_C := [(.istore 5, 2, 5, 0, 0, 0, 0)]
def cX8_bestSignal_110 : oh_C := [(.iinc 6 1, 3, 6, 1, 0, 0, 0), (.goto (-66), 3, 47, 0, 0, 0, 0)]
def cX8_bestSignal_116 : oh_C := [(.iload_n 2, 1, 2, 0, 0, 0, 0), (.ifCond .ne 8, 3, 125, 0, 0, 0, 0), (.iload 4, 2, 4, 0, 0, 0, 0), (.goto 5, 3, 127, 0, 0, 0, 0)]
def cX8_bestSignal_125 : oh_C := [(.iload 5, 2, 5, 0, 0, 0, 0)]
def cX8_bestSignal_127 : oh_C := [(.ireturn, 1, 0, 0, 0, 0, 0)]
def tX8_bestSignal : oh_T := [(0, none, cX8_bestSignal_0), (23, none, cX8_bestSignal_23), (24, none, cX8_bestSignal_24), (38, none, cX8_bestSignal_38), (47, some [true, true, true, false, true, true, true, false], cX8_bestSignal_47), (90, none, cX8_bestSignal_90), (92, none, cX8_bestSignal_92), (106, none, cX8_bestSignal_106), (108, none, cX8_bestSignal_108), (110, none, cX8_bestSignal_110), (116, none, cX8_bestSignal_116), (125, none, cX8_bestSignal_125), (127, none, cX8_bestSignal_127)]
def cX8_look_0 : oh_C := [(.aload_n 0, 1, 0, 0, 0, 0, 0), (.aload_n 0, 1, 0, 0, 0, 0, 0), (.iload_n 1, 1, 1, 0, 0, 0, 0), (.invokevirtual 146, 3, 109, 2, 1, 8, 1075), (.invokevirtual 234, 3, 158, 2, 1, 8, 1201), (.istore_n 2, 1, 2, 0, 0, 0, 0), (.iload_n 2, 1, 2, 0, 0, 0, 0), (.ifCond .eq 9, 3, 20, 0, 0, 0, 0), (.aload_n 0, 1, 0, 0, 0, 0, 0), (.iload_n 2, 1, 2, 0, 0, 0, 0), (.invokevirtual 116, 3, 105, 2, 1, 8, 987), (.ireturn, 1, 0, 0, 0, 0, 0)]
def cX8_look_20 : oh_C := [(.iconst (-1), 1, 1, 1, 0, 0, 0), (.istore_n 3, 1, 3, 0, 0, 0, 0), (.iconst 0, 1, 0, 0, 0, 0, 0), (.istore 4, 2, 4, 0, 0, 0, 0), (.iconst 0, 1, 0, 0, 0, 0, 0), (.istore 5, 2, 5, 0, 0, 0, 0)]
def cX8_look_28 : oh_C := [(.iload 5, 2, 5, 0, 0, 0, 0), (.aload_n 0, 1, 0, 0, 0, 0, 0), (.getfield 7, 3, 8, 0, 0, 0, 900), (.iconst 0, 1, 0, 0, 0, 0, 0), (.iaload, 1, 0, 0, 0, 0, 0), (.if_icmp .ge 84, 3, 120, 0, 0, 0, 0), (.iload 5, 2, 5, 0, 0, 0, 0), (.iload_n 1, 1, 1, 0, 0, 0, 0), (.if_icmp .eq 72, 3, 114, 0, 0, 0, 0), (.aload_n 0, 1, 0, 0, 0, 0, 0), (.iload_n 1, 1, 1, 0, 0, 0, 0), (.iconst 3, 1, 3, 0, 0, 0, 0), (.invokevirtual 138, 3, 110, 3, 1, 8, 1063), (.iload 5, 2, 5, 0, 0, 0, 0), (.ishr, 1, 0, 0, 0, 0, 0), (.iconst 1, 1, 1, 0, 0, 0, 0), (.iand, 1, 0, 0, 0, 0, 0), (.ifCond .ne 58, 3, 114, 0, 0, 0, 0), (.aload_n 0, 1, 0, 0, 0, 0, 0), (.invokevirtual 245, 3, 161, 1, 0, 8, 1213), (.aload_n 0, 1, 0, 0, 0, 0, 0), (.iload_n 1, 1, 1, 0, 0, 0, 0), (.iconst 3, 1, 3, 0, 0, 0, 0), (.aload_n 0, 1, 0, 0, 0, 0, 0), (.iload_n 1, 1, 1, 0, 0, 0, 0), (.iconst 3, 1, 3, 0, 0, 0, 0), (.invokevirtual 138, 3, 110, 3, 1, 8, 1063), (.iconst 1, 1, 1, 0, 0, 0, 0), (.iload 5, 2, 5, 0, 0, 0, 0), (.ishl, 1, 0, 0, 0, 0, 0), (.ior, 1, 0, 0, 0, 0, 0), (.invokevirtual 142, 3, 111, 4, 0, 8, 1067), (.aload_n 0, 1, 0, 0, 0, 0, 0), (.iload_n 1, 1, 1, 0, 0, 0, 0), (.invokevirtual 251, 3, 165, 2, 1, 8, 1232), (.istore 6, 2, 6, 0, 0, 0, 0), (.aload_n 0, 1, 0, 0, 0, 0, 0), (.invokevirtual 248, 3, 162, 1, 0, 8, 1220), (.iload 6, 2, 6, 0, 0, 0, 0), (.ifCond .lt 21, 3, 114, 0, 0, 0, 0), (.iload_n 3, 1, 3, 0, 0, 0, 0), (.ifCond .lt 10, 3, 107, 0, 0, 0, 0), (.iload 6, 2, 6, 0, 0, 0, 0), (.iload 4, 2, 4, 0, 0, 0, 0), (.if_icmp .ge 10, 3, 114, 0, 0, 0, 0)]
def cX8_look_107 : oh_C := [(.iload 5, 2, 5, 0, 0, 0, 0), (.istore_n 3, 1, 3, 0, 0, 0, 0), (.iload 6, 2, 6, 0, 0, 0, 0), (.istore 4, 2, 4, 0, 0, 0, 0)]
def cX8_look_114 : oh_C := [(.iinc 5 1, 3, 5, 1, 0, 0, 0), (.goto (-89), 3, 28, 0, 0, 0, 0)]
def cX8_look_120 : oh_C := [(.iload_n 3, 1, 3, 0, 0, 0, 0), (.ifCond .ge 11, 3, 132, 0, 0, 0, 0), (.aload_n 0, 1, 0, 0, 0, 0, 0), (.iconst 2, 1, 2, 0, 0, 0, 0), (.invokevirtual 116, 3, 105, 2, 1, 8, 987), (.goto 4, 3, 133, 0, 0, 0, 0)]
def cX8_look_132 : oh_C := [(.iload_n 3, 1, 3, 0, 0, 0, 0)]
def cX8_look_133 : oh_C := [(.ireturn, 1, 0, 0, 0, 0, 0)]
def tX8_look : oh_T := [(0, none, cX8_look_0), (20, none, cX8_look_20), (28, some [true, true, false, true, true, true, false], cX8_look_28), (107, none, cX8_look_107), (114, none, cX8_look_114), (120, none, cX8_look_120), (132, none, cX8_look_132), (133, none, cX8_look_133)]
def cX8_common_0 : oh_C := [(.iload_n 0, 1, 0, 0, 0, 0, 0), (.istore_n 2, 1, 2, 0, 0, 0, 0), (.iload_n 1, 1, 1, 0, 0, 0, 0), (.istore_n 3, 1, 3, 0, 0, 0, 0)]
def cX8_common_4 : oh_C := [(.iload_n 3, 1, 3, 0, 0, 0, 0), (.ifCond .eq 16, 3, 21, 0, 0, 0, 0), (.iload_n 2, 1, 2, 0, 0, 0, 0), (.iload_n 3, 1, 3, 0, 0, 0, 0), (.irem, 1, 0, 0, 0, 0, 0), (.istore 4, 2, 4, 0, 0, 0, 0), (.iload_n 3, 1, 3, 0, 0, 0, 0), (.istore_n 2, 1, 2, 0, 0, 0, 0), (.iload 4, 2, 4, 0, 0, 0, 0), (.istore_n 3, 1, 3, 0, 0, 0, 0), (.goto (-14), 3, 4, 0, 0, 0, 0)]
def cX8_common_21 : oh_C := [(.iload_n 2, 1, 2, 0, 0, 0, 0), (.ireturn, 1, 0, 0, 0, 0, 0)]
def tX8_common : oh_T := [(0, none, cX8_common_0), (4, some [false, false, true, true, false], cX8_common_4), (21, none, cX8_common_21)]
def cX8_odds_0 : oh_C := [(.aload_n 0, 1, 0, 0, 0, 0, 0), (.aload_n 0, 1, 0, 0, 0, 0, 0), (.iload_n 1, 1, 1, 0, 0, 0, 0), (.invokevirtual 146, 3, 109, 2, 1, 8, 1075), (.ifCond .eq 17, 3, 23, 0, 0, 0, 0), (.iload_n 2, 1, 2, 0, 0, 0, 0), (.i2l, 1, 0, 0, 0, 0, 0), (.lconst 0, 1, 0, 0, 0, 0, 0), (.lconst 1, 1, 1, 0, 0, 0, 0), (.invokestatic 53, 3, 106, 3, 1, 0, 984), (.ifCond .eq 7, 3, 23, 0, 0, 0, 0), (.iconst 1, 1, 1, 0, 0, 0, 0), (.goto 4, 3, 24, 0, 0, 0, 0)]
def cX8_odds_23 : oh_C := [(.iconst 0, 1, 0, 0, 0, 0, 0)]
def cX8_odds_24 : oh_C := [(.invokevirtual 234, 3, 158, 2, 1, 8, 1201), (.istore_n 3, 1, 3, 0, 0, 0, 0), (.iload_n 3, 1, 3, 0, 0, 0, 0), (.ifCond .eq 10, 3, 39, 0, 0, 0, 0), (.aload_n 0, 1, 0, 0, 0, 0, 0), (.iload_n 3, 1, 3, 0, 0, 0, 0), (.invokevirtual 116, 3, 105, 2, 1, 8, 987), (.i2l, 1, 0, 0, 0, 0, 0), (.lreturn, 1, 0, 0, 0, 0, 0)]
def cX8_odds_39 : oh_C := [(.aload_n 0, 1, 0, 0, 0, 0, 0), (.invokevirtual 204, 3, 140, 1, 0, 8, 1142), (.aload_n 0, 1, 0, 0, 0, 0, 0), (.iload_n 1, 1, 1, 0, 0, 0, 0), (.aload_n 0, 1, 0, 0, 0, 0, 0), (.invokevirtual 194, 3, 139, 1, 1, 8, 1114), (.invokevirtual 172, 3, 141, 3, 1, 8, 1166), (.istore 4, 2, 4, 0, 0, 0, 0), (.iload 4, 2, 4, 0, 0, 0, 0), (.aload_n 0, 1, 0, 0, 0, 0, 0), (.iload_n 1, 1, 1, 0, 0, 0, 0), (.aload_n 0, 1, 0, 0, 0, 0, 0), (.invokevirtual 194, 3, 139, 1, 1, 8, 1114), (.invokevirtual 175, 3, 142, 3, 1, 8, 1170), (.iadd, 1, 0, 0, 0, 0, 0), (.istore 5, 2, 5, 0, 0, 0, 0), (.iload 4, 2, 4, 0, 0, 0, 0), (.ifCond .ne 6, 3, 76, 0, 0, 0, 0), (.iload_n 2, 1, 2, 0, 0, 0, 0), (.i2l, 1, 0, 0, 0, 0, 0), (.lreturn, 1, 0, 0, 0, 0, 0)]
def cX8_odds_76 : oh_C := [(.iload_n 2, 1, 2, 0, 0, 0, 0), (.ifCond .ne 8, 3, 85, 0, 0, 0, 0), (.iload 4, 2, 4, 0, 0, 0, 0), (.goto 5, 3, 87, 0, 0, 0, 0)]
def cX8_odds_85 : oh_C := [(.iload 5, 2, 5, 0, 0, 0, 0)]
def cX8_odds_87 : oh_C := [(.iload 4, 2, 4, 0, 0, 0, 0), (.iload 5, 2, 5, 0, 0, 0, 0), (.invokestatic 264, 3, 176, 2, 1, 0, 1276), (.idiv, 1, 0, 0, 0, 0, 0), (.i2l, 1, 0, 0, 0, 0, 0), (.lreturn, 1, 0, 0, 0, 0, 0)]
def tX8_odds : oh_T := [(0, none, cX8_odds_0), (23, none, cX8_odds_23), (24, none, cX8_odds_24), (39, none, cX8_odds_39), (76, none, cX8_odds_76), (85, none, cX8_odds_85), (87, none, cX8_odds_87)]
def cX8_seed_0 : oh_C := [(.aload_n 0, 1, 0, 0, 0, 0, 0), (.getfield 7, 3, 8, 0, 0, 0, 900), (.iconst 5, 1, 5, 0, 0, 0, 0), (.iaload, 1, 0, 0, 0, 0, 0), (.istore_n 2, 1, 2, 0, 0, 0, 0), (.aload_n 0, 1, 0, 0, 0, 0, 0), (.getfield 7, 3, 8, 0, 0, 0, 900), (.iconst 5, 1, 5, 0, 0, 0, 0), (.iload_n 1, 1, 1, 0, 0, 0, 0), (.iastore, 1, 0, 0, 0, 0, 0), (.iload_n 2, 1, 2, 0, 0, 0, 0), (.ireturn, 1, 0, 0, 0, 0, 0)]
def tX8_seed : oh_T := [(0, none, cX8_seed_0)]
def cX8_ran_0 : oh_C := [(.aload_n 0, 1, 0, 0, 0, 0, 0), (.getfield 267, 3, 8, 20, 0, 0, 920), (.bipush 40, 2, 40, 0, 0, 0, 0), (.if_icmp .ge 23, 3, 29, 0, 0, 0, 0), (.aload_n 0, 1, 0, 0, 0, 0, 0), (.getfield 37, 3, 8, 19, 0, 0, 919), (.aload_n 0, 1, 0, 0, 0, 0, 0), (.getfield 267, 3, 8, 20, 0, 0, 920), (.iload_n 1, 1, 1, 0, 0, 0, 0), (.iastore, 1, 0, 0, 0, 0, 0), (.aload_n 0, 1, 0, 0, 0, 0, 0), (.dup, 1, 0, 0, 0, 0, 0), (.getfield 267, 3, 8, 20, 0, 0, 920), (.iconst 1, 1, 1, 0, 0, 0, 0), (.iadd, 1, 0, 0, 0, 0, 0), (.putfield 267, 3, 8, 20, 0, 0, 920)]
def cX8_ran_29 : oh_C := [(.return_, 1, 0, 0, 0, 0, 0)]
def tX8_ran : oh_T := [(0, none, cX8_ran_0), (29, none, cX8_ran_29)]
def cX8_own_0 : oh_C := [(.aload_n 0, 1, 0, 0, 0, 0, 0), (.aload_n 0, 1, 0, 0, 0, 0, 0), (.getfield 270, 3, 8, 21, 0, 0, 921), (.iconst 0, 1, 0, 0, 0, 0, 0), (.invokevirtual 138, 3, 110, 3, 1, 8, 1063), (.ireturn, 1, 0, 0, 0, 0, 0)]
def tX8_own : oh_T := [(0, none, cX8_own_0)]
def cX8_looks_0 : oh_C := [(.iload_n 1, 1, 1, 0, 0, 0, 0), (.lookupswitch 58 #[(0, 27), (2, 40)], 27, 0, 0, 0, 0, 0)]
def cX8_looks_28 : oh_C := [(.aload_n 0, 1, 0, 0, 0, 0, 0), (.bipush 10, 2, 10, 0, 0, 0, 0), (.invokevirtual 273, 3, 179, 2, 0, 8, 1295), (.iload_n 2, 1, 2, 0, 0, 0, 0), (.aload_n 0, 1, 0, 0, 0, 0, 0), (.getfield 270, 3, 8, 21, 0, 0, 921), (.iadd, 1, 0, 0, 0, 0, 0), (.ireturn, 1, 0, 0, 0, 0, 0)]
def cX8_looks_41 : oh_C := [(.aload_n 0, 1, 0, 0, 0, 0, 0), (.bipush 30, 2, 30, 0, 0, 0, 0), (.invokevirtual 273, 3, 179, 2, 0, 8, 1295), (.aload_n 0, 1, 0, 0, 0, 0, 0), (.iconst 2, 1, 2, 0, 0, 0, 0), (.invokestatic 160, 3, 133, 1, 1, 0, 1099), (.iload_n 2, 1, 2, 0, 0, 0, 0), (.invokevirtual 276, 3, 181, 3, 1, 8, 1291), (.iconst 3, 1, 3, 0, 0, 0, 0), (.imul, 1, 0, 0, 0, 0, 0), (.ireturn, 1, 0, 0, 0, 0, 0)]
def cX8_looks_59 : oh_C := [(.aload_n 0, 1, 0, 0, 0, 0, 0), (.iload_n 1, 1, 1, 0, 0, 0, 0), (.invokestatic 160, 3, 133, 1, 1, 0, 1099), (.iload_n 2, 1, 2, 0, 0, 0, 0), (.invokevirtual 276, 3, 181, 3, 1, 8, 1291), (.ireturn, 1, 0, 0, 0, 0, 0)]
def tX8_looks : oh_T := [(0, none, cX8_looks_0), (28, none, cX8_looks_28), (41, none, cX8_looks_41), (59, none, cX8_looks_59)]
def cX8_thoughts_0 : oh_C := [(.iload_n 1, 1, 1, 0, 0, 0, 0), (.tableswitch 99 0 4 #[35, 53, 99, 99, 81], 35, 0, 0, 0, 0, 0)]
def cX8_thoughts_36 : oh_C := [(.aload_n 0, 1, 0, 0, 0, 0, 0), (.bipush 11, 2, 11, 0, 0, 0, 0), (.invokevirtual 273, 3, 179, 2, 0, 8, 1295), (.aload_n 0, 1, 0, 0, 0, 0, 0), (.aload_n 0, 1, 0, 0, 0, 0, 0), (.invokevirtual 279, 3, 180, 1, 1, 8, 1287), (.iload_n 2, 1, 2, 0, 0, 0, 0), (.invokevirtual 276, 3, 181, 3, 1, 8, 1291), (.iconst 2, 1, 2, 0, 0, 0, 0), (.imul, 1, 0, 0, 0, 0, 0), (.ireturn, 1, 0, 0, 0, 0, 0)]
def cX8_thoughts_54 : oh_C := [(.aload_n 0, 1, 0, 0, 0, 0, 0), (.bipush 20, 2, 20, 0, 0, 0, 0), (.invokevirtual 273, 3, 179, 2, 0, 8, 1295), (.aload_n 0, 1, 0, 0, 0, 0, 0), (.iconst 1, 1, 1, 0, 0, 0, 0), (.invokestatic 160, 3, 133, 1, 1, 0, 1099), (.iload_n 2, 1, 2, 0, 0, 0, 0), (.invokevirtual 282, 3, 182, 3, 1, 8, 1299), (.istore_n 3, 1, 3, 0, 0, 0, 0), (.iload_n 3, 1, 3, 0, 0, 0, 0), (.aload_n 0, 1, 0, 0, 0, 0, 0), (.aload_n 0, 1, 0, 0, 0, 0, 0), (.invokevirtual 279, 3, 180, 1, 1, 8, 1287), (.iconst 1, 1, 1, 0, 0, 0, 0), (.invokevirtual 285, 3, 183, 3, 1, 8, 1303), (.isub, 1, 0, 0, 0, 0, 0), (.ireturn, 1, 0, 0, 0, 0, 0)]
def cX8_thoughts_82 : oh_C := [(.aload_n 0, 1, 0, 0, 0, 0, 0), (.bipush 50, 2, 50, 0, 0, 0, 0), (.invokevirtual 273, 3, 179, 2, 0, 8, 1295), (.aload_n 0, 1, 0, 0, 0, 0, 0), (.iconst 4, 1, 4, 0, 0, 0, 0), (.invokestatic 160, 3, 133, 1, 1, 0, 1099), (.iload_n 2, 1, 2, 0, 0, 0, 0), (.iconst 1, 1, 1, 0, 0, 0, 0), (.iadd, 1, 0, 0, 0, 0, 0), (.invokevirtual 282, 3, 182, 3, 1, 8, 1299), (.ireturn, 1, 0, 0, 0, 0, 0)]
def cX8_thoughts_100 : oh_C := [(.aload_n 0, 1, 0, 0, 0, 0, 0), (.iload_n 1, 1, 1, 0, 0, 0, 0), (.invokestatic 160, 3, 133, 1, 1, 0, 1099), (.iload_n 2, 1, 2, 0, 0, 0, 0), (.invokevirtual 282, 3, 182, 3, 1, 8, 1299), (.ireturn, 1, 0, 0, 0, 0, 0)]
def tX8_thoughts : oh_T := [(0, none, cX8_thoughts_0), (36, none, cX8_thoughts_36), (54, none, cX8_thoughts_54), (82, none, cX8_thoughts_82), (100, none, cX8_thoughts_100)]
def cX8_says_0 : oh_C := [(.iload_n 1, 1, 1, 0, 0, 0, 0), (.lookupswitch 92 #[(0, 35), (3, 53), (6, 70)], 35, 0, 0, 0, 0, 0)]
def cX8_says_36 : oh_C := [(.aload_n 0, 1, 0, 0, 0, 0, 0), (.bipush 12, 2, 12, 0, 0, 0, 0), (.invokevirtual 273, 3, 179, 2, 0, 8, 1295), (.iload_n 2, 1, 2, 0, 0, 0, 0), (.aload_n 0, 1, 0, 0, 0, 0, 0), (.aload_n 0, 1, 0, 0, 0, 0, 0), (.getfield 270, 3, 8, 21, 0, 0, 921), (.iconst 1, 1, 1, 0, 0, 0, 0), (.invokevirtual 138, 3, 110, 3, 1, 8, 1063), (.isub, 1, 0, 0, 0, 0, 0), (.ireturn, 1, 0, 0, 0, 0, 0)]
def cX8_says_54 : oh_C := [(.aload_n 0, 1, 0, 0, 0, 0, 0), (.bipush 40, 2, 40, 0, 0, 0, 0), (.invokevirtual 273, 3, 179, 2, 0, 8, 1295), (.aload_n 0, 1, 0, 0, 0, 0, 0), (.iconst 3, 1, 3, 0, 0, 0, 0), (.invokestatic 160, 3, 133, 1, 1, 0, 1099), (.iload_n 2, 1, 2, 0, 0, 0, 0), (.invokevirtual 285, 3, 183, 3, 1, 8, 1303), (.ineg, 1, 0, 0, 0, 0, 0), (.ireturn, 1, 0, 0, 0, 0, 0)]
def cX8_says_71 : oh_C := [(.aload_n 0, 1, 0, 0, 0, 0, 0), (.bipush 70, 2, 70, 0, 0, 0, 0), (.invokevirtual 273, 3, 179, 2, 0, 8, 1295), (.aload_n 0, 1, 0, 0, 0, 0, 0), (.bipush 6, 2, 6, 0, 0, 0, 0), (.invokestatic 160, 3, 133, 1, 1, 0, 1099), (.iload_n 2, 1, 2, 0, 0, 0, 0), (.invokevirtual 285, 3, 183, 3, 1, 8, 1303), (.aload_n 0, 1, 0, 0, 0, 0, 0), (.getfield 270, 3, 8, 21, 0, 0, 921), (.ixor, 1, 0, 0, 0, 0, 0), (.ireturn, 1, 0, 0, 0, 0, 0)]
def cX8_says_93 : oh_C := [(.aload_n 0, 1, 0, 0, 0, 0, 0), (.iload_n 1, 1, 1, 0, 0, 0, 0), (.invokestatic 160, 3, 133, 1, 1, 0, 1099), (.iload_n 2, 1, 2, 0, 0, 0, 0), (.invokevirtual 285, 3, 183, 3, 1, 8, 1303), (.ireturn, 1, 0, 0, 0, 0, 0)]
def tX8_says : oh_T := [(0, none, cX8_says_0), (36, none, cX8_says_36), (54, none, cX8_says_54), (71, none, cX8_says_71), (93, none, cX8_says_93)]
def cX8_tells_0 : oh_C := [(.iload_n 1, 1, 1, 0, 0, 0, 0), (.lookupswitch 120 #[(0, 35), (5, 63), (6, 91)], 35, 0, 0, 0, 0, 0)]
def cX8_tells_36 : oh_C := [(.aload_n 0, 1, 0, 0, 0, 0, 0), (.bipush 13, 2, 13, 0, 0, 0, 0), (.invokevirtual 273, 3, 179, 2, 0, 8, 1295), (.aload_n 0, 1, 0, 0, 0, 0, 0), (.aload_n 0, 1, 0, 0, 0, 0, 0), (.invokevirtual 279, 3, 180, 1, 1, 8, 1287), (.iload_n 2, 1, 2, 0, 0, 0, 0), (.invokevirtual 282, 3, 182, 3, 1, 8, 1299), (.istore_n 3, 1, 3, 0, 0, 0, 0), (.iload_n 3, 1, 3, 0, 0, 0, 0), (.aload_n 0, 1, 0, 0, 0, 0, 0), (.aload_n 0, 1, 0, 0, 0, 0, 0), (.invokevirtual 279, 3, 180, 1, 1, 8, 1287), (.iload_n 2, 1, 2, 0, 0, 0, 0), (.invokevirtual 285, 3, 183, 3, 1, 8, 1303), (.ixor, 1, 0, 0, 0, 0, 0), (.ireturn, 1, 0, 0, 0, 0, 0)]
def cX8_tells_64 : oh_C := [(.aload_n 0, 1, 0, 0, 0, 0, 0), (.bipush 60, 2, 60, 0, 0, 0, 0), (.invokevirtual 273, 3, 179, 2, 0, 8, 1295), (.aload_n 0, 1, 0, 0, 0, 0, 0), (.iconst 5, 1, 5, 0, 0, 0, 0), (.invokestatic 160, 3, 133, 1, 1, 0, 1099), (.iload_n 2, 1, 2, 0, 0, 0, 0), (.invokevirtual 288, 3, 184, 3, 1, 8, 1307), (.istore_n 3, 1, 3, 0, 0, 0, 0), (.iload_n 3, 1, 3, 0, 0, 0, 0), (.aload_n 0, 1, 0, 0, 0, 0, 0), (.aload_n 0, 1, 0, 0, 0, 0, 0), (.invokevirtual 279, 3, 180, 1, 1, 8, 1287), (.iconst 2, 1, 2, 0, 0, 0, 0), (.invokevirtual 276, 3, 181, 3, 1, 8, 1291), (.isub, 1, 0, 0, 0, 0, 0), (.ireturn, 1, 0, 0, 0, 0, 0)]
def cX8_tells_92 : oh_C := [(.aload_n 0, 1, 0, 0, 0, 0, 0), (.bipush 71, 2, 71, 0, 0, 0, 0), (.invokevirtual 273, 3, 179, 2, 0, 8, 1295), (.aload_n 0, 1, 0, 0, 0, 0, 0), (.aload_n 0, 1, 0, 0, 0, 0, 0), (.invokevirtual 279, 3, 180, 1, 1, 8, 1287), (.iload_n 2, 1, 2, 0, 0, 0, 0), (.invokevirtual 282, 3, 182, 3, 1, 8, 1299), (.istore_n 3, 1, 3, 0, 0, 0, 0), (.iload_n 3, 1, 3, 0, 0, 0, 0), (.aload_n 0, 1, 0, 0, 0, 0, 0), (.bipush 6, 2, 6, 0, 0, 0, 0), (.invokestatic 160, 3, 133, 1, 1, 0, 1099), (.iload_n 2, 1, 2, 0, 0, 0, 0), (.invokevirtual 288, 3, 184, 3, 1, 8, 1307), (.isub, 1, 0, 0, 0, 0, 0), (.ireturn, 1, 0, 0, 0, 0, 0)]
def cX8_tells_121 : oh_C := [(.aload_n 0, 1, 0, 0, 0, 0, 0), (.iload_n 1, 1, 1, 0, 0, 0, 0), (.invokestatic 160, 3, 133, 1, 1, 0, 1099), (.iload_n 2, 1, 2, 0, 0, 0, 0), (.invokevirtual 288, 3, 184, 3, 1, 8, 1307), (.ireturn, 1, 0, 0, 0, 0, 0)]
def tX8_tells : oh_T := [(0, none, cX8_tells_0), (36, none, cX8_tells_36), (64, none, cX8_tells_64), (92, none, cX8_tells_92), (121, none, cX8_tells_121)]
def cX8_voice_0 : oh_C := [(.aload_n 0, 1, 0, 0, 0, 0, 0), (.iload_n 1, 1, 1, 0, 0, 0, 0), (.invokevirtual 146, 3, 109, 2, 1, 8, 1075), (.ifCond .eq 15, 3, 20, 0, 0, 0, 0), (.iload_n 2, 1, 2, 0, 0, 0, 0), (.i2l, 1, 0, 0, 0, 0, 0), (.lconst 0, 1, 0, 0, 0, 0, 0), (.ldc2_w 153, 3, 3, 0, 0, 0, 1085), (.invokestatic 53, 3, 106, 3, 1, 0, 984), (.ifCond .ne 9, 3, 26, 0, 0, 0, 0)]
def cX8_voice_20 : oh_C := [(.aload_n 0, 1, 0, 0, 0, 0, 0), (.iconst 1, 1, 1, 0, 0, 0, 0), (.invokevirtual 116, 3, 105, 2, 1, 8, 987), (.ireturn, 1, 0, 0, 0, 0, 0)]
def cX8_voice_26 : oh_C := [(.aload_n 0, 1, 0, 0, 0, 0, 0), (.iconst 0, 1, 0, 0, 0, 0, 0), (.putfield 267, 3, 8, 20, 0, 0, 920), (.aload_n 0, 1, 0, 0, 0, 0, 0), (.iload_n 1, 1, 1, 0, 0, 0, 0), (.putfield 270, 3, 8, 21, 0, 0, 921), (.aload_n 0, 1, 0, 0, 0, 0, 0), (.invokevirtual 279, 3, 180, 1, 1, 8, 1287), (.istore 4, 2, 4, 0, 0, 0, 0), (.iload_n 2, 1, 2, 0, 0, 0, 0), (.ifCond .ne 13, 3, 56, 0, 0, 0, 0), (.aload_n 0, 1, 0, 0, 0, 0, 0), (.iload 4, 2, 4, 0, 0, 0, 0), (.iload_n 3, 1, 3, 0, 0, 0, 0), (.invokevirtual 276, 3, 181, 3, 1, 8, 1291), (.goto 40, 3, 93, 0, 0, 0, 0)]
def cX8_voice_56 : oh_C := [(.iload_n 2, 1, 2, 0, 0, 0, 0), (.iconst 1, 1, 1, 0, 0, 0, 0), (.if_icmp .ne 13, 3, 71, 0, 0, 0, 0), (.aload_n 0, 1, 0, 0, 0, 0, 0), (.iload 4, 2, 4, 0, 0, 0, 0), (.iload_n 3, 1, 3, 0, 0, 0, 0), (.invokevirtual 282, 3, 182, 3, 1, 8, 1299), (.goto 25, 3, 93, 0, 0, 0, 0)]
def cX8_voice_71 : oh_C := [(.iload_n 2, 1, 2, 0, 0, 0, 0), (.iconst 2, 1, 2, 0, 0, 0, 0), (.if_icmp .ne 13, 3, 86, 0, 0, 0, 0), (.aload_n 0, 1, 0, 0, 0, 0, 0), (.iload 4, 2, 4, 0, 0, 0, 0), (.iload_n 3, 1, 3, 0, 0, 0, 0), (.invokevirtual 285, 3, 183, 3, 1, 8, 1303), (.goto 10, 3, 93, 0, 0, 0, 0)]
def cX8_voice_86 : oh_C := [(.aload_n 0, 1, 0, 0, 0, 0, 0), (.iload 4, 2, 4, 0, 0, 0, 0), (.iload_n 3, 1, 3, 0, 0, 0, 0), (.invokevirtual 288, 3, 184, 3, 1, 8, 1307)]
def cX8_voice_93 : oh_C := [(.ireturn, 1, 0, 0, 0, 0, 0)]
def tX8_voice : oh_T := [(0, none, cX8_voice_0), (20, none, cX8_voice_20), (26, none, cX8_voice_26), (56, none, cX8_voice_56), (71, none, cX8_voice_71), (86, none, cX8_voice_86), (93, none, cX8_voice_93)]
def cX8_trace_0 : oh_C := [(.iload_n 1, 1, 1, 0, 0, 0, 0), (.i2l, 1, 0, 0, 0, 0, 0), (.lconst 0, 1, 0, 0, 0, 0, 0), (.aload_n 0, 1, 0, 0, 0, 0, 0), (.getfield 267, 3, 8, 20, 0, 0, 920), (.iconst 1, 1, 1, 0, 0, 0, 0), (.isub, 1, 0, 0, 0, 0, 0), (.i2l, 1, 0, 0, 0, 0, 0), (.invokestatic 53, 3, 106, 3, 1, 0, 984), (.ifCond .eq 12, 3, 25, 0, 0, 0, 0), (.aload_n 0, 1, 0, 0, 0, 0, 0), (.getfield 37, 3, 8, 19, 0, 0, 919), (.iload_n 1, 1, 1, 0, 0, 0, 0), (.iaload, 1, 0, 0, 0, 0, 0), (.goto 8, 3, 30, 0, 0, 0, 0)]
def cX8_trace_25 : oh_C := [(.aload_n 0, 1, 0, 0, 0, 0, 0), (.iconst 2, 1, 2, 0, 0, 0, 0), (.invokevirtual 116, 3, 105, 2, 1, 8, 987)]
def cX8_trace_30 : oh_C := [(.ireturn, 1, 0, 0, 0, 0, 0)]
def tX8_trace : oh_T := [(0, none, cX8_trace_0), (25, none, cX8_trace_25), (30, none, cX8_trace_30)]
def cX8_isSheet_0 : oh_C := [(.iload_n 0, 1, 0, 0, 0, 0, 0), (.i2l, 1, 0, 0, 0, 0, 0), (.lconst 0, 1, 0, 0, 0, 0, 0), (.ldc2_w 153, 3, 3, 0, 0, 0, 1085), (.invokestatic 53, 3, 106, 3, 1, 0, 984), (.ireturn, 1, 1, 0, 0, 0, 0)]
def tX8_isSheet : oh_T := [(0, none, cX8_isSheet_0)]
def cX8_sheet_0 : oh_C := [(.iload_n 1, 1, 1, 0, 0, 0, 0), (.invokestatic 291, 3, 187, 1, 1, 0, 1319), (.ifCond .eq 25, 3, 29, 0, 0, 0, 0), (.iload_n 2, 1, 2, 0, 0, 0, 0), (.ifCond .eq 27, 3, 35, 0, 0, 0, 0), (.iload_n 2, 1, 2, 0, 0, 0, 0), (.bipush 8, 2, 8, 0, 0, 0, 0), (.if_icmp .eq 21, 3, 35, 0, 0, 0, 0), (.iload_n 2, 1, 2, 0, 0, 0, 0), (.bipush 16, 2, 16, 0, 0, 0, 0), (.if_icmp .eq 15, 3, 35, 0, 0, 0, 0), (.iload_n 2, 1, 2, 0, 0, 0, 0), (.bipush 32, 2, 32, 0, 0, 0, 0), (.if_icmp .eq 9, 3, 35, 0, 0, 0, 0)]
def cX8_sheet_29 : oh_C := [(.aload_n 0, 1, 0, 0, 0, 0, 0), (.iconst 1, 1, 1, 0, 0, 0, 0), (.invokevirtual 116, 3, 105, 2, 1, 8, 987), (.ireturn, 1, 0, 0, 0, 0, 0)]
def cX8_sheet_35 : oh_C := [(.iload_n 2, 1, 2, 0, 0, 0, 0), (.ifCond .eq 13, 3, 49, 0, 0, 0, 0), (.iload_n 3, 1, 3, 0, 0, 0, 0), (.ifCond .ge 9, 3, 49, 0, 0, 0, 0), (.aload_n 0, 1, 0, 0, 0, 0, 0), (.iconst 3, 1, 3, 0, 0, 0, 0), (.invokevirtual 116, 3, 105, 2, 1, 8, 987), (.ireturn, 1, 0, 0, 0, 0, 0)]
def cX8_sheet_49 : oh_C := [(.iload_n 2, 1, 2, 0, 0, 0, 0), (.ifCond .eq 15, 3, 65, 0, 0, 0, 0), (.iload_n 3, 1, 3, 0, 0, 0, 0), (.bipush 40, 2, 40, 0, 0, 0, 0), (.if_icmp .le 9, 3, 65, 0, 0, 0, 0), (.aload_n 0, 1, 0, 0, 0, 0, 0), (.iconst 1, 1, 1, 0, 0, 0, 0), (.invokevirtual 116, 3, 105, 2, 1, 8, 987), (.ireturn, 1, 0, 0, 0, 0, 0)]
def cX8_sheet_65 : oh_C := [(.aload_n 0, 1, 0, 0, 0, 0, 0), (.getfield 40, 3, 8, 22, 0, 0, 922), (.iload_n 1, 1, 1, 0, 0, 0, 0), (.iload_n 2, 1, 2, 0, 0, 0, 0), (.iastore, 1, 0, 0, 0, 0, 0), (.aload_n 0, 1, 0, 0, 0, 0, 0), (.getfield 43, 3, 8, 23, 0, 0, 923), (.iload_n 1, 1, 1, 0, 0, 0, 0), (.iload_n 2, 1, 2, 0, 0, 0, 0), (.ifCond .ne 7, 3, 85, 0, 0, 0, 0), (.iconst 0, 1, 0, 0, 0, 0, 0), (.goto 4, 3, 86, 0, 0, 0, 0)]
def cX8_sheet_85 : oh_C := [(.iload_n 3, 1, 3, 0, 0, 0, 0)]
def cX8_sheet_86 : oh_C := [(.iastore, 1, 0, 0, 0, 0, 0), (.iconst 0, 1, 0, 0, 0, 0, 0), (.istore 4, 2, 4, 0, 0, 0, 0)]
def cX8_sheet_90 : oh_C := [(.iload 4, 2, 4, 0, 0, 0, 0), (.bipush 40, 2, 40, 0, 0, 0, 0), (.if_icmp .ge 22, 3, 116, 0, 0, 0, 0), (.aload_n 0, 1, 0, 0, 0, 0, 0), (.getfield 46, 3, 8, 24, 0, 0, 924), (.bipush 40, 2, 40, 0, 0, 0, 0), (.iload_n 1, 1, 1, 0, 0, 0, 0), (.imul, 1, 0, 0, 0, 0, 0), (.iload 4, 2, 4, 0, 0, 0, 0), (.iadd, 1, 0, 0, 0, 0, 0), (.iconst 0, 1, 0, 0, 0, 0, 0), (.iastore, 1, 0, 0, 0, 0, 0), (.iinc 4 1, 3, 4, 1, 0, 0, 0), (.goto (-23), 3, 90, 0, 0, 0, 0)]
def cX8_sheet_116 : oh_C := [(.iconst 1, 1, 1, 0, 0, 0, 0), (.ireturn, 1, 0, 0, 0, 0, 0)]
def tX8_sheet : oh_T := [(0, none, cX8_sheet_0), (29, none, cX8_sheet_29), (35, none, cX8_sheet_35), (49, none, cX8_sheet_49), (65, none, cX8_sheet_65), (85, none, cX8_sheet_85), (86, none, cX8_sheet_86), (90, some [true, true, false, false, true], cX8_sheet_90), (116, none, cX8_sheet_116)]
def cX8_put_0 : oh_C := [(.iload_n 1, 1, 1, 0, 0, 0, 0), (.invokestatic 291, 3, 187, 1, 1, 0, 1319), (.ifCond .ne 9, 3, 13, 0, 0, 0, 0), (.aload_n 0, 1, 0, 0, 0, 0, 0), (.iconst 1, 1, 1, 0, 0, 0, 0), (.invokevirtual 116, 3, 105, 2, 1, 8, 987), (.ireturn, 1, 0, 0, 0, 0, 0)]
def cX8_put_13 : oh_C := [(.aload_n 0, 1, 0, 0, 0, 0, 0), (.getfield 40, 3, 8, 22, 0, 0, 922), (.iload_n 1, 1, 1, 0, 0, 0, 0), (.iaload, 1, 0, 0, 0, 0, 0), (.ifCond .ne 9, 3, 28, 0, 0, 0, 0), (.aload_n 0, 1, 0, 0, 0, 0, 0), (.iconst 2, 1, 2, 0, 0, 0, 0), (.invokevirtual 116, 3, 105, 2, 1, 8, 987), (.ireturn, 1, 0, 0, 0, 0, 0)]
def cX8_put_28 : oh_C := [(.iload_n 2, 1, 2, 0, 0, 0, 0), (.i2l, 1, 0, 0, 0, 0, 0), (.lconst 0, 1, 0, 0, 0, 0, 0), (.aload_n 0, 1, 0, 0, 0, 0, 0), (.getfield 43, 3, 8, 23, 0, 0, 923), (.iload_n 1, 1, 1, 0, 0, 0, 0), (.iaload, 1, 0, 0, 0, 0, 0), (.iconst 1, 1, 1, 0, 0, 0, 0), (.isub, 1, 0, 0, 0, 0, 0), (.i2l, 1, 0, 0, 0, 0, 0), (.invokestatic 53, 3, 106, 3, 1, 0, 984), (.ifCond .ne 9, 3, 52, 0, 0, 0, 0), (.aload_n 0, 1, 0, 0, 0, 0, 0), (.iconst 1, 1, 1, 0, 0, 0, 0), (.invokevirtual 116, 3, 105, 2, 1, 8, 987), (.ireturn, 1, 0, 0, 0, 0, 0)]
def cX8_put_52 : oh_C := [(.aload_n 0, 1, 0, 0, 0, 0, 0), (.getfield 46, 3, 8, 24, 0, 0, 924), (.bipush 40, 2, 40, 0, 0, 0, 0), (.iload_n 1, 1, 1, 0, 0, 0, 0), (.imul, 1, 0, 0, 0, 0, 0), (.iload_n 2, 1, 2, 0, 0, 0, 0), (.iadd, 1, 0, 0, 0, 0, 0), (.aload_n 0, 1, 0, 0, 0, 0, 0), (.getfield 40, 3, 8, 22, 0, 0, 922), (.iload_n 1, 1, 1, 0, 0, 0, 0), (.iaload, 1, 0, 0, 0, 0, 0), (.bipush 8, 2, 8, 0, 0, 0, 0), (.if_icmp .ne 8, 3, 78, 0, 0, 0, 0), (.iload_n 3, 1, 3, 0, 0, 0, 0), (.i2b, 1, 0, 0, 0, 0, 0), (.goto 20, 3, 95, 0, 0, 0, 0)]
def cX8_put_78 : oh_C := [(.aload_n 0, 1, 0, 0, 0, 0, 0), (.getfield 40, 3, 8, 22, 0, 0, 922), (.iload_n 1, 1, 1, 0, 0, 0, 0), (.iaload, 1, 0, 0, 0, 0, 0), (.bipush 16, 2, 16, 0, 0, 0, 0), (.if_icmp .ne 8, 3, 94, 0, 0, 0, 0), (.iload_n 3, 1, 3, 0, 0, 0, 0), (.i2s, 1, 0, 0, 0, 0, 0), (.goto 4, 3, 95, 0, 0, 0, 0)]
def cX8_put_94 : oh_C := [(.iload_n 3, 1, 3, 0, 0, 0, 0)]
def cX8_put_95 : oh_C := [(.iastore, 1, 0, 0, 0, 0, 0), (.iconst 1, 1, 1, 0, 0, 0, 0), (.ireturn, 1, 0, 0, 0, 0, 0)]
def tX8_put : oh_T := [(0, none, cX8_put_0), (13, none, cX8_put_13), (28, none, cX8_put_28), (52, none, cX8_put_52), (78, none, cX8_put_78), (94, none, cX8_put_94), (95, none, cX8_put_95)]
def cX8_move_0 : oh_C := [(.iload_n 1, 1, 1, 0, 0, 0, 0), (.invokestatic 291, 3, 187, 1, 1, 0, 1319), (.ifCond .eq 10, 3, 14, 0, 0, 0, 0), (.iload_n 3, 1, 3, 0, 0, 0, 0), (.invokestatic 291, 3, 187, 1, 1, 0, 1319), (.ifCond .ne 9, 3, 20, 0, 0, 0, 0)]
def cX8_move_14 : oh_C := [(.aload_n 0, 1, 0, 0, 0, 0, 0), (.iconst 1, 1, 1, 0, 0, 0, 0), (.invokevirtual 116, 3, 105, 2, 1, 8, 987), (.ireturn, 1, 0, 0, 0, 0, 0)]
def cX8_move_20 : oh_C := [(.aload_n 0, 1, 0, 0, 0, 0, 0), (.getfield 40, 3, 8, 22, 0, 0, 922), (.iload_n 1, 1, 1, 0, 0, 0, 0), (.iaload, 1, 0, 0, 0, 0, 0), (.ifCond .eq 12, 3, 38, 0, 0, 0, 0), (.aload_n 0, 1, 0, 0, 0, 0, 0), (.getfield 40, 3, 8, 22, 0, 0, 922), (.iload_n 3, 1, 3, 0, 0, 0, 0), (.iaload, 1, 0, 0, 0, 0, 0), (.ifCond .ne 9, 3, 44, 0, 0, 0, 0)]
def cX8_move_38 : oh_C := [(.aload_n 0, 1, 0, 0, 0, 0, 0), (.iconst 2, 1, 2, 0, 0, 0, 0), (.invokevirtual 116, 3, 105, 2, 1, 8, 987), (.ireturn, 1, 0, 0, 0, 0, 0)]
def cX8_move_44 : oh_C := [(.aload_n 0, 1, 0, 0, 0, 0, 0), (.getfield 40, 3, 8, 22, 0, 0, 922), (.iload_n 1, 1, 1, 0, 0, 0, 0), (.iaload, 1, 0, 0, 0, 0, 0), (.aload_n 0, 1, 0, 0, 0, 0, 0), (.getfield 40, 3, 8, 22, 0, 0, 922), (.iload_n 3, 1, 3, 0, 0, 0, 0), (.iaload, 1, 0, 0, 0, 0, 0), (.if_icmp .eq 9, 3, 65, 0, 0, 0, 0), (.aload_n 0, 1, 0, 0, 0, 0, 0), (.iconst 5, 1, 5, 0, 0, 0, 0), (.invokevirtual 116, 3, 105, 2, 1, 8, 987), (.ireturn, 1, 0, 0, 0, 0, 0)]
def cX8_move_65 : oh_C := [(.iload 5, 2, 5, 0, 0, 0, 0), (.ifCond .lt 39, 3, 106, 0, 0, 0, 0), (.iload_n 2, 1, 2, 0, 0, 0, 0), (.ifCond .lt 35, 3, 106, 0, 0, 0, 0), (.iload 4, 2, 4, 0, 0, 0, 0), (.ifCond .lt 30, 3, 106, 0, 0, 0, 0), (.iload 5, 2, 5, 0, 0, 0, 0), (.aload_n 0, 1, 0, 0, 0, 0, 0), (.getfield 43, 3, 8, 23, 0, 0, 923), (.iload_n 1, 1, 1, 0, 0, 0, 0), (.iaload, 1, 0, 0, 0, 0, 0), (.iload_n 2, 1, 2, 0, 0, 0, 0), (.isub, 1, 0, 0, 0, 0, 0), (.if_icmp .gt 17, 3, 106, 0, 0, 0, 0), (.iload 5, 2, 5, 0, 0, 0, 0), (.aload_n 0, 1, 0, 0, 0, 0, 0), (.getfield 43, 3, 8, 23, 0, 0, 923), (.iload_n 3, 1, 3, 0, 0, 0, 0), (.iaload, 1, 0, 0, 0, 0, 0), (.iload 4, 2, 4, 0, 0, 0, 0), (.isub, 1, 0, 0, 0, 0, 0), (.if_icmp .le 9, 3, 112, 0, 0, 0, 0)]
def cX8_move_106 : oh_C := [(.aload_n 0, 1, 0, 0, 0, 0, 0), (.iconst 1, 1, 1, 0, 0, 0, 0), (.invokevirtual 116, 3, 105, 2, 1, 8, 987), (.ireturn, 1, 0, 0, 0, 0, 0)]
def cX8_move_112 : oh_C := [(.iconst 0, 1, 0, 0, 0, 0, 0), (.istore 6, 2, 6, 0, 0, 0, 0)]
def cX8_move_115 : oh_C := [(.iload 6, 2, 6, 0, 0, 0, 0), (.iload 5, 2, 5, 0, 0, 0, 0), (.if_icmp .ge 30, 3, 149, 0, 0, 0, 0), (.aload_n 0, 1, 0, 0, 0, 0, 0), (.getfield 49, 3, 8, 25, 0, 0, 925), (.iload 6, 2, 6, 0, 0, 0, 0), (.aload_n 0, 1, 0, 0, 0, 0, 0), (.getfield 46, 3, 8, 24, 0, 0, 924), (.bipush 40, 2, 40, 0, 0, 0, 0), (.iload_n 1, 1, 1, 0, 0, 0, 0), (.imul, 1, 0, 0, 0, 0, 0), (.iload_n 2, 1, 2, 0, 0, 0, 0), (.iadd, 1, 0, 0, 0, 0, 0), (.iload 6, 2, 6, 0, 0, 0, 0), (.iadd, 1, 0, 0, 0, 0, 0), (.iaload, 1, 0, 0, 0, 0, 0), (.iastore, 1, 0, 0, 0, 0, 0), (.iinc 6 1, 3, 6, 1, 0, 0, 0), (.goto (-31), 3, 115, 0, 0, 0, 0)]
def cX8_move_149 : oh_C := [(.iconst 0, 1, 0, 0, 0, 0, 0), (.istore 6, 2, 6, 0, 0, 0, 0)]
def cX8_move_152 : oh_C := [(.iload 6, 2, 6, 0, 0, 0, 0), (.iload 5, 2, 5, 0, 0, 0, 0), (.if_icmp .ge 31, 3, 187, 0, 0, 0, 0), (.aload_n 0, 1, 0, 0, 0, 0, 0), (.getfield 46, 3, 8, 24, 0, 0, 924), (.bipush 40, 2, 40, 0, 0, 0, 0), (.iload_n 3, 1, 3, 0, 0, 0, 0), (.imul, 1, 0, 0, 0, 0, 0), (.iload 4, 2, 4, 0, 0, 0, 0), (.iadd, 1, 0, 0, 0, 0, 0), (.iload 6, 2, 6, 0, 0, 0, 0), (.iadd, 1, 0, 0, 0, 0, 0), (.aload_n 0, 1, 0, 0, 0, 0, 0), (.getfield 49, 3, 8, 25, 0, 0, 925), (.iload 6, 2, 6, 0, 0, 0, 0), (.iaload, 1, 0, 0, 0, 0, 0), (.iastore, 1, 0, 0, 0, 0, 0), (.iinc 6 1, 3, 6, 1, 0, 0, 0), (.goto (-32), 3, 152, 0, 0, 0, 0)]
def cX8_move_187 : oh_C := [(.iload 5, 2, 5, 0, 0, 0, 0), (.ireturn, 1, 0, 0, 0, 0, 0)]
def tX8_move : oh_T := [(0, none, cX8_move_0), (14, none, cX8_move_14), (20, none, cX8_move_20), (38, none, cX8_move_38), (44, none, cX8_move_44), (65, none, cX8_move_65), (106, none, cX8_move_106), (112, none, cX8_move_112), (115, some [true, true, true, true, true, true, true], cX8_move_115), (149, none, cX8_move_149), (152, some [true, false, false, true, true, true, true], cX8_move_152), (187, none, cX8_move_187)]
def cX8_worlds_0 : oh_C := [(.iload_n 1, 1, 1, 0, 0, 0, 0), (.invokestatic 291, 3, 187, 1, 1, 0, 1319), (.ifCond .ne 9, 3, 13, 0, 0, 0, 0), (.aload_n 0, 1, 0, 0, 0, 0, 0), (.iconst 1, 1, 1, 0, 0, 0, 0), (.invokevirtual 116, 3, 105, 2, 1, 8, 987), (.ireturn, 1, 0, 0, 0, 0, 0)]
def cX8_worlds_13 : oh_C := [(.aload_n 0, 1, 0, 0, 0, 0, 0), (.getfield 40, 3, 8, 22, 0, 0, 922), (.iload_n 1, 1, 1, 0, 0, 0, 0), (.iaload, 1, 0, 0, 0, 0, 0), (.ifCond .ne 9, 3, 28, 0, 0, 0, 0), (.aload_n 0, 1, 0, 0, 0, 0, 0), (.iconst 2, 1, 2, 0, 0, 0, 0), (.invokevirtual 116, 3, 105, 2, 1, 8, 987), (.ireturn, 1, 0, 0, 0, 0, 0)]
def cX8_worlds_28 : oh_C := [(.aload_n 0, 1, 0, 0, 0, 0, 0), (.invokevirtual 134, 3, 113, 1, 1, 8, 1059), (.ifCond .ne 9, 3, 41, 0, 0, 0, 0), (.aload_n 0, 1, 0, 0, 0, 0, 0), (.iconst 3, 1, 3, 0, 0, 0, 0), (.invokevirtual 116, 3, 105, 2, 1, 8, 987), (.ireturn, 1, 0, 0, 0, 0, 0)]
def cX8_worlds_41 : oh_C := [(.lconst 0, 1, 0, 0, 0, 0, 0), (.lstore_n 2, 1, 2, 0, 0, 0, 0), (.iconst 0, 1, 0, 0, 0, 0, 0), (.istore 4, 2, 4, 0, 0, 0, 0)]
def cX8_worlds_46 : oh_C := [(.iload 4, 2, 4, 0, 0, 0, 0), (.aload_n 0, 1, 0, 0, 0, 0, 0), (.getfield 43, 3, 8, 23, 0, 0, 923), (.iload_n 1, 1, 1, 0, 0, 0, 0), (.iaload, 1, 0, 0, 0, 0, 0), (.if_icmp .ge 58, 3, 112, 0, 0, 0, 0), (.aload_n 0, 1, 0, 0, 0, 0, 0), (.getfield 46, 3, 8, 24, 0, 0, 924), (.bipush 40, 2, 40, 0, 0, 0, 0), (.iload_n 1, 1, 1, 0, 0, 0, 0), (.imul, 1, 0, 0, 0, 0, 0), (.iload 4, 2, 4, 0, 0, 0, 0), (.iadd, 1, 0, 0, 0, 0, 0), (.iaload, 1, 0, 0, 0, 0, 0), (.istore 5, 2, 5, 0, 0, 0, 0), (.lload_n 2, 1, 2, 0, 0, 0, 0), (.iload 5, 2, 5, 0, 0, 0, 0), (.i2l, 1, 0, 0, 0, 0, 0), (.lconst 0, 1, 0, 0, 0, 0, 0), (.aload_n 0, 1, 0, 0, 0, 0, 0), (.invokevirtual 155, 3, 112, 1, 1, 8, 1086), (.i2l, 1, 0, 0, 0, 0, 0), (.invokestatic 53, 3, 106, 3, 1, 0, 984), (.ifCond .eq 19, 3, 103, 0, 0, 0, 0), (.aload_n 0, 1, 0, 0, 0, 0, 0), (.iload 5, 2, 5, 0, 0, 0, 0), (.invokevirtual 169, 3, 138, 2, 1, 8, 1146), (.ifCond .eq 10, 3, 103, 0, 0, 0, 0), (.lconst 1, 1, 1, 0, 0, 0, 0), (.iload 5, 2, 5, 0, 0, 0, 0), (.lshl, 1, 0, 0, 0, 0, 0), (.goto 4, 3, 104, 0, 0, 0, 0)]
def cX8_worlds_103 : oh_C := [(.lconst 0, 1, 0, 0, 0, 0, 0)]
def cX8_worlds_104 : oh_C := [(.lor, 1, 0, 0, 0, 0, 0), (.lstore_n 2, 1, 2, 0, 0, 0, 0), (.iinc 4 1, 3, 4, 1, 0, 0, 0), (.goto (-63), 3, 46, 0, 0, 0, 0)]
def cX8_worlds_112 : oh_C := [(.lload_n 2, 1, 2, 0, 0, 0, 0), (.aload_n 0, 1, 0, 0, 0, 0, 0), (.invokevirtual 194, 3, 139, 1, 1, 8, 1114), (.lshr, 1, 0, 0, 0, 0, 0), (.lconst 1, 1, 1, 0, 0, 0, 0), (.land, 1, 0, 0, 0, 0, 0), (.lconst 0, 1, 0, 0, 0, 0, 0), (.lcmp, 1, 0, 0, 0, 0, 0), (.ifCond .ne 9, 3, 131, 0, 0, 0, 0), (.aload_n 0, 1, 0, 0, 0, 0, 0), (.iconst 3, 1, 3, 0, 0, 0, 0), (.invokevirtual 116, 3, 105, 2, 1, 8, 987), (.ireturn, 1, 0, 0, 0, 0, 0)]
def cX8_worlds_131 : oh_C := [(.aload_n 0, 1, 0, 0, 0, 0, 0), (.lload_n 2, 1, 2, 0, 0, 0, 0), (.putfield 165, 3, 8, 3, 0, 0, 903), (.aload_n 0, 1, 0, 0, 0, 0, 0), (.getfield 165, 3, 8, 3, 0, 0, 903), (.invokestatic 197, 3, 137, 1, 1, 0, 1118), (.ireturn, 1, 0, 0, 0, 0, 0)]
def tX8_worlds : oh_T := [(0, none, cX8_worlds_0), (13, none, cX8_worlds_13), (28, none, cX8_worlds_28), (41, none, cX8_worlds_41), (46, some [true, true, true, false, true, false], cX8_worlds_46), (103, none, cX8_worlds_103), (104, none, cX8_worlds_104), (112, none, cX8_worlds_112), (131, none, cX8_worlds_131)]
def cX8_image_0 : oh_C := [(.aload_n 0, 1, 0, 0, 0, 0, 0), (.getfield 7, 3, 8, 0, 0, 0, 900), (.aload_n 0, 1, 0, 0, 0, 0, 0), (.getfield 16, 3, 8, 2, 0, 0, 902), (.invokestatic 238, 3, 108, 2, 0, 0, 1217), (.aload_n 0, 1, 0, 0, 0, 0, 0), (.aload_n 0, 1, 0, 0, 0, 0, 0), (.getfield 165, 3, 8, 3, 0, 0, 903), (.putfield 294, 3, 8, 5, 0, 0, 905), (.aload_n 0, 1, 0, 0, 0, 0, 0), (.dup, 1, 0, 0, 0, 0, 0), (.getfield 297, 3, 8, 6, 0, 0, 906), (.iconst 1, 1, 1, 0, 0, 0, 0), (.iadd, 1, 0, 0, 0, 0, 0), (.putfield 297, 3, 8, 6, 0, 0, 906), (.aload_n 0, 1, 0, 0, 0, 0, 0), (.getfield 297, 3, 8, 6, 0, 0, 906), (.ireturn, 1, 0, 0, 0, 0, 0)]
def tX8_image : oh_T := [(0, none, cX8_image_0)]
def cX8_restore_0 : oh_C := [(.aload_n 0, 1, 0, 0, 0, 0, 0), (.getfield 297, 3, 8, 6, 0, 0, 906), (.ifCond .ne 9, 3, 13, 0, 0, 0, 0), (.aload_n 0, 1, 0, 0, 0, 0, 0), (.iconst 2, 1, 2, 0, 0, 0, 0), (.invokevirtual 116, 3, 105, 2, 1, 8, 987), (.ireturn, 1, 0, 0, 0, 0, 0)]
def cX8_restore_13 : oh_C := [(.aload_n 0, 1, 0, 0, 0, 0, 0), (.getfield 16, 3, 8, 2, 0, 0, 902), (.aload_n 0, 1, 0, 0, 0, 0, 0), (.getfield 7, 3, 8, 0, 0, 0, 900), (.invokestatic 238, 3, 108, 2, 0, 0, 1217), (.aload_n 0, 1, 0, 0, 0, 0, 0), (.aload_n 0, 1, 0, 0, 0, 0, 0), (.getfield 294, 3, 8, 5, 0, 0, 905), (.putfield 165, 3, 8, 3, 0, 0, 903), (.aload_n 0, 1, 0, 0, 0, 0, 0), (.getfield 7, 3, 8, 0, 0, 0, 900), (.iconst 2, 1, 2, 0, 0, 0, 0), (.iaload, 1, 0, 0, 0, 0, 0), (.ireturn, 1, 0, 0, 0, 0, 0)]
def tX8_restore : oh_T := [(0, none, cX8_restore_0), (13, none, cX8_restore_13)]
def cX8_tell_0 : oh_C := [(.aload_n 0, 1, 0, 0, 0, 0, 0), (.getfield 7, 3, 8, 0, 0, 0, 900), (.bipush 7, 2, 7, 0, 0, 0, 0), (.iaload, 1, 0, 0, 0, 0, 0), (.bipush 20, 2, 20, 0, 0, 0, 0), (.if_icmp .ne 9, 3, 18, 0, 0, 0, 0), (.aload_n 0, 1, 0, 0, 0, 0, 0), (.iconst 4, 1, 4, 0, 0, 0, 0), (.invokevirtual 116, 3, 105, 2, 1, 8, 987), (.ireturn, 1, 0, 0, 0, 0, 0)]
def cX8_tell_18 : oh_C := [(.aload_n 0, 1, 0, 0, 0, 0, 0), (.getfield 7, 3, 8, 0, 0, 0, 900), (.bipush 40, 2, 40, 0, 0, 0, 0), (.aload_n 0, 1, 0, 0, 0, 0, 0), (.getfield 7, 3, 8, 0, 0, 0, 900), (.bipush 7, 2, 7, 0, 0, 0, 0), (.iaload, 1, 0, 0, 0, 0, 0), (.iadd, 1, 0, 0, 0, 0, 0), (.iload_n 1, 1, 1, 0, 0, 0, 0), (.iastore, 1, 0, 0, 0, 0, 0), (.aload_n 0, 1, 0, 0, 0, 0, 0), (.getfield 7, 3, 8, 0, 0, 0, 900), (.bipush 7, 2, 7, 0, 0, 0, 0), (.dup2, 1, 0, 0, 0, 0, 0), (.iaload, 1, 0, 0, 0, 0, 0), (.iconst 1, 1, 1, 0, 0, 0, 0), (.iadd, 1, 0, 0, 0, 0, 0), (.iastore, 1, 0, 0, 0, 0, 0), (.aload_n 0, 1, 0, 0, 0, 0, 0), (.getfield 7, 3, 8, 0, 0, 0, 900), (.bipush 7, 2, 7, 0, 0, 0, 0), (.iaload, 1, 0, 0, 0, 0, 0), (.ireturn, 1, 0, 0, 0, 0, 0)]
def tX8_tell : oh_T := [(0, none, cX8_tell_0), (18, none, cX8_tell_18)]
def cX8_check_0 : oh_C := [(.aload_n 0, 1, 0, 0, 0, 0, 0), (.getfield 7, 3, 8, 0, 0, 0, 900), (.bipush 7, 2, 7, 0, 0, 0, 0), (.iaload, 1, 0, 0, 0, 0, 0), (.istore_n 1, 1, 1, 0, 0, 0, 0), (.aload_n 0, 1, 0, 0, 0, 0, 0), (.getfield 7, 3, 8, 0, 0, 0, 900), (.bipush 7, 2, 7, 0, 0, 0, 0), (.iconst 0, 1, 0, 0, 0, 0, 0), (.iastore, 1, 0, 0, 0, 0, 0), (.aload_n 0, 1, 0, 0, 0, 0, 0), (.invokevirtual 134, 3, 113, 1, 1, 8, 1059), (.ifCond .ne 9, 3, 29, 0, 0, 0, 0), (.aload_n 0, 1, 0, 0, 0, 0, 0), (.iconst 3, 1, 3, 0, 0, 0, 0), (.invokevirtual 116, 3, 105, 2, 1, 8, 987), (.ireturn, 1, 0, 0, 0, 0, 0)]
def cX8_check_29 : oh_C := [(.iconst 0, 1, 0, 0, 0, 0, 0), (.istore_n 2, 1, 2, 0, 0, 0, 0), (.aload_n 0, 1, 0, 0, 0, 0, 0), (.invokevirtual 245, 3, 161, 1, 0, 8, 1213), (.iconst 0, 1, 0, 0, 0, 0, 0), (.istore_n 3, 1, 3, 0, 0, 0, 0)]
def cX8_check_37 : oh_C := [(.iload_n 3, 1, 3, 0, 0, 0, 0), (.iload_n 1, 1, 1, 0, 0, 0, 0), (.if_icmp .ge 44, 3, 83, 0, 0, 0, 0), (.iload_n 2, 1, 2, 0, 0, 0, 0), (.ifCond .ne 40, 3, 83, 0, 0, 0, 0), (.aload_n 0, 1, 0, 0, 0, 0, 0), (.iconst 0, 1, 0, 0, 0, 0, 0), (.invokevirtual 220, 3, 153, 2, 0, 8, 1138), (.aload_n 0, 1, 0, 0, 0, 0, 0), (.getfield 7, 3, 8, 0, 0, 0, 900), (.iconst 3, 1, 3, 0, 0, 0, 0), (.iaload, 1, 0, 0, 0, 0, 0), (.aload_n 0, 1, 0, 0, 0, 0, 0), (.getfield 7, 3, 8, 0, 0, 0, 900), (.bipush 40, 2, 40, 0, 0, 0, 0), (.iload_n 3, 1, 3, 0, 0, 0, 0), (.iadd, 1, 0, 0, 0, 0, 0), (.iaload, 1, 0, 0, 0, 0, 0), (.if_icmp .ne 7, 3, 73, 0, 0, 0, 0), (.iconst 0, 1, 0, 0, 0, 0, 0), (.goto 6, 3, 76, 0, 0, 0, 0)]
def cX8_check_73 : oh_C := [(.iconst 1, 1, 1, 0, 0, 0, 0), (.iload_n 3, 1, 3, 0, 0, 0, 0), (.iadd, 1, 0, 0, 0, 0, 0)]
def cX8_check_76 : oh_C := [(.istore_n 2, 1, 2, 0, 0, 0, 0), (.iinc 3 1, 3, 3, 1, 0, 0, 0), (.goto (-43), 3, 37, 0, 0, 0, 0)]
def cX8_check_83 : oh_C := [(.aload_n 0, 1, 0, 0, 0, 0, 0), (.invokevirtual 248, 3, 162, 1, 0, 8, 1220), (.iload_n 2, 1, 2, 0, 0, 0, 0), (.ireturn, 1, 0, 0, 0, 0, 0)]
def tX8_check : oh_T := [(0, none, cX8_check_0), (29, none, cX8_check_29), (37, some [true, true, true, true], cX8_check_37), (73, none, cX8_check_73), (76, none, cX8_check_76), (83, none, cX8_check_83)]
def cX8_count_0 : oh_C := [(.iload_n 1, 1, 1, 0, 0, 0, 0), (.tableswitch 137 0 9 #[55, 62, 69, 76, 83, 102, 109, 117, 125, 130], 55, 0, 0, 0, 0, 0)]
def cX8_count_56 : oh_C := [(.aload_n 0, 1, 0, 0, 0, 0, 0), (.getfield 7, 3, 8, 0, 0, 0, 900), (.iconst 0, 1, 0, 0, 0, 0, 0), (.iaload, 1, 0, 0, 0, 0, 0), (.ireturn, 1, 0, 0, 0, 0, 0)]
def cX8_count_63 : oh_C := [(.aload_n 0, 1, 0, 0, 0, 0, 0), (.getfield 7, 3, 8, 0, 0, 0, 900), (.iconst 1, 1, 1, 0, 0, 0, 0), (.iaload, 1, 0, 0, 0, 0, 0), (.ireturn, 1, 0, 0, 0, 0, 0)]
def cX8_count_70 : oh_C := [(.aload_n 0, 1, 0, 0, 0, 0, 0), (.getfield 7, 3, 8, 0, 0, 0, 900), (.iconst 2, 1, 2, 0, 0, 0, 0), (.iaload, 1, 0, 0, 0, 0, 0), (.ireturn, 1, 0, 0, 0, 0, 0)]
def cX8_count_77 : oh_C := [(.aload_n 0, 1, 0, 0, 0, 0, 0), (.getfield 7, 3, 8, 0, 0, 0, 900), (.iconst 3, 1, 3, 0, 0, 0, 0), (.iaload, 1, 0, 0, 0, 0, 0), (.ireturn, 1, 0, 0, 0, 0, 0)]
def cX8_count_84 : oh_C := [(.aload_n 0, 1, 0, 0, 0, 0, 0), (.invokevirtual 134, 3, 113, 1, 1, 8, 1059), (.ifCond .eq 13, 3, 101, 0, 0, 0, 0), (.aload_n 0, 1, 0, 0, 0, 0, 0), (.getfield 165, 3, 8, 3, 0, 0, 903), (.invokestatic 197, 3, 137, 1, 1, 0, 1118), (.goto 4, 3, 102, 0, 0, 0, 0)]
def cX8_count_101 : oh_C := [(.iconst 0, 1, 0, 0, 0, 0, 0)]
def cX8_count_102 : oh_C := [(.ireturn, 1, 0, 0, 0, 0, 0)]
def cX8_count_103 : oh_C := [(.aload_n 0, 1, 0, 0, 0, 0, 0), (.getfield 7, 3, 8, 0, 0, 0, 900), (.iconst 4, 1, 4, 0, 0, 0, 0), (.iaload, 1, 0, 0, 0, 0, 0), (.ireturn, 1, 0, 0, 0, 0, 0)]
def cX8_count_110 : oh_C := [(.aload_n 0, 1, 0, 0, 0, 0, 0), (.getfield 7, 3, 8, 0, 0, 0, 900), (.bipush 6, 2, 6, 0, 0, 0, 0), (.iaload, 1, 0, 0, 0, 0, 0), (.ireturn, 1, 0, 0, 0, 0, 0)]
def cX8_count_118 : oh_C := [(.aload_n 0, 1, 0, 0, 0, 0, 0), (.getfield 7, 3, 8, 0, 0, 0, 900), (.bipush 7, 2, 7, 0, 0, 0, 0), (.iaload, 1, 0, 0, 0, 0, 0), (.ireturn, 1, 0, 0, 0, 0, 0)]
def cX8_count_126 : oh_C := [(.aload_n 0, 1, 0, 0, 0, 0, 0), (.getfield 267, 3, 8, 20, 0, 0, 920), (.ireturn, 1, 0, 0, 0, 0, 0)]
def cX8_count_131 : oh_C := [(.aload_n 0, 1, 0, 0, 0, 0, 0), (.getfield 7, 3, 8, 0, 0, 0, 900), (.iconst 5, 1, 5, 0, 0, 0, 0), (.iaload, 1, 0, 0, 0, 0, 0), (.ireturn, 1, 0, 0, 0, 0, 0)]
def cX8_count_138 : oh_C := [(.aload_n 0, 1, 0, 0, 0, 0, 0), (.iconst 1, 1, 1, 0, 0, 0, 0), (.invokevirtual 116, 3, 105, 2, 1, 8, 987), (.ireturn, 1, 0, 0, 0, 0, 0)]
def tX8_count : oh_T := [(0, none, cX8_count_0), (56, none, cX8_count_56), (63, none, cX8_count_63), (70, none, cX8_count_70), (77, none, cX8_count_77), (84, none, cX8_count_84), (101, none, cX8_count_101), (102, none, cX8_count_102), (103, none, cX8_count_103), (110, none, cX8_count_110), (118, none, cX8_count_118), (126, none, cX8_count_126), (131, none, cX8_count_131), (138, none, cX8_count_138)]
def cX8_told_0 : oh_C := [(.iload_n 1, 1, 1, 0, 0, 0, 0), (.i2l, 1, 0, 0, 0, 0, 0), (.lconst 1, 1, 1, 0, 0, 0, 0), (.ldc2_w 300, 3, 5, 0, 0, 0, 1358), (.invokestatic 53, 3, 106, 3, 1, 0, 984), (.ifCond .eq 12, 3, 21, 0, 0, 0, 0), (.aload_n 0, 1, 0, 0, 0, 0, 0), (.getfield 19, 3, 8, 7, 0, 0, 907), (.iload_n 1, 1, 1, 0, 0, 0, 0), (.iaload, 1, 0, 0, 0, 0, 0), (.goto 8, 3, 26, 0, 0, 0, 0)]
def cX8_told_21 : oh_C := [(.aload_n 0, 1, 0, 0, 0, 0, 0), (.iconst 1, 1, 1, 0, 0, 0, 0), (.invokevirtual 116, 3, 105, 2, 1, 8, 987)]
def cX8_told_26 : oh_C := [(.ireturn, 1, 0, 0, 0, 0, 0)]
def tX8_told : oh_T := [(0, none, cX8_told_0), (21, none, cX8_told_21), (26, none, cX8_told_26)]
def cJ6_bitCount_0f7a4_0 : oh_C := [(.iload_n 0, 1, 0, 0, 0, 0, 0), (.iload_n 0, 1, 0, 0, 0, 0, 0), (.iconst 1, 1, 1, 0, 0, 0, 0), (.iushr, 1, 0, 0, 0, 0, 0), (.ldc_w 265, 3, 1431655765, 0, 0, 0, 596), (.iand, 1, 0, 0, 0, 0, 0), (.isub, 1, 0, 0, 0, 0, 0), (.istore_n 0, 1, 0, 0, 0, 0, 0), (.iload_n 0, 1, 0, 0, 0, 0, 0), (.ldc_w 266, 3, 858993459, 0, 0, 0, 597), (.iand, 1, 0, 0, 0, 0, 0), (.iload_n 0, 1, 0, 0, 0, 0, 0), (.iconst 2, 1, 2, 0, 0, 0, 0), (.iushr, 1, 0, 0, 0, 0, 0), (.ldc_w 266, 3, 858993459, 0, 0, 0, 597), (.iand, 1, 0, 0, 0, 0, 0), (.iadd, 1, 0, 0, 0, 0, 0), (.istore_n 0, 1, 0, 0, 0, 0, 0), (.iload_n 0, 1, 0, 0, 0, 0, 0), (.iload_n 0, 1, 0, 0, 0, 0, 0), (.iconst 4, 1, 4, 0, 0, 0, 0), (.iushr, 1, 0, 0, 0, 0, 0), (.iadd, 1, 0, 0, 0, 0, 0), (.ldc_w 267, 3, 252645135, 0, 0, 0, 598), (.iand, 1, 0, 0, 0, 0, 0), (.istore_n 0, 1, 0, 0, 0, 0, 0), (.iload_n 0, 1, 0, 0, 0, 0, 0), (.iload_n 0, 1, 0, 0, 0, 0, 0), (.bipush 8, 2, 8, 0, 0, 0, 0), (.iushr, 1, 0, 0, 0, 0, 0), (.iadd, 1, 0, 0, 0, 0, 0), (.istore_n 0, 1, 0, 0, 0, 0, 0), (.iload_n 0, 1, 0, 0, 0, 0, 0), (.iload_n 0, 1, 0, 0, 0, 0, 0), (.bipush 16, 2, 16, 0, 0, 0, 0), (.iushr, 1, 0, 0, 0, 0, 0), (.iadd, 1, 0, 0, 0, 0, 0), (.istore_n 0, 1, 0, 0, 0, 0, 0), (.iload_n 0, 1, 0, 0, 0, 0, 0), (.bipush 63, 2, 63, 0, 0, 0, 0), (.iand, 1, 0, 0, 0, 0, 0), (.ireturn, 1, 0, 0, 0, 0, 0)]
def tJ6_bitCount_0f7a4 : oh_T := [(0, none, cJ6_bitCount_0f7a4_0)]
def cJ13_bitCount_95d88_0 : oh_C := [(.lload_n 0, 1, 0, 0, 0, 0, 0), (.lload_n 0, 1, 0, 0, 0, 0, 0), (.iconst 1, 1, 1, 0, 0, 0, 0), (.lushr, 1, 0, 0, 0, 0, 0), (.ldc2_w 314, 3, 6148914691236517205, 0, 0, 0, 606), (.land, 1, 0, 0, 0, 0, 0), (.lsub, 1, 0, 0, 0, 0, 0), (.lstore_n 0, 1, 0, 0, 0, 0, 0), (.lload_n 0, 1, 0, 0, 0, 0, 0), (.ldc2_w 316, 3, 3689348814741910323, 0, 0, 0, 607), (.land, 1, 0, 0, 0, 0, 0), (.lload_n 0, 1, 0, 0, 0, 0, 0), (.iconst 2, 1, 2, 0, 0, 0, 0), (.lushr, 1, 0, 0, 0, 0, 0), (.ldc2_w 316, 3, 3689348814741910323, 0, 0, 0, 607), (.land, 1, 0, 0, 0, 0, 0), (.ladd, 1, 0, 0, 0, 0, 0), (.lstore_n 0, 1, 0, 0, 0, 0, 0), (.lload_n 0, 1, 0, 0, 0, 0, 0), (.lload_n 0, 1, 0, 0, 0, 0, 0), (.iconst 4, 1, 4, 0, 0, 0, 0), (.lushr, 1, 0, 0, 0, 0, 0), (.ladd, 1, 0, 0, 0, 0, 0), (.ldc2_w 318, 3, 1085102592571150095, 0, 0, 0, 608), (.land, 1, 0, 0, 0, 0, 0), (.lstore_n 0, 1, 0, 0, 0, 0, 0), (.lload_n 0, 1, 0, 0, 0, 0, 0), (.lload_n 0, 1, 0, 0, 0, 0, 0), (.bipush 8, 2, 8, 0, 0, 0, 0), (.lushr, 1, 0, 0, 0, 0, 0), (.ladd, 1, 0, 0, 0, 0, 0), (.lstore_n 0, 1, 0, 0, 0, 0, 0), (.lload_n 0, 1, 0, 0, 0, 0, 0), (.lload_n 0, 1, 0, 0, 0, 0, 0), (.bipush 16, 2, 16, 0, 0, 0, 0), (.lushr, 1, 0, 0, 0, 0, 0), (.ladd, 1, 0, 0, 0, 0, 0), (.lstore_n 0, 1, 0, 0, 0, 0, 0), (.lload_n 0, 1, 0, 0, 0, 0, 0), (.lload_n 0, 1, 0, 0, 0, 0, 0), (.bipush 32, 2, 32, 0, 0, 0, 0), (.lushr, 1, 0, 0, 0, 0, 0), (.ladd, 1, 0, 0, 0, 0, 0), (.lstore_n 0, 1, 0, 0, 0, 0, 0), (.lload_n 0, 1, 0, 0, 0, 0, 0), (.l2i, 1, 0, 0, 0, 0, 0), (.bipush 127, 2, 127, 0, 0, 0, 0), (.iand, 1, 0, 0, 0, 0, 0), (.ireturn, 1, 0, 0, 0, 0, 0)]
def tJ13_bitCount_95d88 : oh_T := [(0, none, cJ13_bitCount_95d88_0)]
def cJ9_max_7cf53_0 : oh_C := [(.iload_n 0, 1, 0, 0, 0, 0, 0), (.iload_n 1, 1, 1, 0, 0, 0, 0), (.if_icmp .lt 7, 3, 9, 0, 0, 0, 0), (.iload_n 0, 1, 0, 0, 0, 0, 0), (.goto 4, 3, 10, 0, 0, 0, 0)]
def cJ9_max_7cf53_9 : oh_C := [(.iload_n 1, 1, 1, 0, 0, 0, 0)]
def cJ9_max_7cf53_10 : oh_C := [(.ireturn, 1, 0, 0, 0, 0, 0)]
def tJ9_max_7cf53 : oh_T := [(0, none, cJ9_max_7cf53_0), (9, none, cJ9_max_7cf53_9), (10, none, cJ9_max_7cf53_10)]
def cJ9_min_7cf53_0 : oh_C := [(.iload_n 0, 1, 0, 0, 0, 0, 0), (.iload_n 1, 1, 1, 0, 0, 0, 0), (.if_icmp .gt 7, 3, 9, 0, 0, 0, 0), (.iload_n 0, 1, 0, 0, 0, 0, 0), (.goto 4, 3, 10, 0, 0, 0, 0)]
def cJ9_min_7cf53_9 : oh_C := [(.iload_n 1, 1, 1, 0, 0, 0, 0)]
def cJ9_min_7cf53_10 : oh_C := [(.ireturn, 1, 0, 0, 0, 0, 0)]
def tJ9_min_7cf53 : oh_T := [(0, none, cJ9_min_7cf53_0), (9, none, cJ9_min_7cf53_9), (10, none, cJ9_min_7cf53_10)]
def tJ0_indexOf_0f7a4 : oh_T := []
def oh_mi_0 : List oh_MI := [(yX0_take, cX0_take, 2, none, false, 871, 870, 48, 98), (yX0_drawn, cX0_drawn, 1, (some FieldType.int), false, 701, 700, 32, 98), (yX0_ringLoosely, cX0_ringLoosely, 4, none, false, 694, 693, 31, 98), (yX1_gives, cX1_gives, 6, (some FieldType.int), false, 566, 565, 17, 100), (yX1_workedOut, cX1_workedOut, 8, (some FieldType.int), false, 570, 569, 18, 100), (yX1_named, cX1_named, 5, (some FieldType.int), true, 574, 573, 0, 100), (yX1_joined, cX1_joined, 3, (some FieldType.int), true, 577, 576, 0, 100), (yX2_faultOf, cX2_faultOf, 3, (some FieldType.int), false, 422, 421, 6, 103), (yX2_readLevel, cX2_readLevel, 6, (some FieldType.boolean), false, 442, 441, 10, 103), (yX2_readUnit, cX2_readUnit, 4, (some FieldType.boolean), false, 446, 445, 11, 103), (yX2_readNot, cX2_readNot, 3, (some FieldType.boolean), false, 463, 462, 14, 103), (yX2_readInside, cX2_readInside, 2, (some FieldType.boolean), false, 467, 466, 15, 103), (yX2_readNumber, cX2_readNumber, 3, none, false, 458, 457, 13, 103), (yX2_next, cX2_next, 1, (some FieldType.int), false, 450, 449, 12, 103), (yX2_isDigit, cX2_isDigit, 1, (some FieldType.boolean), true, 454, 453, 0, 103), (yX2_isSignOf, cX2_isSignOf, 2, (some FieldType.boolean), true, 552, 551, 0, 103), (yX3_add, cX3_add, 2, none, false, 411, 410, 5, 101), (yX3_get, cX3_get, 2, (some FieldType.int), false, 434, 433, 9, 101), (yX3_clear, cX3_clear, 1, none, false, 430, 429, 8, 101), (yX3_take, cX3_take, 3, none, false, 426, 425, 7, 101), (yX4_take, cX4_take, 3, none, false, 730, 729, 34, 99), (yX4_worldCount, cX4_worldCount, 1, (some FieldType.int), false, 385, 384, 4, 99), (yX4_addMan, cX4_addMan, 4, (some FieldType.int), false, 359, 358, 1, 99), (yX4_givenBy, cX4_givenBy, 7, (some FieldType.long), false, 590, 589, 19, 99), (yX4_thought, cX4_thought, 3, (some FieldType.long), false, 633, 632, 23, 99)]
def oh_M_0 : List (Nat × oh_T) := [(2, tX0_take), (1, tX0_drawn), (4, tX0_ringLoosely), (6, tX1_gives), (8, tX1_workedOut), (5, tX1_named), (3, tX1_joined), (3, tX2_faultOf), (6, tX2_readLevel), (4, tX2_readUnit), (3, tX2_readNot), (2, tX2_readInside), (3, tX2_readNumber), (1, tX2_next), (1, tX2_isDigit), (2, tX2_isSignOf), (2, tX3_add), (2, tX3_get), (1, tX3_clear), (3, tX3_take), (3, tX4_take), (1, tX4_worldCount), (4, tX4_addMan), (7, tX4_givenBy), (3, tX4_thought)]
def oh_mi_1 : List oh_MI := [(yX4_hasSpoken, cX4_hasSpoken, 2, (some FieldType.boolean), false, 647, 646, 25, 99), (yX4_speaks, cX4_speaks, 5, (some FieldType.boolean), false, 643, 642, 24, 99), (yX4_isSure, cX4_isSure, 7, (some FieldType.boolean), false, 651, 650, 26, 99), (yX4_speakers, cX4_speakers, 3, (some FieldType.int), false, 629, 628, 22, 99), (yX4_sayings, cX4_sayings, 4, (some FieldType.int), false, 664, 663, 27, 99), (yX4_ring, cX4_ring, 3, (some FieldType.boolean), false, 625, 624, 21, 99), (yX4_hear, cX4_hear, 7, (some FieldType.boolean), false, 673, 672, 28, 99), (yX4_fitting, cX4_fitting, 17, (some FieldType.long), false, 677, 676, 29, 99), (yX4_payAll, cX4_payAll, 8, none, false, 683, 682, 30, 99), (yX4_isPastAllNumbers, cX4_isPastAllNumbers, 1, (some FieldType.boolean), false, 738, 737, 36, 99), (yX5_renew, cX5_renew, 4, none, false, 835, 834, 44, 105), (yX5_write, cX5_write, 3, none, false, 844, 843, 45, 105), (yX5_hasRun, cX5_hasRun, 3, (some FieldType.boolean), false, 852, 851, 46, 105), (yX5_asWorlds, cX5_asWorlds, 4, (some FieldType.long), false, 863, 862, 47, 105), (yX6_heard, cX6_heard, 5, (some FieldType.int), false, 802, 801, 40, 104), (yX6_own, cX6_own, 4, (some FieldType.int), false, 807, 806, 41, 104), (yX6_from, cX6_from, 8, (some FieldType.int), false, 811, 810, 42, 104), (yX6_workedOut, cX6_workedOut, 4, (some FieldType.int), false, 818, 817, 43, 104), (yX7_man, cX7_man, 2, (some FieldType.int), false, 344, 342, 343, 97), (yX7_ofMan, cX7_ofMan, 4, (some FieldType.int), false, 366, 364, 365, 97), (yX7_tellMan, cX7_tellMan, 7, (some FieldType.int), false, 377, 375, 376, 97), (yX7_become, cX7_become, 4, (some FieldType.int), false, 389, 387, 388, 97), (yX7_as, cX7_as, 3, (some FieldType.int), false, 393, 391, 392, 97), (yX7_fine, cX7_fine, 3, (some FieldType.int), false, 403, 401, 402, 97), (yX7_feed, cX7_feed, 5, (some FieldType.int), false, 407, 405, 406, 97)]
def oh_M_1 : List (Nat × oh_T) := [(2, tX4_hasSpoken), (5, tX4_speaks), (7, tX4_isSure), (3, tX4_speakers), (4, tX4_sayings), (3, tX4_ring), (7, tX4_hear), (17, tX4_fitting), (8, tX4_payAll), (1, tX4_isPastAllNumbers), (4, tX5_renew), (3, tX5_write), (3, tX5_hasRun), (4, tX5_asWorlds), (5, tX6_heard), (4, tX6_own), (8, tX6_from), (4, tX6_workedOut), (2, tX7_man), (4, tX7_ofMan), (7, tX7_tellMan), (4, tX7_become), (3, tX7_as), (3, tX7_fine), (5, tX7_feed)]
def oh_mi_2 : List oh_MI := [(yX7_text, cX7_text, 3, (some FieldType.int), false, 415, 413, 414, 97), (yX7_law, cX7_law, 6, (some FieldType.int), false, 562, 560, 561, 97), (yX7_open, cX7_open, 4, (some FieldType.int), false, 586, 584, 585, 97), (yX7_close, cX7_close, 1, (some FieldType.int), false, 612, 610, 611, 97), (yX7_bells, cX7_bells, 4, (some FieldType.int), false, 617, 615, 616, 97), (yX7_loose, cX7_loose, 4, (some FieldType.int), false, 690, 688, 689, 97), (yX7_possible, cX7_possible, 2, (some FieldType.int), false, 707, 705, 706, 97), (yX7_thinks, cX7_thinks, 6, (some FieldType.int), false, 711, 709, 710, 97), (yX7_then, cX7_then, 3, (some FieldType.int), false, 719, 717, 718, 97), (yX7_thenPaid, cX7_thenPaid, 3, (some FieldType.int), false, 742, 740, 741, 97), (yX7_when, cX7_when, 3, (some FieldType.int), false, 746, 744, 745, 97), (yX7_silence, cX7_silence, 5, (some FieldType.int), false, 755, 753, 754, 97), (yX7_trick, cX7_trick, 9, (some FieldType.int), false, 759, 757, 758, 97), (yX7_longest, cX7_longest, 5, (some FieldType.int), false, 767, 765, 766, 97), (yX7_signal, cX7_signal, 3, (some FieldType.int), false, 771, 769, 770, 97), (yX7_bestSignal, cX7_bestSignal, 7, (some FieldType.int), false, 779, 777, 778, 97), (yX7_look, cX7_look, 6, (some FieldType.int), false, 783, 781, 782, 97), (yX7_odds, cX7_odds, 9, (some FieldType.long), false, 787, 785, 786, 97), (yX7_seed, cX7_seed, 3, (some FieldType.int), false, 794, 792, 793, 97), (yX7_voice, cX7_voice, 4, (some FieldType.int), false, 798, 796, 797, 97), (yX7_trace, cX7_trace, 2, (some FieldType.int), false, 823, 821, 822, 97), (yX7_sheet, cX7_sheet, 4, (some FieldType.int), false, 828, 826, 827, 97), (yX7_put, cX7_put, 4, (some FieldType.int), false, 840, 838, 839, 97), (yX7_move, cX7_move, 8, (some FieldType.int), false, 848, 846, 847, 97), (yX7_worlds, cX7_worlds, 4, (some FieldType.int), false, 859, 857, 858, 97)]
def oh_M_2 : List (Nat × oh_T) := [(3, tX7_text), (6, tX7_law), (4, tX7_open), (1, tX7_close), (4, tX7_bells), (4, tX7_loose), (2, tX7_possible), (6, tX7_thinks), (3, tX7_then), (3, tX7_thenPaid), (3, tX7_when), (5, tX7_silence), (9, tX7_trick), (5, tX7_longest), (3, tX7_signal), (7, tX7_bestSignal), (6, tX7_look), (9, tX7_odds), (3, tX7_seed), (4, tX7_voice), (2, tX7_trace), (4, tX7_sheet), (4, tX7_put), (8, tX7_move), (4, tX7_worlds)]
def oh_mi_3 : List oh_MI := [(yX7_image, cX7_image, 1, (some FieldType.int), false, 867, 865, 866, 97), (yX7_restore, cX7_restore, 1, (some FieldType.int), false, 877, 875, 876, 97), (yX7_tell, cX7_tell, 2, (some FieldType.int), false, 881, 879, 880, 97), (yX7_check, cX7_check, 3, (some FieldType.int), false, 885, 883, 884, 97), (yX7_count, cX7_count, 2, (some FieldType.int), false, 889, 887, 888, 97), (yX7_told, cX7_told, 2, (some FieldType.int), false, 893, 891, 892, 97), (yX7_failed, cX7_failed, 3, (some FieldType.int), false, 352, 351, 0, 97), (yX7_isMan, cX7_isMan, 2, (some FieldType.boolean), false, 370, 369, 2, 97), (yX7_isWorld, cX7_isWorld, 2, (some FieldType.boolean), false, 381, 380, 3, 97), (yX7_isKindWithNumber, cX7_isKindWithNumber, 1, (some FieldType.boolean), true, 347, 346, 0, 97), (yX7_isUse, cX7_isUse, 1, (some FieldType.boolean), true, 418, 417, 0, 97), (yX7_isAhead, cX7_isAhead, 1, (some FieldType.boolean), true, 722, 721, 0, 97), (yX7_isSheet, cX7_isSheet, 1, (some FieldType.boolean), true, 831, 830, 0, 97), (yX7_isOfKind, cX7_isOfKind, 4, (some FieldType.boolean), true, 396, 395, 0, 97), (yX7_lawOf, cX7_lawOf, 2, (some (FieldType.object "OtherHat$Law")), false, 557, 556, 16, 97), (yX7_whyNoBells, cX7_whyNoBells, 2, (some FieldType.int), false, 621, 620, 20, 97), (yX7_startAhead, cX7_startAhead, 1, none, false, 726, 725, 33, 97), (yX7_ringAhead, cX7_ringAhead, 6, (some FieldType.int), false, 734, 733, 35, 97), (yX7_bellsTillSpoken, cX7_bellsTillSpoken, 3, (some FieldType.int), false, 750, 749, 37, 97), (yX7_ranAlike, cX7_ranAlike, 1, (some FieldType.long), false, 763, 762, 38, 97), (yX7_knowBySignal, cX7_knowBySignal, 8, (some FieldType.int), false, 775, 774, 39, 97), (yX7_commonDivisor, cX7_commonDivisor, 6, (some FieldType.int), true, 790, 789, 0, 97), (yX7_bit, cX7_bit, 2, (some FieldType.int), true, 373, 372, 0, 97), (yX7_held, cX7_held, 3, (some FieldType.int), true, 580, 579, 0, 97), (yX7_holds, cX7_holds, 3, (some FieldType.boolean), true, 602, 601, 0, 97)]
def oh_M_3 : List (Nat × oh_T) := [(1, tX7_image), (1, tX7_restore), (2, tX7_tell), (3, tX7_check), (2, tX7_count), (2, tX7_told), (3, tX7_failed), (2, tX7_isMan), (2, tX7_isWorld), (1, tX7_isKindWithNumber), (1, tX7_isUse), (1, tX7_isAhead), (1, tX7_isSheet), (4, tX7_isOfKind), (2, tX7_lawOf), (2, tX7_whyNoBells), (1, tX7_startAhead), (6, tX7_ringAhead), (3, tX7_bellsTillSpoken), (1, tX7_ranAlike), (8, tX7_knowBySignal), (6, tX7_commonDivisor), (2, tX7_bit), (3, tX7_held), (3, tX7_holds)]
def oh_mi_4 : List oh_MI := [(yX7_blacks, cX7_blacks, 3, (some FieldType.int), true, 654, 653, 0, 97), (yX7_whites, cX7_whites, 3, (some FieldType.int), true, 657, 656, 0, 97), (yX7_knows, cX7_knows, 3, (some FieldType.boolean), true, 660, 659, 0, 97), (yX7_wouldSay, cX7_wouldSay, 3, (some FieldType.int), true, 667, 666, 0, 97), (yX7_allWhite, cX7_allWhite, 4, (some FieldType.long), true, 636, 635, 0, 97), (yX8_finds, cX8_finds, 2, (some FieldType.int), false, 990, 989, 49, 106), (yX8_in, cX8_in, 6, (some FieldType.boolean), true, 986, 985, 0, 106), (yX8_held, cX8_held, 3, (some FieldType.int), true, 1053, 1052, 0, 106), (yX8_copies, cX8_copies, 3, none, true, 1219, 1218, 0, 106), (yX8_isMan, cX8_isMan, 2, (some FieldType.boolean), false, 1078, 1077, 65, 106), (yX8_of, cX8_of, 3, (some FieldType.int), false, 1066, 1065, 63, 106), (yX8_becomes, cX8_becomes, 4, none, false, 1070, 1069, 64, 106), (yX8_allMen, cX8_allMen, 1, (some FieldType.int), false, 1089, 1088, 66, 106), (yX8_isOpen, cX8_isOpen, 1, (some FieldType.boolean), false, 1062, 1061, 62, 106), (yX8_here, cX8_here, 1, (some FieldType.int), false, 1028, 1027, 57, 106), (yX8_wrong, cX8_wrong, 1, (some FieldType.int), false, 1032, 1031, 58, 106), (yX8_takes, cX8_takes, 2, (some FieldType.boolean), false, 1036, 1035, 59, 106), (yX8_nameOf, cX8_nameOf, 2, (some FieldType.int), false, 1040, 1039, 60, 106), (yX8_either, cX8_either, 3, (some FieldType.int), false, 1004, 1003, 51, 106), (yX8_both, cX8_both, 3, (some FieldType.int), false, 1008, 1007, 52, 106), (yX8_compared, cX8_compared, 4, (some FieldType.int), false, 1012, 1011, 53, 106), (yX8_sum, cX8_sum, 4, (some FieldType.int), false, 1016, 1015, 54, 106), (yX8_product, cX8_product, 4, (some FieldType.int), false, 1020, 1019, 55, 106), (yX8_unit, cX8_unit, 5, (some FieldType.int), false, 1024, 1023, 56, 106), (yX8_worked, cX8_worked, 5, (some FieldType.int), false, 1000, 999, 50, 106)]
def oh_M_4 : List (Nat × oh_T) := [(3, tX7_blacks), (3, tX7_whites), (3, tX7_knows), (3, tX7_wouldSay), (4, tX7_allWhite), (2, tX8_finds), (6, tX8_in), (3, tX8_held), (3, tX8_copies), (2, tX8_isMan), (3, tX8_of), (4, tX8_becomes), (1, tX8_allMen), (1, tX8_isOpen), (1, tX8_here), (1, tX8_wrong), (2, tX8_takes), (2, tX8_nameOf), (3, tX8_either), (3, tX8_both), (4, tX8_compared), (4, tX8_sum), (4, tX8_product), (5, tX8_unit), (5, tX8_worked)]
def oh_mi_5 : List oh_MI := [(yX8_feed, cX8_feed, 5, (some FieldType.int), false, 982, 980, 981, 106), (yX8_text, cX8_text, 5, (some FieldType.int), false, 996, 994, 995, 106), (yX8_gives, cX8_gives, 7, (some FieldType.int), false, 1050, 1049, 61, 106), (yX8_law, cX8_law, 6, (some FieldType.int), false, 1046, 1044, 1045, 106), (yX8_man, cX8_man, 4, (some FieldType.int), false, 1057, 1055, 1056, 106), (yX8_ofMan, cX8_ofMan, 3, (some FieldType.int), false, 1074, 1072, 1073, 106), (yX8_tellMan, cX8_tellMan, 6, (some FieldType.int), false, 1083, 1081, 1082, 106), (yX8_become, cX8_become, 4, (some FieldType.int), false, 1093, 1091, 1092, 106), (yX8_above, cX8_above, 1, (some FieldType.int), true, 1101, 1100, 0, 106), (yX8_as, cX8_as, 4, (some FieldType.int), false, 1097, 1095, 1096, 106), (yX8_fine, cX8_fine, 3, (some FieldType.int), false, 1105, 1103, 1104, 106), (yX8_ones, cX8_ones, 3, (some FieldType.int), true, 1113, 1112, 0, 106), (yX8_manyOf, cX8_manyOf, 4, (some FieldType.int), true, 1120, 1119, 0, 106), (yX8_isPossible, cX8_isPossible, 2, (some FieldType.boolean), false, 1149, 1148, 72, 106), (yX8_hats, cX8_hats, 3, (some FieldType.int), false, 1117, 1116, 67, 106), (yX8_think, cX8_think, 5, none, false, 1145, 1144, 71, 106), (yX8_blackOf, cX8_blackOf, 3, (some FieldType.int), false, 1169, 1168, 77, 106), (yX8_whiteOf, cX8_whiteOf, 3, (some FieldType.int), false, 1173, 1172, 78, 106), (yX8_knows, cX8_knows, 3, (some FieldType.boolean), false, 1165, 1164, 76, 106), (yX8_wouldSay, cX8_wouldSay, 3, (some FieldType.int), false, 1181, 1180, 80, 106), (yX8_isHasty, cX8_isHasty, 4, (some FieldType.boolean), false, 1161, 1160, 75, 106), (yX8_speaks, cX8_speaks, 5, (some FieldType.boolean), false, 1157, 1156, 74, 106), (yX8_speakers, cX8_speakers, 4, (some FieldType.int), false, 1153, 1152, 73, 106), (yX8_sayings, cX8_sayings, 5, (some FieldType.int), false, 1177, 1176, 79, 106), (yX8_open, cX8_open, 6, (some FieldType.int), false, 1110, 1108, 1109, 106)]
def oh_M_5 : List (Nat × oh_T) := [(5, tX8_feed), (5, tX8_text), (7, tX8_gives), (6, tX8_law), (4, tX8_man), (3, tX8_ofMan), (6, tX8_tellMan), (4, tX8_become), (1, tX8_above), (4, tX8_as), (3, tX8_fine), (3, tX8_ones), (4, tX8_manyOf), (2, tX8_isPossible), (3, tX8_hats), (5, tX8_think), (3, tX8_blackOf), (3, tX8_whiteOf), (3, tX8_knows), (3, tX8_wouldSay), (4, tX8_isHasty), (5, tX8_speaks), (4, tX8_speakers), (5, tX8_sayings), (6, tX8_open)]
def oh_mi_6 : List oh_MI := [(yX8_close, cX8_close, 1, (some FieldType.int), false, 1124, 1122, 1123, 106), (yX8_drawn, cX8_drawn, 1, (some FieldType.int), false, 1185, 1184, 81, 106), (yX8_pays, cX8_pays, 5, none, false, 1190, 1189, 82, 106), (yX8_rings, cX8_rings, 8, none, false, 1141, 1140, 70, 106), (yX8_goesOn, cX8_goesOn, 4, none, false, 1137, 1136, 69, 106), (yX8_rung, cX8_rung, 3, (some FieldType.int), false, 1132, 1131, 68, 106), (yX8_bells, cX8_bells, 2, (some FieldType.int), false, 1128, 1126, 1127, 106), (yX8_loose, cX8_loose, 2, (some FieldType.int), false, 1196, 1194, 1195, 106), (yX8_why, cX8_why, 2, (some FieldType.int), false, 1204, 1203, 83, 106), (yX8_possible, cX8_possible, 3, (some FieldType.int), false, 1200, 1198, 1199, 106), (yX8_thinks, cX8_thinks, 5, (some FieldType.int), false, 1208, 1206, 1207, 106), (yX8_begins, cX8_begins, 1, none, false, 1216, 1215, 84, 106), (yX8_ends, cX8_ends, 1, none, false, 1223, 1222, 85, 106), (yX8_then, cX8_then, 5, (some FieldType.int), false, 1212, 1210, 1211, 106), (yX8_thenPaid, cX8_thenPaid, 5, (some FieldType.int), false, 1227, 1225, 1226, 106), (yX8_soonest, cX8_soonest, 3, (some FieldType.int), false, 1235, 1234, 86, 106), (yX8_when, cX8_when, 4, (some FieldType.int), false, 1231, 1229, 1230, 106), (yX8_othersBy, cX8_othersBy, 3, (some FieldType.int), false, 1243, 1242, 87, 106), (yX8_silence, cX8_silence, 6, (some FieldType.int), false, 1239, 1237, 1238, 106), (yX8_hatsBecome, cX8_hatsBecome, 3, none, false, 1251, 1250, 88, 106), (yX8_trick, cX8_trick, 8, (some FieldType.int), false, 1247, 1245, 1246, 106), (yX8_longest, cX8_longest, 6, (some FieldType.int), false, 1255, 1253, 1254, 106), (yX8_whoKnowBy, cX8_whoKnowBy, 7, (some FieldType.int), false, 1263, 1262, 89, 106), (yX8_signal, cX8_signal, 4, (some FieldType.int), false, 1259, 1257, 1258, 106), (yX8_bestSignal, cX8_bestSignal, 8, (some FieldType.int), false, 1267, 1265, 1266, 106)]
def oh_M_6 : List (Nat × oh_T) := [(1, tX8_close), (1, tX8_drawn), (5, tX8_pays), (8, tX8_rings), (4, tX8_goesOn), (3, tX8_rung), (2, tX8_bells), (2, tX8_loose), (2, tX8_why), (3, tX8_possible), (5, tX8_thinks), (1, tX8_begins), (1, tX8_ends), (5, tX8_then), (5, tX8_thenPaid), (3, tX8_soonest), (4, tX8_when), (3, tX8_othersBy), (6, tX8_silence), (3, tX8_hatsBecome), (8, tX8_trick), (6, tX8_longest), (7, tX8_whoKnowBy), (4, tX8_signal), (8, tX8_bestSignal)]
def oh_mi_7 : List oh_MI := [(yX8_look, cX8_look, 7, (some FieldType.int), false, 1271, 1269, 1270, 106), (yX8_common, cX8_common, 5, (some FieldType.int), true, 1278, 1277, 0, 106), (yX8_odds, cX8_odds, 6, (some FieldType.long), false, 1275, 1273, 1274, 106), (yX8_seed, cX8_seed, 3, (some FieldType.int), false, 1282, 1280, 1281, 106), (yX8_ran, cX8_ran, 2, none, false, 1298, 1297, 92, 106), (yX8_own, cX8_own, 1, (some FieldType.int), false, 1290, 1289, 90, 106), (yX8_looks, cX8_looks, 3, (some FieldType.int), false, 1294, 1293, 91, 106), (yX8_thoughts, cX8_thoughts, 4, (some FieldType.int), false, 1302, 1301, 93, 106), (yX8_says, cX8_says, 3, (some FieldType.int), false, 1306, 1305, 94, 106), (yX8_tells, cX8_tells, 4, (some FieldType.int), false, 1310, 1309, 95, 106), (yX8_voice, cX8_voice, 5, (some FieldType.int), false, 1286, 1284, 1285, 106), (yX8_trace, cX8_trace, 2, (some FieldType.int), false, 1314, 1312, 1313, 106), (yX8_isSheet, cX8_isSheet, 1, (some FieldType.boolean), true, 1321, 1320, 0, 106), (yX8_sheet, cX8_sheet, 5, (some FieldType.int), false, 1318, 1316, 1317, 106), (yX8_put, cX8_put, 4, (some FieldType.int), false, 1325, 1323, 1324, 106), (yX8_move, cX8_move, 7, (some FieldType.int), false, 1329, 1327, 1328, 106), (yX8_worlds, cX8_worlds, 6, (some FieldType.int), false, 1333, 1331, 1332, 106), (yX8_image, cX8_image, 1, (some FieldType.int), false, 1337, 1335, 1336, 106), (yX8_restore, cX8_restore, 1, (some FieldType.int), false, 1341, 1339, 1340, 106), (yX8_tell, cX8_tell, 2, (some FieldType.int), false, 1345, 1343, 1344, 106), (yX8_check, cX8_check, 4, (some FieldType.int), false, 1349, 1347, 1348, 106), (yX8_count, cX8_count, 2, (some FieldType.int), false, 1353, 1351, 1352, 106), (yX8_told, cX8_told, 2, (some FieldType.int), false, 1357, 1355, 1356, 106), (yJ6_bitCount_0f7a4, cJ6_bitCount_0f7a4, 1, (some FieldType.int), true, 595, 594, 0, 112), (yJ13_bitCount_95d88, cJ13_bitCount_95d88, 2, (some FieldType.int), true, 605, 604, 0, 113)]
def oh_M_7 : List (Nat × oh_T) := [(7, tX8_look), (5, tX8_common), (6, tX8_odds), (3, tX8_seed), (2, tX8_ran), (1, tX8_own), (3, tX8_looks), (4, tX8_thoughts), (3, tX8_says), (4, tX8_tells), (5, tX8_voice), (2, tX8_trace), (1, tX8_isSheet), (5, tX8_sheet), (4, tX8_put), (7, tX8_move), (6, tX8_worlds), (1, tX8_image), (1, tX8_restore), (2, tX8_tell), (4, tX8_check), (2, tX8_count), (2, tX8_told), (1, tJ6_bitCount_0f7a4), (2, tJ13_bitCount_95d88)]
def oh_mi_8 : List oh_MI := [(yJ9_max_7cf53, cJ9_max_7cf53, 2, (some FieldType.int), true, 198, 197, 0, 102), (yJ9_min_7cf53, cJ9_min_7cf53, 2, (some FieldType.int), true, 362, 361, 0, 102), (yJ0_indexOf_0f7a4, cJ0_indexOf_0f7a4, 2, (some FieldType.int), false, 471, 469, 470, 107)]
def oh_M_8 : List (Nat × oh_T) := [(2, tJ9_max_7cf53), (2, tJ9_min_7cf53), (0, tJ0_indexOf_0f7a4)]
def oh_mi : List oh_MI := oh_mi_0 ++ (oh_mi_1 ++ (oh_mi_2 ++ (oh_mi_3 ++ (oh_mi_4 ++ (oh_mi_5 ++ (oh_mi_6 ++ (oh_mi_7 ++ (oh_mi_8))))))))
def oh_M : List (Nat × oh_T) := oh_M_0 ++ (oh_M_1 ++ (oh_M_2 ++ (oh_M_3 ++ (oh_M_4 ++ (oh_M_5 ++ (oh_M_6 ++ (oh_M_7 ++ (oh_M_8))))))))
end
section
/-! CHECKS of the tables, by program -/
theorem kX0_take : oh_ckT oh_mi yX0_take.cls (none) cX0_take tX0_take = true := by decide +kernel
theorem kX0_drawn : oh_ckT oh_mi yX0_drawn.cls ((some FieldType.int)) cX0_drawn tX0_drawn = true := by decide +kernel
theorem kX0_ringLoosely : oh_ckT oh_mi yX0_ringLoosely.cls (none) cX0_ringLoosely tX0_ringLoosely = true := by decide +kernel
theorem kX1_gives : oh_ckT oh_mi yX1_gives.cls ((some FieldType.int)) cX1_gives tX1_gives = true := by decide +kernel
theorem kX1_workedOut : oh_ckT oh_mi yX1_workedOut.cls ((some FieldType.int)) cX1_workedOut tX1_workedOut = true := by decide +kernel
theorem kX1_named : oh_ckT oh_mi yX1_named.cls ((some FieldType.int)) cX1_named tX1_named = true := by decide +kernel
theorem kX1_joined : oh_ckT oh_mi yX1_joined.cls ((some FieldType.int)) cX1_joined tX1_joined = true := by decide +kernel
theorem kX2_faultOf : oh_ckT oh_mi yX2_faultOf.cls ((some FieldType.int)) cX2_faultOf tX2_faultOf = true := by decide +kernel
theorem kX2_readLevel : oh_ckT oh_mi yX2_readLevel.cls ((some FieldType.boolean)) cX2_readLevel tX2_readLevel = true := by decide +kernel
theorem kX2_readUnit : oh_ckT oh_mi yX2_readUnit.cls ((some FieldType.boolean)) cX2_readUnit tX2_readUnit = true := by decide +kernel
theorem kX2_readNot : oh_ckT oh_mi yX2_readNot.cls ((some FieldType.boolean)) cX2_readNot tX2_readNot = true := by decide +kernel
theorem kX2_readInside : oh_ckT oh_mi yX2_readInside.cls ((some FieldType.boolean)) cX2_readInside tX2_readInside = true := by decide +kernel
theorem kX2_readNumber : oh_ckT oh_mi yX2_readNumber.cls (none) cX2_readNumber tX2_readNumber = true := by decide +kernel
theorem kX2_next : oh_ckT oh_mi yX2_next.cls ((some FieldType.int)) cX2_next tX2_next = true := by decide +kernel
theorem kX2_isDigit : oh_ckT oh_mi yX2_isDigit.cls ((some FieldType.boolean)) cX2_isDigit tX2_isDigit = true := by decide +kernel
theorem kX2_isSignOf : oh_ckT oh_mi yX2_isSignOf.cls ((some FieldType.boolean)) cX2_isSignOf tX2_isSignOf = true := by decide +kernel
theorem kX3_add : oh_ckT oh_mi yX3_add.cls (none) cX3_add tX3_add = true := by decide +kernel
theorem kX3_get : oh_ckT oh_mi yX3_get.cls ((some FieldType.int)) cX3_get tX3_get = true := by decide +kernel
theorem kX3_clear : oh_ckT oh_mi yX3_clear.cls (none) cX3_clear tX3_clear = true := by decide +kernel
theorem kX3_take : oh_ckT oh_mi yX3_take.cls (none) cX3_take tX3_take = true := by decide +kernel
theorem kX4_take : oh_ckT oh_mi yX4_take.cls (none) cX4_take tX4_take = true := by decide +kernel
theorem kX4_worldCount : oh_ckT oh_mi yX4_worldCount.cls ((some FieldType.int)) cX4_worldCount tX4_worldCount = true := by decide +kernel
theorem kX4_addMan : oh_ckT oh_mi yX4_addMan.cls ((some FieldType.int)) cX4_addMan tX4_addMan = true := by decide +kernel
theorem kX4_givenBy : oh_ckT oh_mi yX4_givenBy.cls ((some FieldType.long)) cX4_givenBy tX4_givenBy = true := by decide +kernel
theorem kX4_thought : oh_ckT oh_mi yX4_thought.cls ((some FieldType.long)) cX4_thought tX4_thought = true := by decide +kernel
theorem kX4_hasSpoken : oh_ckT oh_mi yX4_hasSpoken.cls ((some FieldType.boolean)) cX4_hasSpoken tX4_hasSpoken = true := by decide +kernel
theorem kX4_speaks : oh_ckT oh_mi yX4_speaks.cls ((some FieldType.boolean)) cX4_speaks tX4_speaks = true := by decide +kernel
theorem kX4_isSure : oh_ckT oh_mi yX4_isSure.cls ((some FieldType.boolean)) cX4_isSure tX4_isSure = true := by decide +kernel
theorem kX4_speakers : oh_ckT oh_mi yX4_speakers.cls ((some FieldType.int)) cX4_speakers tX4_speakers = true := by decide +kernel
theorem kX4_sayings : oh_ckT oh_mi yX4_sayings.cls ((some FieldType.int)) cX4_sayings tX4_sayings = true := by decide +kernel
theorem kX4_ring : oh_ckT oh_mi yX4_ring.cls ((some FieldType.boolean)) cX4_ring tX4_ring = true := by decide +kernel
theorem kX4_hear : oh_ckT oh_mi yX4_hear.cls ((some FieldType.boolean)) cX4_hear tX4_hear = true := by decide +kernel
theorem kX4_fitting : oh_ckT oh_mi yX4_fitting.cls ((some FieldType.long)) cX4_fitting tX4_fitting = true := by decide +kernel
theorem kX4_payAll : oh_ckT oh_mi yX4_payAll.cls (none) cX4_payAll tX4_payAll = true := by decide +kernel
theorem kX4_isPastAllNumbers : oh_ckT oh_mi yX4_isPastAllNumbers.cls ((some FieldType.boolean)) cX4_isPastAllNumbers tX4_isPastAllNumbers = true := by decide +kernel
theorem kX5_renew : oh_ckT oh_mi yX5_renew.cls (none) cX5_renew tX5_renew = true := by decide +kernel
theorem kX5_write : oh_ckT oh_mi yX5_write.cls (none) cX5_write tX5_write = true := by decide +kernel
theorem kX5_hasRun : oh_ckT oh_mi yX5_hasRun.cls ((some FieldType.boolean)) cX5_hasRun tX5_hasRun = true := by decide +kernel
theorem kX5_asWorlds : oh_ckT oh_mi yX5_asWorlds.cls ((some FieldType.long)) cX5_asWorlds tX5_asWorlds = true := by decide +kernel
theorem kX6_heard : oh_ckT oh_mi yX6_heard.cls ((some FieldType.int)) cX6_heard tX6_heard = true := by decide +kernel
theorem kX6_own : oh_ckT oh_mi yX6_own.cls ((some FieldType.int)) cX6_own tX6_own = true := by decide +kernel
theorem kX6_from : oh_ckT oh_mi yX6_from.cls ((some FieldType.int)) cX6_from tX6_from = true := by decide +kernel
theorem kX6_workedOut : oh_ckT oh_mi yX6_workedOut.cls ((some FieldType.int)) cX6_workedOut tX6_workedOut = true := by decide +kernel
theorem kX7_man : oh_ckT oh_mi yX7_man.cls ((some FieldType.int)) cX7_man tX7_man = true := by decide +kernel
theorem kX7_ofMan : oh_ckT oh_mi yX7_ofMan.cls ((some FieldType.int)) cX7_ofMan tX7_ofMan = true := by decide +kernel
theorem kX7_tellMan : oh_ckT oh_mi yX7_tellMan.cls ((some FieldType.int)) cX7_tellMan tX7_tellMan = true := by decide +kernel
theorem kX7_become : oh_ckT oh_mi yX7_become.cls ((some FieldType.int)) cX7_become tX7_become = true := by decide +kernel
theorem kX7_as : oh_ckT oh_mi yX7_as.cls ((some FieldType.int)) cX7_as tX7_as = true := by decide +kernel
theorem kX7_fine : oh_ckT oh_mi yX7_fine.cls ((some FieldType.int)) cX7_fine tX7_fine = true := by decide +kernel
theorem kX7_feed : oh_ckT oh_mi yX7_feed.cls ((some FieldType.int)) cX7_feed tX7_feed = true := by decide +kernel
theorem kX7_text : oh_ckT oh_mi yX7_text.cls ((some FieldType.int)) cX7_text tX7_text = true := by decide +kernel
theorem kX7_law : oh_ckT oh_mi yX7_law.cls ((some FieldType.int)) cX7_law tX7_law = true := by decide +kernel
theorem kX7_open : oh_ckT oh_mi yX7_open.cls ((some FieldType.int)) cX7_open tX7_open = true := by decide +kernel
theorem kX7_close : oh_ckT oh_mi yX7_close.cls ((some FieldType.int)) cX7_close tX7_close = true := by decide +kernel
theorem kX7_bells : oh_ckT oh_mi yX7_bells.cls ((some FieldType.int)) cX7_bells tX7_bells = true := by decide +kernel
theorem kX7_loose : oh_ckT oh_mi yX7_loose.cls ((some FieldType.int)) cX7_loose tX7_loose = true := by decide +kernel
theorem kX7_possible : oh_ckT oh_mi yX7_possible.cls ((some FieldType.int)) cX7_possible tX7_possible = true := by decide +kernel
theorem kX7_thinks : oh_ckT oh_mi yX7_thinks.cls ((some FieldType.int)) cX7_thinks tX7_thinks = true := by decide +kernel
theorem kX7_then : oh_ckT oh_mi yX7_then.cls ((some FieldType.int)) cX7_then tX7_then = true := by decide +kernel
theorem kX7_thenPaid : oh_ckT oh_mi yX7_thenPaid.cls ((some FieldType.int)) cX7_thenPaid tX7_thenPaid = true := by decide +kernel
theorem kX7_when : oh_ckT oh_mi yX7_when.cls ((some FieldType.int)) cX7_when tX7_when = true := by decide +kernel
theorem kX7_silence : oh_ckT oh_mi yX7_silence.cls ((some FieldType.int)) cX7_silence tX7_silence = true := by decide +kernel
theorem kX7_trick : oh_ckT oh_mi yX7_trick.cls ((some FieldType.int)) cX7_trick tX7_trick = true := by decide +kernel
theorem kX7_longest : oh_ckT oh_mi yX7_longest.cls ((some FieldType.int)) cX7_longest tX7_longest = true := by decide +kernel
theorem kX7_signal : oh_ckT oh_mi yX7_signal.cls ((some FieldType.int)) cX7_signal tX7_signal = true := by decide +kernel
theorem kX7_bestSignal : oh_ckT oh_mi yX7_bestSignal.cls ((some FieldType.int)) cX7_bestSignal tX7_bestSignal = true := by decide +kernel
theorem kX7_look : oh_ckT oh_mi yX7_look.cls ((some FieldType.int)) cX7_look tX7_look = true := by decide +kernel
theorem kX7_odds : oh_ckT oh_mi yX7_odds.cls ((some FieldType.long)) cX7_odds tX7_odds = true := by decide +kernel
theorem kX7_seed : oh_ckT oh_mi yX7_seed.cls ((some FieldType.int)) cX7_seed tX7_seed = true := by decide +kernel
theorem kX7_voice : oh_ckT oh_mi yX7_voice.cls ((some FieldType.int)) cX7_voice tX7_voice = true := by decide +kernel
theorem kX7_trace : oh_ckT oh_mi yX7_trace.cls ((some FieldType.int)) cX7_trace tX7_trace = true := by decide +kernel
theorem kX7_sheet : oh_ckT oh_mi yX7_sheet.cls ((some FieldType.int)) cX7_sheet tX7_sheet = true := by decide +kernel
theorem kX7_put : oh_ckT oh_mi yX7_put.cls ((some FieldType.int)) cX7_put tX7_put = true := by decide +kernel
theorem kX7_move : oh_ckT oh_mi yX7_move.cls ((some FieldType.int)) cX7_move tX7_move = true := by decide +kernel
theorem kX7_worlds : oh_ckT oh_mi yX7_worlds.cls ((some FieldType.int)) cX7_worlds tX7_worlds = true := by decide +kernel
theorem kX7_image : oh_ckT oh_mi yX7_image.cls ((some FieldType.int)) cX7_image tX7_image = true := by decide +kernel
theorem kX7_restore : oh_ckT oh_mi yX7_restore.cls ((some FieldType.int)) cX7_restore tX7_restore = true := by decide +kernel
theorem kX7_tell : oh_ckT oh_mi yX7_tell.cls ((some FieldType.int)) cX7_tell tX7_tell = true := by decide +kernel
theorem kX7_check : oh_ckT oh_mi yX7_check.cls ((some FieldType.int)) cX7_check tX7_check = true := by decide +kernel
theorem kX7_count : oh_ckT oh_mi yX7_count.cls ((some FieldType.int)) cX7_count tX7_count = true := by decide +kernel
theorem kX7_told : oh_ckT oh_mi yX7_told.cls ((some FieldType.int)) cX7_told tX7_told = true := by decide +kernel
theorem kX7_failed : oh_ckT oh_mi yX7_failed.cls ((some FieldType.int)) cX7_failed tX7_failed = true := by decide +kernel
theorem kX7_isMan : oh_ckT oh_mi yX7_isMan.cls ((some FieldType.boolean)) cX7_isMan tX7_isMan = true := by decide +kernel
theorem kX7_isWorld : oh_ckT oh_mi yX7_isWorld.cls ((some FieldType.boolean)) cX7_isWorld tX7_isWorld = true := by decide +kernel
theorem kX7_isKindWithNumber : oh_ckT oh_mi yX7_isKindWithNumber.cls ((some FieldType.boolean)) cX7_isKindWithNumber tX7_isKindWithNumber = true := by decide +kernel
theorem kX7_isUse : oh_ckT oh_mi yX7_isUse.cls ((some FieldType.boolean)) cX7_isUse tX7_isUse = true := by decide +kernel
theorem kX7_isAhead : oh_ckT oh_mi yX7_isAhead.cls ((some FieldType.boolean)) cX7_isAhead tX7_isAhead = true := by decide +kernel
theorem kX7_isSheet : oh_ckT oh_mi yX7_isSheet.cls ((some FieldType.boolean)) cX7_isSheet tX7_isSheet = true := by decide +kernel
theorem kX7_isOfKind : oh_ckT oh_mi yX7_isOfKind.cls ((some FieldType.boolean)) cX7_isOfKind tX7_isOfKind = true := by decide +kernel
theorem kX7_lawOf : oh_ckT oh_mi yX7_lawOf.cls ((some (FieldType.object "OtherHat$Law"))) cX7_lawOf tX7_lawOf = true := by decide +kernel
theorem kX7_whyNoBells : oh_ckT oh_mi yX7_whyNoBells.cls ((some FieldType.int)) cX7_whyNoBells tX7_whyNoBells = true := by decide +kernel
theorem kX7_startAhead : oh_ckT oh_mi yX7_startAhead.cls (none) cX7_startAhead tX7_startAhead = true := by decide +kernel
theorem kX7_ringAhead : oh_ckT oh_mi yX7_ringAhead.cls ((some FieldType.int)) cX7_ringAhead tX7_ringAhead = true := by decide +kernel
theorem kX7_bellsTillSpoken : oh_ckT oh_mi yX7_bellsTillSpoken.cls ((some FieldType.int)) cX7_bellsTillSpoken tX7_bellsTillSpoken = true := by decide +kernel
theorem kX7_ranAlike : oh_ckT oh_mi yX7_ranAlike.cls ((some FieldType.long)) cX7_ranAlike tX7_ranAlike = true := by decide +kernel
theorem kX7_knowBySignal : oh_ckT oh_mi yX7_knowBySignal.cls ((some FieldType.int)) cX7_knowBySignal tX7_knowBySignal = true := by decide +kernel
theorem kX7_commonDivisor : oh_ckT oh_mi yX7_commonDivisor.cls ((some FieldType.int)) cX7_commonDivisor tX7_commonDivisor = true := by decide +kernel
theorem kX7_bit : oh_ckT oh_mi yX7_bit.cls ((some FieldType.int)) cX7_bit tX7_bit = true := by decide +kernel
theorem kX7_held : oh_ckT oh_mi yX7_held.cls ((some FieldType.int)) cX7_held tX7_held = true := by decide +kernel
theorem kX7_holds : oh_ckT oh_mi yX7_holds.cls ((some FieldType.boolean)) cX7_holds tX7_holds = true := by decide +kernel
theorem kX7_blacks : oh_ckT oh_mi yX7_blacks.cls ((some FieldType.int)) cX7_blacks tX7_blacks = true := by decide +kernel
theorem kX7_whites : oh_ckT oh_mi yX7_whites.cls ((some FieldType.int)) cX7_whites tX7_whites = true := by decide +kernel
theorem kX7_knows : oh_ckT oh_mi yX7_knows.cls ((some FieldType.boolean)) cX7_knows tX7_knows = true := by decide +kernel
theorem kX7_wouldSay : oh_ckT oh_mi yX7_wouldSay.cls ((some FieldType.int)) cX7_wouldSay tX7_wouldSay = true := by decide +kernel
theorem kX7_allWhite : oh_ckT oh_mi yX7_allWhite.cls ((some FieldType.long)) cX7_allWhite tX7_allWhite = true := by decide +kernel
theorem kX8_finds : oh_ckT oh_mi yX8_finds.cls ((some FieldType.int)) cX8_finds tX8_finds = true := by decide +kernel
theorem kX8_in : oh_ckT oh_mi yX8_in.cls ((some FieldType.boolean)) cX8_in tX8_in = true := by decide +kernel
theorem kX8_held : oh_ckT oh_mi yX8_held.cls ((some FieldType.int)) cX8_held tX8_held = true := by decide +kernel
theorem kX8_copies : oh_ckT oh_mi yX8_copies.cls (none) cX8_copies tX8_copies = true := by decide +kernel
theorem kX8_isMan : oh_ckT oh_mi yX8_isMan.cls ((some FieldType.boolean)) cX8_isMan tX8_isMan = true := by decide +kernel
theorem kX8_of : oh_ckT oh_mi yX8_of.cls ((some FieldType.int)) cX8_of tX8_of = true := by decide +kernel
theorem kX8_becomes : oh_ckT oh_mi yX8_becomes.cls (none) cX8_becomes tX8_becomes = true := by decide +kernel
theorem kX8_allMen : oh_ckT oh_mi yX8_allMen.cls ((some FieldType.int)) cX8_allMen tX8_allMen = true := by decide +kernel
theorem kX8_isOpen : oh_ckT oh_mi yX8_isOpen.cls ((some FieldType.boolean)) cX8_isOpen tX8_isOpen = true := by decide +kernel
theorem kX8_here : oh_ckT oh_mi yX8_here.cls ((some FieldType.int)) cX8_here tX8_here = true := by decide +kernel
theorem kX8_wrong : oh_ckT oh_mi yX8_wrong.cls ((some FieldType.int)) cX8_wrong tX8_wrong = true := by decide +kernel
theorem kX8_takes : oh_ckT oh_mi yX8_takes.cls ((some FieldType.boolean)) cX8_takes tX8_takes = true := by decide +kernel
theorem kX8_nameOf : oh_ckT oh_mi yX8_nameOf.cls ((some FieldType.int)) cX8_nameOf tX8_nameOf = true := by decide +kernel
theorem kX8_either : oh_ckT oh_mi yX8_either.cls ((some FieldType.int)) cX8_either tX8_either = true := by decide +kernel
theorem kX8_both : oh_ckT oh_mi yX8_both.cls ((some FieldType.int)) cX8_both tX8_both = true := by decide +kernel
theorem kX8_compared : oh_ckT oh_mi yX8_compared.cls ((some FieldType.int)) cX8_compared tX8_compared = true := by decide +kernel
theorem kX8_sum : oh_ckT oh_mi yX8_sum.cls ((some FieldType.int)) cX8_sum tX8_sum = true := by decide +kernel
theorem kX8_product : oh_ckT oh_mi yX8_product.cls ((some FieldType.int)) cX8_product tX8_product = true := by decide +kernel
theorem kX8_unit : oh_ckT oh_mi yX8_unit.cls ((some FieldType.int)) cX8_unit tX8_unit = true := by decide +kernel
theorem kX8_worked : oh_ckT oh_mi yX8_worked.cls ((some FieldType.int)) cX8_worked tX8_worked = true := by decide +kernel
theorem kX8_feed : oh_ckT oh_mi yX8_feed.cls ((some FieldType.int)) cX8_feed tX8_feed = true := by decide +kernel
theorem kX8_text : oh_ckT oh_mi yX8_text.cls ((some FieldType.int)) cX8_text tX8_text = true := by decide +kernel
theorem kX8_gives : oh_ckT oh_mi yX8_gives.cls ((some FieldType.int)) cX8_gives tX8_gives = true := by decide +kernel
theorem kX8_law : oh_ckT oh_mi yX8_law.cls ((some FieldType.int)) cX8_law tX8_law = true := by decide +kernel
theorem kX8_man : oh_ckT oh_mi yX8_man.cls ((some FieldType.int)) cX8_man tX8_man = true := by decide +kernel
theorem kX8_ofMan : oh_ckT oh_mi yX8_ofMan.cls ((some FieldType.int)) cX8_ofMan tX8_ofMan = true := by decide +kernel
theorem kX8_tellMan : oh_ckT oh_mi yX8_tellMan.cls ((some FieldType.int)) cX8_tellMan tX8_tellMan = true := by decide +kernel
theorem kX8_become : oh_ckT oh_mi yX8_become.cls ((some FieldType.int)) cX8_become tX8_become = true := by decide +kernel
theorem kX8_above : oh_ckT oh_mi yX8_above.cls ((some FieldType.int)) cX8_above tX8_above = true := by decide +kernel
theorem kX8_as : oh_ckT oh_mi yX8_as.cls ((some FieldType.int)) cX8_as tX8_as = true := by decide +kernel
theorem kX8_fine : oh_ckT oh_mi yX8_fine.cls ((some FieldType.int)) cX8_fine tX8_fine = true := by decide +kernel
theorem kX8_ones : oh_ckT oh_mi yX8_ones.cls ((some FieldType.int)) cX8_ones tX8_ones = true := by decide +kernel
theorem kX8_manyOf : oh_ckT oh_mi yX8_manyOf.cls ((some FieldType.int)) cX8_manyOf tX8_manyOf = true := by decide +kernel
theorem kX8_isPossible : oh_ckT oh_mi yX8_isPossible.cls ((some FieldType.boolean)) cX8_isPossible tX8_isPossible = true := by decide +kernel
theorem kX8_hats : oh_ckT oh_mi yX8_hats.cls ((some FieldType.int)) cX8_hats tX8_hats = true := by decide +kernel
theorem kX8_think : oh_ckT oh_mi yX8_think.cls (none) cX8_think tX8_think = true := by decide +kernel
theorem kX8_blackOf : oh_ckT oh_mi yX8_blackOf.cls ((some FieldType.int)) cX8_blackOf tX8_blackOf = true := by decide +kernel
theorem kX8_whiteOf : oh_ckT oh_mi yX8_whiteOf.cls ((some FieldType.int)) cX8_whiteOf tX8_whiteOf = true := by decide +kernel
theorem kX8_knows : oh_ckT oh_mi yX8_knows.cls ((some FieldType.boolean)) cX8_knows tX8_knows = true := by decide +kernel
theorem kX8_wouldSay : oh_ckT oh_mi yX8_wouldSay.cls ((some FieldType.int)) cX8_wouldSay tX8_wouldSay = true := by decide +kernel
theorem kX8_isHasty : oh_ckT oh_mi yX8_isHasty.cls ((some FieldType.boolean)) cX8_isHasty tX8_isHasty = true := by decide +kernel
theorem kX8_speaks : oh_ckT oh_mi yX8_speaks.cls ((some FieldType.boolean)) cX8_speaks tX8_speaks = true := by decide +kernel
theorem kX8_speakers : oh_ckT oh_mi yX8_speakers.cls ((some FieldType.int)) cX8_speakers tX8_speakers = true := by decide +kernel
theorem kX8_sayings : oh_ckT oh_mi yX8_sayings.cls ((some FieldType.int)) cX8_sayings tX8_sayings = true := by decide +kernel
theorem kX8_open : oh_ckT oh_mi yX8_open.cls ((some FieldType.int)) cX8_open tX8_open = true := by decide +kernel
theorem kX8_close : oh_ckT oh_mi yX8_close.cls ((some FieldType.int)) cX8_close tX8_close = true := by decide +kernel
theorem kX8_drawn : oh_ckT oh_mi yX8_drawn.cls ((some FieldType.int)) cX8_drawn tX8_drawn = true := by decide +kernel
theorem kX8_pays : oh_ckT oh_mi yX8_pays.cls (none) cX8_pays tX8_pays = true := by decide +kernel
theorem kX8_rings : oh_ckT oh_mi yX8_rings.cls (none) cX8_rings tX8_rings = true := by decide +kernel
theorem kX8_goesOn : oh_ckT oh_mi yX8_goesOn.cls (none) cX8_goesOn tX8_goesOn = true := by decide +kernel
theorem kX8_rung : oh_ckT oh_mi yX8_rung.cls ((some FieldType.int)) cX8_rung tX8_rung = true := by decide +kernel
theorem kX8_bells : oh_ckT oh_mi yX8_bells.cls ((some FieldType.int)) cX8_bells tX8_bells = true := by decide +kernel
theorem kX8_loose : oh_ckT oh_mi yX8_loose.cls ((some FieldType.int)) cX8_loose tX8_loose = true := by decide +kernel
theorem kX8_why : oh_ckT oh_mi yX8_why.cls ((some FieldType.int)) cX8_why tX8_why = true := by decide +kernel
theorem kX8_possible : oh_ckT oh_mi yX8_possible.cls ((some FieldType.int)) cX8_possible tX8_possible = true := by decide +kernel
theorem kX8_thinks : oh_ckT oh_mi yX8_thinks.cls ((some FieldType.int)) cX8_thinks tX8_thinks = true := by decide +kernel
theorem kX8_begins : oh_ckT oh_mi yX8_begins.cls (none) cX8_begins tX8_begins = true := by decide +kernel
theorem kX8_ends : oh_ckT oh_mi yX8_ends.cls (none) cX8_ends tX8_ends = true := by decide +kernel
theorem kX8_then : oh_ckT oh_mi yX8_then.cls ((some FieldType.int)) cX8_then tX8_then = true := by decide +kernel
theorem kX8_thenPaid : oh_ckT oh_mi yX8_thenPaid.cls ((some FieldType.int)) cX8_thenPaid tX8_thenPaid = true := by decide +kernel
theorem kX8_soonest : oh_ckT oh_mi yX8_soonest.cls ((some FieldType.int)) cX8_soonest tX8_soonest = true := by decide +kernel
theorem kX8_when : oh_ckT oh_mi yX8_when.cls ((some FieldType.int)) cX8_when tX8_when = true := by decide +kernel
theorem kX8_othersBy : oh_ckT oh_mi yX8_othersBy.cls ((some FieldType.int)) cX8_othersBy tX8_othersBy = true := by decide +kernel
theorem kX8_silence : oh_ckT oh_mi yX8_silence.cls ((some FieldType.int)) cX8_silence tX8_silence = true := by decide +kernel
theorem kX8_hatsBecome : oh_ckT oh_mi yX8_hatsBecome.cls (none) cX8_hatsBecome tX8_hatsBecome = true := by decide +kernel
theorem kX8_trick : oh_ckT oh_mi yX8_trick.cls ((some FieldType.int)) cX8_trick tX8_trick = true := by decide +kernel
theorem kX8_longest : oh_ckT oh_mi yX8_longest.cls ((some FieldType.int)) cX8_longest tX8_longest = true := by decide +kernel
theorem kX8_whoKnowBy : oh_ckT oh_mi yX8_whoKnowBy.cls ((some FieldType.int)) cX8_whoKnowBy tX8_whoKnowBy = true := by decide +kernel
theorem kX8_signal : oh_ckT oh_mi yX8_signal.cls ((some FieldType.int)) cX8_signal tX8_signal = true := by decide +kernel
theorem kX8_bestSignal : oh_ckT oh_mi yX8_bestSignal.cls ((some FieldType.int)) cX8_bestSignal tX8_bestSignal = true := by decide +kernel
theorem kX8_look : oh_ckT oh_mi yX8_look.cls ((some FieldType.int)) cX8_look tX8_look = true := by decide +kernel
theorem kX8_common : oh_ckT oh_mi yX8_common.cls ((some FieldType.int)) cX8_common tX8_common = true := by decide +kernel
theorem kX8_odds : oh_ckT oh_mi yX8_odds.cls ((some FieldType.long)) cX8_odds tX8_odds = true := by decide +kernel
theorem kX8_seed : oh_ckT oh_mi yX8_seed.cls ((some FieldType.int)) cX8_seed tX8_seed = true := by decide +kernel
theorem kX8_ran : oh_ckT oh_mi yX8_ran.cls (none) cX8_ran tX8_ran = true := by decide +kernel
theorem kX8_own : oh_ckT oh_mi yX8_own.cls ((some FieldType.int)) cX8_own tX8_own = true := by decide +kernel
theorem kX8_looks : oh_ckT oh_mi yX8_looks.cls ((some FieldType.int)) cX8_looks tX8_looks = true := by decide +kernel
theorem kX8_thoughts : oh_ckT oh_mi yX8_thoughts.cls ((some FieldType.int)) cX8_thoughts tX8_thoughts = true := by decide +kernel
theorem kX8_says : oh_ckT oh_mi yX8_says.cls ((some FieldType.int)) cX8_says tX8_says = true := by decide +kernel
theorem kX8_tells : oh_ckT oh_mi yX8_tells.cls ((some FieldType.int)) cX8_tells tX8_tells = true := by decide +kernel
theorem kX8_voice : oh_ckT oh_mi yX8_voice.cls ((some FieldType.int)) cX8_voice tX8_voice = true := by decide +kernel
theorem kX8_trace : oh_ckT oh_mi yX8_trace.cls ((some FieldType.int)) cX8_trace tX8_trace = true := by decide +kernel
theorem kX8_isSheet : oh_ckT oh_mi yX8_isSheet.cls ((some FieldType.boolean)) cX8_isSheet tX8_isSheet = true := by decide +kernel
theorem kX8_sheet : oh_ckT oh_mi yX8_sheet.cls ((some FieldType.int)) cX8_sheet tX8_sheet = true := by decide +kernel
theorem kX8_put : oh_ckT oh_mi yX8_put.cls ((some FieldType.int)) cX8_put tX8_put = true := by decide +kernel
theorem kX8_move : oh_ckT oh_mi yX8_move.cls ((some FieldType.int)) cX8_move tX8_move = true := by decide +kernel
theorem kX8_worlds : oh_ckT oh_mi yX8_worlds.cls ((some FieldType.int)) cX8_worlds tX8_worlds = true := by decide +kernel
theorem kX8_image : oh_ckT oh_mi yX8_image.cls ((some FieldType.int)) cX8_image tX8_image = true := by decide +kernel
theorem kX8_restore : oh_ckT oh_mi yX8_restore.cls ((some FieldType.int)) cX8_restore tX8_restore = true := by decide +kernel
theorem kX8_tell : oh_ckT oh_mi yX8_tell.cls ((some FieldType.int)) cX8_tell tX8_tell = true := by decide +kernel
theorem kX8_check : oh_ckT oh_mi yX8_check.cls ((some FieldType.int)) cX8_check tX8_check = true := by decide +kernel
theorem kX8_count : oh_ckT oh_mi yX8_count.cls ((some FieldType.int)) cX8_count tX8_count = true := by decide +kernel
theorem kX8_told : oh_ckT oh_mi yX8_told.cls ((some FieldType.int)) cX8_told tX8_told = true := by decide +kernel
theorem kJ6_bitCount_0f7a4 : oh_ckT oh_mi yJ6_bitCount_0f7a4.cls ((some FieldType.int)) cJ6_bitCount_0f7a4 tJ6_bitCount_0f7a4 = true := by decide +kernel
theorem kJ13_bitCount_95d88 : oh_ckT oh_mi yJ13_bitCount_95d88.cls ((some FieldType.int)) cJ13_bitCount_95d88 tJ13_bitCount_95d88 = true := by decide +kernel
theorem kJ9_max_7cf53 : oh_ckT oh_mi yJ9_max_7cf53.cls ((some FieldType.int)) cJ9_max_7cf53 tJ9_max_7cf53 = true := by decide +kernel
theorem kJ9_min_7cf53 : oh_ckT oh_mi yJ9_min_7cf53.cls ((some FieldType.int)) cJ9_min_7cf53 tJ9_min_7cf53 = true := by decide +kernel
end
section
/-! WHAT EACH STRETCH COMES TO, by program (wip/whole/gen3.py) -/
def GC : List oh_Sh := [.inl (7, [(2, 1), (2, 19), (2, 37), (2, 42), (2, 47), (2, 50), (2, 59), (0, 0)]), .inl (0, [(2, 2), (2, 7), (2, 11), (2, 15), (2, 17), (0, 0)]), .inl (4, [(0, 0), (2, 3), (2, 4), (2, 5), (2, 6), (0, 0), (0, 0), (4, 0), (1, 0), (0, 0), (0, 0)]), .inr (.inl 6), .inr (.inl 6), .inr (.inl 6), .inr (.inl 6), .inl (1, [(0, 0), (2, 8), (2, 10)]), .inl (3, [(2, 9), (0, 0)]), .inr (.inl 50), .inr (.inl 50), .inl (1, [(0, 0), (2, 12), (2, 14)]), .inl (3, [(2, 13), (0, 0)]), .inr (.inl 50), .inr (.inl 50), .inl (3, [(2, 16), (0, 0)]), .inr (.inl 50), .inl (3, [(2, 18), (0, 0)]), .inr (.inl 20), .inl (0, [(2, 20), (2, 25), (2, 29), (2, 33), (2, 35), (0, 0)]), .inl (4, [(0, 0), (2, 21), (2, 22), (2, 23), (2, 24), (0, 0), (0, 0), (4, 0), (1, 0), (0, 0), (0, 0)]), .inr (.inl 6), .inr (.inl 6), .inr (.inl 6), .inr (.inl 6), .inl (1, [(0, 0), (2, 26), (2, 28)]), .inl (3, [(2, 27), (0, 0)]), .inr (.inl 50), .inr (.inl 50), .inl (1, [(0, 0), (2, 30), (2, 32)]), .inl (3, [(2, 31), (0, 0)]), .inr (.inl 50), .inr (.inl 50), .inl (3, [(2, 34), (0, 0)]), .inr (.inl 50), .inl (3, [(2, 36), (0, 0)]), .inr (.inl 20), .inl (4, [(0, 0), (2, 38), (2, 39), (2, 40), (2, 41), (0, 0), (0, 0), (4, 0), (1, 0), (0, 0), (0, 0)]), .inr (.inl 6), .inr (.inl 6), .inr (.inl 6), .inr (.inl 6), .inl (2, [(2, 43), (2, 45), (3, 0), (0, 0)]), .inl (3, [(2, 44), (0, 0)]), .inr (.inl 50), .inl (3, [(2, 46), (0, 0)]), .inr (.inl 50), .inl (6, [(2, 48), (0, 0), (0, 0), (0, 0)]), .inl (3, [(2, 49), (0, 0)]), .inr (.inl 40), .inr (.inr [51, 53, 55, 57]), .inl (5, [(0, 0), (0, 0), (2, 52)]), .inr (.inl 40), .inl (5, [(0, 0), (0, 0), (2, 54)]), .inr (.inl 40), .inl (5, [(0, 0), (0, 0), (2, 56)]), .inr (.inl 40), .inl (5, [(0, 0), (0, 0), (2, 58)]), .inr (.inl 40), .inr (.inl 6)]
def GM : List oh_Sh := [.inl (8, [(2, 1), (2, 2), (2, 3), (1, 0), (1, 0), (1, 0), (0, 0), (2, 4), (0, 0), (0, 0), (0, 0), (0, 0), (0, 0), (4, 0), (2, 5), (2, 6), (2, 7), (2, 8), (2, 9), (2, 10), (0, 0), (0, 0), (2, 11), (2, 12), (2, 13), (2, 14)]), .inr (.inl 210), .inr (.inl 210), .inr (.inl 210), .inr (.inl 6), .inr (.inl 4), .inr (.inl 384), .inr (.inl 384), .inr (.inl 6), .inr (.inl 6), .inr (.inl 40), .inr (.inl 4), .inr (.inl 4), .inr (.inl 160), .inr (.inl 40)]
theorem GC_ok : oh_ckG GC = true := by decide +kernel
theorem GM_ok : oh_ckG GM = true := by decide +kernel
abbrev CM (d : Nat) : oh_E := oh_mwp GC oh_M d
abbrev MM (d : Nat) : oh_E := oh_mwp GM oh_M d
def oh_ln1 (o : Nat) : Nat := match oh_nth GC (o + 1) with
  | some (.inr (.inl n)) => n
  | _ => 0
abbrev oh_l1000 : List Int32 := [-1, 0, 0, 0, 1, 2, 3]
abbrev oh_l1001 : List Int32 := [10, 11, 12, 13, 0, 20, 0, 0, 30, 0, 0, 0, 0, 0, 40, 0, 0, 50, 0, 0, 0, 0, 0, 60, 0, 0, 70, 71]
abbrev oh_l1002 : List Int64 := [-6148914691236517206, -3689348814741910324, -1085102592571150096, -71777214294589696, -281470681808896, -4294967296]
theorem oh_mwp_1 {G : List oh_Sh} {M : List (Nat × oh_T)} {d j nL : Nat} {T : oh_T} {a : List Value} {h : oh_St} {Q : oh_Q} (hj : oh_nth M j = some (nL + 1, T)) (hl : Nat.ble (oh_arg a).length (nL + 1) = true) (q : oh_J T (oh_wp G T (oh_mwp G M d) Q) (oh_wp G T (oh_mwp G M d) Q) 0 (oh_pad (nL + 1) (oh_arg a)) [] h) : oh_mwp G M (d + 1) j a h Q := by
  unfold oh_mwp
  rw [hj]
  exact ⟨hl, q⟩
abbrev jX0_take : Nat := 0
abbrev jX0_drawn : Nat := 1
abbrev jX0_ringLoosely : Nat := 2
abbrev jX1_gives : Nat := 3
abbrev jX1_workedOut : Nat := 4
abbrev jX1_named : Nat := 5
abbrev jX1_joined : Nat := 6
abbrev jX2_faultOf : Nat := 7
abbrev jX2_readLevel : Nat := 8
abbrev jX2_readUnit : Nat := 9
abbrev jX2_readNot : Nat := 10
abbrev jX2_readInside : Nat := 11
abbrev jX2_readNumber : Nat := 12
abbrev jX2_next : Nat := 13
abbrev jX2_isDigit : Nat := 14
abbrev jX2_isSignOf : Nat := 15
abbrev jX3_add : Nat := 16
abbrev jX3_get : Nat := 17
abbrev jX3_clear : Nat := 18
abbrev jX3_take : Nat := 19
abbrev jX4_take : Nat := 20
abbrev jX4_worldCount : Nat := 21
abbrev jX4_addMan : Nat := 22
abbrev jX4_givenBy : Nat := 23
abbrev jX4_thought : Nat := 24
abbrev jX4_hasSpoken : Nat := 25
abbrev jX4_speaks : Nat := 26
abbrev jX4_isSure : Nat := 27
abbrev jX4_speakers : Nat := 28
abbrev jX4_sayings : Nat := 29
abbrev jX4_ring : Nat := 30
abbrev jX4_hear : Nat := 31
abbrev jX4_fitting : Nat := 32
abbrev jX4_payAll : Nat := 33
abbrev jX4_isPastAllNumbers : Nat := 34
abbrev jX5_renew : Nat := 35
abbrev jX5_write : Nat := 36
abbrev jX5_hasRun : Nat := 37
abbrev jX5_asWorlds : Nat := 38
abbrev jX6_heard : Nat := 39
abbrev jX6_own : Nat := 40
abbrev jX6_from : Nat := 41
abbrev jX6_workedOut : Nat := 42
abbrev jX7_man : Nat := 43
abbrev jX7_ofMan : Nat := 44
abbrev jX7_tellMan : Nat := 45
abbrev jX7_become : Nat := 46
abbrev jX7_as : Nat := 47
abbrev jX7_fine : Nat := 48
abbrev jX7_feed : Nat := 49
abbrev jX7_text : Nat := 50
abbrev jX7_law : Nat := 51
abbrev jX7_open : Nat := 52
abbrev jX7_close : Nat := 53
abbrev jX7_bells : Nat := 54
abbrev jX7_loose : Nat := 55
abbrev jX7_possible : Nat := 56
abbrev jX7_thinks : Nat := 57
abbrev jX7_then : Nat := 58
abbrev jX7_thenPaid : Nat := 59
abbrev jX7_when : Nat := 60
abbrev jX7_silence : Nat := 61
abbrev jX7_trick : Nat := 62
abbrev jX7_longest : Nat := 63
abbrev jX7_signal : Nat := 64
abbrev jX7_bestSignal : Nat := 65
abbrev jX7_look : Nat := 66
abbrev jX7_odds : Nat := 67
abbrev jX7_seed : Nat := 68
abbrev jX7_voice : Nat := 69
abbrev jX7_trace : Nat := 70
abbrev jX7_sheet : Nat := 71
abbrev jX7_put : Nat := 72
abbrev jX7_move : Nat := 73
abbrev jX7_worlds : Nat := 74
abbrev jX7_image : Nat := 75
abbrev jX7_restore : Nat := 76
abbrev jX7_tell : Nat := 77
abbrev jX7_check : Nat := 78
abbrev jX7_count : Nat := 79
abbrev jX7_told : Nat := 80
abbrev jX7_failed : Nat := 81
abbrev jX7_isMan : Nat := 82
abbrev jX7_isWorld : Nat := 83
abbrev jX7_isKindWithNumber : Nat := 84
abbrev jX7_isUse : Nat := 85
abbrev jX7_isAhead : Nat := 86
abbrev jX7_isSheet : Nat := 87
abbrev jX7_isOfKind : Nat := 88
abbrev jX7_lawOf : Nat := 89
abbrev jX7_whyNoBells : Nat := 90
abbrev jX7_startAhead : Nat := 91
abbrev jX7_ringAhead : Nat := 92
abbrev jX7_bellsTillSpoken : Nat := 93
abbrev jX7_ranAlike : Nat := 94
abbrev jX7_knowBySignal : Nat := 95
abbrev jX7_commonDivisor : Nat := 96
abbrev jX7_bit : Nat := 97
abbrev jX7_held : Nat := 98
abbrev jX7_holds : Nat := 99
abbrev jX7_blacks : Nat := 100
abbrev jX7_whites : Nat := 101
abbrev jX7_knows : Nat := 102
abbrev jX7_wouldSay : Nat := 103
abbrev jX7_allWhite : Nat := 104
abbrev jX8_finds : Nat := 105
abbrev jX8_in : Nat := 106
abbrev jX8_held : Nat := 107
abbrev jX8_copies : Nat := 108
abbrev jX8_isMan : Nat := 109
abbrev jX8_of : Nat := 110
abbrev jX8_becomes : Nat := 111
abbrev jX8_allMen : Nat := 112
abbrev jX8_isOpen : Nat := 113
abbrev jX8_here : Nat := 114
abbrev jX8_wrong : Nat := 115
abbrev jX8_takes : Nat := 116
abbrev jX8_nameOf : Nat := 117
abbrev jX8_either : Nat := 118
abbrev jX8_both : Nat := 119
abbrev jX8_compared : Nat := 120
abbrev jX8_sum : Nat := 121
abbrev jX8_product : Nat := 122
abbrev jX8_unit : Nat := 123
abbrev jX8_worked : Nat := 124
abbrev jX8_feed : Nat := 125
abbrev jX8_text : Nat := 126
abbrev jX8_gives : Nat := 127
abbrev jX8_law : Nat := 128
abbrev jX8_man : Nat := 129
abbrev jX8_ofMan : Nat := 130
abbrev jX8_tellMan : Nat := 131
abbrev jX8_become : Nat := 132
abbrev jX8_above : Nat := 133
abbrev jX8_as : Nat := 134
abbrev jX8_fine : Nat := 135
abbrev jX8_ones : Nat := 136
abbrev jX8_manyOf : Nat := 137
abbrev jX8_isPossible : Nat := 138
abbrev jX8_hats : Nat := 139
abbrev jX8_think : Nat := 140
abbrev jX8_blackOf : Nat := 141
abbrev jX8_whiteOf : Nat := 142
abbrev jX8_knows : Nat := 143
abbrev jX8_wouldSay : Nat := 144
abbrev jX8_isHasty : Nat := 145
abbrev jX8_speaks : Nat := 146
abbrev jX8_speakers : Nat := 147
abbrev jX8_sayings : Nat := 148
abbrev jX8_open : Nat := 149
abbrev jX8_close : Nat := 150
abbrev jX8_drawn : Nat := 151
abbrev jX8_pays : Nat := 152
abbrev jX8_rings : Nat := 153
abbrev jX8_goesOn : Nat := 154
abbrev jX8_rung : Nat := 155
abbrev jX8_bells : Nat := 156
abbrev jX8_loose : Nat := 157
abbrev jX8_why : Nat := 158
abbrev jX8_possible : Nat := 159
abbrev jX8_thinks : Nat := 160
abbrev jX8_begins : Nat := 161
abbrev jX8_ends : Nat := 162
abbrev jX8_then : Nat := 163
abbrev jX8_thenPaid : Nat := 164
abbrev jX8_soonest : Nat := 165
abbrev jX8_when : Nat := 166
abbrev jX8_othersBy : Nat := 167
abbrev jX8_silence : Nat := 168
abbrev jX8_hatsBecome : Nat := 169
abbrev jX8_trick : Nat := 170
abbrev jX8_longest : Nat := 171
abbrev jX8_whoKnowBy : Nat := 172
abbrev jX8_signal : Nat := 173
abbrev jX8_bestSignal : Nat := 174
abbrev jX8_look : Nat := 175
abbrev jX8_common : Nat := 176
abbrev jX8_odds : Nat := 177
abbrev jX8_seed : Nat := 178
abbrev jX8_ran : Nat := 179
abbrev jX8_own : Nat := 180
abbrev jX8_looks : Nat := 181
abbrev jX8_thoughts : Nat := 182
abbrev jX8_says : Nat := 183
abbrev jX8_tells : Nat := 184
abbrev jX8_voice : Nat := 185
abbrev jX8_trace : Nat := 186
abbrev jX8_isSheet : Nat := 187
abbrev jX8_sheet : Nat := 188
abbrev jX8_put : Nat := 189
abbrev jX8_move : Nat := 190
abbrev jX8_worlds : Nat := 191
abbrev jX8_image : Nat := 192
abbrev jX8_restore : Nat := 193
abbrev jX8_tell : Nat := 194
abbrev jX8_check : Nat := 195
abbrev jX8_count : Nat := 196
abbrev jX8_told : Nat := 197
abbrev jJ6_bitCount_0f7a4 : Nat := 198
abbrev jJ13_bitCount_95d88 : Nat := 199
abbrev jJ9_max_7cf53 : Nat := 200
abbrev jJ9_min_7cf53 : Nat := 201
abbrev jJ0_indexOf_0f7a4 : Nat := 202
end
section
set_option maxRecDepth 20000 in
theorem mX0_take {d : Nat} {Q : oh_Q} {h : oh_St} {o o2 : Nat} (ho : (o = 1 ∧ o2 = 19) ∨ (o = 19 ∧ o2 = 1)) (q : CM d jX4_take [.ref (o + 1), .ref (o2 + 1)] h (oh_r0 (fun h1 => CM d jX3_take [.ref (o + 7), .ref (o2 + 7)] h1 (oh_r0 (fun h2 => CM d jX3_take [.ref (o + 11), .ref (o2 + 11)] h2 (oh_r0 (fun h3 => CM d jX3_take [.ref (o + 14), .ref (o2 + 14)] h3 (oh_r0 (fun h4 => CM d jX3_take [.ref (o + 16), .ref (o2 + 16)] h4 (oh_r0 (fun h5 => Q none (oh_upi h5 o 5 (h5.1 o2 5))))))))))))) : CM (d + 1) jX0_take [.ref o, .ref o2] h Q := by
  rcases ho with ⟨rfl, rfl⟩ | ⟨rfl, rfl⟩ <;> exact oh_mwp_1 (nL := 1) (T := tX0_take) rfl rfl (oh_run_wp (oh_mwp_m d) 122 q)
set_option maxRecDepth 20000 in
theorem mX0_drawn {d : Nat} {Q : oh_Q} {h : oh_St} (q : Q (some (.int ((((oh_upi h 1 5 (((h.1 1 5) * (1103515245 : Int32)) + (12345 : Int32))).1 1 5).toUInt32 >>> ((8 : Int32).toUInt32 &&& Int32.toUInt32 31)).toInt32))) (oh_upi h 1 5 (((h.1 1 5) * (1103515245 : Int32)) + (12345 : Int32)))) : CM (d + 1) jX0_drawn [.ref 1] h Q := oh_mwp_1 (nL := 0) (T := tX0_drawn) rfl rfl (oh_run_wp (oh_mwp_m d) 59 q)
abbrev wX0_ringLoosely_19 (d : Nat) (Q : oh_Q) (v1 : Int32) (v2 : Int32) (v3 : Int32) (h : oh_St) : Prop := oh_wp GC tX0_ringLoosely (CM d) Q 19 cX0_ringLoosely_19 [some (.ref 1), some (.int v1), some (.int v2), some (.int v3)] [] h
set_option maxRecDepth 20000 in
theorem mX0_ringLoosely {d : Nat} {Q : oh_Q} {h : oh_St} (q : CM d jX4_speakers [.ref 2] h (oh_r1 (fun x2 h1 => CM d jX4_sayings [.ref 2, .int x2] h1 (oh_r1 (fun x4 h3 => wX0_ringLoosely_19 d Q x2 x4 (0 : Int32) h3))))) : CM (d + 1) jX0_ringLoosely [.ref 1] h Q := oh_mwp_1 (nL := 3) (T := tX0_ringLoosely) rfl rfl (oh_run_wp (oh_mwp_m d) 149 q)
set_option maxRecDepth 20000 in
theorem bX0_ringLoosely_19 {d : Nat} {Q : oh_Q} {h : oh_St} {v1 v2 v3 : Int32} (q : (((h.1 2 0) ≤ v3 → CM d jX4_hear [.ref 2, .int v1, .int v2, .ref 11] h (oh_r1 (fun x2 h1 => Q none h1))) ∧ (¬ (h.1 2 0) ≤ v3 → CM d jX7_bit [.int v1, .int v3] h (oh_r1 (fun x4 h3 => ((¬ x4 = (1 : Int32) → wX0_ringLoosely_19 d Q v1 v2 (v3 + (1 : Int32)) h3) ∧ (x4 = (1 : Int32) → CM d jX0_drawn [.ref 1] h3 (oh_r1 (fun x6 h5 => (¬ (8 : Int32) = 0 ∧ ((¬ (x6 - x6 / (8 : Int32) * (8 : Int32)) = 0 → wX0_ringLoosely_19 d Q v1 v2 (v3 + (1 : Int32)) h5) ∧ ((x6 - x6 / (8 : Int32) * (8 : Int32)) = 0 → wX0_ringLoosely_19 d Q v1 (v2 ^^^ ((1 : Int32) <<< (v3 &&& 31))) (v3 + (1 : Int32)) h5)))))))))))) : wX0_ringLoosely_19 d Q v1 v2 v3 h := oh_run_wp (oh_mwp_m d) 149 q
set_option maxRecDepth 20000 in
theorem mX1_gives {d : Nat} {Q : oh_Q} {h : oh_St} {o : Nat} {v1 v2 v3 v4 : Int32} (ho : o = 7 ∨ o = 11) (q : ((¬ (h.1 o 0) = 0 → ((¬ (h.1 (o + 1) 1) = 0 → CM d jX1_workedOut [.ref o, .int v1, .int v2, .int v3, .int v4] h (oh_r1 (fun x2 h1 => CM d jX7_held [.int x2, .int (0 : Int32), .int (999 : Int32)] h1 (oh_r1 (fun x4 h3 => Q (some (.int x4)) h3))))) ∧ ((h.1 (o + 1) 1) = 0 → CM d jX7_held [.int (((v1 * (10 : Int32)) + (5 : Int32)) - v2), .int (0 : Int32), .int (999 : Int32)] h (oh_r1 (fun x6 h5 => Q (some (.int x6)) h5))))) ∧ ((h.1 o 0) = 0 → ((¬ (h.1 (o + 1) 1) = 0 → CM d jX1_workedOut [.ref o, .int v1, .int v2, .int v3, .int v4] h (oh_r1 (fun x8 h7 => Q (some (.int x8)) h7))) ∧ ((h.1 (o + 1) 1) = 0 → Q (some (.int (1 : Int32))) h))))) : CM (d + 1) jX1_gives [.ref o, .int v1, .int v2, .int v3, .int v4] h Q := by
  rcases ho with rfl | rfl <;> exact oh_mwp_1 (nL := 5) (T := tX1_gives) rfl rfl (oh_run_wp (oh_mwp_m d) 140 q)
abbrev wX1_workedOut_6 (d : Nat) (Q : oh_Q) (o : Nat) (v1 : Int32) (v2 : Int32) (v3 : Int32) (v4 : Int32) (v5 : Int32) (v6 : Int32) (h : oh_St) : Prop := oh_wp GC tX1_workedOut (CM d) Q 6 cX1_workedOut_6 [some (.ref o), some (.int v1), some (.int v2), some (.int v3), some (.int v4), some (.int v5), some (.int v6), none] [] h
set_option maxRecDepth 20000 in
theorem mX1_workedOut {d : Nat} {Q : oh_Q} {h : oh_St} {o : Nat} {v1 v2 v3 v4 : Int32} (ho : o = 7 ∨ o = 11) (q : wX1_workedOut_6 d Q o v1 v2 v3 v4 (0 : Int32) (0 : Int32) h) : CM (d + 1) jX1_workedOut [.ref o, .int v1, .int v2, .int v3, .int v4] h Q := by
  rcases ho with rfl | rfl <;> exact oh_mwp_1 (nL := 7) (T := tX1_workedOut) rfl rfl (oh_run_wp (oh_mwp_m d) 347 q)
set_option maxRecDepth 20000 in
theorem bX1_workedOut_6 {d : Nat} {Q : oh_Q} {h : oh_St} {o : Nat} {v1 v2 v3 v4 v5 v6 : Int32} (ho : o = 7 ∨ o = 11) (q : (((h.1 (o + 1) 1) ≤ v6 → (((1 : Int32) ≤ v5 → (vp_in (0 : Int32) 50 ∧ Q (some (.int (h.1 (o + 3) (0 : Int32).toNatClampNeg))) h)) ∧ (¬ (1 : Int32) ≤ v5 → Q (some (.int (0 : Int32))) h))) ∧ (¬ (h.1 (o + 1) 1) ≤ v6 → CM d jX3_get [.ref (o + 1), .int v6] h (oh_r1 (fun x2 h1 => ((x2 < (10000 : Int32) → ((v5 < (50 : Int32) → (((10000 : Int32) ≤ x2 → CM d jX1_named [.int (x2 - (20000 : Int32)), .int v1, .int v2, .int v3, .int v4] h1 (oh_r1 (fun x4 h3 => (vp_in v5 50 ∧ wX1_workedOut_6 d Q o v1 v2 v3 v4 (v5 + (1 : Int32)) (v6 + (1 : Int32)) (oh_upi h3 (o + 3) v5.toNatClampNeg x4))))) ∧ (¬ (10000 : Int32) ≤ x2 → (vp_in v5 50 ∧ wX1_workedOut_6 d Q o v1 v2 v3 v4 (v5 + (1 : Int32)) (v6 + (1 : Int32)) (oh_upi h1 (o + 3) v5.toNatClampNeg x2))))) ∧ (¬ v5 < (50 : Int32) → Q (some (.int (0 : Int32))) h1))) ∧ (¬ x2 < (10000 : Int32) → ((x2 < (20000 : Int32) → ((¬ x2 = (10033 : Int32) → (((2 : Int32) ≤ v5 → (vp_in ((v5 + (-1 : Int32)) - (1 : Int32)) 50 ∧ (vp_in (v5 + (-1 : Int32)) 50 ∧ CM d jX1_joined [.int (x2 - (10000 : Int32)), .int (h1.1 (o + 3) ((v5 + (-1 : Int32)) - (1 : Int32)).toNatClampNeg), .int (h1.1 (o + 3) (v5 + (-1 : Int32)).toNatClampNeg)] h1 (oh_r1 (fun x6 h5 => (vp_in ((v5 + (-1 : Int32)) - (1 : Int32)) 50 ∧ wX1_workedOut_6 d Q o v1 v2 v3 v4 (v5 + (-1 : Int32)) (v6 + (1 : Int32)) (oh_upi h5 (o + 3) ((v5 + (-1 : Int32)) - (1 : Int32)).toNatClampNeg x6))))))) ∧ (¬ (2 : Int32) ≤ v5 → Q (some (.int (0 : Int32))) h1))) ∧ (x2 = (10033 : Int32) → (((1 : Int32) ≤ v5 → (vp_in (v5 - (1 : Int32)) 50 ∧ ((¬ (h1.1 (o + 3) (v5 - (1 : Int32)).toNatClampNeg) = 0 → (vp_in (v5 - (1 : Int32)) 50 ∧ wX1_workedOut_6 d Q o v1 v2 v3 v4 v5 (v6 + (1 : Int32)) (oh_upi h1 (o + 3) (v5 - (1 : Int32)).toNatClampNeg (0 : Int32)))) ∧ ((h1.1 (o + 3) (v5 - (1 : Int32)).toNatClampNeg) = 0 → (vp_in (v5 - (1 : Int32)) 50 ∧ wX1_workedOut_6 d Q o v1 v2 v3 v4 v5 (v6 + (1 : Int32)) (oh_upi h1 (o + 3) (v5 - (1 : Int32)).toNatClampNeg (1 : Int32))))))) ∧ (¬ (1 : Int32) ≤ v5 → Q (some (.int (0 : Int32))) h1))))) ∧ (¬ x2 < (20000 : Int32) → ((v5 < (50 : Int32) → (((10000 : Int32) ≤ x2 → CM d jX1_named [.int (x2 - (20000 : Int32)), .int v1, .int v2, .int v3, .int v4] h1 (oh_r1 (fun x8 h7 => (vp_in v5 50 ∧ wX1_workedOut_6 d Q o v1 v2 v3 v4 (v5 + (1 : Int32)) (v6 + (1 : Int32)) (oh_upi h7 (o + 3) v5.toNatClampNeg x8))))) ∧ (¬ (10000 : Int32) ≤ x2 → (vp_in v5 50 ∧ wX1_workedOut_6 d Q o v1 v2 v3 v4 (v5 + (1 : Int32)) (v6 + (1 : Int32)) (oh_upi h1 (o + 3) v5.toNatClampNeg x2))))) ∧ (¬ v5 < (50 : Int32) → Q (some (.int (0 : Int32))) h1))))))))))) : wX1_workedOut_6 d Q o v1 v2 v3 v4 v5 v6 h := by
  rcases ho with rfl | rfl <;> exact oh_run_wp (oh_mwp_m d) 347 q
set_option maxRecDepth 20000 in
theorem mX1_named {d : Nat} {Q : oh_Q} {h : oh_St} {v0 v1 v2 v3 v4 : Int32} (q : ((v0 = (0 : Int32) → Q (some (.int v1)) h) ∧ (¬ v0 = (0 : Int32) → ((v0 = (1 : Int32) → Q (some (.int v2)) h) ∧ (¬ v0 = (1 : Int32) → ((v0 = (2 : Int32) → Q (some (.int v3)) h) ∧ (¬ v0 = (2 : Int32) → Q (some (.int v4)) h))))))) : CM (d + 1) jX1_named [.int v0, .int v1, .int v2, .int v3, .int v4] h Q := oh_mwp_1 (nL := 4) (T := tX1_named) rfl rfl (oh_run_wp (oh_mwp_m d) 50 q)
set_option maxRecDepth 20000 in
theorem mX1_joined {d : Nat} {Q : oh_Q} {h : oh_St} {v0 v1 v2 : Int32} (q : ((v0 = (37 : Int32) → ((¬ v2 = 0 → (¬ v2 = 0 ∧ Q (some (.int (v1 - v1 / v2 * v2))) h)) ∧ (v2 = 0 → Q (some (.int (0 : Int32))) h))) ∧ (¬ v0 = (37 : Int32) → ((v0 = (38 : Int32) → ((v1 = 0 → Q (some (.int (0 : Int32))) h) ∧ (¬ v1 = 0 → ((v2 = 0 → Q (some (.int (0 : Int32))) h) ∧ (¬ v2 = 0 → Q (some (.int (1 : Int32))) h))))) ∧ (¬ v0 = (38 : Int32) → ((v0 = (42 : Int32) → Q (some (.int (v1 * v2))) h) ∧ (¬ v0 = (42 : Int32) → ((v0 = (43 : Int32) → Q (some (.int (v1 + v2))) h) ∧ (¬ v0 = (43 : Int32) → ((v0 = (45 : Int32) → Q (some (.int (v1 - v2))) h) ∧ (¬ v0 = (45 : Int32) → ((v0 = (47 : Int32) → ((¬ v2 = 0 → (¬ v2 = 0 ∧ Q (some (.int (v1 / v2))) h)) ∧ (v2 = 0 → Q (some (.int (0 : Int32))) h))) ∧ (¬ v0 = (47 : Int32) → ((v0 = (60 : Int32) → ((v2 ≤ v1 → Q (some (.int (0 : Int32))) h) ∧ (¬ v2 ≤ v1 → Q (some (.int (1 : Int32))) h))) ∧ (¬ v0 = (60 : Int32) → ((v0 = (61 : Int32) → ((¬ v1 = v2 → Q (some (.int (0 : Int32))) h) ∧ (v1 = v2 → Q (some (.int (1 : Int32))) h))) ∧ (¬ v0 = (61 : Int32) → ((v0 = (62 : Int32) → ((v1 ≤ v2 → Q (some (.int (0 : Int32))) h) ∧ (¬ v1 ≤ v2 → Q (some (.int (1 : Int32))) h))) ∧ (¬ v0 = (62 : Int32) → ((v0 = (124 : Int32) → ((¬ v1 = 0 → Q (some (.int (1 : Int32))) h) ∧ (v1 = 0 → ((v2 = 0 → Q (some (.int (0 : Int32))) h) ∧ (¬ v2 = 0 → Q (some (.int (1 : Int32))) h))))) ∧ (¬ v0 = (124 : Int32) → Q (some (.int (0 : Int32))) h))))))))))))))))))))) : CM (d + 1) jX1_joined [.int v0, .int v1, .int v2] h Q := oh_mwp_1 (nL := 2) (T := tX1_joined) rfl rfl (oh_run_wp (oh_mwp_m d) 227 q)
set_option maxRecDepth 20000 in
theorem mX3_add {d : Nat} {Q : oh_Q} {h : oh_St} {o : Nat} {v1 : Int32} (ho : o = 8 ∨ o = 12 ∨ o = 15 ∨ o = 17 ∨ o = 26 ∨ o = 30 ∨ o = 33 ∨ o = 35 ∨ o = 43 ∨ o = 45 ∨ o = 48) (q : (((Int32.ofNat (oh_ln1 o)) ≤ (h.1 o 1) → Q none h) ∧ (¬ (Int32.ofNat (oh_ln1 o)) ≤ (h.1 o 1) → (vp_in (h.1 o 1) (oh_ln1 o) ∧ Q none (oh_upi (oh_upi h (o + 1) (h.1 o 1).toNatClampNeg v1) o 1 (((oh_upi h (o + 1) (h.1 o 1).toNatClampNeg v1).1 o 1) + (1 : Int32))))))) : CM (d + 1) jX3_add [.ref o, .int v1] h Q := by
  rcases ho with rfl | rfl | rfl | rfl | rfl | rfl | rfl | rfl | rfl | rfl | rfl <;> exact oh_mwp_1 (nL := 1) (T := tX3_add) rfl rfl (oh_run_wp (oh_mwp_m d) 77 q)
set_option maxRecDepth 20000 in
theorem mX3_get {d : Nat} {Q : oh_Q} {h : oh_St} {o : Nat} {v1 : Int32} (ho : o = 8 ∨ o = 12 ∨ o = 15 ∨ o = 17 ∨ o = 26 ∨ o = 30 ∨ o = 33 ∨ o = 35 ∨ o = 43 ∨ o = 45 ∨ o = 48) (q : ((v1 < 0 → Q (some (.int (0 : Int32))) h) ∧ (¬ v1 < 0 → (((h.1 o 1) ≤ v1 → Q (some (.int (0 : Int32))) h) ∧ (¬ (h.1 o 1) ≤ v1 → (((Int32.ofNat (oh_ln1 o)) ≤ v1 → Q (some (.int (0 : Int32))) h) ∧ (¬ (Int32.ofNat (oh_ln1 o)) ≤ v1 → (vp_in v1 (oh_ln1 o) ∧ Q (some (.int (h.1 (o + 1) v1.toNatClampNeg))) h)))))))) : CM (d + 1) jX3_get [.ref o, .int v1] h Q := by
  rcases ho with rfl | rfl | rfl | rfl | rfl | rfl | rfl | rfl | rfl | rfl | rfl <;> exact oh_mwp_1 (nL := 1) (T := tX3_get) rfl rfl (oh_run_wp (oh_mwp_m d) 74 q)
set_option maxRecDepth 20000 in
theorem mX3_clear {d : Nat} {Q : oh_Q} {h : oh_St} {o : Nat} (ho : o = 8 ∨ o = 12 ∨ o = 15 ∨ o = 17 ∨ o = 26 ∨ o = 30 ∨ o = 33 ∨ o = 35 ∨ o = 43 ∨ o = 45 ∨ o = 48) (q : Q none (oh_upi h o 1 (0 : Int32))) : CM (d + 1) jX3_clear [.ref o] h Q := by
  rcases ho with rfl | rfl | rfl | rfl | rfl | rfl | rfl | rfl | rfl | rfl | rfl <;> exact oh_mwp_1 (nL := 0) (T := tX3_clear) rfl rfl (oh_run_wp (oh_mwp_m d) 32 q)
abbrev wX3_take_6 (d : Nat) (Q : oh_Q) (o : Nat) (o2 : Nat) (v2 : Int32) (h : oh_St) : Prop := oh_wp GC tX3_take (CM d) Q 6 cX3_take_6 [some (.ref o), some (.ref o2), some (.int v2)] [] h
set_option maxRecDepth 20000 in
theorem mX3_take {d : Nat} {Q : oh_Q} {h : oh_St} {o o2 : Nat} (ho : (o = 8 ∧ o2 = 26) ∨ (o = 8 ∧ o2 = 43) ∨ (o = 12 ∧ o2 = 30) ∨ (o = 12 ∧ o2 = 43) ∨ (o = 15 ∧ o2 = 33) ∨ (o = 17 ∧ o2 = 35) ∨ (o = 26 ∧ o2 = 8) ∨ (o = 30 ∧ o2 = 12) ∨ (o = 33 ∧ o2 = 15) ∨ (o = 35 ∧ o2 = 17) ∨ (o = 45 ∧ o2 = 15)) (q : CM d jX3_clear [.ref o] h (oh_r0 (fun h1 => wX3_take_6 d Q o o2 (0 : Int32) h1))) : CM (d + 1) jX3_take [.ref o, .ref o2] h Q := by
  rcases ho with ⟨rfl, rfl⟩ | ⟨rfl, rfl⟩ | ⟨rfl, rfl⟩ | ⟨rfl, rfl⟩ | ⟨rfl, rfl⟩ | ⟨rfl, rfl⟩ | ⟨rfl, rfl⟩ | ⟨rfl, rfl⟩ | ⟨rfl, rfl⟩ | ⟨rfl, rfl⟩ | ⟨rfl, rfl⟩ <;> exact oh_mwp_1 (nL := 2) (T := tX3_take) rfl rfl (oh_run_wp (oh_mwp_m d) 68 q)
set_option maxRecDepth 20000 in
theorem bX3_take_6 {d : Nat} {Q : oh_Q} {h : oh_St} {o o2 : Nat} {v2 : Int32} (ho : (o = 8 ∧ o2 = 26) ∨ (o = 8 ∧ o2 = 43) ∨ (o = 12 ∧ o2 = 30) ∨ (o = 12 ∧ o2 = 43) ∨ (o = 15 ∧ o2 = 33) ∨ (o = 17 ∧ o2 = 35) ∨ (o = 26 ∧ o2 = 8) ∨ (o = 30 ∧ o2 = 12) ∨ (o = 33 ∧ o2 = 15) ∨ (o = 35 ∧ o2 = 17) ∨ (o = 45 ∧ o2 = 15)) (q : (((h.1 o2 1) ≤ v2 → Q none h) ∧ (¬ (h.1 o2 1) ≤ v2 → CM d jX3_get [.ref o2, .int v2] h (oh_r1 (fun x2 h1 => CM d jX3_add [.ref o, .int x2] h1 (oh_r0 (fun h3 => wX3_take_6 d Q o o2 (v2 + (1 : Int32)) h3))))))) : wX3_take_6 d Q o o2 v2 h := by
  rcases ho with ⟨rfl, rfl⟩ | ⟨rfl, rfl⟩ | ⟨rfl, rfl⟩ | ⟨rfl, rfl⟩ | ⟨rfl, rfl⟩ | ⟨rfl, rfl⟩ | ⟨rfl, rfl⟩ | ⟨rfl, rfl⟩ | ⟨rfl, rfl⟩ | ⟨rfl, rfl⟩ | ⟨rfl, rfl⟩ <;> exact oh_run_wp (oh_mwp_m d) 68 q
abbrev wX5_renew_18 (d : Nat) (Q : oh_Q) (o : Nat) (v3 : Int32) (h : oh_St) : Prop := oh_wp GC tX5_renew (CM d) Q 18 cX5_renew_18 [some (.ref o), none, none, some (.int v3)] [] h
set_option maxRecDepth 20000 in
theorem mX5_renew {d : Nat} {Q : oh_Q} {h : oh_St} {o : Nat} {v1 v2 : Int32} (ho : o = 51 ∨ o = 53 ∨ o = 55 ∨ o = 57) (q : CM d jX7_held [.int v2, .int (0 : Int32), .int (40 : Int32)] (oh_upi h o 0 v1) (oh_r1 (fun x2 h1 => wX5_renew_18 d Q o (0 : Int32) (oh_upi h1 o 1 x2)))) : CM (d + 1) jX5_renew [.ref o, .int v1, .int v2] h Q := by
  rcases ho with rfl | rfl | rfl | rfl <;> exact oh_mwp_1 (nL := 3) (T := tX5_renew) rfl rfl (oh_run_wp (oh_mwp_m d) 86 q)
set_option maxRecDepth 20000 in
theorem bX5_renew_18 {d : Nat} {Q : oh_Q} {h : oh_St} {o : Nat} {v3 : Int32} (ho : o = 51 ∨ o = 53 ∨ o = 55 ∨ o = 57) (q : (((40 : Int32) ≤ v3 → Q none h) ∧ (¬ (40 : Int32) ≤ v3 → (vp_in v3 40 ∧ wX5_renew_18 d Q o (v3 + (1 : Int32)) (oh_upi h (o + 1) v3.toNatClampNeg (0 : Int32)))))) : wX5_renew_18 d Q o v3 h := by
  rcases ho with rfl | rfl | rfl | rfl <;> exact oh_run_wp (oh_mwp_m d) 86 q
set_option maxRecDepth 20000 in
theorem mX5_write {d : Nat} {Q : oh_Q} {h : oh_St} {o : Nat} {v1 v2 : Int32} (ho : o = 51 ∨ o = 53 ∨ o = 55 ∨ o = 57) (q : ((v1 < 0 → Q none h) ∧ (¬ v1 < 0 → (((h.1 o 1) ≤ v1 → Q none h) ∧ (¬ (h.1 o 1) ≤ v1 → ((¬ (h.1 o 0) = (8 : Int32) → ((¬ (h.1 o 0) = (16 : Int32) → (vp_in v1 40 ∧ Q none (oh_upi h (o + 1) v1.toNatClampNeg v2))) ∧ ((h.1 o 0) = (16 : Int32) → (vp_in v1 40 ∧ Q none (oh_upi h (o + 1) v1.toNatClampNeg (v2.toInt16.toInt32)))))) ∧ ((h.1 o 0) = (8 : Int32) → (vp_in v1 40 ∧ Q none (oh_upi h (o + 1) v1.toNatClampNeg (v2.toInt8.toInt32)))))))))) : CM (d + 1) jX5_write [.ref o, .int v1, .int v2] h Q := by
  rcases ho with rfl | rfl | rfl | rfl <;> exact oh_mwp_1 (nL := 2) (T := tX5_write) rfl rfl (oh_run_wp (oh_mwp_m d) 98 q)
set_option maxRecDepth 20000 in
theorem mX5_hasRun {d : Nat} {Q : oh_Q} {h : oh_St} {o : Nat} {v1 v2 : Int32} (ho : o = 51 ∨ o = 53 ∨ o = 55 ∨ o = 57) (q : ((v2 < 0 → (((0 : Int32) = 0 ∨ (0 : Int32) = 1) ∧ Q (some (.int (0 : Int32))) h)) ∧ (¬ v2 < 0 → ((v1 < 0 → (((0 : Int32) = 0 ∨ (0 : Int32) = 1) ∧ Q (some (.int (0 : Int32))) h)) ∧ (¬ v1 < 0 → (((h.1 o 1) < v2 → (((0 : Int32) = 0 ∨ (0 : Int32) = 1) ∧ Q (some (.int (0 : Int32))) h)) ∧ (¬ (h.1 o 1) < v2 → ((((h.1 o 1) - v2) < v1 → (((0 : Int32) = 0 ∨ (0 : Int32) = 1) ∧ Q (some (.int (0 : Int32))) h)) ∧ (¬ ((h.1 o 1) - v2) < v1 → (((1 : Int32) = 0 ∨ (1 : Int32) = 1) ∧ Q (some (.int (1 : Int32))) h)))))))))) : CM (d + 1) jX5_hasRun [.ref o, .int v1, .int v2] h Q := by
  rcases ho with rfl | rfl | rfl | rfl <;> exact oh_mwp_1 (nL := 2) (T := tX5_hasRun) rfl rfl (oh_run_wp (oh_mwp_m d) 74 q)
abbrev wX5_asWorlds_4 (d : Nat) (Q : oh_Q) (o : Nat) (v1 : Int64) (v3 : Int32) (h : oh_St) : Prop := oh_wp GC tX5_asWorlds (CM d) Q 4 cX5_asWorlds_4 [some (.ref o), some (.long v1), none, some (.int v3)] [] h
set_option maxRecDepth 20000 in
theorem mX5_asWorlds {d : Nat} {Q : oh_Q} {h : oh_St} {o : Nat} (ho : o = 51 ∨ o = 53 ∨ o = 55 ∨ o = 57) (q : wX5_asWorlds_4 d Q o (0 : Int64) (0 : Int32) h) : CM (d + 1) jX5_asWorlds [.ref o] h Q := by
  rcases ho with rfl | rfl | rfl | rfl <;> exact oh_mwp_1 (nL := 3) (T := tX5_asWorlds) rfl rfl (oh_run_wp (oh_mwp_m d) 116 q)
set_option maxRecDepth 20000 in
theorem bX5_asWorlds_4 {d : Nat} {Q : oh_Q} {h : oh_St} {o : Nat} {v3 : Int32} {v1 : Int64} (ho : o = 51 ∨ o = 53 ∨ o = 55 ∨ o = 57) (q : (((h.1 o 1) ≤ v3 → Q (some (.long v1)) h) ∧ (¬ (h.1 o 1) ≤ v3 → (vp_in v3 40 ∧ (((h.1 (o + 1) v3.toNatClampNeg) < 0 → wX5_asWorlds_4 d Q o v1 (v3 + (1 : Int32)) h) ∧ (¬ (h.1 (o + 1) v3.toNatClampNeg) < 0 → (vp_in v3 40 ∧ (((64 : Int32) ≤ (h.1 (o + 1) v3.toNatClampNeg) → wX5_asWorlds_4 d Q o v1 (v3 + (1 : Int32)) h) ∧ (¬ (64 : Int32) ≤ (h.1 (o + 1) v3.toNatClampNeg) → (vp_in v3 40 ∧ wX5_asWorlds_4 d Q o (v1 ||| ((1 : Int64) <<< ((h.1 (o + 1) v3.toNatClampNeg).toInt64 &&& 63))) (v3 + (1 : Int32)) h)))))))))) : wX5_asWorlds_4 d Q o v1 v3 h := by
  rcases ho with rfl | rfl | rfl | rfl <;> exact oh_run_wp (oh_mwp_m d) 116 q
set_option maxRecDepth 20000 in
theorem mX6_heard {d : Nat} {Q : oh_Q} {h : oh_St} {v2 v3 v4 : Int32} (q : ((v2 < 0 → Q (some (.int (0 : Int32))) h) ∧ (¬ v2 < 0 → ((v2 < (6 : Int32) → (vp_in v2 6 ∧ (vp_in v2 6 ∧ CM d jX3_clear [.ref 48] (oh_upi (oh_upi (oh_upi h 47 1 (h.1 3 v2.toNatClampNeg)) 47 2 v2) 47 3 ((oh_upi (oh_upi h 47 1 (h.1 3 v2.toNatClampNeg)) 47 2 v2).1 4 v2.toNatClampNeg)) (oh_r0 (fun h1 => CM d jX6_own [.ref 47, .int v3, .int v4, .int (0 : Int32)] h1 (oh_r1 (fun x3 h2 => Q (some (.int x3)) h2))))))) ∧ (¬ v2 < (6 : Int32) → Q (some (.int (0 : Int32))) h))))) : CM (d + 1) jX6_heard [.ref 47, .ref 2, .int v2, .int v3, .int v4] h Q := oh_mwp_1 (nL := 4) (T := tX6_heard) rfl rfl (oh_run_wp (oh_mwp_m d) 113 q)
set_option maxRecDepth 20000 in
theorem mX6_own {d : Nat} {Q : oh_Q} {h : oh_St} {v1 v2 v3 : Int32} (q : CM d jX6_from [.ref 47, .int (h.1 47 1), .int v1, .int v2, .int v3] h (oh_r1 (fun x2 h1 => Q (some (.int x2)) h1))) : CM (d + 1) jX6_own [.ref 47, .int v1, .int v2, .int v3] h Q := oh_mwp_1 (nL := 3) (T := tX6_own) rfl rfl (oh_run_wp (oh_mwp_m d) 44 q)
abbrev wX6_from_15 (d : Nat) (Q : oh_Q) (v2 : Int32) (v3 : Int32) (v4 : Int32) (v5 : Int32) (v6 : Int32) (h : oh_St) : Prop := oh_wp GC tX6_from (CM d) Q 15 cX6_from_15 [some (.ref 47), none, some (.int v2), some (.int v3), some (.int v4), some (.int v5), some (.int v6), none] [] h
set_option maxRecDepth 20000 in
theorem mX6_from {d : Nat} {Q : oh_Q} {h : oh_St} {v1 v2 v3 v4 : Int32} (q : ((v4 ≤ (12 : Int32) → wX6_from_15 d Q v2 v3 v4 v1 (0 : Int32) h) ∧ (¬ v4 ≤ (12 : Int32) → Q (some (.int (0 : Int32))) h))) : CM (d + 1) jX6_from [.ref 47, .int v1, .int v2, .int v3, .int v4] h Q := oh_mwp_1 (nL := 7) (T := tX6_from) rfl rfl (oh_run_wp (oh_mwp_m d) 161 q)
set_option maxRecDepth 20000 in
theorem bX6_from_15 {d : Nat} {Q : oh_Q} {h : oh_St} {v2 v3 v4 v5 v6 : Int32} (q : (((7 : Int32) ≤ v6 → Q (some (.int (0 : Int32))) h) ∧ (¬ (7 : Int32) ≤ v6 → ((v5 < 0 → Q (some (.int (0 : Int32))) h) ∧ (¬ v5 < 0 → (((7 : Int32) ≤ v5 → Q (some (.int (0 : Int32))) h) ∧ (¬ (7 : Int32) ≤ v5 → (vp_in ((v5 * (4 : Int32)) + v2) 28 ∧ (((oh_l1001.getD ((v5 * (4 : Int32)) + v2).toNatClampNeg 0) = 0 → (vp_in v5 7 ∧ wX6_from_15 d Q v2 v3 v4 (oh_l1000.getD v5.toNatClampNeg 0) (v6 + (1 : Int32)) h)) ∧ (¬ (oh_l1001.getD ((v5 * (4 : Int32)) + v2).toNatClampNeg 0) = 0 → CM d jX3_add [.ref 48, .int (oh_l1001.getD ((v5 * (4 : Int32)) + v2).toNatClampNeg 0)] h (oh_r0 (fun h1 => CM d jX6_workedOut [.ref 47, .int (oh_l1001.getD ((v5 * (4 : Int32)) + v2).toNatClampNeg 0), .int v3, .int (v4 + (1 : Int32))] h1 (oh_r1 (fun x3 h2 => Q (some (.int x3)) h2)))))))))))))) : wX6_from_15 d Q v2 v3 v4 v5 v6 h := oh_run_wp (oh_mwp_m d) 161 q
set_option maxRecDepth 20000 in
theorem mX6_workedOut {d : Nat} {Q : oh_Q} {h : oh_St} {v1 v2 v3 : Int32} (q : ((v1 = (10 : Int32) → Q (some (.int (v2 + (h.1 47 2)))) h) ∧ (¬ v1 = (10 : Int32) → ((v1 = (11 : Int32) → CM d jX6_own [.ref 47, .int (0 : Int32), .int v2, .int v3] h (oh_r1 (fun x26 h25 => Q (some (.int (x26 * (2 : Int32)))) h25))) ∧ (¬ v1 = (11 : Int32) → ((v1 = (12 : Int32) → Q (some (.int (v2 - (h.1 47 3)))) h) ∧ (¬ v1 = (12 : Int32) → ((v1 = (13 : Int32) → CM d jX6_own [.ref 47, .int (1 : Int32), .int v2, .int v3] h (oh_r1 (fun x22 h21 => CM d jX6_own [.ref 47, .int (2 : Int32), .int v2, .int v3] h21 (oh_r1 (fun x24 h23 => Q (some (.int (x22 ^^^ x24))) h23))))) ∧ (¬ v1 = (13 : Int32) → ((v1 = (20 : Int32) → (vp_in (1 : Int32) 7 ∧ CM d jX6_from [.ref 47, .int (oh_l1000.getD (1 : Int32).toNatClampNeg 0), .int (1 : Int32), .int v2, .int v3] h (oh_r1 (fun x18 h17 => CM d jX6_own [.ref 47, .int (2 : Int32), .int (1 : Int32), .int v3] h17 (oh_r1 (fun x20 h19 => Q (some (.int (x18 - x20))) h19)))))) ∧ (¬ v1 = (20 : Int32) → ((v1 = (30 : Int32) → (vp_in (2 : Int32) 7 ∧ CM d jX6_from [.ref 47, .int (oh_l1000.getD (2 : Int32).toNatClampNeg 0), .int (0 : Int32), .int v2, .int v3] h (oh_r1 (fun x16 h15 => Q (some (.int (x16 * (3 : Int32)))) h15)))) ∧ (¬ v1 = (30 : Int32) → ((v1 = (40 : Int32) → (vp_in (3 : Int32) 7 ∧ CM d jX6_from [.ref 47, .int (oh_l1000.getD (3 : Int32).toNatClampNeg 0), .int (2 : Int32), .int v2, .int v3] h (oh_r1 (fun x14 h13 => Q (some (.int (-x14))) h13)))) ∧ (¬ v1 = (40 : Int32) → ((v1 = (50 : Int32) → (vp_in (4 : Int32) 7 ∧ CM d jX6_from [.ref 47, .int (oh_l1000.getD (4 : Int32).toNatClampNeg 0), .int (1 : Int32), .int (v2 + (1 : Int32)), .int v3] h (oh_r1 (fun x12 h11 => Q (some (.int x12)) h11)))) ∧ (¬ v1 = (50 : Int32) → ((v1 = (60 : Int32) → (vp_in (5 : Int32) 7 ∧ CM d jX6_from [.ref 47, .int (oh_l1000.getD (5 : Int32).toNatClampNeg 0), .int (3 : Int32), .int v2, .int v3] h (oh_r1 (fun x8 h7 => CM d jX6_own [.ref 47, .int (0 : Int32), .int (2 : Int32), .int v3] h7 (oh_r1 (fun x10 h9 => Q (some (.int (x8 - x10))) h9)))))) ∧ (¬ v1 = (60 : Int32) → ((v1 = (70 : Int32) → (vp_in (6 : Int32) 7 ∧ CM d jX6_from [.ref 47, .int (oh_l1000.getD (6 : Int32).toNatClampNeg 0), .int (2 : Int32), .int v2, .int v3] h (oh_r1 (fun x6 h5 => Q (some (.int (x6 ^^^ (h5.1 47 2)))) h5)))) ∧ (¬ v1 = (70 : Int32) → ((v1 = (71 : Int32) → CM d jX6_own [.ref 47, .int (1 : Int32), .int v2, .int v3] h (oh_r1 (fun x2 h1 => (vp_in (6 : Int32) 7 ∧ CM d jX6_from [.ref 47, .int (oh_l1000.getD (6 : Int32).toNatClampNeg 0), .int (3 : Int32), .int v2, .int v3] h1 (oh_r1 (fun x4 h3 => Q (some (.int (x2 - x4))) h3)))))) ∧ (¬ v1 = (71 : Int32) → Q (some (.int (0 : Int32))) h))))))))))))))))))))))) : CM (d + 1) jX6_workedOut [.ref 47, .int v1, .int v2, .int v3] h Q := oh_mwp_1 (nL := 3) (T := tX6_workedOut) rfl rfl (oh_run_wp (oh_mwp_m d) 389 q)
set_option maxRecDepth 20000 in
theorem mJ6_bitCount_0f7a4 {d : Nat} {Q : oh_Q} {h : oh_St} {v0 : Int32} (q : Q (some (.int ((((((((v0 - ((v0.toUInt32 >>> ((1 : Int32).toUInt32 &&& Int32.toUInt32 31)).toInt32 &&& (1431655765 : Int32))) &&& (858993459 : Int32)) + (((v0 - ((v0.toUInt32 >>> ((1 : Int32).toUInt32 &&& Int32.toUInt32 31)).toInt32 &&& (1431655765 : Int32))).toUInt32 >>> ((2 : Int32).toUInt32 &&& Int32.toUInt32 31)).toInt32 &&& (858993459 : Int32))) + ((((v0 - ((v0.toUInt32 >>> ((1 : Int32).toUInt32 &&& Int32.toUInt32 31)).toInt32 &&& (1431655765 : Int32))) &&& (858993459 : Int32)) + (((v0 - ((v0.toUInt32 >>> ((1 : Int32).toUInt32 &&& Int32.toUInt32 31)).toInt32 &&& (1431655765 : Int32))).toUInt32 >>> ((2 : Int32).toUInt32 &&& Int32.toUInt32 31)).toInt32 &&& (858993459 : Int32))).toUInt32 >>> ((4 : Int32).toUInt32 &&& Int32.toUInt32 31)).toInt32) &&& (252645135 : Int32)) + ((((((v0 - ((v0.toUInt32 >>> ((1 : Int32).toUInt32 &&& Int32.toUInt32 31)).toInt32 &&& (1431655765 : Int32))) &&& (858993459 : Int32)) + (((v0 - ((v0.toUInt32 >>> ((1 : Int32).toUInt32 &&& Int32.toUInt32 31)).toInt32 &&& (1431655765 : Int32))).toUInt32 >>> ((2 : Int32).toUInt32 &&& Int32.toUInt32 31)).toInt32 &&& (858993459 : Int32))) + ((((v0 - ((v0.toUInt32 >>> ((1 : Int32).toUInt32 &&& Int32.toUInt32 31)).toInt32 &&& (1431655765 : Int32))) &&& (858993459 : Int32)) + (((v0 - ((v0.toUInt32 >>> ((1 : Int32).toUInt32 &&& Int32.toUInt32 31)).toInt32 &&& (1431655765 : Int32))).toUInt32 >>> ((2 : Int32).toUInt32 &&& Int32.toUInt32 31)).toInt32 &&& (858993459 : Int32))).toUInt32 >>> ((4 : Int32).toUInt32 &&& Int32.toUInt32 31)).toInt32) &&& (252645135 : Int32)).toUInt32 >>> ((8 : Int32).toUInt32 &&& Int32.toUInt32 31)).toInt32) + (((((((v0 - ((v0.toUInt32 >>> ((1 : Int32).toUInt32 &&& Int32.toUInt32 31)).toInt32 &&& (1431655765 : Int32))) &&& (858993459 : Int32)) + (((v0 - ((v0.toUInt32 >>> ((1 : Int32).toUInt32 &&& Int32.toUInt32 31)).toInt32 &&& (1431655765 : Int32))).toUInt32 >>> ((2 : Int32).toUInt32 &&& Int32.toUInt32 31)).toInt32 &&& (858993459 : Int32))) + ((((v0 - ((v0.toUInt32 >>> ((1 : Int32).toUInt32 &&& Int32.toUInt32 31)).toInt32 &&& (1431655765 : Int32))) &&& (858993459 : Int32)) + (((v0 - ((v0.toUInt32 >>> ((1 : Int32).toUInt32 &&& Int32.toUInt32 31)).toInt32 &&& (1431655765 : Int32))).toUInt32 >>> ((2 : Int32).toUInt32 &&& Int32.toUInt32 31)).toInt32 &&& (858993459 : Int32))).toUInt32 >>> ((4 : Int32).toUInt32 &&& Int32.toUInt32 31)).toInt32) &&& (252645135 : Int32)) + ((((((v0 - ((v0.toUInt32 >>> ((1 : Int32).toUInt32 &&& Int32.toUInt32 31)).toInt32 &&& (1431655765 : Int32))) &&& (858993459 : Int32)) + (((v0 - ((v0.toUInt32 >>> ((1 : Int32).toUInt32 &&& Int32.toUInt32 31)).toInt32 &&& (1431655765 : Int32))).toUInt32 >>> ((2 : Int32).toUInt32 &&& Int32.toUInt32 31)).toInt32 &&& (858993459 : Int32))) + ((((v0 - ((v0.toUInt32 >>> ((1 : Int32).toUInt32 &&& Int32.toUInt32 31)).toInt32 &&& (1431655765 : Int32))) &&& (858993459 : Int32)) + (((v0 - ((v0.toUInt32 >>> ((1 : Int32).toUInt32 &&& Int32.toUInt32 31)).toInt32 &&& (1431655765 : Int32))).toUInt32 >>> ((2 : Int32).toUInt32 &&& Int32.toUInt32 31)).toInt32 &&& (858993459 : Int32))).toUInt32 >>> ((4 : Int32).toUInt32 &&& Int32.toUInt32 31)).toInt32) &&& (252645135 : Int32)).toUInt32 >>> ((8 : Int32).toUInt32 &&& Int32.toUInt32 31)).toInt32).toUInt32 >>> ((16 : Int32).toUInt32 &&& Int32.toUInt32 31)).toInt32) &&& (63 : Int32)))) h) : CM (d + 1) jJ6_bitCount_0f7a4 [.int v0] h Q := oh_mwp_1 (nL := 0) (T := tJ6_bitCount_0f7a4) rfl rfl (oh_run_wp (oh_mwp_m d) 146 q)
set_option maxRecDepth 20000 in
theorem mJ13_bitCount_95d88 {d : Nat} {Q : oh_Q} {h : oh_St} {v0 : Int64} (q : Q (some (.int (((((((((v0 - ((v0.toUInt64 >>> ((1 : Int32).toInt64.toUInt64 &&& Int64.toUInt64 63)).toInt64 &&& (6148914691236517205 : Int64))) &&& (3689348814741910323 : Int64)) + (((v0 - ((v0.toUInt64 >>> ((1 : Int32).toInt64.toUInt64 &&& Int64.toUInt64 63)).toInt64 &&& (6148914691236517205 : Int64))).toUInt64 >>> ((2 : Int32).toInt64.toUInt64 &&& Int64.toUInt64 63)).toInt64 &&& (3689348814741910323 : Int64))) + ((((v0 - ((v0.toUInt64 >>> ((1 : Int32).toInt64.toUInt64 &&& Int64.toUInt64 63)).toInt64 &&& (6148914691236517205 : Int64))) &&& (3689348814741910323 : Int64)) + (((v0 - ((v0.toUInt64 >>> ((1 : Int32).toInt64.toUInt64 &&& Int64.toUInt64 63)).toInt64 &&& (6148914691236517205 : Int64))).toUInt64 >>> ((2 : Int32).toInt64.toUInt64 &&& Int64.toUInt64 63)).toInt64 &&& (3689348814741910323 : Int64))).toUInt64 >>> ((4 : Int32).toInt64.toUInt64 &&& Int64.toUInt64 63)).toInt64) &&& (1085102592571150095 : Int64)) + ((((((v0 - ((v0.toUInt64 >>> ((1 : Int32).toInt64.toUInt64 &&& Int64.toUInt64 63)).toInt64 &&& (6148914691236517205 : Int64))) &&& (3689348814741910323 : Int64)) + (((v0 - ((v0.toUInt64 >>> ((1 : Int32).toInt64.toUInt64 &&& Int64.toUInt64 63)).toInt64 &&& (6148914691236517205 : Int64))).toUInt64 >>> ((2 : Int32).toInt64.toUInt64 &&& Int64.toUInt64 63)).toInt64 &&& (3689348814741910323 : Int64))) + ((((v0 - ((v0.toUInt64 >>> ((1 : Int32).toInt64.toUInt64 &&& Int64.toUInt64 63)).toInt64 &&& (6148914691236517205 : Int64))) &&& (3689348814741910323 : Int64)) + (((v0 - ((v0.toUInt64 >>> ((1 : Int32).toInt64.toUInt64 &&& Int64.toUInt64 63)).toInt64 &&& (6148914691236517205 : Int64))).toUInt64 >>> ((2 : Int32).toInt64.toUInt64 &&& Int64.toUInt64 63)).toInt64 &&& (3689348814741910323 : Int64))).toUInt64 >>> ((4 : Int32).toInt64.toUInt64 &&& Int64.toUInt64 63)).toInt64) &&& (1085102592571150095 : Int64)).toUInt64 >>> ((8 : Int32).toInt64.toUInt64 &&& Int64.toUInt64 63)).toInt64) + (((((((v0 - ((v0.toUInt64 >>> ((1 : Int32).toInt64.toUInt64 &&& Int64.toUInt64 63)).toInt64 &&& (6148914691236517205 : Int64))) &&& (3689348814741910323 : Int64)) + (((v0 - ((v0.toUInt64 >>> ((1 : Int32).toInt64.toUInt64 &&& Int64.toUInt64 63)).toInt64 &&& (6148914691236517205 : Int64))).toUInt64 >>> ((2 : Int32).toInt64.toUInt64 &&& Int64.toUInt64 63)).toInt64 &&& (3689348814741910323 : Int64))) + ((((v0 - ((v0.toUInt64 >>> ((1 : Int32).toInt64.toUInt64 &&& Int64.toUInt64 63)).toInt64 &&& (6148914691236517205 : Int64))) &&& (3689348814741910323 : Int64)) + (((v0 - ((v0.toUInt64 >>> ((1 : Int32).toInt64.toUInt64 &&& Int64.toUInt64 63)).toInt64 &&& (6148914691236517205 : Int64))).toUInt64 >>> ((2 : Int32).toInt64.toUInt64 &&& Int64.toUInt64 63)).toInt64 &&& (3689348814741910323 : Int64))).toUInt64 >>> ((4 : Int32).toInt64.toUInt64 &&& Int64.toUInt64 63)).toInt64) &&& (1085102592571150095 : Int64)) + ((((((v0 - ((v0.toUInt64 >>> ((1 : Int32).toInt64.toUInt64 &&& Int64.toUInt64 63)).toInt64 &&& (6148914691236517205 : Int64))) &&& (3689348814741910323 : Int64)) + (((v0 - ((v0.toUInt64 >>> ((1 : Int32).toInt64.toUInt64 &&& Int64.toUInt64 63)).toInt64 &&& (6148914691236517205 : Int64))).toUInt64 >>> ((2 : Int32).toInt64.toUInt64 &&& Int64.toUInt64 63)).toInt64 &&& (3689348814741910323 : Int64))) + ((((v0 - ((v0.toUInt64 >>> ((1 : Int32).toInt64.toUInt64 &&& Int64.toUInt64 63)).toInt64 &&& (6148914691236517205 : Int64))) &&& (3689348814741910323 : Int64)) + (((v0 - ((v0.toUInt64 >>> ((1 : Int32).toInt64.toUInt64 &&& Int64.toUInt64 63)).toInt64 &&& (6148914691236517205 : Int64))).toUInt64 >>> ((2 : Int32).toInt64.toUInt64 &&& Int64.toUInt64 63)).toInt64 &&& (3689348814741910323 : Int64))).toUInt64 >>> ((4 : Int32).toInt64.toUInt64 &&& Int64.toUInt64 63)).toInt64) &&& (1085102592571150095 : Int64)).toUInt64 >>> ((8 : Int32).toInt64.toUInt64 &&& Int64.toUInt64 63)).toInt64).toUInt64 >>> ((16 : Int32).toInt64.toUInt64 &&& Int64.toUInt64 63)).toInt64) + ((((((((v0 - ((v0.toUInt64 >>> ((1 : Int32).toInt64.toUInt64 &&& Int64.toUInt64 63)).toInt64 &&& (6148914691236517205 : Int64))) &&& (3689348814741910323 : Int64)) + (((v0 - ((v0.toUInt64 >>> ((1 : Int32).toInt64.toUInt64 &&& Int64.toUInt64 63)).toInt64 &&& (6148914691236517205 : Int64))).toUInt64 >>> ((2 : Int32).toInt64.toUInt64 &&& Int64.toUInt64 63)).toInt64 &&& (3689348814741910323 : Int64))) + ((((v0 - ((v0.toUInt64 >>> ((1 : Int32).toInt64.toUInt64 &&& Int64.toUInt64 63)).toInt64 &&& (6148914691236517205 : Int64))) &&& (3689348814741910323 : Int64)) + (((v0 - ((v0.toUInt64 >>> ((1 : Int32).toInt64.toUInt64 &&& Int64.toUInt64 63)).toInt64 &&& (6148914691236517205 : Int64))).toUInt64 >>> ((2 : Int32).toInt64.toUInt64 &&& Int64.toUInt64 63)).toInt64 &&& (3689348814741910323 : Int64))).toUInt64 >>> ((4 : Int32).toInt64.toUInt64 &&& Int64.toUInt64 63)).toInt64) &&& (1085102592571150095 : Int64)) + ((((((v0 - ((v0.toUInt64 >>> ((1 : Int32).toInt64.toUInt64 &&& Int64.toUInt64 63)).toInt64 &&& (6148914691236517205 : Int64))) &&& (3689348814741910323 : Int64)) + (((v0 - ((v0.toUInt64 >>> ((1 : Int32).toInt64.toUInt64 &&& Int64.toUInt64 63)).toInt64 &&& (6148914691236517205 : Int64))).toUInt64 >>> ((2 : Int32).toInt64.toUInt64 &&& Int64.toUInt64 63)).toInt64 &&& (3689348814741910323 : Int64))) + ((((v0 - ((v0.toUInt64 >>> ((1 : Int32).toInt64.toUInt64 &&& Int64.toUInt64 63)).toInt64 &&& (6148914691236517205 : Int64))) &&& (3689348814741910323 : Int64)) + (((v0 - ((v0.toUInt64 >>> ((1 : Int32).toInt64.toUInt64 &&& Int64.toUInt64 63)).toInt64 &&& (6148914691236517205 : Int64))).toUInt64 >>> ((2 : Int32).toInt64.toUInt64 &&& Int64.toUInt64 63)).toInt64 &&& (3689348814741910323 : Int64))).toUInt64 >>> ((4 : Int32).toInt64.toUInt64 &&& Int64.toUInt64 63)).toInt64) &&& (1085102592571150095 : Int64)).toUInt64 >>> ((8 : Int32).toInt64.toUInt64 &&& Int64.toUInt64 63)).toInt64) + (((((((v0 - ((v0.toUInt64 >>> ((1 : Int32).toInt64.toUInt64 &&& Int64.toUInt64 63)).toInt64 &&& (6148914691236517205 : Int64))) &&& (3689348814741910323 : Int64)) + (((v0 - ((v0.toUInt64 >>> ((1 : Int32).toInt64.toUInt64 &&& Int64.toUInt64 63)).toInt64 &&& (6148914691236517205 : Int64))).toUInt64 >>> ((2 : Int32).toInt64.toUInt64 &&& Int64.toUInt64 63)).toInt64 &&& (3689348814741910323 : Int64))) + ((((v0 - ((v0.toUInt64 >>> ((1 : Int32).toInt64.toUInt64 &&& Int64.toUInt64 63)).toInt64 &&& (6148914691236517205 : Int64))) &&& (3689348814741910323 : Int64)) + (((v0 - ((v0.toUInt64 >>> ((1 : Int32).toInt64.toUInt64 &&& Int64.toUInt64 63)).toInt64 &&& (6148914691236517205 : Int64))).toUInt64 >>> ((2 : Int32).toInt64.toUInt64 &&& Int64.toUInt64 63)).toInt64 &&& (3689348814741910323 : Int64))).toUInt64 >>> ((4 : Int32).toInt64.toUInt64 &&& Int64.toUInt64 63)).toInt64) &&& (1085102592571150095 : Int64)) + ((((((v0 - ((v0.toUInt64 >>> ((1 : Int32).toInt64.toUInt64 &&& Int64.toUInt64 63)).toInt64 &&& (6148914691236517205 : Int64))) &&& (3689348814741910323 : Int64)) + (((v0 - ((v0.toUInt64 >>> ((1 : Int32).toInt64.toUInt64 &&& Int64.toUInt64 63)).toInt64 &&& (6148914691236517205 : Int64))).toUInt64 >>> ((2 : Int32).toInt64.toUInt64 &&& Int64.toUInt64 63)).toInt64 &&& (3689348814741910323 : Int64))) + ((((v0 - ((v0.toUInt64 >>> ((1 : Int32).toInt64.toUInt64 &&& Int64.toUInt64 63)).toInt64 &&& (6148914691236517205 : Int64))) &&& (3689348814741910323 : Int64)) + (((v0 - ((v0.toUInt64 >>> ((1 : Int32).toInt64.toUInt64 &&& Int64.toUInt64 63)).toInt64 &&& (6148914691236517205 : Int64))).toUInt64 >>> ((2 : Int32).toInt64.toUInt64 &&& Int64.toUInt64 63)).toInt64 &&& (3689348814741910323 : Int64))).toUInt64 >>> ((4 : Int32).toInt64.toUInt64 &&& Int64.toUInt64 63)).toInt64) &&& (1085102592571150095 : Int64)).toUInt64 >>> ((8 : Int32).toInt64.toUInt64 &&& Int64.toUInt64 63)).toInt64).toUInt64 >>> ((16 : Int32).toInt64.toUInt64 &&& Int64.toUInt64 63)).toInt64).toUInt64 >>> ((32 : Int32).toInt64.toUInt64 &&& Int64.toUInt64 63)).toInt64).toInt32 &&& (127 : Int32)))) h) : CM (d + 1) jJ13_bitCount_95d88 [.long v0] h Q := oh_mwp_1 (nL := 1) (T := tJ13_bitCount_95d88) rfl rfl (oh_run_wp (oh_mwp_m d) 167 q)
set_option maxRecDepth 20000 in
theorem mJ9_max_7cf53 {d : Nat} {Q : oh_Q} {h : oh_St} {v0 v1 : Int32} (q : ((v0 < v1 → Q (some (.int v1)) h) ∧ (¬ v0 < v1 → Q (some (.int v0)) h))) : CM (d + 1) jJ9_max_7cf53 [.int v0, .int v1] h Q := oh_mwp_1 (nL := 1) (T := tJ9_max_7cf53) rfl rfl (oh_run_wp (oh_mwp_m d) 41 q)
set_option maxRecDepth 20000 in
theorem mJ9_min_7cf53 {d : Nat} {Q : oh_Q} {h : oh_St} {v0 v1 : Int32} (q : ((v1 < v0 → Q (some (.int v1)) h) ∧ (¬ v1 < v0 → Q (some (.int v0)) h))) : CM (d + 1) jJ9_min_7cf53 [.int v0, .int v1] h Q := oh_mwp_1 (nL := 1) (T := tJ9_min_7cf53) rfl rfl (oh_run_wp (oh_mwp_m d) 41 q)
end
section
set_option maxRecDepth 20000 in
theorem mX2_faultOf {d : Nat} {Q : oh_Q} {h : oh_St} {v2 : Int32} (q : CM d jX3_take [.ref 45, .ref 15] h (oh_r0 (fun h1 => ((¬ v2 = 0 → CM d jX3_clear [.ref 43] (oh_upi (oh_upi h1 42 2 (2 : Int32)) 42 3 (0 : Int32)) (oh_r0 (fun h2 => CM d jX2_readLevel [.ref 42, .int (0 : Int32), .int (0 : Int32)] h2 (oh_r1 (fun x4 h3 => ((x4 = 0 → Q (some (.int (h3.1 42 3))) h3) ∧ (¬ x4 = 0 → ((¬ (h3.1 42 3) = (h3.1 45 1) → Q (some (.int (h3.1 42 3))) h3) ∧ ((h3.1 42 3) = (h3.1 45 1) → Q (some (.int (-1 : Int32))) h3))))))))) ∧ (v2 = 0 → CM d jX3_clear [.ref 43] (oh_upi (oh_upi h1 42 2 (1 : Int32)) 42 3 (0 : Int32)) (oh_r0 (fun h5 => CM d jX2_readLevel [.ref 42, .int (0 : Int32), .int (0 : Int32)] h5 (oh_r1 (fun x7 h6 => ((x7 = 0 → Q (some (.int (h6.1 42 3))) h6) ∧ (¬ x7 = 0 → ((¬ (h6.1 42 3) = (h6.1 45 1) → Q (some (.int (h6.1 42 3))) h6) ∧ ((h6.1 42 3) = (h6.1 45 1) → Q (some (.int (-1 : Int32))) h6))))))))))))) : CM (d + 1) jX2_faultOf [.ref 42, .ref 15, .int v2] h Q := oh_mwp_1 (nL := 2) (T := tX2_faultOf) rfl rfl (oh_run_wp (oh_mwp_m d) 119 q)
abbrev wX2_readLevel_39 (d : Nat) (Q : oh_Q) (v1 : Int32) (v2 : Int32) (v3 : Int32) (v4 : Int32) (h : oh_St) : Prop := oh_wp GC tX2_readLevel (CM d) Q 39 cX2_readLevel_39 [some (.ref 42), some (.int v1), some (.int v2), some (.int v3), some (.int v4), none] [] h
set_option maxRecDepth 20000 in
theorem mX2_readLevel {d : Nat} {Q : oh_Q} {h : oh_St} {v1 v2 : Int32} (q : ((v1 < (5 : Int32) → CM d jX2_readLevel [.ref 42, .int (v1 + (1 : Int32)), .int v2] h (oh_r1 (fun x2 h1 => ((¬ x2 = 0 → ((¬ v1 = (2 : Int32) → wX2_readLevel_39 d Q v1 v2 (50 : Int32) (0 : Int32) h1) ∧ (v1 = (2 : Int32) → wX2_readLevel_39 d Q v1 v2 (1 : Int32) (0 : Int32) h1))) ∧ (x2 = 0 → (((0 : Int32) = 0 ∨ (0 : Int32) = 1) ∧ Q (some (.int (0 : Int32))) h1)))))) ∧ (¬ v1 < (5 : Int32) → CM d jX2_readUnit [.ref 42, .int v2] h (oh_r1 (fun x4 h3 => ((x4 = 0 ∨ x4 = 1) ∧ Q (some (.int x4)) h3)))))) : CM (d + 1) jX2_readLevel [.ref 42, .int v1, .int v2] h Q := oh_mwp_1 (nL := 5) (T := tX2_readLevel) rfl rfl (oh_run_wp (oh_mwp_m d) 203 q)
set_option maxRecDepth 20000 in
theorem bX2_readLevel_39 {d : Nat} {Q : oh_Q} {h : oh_St} {v1 v2 v3 v4 : Int32} (q : ((v3 ≤ v4 → (((1 : Int32) = 0 ∨ (1 : Int32) = 1) ∧ Q (some (.int (1 : Int32))) h)) ∧ (¬ v3 ≤ v4 → CM d jX2_next [.ref 42] h (oh_r1 (fun x2 h1 => CM d jX2_isSignOf [.int v1, .int x2] h1 (oh_r1 (fun x4 h3 => ((x4 = 0 → (((1 : Int32) = 0 ∨ (1 : Int32) = 1) ∧ Q (some (.int (1 : Int32))) h3)) ∧ (¬ x4 = 0 → CM d jX2_next [.ref 42] h3 (oh_r1 (fun x6 h5 => CM d jX2_readLevel [.ref 42, .int (v1 + (1 : Int32)), .int v2] (oh_upi h5 42 3 ((h5.1 42 3) + (1 : Int32))) (oh_r1 (fun x8 h7 => ((¬ x8 = 0 → CM d jX3_add [.ref 43, .int ((10000 : Int32) + x6)] h7 (oh_r0 (fun h9 => wX2_readLevel_39 d Q v1 v2 v3 (v4 + (1 : Int32)) h9))) ∧ (x8 = 0 → (((0 : Int32) = 0 ∨ (0 : Int32) = 1) ∧ Q (some (.int (0 : Int32))) h7)))))))))))))))) : wX2_readLevel_39 d Q v1 v2 v3 v4 h := oh_run_wp (oh_mwp_m d) 203 q
set_option maxRecDepth 20000 in
theorem mX2_readUnit {d : Nat} {Q : oh_Q} {h : oh_St} {v1 : Int32} (q : CM d jX2_next [.ref 42] h (oh_r1 (fun x2 h1 => CM d jX2_isDigit [.int x2] h1 (oh_r1 (fun x4 h3 => ((x4 = 0 → ((x2 = (33 : Int32) → ((v1 < (5 : Int32) → ((¬ x2 = (33 : Int32) → CM d jX2_readInside [.ref 42, .int (v1 + (1 : Int32))] (oh_upi h3 42 3 ((h3.1 42 3) + (1 : Int32))) (oh_r1 (fun x6 h5 => ((x6 = 0 ∨ x6 = 1) ∧ Q (some (.int x6)) h5)))) ∧ (x2 = (33 : Int32) → CM d jX2_readNot [.ref 42, .int (v1 + (1 : Int32))] (oh_upi h3 42 3 ((h3.1 42 3) + (1 : Int32))) (oh_r1 (fun x8 h7 => ((x8 = 0 ∨ x8 = 1) ∧ Q (some (.int x8)) h7)))))) ∧ (¬ v1 < (5 : Int32) → (((0 : Int32) = 0 ∨ (0 : Int32) = 1) ∧ Q (some (.int (0 : Int32))) h3)))) ∧ (¬ x2 = (33 : Int32) → ((¬ x2 = (40 : Int32) → ((0 ≤ x2 → ((2000 ≤ (2000 + (h3.1 42 2).toNatClampNeg) ∧ (2000 + (h3.1 42 2).toNatClampNeg) ≤ 2002) ∧ CM d jJ0_indexOf_0f7a4 [.ref (2000 + (h3.1 42 2).toNatClampNeg), .int ((x2.toUInt32 % 65536).toInt32)] h3 (oh_r1 (fun x10 h9 => ((0 ≤ x10 → CM d jX3_add [.ref 43, .int ((20000 : Int32) + x10)] (oh_upi h9 42 3 ((h9.1 42 3) + (1 : Int32))) (oh_r0 (fun h11 => (((1 : Int32) = 0 ∨ (1 : Int32) = 1) ∧ Q (some (.int (1 : Int32))) h11)))) ∧ (¬ 0 ≤ x10 → (((0 : Int32) = 0 ∨ (0 : Int32) = 1) ∧ Q (some (.int (0 : Int32))) h9))))))) ∧ (¬ 0 ≤ x2 → ((0 ≤ (-1 : Int32) → CM d jX3_add [.ref 43, .int ((20000 : Int32) + (-1 : Int32))] (oh_upi h3 42 3 ((h3.1 42 3) + (1 : Int32))) (oh_r0 (fun h12 => (((1 : Int32) = 0 ∨ (1 : Int32) = 1) ∧ Q (some (.int (1 : Int32))) h12)))) ∧ (¬ 0 ≤ (-1 : Int32) → (((0 : Int32) = 0 ∨ (0 : Int32) = 1) ∧ Q (some (.int (0 : Int32))) h3)))))) ∧ (x2 = (40 : Int32) → ((v1 < (5 : Int32) → ((¬ x2 = (33 : Int32) → CM d jX2_readInside [.ref 42, .int (v1 + (1 : Int32))] (oh_upi h3 42 3 ((h3.1 42 3) + (1 : Int32))) (oh_r1 (fun x14 h13 => ((x14 = 0 ∨ x14 = 1) ∧ Q (some (.int x14)) h13)))) ∧ (x2 = (33 : Int32) → CM d jX2_readNot [.ref 42, .int (v1 + (1 : Int32))] (oh_upi h3 42 3 ((h3.1 42 3) + (1 : Int32))) (oh_r1 (fun x16 h15 => ((x16 = 0 ∨ x16 = 1) ∧ Q (some (.int x16)) h15)))))) ∧ (¬ v1 < (5 : Int32) → (((0 : Int32) = 0 ∨ (0 : Int32) = 1) ∧ Q (some (.int (0 : Int32))) h3)))))))) ∧ (¬ x4 = 0 → CM d jX2_readNumber [.ref 42] h3 (oh_r0 (fun h17 => (((1 : Int32) = 0 ∨ (1 : Int32) = 1) ∧ Q (some (.int (1 : Int32))) h17)))))))))) : CM (d + 1) jX2_readUnit [.ref 42, .int v1] h Q := oh_mwp_1 (nL := 3) (T := tX2_readUnit) rfl rfl (oh_run_wp (oh_mwp_m d) 230 q)
set_option maxRecDepth 20000 in
theorem mX2_readNot {d : Nat} {Q : oh_Q} {h : oh_St} {v1 : Int32} (q : CM d jX2_readUnit [.ref 42, .int v1] h (oh_r1 (fun x2 h1 => CM d jX3_add [.ref 43, .int (10033 : Int32)] h1 (oh_r0 (fun h3 => ((x2 = 0 ∨ x2 = 1) ∧ Q (some (.int x2)) h3)))))) : CM (d + 1) jX2_readNot [.ref 42, .int v1] h Q := oh_mwp_1 (nL := 2) (T := tX2_readNot) rfl rfl (oh_run_wp (oh_mwp_m d) 50 q)
set_option maxRecDepth 20000 in
theorem mX2_readInside {d : Nat} {Q : oh_Q} {h : oh_St} {v1 : Int32} (q : CM d jX2_readLevel [.ref 42, .int (0 : Int32), .int v1] h (oh_r1 (fun x2 h1 => ((x2 = 0 → (((0 : Int32) = 0 ∨ (0 : Int32) = 1) ∧ Q (some (.int (0 : Int32))) h1)) ∧ (¬ x2 = 0 → CM d jX2_next [.ref 42] h1 (oh_r1 (fun x4 h3 => ((x4 = (41 : Int32) → (((1 : Int32) = 0 ∨ (1 : Int32) = 1) ∧ Q (some (.int (1 : Int32))) (oh_upi h3 42 3 ((h3.1 42 3) + (1 : Int32))))) ∧ (¬ x4 = (41 : Int32) → (((0 : Int32) = 0 ∨ (0 : Int32) = 1) ∧ Q (some (.int (0 : Int32))) h3)))))))))) : CM (d + 1) jX2_readInside [.ref 42, .int v1] h Q := oh_mwp_1 (nL := 1) (T := tX2_readInside) rfl rfl (oh_run_wp (oh_mwp_m d) 77 q)
abbrev wX2_readNumber_4 (d : Nat) (Q : oh_Q) (v1 : Int32) (v2 : Int32) (h : oh_St) : Prop := oh_wp GC tX2_readNumber (CM d) Q 4 cX2_readNumber_4 [some (.ref 42), some (.int v1), some (.int v2)] [] h
set_option maxRecDepth 20000 in
theorem mX2_readNumber {d : Nat} {Q : oh_Q} {h : oh_St} (q : wX2_readNumber_4 d Q (0 : Int32) (0 : Int32) h) : CM (d + 1) jX2_readNumber [.ref 42] h Q := oh_mwp_1 (nL := 2) (T := tX2_readNumber) rfl rfl (oh_run_wp (oh_mwp_m d) 119 q)
set_option maxRecDepth 20000 in
theorem bX2_readNumber_4 {d : Nat} {Q : oh_Q} {h : oh_St} {v1 v2 : Int32} (q : (((4 : Int32) ≤ v2 → CM d jX3_add [.ref 43, .int v1] h (oh_r0 (fun h1 => Q none h1))) ∧ (¬ (4 : Int32) ≤ v2 → CM d jX2_next [.ref 42] h (oh_r1 (fun x3 h2 => CM d jX2_isDigit [.int x3] h2 (oh_r1 (fun x5 h4 => ((x5 = 0 → CM d jX3_add [.ref 43, .int v1] h4 (oh_r0 (fun h6 => Q none h6))) ∧ (¬ x5 = 0 → CM d jX2_next [.ref 42] h4 (oh_r1 (fun x8 h7 => wX2_readNumber_4 d Q (((v1 * (10 : Int32)) + x8) - (48 : Int32)) (v2 + (1 : Int32)) (oh_upi h7 42 3 ((h7.1 42 3) + (1 : Int32)))))))))))))) : wX2_readNumber_4 d Q v1 v2 h := oh_run_wp (oh_mwp_m d) 119 q
set_option maxRecDepth 20000 in
theorem mX2_next {d : Nat} {Q : oh_Q} {h : oh_St} (q : (((h.1 45 1) ≤ (h.1 42 3) → Q (some (.int (-1 : Int32))) h) ∧ (¬ (h.1 45 1) ≤ (h.1 42 3) → CM d jX3_get [.ref 45, .int (h.1 42 3)] h (oh_r1 (fun x2 h1 => Q (some (.int x2)) h1))))) : CM (d + 1) jX2_next [.ref 42] h Q := oh_mwp_1 (nL := 0) (T := tX2_next) rfl rfl (oh_run_wp (oh_mwp_m d) 62 q)
set_option maxRecDepth 20000 in
theorem mX2_isDigit {d : Nat} {Q : oh_Q} {h : oh_St} {v0 : Int32} (q : ((v0 < (48 : Int32) → (((0 : Int32) = 0 ∨ (0 : Int32) = 1) ∧ Q (some (.int (0 : Int32))) h)) ∧ (¬ v0 < (48 : Int32) → (((57 : Int32) < v0 → (((0 : Int32) = 0 ∨ (0 : Int32) = 1) ∧ Q (some (.int (0 : Int32))) h)) ∧ (¬ (57 : Int32) < v0 → (((1 : Int32) = 0 ∨ (1 : Int32) = 1) ∧ Q (some (.int (1 : Int32))) h)))))) : CM (d + 1) jX2_isDigit [.int v0] h Q := oh_mwp_1 (nL := 0) (T := tX2_isDigit) rfl rfl (oh_run_wp (oh_mwp_m d) 50 q)
set_option maxRecDepth 20000 in
theorem mX2_isSignOf {d : Nat} {Q : oh_Q} {h : oh_St} {v0 v1 : Int32} (q : ((v0 = (0 : Int32) → ((¬ v1 = (124 : Int32) → (((0 : Int32) = 0 ∨ (0 : Int32) = 1) ∧ Q (some (.int (0 : Int32))) h)) ∧ (v1 = (124 : Int32) → (((1 : Int32) = 0 ∨ (1 : Int32) = 1) ∧ Q (some (.int (1 : Int32))) h)))) ∧ (¬ v0 = (0 : Int32) → ((v0 = (1 : Int32) → ((¬ v1 = (38 : Int32) → (((0 : Int32) = 0 ∨ (0 : Int32) = 1) ∧ Q (some (.int (0 : Int32))) h)) ∧ (v1 = (38 : Int32) → (((1 : Int32) = 0 ∨ (1 : Int32) = 1) ∧ Q (some (.int (1 : Int32))) h)))) ∧ (¬ v0 = (1 : Int32) → ((v0 = (2 : Int32) → ((v1 = (60 : Int32) → (((1 : Int32) = 0 ∨ (1 : Int32) = 1) ∧ Q (some (.int (1 : Int32))) h)) ∧ (¬ v1 = (60 : Int32) → ((v1 = (61 : Int32) → (((1 : Int32) = 0 ∨ (1 : Int32) = 1) ∧ Q (some (.int (1 : Int32))) h)) ∧ (¬ v1 = (61 : Int32) → ((¬ v1 = (62 : Int32) → (((0 : Int32) = 0 ∨ (0 : Int32) = 1) ∧ Q (some (.int (0 : Int32))) h)) ∧ (v1 = (62 : Int32) → (((1 : Int32) = 0 ∨ (1 : Int32) = 1) ∧ Q (some (.int (1 : Int32))) h)))))))) ∧ (¬ v0 = (2 : Int32) → ((v0 = (3 : Int32) → ((v1 = (43 : Int32) → (((1 : Int32) = 0 ∨ (1 : Int32) = 1) ∧ Q (some (.int (1 : Int32))) h)) ∧ (¬ v1 = (43 : Int32) → ((¬ v1 = (45 : Int32) → (((0 : Int32) = 0 ∨ (0 : Int32) = 1) ∧ Q (some (.int (0 : Int32))) h)) ∧ (v1 = (45 : Int32) → (((1 : Int32) = 0 ∨ (1 : Int32) = 1) ∧ Q (some (.int (1 : Int32))) h)))))) ∧ (¬ v0 = (3 : Int32) → ((v0 = (4 : Int32) → ((v1 = (42 : Int32) → (((1 : Int32) = 0 ∨ (1 : Int32) = 1) ∧ Q (some (.int (1 : Int32))) h)) ∧ (¬ v1 = (42 : Int32) → ((v1 = (47 : Int32) → (((1 : Int32) = 0 ∨ (1 : Int32) = 1) ∧ Q (some (.int (1 : Int32))) h)) ∧ (¬ v1 = (47 : Int32) → ((¬ v1 = (37 : Int32) → (((0 : Int32) = 0 ∨ (0 : Int32) = 1) ∧ Q (some (.int (0 : Int32))) h)) ∧ (v1 = (37 : Int32) → (((1 : Int32) = 0 ∨ (1 : Int32) = 1) ∧ Q (some (.int (1 : Int32))) h)))))))) ∧ (¬ v0 = (4 : Int32) → (((0 : Int32) = 0 ∨ (0 : Int32) = 1) ∧ Q (some (.int (0 : Int32))) h)))))))))))) : CM (d + 1) jX2_isSignOf [.int v0, .int v1] h Q := oh_mwp_1 (nL := 1) (T := tX2_isSignOf) rfl rfl (oh_run_wp (oh_mwp_m d) 182 q)
abbrev wX4_take_10 (d : Nat) (Q : oh_Q) (o : Nat) (o2 : Nat) (v2 : Int32) (h : oh_St) : Prop := oh_wp GC tX4_take (CM d) Q 10 cX4_take_10 [some (.ref o), some (.ref o2), some (.int v2)] [] h
set_option maxRecDepth 20000 in
theorem mX4_take {d : Nat} {Q : oh_Q} {h : oh_St} {o o2 : Nat} (ho : (o = 2 ∧ o2 = 20) ∨ (o = 20 ∧ o2 = 2) ∨ (o = 37 ∧ o2 = 2)) (q : wX4_take_10 d Q o o2 (0 : Int32) (oh_upi h o 0 (h.1 o2 0))) : CM (d + 1) jX4_take [.ref o, .ref o2] h Q := by
  rcases ho with ⟨rfl, rfl⟩ | ⟨rfl, rfl⟩ | ⟨rfl, rfl⟩ <;> exact oh_mwp_1 (nL := 2) (T := tX4_take) rfl rfl (oh_run_wp (oh_mwp_m d) 224 q)
set_option maxRecDepth 20000 in
theorem bX4_take_10 {d : Nat} {Q : oh_Q} {h : oh_St} {o o2 : Nat} {v2 : Int32} (ho : (o = 2 ∧ o2 = 20) ∨ (o = 20 ∧ o2 = 2) ∨ (o = 37 ∧ o2 = 2)) (q : (((6 : Int32) ≤ v2 → ((((oh_upi (oh_upi h o 5 (h.1 o2 5)) o 6 ((oh_upi h o 5 (h.1 o2 5)).1 o2 6)).1 o2 7) = 0 ∨ ((oh_upi (oh_upi h o 5 (h.1 o2 5)) o 6 ((oh_upi h o 5 (h.1 o2 5)).1 o2 6)).1 o2 7) = 1) ∧ Q none (oh_upi (oh_upi (oh_upl (oh_upi (oh_upi (oh_upi h o 5 (h.1 o2 5)) o 6 ((oh_upi h o 5 (h.1 o2 5)).1 o2 6)) o 7 ((oh_upi (oh_upi h o 5 (h.1 o2 5)) o 6 ((oh_upi h o 5 (h.1 o2 5)).1 o2 6)).1 o2 7)) o 8 ((oh_upi (oh_upi (oh_upi h o 5 (h.1 o2 5)) o 6 ((oh_upi h o 5 (h.1 o2 5)).1 o2 6)) o 7 ((oh_upi (oh_upi h o 5 (h.1 o2 5)) o 6 ((oh_upi h o 5 (h.1 o2 5)).1 o2 6)).1 o2 7)).2 o2 8)) o 9 ((oh_upl (oh_upi (oh_upi (oh_upi h o 5 (h.1 o2 5)) o 6 ((oh_upi h o 5 (h.1 o2 5)).1 o2 6)) o 7 ((oh_upi (oh_upi h o 5 (h.1 o2 5)) o 6 ((oh_upi h o 5 (h.1 o2 5)).1 o2 6)).1 o2 7)) o 8 ((oh_upi (oh_upi (oh_upi h o 5 (h.1 o2 5)) o 6 ((oh_upi h o 5 (h.1 o2 5)).1 o2 6)) o 7 ((oh_upi (oh_upi h o 5 (h.1 o2 5)) o 6 ((oh_upi h o 5 (h.1 o2 5)).1 o2 6)).1 o2 7)).2 o2 8)).1 o2 9)) o 10 ((oh_upi (oh_upl (oh_upi (oh_upi (oh_upi h o 5 (h.1 o2 5)) o 6 ((oh_upi h o 5 (h.1 o2 5)).1 o2 6)) o 7 ((oh_upi (oh_upi h o 5 (h.1 o2 5)) o 6 ((oh_upi h o 5 (h.1 o2 5)).1 o2 6)).1 o2 7)) o 8 ((oh_upi (oh_upi (oh_upi h o 5 (h.1 o2 5)) o 6 ((oh_upi h o 5 (h.1 o2 5)).1 o2 6)) o 7 ((oh_upi (oh_upi h o 5 (h.1 o2 5)) o 6 ((oh_upi h o 5 (h.1 o2 5)).1 o2 6)).1 o2 7)).2 o2 8)) o 9 ((oh_upl (oh_upi (oh_upi (oh_upi h o 5 (h.1 o2 5)) o 6 ((oh_upi h o 5 (h.1 o2 5)).1 o2 6)) o 7 ((oh_upi (oh_upi h o 5 (h.1 o2 5)) o 6 ((oh_upi h o 5 (h.1 o2 5)).1 o2 6)).1 o2 7)) o 8 ((oh_upi (oh_upi (oh_upi h o 5 (h.1 o2 5)) o 6 ((oh_upi h o 5 (h.1 o2 5)).1 o2 6)) o 7 ((oh_upi (oh_upi h o 5 (h.1 o2 5)) o 6 ((oh_upi h o 5 (h.1 o2 5)).1 o2 6)).1 o2 7)).2 o2 8)).1 o2 9)).1 o2 10)))) ∧ (¬ (6 : Int32) ≤ v2 → (vp_in v2 6 ∧ (vp_in v2 6 ∧ (vp_in v2 6 ∧ (vp_in v2 6 ∧ (vp_in v2 6 ∧ (vp_in v2 6 ∧ (vp_in v2 6 ∧ (vp_in v2 6 ∧ wX4_take_10 d Q o o2 (v2 + (1 : Int32)) (oh_upi (oh_upi (oh_upi (oh_upi h (o + 1) v2.toNatClampNeg (h.1 (o2 + 1) v2.toNatClampNeg)) (o + 2) v2.toNatClampNeg ((oh_upi h (o + 1) v2.toNatClampNeg (h.1 (o2 + 1) v2.toNatClampNeg)).1 (o2 + 2) v2.toNatClampNeg)) (o + 3) v2.toNatClampNeg ((oh_upi (oh_upi h (o + 1) v2.toNatClampNeg (h.1 (o2 + 1) v2.toNatClampNeg)) (o + 2) v2.toNatClampNeg ((oh_upi h (o + 1) v2.toNatClampNeg (h.1 (o2 + 1) v2.toNatClampNeg)).1 (o2 + 2) v2.toNatClampNeg)).1 (o2 + 3) v2.toNatClampNeg)) (o + 4) v2.toNatClampNeg ((oh_upi (oh_upi (oh_upi h (o + 1) v2.toNatClampNeg (h.1 (o2 + 1) v2.toNatClampNeg)) (o + 2) v2.toNatClampNeg ((oh_upi h (o + 1) v2.toNatClampNeg (h.1 (o2 + 1) v2.toNatClampNeg)).1 (o2 + 2) v2.toNatClampNeg)) (o + 3) v2.toNatClampNeg ((oh_upi (oh_upi h (o + 1) v2.toNatClampNeg (h.1 (o2 + 1) v2.toNatClampNeg)) (o + 2) v2.toNatClampNeg ((oh_upi h (o + 1) v2.toNatClampNeg (h.1 (o2 + 1) v2.toNatClampNeg)).1 (o2 + 2) v2.toNatClampNeg)).1 (o2 + 3) v2.toNatClampNeg)).1 (o2 + 4) v2.toNatClampNeg))))))))))))) : wX4_take_10 d Q o o2 v2 h := by
  rcases ho with ⟨rfl, rfl⟩ | ⟨rfl, rfl⟩ | ⟨rfl, rfl⟩ <;> exact oh_run_wp (oh_mwp_m d) 224 q
set_option maxRecDepth 20000 in
theorem mX4_worldCount {d : Nat} {Q : oh_Q} {h : oh_St} {o : Nat} (ho : o = 2 ∨ o = 37) (q : Q (some (.int ((1 : Int32) <<< ((h.1 o 0) &&& 31)))) h) : CM (d + 1) jX4_worldCount [.ref o] h Q := by
  rcases ho with rfl | rfl <;> exact oh_mwp_1 (nL := 0) (T := tX4_worldCount) rfl rfl (oh_run_wp (oh_mwp_m d) 35 q)
abbrev wX4_addMan_11 (d : Nat) (Q : oh_Q) (v1 : Int32) (v2 : Int32) (v3 : Int32) (h : oh_St) : Prop := oh_wp GC tX4_addMan (CM d) Q 11 cX4_addMan_11 [some (.ref 2), some (.int v1), some (.int v2), some (.int v3)] [] h
set_option maxRecDepth 20000 in
theorem mX4_addMan {d : Nat} {Q : oh_Q} {h : oh_St} {v1 : Int32} (q : CM d jJ9_min_7cf53 [.int (h.1 2 0), .int (5 : Int32)] h (oh_r1 (fun x2 h1 => wX4_addMan_11 d Q v1 x2 (0 : Int32) h1))) : CM (d + 1) jX4_addMan [.ref 2, .int v1] h Q := oh_mwp_1 (nL := 3) (T := tX4_addMan) rfl rfl (oh_run_wp (oh_mwp_m d) 176 q)
set_option maxRecDepth 20000 in
theorem bX4_addMan_11 {d : Nat} {Q : oh_Q} {h : oh_St} {v1 v2 v3 : Int32} (q : ((v2 ≤ v3 → (¬ (10 : Int32) = 0 ∧ (vp_in v2 6 ∧ (¬ (10 : Int32) = 0 ∧ (vp_in v2 6 ∧ (vp_in v2 6 ∧ Q (some (.int v2)) (oh_upi (oh_upi (oh_upi (oh_upi h 3 v2.toNatClampNeg (v1 / (10 : Int32))) 4 v2.toNatClampNeg (v1 - v1 / (10 : Int32) * (10 : Int32))) 5 v2.toNatClampNeg (((1 : Int32) <<< (v2 &&& 31)) - (1 : Int32))) 2 0 (v2 + (1 : Int32))))))))) ∧ (¬ v2 ≤ v3 → (vp_in v3 6 ∧ (vp_in v3 6 ∧ wX4_addMan_11 d Q v1 v2 (v3 + (1 : Int32)) (oh_upi h 5 v3.toNatClampNeg ((h.1 5 v3.toNatClampNeg) ||| ((1 : Int32) <<< (v2 &&& 31))))))))) : wX4_addMan_11 d Q v1 v2 v3 h := oh_run_wp (oh_mwp_m d) 176 q
abbrev wX4_givenBy_5 (d : Nat) (Q : oh_Q) (v2 : Int64) (v4 : Int32) (h : oh_St) : Prop := oh_wp GC tX4_givenBy (CM d) Q 5 cX4_givenBy_5 [some (.ref 2), some (.ref 7), some (.long v2), none, some (.int v4), none, none] [] h
set_option maxRecDepth 20000 in
theorem mX4_givenBy {d : Nat} {Q : oh_Q} {h : oh_St} (q : wX4_givenBy_5 d Q (0 : Int64) (0 : Int32) h) : CM (d + 1) jX4_givenBy [.ref 2, .ref 7] h Q := oh_mwp_1 (nL := 6) (T := tX4_givenBy) rfl rfl (oh_run_wp (oh_mwp_m d) 149 q)
set_option maxRecDepth 20000 in
theorem bX4_givenBy_5 {d : Nat} {Q : oh_Q} {h : oh_St} {v4 : Int32} {v2 : Int64} (q : CM d jX4_worldCount [.ref 2] h (oh_r1 (fun x2 h1 => ((x2 ≤ v4 → Q (some (.long v2)) h1) ∧ (¬ x2 ≤ v4 → ((¬ (h1.1 2 0) = 0 → CM d jX7_bit [.int v4, .int ((h1.1 2 0) - (1 : Int32))] h1 (oh_r1 (fun x4 h3 => CM d jJ6_bitCount_0f7a4 [.int v4] h3 (oh_r1 (fun x6 h5 => CM d jX1_gives [.ref 7, .int x6, .int (h5.1 2 0), .int (v4 &&& (1 : Int32)), .int x4] h5 (oh_r1 (fun x8 h7 => ((x8 = 0 → wX4_givenBy_5 d Q v2 (v4 + (1 : Int32)) h7) ∧ (¬ x8 = 0 → wX4_givenBy_5 d Q (v2 ||| ((1 : Int64) <<< (v4.toInt64 &&& 63))) (v4 + (1 : Int32)) h7))))))))) ∧ ((h1.1 2 0) = 0 → CM d jJ6_bitCount_0f7a4 [.int v4] h1 (oh_r1 (fun x10 h9 => CM d jX1_gives [.ref 7, .int x10, .int (h9.1 2 0), .int (v4 &&& (1 : Int32)), .int (0 : Int32)] h9 (oh_r1 (fun x12 h11 => ((x12 = 0 → wX4_givenBy_5 d Q v2 (v4 + (1 : Int32)) h11) ∧ (¬ x12 = 0 → wX4_givenBy_5 d Q (v2 ||| ((1 : Int64) <<< (v4.toInt64 &&& 63))) (v4 + (1 : Int32)) h11))))))))))))) : wX4_givenBy_5 d Q v2 v4 h := oh_run_wp (oh_mwp_m d) 149 q
set_option maxRecDepth 20000 in
theorem mX4_thought {d : Nat} {Q : oh_Q} {h : oh_St} {o : Nat} {v1 v2 : Int32} (ho : o = 2 ∨ o = 37) (q : ((v1 < 0 → Q (some (.long (0 : Int64))) h) ∧ (¬ v1 < 0 → ((v1 < (6 : Int32) → (vp_in v1 6 ∧ CM d jX7_allWhite [.int (h.1 (o + 3) v1.toNatClampNeg)] h (oh_r2 (fun x2 h1 => (vp_in v1 6 ∧ Q (some (.long ((h.2 o 8) &&& (x2 <<< ((v2 &&& (h1.1 (o + 3) v1.toNatClampNeg)).toInt64 &&& 63))))) h1))))) ∧ (¬ v1 < (6 : Int32) → Q (some (.long (0 : Int64))) h))))) : CM (d + 1) jX4_thought [.ref o, .int v1, .int v2] h Q := by
  rcases ho with rfl | rfl <;> exact oh_mwp_1 (nL := 2) (T := tX4_thought) rfl rfl (oh_run_wp (oh_mwp_m d) 89 q)
set_option maxRecDepth 20000 in
theorem mX4_hasSpoken {d : Nat} {Q : oh_Q} {h : oh_St} {o : Nat} {v1 : Int32} (ho : o = 2 ∨ o = 37) (q : CM d jX7_bit [.int (h.1 o 9), .int v1] h (oh_r1 (fun x2 h1 => ((¬ x2 = (1 : Int32) → (((0 : Int32) = 0 ∨ (0 : Int32) = 1) ∧ Q (some (.int (0 : Int32))) h1)) ∧ (x2 = (1 : Int32) → (((1 : Int32) = 0 ∨ (1 : Int32) = 1) ∧ Q (some (.int (1 : Int32))) h1)))))) : CM (d + 1) jX4_hasSpoken [.ref o, .int v1] h Q := by
  rcases ho with rfl | rfl <;> exact oh_mwp_1 (nL := 1) (T := tX4_hasSpoken) rfl rfl (oh_run_wp (oh_mwp_m d) 50 q)
set_option maxRecDepth 20000 in
theorem mX4_speaks {d : Nat} {Q : oh_Q} {h : oh_St} {o : Nat} {v1 : Int32} {v2 : Int64} (ho : o = 2 ∨ o = 37) (q : ((v1 < 0 → (((0 : Int32) = 0 ∨ (0 : Int32) = 1) ∧ Q (some (.int (0 : Int32))) h)) ∧ (¬ v1 < 0 → (((6 : Int32) ≤ v1 → (((0 : Int32) = 0 ∨ (0 : Int32) = 1) ∧ Q (some (.int (0 : Int32))) h)) ∧ (¬ (6 : Int32) ≤ v1 → CM d jX4_hasSpoken [.ref o, .int v1] h (oh_r1 (fun x2 h1 => ((x2 = 0 → (vp_in v1 6 ∧ (vp_in v1 6 ∧ (((h1.1 (o + 1) v1.toNatClampNeg) = (1 : Int32) → CM d jX4_isSure [.ref o, .int v1, .long v2] h1 (oh_r1 (fun x14 h13 => ((x14 = 0 ∨ x14 = 1) ∧ Q (some (.int x14)) h13)))) ∧ (¬ (h1.1 (o + 1) v1.toNatClampNeg) = (1 : Int32) → (((h1.1 (o + 1) v1.toNatClampNeg) = (2 : Int32) → (((h1.1 o 10) < (h1.1 (o + 2) v1.toNatClampNeg) → (((0 : Int32) = 0 ∨ (0 : Int32) = 1) ∧ Q (some (.int (0 : Int32))) h1)) ∧ (¬ (h1.1 o 10) < (h1.1 (o + 2) v1.toNatClampNeg) → CM d jX7_knows [.int v1, .long v2] h1 (oh_r1 (fun x12 h11 => ((x12 = 0 → (((0 : Int32) = 0 ∨ (0 : Int32) = 1) ∧ Q (some (.int (0 : Int32))) h11)) ∧ (¬ x12 = 0 → (((1 : Int32) = 0 ∨ (1 : Int32) = 1) ∧ Q (some (.int (1 : Int32))) h11)))))))) ∧ (¬ (h1.1 (o + 1) v1.toNatClampNeg) = (2 : Int32) → (((h1.1 (o + 1) v1.toNatClampNeg) = (3 : Int32) → (((0 : Int32) = 0 ∨ (0 : Int32) = 1) ∧ Q (some (.int (0 : Int32))) h1)) ∧ (¬ (h1.1 (o + 1) v1.toNatClampNeg) = (3 : Int32) → (((h1.1 (o + 1) v1.toNatClampNeg) = (4 : Int32) → (((h1.1 (o + 2) v1.toNatClampNeg) ≤ (h1.1 o 10) → (((1 : Int32) = 0 ∨ (1 : Int32) = 1) ∧ Q (some (.int (1 : Int32))) h1)) ∧ (¬ (h1.1 (o + 2) v1.toNatClampNeg) ≤ (h1.1 o 10) → CM d jX4_isSure [.ref o, .int v1, .long v2] h1 (oh_r1 (fun x10 h9 => ((x10 = 0 → (((0 : Int32) = 0 ∨ (0 : Int32) = 1) ∧ Q (some (.int (0 : Int32))) h9)) ∧ (¬ x10 = 0 → (((1 : Int32) = 0 ∨ (1 : Int32) = 1) ∧ Q (some (.int (1 : Int32))) h9)))))))) ∧ (¬ (h1.1 (o + 1) v1.toNatClampNeg) = (4 : Int32) → (((h1.1 (o + 1) v1.toNatClampNeg) = (5 : Int32) → (((h1.1 o 10) < (h1.1 (o + 2) v1.toNatClampNeg) → (((0 : Int32) = 0 ∨ (0 : Int32) = 1) ∧ Q (some (.int (0 : Int32))) h1)) ∧ (¬ (h1.1 o 10) < (h1.1 (o + 2) v1.toNatClampNeg) → (vp_in v1 6 ∧ ((¬ ((h1.1 (o + 3) v1.toNatClampNeg) &&& ((h1.1 o 9) ^^^ (-1 : Int32))) = 0 → (((0 : Int32) = 0 ∨ (0 : Int32) = 1) ∧ Q (some (.int (0 : Int32))) h1)) ∧ (((h1.1 (o + 3) v1.toNatClampNeg) &&& ((h1.1 o 9) ^^^ (-1 : Int32))) = 0 → CM d jX7_knows [.int v1, .long v2] h1 (oh_r1 (fun x8 h7 => ((x8 = 0 → (((0 : Int32) = 0 ∨ (0 : Int32) = 1) ∧ Q (some (.int (0 : Int32))) h7)) ∧ (¬ x8 = 0 → (((1 : Int32) = 0 ∨ (1 : Int32) = 1) ∧ Q (some (.int (1 : Int32))) h7))))))))))) ∧ (¬ (h1.1 (o + 1) v1.toNatClampNeg) = (5 : Int32) → (((h1.1 (o + 1) v1.toNatClampNeg) = (6 : Int32) → CM d jX7_knows [.int v1, .long (h1.2 o 8)] h1 (oh_r1 (fun x6 h5 => ((x6 = 0 ∨ x6 = 1) ∧ Q (some (.int x6)) h5)))) ∧ (¬ (h1.1 (o + 1) v1.toNatClampNeg) = (6 : Int32) → CM d jX7_knows [.int v1, .long v2] h1 (oh_r1 (fun x4 h3 => ((x4 = 0 ∨ x4 = 1) ∧ Q (some (.int x4)) h3)))))))))))))))))) ∧ (¬ x2 = 0 → (((0 : Int32) = 0 ∨ (0 : Int32) = 1) ∧ Q (some (.int (0 : Int32))) h1)))))))))) : CM (d + 1) jX4_speaks [.ref o, .int v1, .long v2] h Q := by
  rcases ho with rfl | rfl <;> exact oh_mwp_1 (nL := 4) (T := tX4_speaks) rfl rfl (oh_run_wp (oh_mwp_m d) 272 q)
set_option maxRecDepth 20000 in
theorem mX4_isSure {d : Nat} {Q : oh_Q} {h : oh_St} {o : Nat} {v1 : Int32} {v2 : Int64} (ho : o = 2 ∨ o = 37) (q : CM d jX7_blacks [.int v1, .long v2] h (oh_r1 (fun x2 h1 => CM d jX7_whites [.int v1, .long v2] h1 (oh_r1 (fun x4 h3 => ((v1 < 0 → ((x2 = 0 → (((1 : Int32) = 0 ∨ (1 : Int32) = 1) ∧ Q (some (.int (1 : Int32))) h3)) ∧ (¬ x2 = 0 → ((x4 = 0 → (((1 : Int32) = 0 ∨ (1 : Int32) = 1) ∧ Q (some (.int (1 : Int32))) h3)) ∧ (¬ x4 = 0 → ((((0 : Int32) * x4) < x2 → (((1 : Int32) = 0 ∨ (1 : Int32) = 1) ∧ Q (some (.int (1 : Int32))) h3)) ∧ (¬ ((0 : Int32) * x4) < x2 → ((x4 ≤ ((0 : Int32) * x2) → (((0 : Int32) = 0 ∨ (0 : Int32) = 1) ∧ Q (some (.int (0 : Int32))) h3)) ∧ (¬ x4 ≤ ((0 : Int32) * x2) → (((1 : Int32) = 0 ∨ (1 : Int32) = 1) ∧ Q (some (.int (1 : Int32))) h3)))))))))) ∧ (¬ v1 < 0 → ((v1 < (6 : Int32) → (vp_in v1 6 ∧ ((x2 = 0 → (((1 : Int32) = 0 ∨ (1 : Int32) = 1) ∧ Q (some (.int (1 : Int32))) h3)) ∧ (¬ x2 = 0 → ((x4 = 0 → (((1 : Int32) = 0 ∨ (1 : Int32) = 1) ∧ Q (some (.int (1 : Int32))) h3)) ∧ (¬ x4 = 0 → ((((h3.1 (o + 2) v1.toNatClampNeg) * x4) < x2 → (((1 : Int32) = 0 ∨ (1 : Int32) = 1) ∧ Q (some (.int (1 : Int32))) h3)) ∧ (¬ ((h3.1 (o + 2) v1.toNatClampNeg) * x4) < x2 → ((x4 ≤ ((h3.1 (o + 2) v1.toNatClampNeg) * x2) → (((0 : Int32) = 0 ∨ (0 : Int32) = 1) ∧ Q (some (.int (0 : Int32))) h3)) ∧ (¬ x4 ≤ ((h3.1 (o + 2) v1.toNatClampNeg) * x2) → (((1 : Int32) = 0 ∨ (1 : Int32) = 1) ∧ Q (some (.int (1 : Int32))) h3))))))))))) ∧ (¬ v1 < (6 : Int32) → ((x2 = 0 → (((1 : Int32) = 0 ∨ (1 : Int32) = 1) ∧ Q (some (.int (1 : Int32))) h3)) ∧ (¬ x2 = 0 → ((x4 = 0 → (((1 : Int32) = 0 ∨ (1 : Int32) = 1) ∧ Q (some (.int (1 : Int32))) h3)) ∧ (¬ x4 = 0 → ((((0 : Int32) * x4) < x2 → (((1 : Int32) = 0 ∨ (1 : Int32) = 1) ∧ Q (some (.int (1 : Int32))) h3)) ∧ (¬ ((0 : Int32) * x4) < x2 → ((x4 ≤ ((0 : Int32) * x2) → (((0 : Int32) = 0 ∨ (0 : Int32) = 1) ∧ Q (some (.int (0 : Int32))) h3)) ∧ (¬ x4 ≤ ((0 : Int32) * x2) → (((1 : Int32) = 0 ∨ (1 : Int32) = 1) ∧ Q (some (.int (1 : Int32))) h3)))))))))))))))))) : CM (d + 1) jX4_isSure [.ref o, .int v1, .long v2] h Q := by
  rcases ho with rfl | rfl <;> exact oh_mwp_1 (nL := 6) (T := tX4_isSure) rfl rfl (oh_run_wp (oh_mwp_m d) 134 q)
abbrev wX4_speakers_4 (d : Nat) (Q : oh_Q) (o : Nat) (v1 : Int32) (v2 : Int32) (h : oh_St) : Prop := oh_wp GC tX4_speakers (CM d) Q 4 cX4_speakers_4 [some (.ref o), some (.int v1), some (.int v2)] [] h
set_option maxRecDepth 20000 in
theorem mX4_speakers {d : Nat} {Q : oh_Q} {h : oh_St} {o : Nat} (ho : o = 2 ∨ o = 37) (q : wX4_speakers_4 d Q o (0 : Int32) (0 : Int32) h) : CM (d + 1) jX4_speakers [.ref o] h Q := by
  rcases ho with rfl | rfl <;> exact oh_mwp_1 (nL := 2) (T := tX4_speakers) rfl rfl (oh_run_wp (oh_mwp_m d) 101 q)
set_option maxRecDepth 20000 in
theorem bX4_speakers_4 {d : Nat} {Q : oh_Q} {h : oh_St} {o : Nat} {v1 v2 : Int32} (ho : o = 2 ∨ o = 37) (q : (((h.1 o 0) ≤ v2 → Q (some (.int v1)) h) ∧ (¬ (h.1 o 0) ≤ v2 → CM d jX4_thought [.ref o, .int v2, .int (h.1 o 5)] h (oh_r2 (fun x2 h1 => CM d jX4_speaks [.ref o, .int v2, .long x2] h1 (oh_r1 (fun x4 h3 => ((x4 = 0 → wX4_speakers_4 d Q o v1 (v2 + (1 : Int32)) h3) ∧ (¬ x4 = 0 → wX4_speakers_4 d Q o (v1 ||| ((1 : Int32) <<< (v2 &&& 31))) (v2 + (1 : Int32)) h3))))))))) : wX4_speakers_4 d Q o v1 v2 h := by
  rcases ho with rfl | rfl <;> exact oh_run_wp (oh_mwp_m d) 101 q
abbrev wX4_sayings_4 (d : Nat) (Q : oh_Q) (o : Nat) (v1 : Int32) (v2 : Int32) (v3 : Int32) (h : oh_St) : Prop := oh_wp GC tX4_sayings (CM d) Q 4 cX4_sayings_4 [some (.ref o), some (.int v1), some (.int v2), some (.int v3)] [] h
set_option maxRecDepth 20000 in
theorem mX4_sayings {d : Nat} {Q : oh_Q} {h : oh_St} {o : Nat} {v1 : Int32} (ho : o = 2 ∨ o = 37) (q : wX4_sayings_4 d Q o v1 (0 : Int32) (0 : Int32) h) : CM (d + 1) jX4_sayings [.ref o, .int v1] h Q := by
  rcases ho with rfl | rfl <;> exact oh_mwp_1 (nL := 3) (T := tX4_sayings) rfl rfl (oh_run_wp (oh_mwp_m d) 107 q)
set_option maxRecDepth 20000 in
theorem bX4_sayings_4 {d : Nat} {Q : oh_Q} {h : oh_St} {o : Nat} {v1 v2 v3 : Int32} (ho : o = 2 ∨ o = 37) (q : (((h.1 o 0) ≤ v3 → Q (some (.int v2)) h) ∧ (¬ (h.1 o 0) ≤ v3 → CM d jX7_bit [.int v1, .int v3] h (oh_r1 (fun x2 h1 => ((¬ x2 = (1 : Int32) → wX4_sayings_4 d Q o v1 v2 (v3 + (1 : Int32)) h1) ∧ (x2 = (1 : Int32) → CM d jX4_thought [.ref o, .int v3, .int (h1.1 o 5)] h1 (oh_r2 (fun x4 h3 => CM d jX7_wouldSay [.int v3, .long x4] h3 (oh_r1 (fun x6 h5 => wX4_sayings_4 d Q o v1 (v2 ||| (x6 <<< (v3 &&& 31))) (v3 + (1 : Int32)) h5))))))))))) : wX4_sayings_4 d Q o v1 v2 v3 h := by
  rcases ho with rfl | rfl <;> exact oh_run_wp (oh_mwp_m d) 107 q
set_option maxRecDepth 20000 in
theorem mX4_ring {d : Nat} {Q : oh_Q} {h : oh_St} {o : Nat} (ho : o = 2 ∨ o = 37) (q : CM d jX4_speakers [.ref o] h (oh_r1 (fun x2 h1 => CM d jX4_sayings [.ref o, .int x2] h1 (oh_r1 (fun x4 h3 => CM d jX4_hear [.ref o, .int x2, .int x4, .ref 11] h3 (oh_r1 (fun x6 h5 => ((x6 = 0 ∨ x6 = 1) ∧ Q (some (.int x6)) h5)))))))) : CM (d + 1) jX4_ring [.ref o, .ref 11] h Q := by
  rcases ho with rfl | rfl <;> exact oh_mwp_1 (nL := 2) (T := tX4_ring) rfl rfl (oh_run_wp (oh_mwp_m d) 53 q)
abbrev wX4_hear_9 (d : Nat) (Q : oh_Q) (o : Nat) (v1 : Int32) (v2 : Int32) (v4 : Int64) (v6 : Int32) (h : oh_St) : Prop := oh_wp GC tX4_hear (CM d) Q 9 cX4_hear_9 [some (.ref o), some (.int v1), some (.int v2), some (.ref 11), some (.long v4), none, some (.int v6)] [] h
set_option maxRecDepth 20000 in
theorem mX4_hear {d : Nat} {Q : oh_Q} {h : oh_St} {o : Nat} {v1 v2 : Int32} (ho : o = 2 ∨ o = 37) (q : wX4_hear_9 d Q o v1 v2 (h.2 o 8) (0 : Int32) h) : CM (d + 1) jX4_hear [.ref o, .int v1, .int v2, .ref 11] h Q := by
  rcases ho with rfl | rfl <;> exact oh_mwp_1 (nL := 6) (T := tX4_hear) rfl rfl (oh_run_wp (oh_mwp_m d) 236 q)
set_option maxRecDepth 20000 in
theorem bX4_hear_9 {d : Nat} {Q : oh_Q} {h : oh_St} {o : Nat} {v1 v2 v6 : Int32} {v4 : Int64} (ho : o = 2 ∨ o = 37) (q : (((h.1 o 0) ≤ v6 → CM d jX4_payAll [.ref o, .int v1, .int v2, .ref 11] h (oh_r0 (fun h1 => ((¬ v1 = 0 → (((lg_cmp v4 (0 : Int64)) = 0 → (((1 : Int32) = 0 ∨ (1 : Int32) = 1) ∧ Q (some (.int (1 : Int32))) (oh_upi (oh_upi h1 o 9 ((h1.1 o 9) ||| v1)) o 10 (((oh_upi h1 o 9 ((h1.1 o 9) ||| v1)).1 o 10) + (1 : Int32))))) ∧ (¬ (lg_cmp v4 (0 : Int64)) = 0 → (((1 : Int32) = 0 ∨ (1 : Int32) = 1) ∧ Q (some (.int (1 : Int32))) (oh_upi (oh_upi (oh_upl h1 o 8 v4) o 9 (((oh_upl h1 o 8 v4).1 o 9) ||| v1)) o 10 (((oh_upi (oh_upl h1 o 8 v4) o 9 (((oh_upl h1 o 8 v4).1 o 9) ||| v1)).1 o 10) + (1 : Int32))))))) ∧ (v1 = 0 → (((lg_cmp v4 (0 : Int64)) = 0 → (((lg_cmp v4 (0 : Int64)) = 0 → (((0 : Int32) = 0 ∨ (0 : Int32) = 1) ∧ Q (some (.int (0 : Int32))) (oh_upi (oh_upi h1 o 9 ((h1.1 o 9) ||| v1)) o 10 (((oh_upi h1 o 9 ((h1.1 o 9) ||| v1)).1 o 10) + (1 : Int32))))) ∧ (¬ (lg_cmp v4 (0 : Int64)) = 0 → (((0 : Int32) = 0 ∨ (0 : Int32) = 1) ∧ Q (some (.int (0 : Int32))) (oh_upi (oh_upi (oh_upl h1 o 8 v4) o 9 (((oh_upl h1 o 8 v4).1 o 9) ||| v1)) o 10 (((oh_upi (oh_upl h1 o 8 v4) o 9 (((oh_upl h1 o 8 v4).1 o 9) ||| v1)).1 o 10) + (1 : Int32))))))) ∧ (¬ (lg_cmp v4 (0 : Int64)) = 0 → (((lg_cmp v4 (h1.2 o 8)) = 0 → (((lg_cmp v4 (0 : Int64)) = 0 → (((0 : Int32) = 0 ∨ (0 : Int32) = 1) ∧ Q (some (.int (0 : Int32))) (oh_upi (oh_upi h1 o 9 ((h1.1 o 9) ||| v1)) o 10 (((oh_upi h1 o 9 ((h1.1 o 9) ||| v1)).1 o 10) + (1 : Int32))))) ∧ (¬ (lg_cmp v4 (0 : Int64)) = 0 → (((0 : Int32) = 0 ∨ (0 : Int32) = 1) ∧ Q (some (.int (0 : Int32))) (oh_upi (oh_upi (oh_upl h1 o 8 v4) o 9 (((oh_upl h1 o 8 v4).1 o 9) ||| v1)) o 10 (((oh_upi (oh_upl h1 o 8 v4) o 9 (((oh_upl h1 o 8 v4).1 o 9) ||| v1)).1 o 10) + (1 : Int32))))))) ∧ (¬ (lg_cmp v4 (h1.2 o 8)) = 0 → (((lg_cmp v4 (0 : Int64)) = 0 → (((1 : Int32) = 0 ∨ (1 : Int32) = 1) ∧ Q (some (.int (1 : Int32))) (oh_upi (oh_upi h1 o 9 ((h1.1 o 9) ||| v1)) o 10 (((oh_upi h1 o 9 ((h1.1 o 9) ||| v1)).1 o 10) + (1 : Int32))))) ∧ (¬ (lg_cmp v4 (0 : Int64)) = 0 → (((1 : Int32) = 0 ∨ (1 : Int32) = 1) ∧ Q (some (.int (1 : Int32))) (oh_upi (oh_upi (oh_upl h1 o 8 v4) o 9 (((oh_upl h1 o 8 v4).1 o 9) ||| v1)) o 10 (((oh_upi (oh_upl h1 o 8 v4) o 9 (((oh_upl h1 o 8 v4).1 o 9) ||| v1)).1 o 10) + (1 : Int32))))))))))))))) ∧ (¬ (h.1 o 0) ≤ v6 → CM d jX4_hasSpoken [.ref o, .int v6] h (oh_r1 (fun x3 h2 => ((¬ x3 = 0 → wX4_hear_9 d Q o v1 v2 v4 (v6 + (1 : Int32)) h2) ∧ (x3 = 0 → CM d jX7_bit [.int v1, .int v6] h2 (oh_r1 (fun x5 h4 => ((¬ x5 = (1 : Int32) → CM d jX7_bit [.int v2, .int v6] h4 (oh_r1 (fun x7 h6 => CM d jX4_fitting [.ref o, .int v6, .long v4, .int (0 : Int32), .int x7] h6 (oh_r2 (fun x9 h8 => wX4_hear_9 d Q o v1 v2 x9 (v6 + (1 : Int32)) h8))))) ∧ (x5 = (1 : Int32) → CM d jX7_bit [.int v2, .int v6] h4 (oh_r1 (fun x11 h10 => CM d jX4_fitting [.ref o, .int v6, .long v4, .int (1 : Int32), .int x11] h10 (oh_r2 (fun x13 h12 => wX4_hear_9 d Q o v1 v2 x13 (v6 + (1 : Int32)) h12))))))))))))))) : wX4_hear_9 d Q o v1 v2 v4 v6 h := by
  rcases ho with rfl | rfl <;> exact oh_run_wp (oh_mwp_m d) 236 q
abbrev wX4_fitting_38 (d : Nat) (Q : oh_Q) (o : Nat) (v1 : Int32) (v2 : Int64) (v4 : Int32) (v5 : Int32) (v6 : Int32) (v7 : Int64) (v9 : Int64) (v11 : Int64) (v13 : Int32) (h : oh_St) : Prop := oh_wp GC tX4_fitting (CM d) Q 38 cX4_fitting_38 [some (.ref o), some (.int v1), some (.long v2), none, some (.int v4), some (.int v5), some (.int v6), some (.long v7), none, some (.long v9), none, some (.long v11), none, some (.int v13), none, none, none] [] h
set_option maxRecDepth 20000 in
theorem mX4_fitting {d : Nat} {Q : oh_Q} {h : oh_St} {o : Nat} {v1 v4 v5 : Int32} {v2 : Int64} (ho : o = 2 ∨ o = 37) (q : ((v1 < 0 → CM d jX7_allWhite [.int (0 : Int32)] h (oh_r2 (fun x2 h1 => wX4_fitting_38 d Q o v1 v2 v4 v5 (0 : Int32) x2 (0 : Int64) v2 (0 : Int32) h1))) ∧ (¬ v1 < 0 → ((v1 < (6 : Int32) → (vp_in v1 6 ∧ CM d jX7_allWhite [.int (h.1 (o + 3) v1.toNatClampNeg)] h (oh_r2 (fun x4 h3 => wX4_fitting_38 d Q o v1 v2 v4 v5 (h.1 (o + 3) v1.toNatClampNeg) x4 (0 : Int64) v2 (0 : Int32) h3)))) ∧ (¬ v1 < (6 : Int32) → CM d jX7_allWhite [.int (0 : Int32)] h (oh_r2 (fun x6 h5 => wX4_fitting_38 d Q o v1 v2 v4 v5 (0 : Int32) x6 (0 : Int64) v2 (0 : Int32) h5))))))) : CM (d + 1) jX4_fitting [.ref o, .int v1, .long v2, .int v4, .int v5] h Q := by
  rcases ho with rfl | rfl <;> exact oh_mwp_1 (nL := 16) (T := tX4_fitting) rfl rfl (oh_run_wp (oh_mwp_m d) 239 q)
set_option maxRecDepth 20000 in
theorem bX4_fitting_38 {d : Nat} {Q : oh_Q} {h : oh_St} {o : Nat} {v1 v4 v5 v6 v13 : Int32} {v2 v7 v9 v11 : Int64} (ho : o = 2 ∨ o = 37) (q : CM d jX4_worldCount [.ref o] h (oh_r1 (fun x2 h1 => ((x2 ≤ v13 → Q (some (.long v9)) h1) ∧ (¬ x2 ≤ v13 → (((lg_cmp v11 (0 : Int64)) = 0 → Q (some (.long v9)) h1) ∧ (¬ (lg_cmp v11 (0 : Int64)) = 0 → CM d jX7_holds [.long v11, .int v13] h1 (oh_r1 (fun x4 h3 => ((x4 = 0 → wX4_fitting_38 d Q o v1 v2 v4 v5 v6 v7 v9 v11 (v13 + (1 : Int32)) h3) ∧ (¬ x4 = 0 → CM d jX4_speaks [.ref o, .int v1, .long ((h3.2 o 8) &&& (v7 <<< ((v13 &&& v6).toInt64 &&& 63)))] h3 (oh_r1 (fun x6 h5 => ((¬ x6 = v4 → wX4_fitting_38 d Q o v1 v2 v4 v5 v6 v7 v9 (v11 &&& (((h3.2 o 8) &&& (v7 <<< ((v13 &&& v6).toInt64 &&& 63))) ^^^ (-1 : Int64))) (v13 + (1 : Int32)) h5) ∧ (x6 = v4 → ((v4 = 0 → wX4_fitting_38 d Q o v1 v2 v4 v5 v6 v7 (v9 ||| (((h3.2 o 8) &&& (v7 <<< ((v13 &&& v6).toInt64 &&& 63))) &&& v2)) (v11 &&& (((h3.2 o 8) &&& (v7 <<< ((v13 &&& v6).toInt64 &&& 63))) ^^^ (-1 : Int64))) (v13 + (1 : Int32)) h5) ∧ (¬ v4 = 0 → CM d jX7_wouldSay [.int v1, .long ((h3.2 o 8) &&& (v7 <<< ((v13 &&& v6).toInt64 &&& 63)))] h5 (oh_r1 (fun x8 h7 => ((¬ x8 = v5 → wX4_fitting_38 d Q o v1 v2 v4 v5 v6 v7 v9 (v11 &&& (((h3.2 o 8) &&& (v7 <<< ((v13 &&& v6).toInt64 &&& 63))) ^^^ (-1 : Int64))) (v13 + (1 : Int32)) h7) ∧ (x8 = v5 → wX4_fitting_38 d Q o v1 v2 v4 v5 v6 v7 (v9 ||| (((h3.2 o 8) &&& (v7 <<< ((v13 &&& v6).toInt64 &&& 63))) &&& v2)) (v11 &&& (((h3.2 o 8) &&& (v7 <<< ((v13 &&& v6).toInt64 &&& 63))) ^^^ (-1 : Int64))) (v13 + (1 : Int32)) h7))))))))))))))))))))) : wX4_fitting_38 d Q o v1 v2 v4 v5 v6 v7 v9 v11 v13 h := by
  rcases ho with rfl | rfl <;> exact oh_run_wp (oh_mwp_m d) 239 q
abbrev wX4_payAll_9 (d : Nat) (Q : oh_Q) (o : Nat) (v1 : Int32) (v2 : Int32) (v4 : Int32) (v5 : Int32) (h : oh_St) : Prop := oh_wp GC tX4_payAll (CM d) Q 9 cX4_payAll_9 [some (.ref o), some (.int v1), some (.int v2), some (.ref 11), some (.int v4), some (.int v5), none, none] [] h
set_option maxRecDepth 20000 in
theorem mX4_payAll {d : Nat} {Q : oh_Q} {h : oh_St} {o : Nat} {v1 v2 : Int32} (ho : o = 2 ∨ o = 37) (q : CM d jJ6_bitCount_0f7a4 [.int v1] h (oh_r1 (fun x2 h1 => wX4_payAll_9 d Q o v1 v2 x2 (0 : Int32) h1))) : CM (d + 1) jX4_payAll [.ref o, .int v1, .int v2, .ref 11] h Q := by
  rcases ho with rfl | rfl <;> exact oh_mwp_1 (nL := 7) (T := tX4_payAll) rfl rfl (oh_run_wp (oh_mwp_m d) 176 q)
set_option maxRecDepth 20000 in
theorem bX4_payAll_9 {d : Nat} {Q : oh_Q} {h : oh_St} {o : Nat} {v1 v2 v4 v5 : Int32} (ho : o = 2 ∨ o = 37) (q : (((h.1 o 0) ≤ v5 → Q none h) ∧ (¬ (h.1 o 0) ≤ v5 → CM d jX7_bit [.int v1, .int v5] h (oh_r1 (fun x2 h1 => ((¬ x2 = (1 : Int32) → wX4_payAll_9 d Q o v1 v2 v4 (v5 + (1 : Int32)) h1) ∧ (x2 = (1 : Int32) → CM d jX7_bit [.int (h1.1 o 5), .int v5] h1 (oh_r1 (fun x4 h3 => CM d jX7_bit [.int v2, .int v5] h3 (oh_r1 (fun x6 h5 => ((¬ x6 = x4 → (vp_in v5 6 ∧ CM d jX7_held [.int ((h5.1 (o + 4) v5.toNatClampNeg) + (-(h5.1 o 6))), .int (-99999 : Int32), .int (99999 : Int32)] h5 (oh_r1 (fun x8 h7 => (vp_in v5 6 ∧ wX4_payAll_9 d Q o v1 v2 v4 (v5 + (1 : Int32)) (oh_upi h7 (o + 4) v5.toNatClampNeg x8)))))) ∧ (x6 = x4 → CM d jX1_gives [.ref 11, .int x4, .int (h5.1 o 10), .int v4, .int (0 : Int32)] h5 (oh_r1 (fun x10 h9 => (vp_in v5 6 ∧ CM d jX7_held [.int ((h9.1 (o + 4) v5.toNatClampNeg) + x10), .int (-99999 : Int32), .int (99999 : Int32)] h9 (oh_r1 (fun x12 h11 => (vp_in v5 6 ∧ wX4_payAll_9 d Q o v1 v2 v4 (v5 + (1 : Int32)) (oh_upi h11 (o + 4) v5.toNatClampNeg x12)))))))))))))))))))) : wX4_payAll_9 d Q o v1 v2 v4 v5 h := by
  rcases ho with rfl | rfl <;> exact oh_run_wp (oh_mwp_m d) 176 q
set_option maxRecDepth 20000 in
theorem mX4_isPastAllNumbers {d : Nat} {Q : oh_Q} {h : oh_St} (q : (((h.1 37 10) ≤ (9 : Int32) → (((0 : Int32) = 0 ∨ (0 : Int32) = 1) ∧ Q (some (.int (0 : Int32))) h)) ∧ (¬ (h.1 37 10) ≤ (9 : Int32) → (((1 : Int32) = 0 ∨ (1 : Int32) = 1) ∧ Q (some (.int (1 : Int32))) h)))) : CM (d + 1) jX4_isPastAllNumbers [.ref 37] h Q := oh_mwp_1 (nL := 0) (T := tX4_isPastAllNumbers) rfl rfl (oh_run_wp (oh_mwp_m d) 44 q)
end
section
set_option maxRecDepth 20000 in
theorem mX7_man {d : Nat} {Q : oh_Q} {h : oh_St} {v1 : Int32} (q : CM d jX7_isKindWithNumber [.int v1] h (oh_r1 (fun x2 h1 => ((¬ x2 = 0 → (((h1.1 2 7) = 0 → (((h1.1 2 0) < (6 : Int32) → CM d jX4_addMan [.ref 2, .int v1] h1 (oh_r1 (fun x4 h3 => Q (some (.int x4)) h3))) ∧ (¬ (h1.1 2 0) < (6 : Int32) → CM d jX7_failed [.ref 0, .int (-1000000004 : Int32)] h1 (oh_r1 (fun x6 h5 => Q (some (.int x6)) h5))))) ∧ (¬ (h1.1 2 7) = 0 → CM d jX7_failed [.ref 0, .int (-1000000003 : Int32)] h1 (oh_r1 (fun x8 h7 => Q (some (.int x8)) h7))))) ∧ (x2 = 0 → CM d jX7_failed [.ref 0, .int (-1000000001 : Int32)] h1 (oh_r1 (fun x10 h9 => Q (some (.int x10)) h9))))))) : CM (d + 1) jX7_man [.ref 0, .int v1] h Q := oh_mwp_1 (nL := 1) (T := tX7_man) rfl rfl (oh_run_wp (oh_mwp_m d) 116 q)
set_option maxRecDepth 20000 in
theorem mX7_ofMan {d : Nat} {Q : oh_Q} {h : oh_St} {v1 v2 : Int32} (q : CM d jX7_isMan [.ref 0, .int v1] h (oh_r1 (fun x2 h1 => ((¬ x2 = 0 → ((v2 = (0 : Int32) → (vp_in v1 6 ∧ Q (some (.int (h1.1 3 v1.toNatClampNeg))) h1)) ∧ (¬ v2 = (0 : Int32) → ((v2 = (1 : Int32) → (vp_in v1 6 ∧ Q (some (.int (h1.1 4 v1.toNatClampNeg))) h1)) ∧ (¬ v2 = (1 : Int32) → ((v2 = (2 : Int32) → CM d jX7_bit [.int (h1.1 2 5), .int v1] h1 (oh_r1 (fun x6 h5 => Q (some (.int x6)) h5))) ∧ (¬ v2 = (2 : Int32) → ((v2 = (3 : Int32) → (vp_in v1 6 ∧ Q (some (.int (h1.1 5 v1.toNatClampNeg))) h1)) ∧ (¬ v2 = (3 : Int32) → ((v2 = (4 : Int32) → (vp_in v1 6 ∧ Q (some (.int (h1.1 6 v1.toNatClampNeg))) h1)) ∧ (¬ v2 = (4 : Int32) → CM d jX7_failed [.ref 0, .int (-1000000001 : Int32)] h1 (oh_r1 (fun x4 h3 => Q (some (.int x4)) h3))))))))))))) ∧ (x2 = 0 → CM d jX7_failed [.ref 0, .int (-1000000001 : Int32)] h1 (oh_r1 (fun x8 h7 => Q (some (.int x8)) h7))))))) : CM (d + 1) jX7_ofMan [.ref 0, .int v1, .int v2] h Q := oh_mwp_1 (nL := 3) (T := tX7_ofMan) rfl rfl (oh_run_wp (oh_mwp_m d) 149 q)
set_option maxRecDepth 20000 in
theorem mX7_tellMan {d : Nat} {Q : oh_Q} {h : oh_St} {v1 v2 v3 : Int32} (q : ((¬ v2 = (2 : Int32) → ((¬ v2 = (3 : Int32) → CM d jX7_isMan [.ref 0, .int v1] h (oh_r1 (fun x2 h1 => ((x2 = 0 → CM d jX7_failed [.ref 0, .int (-1000000001 : Int32)] h1 (oh_r1 (fun x4 h3 => Q (some (.int x4)) h3))) ∧ (¬ x2 = 0 → ((¬ (0 : Int32) = 0 → (((h1.1 2 7) = 0 → ((¬ v2 = (2 : Int32) → (vp_in v1 6 ∧ (vp_in v1 6 ∧ Q (some (.int (h1.1 5 v1.toNatClampNeg))) (oh_upi h1 5 v1.toNatClampNeg v3)))) ∧ (v2 = (2 : Int32) → CM d jX7_bit [.int (h1.1 2 5), .int v1] h1 (oh_r1 (fun x6 h5 => Q (some (.int x6)) (oh_upi h5 2 5 (((h5.1 2 5) &&& (((1 : Int32) <<< (v1 &&& 31)) ^^^ (-1 : Int32))) ||| (v3 <<< (v1 &&& 31))))))))) ∧ (¬ (h1.1 2 7) = 0 → CM d jX7_failed [.ref 0, .int (-1000000003 : Int32)] h1 (oh_r1 (fun x8 h7 => Q (some (.int x8)) h7))))) ∧ ((0 : Int32) = 0 → CM d jX7_failed [.ref 0, .int (-1000000001 : Int32)] h1 (oh_r1 (fun x10 h9 => Q (some (.int x10)) h9))))))))) ∧ (v2 = (3 : Int32) → CM d jX7_isWorld [.ref 0, .int v3] h (oh_r1 (fun x12 h11 => ((x12 = 0 → CM d jX7_isMan [.ref 0, .int v1] h11 (oh_r1 (fun x14 h13 => ((x14 = 0 → CM d jX7_failed [.ref 0, .int (-1000000001 : Int32)] h13 (oh_r1 (fun x16 h15 => Q (some (.int x16)) h15))) ∧ (¬ x14 = 0 → ((¬ (0 : Int32) = 0 → (((h13.1 2 7) = 0 → ((¬ v2 = (2 : Int32) → (vp_in v1 6 ∧ (vp_in v1 6 ∧ Q (some (.int (h13.1 5 v1.toNatClampNeg))) (oh_upi h13 5 v1.toNatClampNeg v3)))) ∧ (v2 = (2 : Int32) → CM d jX7_bit [.int (h13.1 2 5), .int v1] h13 (oh_r1 (fun x18 h17 => Q (some (.int x18)) (oh_upi h17 2 5 (((h17.1 2 5) &&& (((1 : Int32) <<< (v1 &&& 31)) ^^^ (-1 : Int32))) ||| (v3 <<< (v1 &&& 31))))))))) ∧ (¬ (h13.1 2 7) = 0 → CM d jX7_failed [.ref 0, .int (-1000000003 : Int32)] h13 (oh_r1 (fun x20 h19 => Q (some (.int x20)) h19))))) ∧ ((0 : Int32) = 0 → CM d jX7_failed [.ref 0, .int (-1000000001 : Int32)] h13 (oh_r1 (fun x22 h21 => Q (some (.int x22)) h21))))))))) ∧ (¬ x12 = 0 → CM d jX7_isMan [.ref 0, .int v1] h11 (oh_r1 (fun x24 h23 => ((x24 = 0 → CM d jX7_isMan [.ref 0, .int v1] h23 (oh_r1 (fun x26 h25 => ((x26 = 0 → CM d jX7_failed [.ref 0, .int (-1000000001 : Int32)] h25 (oh_r1 (fun x28 h27 => Q (some (.int x28)) h27))) ∧ (¬ x26 = 0 → ((¬ (0 : Int32) = 0 → (((h25.1 2 7) = 0 → ((¬ v2 = (2 : Int32) → (vp_in v1 6 ∧ (vp_in v1 6 ∧ Q (some (.int (h25.1 5 v1.toNatClampNeg))) (oh_upi h25 5 v1.toNatClampNeg v3)))) ∧ (v2 = (2 : Int32) → CM d jX7_bit [.int (h25.1 2 5), .int v1] h25 (oh_r1 (fun x30 h29 => Q (some (.int x30)) (oh_upi h29 2 5 (((h29.1 2 5) &&& (((1 : Int32) <<< (v1 &&& 31)) ^^^ (-1 : Int32))) ||| (v3 <<< (v1 &&& 31))))))))) ∧ (¬ (h25.1 2 7) = 0 → CM d jX7_failed [.ref 0, .int (-1000000003 : Int32)] h25 (oh_r1 (fun x32 h31 => Q (some (.int x32)) h31))))) ∧ ((0 : Int32) = 0 → CM d jX7_failed [.ref 0, .int (-1000000001 : Int32)] h25 (oh_r1 (fun x34 h33 => Q (some (.int x34)) h33))))))))) ∧ (¬ x24 = 0 → CM d jX7_bit [.int v3, .int v1] h23 (oh_r1 (fun x36 h35 => ((¬ x36 = 0 → CM d jX7_isMan [.ref 0, .int v1] h35 (oh_r1 (fun x38 h37 => ((x38 = 0 → CM d jX7_failed [.ref 0, .int (-1000000001 : Int32)] h37 (oh_r1 (fun x40 h39 => Q (some (.int x40)) h39))) ∧ (¬ x38 = 0 → ((¬ (0 : Int32) = 0 → (((h37.1 2 7) = 0 → ((¬ v2 = (2 : Int32) → (vp_in v1 6 ∧ (vp_in v1 6 ∧ Q (some (.int (h37.1 5 v1.toNatClampNeg))) (oh_upi h37 5 v1.toNatClampNeg v3)))) ∧ (v2 = (2 : Int32) → CM d jX7_bit [.int (h37.1 2 5), .int v1] h37 (oh_r1 (fun x42 h41 => Q (some (.int x42)) (oh_upi h41 2 5 (((h41.1 2 5) &&& (((1 : Int32) <<< (v1 &&& 31)) ^^^ (-1 : Int32))) ||| (v3 <<< (v1 &&& 31))))))))) ∧ (¬ (h37.1 2 7) = 0 → CM d jX7_failed [.ref 0, .int (-1000000003 : Int32)] h37 (oh_r1 (fun x44 h43 => Q (some (.int x44)) h43))))) ∧ ((0 : Int32) = 0 → CM d jX7_failed [.ref 0, .int (-1000000001 : Int32)] h37 (oh_r1 (fun x46 h45 => Q (some (.int x46)) h45))))))))) ∧ (x36 = 0 → CM d jX7_isMan [.ref 0, .int v1] h35 (oh_r1 (fun x48 h47 => ((x48 = 0 → CM d jX7_failed [.ref 0, .int (-1000000001 : Int32)] h47 (oh_r1 (fun x50 h49 => Q (some (.int x50)) h49))) ∧ (¬ x48 = 0 → ((¬ (1 : Int32) = 0 → (((h47.1 2 7) = 0 → ((¬ v2 = (2 : Int32) → (vp_in v1 6 ∧ (vp_in v1 6 ∧ Q (some (.int (h47.1 5 v1.toNatClampNeg))) (oh_upi h47 5 v1.toNatClampNeg v3)))) ∧ (v2 = (2 : Int32) → CM d jX7_bit [.int (h47.1 2 5), .int v1] h47 (oh_r1 (fun x52 h51 => Q (some (.int x52)) (oh_upi h51 2 5 (((h51.1 2 5) &&& (((1 : Int32) <<< (v1 &&& 31)) ^^^ (-1 : Int32))) ||| (v3 <<< (v1 &&& 31))))))))) ∧ (¬ (h47.1 2 7) = 0 → CM d jX7_failed [.ref 0, .int (-1000000003 : Int32)] h47 (oh_r1 (fun x54 h53 => Q (some (.int x54)) h53))))) ∧ ((1 : Int32) = 0 → CM d jX7_failed [.ref 0, .int (-1000000001 : Int32)] h47 (oh_r1 (fun x56 h55 => Q (some (.int x56)) h55))))))))))))))))))))))) ∧ (v2 = (2 : Int32) → ((v3 = 0 → CM d jX7_isMan [.ref 0, .int v1] h (oh_r1 (fun x58 h57 => ((x58 = 0 → CM d jX7_failed [.ref 0, .int (-1000000001 : Int32)] h57 (oh_r1 (fun x60 h59 => Q (some (.int x60)) h59))) ∧ (¬ x58 = 0 → ((¬ (1 : Int32) = 0 → (((h57.1 2 7) = 0 → ((¬ v2 = (2 : Int32) → (vp_in v1 6 ∧ (vp_in v1 6 ∧ Q (some (.int (h57.1 5 v1.toNatClampNeg))) (oh_upi h57 5 v1.toNatClampNeg v3)))) ∧ (v2 = (2 : Int32) → CM d jX7_bit [.int (h57.1 2 5), .int v1] h57 (oh_r1 (fun x62 h61 => Q (some (.int x62)) (oh_upi h61 2 5 (((h61.1 2 5) &&& (((1 : Int32) <<< (v1 &&& 31)) ^^^ (-1 : Int32))) ||| (v3 <<< (v1 &&& 31))))))))) ∧ (¬ (h57.1 2 7) = 0 → CM d jX7_failed [.ref 0, .int (-1000000003 : Int32)] h57 (oh_r1 (fun x64 h63 => Q (some (.int x64)) h63))))) ∧ ((1 : Int32) = 0 → CM d jX7_failed [.ref 0, .int (-1000000001 : Int32)] h57 (oh_r1 (fun x66 h65 => Q (some (.int x66)) h65))))))))) ∧ (¬ v3 = 0 → ((¬ v3 = (1 : Int32) → CM d jX7_isMan [.ref 0, .int v1] h (oh_r1 (fun x68 h67 => ((x68 = 0 → CM d jX7_failed [.ref 0, .int (-1000000001 : Int32)] h67 (oh_r1 (fun x70 h69 => Q (some (.int x70)) h69))) ∧ (¬ x68 = 0 → ((¬ (0 : Int32) = 0 → (((h67.1 2 7) = 0 → ((¬ v2 = (2 : Int32) → (vp_in v1 6 ∧ (vp_in v1 6 ∧ Q (some (.int (h67.1 5 v1.toNatClampNeg))) (oh_upi h67 5 v1.toNatClampNeg v3)))) ∧ (v2 = (2 : Int32) → CM d jX7_bit [.int (h67.1 2 5), .int v1] h67 (oh_r1 (fun x72 h71 => Q (some (.int x72)) (oh_upi h71 2 5 (((h71.1 2 5) &&& (((1 : Int32) <<< (v1 &&& 31)) ^^^ (-1 : Int32))) ||| (v3 <<< (v1 &&& 31))))))))) ∧ (¬ (h67.1 2 7) = 0 → CM d jX7_failed [.ref 0, .int (-1000000003 : Int32)] h67 (oh_r1 (fun x74 h73 => Q (some (.int x74)) h73))))) ∧ ((0 : Int32) = 0 → CM d jX7_failed [.ref 0, .int (-1000000001 : Int32)] h67 (oh_r1 (fun x76 h75 => Q (some (.int x76)) h75))))))))) ∧ (v3 = (1 : Int32) → CM d jX7_isMan [.ref 0, .int v1] h (oh_r1 (fun x78 h77 => ((x78 = 0 → CM d jX7_failed [.ref 0, .int (-1000000001 : Int32)] h77 (oh_r1 (fun x80 h79 => Q (some (.int x80)) h79))) ∧ (¬ x78 = 0 → ((¬ (1 : Int32) = 0 → (((h77.1 2 7) = 0 → ((¬ v2 = (2 : Int32) → (vp_in v1 6 ∧ (vp_in v1 6 ∧ Q (some (.int (h77.1 5 v1.toNatClampNeg))) (oh_upi h77 5 v1.toNatClampNeg v3)))) ∧ (v2 = (2 : Int32) → CM d jX7_bit [.int (h77.1 2 5), .int v1] h77 (oh_r1 (fun x82 h81 => Q (some (.int x82)) (oh_upi h81 2 5 (((h81.1 2 5) &&& (((1 : Int32) <<< (v1 &&& 31)) ^^^ (-1 : Int32))) ||| (v3 <<< (v1 &&& 31))))))))) ∧ (¬ (h77.1 2 7) = 0 → CM d jX7_failed [.ref 0, .int (-1000000003 : Int32)] h77 (oh_r1 (fun x84 h83 => Q (some (.int x84)) h83))))) ∧ ((1 : Int32) = 0 → CM d jX7_failed [.ref 0, .int (-1000000001 : Int32)] h77 (oh_r1 (fun x86 h85 => Q (some (.int x86)) h85))))))))))))))) : CM (d + 1) jX7_tellMan [.ref 0, .int v1, .int v2, .int v3] h Q := oh_mwp_1 (nL := 6) (T := tX7_tellMan) rfl rfl (oh_run_wp (oh_mwp_m d) 281 q)
set_option maxRecDepth 20000 in
theorem mX7_become {d : Nat} {Q : oh_Q} {h : oh_St} {v1 v2 : Int32} (q : CM d jX7_isMan [.ref 0, .int v1] h (oh_r1 (fun x2 h1 => ((x2 = 0 → CM d jX7_failed [.ref 0, .int (-1000000001 : Int32)] h1 (oh_r1 (fun x4 h3 => Q (some (.int x4)) h3))) ∧ (¬ x2 = 0 → CM d jX7_isKindWithNumber [.int v2] h1 (oh_r1 (fun x6 h5 => ((¬ x6 = 0 → (vp_in v1 6 ∧ (¬ (10 : Int32) = 0 ∧ (vp_in v1 6 ∧ (¬ (10 : Int32) = 0 ∧ (vp_in v1 6 ∧ Q (some (.int (h5.1 3 v1.toNatClampNeg))) (oh_upi (oh_upi h5 3 v1.toNatClampNeg (v2 / (10 : Int32))) 4 v1.toNatClampNeg (v2 - v2 / (10 : Int32) * (10 : Int32))))))))) ∧ (x6 = 0 → CM d jX7_failed [.ref 0, .int (-1000000001 : Int32)] h5 (oh_r1 (fun x8 h7 => Q (some (.int x8)) h7))))))))))) : CM (d + 1) jX7_become [.ref 0, .int v1, .int v2] h Q := oh_mwp_1 (nL := 3) (T := tX7_become) rfl rfl (oh_run_wp (oh_mwp_m d) 134 q)
set_option maxRecDepth 20000 in
theorem mX7_as {d : Nat} {Q : oh_Q} {h : oh_St} {v1 v2 : Int32} (q : CM d jX7_isMan [.ref 0, .int v1] h (oh_r1 (fun x2 h1 => ((x2 = 0 → CM d jX7_failed [.ref 0, .int (-1000000001 : Int32)] h1 (oh_r1 (fun x4 h3 => Q (some (.int x4)) h3))) ∧ (¬ x2 = 0 → ((v2 < 0 → CM d jX7_failed [.ref 0, .int (-1000000001 : Int32)] h1 (oh_r1 (fun x6 h5 => Q (some (.int x6)) h5))) ∧ (¬ v2 < 0 → ((v2 < (7 : Int32) → (vp_in v1 6 ∧ CM d jX7_isOfKind [.int (h1.1 3 v1.toNatClampNeg), .int v2] h1 (oh_r1 (fun x8 h7 => ((¬ x8 = 0 → (vp_in v1 6 ∧ Q (some (.int (h7.1 4 v1.toNatClampNeg))) h7)) ∧ (x8 = 0 → CM d jX7_failed [.ref 0, .int (-1000000005 : Int32)] h7 (oh_r1 (fun x10 h9 => Q (some (.int x10)) h9)))))))) ∧ (¬ v2 < (7 : Int32) → CM d jX7_failed [.ref 0, .int (-1000000001 : Int32)] h1 (oh_r1 (fun x12 h11 => Q (some (.int x12)) h11))))))))))) : CM (d + 1) jX7_as [.ref 0, .int v1, .int v2] h Q := oh_mwp_1 (nL := 2) (T := tX7_as) rfl rfl (oh_run_wp (oh_mwp_m d) 119 q)
set_option maxRecDepth 20000 in
theorem mX7_fine {d : Nat} {Q : oh_Q} {h : oh_St} {v1 : Int32} (q : ((v1 < 0 → CM d jX7_failed [.ref 0, .int (-1000000001 : Int32)] h (oh_r1 (fun x2 h1 => Q (some (.int x2)) h1))) ∧ (¬ v1 < 0 → ((v1 ≤ (99 : Int32) → Q (some (.int (h.1 2 6))) (oh_upi h 2 6 v1)) ∧ (¬ v1 ≤ (99 : Int32) → CM d jX7_failed [.ref 0, .int (-1000000001 : Int32)] h (oh_r1 (fun x4 h3 => Q (some (.int x4)) h3))))))) : CM (d + 1) jX7_fine [.ref 0, .int v1] h Q := oh_mwp_1 (nL := 2) (T := tX7_fine) rfl rfl (oh_run_wp (oh_mwp_m d) 83 q)
abbrev wX7_feed_45 (d : Nat) (Q : oh_Q) (v1 : Int64) (v3 : Int32) (v4 : Int32) (h : oh_St) : Prop := oh_wp GC tX7_feed (CM d) Q 45 cX7_feed_45 [some (.ref 0), some (.long v1), none, some (.int v3), some (.int v4)] [] h
set_option maxRecDepth 20000 in
theorem mX7_feed {d : Nat} {Q : oh_Q} {h : oh_St} {v3 : Int32} {v1 : Int64} (q : ((v3 < (1 : Int32) → CM d jX7_failed [.ref 0, .int (-1000000001 : Int32)] h (oh_r1 (fun x2 h1 => Q (some (.int x2)) h1))) ∧ (¬ v3 < (1 : Int32) → ((v3 ≤ (8 : Int32) → (((h.1 15 1) ≤ ((50 : Int32) - v3) → wX7_feed_45 d Q v1 v3 (0 : Int32) h) ∧ (¬ (h.1 15 1) ≤ ((50 : Int32) - v3) → CM d jX7_failed [.ref 0, .int (-1000000004 : Int32)] h (oh_r1 (fun x4 h3 => Q (some (.int x4)) h3))))) ∧ (¬ v3 ≤ (8 : Int32) → CM d jX7_failed [.ref 0, .int (-1000000001 : Int32)] h (oh_r1 (fun x6 h5 => Q (some (.int x6)) h5))))))) : CM (d + 1) jX7_feed [.ref 0, .long v1, .int v3] h Q := oh_mwp_1 (nL := 4) (T := tX7_feed) rfl rfl (oh_run_wp (oh_mwp_m d) 158 q)
set_option maxRecDepth 20000 in
theorem bX7_feed_45 {d : Nat} {Q : oh_Q} {h : oh_St} {v3 v4 : Int32} {v1 : Int64} (q : ((v3 ≤ v4 → Q (some (.int (h.1 15 1))) h) ∧ (¬ v3 ≤ v4 → CM d jX3_add [.ref 15, .int (((v1.toUInt64 >>> (((8 : Int32) * v4).toInt64.toUInt64 &&& Int64.toUInt64 63)).toInt64).toInt32 &&& (255 : Int32))] h (oh_r0 (fun h1 => wX7_feed_45 d Q v1 v3 (v4 + (1 : Int32)) h1))))) : wX7_feed_45 d Q v1 v3 v4 h := oh_run_wp (oh_mwp_m d) 158 q
abbrev wX7_text_54 (d : Nat) (Q : oh_Q) (s0 : Nat) (h : oh_St) : Prop := oh_wp GC tX7_text (CM d) Q 54 cX7_text_54 [some (.ref 0), none, none] [.ref s0] h
set_option maxRecDepth 20000 in
theorem mX7_text {d : Nat} {Q : oh_Q} {h : oh_St} {v1 : Int32} (q : CM d jX7_isUse [.int v1] h (oh_r1 (fun x2 h1 => ((¬ x2 = 0 → CM d jX2_faultOf [.ref 42, .ref 15, .int v1] h1 (oh_r1 (fun x4 h3 => CM d jX3_clear [.ref 15] h3 (oh_r0 (fun h5 => ((x4 < 0 → CM d jX7_lawOf [.ref 0, .int v1] h5 (oh_r3 (fun x7 h6 => wX7_text_54 d Q x7 h6))) ∧ (¬ x4 < 0 → Q (some (.int ((-10 : Int32) - x4))) h5))))))) ∧ (x2 = 0 → CM d jX7_failed [.ref 0, .int (-1000000001 : Int32)] h1 (oh_r1 (fun x9 h8 => Q (some (.int x9)) h8))))))) : CM (d + 1) jX7_text [.ref 0, .int v1] h Q := oh_mwp_1 (nL := 2) (T := tX7_text) rfl rfl (oh_run_wp (oh_mwp_m d) 125 q)
set_option maxRecDepth 20000 in
theorem bX7_text_54_11 {d : Nat} {Q : oh_Q} {h : oh_St} (q : CM d jX3_take [.ref 12, .ref 43] h (oh_r0 (fun h1 => Q (some (.int (1 : Int32))) h1))) : wX7_text_54 d Q 11 h := oh_run_wp (oh_mwp_m d) 125 q
set_option maxRecDepth 20000 in
theorem bX7_text_54_7 {d : Nat} {Q : oh_Q} {h : oh_St} (q : CM d jX3_take [.ref 8, .ref 43] h (oh_r0 (fun h1 => Q (some (.int (1 : Int32))) h1))) : wX7_text_54 d Q 7 h := oh_run_wp (oh_mwp_m d) 125 q
abbrev wX7_law_19 (d : Nat) (Q : oh_Q) (v2 : Int32) (v3 : Int32) (v4 : Int32) (v5 : Int32) (s0 : Nat) (h : oh_St) : Prop := oh_wp GC tX7_law (CM d) Q 19 cX7_law_19 [none, none, some (.int v2), some (.int v3), some (.int v4), some (.int v5)] [.ref s0] h
set_option maxRecDepth 20000 in
theorem mX7_law {d : Nat} {Q : oh_Q} {h : oh_St} {v1 v2 v3 v4 v5 : Int32} (q : CM d jX7_isUse [.int v1] h (oh_r1 (fun x2 h1 => ((¬ x2 = 0 → CM d jX7_lawOf [.ref 0, .int v1] h1 (oh_r3 (fun x4 h3 => wX7_law_19 d Q v2 v3 v4 v5 x4 h3))) ∧ (x2 = 0 → CM d jX7_failed [.ref 0, .int (-1000000001 : Int32)] h1 (oh_r1 (fun x6 h5 => Q (some (.int x6)) h5))))))) : CM (d + 1) jX7_law [.ref 0, .int v1, .int v2, .int v3, .int v4, .int v5] h Q := oh_mwp_1 (nL := 5) (T := tX7_law) rfl rfl (oh_run_wp (oh_mwp_m d) 68 q)
set_option maxRecDepth 20000 in
theorem bX7_law_19_11 {d : Nat} {Q : oh_Q} {h : oh_St} {v2 v3 v4 v5 : Int32} (q : CM d jX1_gives [.ref 11, .int v2, .int v3, .int v4, .int v5] h (oh_r1 (fun x2 h1 => Q (some (.int x2)) h1))) : wX7_law_19 d Q v2 v3 v4 v5 11 h := oh_run_wp (oh_mwp_m d) 68 q
set_option maxRecDepth 20000 in
theorem bX7_law_19_7 {d : Nat} {Q : oh_Q} {h : oh_St} {v2 v3 v4 v5 : Int32} (q : CM d jX1_gives [.ref 7, .int v2, .int v3, .int v4, .int v5] h (oh_r1 (fun x2 h1 => Q (some (.int x2)) h1))) : wX7_law_19 d Q v2 v3 v4 v5 7 h := oh_run_wp (oh_mwp_m d) 68 q
set_option maxRecDepth 20000 in
theorem mX7_open {d : Nat} {Q : oh_Q} {h : oh_St} (q : (((h.1 2 7) = 0 → CM d jX4_givenBy [.ref 2, .ref 7] h (oh_r2 (fun x2 h1 => CM d jX7_holds [.long x2, .int (h1.1 2 5)] h1 (oh_r1 (fun x4 h3 => ((¬ x4 = 0 → (((1 : Int32) = 0 ∨ (1 : Int32) = 1) ∧ CM d jJ13_bitCount_95d88 [.long x2] (oh_upi (oh_upi (oh_upl (oh_upi h3 2 7 (1 : Int32)) 2 8 x2) 2 9 (0 : Int32)) 2 10 (0 : Int32)) (oh_r1 (fun x6 h5 => Q (some (.int x6)) h5)))) ∧ (x4 = 0 → CM d jX7_failed [.ref 0, .int (-1000000003 : Int32)] h3 (oh_r1 (fun x8 h7 => Q (some (.int x8)) h7))))))))) ∧ (¬ (h.1 2 7) = 0 → CM d jX7_failed [.ref 0, .int (-1000000003 : Int32)] h (oh_r1 (fun x10 h9 => Q (some (.int x10)) h9))))) : CM (d + 1) jX7_open [.ref 0] h Q := oh_mwp_1 (nL := 3) (T := tX7_open) rfl rfl (oh_run_wp (oh_mwp_m d) 143 q)
set_option maxRecDepth 20000 in
theorem mX7_close {d : Nat} {Q : oh_Q} {h : oh_St} (q : ((¬ (h.1 2 7) = 0 → (((0 : Int32) = 0 ∨ (0 : Int32) = 1) ∧ CM d jJ6_bitCount_0f7a4 [.int ((oh_upl (oh_upi h 2 7 (0 : Int32)) 2 8 (0 : Int64)).1 2 9)] (oh_upl (oh_upi h 2 7 (0 : Int32)) 2 8 (0 : Int64)) (oh_r1 (fun x2 h1 => Q (some (.int x2)) h1)))) ∧ ((h.1 2 7) = 0 → CM d jX7_failed [.ref 0, .int (-1000000003 : Int32)] h (oh_r1 (fun x4 h3 => Q (some (.int x4)) h3))))) : CM (d + 1) jX7_close [.ref 0] h Q := oh_mwp_1 (nL := 0) (T := tX7_close) rfl rfl (oh_run_wp (oh_mwp_m d) 95 q)
abbrev wX7_bells_18 (d : Nat) (Q : oh_Q) (v1 : Int32) (v3 : Int32) (h : oh_St) : Prop := oh_wp GC tX7_bells (CM d) Q 18 cX7_bells_18 [some (.ref 0), some (.int v1), none, some (.int v3)] [] h
set_option maxRecDepth 20000 in
theorem mX7_bells {d : Nat} {Q : oh_Q} {h : oh_St} {v1 : Int32} (q : CM d jX7_whyNoBells [.ref 0, .int v1] h (oh_r1 (fun x2 h1 => ((x2 = 0 → wX7_bells_18 d Q v1 (0 : Int32) h1) ∧ (¬ x2 = 0 → CM d jX7_failed [.ref 0, .int x2] h1 (oh_r1 (fun x4 h3 => Q (some (.int x4)) h3))))))) : CM (d + 1) jX7_bells [.ref 0, .int v1] h Q := oh_mwp_1 (nL := 3) (T := tX7_bells) rfl rfl (oh_run_wp (oh_mwp_m d) 110 q)
set_option maxRecDepth 20000 in
theorem bX7_bells_18 {d : Nat} {Q : oh_Q} {h : oh_St} {v1 v3 : Int32} (q : ((v1 ≤ v3 → Q (some (.int (h.1 2 9))) h) ∧ (¬ v1 ≤ v3 → CM d jX4_ring [.ref 2, .ref 11] h (oh_r1 (fun x2 h1 => wX7_bells_18 d Q v1 (v3 + (1 : Int32)) h1))))) : wX7_bells_18 d Q v1 v3 h := oh_run_wp (oh_mwp_m d) 110 q
abbrev wX7_loose_18 (d : Nat) (Q : oh_Q) (v1 : Int32) (v3 : Int32) (h : oh_St) : Prop := oh_wp GC tX7_loose (CM d) Q 18 cX7_loose_18 [some (.ref 0), some (.int v1), none, some (.int v3)] [] h
set_option maxRecDepth 20000 in
theorem mX7_loose {d : Nat} {Q : oh_Q} {h : oh_St} {v1 : Int32} (q : CM d jX7_whyNoBells [.ref 0, .int v1] h (oh_r1 (fun x2 h1 => ((x2 = 0 → wX7_loose_18 d Q v1 (0 : Int32) h1) ∧ (¬ x2 = 0 → CM d jX7_failed [.ref 0, .int x2] h1 (oh_r1 (fun x4 h3 => Q (some (.int x4)) h3))))))) : CM (d + 1) jX7_loose [.ref 0, .int v1] h Q := oh_mwp_1 (nL := 3) (T := tX7_loose) rfl rfl (oh_run_wp (oh_mwp_m d) 95 q)
set_option maxRecDepth 20000 in
theorem bX7_loose_18 {d : Nat} {Q : oh_Q} {h : oh_St} {v1 v3 : Int32} (q : ((v1 ≤ v3 → Q (some (.int (h.1 2 9))) h) ∧ (¬ v1 ≤ v3 → CM d jX0_ringLoosely [.ref 1] h (oh_r0 (fun h1 => wX7_loose_18 d Q v1 (v3 + (1 : Int32)) h1))))) : wX7_loose_18 d Q v1 v3 h := oh_run_wp (oh_mwp_m d) 95 q
set_option maxRecDepth 20000 in
theorem mX7_possible {d : Nat} {Q : oh_Q} {h : oh_St} {v1 : Int32} (q : CM d jX7_isWorld [.ref 0, .int v1] h (oh_r1 (fun x2 h1 => ((¬ x2 = 0 → ((¬ (h1.1 2 7) = 0 → CM d jX7_holds [.long (h1.2 2 8), .int v1] h1 (oh_r1 (fun x4 h3 => ((x4 = 0 → Q (some (.int (0 : Int32))) h3) ∧ (¬ x4 = 0 → Q (some (.int (1 : Int32))) h3))))) ∧ ((h1.1 2 7) = 0 → CM d jX7_failed [.ref 0, .int (-1000000003 : Int32)] h1 (oh_r1 (fun x6 h5 => Q (some (.int x6)) h5))))) ∧ (x2 = 0 → CM d jX7_failed [.ref 0, .int (-1000000001 : Int32)] h1 (oh_r1 (fun x8 h7 => Q (some (.int x8)) h7))))))) : CM (d + 1) jX7_possible [.ref 0, .int v1] h Q := oh_mwp_1 (nL := 1) (T := tX7_possible) rfl rfl (oh_run_wp (oh_mwp_m d) 104 q)
set_option maxRecDepth 20000 in
theorem mX7_thinks {d : Nat} {Q : oh_Q} {h : oh_St} {v1 v2 : Int32} (q : CM d jX7_isMan [.ref 0, .int v1] h (oh_r1 (fun x2 h1 => ((x2 = 0 → CM d jX7_failed [.ref 0, .int (-1000000001 : Int32)] h1 (oh_r1 (fun x4 h3 => Q (some (.int x4)) h3))) ∧ (¬ x2 = 0 → ((v2 < 0 → CM d jX7_failed [.ref 0, .int (-1000000001 : Int32)] h1 (oh_r1 (fun x6 h5 => Q (some (.int x6)) h5))) ∧ (¬ v2 < 0 → ((v2 ≤ (4 : Int32) → ((¬ (h1.1 2 7) = 0 → CM d jX4_thought [.ref 2, .int v1, .int (h1.1 2 5)] h1 (oh_r2 (fun x8 h7 => ((v2 = (0 : Int32) → CM d jX7_blacks [.int v1, .long x8] h7 (oh_r1 (fun x18 h17 => Q (some (.int x18)) h17))) ∧ (¬ v2 = (0 : Int32) → ((v2 = (1 : Int32) → CM d jX7_whites [.int v1, .long x8] h7 (oh_r1 (fun x16 h15 => Q (some (.int x16)) h15))) ∧ (¬ v2 = (1 : Int32) → ((v2 = (2 : Int32) → CM d jX7_knows [.int v1, .long x8] h7 (oh_r1 (fun x14 h13 => ((x14 = 0 → Q (some (.int (0 : Int32))) h13) ∧ (¬ x14 = 0 → Q (some (.int (1 : Int32))) h13))))) ∧ (¬ v2 = (2 : Int32) → ((v2 = (3 : Int32) → CM d jX7_wouldSay [.int v1, .long x8] h7 (oh_r1 (fun x12 h11 => Q (some (.int x12)) h11))) ∧ (¬ v2 = (3 : Int32) → CM d jX4_speaks [.ref 2, .int v1, .long x8] h7 (oh_r1 (fun x10 h9 => ((x10 = 0 → Q (some (.int (0 : Int32))) h9) ∧ (¬ x10 = 0 → Q (some (.int (1 : Int32))) h9))))))))))))))) ∧ ((h1.1 2 7) = 0 → CM d jX7_failed [.ref 0, .int (-1000000003 : Int32)] h1 (oh_r1 (fun x20 h19 => Q (some (.int x20)) h19))))) ∧ (¬ v2 ≤ (4 : Int32) → CM d jX7_failed [.ref 0, .int (-1000000001 : Int32)] h1 (oh_r1 (fun x22 h21 => Q (some (.int x22)) h21))))))))))) : CM (d + 1) jX7_thinks [.ref 0, .int v1, .int v2] h Q := oh_mwp_1 (nL := 5) (T := tX7_thinks) rfl rfl (oh_run_wp (oh_mwp_m d) 203 q)
set_option maxRecDepth 20000 in
theorem mX7_then {d : Nat} {Q : oh_Q} {h : oh_St} {v1 v2 : Int32} (q : CM d jX7_isAhead [.int v1] h (oh_r1 (fun x2 h1 => ((x2 = 0 → CM d jX7_failed [.ref 0, .int (-1000000001 : Int32)] h1 (oh_r1 (fun x4 h3 => Q (some (.int x4)) h3))) ∧ (¬ x2 = 0 → ((v2 < 0 → CM d jX7_failed [.ref 0, .int (-1000000001 : Int32)] h1 (oh_r1 (fun x6 h5 => Q (some (.int x6)) h5))) ∧ (¬ v2 < 0 → ((v2 ≤ (1 : Int32) → ((¬ (h1.1 2 7) = 0 → CM d jX7_startAhead [.ref 0] h1 (oh_r0 (fun h7 => CM d jX7_ringAhead [.ref 0, .int v1] h7 (oh_r1 (fun x9 h8 => ((¬ v2 = 0 → CM d jJ13_bitCount_95d88 [.long (h8.2 37 8)] h8 (oh_r1 (fun x11 h10 => Q (some (.int x11)) h10))) ∧ (v2 = 0 → Q (some (.int (h8.1 37 9))) h8))))))) ∧ ((h1.1 2 7) = 0 → CM d jX7_failed [.ref 0, .int (-1000000003 : Int32)] h1 (oh_r1 (fun x13 h12 => Q (some (.int x13)) h12))))) ∧ (¬ v2 ≤ (1 : Int32) → CM d jX7_failed [.ref 0, .int (-1000000001 : Int32)] h1 (oh_r1 (fun x15 h14 => Q (some (.int x15)) h14))))))))))) : CM (d + 1) jX7_then [.ref 0, .int v1, .int v2] h Q := oh_mwp_1 (nL := 2) (T := tX7_then) rfl rfl (oh_run_wp (oh_mwp_m d) 134 q)
set_option maxRecDepth 20000 in
theorem mX7_thenPaid {d : Nat} {Q : oh_Q} {h : oh_St} {v1 v2 : Int32} (q : CM d jX7_isAhead [.int v1] h (oh_r1 (fun x2 h1 => ((x2 = 0 → CM d jX7_failed [.ref 0, .int (-1000000001 : Int32)] h1 (oh_r1 (fun x4 h3 => Q (some (.int x4)) h3))) ∧ (¬ x2 = 0 → CM d jX7_isMan [.ref 0, .int v2] h1 (oh_r1 (fun x6 h5 => ((¬ x6 = 0 → ((¬ (h5.1 2 7) = 0 → CM d jX7_startAhead [.ref 0] h5 (oh_r0 (fun h7 => CM d jX7_ringAhead [.ref 0, .int v1] h7 (oh_r1 (fun x9 h8 => (vp_in v2 6 ∧ Q (some (.int (h8.1 41 v2.toNatClampNeg))) h8)))))) ∧ ((h5.1 2 7) = 0 → CM d jX7_failed [.ref 0, .int (-1000000003 : Int32)] h5 (oh_r1 (fun x11 h10 => Q (some (.int x11)) h10))))) ∧ (x6 = 0 → CM d jX7_failed [.ref 0, .int (-1000000001 : Int32)] h5 (oh_r1 (fun x13 h12 => Q (some (.int x13)) h12))))))))))) : CM (d + 1) jX7_thenPaid [.ref 0, .int v1, .int v2] h Q := oh_mwp_1 (nL := 2) (T := tX7_thenPaid) rfl rfl (oh_run_wp (oh_mwp_m d) 116 q)
set_option maxRecDepth 20000 in
theorem mX7_when {d : Nat} {Q : oh_Q} {h : oh_St} {v1 : Int32} (q : CM d jX7_isMan [.ref 0, .int v1] h (oh_r1 (fun x2 h1 => ((¬ x2 = 0 → ((¬ (h1.1 2 7) = 0 → CM d jX7_startAhead [.ref 0] h1 (oh_r0 (fun h3 => CM d jX7_bellsTillSpoken [.ref 0, .int v1] h3 (oh_r1 (fun x5 h4 => ((x5 ≤ (30 : Int32) → Q (some (.int x5)) h4) ∧ (¬ x5 ≤ (30 : Int32) → CM d jX7_failed [.ref 0, .int (-1000000002 : Int32)] h4 (oh_r1 (fun x7 h6 => Q (some (.int x7)) h6))))))))) ∧ ((h1.1 2 7) = 0 → CM d jX7_failed [.ref 0, .int (-1000000003 : Int32)] h1 (oh_r1 (fun x9 h8 => Q (some (.int x9)) h8))))) ∧ (x2 = 0 → CM d jX7_failed [.ref 0, .int (-1000000001 : Int32)] h1 (oh_r1 (fun x11 h10 => Q (some (.int x11)) h10))))))) : CM (d + 1) jX7_when [.ref 0, .int v1] h Q := oh_mwp_1 (nL := 2) (T := tX7_when) rfl rfl (oh_run_wp (oh_mwp_m d) 116 q)
set_option maxRecDepth 20000 in
theorem mX7_silence {d : Nat} {Q : oh_Q} {h : oh_St} {v1 v2 : Int32} (q : CM d jX7_isMan [.ref 0, .int v1] h (oh_r1 (fun x2 h1 => ((x2 = 0 → CM d jX7_failed [.ref 0, .int (-1000000001 : Int32)] h1 (oh_r1 (fun x4 h3 => Q (some (.int x4)) h3))) ∧ (¬ x2 = 0 → CM d jX7_isAhead [.int v2] h1 (oh_r1 (fun x6 h5 => ((¬ x6 = 0 → ((¬ (h5.1 2 7) = 0 → CM d jX7_startAhead [.ref 0] h5 (oh_r0 (fun h7 => CM d jX7_ringAhead [.ref 0, .int v2] h7 (oh_r1 (fun x9 h8 => CM d jJ6_bitCount_0f7a4 [.int ((h8.1 37 9) &&& (((1 : Int32) <<< (v1 &&& 31)) ^^^ (-1 : Int32)))] h8 (oh_r1 (fun x11 h10 => CM d jX7_startAhead [.ref 0] h10 (oh_r0 (fun h12 => (vp_in v1 6 ∧ CM d jX7_ringAhead [.ref 0, .int v2] (oh_upi h12 38 v1.toNatClampNeg (3 : Int32)) (oh_r1 (fun x14 h13 => CM d jJ6_bitCount_0f7a4 [.int ((h13.1 37 9) &&& (((1 : Int32) <<< (v1 &&& 31)) ^^^ (-1 : Int32)))] h13 (oh_r1 (fun x16 h15 => Q (some (.int (x11 - x16))) h15)))))))))))))) ∧ ((h5.1 2 7) = 0 → CM d jX7_failed [.ref 0, .int (-1000000003 : Int32)] h5 (oh_r1 (fun x18 h17 => Q (some (.int x18)) h17))))) ∧ (x6 = 0 → CM d jX7_failed [.ref 0, .int (-1000000001 : Int32)] h5 (oh_r1 (fun x20 h19 => Q (some (.int x20)) h19))))))))))) : CM (d + 1) jX7_silence [.ref 0, .int v1, .int v2] h Q := oh_mwp_1 (nL := 4) (T := tX7_silence) rfl rfl (oh_run_wp (oh_mwp_m d) 200 q)
abbrev wX7_trick_64 (d : Nat) (Q : oh_Q) (v1 : Int32) (v2 : Int32) (v3 : Int32) (v4 : Int32) (v5 : Int64) (v7 : Int32) (h : oh_St) : Prop := oh_wp GC tX7_trick (CM d) Q 64 cX7_trick_64 [some (.ref 0), some (.int v1), some (.int v2), some (.int v3), some (.int v4), some (.long v5), none, some (.int v7), none] [] h
set_option maxRecDepth 20000 in
theorem mX7_trick {d : Nat} {Q : oh_Q} {h : oh_St} {v1 v2 : Int32} (q : CM d jX7_isAhead [.int v1] h (oh_r1 (fun x2 h1 => ((x2 = 0 → CM d jX7_failed [.ref 0, .int (-1000000001 : Int32)] h1 (oh_r1 (fun x4 h3 => Q (some (.int x4)) h3))) ∧ (¬ x2 = 0 → ((v2 < 0 → CM d jX7_failed [.ref 0, .int (-1000000001 : Int32)] h1 (oh_r1 (fun x6 h5 => Q (some (.int x6)) h5))) ∧ (¬ v2 < 0 → ((v2 ≤ (1 : Int32) → ((¬ (h1.1 2 7) = 0 → wX7_trick_64 d Q v1 v2 (7 : Int32) (0 : Int32) (h1.2 2 8) (0 : Int32) h1) ∧ ((h1.1 2 7) = 0 → CM d jX7_failed [.ref 0, .int (-1000000003 : Int32)] h1 (oh_r1 (fun x8 h7 => Q (some (.int x8)) h7))))) ∧ (¬ v2 ≤ (1 : Int32) → CM d jX7_failed [.ref 0, .int (-1000000001 : Int32)] h1 (oh_r1 (fun x10 h9 => Q (some (.int x10)) h9))))))))))) : CM (d + 1) jX7_trick [.ref 0, .int v1, .int v2] h Q := oh_mwp_1 (nL := 8) (T := tX7_trick) rfl rfl (oh_run_wp (oh_mwp_m d) 257 q)
set_option maxRecDepth 20000 in
theorem bX7_trick_64 {d : Nat} {Q : oh_Q} {h : oh_St} {v1 v2 v3 v4 v7 : Int32} {v5 : Int64} (q : CM d jX4_worldCount [.ref 2] h (oh_r1 (fun x2 h1 => ((x2 ≤ v7 → ((¬ v2 = 0 → Q (some (.int v3)) h1) ∧ (v2 = 0 → Q (some (.int v4)) h1))) ∧ (¬ x2 ≤ v7 → CM d jX7_holds [.long v5, .int v7] h1 (oh_r1 (fun x4 h3 => ((x4 = 0 → wX7_trick_64 d Q v1 v2 v3 v4 v5 (v7 + (1 : Int32)) h3) ∧ (¬ x4 = 0 → CM d jX7_startAhead [.ref 0] h3 (oh_r0 (fun h5 => CM d jX7_ringAhead [.ref 0, .int v1] (oh_upi h5 37 5 v7) (oh_r1 (fun x7 h6 => CM d jJ6_bitCount_0f7a4 [.int (h6.1 37 9)] h6 (oh_r1 (fun x9 h8 => ((v3 ≤ x9 → CM d jX7_ranAlike [.ref 0] h8 (oh_r2 (fun x11 h10 => wX7_trick_64 d Q v1 v2 v3 v4 (v5 &&& (x11 ^^^ (-1 : Int64))) (v7 + (1 : Int32)) h10))) ∧ (¬ v3 ≤ x9 → CM d jX7_ranAlike [.ref 0] h8 (oh_r2 (fun x13 h12 => wX7_trick_64 d Q v1 v2 x9 v7 (v5 &&& (x13 ^^^ (-1 : Int64))) (v7 + (1 : Int32)) h12))))))))))))))))))) : wX7_trick_64 d Q v1 v2 v3 v4 v5 v7 h := oh_run_wp (oh_mwp_m d) 257 q
abbrev wX7_longest_36 (d : Nat) (Q : oh_Q) (v1 : Int32) (v2 : Int64) (v4 : Int32) (h : oh_St) : Prop := oh_wp GC tX7_longest (CM d) Q 36 cX7_longest_36 [some (.ref 0), some (.int v1), some (.long v2), none, some (.int v4)] [] h
set_option maxRecDepth 20000 in
theorem mX7_longest {d : Nat} {Q : oh_Q} {h : oh_St} (q : ((¬ (h.1 2 7) = 0 → wX7_longest_36 d Q (0 : Int32) (h.2 2 8) (0 : Int32) h) ∧ ((h.1 2 7) = 0 → CM d jX7_failed [.ref 0, .int (-1000000003 : Int32)] h (oh_r1 (fun x2 h1 => Q (some (.int x2)) h1))))) : CM (d + 1) jX7_longest [.ref 0] h Q := oh_mwp_1 (nL := 4) (T := tX7_longest) rfl rfl (oh_run_wp (oh_mwp_m d) 173 q)
set_option maxRecDepth 20000 in
theorem bX7_longest_36 {d : Nat} {Q : oh_Q} {h : oh_St} {v1 v4 : Int32} {v2 : Int64} (q : CM d jX4_worldCount [.ref 2] h (oh_r1 (fun x2 h1 => ((x2 ≤ v4 → Q (some (.int v1)) h1) ∧ (¬ x2 ≤ v4 → CM d jX7_holds [.long v2, .int v4] h1 (oh_r1 (fun x4 h3 => ((x4 = 0 → wX7_longest_36 d Q v1 v2 (v4 + (1 : Int32)) h3) ∧ (¬ x4 = 0 → CM d jX7_startAhead [.ref 0] h3 (oh_r0 (fun h5 => CM d jX7_ringAhead [.ref 0, .int (30 : Int32)] (oh_upi h5 37 5 v4) (oh_r1 (fun x7 h6 => CM d jJ9_max_7cf53 [.int v1, .int x7] h6 (oh_r1 (fun x9 h8 => CM d jX7_ranAlike [.ref 0] h8 (oh_r2 (fun x11 h10 => wX7_longest_36 d Q x9 (v2 &&& (x11 ^^^ (-1 : Int64))) (v4 + (1 : Int32)) h10))))))))))))))))) : wX7_longest_36 d Q v1 v2 v4 h := oh_run_wp (oh_mwp_m d) 173 q
set_option maxRecDepth 20000 in
theorem mX7_signal {d : Nat} {Q : oh_Q} {h : oh_St} {v1 v2 : Int32} (q : CM d jX7_isMan [.ref 0, .int v1] h (oh_r1 (fun x2 h1 => ((x2 = 0 → CM d jX7_failed [.ref 0, .int (-1000000001 : Int32)] h1 (oh_r1 (fun x4 h3 => Q (some (.int x4)) h3))) ∧ (¬ x2 = 0 → (vp_in v1 6 ∧ (((v2 &&& ((h1.1 5 v1.toNatClampNeg) ^^^ (-1 : Int32))) = 0 → ((¬ (h1.1 2 7) = 0 → CM d jX7_knowBySignal [.ref 0, .int v2] h1 (oh_r1 (fun x6 h5 => Q (some (.int x6)) h5))) ∧ ((h1.1 2 7) = 0 → CM d jX7_failed [.ref 0, .int (-1000000003 : Int32)] h1 (oh_r1 (fun x8 h7 => Q (some (.int x8)) h7))))) ∧ (¬ (v2 &&& ((h1.1 5 v1.toNatClampNeg) ^^^ (-1 : Int32))) = 0 → CM d jX7_failed [.ref 0, .int (-1000000001 : Int32)] h1 (oh_r1 (fun x10 h9 => Q (some (.int x10)) h9)))))))))) : CM (d + 1) jX7_signal [.ref 0, .int v1, .int v2] h Q := oh_mwp_1 (nL := 2) (T := tX7_signal) rfl rfl (oh_run_wp (oh_mwp_m d) 116 q)
abbrev wX7_bestSignal_52 (d : Nat) (Q : oh_Q) (v1 : Int32) (v2 : Int32) (v3 : Int32) (v4 : Int32) (v5 : Int32) (h : oh_St) : Prop := oh_wp GC tX7_bestSignal (CM d) Q 52 cX7_bestSignal_52 [some (.ref 0), some (.int v1), some (.int v2), some (.int v3), some (.int v4), some (.int v5), none] [] h
set_option maxRecDepth 20000 in
theorem mX7_bestSignal {d : Nat} {Q : oh_Q} {h : oh_St} {v1 v2 : Int32} (q : CM d jX7_isMan [.ref 0, .int v1] h (oh_r1 (fun x2 h1 => ((x2 = 0 → CM d jX7_failed [.ref 0, .int (-1000000001 : Int32)] h1 (oh_r1 (fun x4 h3 => Q (some (.int x4)) h3))) ∧ (¬ x2 = 0 → ((v2 < 0 → CM d jX7_failed [.ref 0, .int (-1000000001 : Int32)] h1 (oh_r1 (fun x6 h5 => Q (some (.int x6)) h5))) ∧ (¬ v2 < 0 → ((v2 ≤ (1 : Int32) → ((¬ (h1.1 2 7) = 0 → wX7_bestSignal_52 d Q v1 v2 (-1 : Int32) (0 : Int32) (0 : Int32) h1) ∧ ((h1.1 2 7) = 0 → CM d jX7_failed [.ref 0, .int (-1000000003 : Int32)] h1 (oh_r1 (fun x8 h7 => Q (some (.int x8)) h7))))) ∧ (¬ v2 ≤ (1 : Int32) → CM d jX7_failed [.ref 0, .int (-1000000001 : Int32)] h1 (oh_r1 (fun x10 h9 => Q (some (.int x10)) h9))))))))))) : CM (d + 1) jX7_bestSignal [.ref 0, .int v1, .int v2] h Q := oh_mwp_1 (nL := 6) (T := tX7_bestSignal) rfl rfl (oh_run_wp (oh_mwp_m d) 212 q)
set_option maxRecDepth 20000 in
theorem bX7_bestSignal_52 {d : Nat} {Q : oh_Q} {h : oh_St} {v1 v2 v3 v4 v5 : Int32} (q : CM d jX4_worldCount [.ref 2] h (oh_r1 (fun x2 h1 => ((x2 ≤ v5 → ((¬ v2 = 0 → Q (some (.int v3)) h1) ∧ (v2 = 0 → Q (some (.int v4)) h1))) ∧ (¬ x2 ≤ v5 → (vp_in v1 6 ∧ ((¬ (v5 &&& ((h1.1 5 v1.toNatClampNeg) ^^^ (-1 : Int32))) = 0 → wX7_bestSignal_52 d Q v1 v2 v3 v4 (v5 + (1 : Int32)) h1) ∧ ((v5 &&& ((h1.1 5 v1.toNatClampNeg) ^^^ (-1 : Int32))) = 0 → CM d jX7_knowBySignal [.ref 0, .int v5] h1 (oh_r1 (fun x4 h3 => ((x4 ≤ v3 → wX7_bestSignal_52 d Q v1 v2 v3 v4 (v5 + (1 : Int32)) h3) ∧ (¬ x4 ≤ v3 → wX7_bestSignal_52 d Q v1 v2 x4 v5 (v5 + (1 : Int32)) h3)))))))))))) : wX7_bestSignal_52 d Q v1 v2 v3 v4 v5 h := oh_run_wp (oh_mwp_m d) 212 q
abbrev wX7_look_43 (d : Nat) (Q : oh_Q) (v1 : Int32) (v2 : Int32) (v3 : Int32) (v4 : Int32) (h : oh_St) : Prop := oh_wp GC tX7_look (CM d) Q 43 cX7_look_43 [some (.ref 0), some (.int v1), some (.int v2), some (.int v3), some (.int v4), none] [] h
set_option maxRecDepth 20000 in
theorem mX7_look {d : Nat} {Q : oh_Q} {h : oh_St} {v1 : Int32} (q : CM d jX7_isMan [.ref 0, .int v1] h (oh_r1 (fun x2 h1 => ((¬ x2 = 0 → ((¬ (h1.1 2 7) = 0 → wX7_look_43 d Q v1 (31 : Int32) (-1 : Int32) (0 : Int32) h1) ∧ ((h1.1 2 7) = 0 → CM d jX7_failed [.ref 0, .int (-1000000003 : Int32)] h1 (oh_r1 (fun x4 h3 => Q (some (.int x4)) h3))))) ∧ (x2 = 0 → CM d jX7_failed [.ref 0, .int (-1000000001 : Int32)] h1 (oh_r1 (fun x6 h5 => Q (some (.int x6)) h5))))))) : CM (d + 1) jX7_look [.ref 0, .int v1] h Q := oh_mwp_1 (nL := 5) (T := tX7_look) rfl rfl (oh_run_wp (oh_mwp_m d) 245 q)
set_option maxRecDepth 20000 in
theorem bX7_look_43 {d : Nat} {Q : oh_Q} {h : oh_St} {v1 v2 v3 v4 : Int32} (q : (((h.1 2 0) ≤ v4 → ((0 ≤ v3 → Q (some (.int v3)) h) ∧ (¬ 0 ≤ v3 → CM d jX7_failed [.ref 0, .int (-1000000002 : Int32)] h (oh_r1 (fun x2 h1 => Q (some (.int x2)) h1))))) ∧ (¬ (h.1 2 0) ≤ v4 → ((v4 = v1 → wX7_look_43 d Q v1 v2 v3 (v4 + (1 : Int32)) h) ∧ (¬ v4 = v1 → (vp_in v1 6 ∧ CM d jX7_bit [.int (h.1 5 v1.toNatClampNeg), .int v4] h (oh_r1 (fun x4 h3 => ((¬ x4 = 0 → wX7_look_43 d Q v1 v2 v3 (v4 + (1 : Int32)) h3) ∧ (x4 = 0 → CM d jX7_startAhead [.ref 0] h3 (oh_r0 (fun h5 => (vp_in v1 6 ∧ (vp_in v1 6 ∧ CM d jX7_bellsTillSpoken [.ref 0, .int v1] (oh_upi h5 40 v1.toNatClampNeg ((h5.1 40 v1.toNatClampNeg) ||| ((1 : Int32) <<< (v4 &&& 31)))) (oh_r1 (fun x7 h6 => ((v2 ≤ x7 → wX7_look_43 d Q v1 v2 v3 (v4 + (1 : Int32)) h6) ∧ (¬ v2 ≤ x7 → wX7_look_43 d Q v1 x7 v4 (v4 + (1 : Int32)) h6)))))))))))))))))) : wX7_look_43 d Q v1 v2 v3 v4 h := oh_run_wp (oh_mwp_m d) 245 q
set_option maxRecDepth 20000 in
theorem mX7_odds {d : Nat} {Q : oh_Q} {h : oh_St} {v1 v2 : Int32} (q : CM d jX7_isMan [.ref 0, .int v1] h (oh_r1 (fun x2 h1 => ((x2 = 0 → CM d jX7_failed [.ref 0, .int (-1000000001 : Int32)] h1 (oh_r1 (fun x4 h3 => Q (some (.long (x4.toInt64))) h3))) ∧ (¬ x2 = 0 → ((v2 < 0 → CM d jX7_failed [.ref 0, .int (-1000000001 : Int32)] h1 (oh_r1 (fun x6 h5 => Q (some (.long (x6.toInt64))) h5))) ∧ (¬ v2 < 0 → ((v2 ≤ (1 : Int32) → ((¬ (h1.1 2 7) = 0 → CM d jX4_thought [.ref 2, .int v1, .int (h1.1 2 5)] h1 (oh_r2 (fun x8 h7 => CM d jX7_blacks [.int v1, .long x8] h7 (oh_r1 (fun x10 h9 => ((¬ x10 = 0 → CM d jJ13_bitCount_95d88 [.long x8] h9 (oh_r1 (fun x12 h11 => CM d jX7_commonDivisor [.int x10, .int x12] h11 (oh_r1 (fun x14 h13 => ((¬ v2 = 0 → ((¬ x14 = 0 → (¬ x14 = 0 ∧ Q (some (.long ((x12 / x14).toInt64))) h13)) ∧ (x14 = 0 → Q (some (.long (x12.toInt64))) h13))) ∧ (v2 = 0 → ((¬ x14 = 0 → (¬ x14 = 0 ∧ Q (some (.long ((x10 / x14).toInt64))) h13)) ∧ (x14 = 0 → Q (some (.long (x10.toInt64))) h13))))))))) ∧ (x10 = 0 → Q (some (.long (v2.toInt64))) h9))))))) ∧ ((h1.1 2 7) = 0 → CM d jX7_failed [.ref 0, .int (-1000000003 : Int32)] h1 (oh_r1 (fun x16 h15 => Q (some (.long (x16.toInt64))) h15))))) ∧ (¬ v2 ≤ (1 : Int32) → CM d jX7_failed [.ref 0, .int (-1000000001 : Int32)] h1 (oh_r1 (fun x18 h17 => Q (some (.long (x18.toInt64))) h17))))))))))) : CM (d + 1) jX7_odds [.ref 0, .int v1, .int v2] h Q := oh_mwp_1 (nL := 8) (T := tX7_odds) rfl rfl (oh_run_wp (oh_mwp_m d) 218 q)
set_option maxRecDepth 20000 in
theorem mX7_seed {d : Nat} {Q : oh_Q} {h : oh_St} {v1 : Int32} (q : Q (some (.int (h.1 1 5))) (oh_upi h 1 5 v1)) : CM (d + 1) jX7_seed [.ref 0, .int v1] h Q := oh_mwp_1 (nL := 2) (T := tX7_seed) rfl rfl (oh_run_wp (oh_mwp_m d) 50 q)
set_option maxRecDepth 20000 in
theorem mX7_voice {d : Nat} {Q : oh_Q} {h : oh_St} {v1 v2 v3 : Int32} (q : CM d jX7_isMan [.ref 0, .int v1] h (oh_r1 (fun x2 h1 => ((x2 = 0 → CM d jX7_failed [.ref 0, .int (-1000000001 : Int32)] h1 (oh_r1 (fun x4 h3 => Q (some (.int x4)) h3))) ∧ (¬ x2 = 0 → ((v2 < 0 → CM d jX7_failed [.ref 0, .int (-1000000001 : Int32)] h1 (oh_r1 (fun x6 h5 => Q (some (.int x6)) h5))) ∧ (¬ v2 < 0 → ((v2 < (4 : Int32) → CM d jX6_heard [.ref 47, .ref 2, .int v1, .int v2, .int v3] h1 (oh_r1 (fun x8 h7 => Q (some (.int x8)) h7))) ∧ (¬ v2 < (4 : Int32) → CM d jX7_failed [.ref 0, .int (-1000000001 : Int32)] h1 (oh_r1 (fun x10 h9 => Q (some (.int x10)) h9))))))))))) : CM (d + 1) jX7_voice [.ref 0, .int v1, .int v2, .int v3] h Q := oh_mwp_1 (nL := 3) (T := tX7_voice) rfl rfl (oh_run_wp (oh_mwp_m d) 89 q)
set_option maxRecDepth 20000 in
theorem mX7_trace {d : Nat} {Q : oh_Q} {h : oh_St} {v1 : Int32} (q : ((v1 < 0 → CM d jX7_failed [.ref 0, .int (-1000000002 : Int32)] h (oh_r1 (fun x2 h1 => Q (some (.int x2)) h1))) ∧ (¬ v1 < 0 → ((v1 < (h.1 48 1) → CM d jX3_get [.ref 48, .int v1] h (oh_r1 (fun x4 h3 => Q (some (.int x4)) h3))) ∧ (¬ v1 < (h.1 48 1) → CM d jX7_failed [.ref 0, .int (-1000000002 : Int32)] h (oh_r1 (fun x6 h5 => Q (some (.int x6)) h5))))))) : CM (d + 1) jX7_trace [.ref 0, .int v1] h Q := oh_mwp_1 (nL := 1) (T := tX7_trace) rfl rfl (oh_run_wp (oh_mwp_m d) 74 q)
abbrev wX7_sheet_68 (d : Nat) (Q : oh_Q) (v1 : Int32) (v2 : Int32) (v3 : Int32) (h : oh_St) : Prop := oh_wp GC tX7_sheet (CM d) Q 68 cX7_sheet_68 [some (.ref 0), some (.int v1), some (.int v2), some (.int v3)] [] h
set_option maxRecDepth 20000 in
theorem mX7_sheet {d : Nat} {Q : oh_Q} {h : oh_St} {v1 v2 v3 : Int32} (q : CM d jX7_isSheet [.int v1] h (oh_r1 (fun x2 h1 => ((x2 = 0 → CM d jX7_failed [.ref 0, .int (-1000000001 : Int32)] h1 (oh_r1 (fun x4 h3 => Q (some (.int x4)) h3))) ∧ (¬ x2 = 0 → ((v2 = 0 → ((v2 = 0 → ((v2 = 0 → wX7_sheet_68 d Q v1 v2 v3 h1) ∧ (¬ v2 = 0 → ((v3 ≤ (40 : Int32) → wX7_sheet_68 d Q v1 v2 v3 h1) ∧ (¬ v3 ≤ (40 : Int32) → CM d jX7_failed [.ref 0, .int (-1000000001 : Int32)] h1 (oh_r1 (fun x6 h5 => Q (some (.int x6)) h5))))))) ∧ (¬ v2 = 0 → ((0 ≤ v3 → ((v2 = 0 → wX7_sheet_68 d Q v1 v2 v3 h1) ∧ (¬ v2 = 0 → ((v3 ≤ (40 : Int32) → wX7_sheet_68 d Q v1 v2 v3 h1) ∧ (¬ v3 ≤ (40 : Int32) → CM d jX7_failed [.ref 0, .int (-1000000001 : Int32)] h1 (oh_r1 (fun x8 h7 => Q (some (.int x8)) h7))))))) ∧ (¬ 0 ≤ v3 → CM d jX7_failed [.ref 0, .int (-1000000003 : Int32)] h1 (oh_r1 (fun x10 h9 => Q (some (.int x10)) h9))))))) ∧ (¬ v2 = 0 → ((v2 = (8 : Int32) → ((v2 = 0 → ((v2 = 0 → wX7_sheet_68 d Q v1 v2 v3 h1) ∧ (¬ v2 = 0 → ((v3 ≤ (40 : Int32) → wX7_sheet_68 d Q v1 v2 v3 h1) ∧ (¬ v3 ≤ (40 : Int32) → CM d jX7_failed [.ref 0, .int (-1000000001 : Int32)] h1 (oh_r1 (fun x12 h11 => Q (some (.int x12)) h11))))))) ∧ (¬ v2 = 0 → ((0 ≤ v3 → ((v2 = 0 → wX7_sheet_68 d Q v1 v2 v3 h1) ∧ (¬ v2 = 0 → ((v3 ≤ (40 : Int32) → wX7_sheet_68 d Q v1 v2 v3 h1) ∧ (¬ v3 ≤ (40 : Int32) → CM d jX7_failed [.ref 0, .int (-1000000001 : Int32)] h1 (oh_r1 (fun x14 h13 => Q (some (.int x14)) h13))))))) ∧ (¬ 0 ≤ v3 → CM d jX7_failed [.ref 0, .int (-1000000003 : Int32)] h1 (oh_r1 (fun x16 h15 => Q (some (.int x16)) h15))))))) ∧ (¬ v2 = (8 : Int32) → ((v2 = (16 : Int32) → ((v2 = 0 → ((v2 = 0 → wX7_sheet_68 d Q v1 v2 v3 h1) ∧ (¬ v2 = 0 → ((v3 ≤ (40 : Int32) → wX7_sheet_68 d Q v1 v2 v3 h1) ∧ (¬ v3 ≤ (40 : Int32) → CM d jX7_failed [.ref 0, .int (-1000000001 : Int32)] h1 (oh_r1 (fun x18 h17 => Q (some (.int x18)) h17))))))) ∧ (¬ v2 = 0 → ((0 ≤ v3 → ((v2 = 0 → wX7_sheet_68 d Q v1 v2 v3 h1) ∧ (¬ v2 = 0 → ((v3 ≤ (40 : Int32) → wX7_sheet_68 d Q v1 v2 v3 h1) ∧ (¬ v3 ≤ (40 : Int32) → CM d jX7_failed [.ref 0, .int (-1000000001 : Int32)] h1 (oh_r1 (fun x20 h19 => Q (some (.int x20)) h19))))))) ∧ (¬ 0 ≤ v3 → CM d jX7_failed [.ref 0, .int (-1000000003 : Int32)] h1 (oh_r1 (fun x22 h21 => Q (some (.int x22)) h21))))))) ∧ (¬ v2 = (16 : Int32) → ((v2 = (32 : Int32) → ((v2 = 0 → ((v2 = 0 → wX7_sheet_68 d Q v1 v2 v3 h1) ∧ (¬ v2 = 0 → ((v3 ≤ (40 : Int32) → wX7_sheet_68 d Q v1 v2 v3 h1) ∧ (¬ v3 ≤ (40 : Int32) → CM d jX7_failed [.ref 0, .int (-1000000001 : Int32)] h1 (oh_r1 (fun x24 h23 => Q (some (.int x24)) h23))))))) ∧ (¬ v2 = 0 → ((0 ≤ v3 → ((v2 = 0 → wX7_sheet_68 d Q v1 v2 v3 h1) ∧ (¬ v2 = 0 → ((v3 ≤ (40 : Int32) → wX7_sheet_68 d Q v1 v2 v3 h1) ∧ (¬ v3 ≤ (40 : Int32) → CM d jX7_failed [.ref 0, .int (-1000000001 : Int32)] h1 (oh_r1 (fun x26 h25 => Q (some (.int x26)) h25))))))) ∧ (¬ 0 ≤ v3 → CM d jX7_failed [.ref 0, .int (-1000000003 : Int32)] h1 (oh_r1 (fun x28 h27 => Q (some (.int x28)) h27))))))) ∧ (¬ v2 = (32 : Int32) → CM d jX7_failed [.ref 0, .int (-1000000001 : Int32)] h1 (oh_r1 (fun x30 h29 => Q (some (.int x30)) h29))))))))))))))) : CM (d + 1) jX7_sheet [.ref 0, .int v1, .int v2, .int v3] h Q := oh_mwp_1 (nL := 3) (T := tX7_sheet) rfl rfl (oh_run_wp (oh_mwp_m d) 164 q)
set_option maxRecDepth 20000 in
theorem bX7_sheet_68_0 {d : Nat} {Q : oh_Q} {h : oh_St} {v2 v3 : Int32} (q : (vp_in (0 : Int32) 4 ∧ ((¬ v2 = 0 → CM d jX5_renew [.ref 51, .int v2, .int v3] h (oh_r0 (fun h1 => Q (some (.int (1 : Int32))) h1))) ∧ (v2 = 0 → CM d jX5_renew [.ref 51, .int v2, .int (0 : Int32)] h (oh_r0 (fun h2 => Q (some (.int (1 : Int32))) h2)))))) : wX7_sheet_68 d Q (0 : Int32) v2 v3 h := oh_run_wp (oh_mwp_m d) 164 q
set_option maxRecDepth 20000 in
theorem bX7_sheet_68_1 {d : Nat} {Q : oh_Q} {h : oh_St} {v2 v3 : Int32} (q : (vp_in (1 : Int32) 4 ∧ ((¬ v2 = 0 → CM d jX5_renew [.ref 53, .int v2, .int v3] h (oh_r0 (fun h1 => Q (some (.int (1 : Int32))) h1))) ∧ (v2 = 0 → CM d jX5_renew [.ref 53, .int v2, .int (0 : Int32)] h (oh_r0 (fun h2 => Q (some (.int (1 : Int32))) h2)))))) : wX7_sheet_68 d Q (1 : Int32) v2 v3 h := oh_run_wp (oh_mwp_m d) 164 q
set_option maxRecDepth 20000 in
theorem bX7_sheet_68_2 {d : Nat} {Q : oh_Q} {h : oh_St} {v2 v3 : Int32} (q : (vp_in (2 : Int32) 4 ∧ ((¬ v2 = 0 → CM d jX5_renew [.ref 55, .int v2, .int v3] h (oh_r0 (fun h1 => Q (some (.int (1 : Int32))) h1))) ∧ (v2 = 0 → CM d jX5_renew [.ref 55, .int v2, .int (0 : Int32)] h (oh_r0 (fun h2 => Q (some (.int (1 : Int32))) h2)))))) : wX7_sheet_68 d Q (2 : Int32) v2 v3 h := oh_run_wp (oh_mwp_m d) 164 q
set_option maxRecDepth 20000 in
theorem bX7_sheet_68_3 {d : Nat} {Q : oh_Q} {h : oh_St} {v2 v3 : Int32} (q : (vp_in (3 : Int32) 4 ∧ ((¬ v2 = 0 → CM d jX5_renew [.ref 57, .int v2, .int v3] h (oh_r0 (fun h1 => Q (some (.int (1 : Int32))) h1))) ∧ (v2 = 0 → CM d jX5_renew [.ref 57, .int v2, .int (0 : Int32)] h (oh_r0 (fun h2 => Q (some (.int (1 : Int32))) h2)))))) : wX7_sheet_68 d Q (3 : Int32) v2 v3 h := oh_run_wp (oh_mwp_m d) 164 q
abbrev wX7_put_14 (d : Nat) (Q : oh_Q) (v1 : Int32) (v2 : Int32) (v3 : Int32) (h : oh_St) : Prop := oh_wp GC tX7_put (CM d) Q 14 cX7_put_14 [some (.ref 0), some (.int v1), some (.int v2), some (.int v3)] [] h
set_option maxRecDepth 20000 in
theorem mX7_put {d : Nat} {Q : oh_Q} {h : oh_St} {v1 v2 v3 : Int32} (q : CM d jX7_isSheet [.int v1] h (oh_r1 (fun x2 h1 => ((¬ x2 = 0 → wX7_put_14 d Q v1 v2 v3 h1) ∧ (x2 = 0 → CM d jX7_failed [.ref 0, .int (-1000000001 : Int32)] h1 (oh_r1 (fun x4 h3 => Q (some (.int x4)) h3))))))) : CM (d + 1) jX7_put [.ref 0, .int v1, .int v2, .int v3] h Q := oh_mwp_1 (nL := 3) (T := tX7_put) rfl rfl (oh_run_wp (oh_mwp_m d) 137 q)
set_option maxRecDepth 20000 in
theorem bX7_put_14_0 {d : Nat} {Q : oh_Q} {h : oh_St} {v2 v3 : Int32} (q : (vp_in (0 : Int32) 4 ∧ ((¬ (h.1 51 0) = 0 → ((v2 < 0 → CM d jX7_failed [.ref 0, .int (-1000000001 : Int32)] h (oh_r1 (fun x2 h1 => Q (some (.int x2)) h1))) ∧ (¬ v2 < 0 → (vp_in (0 : Int32) 4 ∧ ((v2 < (h.1 51 1) → (vp_in (0 : Int32) 4 ∧ CM d jX5_write [.ref 51, .int v2, .int v3] h (oh_r0 (fun h3 => Q (some (.int (1 : Int32))) h3)))) ∧ (¬ v2 < (h.1 51 1) → CM d jX7_failed [.ref 0, .int (-1000000001 : Int32)] h (oh_r1 (fun x5 h4 => Q (some (.int x5)) h4)))))))) ∧ ((h.1 51 0) = 0 → CM d jX7_failed [.ref 0, .int (-1000000002 : Int32)] h (oh_r1 (fun x7 h6 => Q (some (.int x7)) h6)))))) : wX7_put_14 d Q (0 : Int32) v2 v3 h := oh_run_wp (oh_mwp_m d) 137 q
set_option maxRecDepth 20000 in
theorem bX7_put_14_1 {d : Nat} {Q : oh_Q} {h : oh_St} {v2 v3 : Int32} (q : (vp_in (1 : Int32) 4 ∧ ((¬ (h.1 53 0) = 0 → ((v2 < 0 → CM d jX7_failed [.ref 0, .int (-1000000001 : Int32)] h (oh_r1 (fun x2 h1 => Q (some (.int x2)) h1))) ∧ (¬ v2 < 0 → (vp_in (1 : Int32) 4 ∧ ((v2 < (h.1 53 1) → (vp_in (1 : Int32) 4 ∧ CM d jX5_write [.ref 53, .int v2, .int v3] h (oh_r0 (fun h3 => Q (some (.int (1 : Int32))) h3)))) ∧ (¬ v2 < (h.1 53 1) → CM d jX7_failed [.ref 0, .int (-1000000001 : Int32)] h (oh_r1 (fun x5 h4 => Q (some (.int x5)) h4)))))))) ∧ ((h.1 53 0) = 0 → CM d jX7_failed [.ref 0, .int (-1000000002 : Int32)] h (oh_r1 (fun x7 h6 => Q (some (.int x7)) h6)))))) : wX7_put_14 d Q (1 : Int32) v2 v3 h := oh_run_wp (oh_mwp_m d) 137 q
set_option maxRecDepth 20000 in
theorem bX7_put_14_2 {d : Nat} {Q : oh_Q} {h : oh_St} {v2 v3 : Int32} (q : (vp_in (2 : Int32) 4 ∧ ((¬ (h.1 55 0) = 0 → ((v2 < 0 → CM d jX7_failed [.ref 0, .int (-1000000001 : Int32)] h (oh_r1 (fun x2 h1 => Q (some (.int x2)) h1))) ∧ (¬ v2 < 0 → (vp_in (2 : Int32) 4 ∧ ((v2 < (h.1 55 1) → (vp_in (2 : Int32) 4 ∧ CM d jX5_write [.ref 55, .int v2, .int v3] h (oh_r0 (fun h3 => Q (some (.int (1 : Int32))) h3)))) ∧ (¬ v2 < (h.1 55 1) → CM d jX7_failed [.ref 0, .int (-1000000001 : Int32)] h (oh_r1 (fun x5 h4 => Q (some (.int x5)) h4)))))))) ∧ ((h.1 55 0) = 0 → CM d jX7_failed [.ref 0, .int (-1000000002 : Int32)] h (oh_r1 (fun x7 h6 => Q (some (.int x7)) h6)))))) : wX7_put_14 d Q (2 : Int32) v2 v3 h := oh_run_wp (oh_mwp_m d) 137 q
set_option maxRecDepth 20000 in
theorem bX7_put_14_3 {d : Nat} {Q : oh_Q} {h : oh_St} {v2 v3 : Int32} (q : (vp_in (3 : Int32) 4 ∧ ((¬ (h.1 57 0) = 0 → ((v2 < 0 → CM d jX7_failed [.ref 0, .int (-1000000001 : Int32)] h (oh_r1 (fun x2 h1 => Q (some (.int x2)) h1))) ∧ (¬ v2 < 0 → (vp_in (3 : Int32) 4 ∧ ((v2 < (h.1 57 1) → (vp_in (3 : Int32) 4 ∧ CM d jX5_write [.ref 57, .int v2, .int v3] h (oh_r0 (fun h3 => Q (some (.int (1 : Int32))) h3)))) ∧ (¬ v2 < (h.1 57 1) → CM d jX7_failed [.ref 0, .int (-1000000001 : Int32)] h (oh_r1 (fun x5 h4 => Q (some (.int x5)) h4)))))))) ∧ ((h.1 57 0) = 0 → CM d jX7_failed [.ref 0, .int (-1000000002 : Int32)] h (oh_r1 (fun x7 h6 => Q (some (.int x7)) h6)))))) : wX7_put_14 d Q (3 : Int32) v2 v3 h := oh_run_wp (oh_mwp_m d) 137 q
abbrev wX7_move_21 (d : Nat) (Q : oh_Q) (v1 : Int32) (v2 : Int32) (v3 : Int32) (v4 : Int32) (v5 : Int32) (h : oh_St) : Prop := oh_wp GC tX7_move (CM d) Q 21 cX7_move_21 [some (.ref 0), some (.int v1), some (.int v2), some (.int v3), some (.int v4), some (.int v5), none, none] [] h
set_option maxRecDepth 20000 in
theorem mX7_move {d : Nat} {Q : oh_Q} {h : oh_St} {v1 v2 v3 v4 v5 : Int32} (q : CM d jX7_isSheet [.int v1] h (oh_r1 (fun x2 h1 => ((x2 = 0 → CM d jX7_failed [.ref 0, .int (-1000000001 : Int32)] h1 (oh_r1 (fun x4 h3 => Q (some (.int x4)) h3))) ∧ (¬ x2 = 0 → CM d jX7_isSheet [.int v3] h1 (oh_r1 (fun x6 h5 => ((¬ x6 = 0 → wX7_move_21 d Q v1 v2 v3 v4 v5 h5) ∧ (x6 = 0 → CM d jX7_failed [.ref 0, .int (-1000000001 : Int32)] h5 (oh_r1 (fun x8 h7 => Q (some (.int x8)) h7))))))))))) : CM (d + 1) jX7_move [.ref 0, .int v1, .int v2, .int v3, .int v4, .int v5] h Q := oh_mwp_1 (nL := 7) (T := tX7_move) rfl rfl (oh_run_wp (oh_mwp_m d) 209 q)
set_option maxRecDepth 20000 in
theorem bX7_move_21_00 {d : Nat} {Q : oh_Q} {h : oh_St} {v2 v4 v5 : Int32} (q : (vp_in (0 : Int32) 4 ∧ (vp_in (0 : Int32) 4 ∧ (((h.1 51 0) = 0 → CM d jX7_failed [.ref 0, .int (-1000000002 : Int32)] h (oh_r1 (fun x2 h1 => Q (some (.int x2)) h1))) ∧ (¬ (h.1 51 0) = 0 → ((¬ (h.1 51 0) = 0 → (((h.1 51 0) = (h.1 51 0) → CM d jX5_hasRun [.ref 51, .int v2, .int v5] h (oh_r1 (fun x4 h3 => ((x4 = 0 → CM d jX7_failed [.ref 0, .int (-1000000001 : Int32)] h3 (oh_r1 (fun x6 h5 => Q (some (.int x6)) h5))) ∧ (¬ x4 = 0 → CM d jX5_hasRun [.ref 51, .int v4, .int v5] h3 (oh_r1 (fun x8 h7 => ((¬ x8 = 0 → ((¬ v2 < 0 ∧ ¬ v4 < 0 ∧ ¬ v5 < 0 ∧ v2.toNatClampNeg + v5.toNatClampNeg ≤ 40 ∧ v4.toNatClampNeg + v5.toNatClampNeg ≤ 40) ∧ Q (some (.int v5)) (oh_upa h7 52 (va_cpy (h7.1 52) (h7.1 52) v2.toNatClampNeg v4.toNatClampNeg v5.toNatClampNeg)))) ∧ (x8 = 0 → CM d jX7_failed [.ref 0, .int (-1000000001 : Int32)] h7 (oh_r1 (fun x10 h9 => Q (some (.int x10)) h9))))))))))) ∧ (¬ (h.1 51 0) = (h.1 51 0) → CM d jX7_failed [.ref 0, .int (-1000000005 : Int32)] h (oh_r1 (fun x12 h11 => Q (some (.int x12)) h11))))) ∧ ((h.1 51 0) = 0 → CM d jX7_failed [.ref 0, .int (-1000000002 : Int32)] h (oh_r1 (fun x14 h13 => Q (some (.int x14)) h13))))))))) : wX7_move_21 d Q (0 : Int32) v2 (0 : Int32) v4 v5 h := oh_run_wp (oh_mwp_m d) 209 q
set_option maxRecDepth 20000 in
theorem bX7_move_21_01 {d : Nat} {Q : oh_Q} {h : oh_St} {v2 v4 v5 : Int32} (q : (vp_in (0 : Int32) 4 ∧ (vp_in (1 : Int32) 4 ∧ (((h.1 51 0) = 0 → CM d jX7_failed [.ref 0, .int (-1000000002 : Int32)] h (oh_r1 (fun x2 h1 => Q (some (.int x2)) h1))) ∧ (¬ (h.1 51 0) = 0 → ((¬ (h.1 53 0) = 0 → (((h.1 51 0) = (h.1 53 0) → CM d jX5_hasRun [.ref 51, .int v2, .int v5] h (oh_r1 (fun x4 h3 => ((x4 = 0 → CM d jX7_failed [.ref 0, .int (-1000000001 : Int32)] h3 (oh_r1 (fun x6 h5 => Q (some (.int x6)) h5))) ∧ (¬ x4 = 0 → CM d jX5_hasRun [.ref 53, .int v4, .int v5] h3 (oh_r1 (fun x8 h7 => ((¬ x8 = 0 → ((¬ v2 < 0 ∧ ¬ v4 < 0 ∧ ¬ v5 < 0 ∧ v2.toNatClampNeg + v5.toNatClampNeg ≤ 40 ∧ v4.toNatClampNeg + v5.toNatClampNeg ≤ 40) ∧ Q (some (.int v5)) (oh_upa h7 54 (va_cpy (h7.1 52) (h7.1 54) v2.toNatClampNeg v4.toNatClampNeg v5.toNatClampNeg)))) ∧ (x8 = 0 → CM d jX7_failed [.ref 0, .int (-1000000001 : Int32)] h7 (oh_r1 (fun x10 h9 => Q (some (.int x10)) h9))))))))))) ∧ (¬ (h.1 51 0) = (h.1 53 0) → CM d jX7_failed [.ref 0, .int (-1000000005 : Int32)] h (oh_r1 (fun x12 h11 => Q (some (.int x12)) h11))))) ∧ ((h.1 53 0) = 0 → CM d jX7_failed [.ref 0, .int (-1000000002 : Int32)] h (oh_r1 (fun x14 h13 => Q (some (.int x14)) h13))))))))) : wX7_move_21 d Q (0 : Int32) v2 (1 : Int32) v4 v5 h := oh_run_wp (oh_mwp_m d) 209 q
set_option maxRecDepth 20000 in
theorem bX7_move_21_02 {d : Nat} {Q : oh_Q} {h : oh_St} {v2 v4 v5 : Int32} (q : (vp_in (0 : Int32) 4 ∧ (vp_in (2 : Int32) 4 ∧ (((h.1 51 0) = 0 → CM d jX7_failed [.ref 0, .int (-1000000002 : Int32)] h (oh_r1 (fun x2 h1 => Q (some (.int x2)) h1))) ∧ (¬ (h.1 51 0) = 0 → ((¬ (h.1 55 0) = 0 → (((h.1 51 0) = (h.1 55 0) → CM d jX5_hasRun [.ref 51, .int v2, .int v5] h (oh_r1 (fun x4 h3 => ((x4 = 0 → CM d jX7_failed [.ref 0, .int (-1000000001 : Int32)] h3 (oh_r1 (fun x6 h5 => Q (some (.int x6)) h5))) ∧ (¬ x4 = 0 → CM d jX5_hasRun [.ref 55, .int v4, .int v5] h3 (oh_r1 (fun x8 h7 => ((¬ x8 = 0 → ((¬ v2 < 0 ∧ ¬ v4 < 0 ∧ ¬ v5 < 0 ∧ v2.toNatClampNeg + v5.toNatClampNeg ≤ 40 ∧ v4.toNatClampNeg + v5.toNatClampNeg ≤ 40) ∧ Q (some (.int v5)) (oh_upa h7 56 (va_cpy (h7.1 52) (h7.1 56) v2.toNatClampNeg v4.toNatClampNeg v5.toNatClampNeg)))) ∧ (x8 = 0 → CM d jX7_failed [.ref 0, .int (-1000000001 : Int32)] h7 (oh_r1 (fun x10 h9 => Q (some (.int x10)) h9))))))))))) ∧ (¬ (h.1 51 0) = (h.1 55 0) → CM d jX7_failed [.ref 0, .int (-1000000005 : Int32)] h (oh_r1 (fun x12 h11 => Q (some (.int x12)) h11))))) ∧ ((h.1 55 0) = 0 → CM d jX7_failed [.ref 0, .int (-1000000002 : Int32)] h (oh_r1 (fun x14 h13 => Q (some (.int x14)) h13))))))))) : wX7_move_21 d Q (0 : Int32) v2 (2 : Int32) v4 v5 h := oh_run_wp (oh_mwp_m d) 209 q
set_option maxRecDepth 20000 in
theorem bX7_move_21_03 {d : Nat} {Q : oh_Q} {h : oh_St} {v2 v4 v5 : Int32} (q : (vp_in (0 : Int32) 4 ∧ (vp_in (3 : Int32) 4 ∧ (((h.1 51 0) = 0 → CM d jX7_failed [.ref 0, .int (-1000000002 : Int32)] h (oh_r1 (fun x2 h1 => Q (some (.int x2)) h1))) ∧ (¬ (h.1 51 0) = 0 → ((¬ (h.1 57 0) = 0 → (((h.1 51 0) = (h.1 57 0) → CM d jX5_hasRun [.ref 51, .int v2, .int v5] h (oh_r1 (fun x4 h3 => ((x4 = 0 → CM d jX7_failed [.ref 0, .int (-1000000001 : Int32)] h3 (oh_r1 (fun x6 h5 => Q (some (.int x6)) h5))) ∧ (¬ x4 = 0 → CM d jX5_hasRun [.ref 57, .int v4, .int v5] h3 (oh_r1 (fun x8 h7 => ((¬ x8 = 0 → ((¬ v2 < 0 ∧ ¬ v4 < 0 ∧ ¬ v5 < 0 ∧ v2.toNatClampNeg + v5.toNatClampNeg ≤ 40 ∧ v4.toNatClampNeg + v5.toNatClampNeg ≤ 40) ∧ Q (some (.int v5)) (oh_upa h7 58 (va_cpy (h7.1 52) (h7.1 58) v2.toNatClampNeg v4.toNatClampNeg v5.toNatClampNeg)))) ∧ (x8 = 0 → CM d jX7_failed [.ref 0, .int (-1000000001 : Int32)] h7 (oh_r1 (fun x10 h9 => Q (some (.int x10)) h9))))))))))) ∧ (¬ (h.1 51 0) = (h.1 57 0) → CM d jX7_failed [.ref 0, .int (-1000000005 : Int32)] h (oh_r1 (fun x12 h11 => Q (some (.int x12)) h11))))) ∧ ((h.1 57 0) = 0 → CM d jX7_failed [.ref 0, .int (-1000000002 : Int32)] h (oh_r1 (fun x14 h13 => Q (some (.int x14)) h13))))))))) : wX7_move_21 d Q (0 : Int32) v2 (3 : Int32) v4 v5 h := oh_run_wp (oh_mwp_m d) 209 q
set_option maxRecDepth 20000 in
theorem bX7_move_21_10 {d : Nat} {Q : oh_Q} {h : oh_St} {v2 v4 v5 : Int32} (q : (vp_in (1 : Int32) 4 ∧ (vp_in (0 : Int32) 4 ∧ (((h.1 53 0) = 0 → CM d jX7_failed [.ref 0, .int (-1000000002 : Int32)] h (oh_r1 (fun x2 h1 => Q (some (.int x2)) h1))) ∧ (¬ (h.1 53 0) = 0 → ((¬ (h.1 51 0) = 0 → (((h.1 53 0) = (h.1 51 0) → CM d jX5_hasRun [.ref 53, .int v2, .int v5] h (oh_r1 (fun x4 h3 => ((x4 = 0 → CM d jX7_failed [.ref 0, .int (-1000000001 : Int32)] h3 (oh_r1 (fun x6 h5 => Q (some (.int x6)) h5))) ∧ (¬ x4 = 0 → CM d jX5_hasRun [.ref 51, .int v4, .int v5] h3 (oh_r1 (fun x8 h7 => ((¬ x8 = 0 → ((¬ v2 < 0 ∧ ¬ v4 < 0 ∧ ¬ v5 < 0 ∧ v2.toNatClampNeg + v5.toNatClampNeg ≤ 40 ∧ v4.toNatClampNeg + v5.toNatClampNeg ≤ 40) ∧ Q (some (.int v5)) (oh_upa h7 52 (va_cpy (h7.1 54) (h7.1 52) v2.toNatClampNeg v4.toNatClampNeg v5.toNatClampNeg)))) ∧ (x8 = 0 → CM d jX7_failed [.ref 0, .int (-1000000001 : Int32)] h7 (oh_r1 (fun x10 h9 => Q (some (.int x10)) h9))))))))))) ∧ (¬ (h.1 53 0) = (h.1 51 0) → CM d jX7_failed [.ref 0, .int (-1000000005 : Int32)] h (oh_r1 (fun x12 h11 => Q (some (.int x12)) h11))))) ∧ ((h.1 51 0) = 0 → CM d jX7_failed [.ref 0, .int (-1000000002 : Int32)] h (oh_r1 (fun x14 h13 => Q (some (.int x14)) h13))))))))) : wX7_move_21 d Q (1 : Int32) v2 (0 : Int32) v4 v5 h := oh_run_wp (oh_mwp_m d) 209 q
set_option maxRecDepth 20000 in
theorem bX7_move_21_11 {d : Nat} {Q : oh_Q} {h : oh_St} {v2 v4 v5 : Int32} (q : (vp_in (1 : Int32) 4 ∧ (vp_in (1 : Int32) 4 ∧ (((h.1 53 0) = 0 → CM d jX7_failed [.ref 0, .int (-1000000002 : Int32)] h (oh_r1 (fun x2 h1 => Q (some (.int x2)) h1))) ∧ (¬ (h.1 53 0) = 0 → ((¬ (h.1 53 0) = 0 → (((h.1 53 0) = (h.1 53 0) → CM d jX5_hasRun [.ref 53, .int v2, .int v5] h (oh_r1 (fun x4 h3 => ((x4 = 0 → CM d jX7_failed [.ref 0, .int (-1000000001 : Int32)] h3 (oh_r1 (fun x6 h5 => Q (some (.int x6)) h5))) ∧ (¬ x4 = 0 → CM d jX5_hasRun [.ref 53, .int v4, .int v5] h3 (oh_r1 (fun x8 h7 => ((¬ x8 = 0 → ((¬ v2 < 0 ∧ ¬ v4 < 0 ∧ ¬ v5 < 0 ∧ v2.toNatClampNeg + v5.toNatClampNeg ≤ 40 ∧ v4.toNatClampNeg + v5.toNatClampNeg ≤ 40) ∧ Q (some (.int v5)) (oh_upa h7 54 (va_cpy (h7.1 54) (h7.1 54) v2.toNatClampNeg v4.toNatClampNeg v5.toNatClampNeg)))) ∧ (x8 = 0 → CM d jX7_failed [.ref 0, .int (-1000000001 : Int32)] h7 (oh_r1 (fun x10 h9 => Q (some (.int x10)) h9))))))))))) ∧ (¬ (h.1 53 0) = (h.1 53 0) → CM d jX7_failed [.ref 0, .int (-1000000005 : Int32)] h (oh_r1 (fun x12 h11 => Q (some (.int x12)) h11))))) ∧ ((h.1 53 0) = 0 → CM d jX7_failed [.ref 0, .int (-1000000002 : Int32)] h (oh_r1 (fun x14 h13 => Q (some (.int x14)) h13))))))))) : wX7_move_21 d Q (1 : Int32) v2 (1 : Int32) v4 v5 h := oh_run_wp (oh_mwp_m d) 209 q
set_option maxRecDepth 20000 in
theorem bX7_move_21_12 {d : Nat} {Q : oh_Q} {h : oh_St} {v2 v4 v5 : Int32} (q : (vp_in (1 : Int32) 4 ∧ (vp_in (2 : Int32) 4 ∧ (((h.1 53 0) = 0 → CM d jX7_failed [.ref 0, .int (-1000000002 : Int32)] h (oh_r1 (fun x2 h1 => Q (some (.int x2)) h1))) ∧ (¬ (h.1 53 0) = 0 → ((¬ (h.1 55 0) = 0 → (((h.1 53 0) = (h.1 55 0) → CM d jX5_hasRun [.ref 53, .int v2, .int v5] h (oh_r1 (fun x4 h3 => ((x4 = 0 → CM d jX7_failed [.ref 0, .int (-1000000001 : Int32)] h3 (oh_r1 (fun x6 h5 => Q (some (.int x6)) h5))) ∧ (¬ x4 = 0 → CM d jX5_hasRun [.ref 55, .int v4, .int v5] h3 (oh_r1 (fun x8 h7 => ((¬ x8 = 0 → ((¬ v2 < 0 ∧ ¬ v4 < 0 ∧ ¬ v5 < 0 ∧ v2.toNatClampNeg + v5.toNatClampNeg ≤ 40 ∧ v4.toNatClampNeg + v5.toNatClampNeg ≤ 40) ∧ Q (some (.int v5)) (oh_upa h7 56 (va_cpy (h7.1 54) (h7.1 56) v2.toNatClampNeg v4.toNatClampNeg v5.toNatClampNeg)))) ∧ (x8 = 0 → CM d jX7_failed [.ref 0, .int (-1000000001 : Int32)] h7 (oh_r1 (fun x10 h9 => Q (some (.int x10)) h9))))))))))) ∧ (¬ (h.1 53 0) = (h.1 55 0) → CM d jX7_failed [.ref 0, .int (-1000000005 : Int32)] h (oh_r1 (fun x12 h11 => Q (some (.int x12)) h11))))) ∧ ((h.1 55 0) = 0 → CM d jX7_failed [.ref 0, .int (-1000000002 : Int32)] h (oh_r1 (fun x14 h13 => Q (some (.int x14)) h13))))))))) : wX7_move_21 d Q (1 : Int32) v2 (2 : Int32) v4 v5 h := oh_run_wp (oh_mwp_m d) 209 q
set_option maxRecDepth 20000 in
theorem bX7_move_21_13 {d : Nat} {Q : oh_Q} {h : oh_St} {v2 v4 v5 : Int32} (q : (vp_in (1 : Int32) 4 ∧ (vp_in (3 : Int32) 4 ∧ (((h.1 53 0) = 0 → CM d jX7_failed [.ref 0, .int (-1000000002 : Int32)] h (oh_r1 (fun x2 h1 => Q (some (.int x2)) h1))) ∧ (¬ (h.1 53 0) = 0 → ((¬ (h.1 57 0) = 0 → (((h.1 53 0) = (h.1 57 0) → CM d jX5_hasRun [.ref 53, .int v2, .int v5] h (oh_r1 (fun x4 h3 => ((x4 = 0 → CM d jX7_failed [.ref 0, .int (-1000000001 : Int32)] h3 (oh_r1 (fun x6 h5 => Q (some (.int x6)) h5))) ∧ (¬ x4 = 0 → CM d jX5_hasRun [.ref 57, .int v4, .int v5] h3 (oh_r1 (fun x8 h7 => ((¬ x8 = 0 → ((¬ v2 < 0 ∧ ¬ v4 < 0 ∧ ¬ v5 < 0 ∧ v2.toNatClampNeg + v5.toNatClampNeg ≤ 40 ∧ v4.toNatClampNeg + v5.toNatClampNeg ≤ 40) ∧ Q (some (.int v5)) (oh_upa h7 58 (va_cpy (h7.1 54) (h7.1 58) v2.toNatClampNeg v4.toNatClampNeg v5.toNatClampNeg)))) ∧ (x8 = 0 → CM d jX7_failed [.ref 0, .int (-1000000001 : Int32)] h7 (oh_r1 (fun x10 h9 => Q (some (.int x10)) h9))))))))))) ∧ (¬ (h.1 53 0) = (h.1 57 0) → CM d jX7_failed [.ref 0, .int (-1000000005 : Int32)] h (oh_r1 (fun x12 h11 => Q (some (.int x12)) h11))))) ∧ ((h.1 57 0) = 0 → CM d jX7_failed [.ref 0, .int (-1000000002 : Int32)] h (oh_r1 (fun x14 h13 => Q (some (.int x14)) h13))))))))) : wX7_move_21 d Q (1 : Int32) v2 (3 : Int32) v4 v5 h := oh_run_wp (oh_mwp_m d) 209 q
set_option maxRecDepth 20000 in
theorem bX7_move_21_20 {d : Nat} {Q : oh_Q} {h : oh_St} {v2 v4 v5 : Int32} (q : (vp_in (2 : Int32) 4 ∧ (vp_in (0 : Int32) 4 ∧ (((h.1 55 0) = 0 → CM d jX7_failed [.ref 0, .int (-1000000002 : Int32)] h (oh_r1 (fun x2 h1 => Q (some (.int x2)) h1))) ∧ (¬ (h.1 55 0) = 0 → ((¬ (h.1 51 0) = 0 → (((h.1 55 0) = (h.1 51 0) → CM d jX5_hasRun [.ref 55, .int v2, .int v5] h (oh_r1 (fun x4 h3 => ((x4 = 0 → CM d jX7_failed [.ref 0, .int (-1000000001 : Int32)] h3 (oh_r1 (fun x6 h5 => Q (some (.int x6)) h5))) ∧ (¬ x4 = 0 → CM d jX5_hasRun [.ref 51, .int v4, .int v5] h3 (oh_r1 (fun x8 h7 => ((¬ x8 = 0 → ((¬ v2 < 0 ∧ ¬ v4 < 0 ∧ ¬ v5 < 0 ∧ v2.toNatClampNeg + v5.toNatClampNeg ≤ 40 ∧ v4.toNatClampNeg + v5.toNatClampNeg ≤ 40) ∧ Q (some (.int v5)) (oh_upa h7 52 (va_cpy (h7.1 56) (h7.1 52) v2.toNatClampNeg v4.toNatClampNeg v5.toNatClampNeg)))) ∧ (x8 = 0 → CM d jX7_failed [.ref 0, .int (-1000000001 : Int32)] h7 (oh_r1 (fun x10 h9 => Q (some (.int x10)) h9))))))))))) ∧ (¬ (h.1 55 0) = (h.1 51 0) → CM d jX7_failed [.ref 0, .int (-1000000005 : Int32)] h (oh_r1 (fun x12 h11 => Q (some (.int x12)) h11))))) ∧ ((h.1 51 0) = 0 → CM d jX7_failed [.ref 0, .int (-1000000002 : Int32)] h (oh_r1 (fun x14 h13 => Q (some (.int x14)) h13))))))))) : wX7_move_21 d Q (2 : Int32) v2 (0 : Int32) v4 v5 h := oh_run_wp (oh_mwp_m d) 209 q
set_option maxRecDepth 20000 in
theorem bX7_move_21_21 {d : Nat} {Q : oh_Q} {h : oh_St} {v2 v4 v5 : Int32} (q : (vp_in (2 : Int32) 4 ∧ (vp_in (1 : Int32) 4 ∧ (((h.1 55 0) = 0 → CM d jX7_failed [.ref 0, .int (-1000000002 : Int32)] h (oh_r1 (fun x2 h1 => Q (some (.int x2)) h1))) ∧ (¬ (h.1 55 0) = 0 → ((¬ (h.1 53 0) = 0 → (((h.1 55 0) = (h.1 53 0) → CM d jX5_hasRun [.ref 55, .int v2, .int v5] h (oh_r1 (fun x4 h3 => ((x4 = 0 → CM d jX7_failed [.ref 0, .int (-1000000001 : Int32)] h3 (oh_r1 (fun x6 h5 => Q (some (.int x6)) h5))) ∧ (¬ x4 = 0 → CM d jX5_hasRun [.ref 53, .int v4, .int v5] h3 (oh_r1 (fun x8 h7 => ((¬ x8 = 0 → ((¬ v2 < 0 ∧ ¬ v4 < 0 ∧ ¬ v5 < 0 ∧ v2.toNatClampNeg + v5.toNatClampNeg ≤ 40 ∧ v4.toNatClampNeg + v5.toNatClampNeg ≤ 40) ∧ Q (some (.int v5)) (oh_upa h7 54 (va_cpy (h7.1 56) (h7.1 54) v2.toNatClampNeg v4.toNatClampNeg v5.toNatClampNeg)))) ∧ (x8 = 0 → CM d jX7_failed [.ref 0, .int (-1000000001 : Int32)] h7 (oh_r1 (fun x10 h9 => Q (some (.int x10)) h9))))))))))) ∧ (¬ (h.1 55 0) = (h.1 53 0) → CM d jX7_failed [.ref 0, .int (-1000000005 : Int32)] h (oh_r1 (fun x12 h11 => Q (some (.int x12)) h11))))) ∧ ((h.1 53 0) = 0 → CM d jX7_failed [.ref 0, .int (-1000000002 : Int32)] h (oh_r1 (fun x14 h13 => Q (some (.int x14)) h13))))))))) : wX7_move_21 d Q (2 : Int32) v2 (1 : Int32) v4 v5 h := oh_run_wp (oh_mwp_m d) 209 q
set_option maxRecDepth 20000 in
theorem bX7_move_21_22 {d : Nat} {Q : oh_Q} {h : oh_St} {v2 v4 v5 : Int32} (q : (vp_in (2 : Int32) 4 ∧ (vp_in (2 : Int32) 4 ∧ (((h.1 55 0) = 0 → CM d jX7_failed [.ref 0, .int (-1000000002 : Int32)] h (oh_r1 (fun x2 h1 => Q (some (.int x2)) h1))) ∧ (¬ (h.1 55 0) = 0 → ((¬ (h.1 55 0) = 0 → (((h.1 55 0) = (h.1 55 0) → CM d jX5_hasRun [.ref 55, .int v2, .int v5] h (oh_r1 (fun x4 h3 => ((x4 = 0 → CM d jX7_failed [.ref 0, .int (-1000000001 : Int32)] h3 (oh_r1 (fun x6 h5 => Q (some (.int x6)) h5))) ∧ (¬ x4 = 0 → CM d jX5_hasRun [.ref 55, .int v4, .int v5] h3 (oh_r1 (fun x8 h7 => ((¬ x8 = 0 → ((¬ v2 < 0 ∧ ¬ v4 < 0 ∧ ¬ v5 < 0 ∧ v2.toNatClampNeg + v5.toNatClampNeg ≤ 40 ∧ v4.toNatClampNeg + v5.toNatClampNeg ≤ 40) ∧ Q (some (.int v5)) (oh_upa h7 56 (va_cpy (h7.1 56) (h7.1 56) v2.toNatClampNeg v4.toNatClampNeg v5.toNatClampNeg)))) ∧ (x8 = 0 → CM d jX7_failed [.ref 0, .int (-1000000001 : Int32)] h7 (oh_r1 (fun x10 h9 => Q (some (.int x10)) h9))))))))))) ∧ (¬ (h.1 55 0) = (h.1 55 0) → CM d jX7_failed [.ref 0, .int (-1000000005 : Int32)] h (oh_r1 (fun x12 h11 => Q (some (.int x12)) h11))))) ∧ ((h.1 55 0) = 0 → CM d jX7_failed [.ref 0, .int (-1000000002 : Int32)] h (oh_r1 (fun x14 h13 => Q (some (.int x14)) h13))))))))) : wX7_move_21 d Q (2 : Int32) v2 (2 : Int32) v4 v5 h := oh_run_wp (oh_mwp_m d) 209 q
set_option maxRecDepth 20000 in
theorem bX7_move_21_23 {d : Nat} {Q : oh_Q} {h : oh_St} {v2 v4 v5 : Int32} (q : (vp_in (2 : Int32) 4 ∧ (vp_in (3 : Int32) 4 ∧ (((h.1 55 0) = 0 → CM d jX7_failed [.ref 0, .int (-1000000002 : Int32)] h (oh_r1 (fun x2 h1 => Q (some (.int x2)) h1))) ∧ (¬ (h.1 55 0) = 0 → ((¬ (h.1 57 0) = 0 → (((h.1 55 0) = (h.1 57 0) → CM d jX5_hasRun [.ref 55, .int v2, .int v5] h (oh_r1 (fun x4 h3 => ((x4 = 0 → CM d jX7_failed [.ref 0, .int (-1000000001 : Int32)] h3 (oh_r1 (fun x6 h5 => Q (some (.int x6)) h5))) ∧ (¬ x4 = 0 → CM d jX5_hasRun [.ref 57, .int v4, .int v5] h3 (oh_r1 (fun x8 h7 => ((¬ x8 = 0 → ((¬ v2 < 0 ∧ ¬ v4 < 0 ∧ ¬ v5 < 0 ∧ v2.toNatClampNeg + v5.toNatClampNeg ≤ 40 ∧ v4.toNatClampNeg + v5.toNatClampNeg ≤ 40) ∧ Q (some (.int v5)) (oh_upa h7 58 (va_cpy (h7.1 56) (h7.1 58) v2.toNatClampNeg v4.toNatClampNeg v5.toNatClampNeg)))) ∧ (x8 = 0 → CM d jX7_failed [.ref 0, .int (-1000000001 : Int32)] h7 (oh_r1 (fun x10 h9 => Q (some (.int x10)) h9))))))))))) ∧ (¬ (h.1 55 0) = (h.1 57 0) → CM d jX7_failed [.ref 0, .int (-1000000005 : Int32)] h (oh_r1 (fun x12 h11 => Q (some (.int x12)) h11))))) ∧ ((h.1 57 0) = 0 → CM d jX7_failed [.ref 0, .int (-1000000002 : Int32)] h (oh_r1 (fun x14 h13 => Q (some (.int x14)) h13))))))))) : wX7_move_21 d Q (2 : Int32) v2 (3 : Int32) v4 v5 h := oh_run_wp (oh_mwp_m d) 209 q
set_option maxRecDepth 20000 in
theorem bX7_move_21_30 {d : Nat} {Q : oh_Q} {h : oh_St} {v2 v4 v5 : Int32} (q : (vp_in (3 : Int32) 4 ∧ (vp_in (0 : Int32) 4 ∧ (((h.1 57 0) = 0 → CM d jX7_failed [.ref 0, .int (-1000000002 : Int32)] h (oh_r1 (fun x2 h1 => Q (some (.int x2)) h1))) ∧ (¬ (h.1 57 0) = 0 → ((¬ (h.1 51 0) = 0 → (((h.1 57 0) = (h.1 51 0) → CM d jX5_hasRun [.ref 57, .int v2, .int v5] h (oh_r1 (fun x4 h3 => ((x4 = 0 → CM d jX7_failed [.ref 0, .int (-1000000001 : Int32)] h3 (oh_r1 (fun x6 h5 => Q (some (.int x6)) h5))) ∧ (¬ x4 = 0 → CM d jX5_hasRun [.ref 51, .int v4, .int v5] h3 (oh_r1 (fun x8 h7 => ((¬ x8 = 0 → ((¬ v2 < 0 ∧ ¬ v4 < 0 ∧ ¬ v5 < 0 ∧ v2.toNatClampNeg + v5.toNatClampNeg ≤ 40 ∧ v4.toNatClampNeg + v5.toNatClampNeg ≤ 40) ∧ Q (some (.int v5)) (oh_upa h7 52 (va_cpy (h7.1 58) (h7.1 52) v2.toNatClampNeg v4.toNatClampNeg v5.toNatClampNeg)))) ∧ (x8 = 0 → CM d jX7_failed [.ref 0, .int (-1000000001 : Int32)] h7 (oh_r1 (fun x10 h9 => Q (some (.int x10)) h9))))))))))) ∧ (¬ (h.1 57 0) = (h.1 51 0) → CM d jX7_failed [.ref 0, .int (-1000000005 : Int32)] h (oh_r1 (fun x12 h11 => Q (some (.int x12)) h11))))) ∧ ((h.1 51 0) = 0 → CM d jX7_failed [.ref 0, .int (-1000000002 : Int32)] h (oh_r1 (fun x14 h13 => Q (some (.int x14)) h13))))))))) : wX7_move_21 d Q (3 : Int32) v2 (0 : Int32) v4 v5 h := oh_run_wp (oh_mwp_m d) 209 q
set_option maxRecDepth 20000 in
theorem bX7_move_21_31 {d : Nat} {Q : oh_Q} {h : oh_St} {v2 v4 v5 : Int32} (q : (vp_in (3 : Int32) 4 ∧ (vp_in (1 : Int32) 4 ∧ (((h.1 57 0) = 0 → CM d jX7_failed [.ref 0, .int (-1000000002 : Int32)] h (oh_r1 (fun x2 h1 => Q (some (.int x2)) h1))) ∧ (¬ (h.1 57 0) = 0 → ((¬ (h.1 53 0) = 0 → (((h.1 57 0) = (h.1 53 0) → CM d jX5_hasRun [.ref 57, .int v2, .int v5] h (oh_r1 (fun x4 h3 => ((x4 = 0 → CM d jX7_failed [.ref 0, .int (-1000000001 : Int32)] h3 (oh_r1 (fun x6 h5 => Q (some (.int x6)) h5))) ∧ (¬ x4 = 0 → CM d jX5_hasRun [.ref 53, .int v4, .int v5] h3 (oh_r1 (fun x8 h7 => ((¬ x8 = 0 → ((¬ v2 < 0 ∧ ¬ v4 < 0 ∧ ¬ v5 < 0 ∧ v2.toNatClampNeg + v5.toNatClampNeg ≤ 40 ∧ v4.toNatClampNeg + v5.toNatClampNeg ≤ 40) ∧ Q (some (.int v5)) (oh_upa h7 54 (va_cpy (h7.1 58) (h7.1 54) v2.toNatClampNeg v4.toNatClampNeg v5.toNatClampNeg)))) ∧ (x8 = 0 → CM d jX7_failed [.ref 0, .int (-1000000001 : Int32)] h7 (oh_r1 (fun x10 h9 => Q (some (.int x10)) h9))))))))))) ∧ (¬ (h.1 57 0) = (h.1 53 0) → CM d jX7_failed [.ref 0, .int (-1000000005 : Int32)] h (oh_r1 (fun x12 h11 => Q (some (.int x12)) h11))))) ∧ ((h.1 53 0) = 0 → CM d jX7_failed [.ref 0, .int (-1000000002 : Int32)] h (oh_r1 (fun x14 h13 => Q (some (.int x14)) h13))))))))) : wX7_move_21 d Q (3 : Int32) v2 (1 : Int32) v4 v5 h := oh_run_wp (oh_mwp_m d) 209 q
set_option maxRecDepth 20000 in
theorem bX7_move_21_32 {d : Nat} {Q : oh_Q} {h : oh_St} {v2 v4 v5 : Int32} (q : (vp_in (3 : Int32) 4 ∧ (vp_in (2 : Int32) 4 ∧ (((h.1 57 0) = 0 → CM d jX7_failed [.ref 0, .int (-1000000002 : Int32)] h (oh_r1 (fun x2 h1 => Q (some (.int x2)) h1))) ∧ (¬ (h.1 57 0) = 0 → ((¬ (h.1 55 0) = 0 → (((h.1 57 0) = (h.1 55 0) → CM d jX5_hasRun [.ref 57, .int v2, .int v5] h (oh_r1 (fun x4 h3 => ((x4 = 0 → CM d jX7_failed [.ref 0, .int (-1000000001 : Int32)] h3 (oh_r1 (fun x6 h5 => Q (some (.int x6)) h5))) ∧ (¬ x4 = 0 → CM d jX5_hasRun [.ref 55, .int v4, .int v5] h3 (oh_r1 (fun x8 h7 => ((¬ x8 = 0 → ((¬ v2 < 0 ∧ ¬ v4 < 0 ∧ ¬ v5 < 0 ∧ v2.toNatClampNeg + v5.toNatClampNeg ≤ 40 ∧ v4.toNatClampNeg + v5.toNatClampNeg ≤ 40) ∧ Q (some (.int v5)) (oh_upa h7 56 (va_cpy (h7.1 58) (h7.1 56) v2.toNatClampNeg v4.toNatClampNeg v5.toNatClampNeg)))) ∧ (x8 = 0 → CM d jX7_failed [.ref 0, .int (-1000000001 : Int32)] h7 (oh_r1 (fun x10 h9 => Q (some (.int x10)) h9))))))))))) ∧ (¬ (h.1 57 0) = (h.1 55 0) → CM d jX7_failed [.ref 0, .int (-1000000005 : Int32)] h (oh_r1 (fun x12 h11 => Q (some (.int x12)) h11))))) ∧ ((h.1 55 0) = 0 → CM d jX7_failed [.ref 0, .int (-1000000002 : Int32)] h (oh_r1 (fun x14 h13 => Q (some (.int x14)) h13))))))))) : wX7_move_21 d Q (3 : Int32) v2 (2 : Int32) v4 v5 h := oh_run_wp (oh_mwp_m d) 209 q
set_option maxRecDepth 20000 in
theorem bX7_move_21_33 {d : Nat} {Q : oh_Q} {h : oh_St} {v2 v4 v5 : Int32} (q : (vp_in (3 : Int32) 4 ∧ (vp_in (3 : Int32) 4 ∧ (((h.1 57 0) = 0 → CM d jX7_failed [.ref 0, .int (-1000000002 : Int32)] h (oh_r1 (fun x2 h1 => Q (some (.int x2)) h1))) ∧ (¬ (h.1 57 0) = 0 → ((¬ (h.1 57 0) = 0 → (((h.1 57 0) = (h.1 57 0) → CM d jX5_hasRun [.ref 57, .int v2, .int v5] h (oh_r1 (fun x4 h3 => ((x4 = 0 → CM d jX7_failed [.ref 0, .int (-1000000001 : Int32)] h3 (oh_r1 (fun x6 h5 => Q (some (.int x6)) h5))) ∧ (¬ x4 = 0 → CM d jX5_hasRun [.ref 57, .int v4, .int v5] h3 (oh_r1 (fun x8 h7 => ((¬ x8 = 0 → ((¬ v2 < 0 ∧ ¬ v4 < 0 ∧ ¬ v5 < 0 ∧ v2.toNatClampNeg + v5.toNatClampNeg ≤ 40 ∧ v4.toNatClampNeg + v5.toNatClampNeg ≤ 40) ∧ Q (some (.int v5)) (oh_upa h7 58 (va_cpy (h7.1 58) (h7.1 58) v2.toNatClampNeg v4.toNatClampNeg v5.toNatClampNeg)))) ∧ (x8 = 0 → CM d jX7_failed [.ref 0, .int (-1000000001 : Int32)] h7 (oh_r1 (fun x10 h9 => Q (some (.int x10)) h9))))))))))) ∧ (¬ (h.1 57 0) = (h.1 57 0) → CM d jX7_failed [.ref 0, .int (-1000000005 : Int32)] h (oh_r1 (fun x12 h11 => Q (some (.int x12)) h11))))) ∧ ((h.1 57 0) = 0 → CM d jX7_failed [.ref 0, .int (-1000000002 : Int32)] h (oh_r1 (fun x14 h13 => Q (some (.int x14)) h13))))))))) : wX7_move_21 d Q (3 : Int32) v2 (3 : Int32) v4 v5 h := oh_run_wp (oh_mwp_m d) 209 q
abbrev wX7_worlds_14 (d : Nat) (Q : oh_Q) (v1 : Int32) (h : oh_St) : Prop := oh_wp GC tX7_worlds (CM d) Q 14 cX7_worlds_14 [some (.ref 0), some (.int v1), none, none] [] h
set_option maxRecDepth 20000 in
theorem mX7_worlds {d : Nat} {Q : oh_Q} {h : oh_St} {v1 : Int32} (q : CM d jX7_isSheet [.int v1] h (oh_r1 (fun x2 h1 => ((¬ x2 = 0 → wX7_worlds_14 d Q v1 h1) ∧ (x2 = 0 → CM d jX7_failed [.ref 0, .int (-1000000001 : Int32)] h1 (oh_r1 (fun x4 h3 => Q (some (.int x4)) h3))))))) : CM (d + 1) jX7_worlds [.ref 0, .int v1] h Q := oh_mwp_1 (nL := 3) (T := tX7_worlds) rfl rfl (oh_run_wp (oh_mwp_m d) 176 q)
set_option maxRecDepth 20000 in
theorem bX7_worlds_14_0 {d : Nat} {Q : oh_Q} {h : oh_St} (q : (vp_in (0 : Int32) 4 ∧ ((¬ (h.1 51 0) = 0 → (vp_in (0 : Int32) 4 ∧ CM d jX5_asWorlds [.ref 51] h (oh_r2 (fun x2 h1 => (((h1.1 2 7) = 0 → CM d jX7_failed [.ref 0, .int (-1000000003 : Int32)] h1 (oh_r1 (fun x4 h3 => Q (some (.int x4)) h3))) ∧ (¬ (h1.1 2 7) = 0 → CM d jX7_holds [.long ((h.2 2 8) &&& x2), .int (h1.1 2 5)] h1 (oh_r1 (fun x6 h5 => ((¬ x6 = 0 → CM d jJ13_bitCount_95d88 [.long ((h.2 2 8) &&& x2)] (oh_upl h5 2 8 ((h.2 2 8) &&& x2)) (oh_r1 (fun x8 h7 => Q (some (.int x8)) h7))) ∧ (x6 = 0 → CM d jX7_failed [.ref 0, .int (-1000000003 : Int32)] h5 (oh_r1 (fun x10 h9 => Q (some (.int x10)) h9)))))))))))) ∧ ((h.1 51 0) = 0 → CM d jX7_failed [.ref 0, .int (-1000000002 : Int32)] h (oh_r1 (fun x12 h11 => Q (some (.int x12)) h11)))))) : wX7_worlds_14 d Q (0 : Int32) h := oh_run_wp (oh_mwp_m d) 176 q
set_option maxRecDepth 20000 in
theorem bX7_worlds_14_1 {d : Nat} {Q : oh_Q} {h : oh_St} (q : (vp_in (1 : Int32) 4 ∧ ((¬ (h.1 53 0) = 0 → (vp_in (1 : Int32) 4 ∧ CM d jX5_asWorlds [.ref 53] h (oh_r2 (fun x2 h1 => (((h1.1 2 7) = 0 → CM d jX7_failed [.ref 0, .int (-1000000003 : Int32)] h1 (oh_r1 (fun x4 h3 => Q (some (.int x4)) h3))) ∧ (¬ (h1.1 2 7) = 0 → CM d jX7_holds [.long ((h.2 2 8) &&& x2), .int (h1.1 2 5)] h1 (oh_r1 (fun x6 h5 => ((¬ x6 = 0 → CM d jJ13_bitCount_95d88 [.long ((h.2 2 8) &&& x2)] (oh_upl h5 2 8 ((h.2 2 8) &&& x2)) (oh_r1 (fun x8 h7 => Q (some (.int x8)) h7))) ∧ (x6 = 0 → CM d jX7_failed [.ref 0, .int (-1000000003 : Int32)] h5 (oh_r1 (fun x10 h9 => Q (some (.int x10)) h9)))))))))))) ∧ ((h.1 53 0) = 0 → CM d jX7_failed [.ref 0, .int (-1000000002 : Int32)] h (oh_r1 (fun x12 h11 => Q (some (.int x12)) h11)))))) : wX7_worlds_14 d Q (1 : Int32) h := oh_run_wp (oh_mwp_m d) 176 q
set_option maxRecDepth 20000 in
theorem bX7_worlds_14_2 {d : Nat} {Q : oh_Q} {h : oh_St} (q : (vp_in (2 : Int32) 4 ∧ ((¬ (h.1 55 0) = 0 → (vp_in (2 : Int32) 4 ∧ CM d jX5_asWorlds [.ref 55] h (oh_r2 (fun x2 h1 => (((h1.1 2 7) = 0 → CM d jX7_failed [.ref 0, .int (-1000000003 : Int32)] h1 (oh_r1 (fun x4 h3 => Q (some (.int x4)) h3))) ∧ (¬ (h1.1 2 7) = 0 → CM d jX7_holds [.long ((h.2 2 8) &&& x2), .int (h1.1 2 5)] h1 (oh_r1 (fun x6 h5 => ((¬ x6 = 0 → CM d jJ13_bitCount_95d88 [.long ((h.2 2 8) &&& x2)] (oh_upl h5 2 8 ((h.2 2 8) &&& x2)) (oh_r1 (fun x8 h7 => Q (some (.int x8)) h7))) ∧ (x6 = 0 → CM d jX7_failed [.ref 0, .int (-1000000003 : Int32)] h5 (oh_r1 (fun x10 h9 => Q (some (.int x10)) h9)))))))))))) ∧ ((h.1 55 0) = 0 → CM d jX7_failed [.ref 0, .int (-1000000002 : Int32)] h (oh_r1 (fun x12 h11 => Q (some (.int x12)) h11)))))) : wX7_worlds_14 d Q (2 : Int32) h := oh_run_wp (oh_mwp_m d) 176 q
set_option maxRecDepth 20000 in
theorem bX7_worlds_14_3 {d : Nat} {Q : oh_Q} {h : oh_St} (q : (vp_in (3 : Int32) 4 ∧ ((¬ (h.1 57 0) = 0 → (vp_in (3 : Int32) 4 ∧ CM d jX5_asWorlds [.ref 57] h (oh_r2 (fun x2 h1 => (((h1.1 2 7) = 0 → CM d jX7_failed [.ref 0, .int (-1000000003 : Int32)] h1 (oh_r1 (fun x4 h3 => Q (some (.int x4)) h3))) ∧ (¬ (h1.1 2 7) = 0 → CM d jX7_holds [.long ((h.2 2 8) &&& x2), .int (h1.1 2 5)] h1 (oh_r1 (fun x6 h5 => ((¬ x6 = 0 → CM d jJ13_bitCount_95d88 [.long ((h.2 2 8) &&& x2)] (oh_upl h5 2 8 ((h.2 2 8) &&& x2)) (oh_r1 (fun x8 h7 => Q (some (.int x8)) h7))) ∧ (x6 = 0 → CM d jX7_failed [.ref 0, .int (-1000000003 : Int32)] h5 (oh_r1 (fun x10 h9 => Q (some (.int x10)) h9)))))))))))) ∧ ((h.1 57 0) = 0 → CM d jX7_failed [.ref 0, .int (-1000000002 : Int32)] h (oh_r1 (fun x12 h11 => Q (some (.int x12)) h11)))))) : wX7_worlds_14 d Q (3 : Int32) h := oh_run_wp (oh_mwp_m d) 176 q
set_option maxRecDepth 20000 in
theorem mX7_image {d : Nat} {Q : oh_Q} {h : oh_St} (q : CM d jX0_take [.ref 19, .ref 1] h (oh_r0 (fun h1 => Q (some (.int ((oh_upi h1 0 7 ((h1.1 0 7) + (1 : Int32))).1 0 7))) (oh_upi h1 0 7 ((h1.1 0 7) + (1 : Int32)))))) : CM (d + 1) jX7_image [.ref 0] h Q := oh_mwp_1 (nL := 0) (T := tX7_image) rfl rfl (oh_run_wp (oh_mwp_m d) 62 q)
set_option maxRecDepth 20000 in
theorem mX7_restore {d : Nat} {Q : oh_Q} {h : oh_St} (q : ((¬ (h.1 0 7) = 0 → CM d jX0_take [.ref 1, .ref 19] h (oh_r0 (fun h1 => Q (some (.int (h1.1 2 10))) h1))) ∧ ((h.1 0 7) = 0 → CM d jX7_failed [.ref 0, .int (-1000000002 : Int32)] h (oh_r1 (fun x3 h2 => Q (some (.int x3)) h2))))) : CM (d + 1) jX7_restore [.ref 0] h Q := oh_mwp_1 (nL := 0) (T := tX7_restore) rfl rfl (oh_run_wp (oh_mwp_m d) 71 q)
set_option maxRecDepth 20000 in
theorem mX7_tell {d : Nat} {Q : oh_Q} {h : oh_St} {v1 : Int32} (q : (((h.1 17 1) < (20 : Int32) → CM d jX3_add [.ref 17, .int v1] h (oh_r0 (fun h1 => Q (some (.int (h1.1 17 1))) h1))) ∧ (¬ (h.1 17 1) < (20 : Int32) → CM d jX7_failed [.ref 0, .int (-1000000004 : Int32)] h (oh_r1 (fun x3 h2 => Q (some (.int x3)) h2))))) : CM (d + 1) jX7_tell [.ref 0, .int v1] h Q := oh_mwp_1 (nL := 1) (T := tX7_tell) rfl rfl (oh_run_wp (oh_mwp_m d) 80 q)
abbrev wX7_check_38 (d : Nat) (Q : oh_Q) (v1 : Int32) (v2 : Int32) (h : oh_St) : Prop := oh_wp GC tX7_check (CM d) Q 38 cX7_check_38 [some (.ref 0), some (.int v1), some (.int v2)] [] h
set_option maxRecDepth 20000 in
theorem mX7_check {d : Nat} {Q : oh_Q} {h : oh_St} (q : ((¬ (h.1 2 7) = 0 → CM d jX7_startAhead [.ref 0] h (oh_r0 (fun h1 => wX7_check_38 d Q (0 : Int32) (0 : Int32) h1))) ∧ ((h.1 2 7) = 0 → CM d jX3_clear [.ref 17] h (oh_r0 (fun h2 => CM d jX7_failed [.ref 0, .int (-1000000003 : Int32)] h2 (oh_r1 (fun x4 h3 => Q (some (.int x4)) h3))))))) : CM (d + 1) jX7_check [.ref 0] h Q := oh_mwp_1 (nL := 2) (T := tX7_check) rfl rfl (oh_run_wp (oh_mwp_m d) 185 q)
set_option maxRecDepth 20000 in
theorem bX7_check_38 {d : Nat} {Q : oh_Q} {h : oh_St} {v1 v2 : Int32} (q : (((h.1 17 1) ≤ v2 → CM d jX3_clear [.ref 17] h (oh_r0 (fun h1 => Q (some (.int v1)) h1))) ∧ (¬ (h.1 17 1) ≤ v2 → ((¬ v1 = 0 → CM d jX3_clear [.ref 17] h (oh_r0 (fun h2 => Q (some (.int v1)) h2))) ∧ (v1 = 0 → CM d jX4_ring [.ref 37, .ref 11] h (oh_r1 (fun x4 h3 => CM d jX3_get [.ref 17, .int v2] h3 (oh_r1 (fun x6 h5 => ((x6 = (h5.1 37 9) → wX7_check_38 d Q v1 (v2 + (1 : Int32)) h5) ∧ (¬ x6 = (h5.1 37 9) → wX7_check_38 d Q (v2 + (1 : Int32)) (v2 + (1 : Int32)) h5))))))))))) : wX7_check_38 d Q v1 v2 h := oh_run_wp (oh_mwp_m d) 185 q
set_option maxRecDepth 20000 in
theorem mX7_count {d : Nat} {Q : oh_Q} {h : oh_St} {v1 : Int32} (q : ((v1 = (0 : Int32) → Q (some (.int (h.1 2 0))) h) ∧ (¬ v1 = (0 : Int32) → ((v1 = (1 : Int32) → (((h.1 2 7) = 0 → Q (some (.int (0 : Int32))) h) ∧ (¬ (h.1 2 7) = 0 → Q (some (.int (1 : Int32))) h))) ∧ (¬ v1 = (1 : Int32) → ((v1 = (2 : Int32) → Q (some (.int (h.1 2 10))) h) ∧ (¬ v1 = (2 : Int32) → ((v1 = (3 : Int32) → Q (some (.int (h.1 2 9))) h) ∧ (¬ v1 = (3 : Int32) → ((v1 = (4 : Int32) → CM d jJ13_bitCount_95d88 [.long (h.2 2 8)] h (oh_r1 (fun x4 h3 => Q (some (.int x4)) h3))) ∧ (¬ v1 = (4 : Int32) → ((v1 = (5 : Int32) → Q (some (.int (h.1 2 6))) h) ∧ (¬ v1 = (5 : Int32) → ((v1 = (6 : Int32) → Q (some (.int (h.1 15 1))) h) ∧ (¬ v1 = (6 : Int32) → ((v1 = (7 : Int32) → Q (some (.int (h.1 17 1))) h) ∧ (¬ v1 = (7 : Int32) → ((v1 = (8 : Int32) → Q (some (.int (h.1 48 1))) h) ∧ (¬ v1 = (8 : Int32) → ((v1 = (9 : Int32) → Q (some (.int (h.1 1 5))) h) ∧ (¬ v1 = (9 : Int32) → CM d jX7_failed [.ref 0, .int (-1000000001 : Int32)] h (oh_r1 (fun x2 h1 => Q (some (.int x2)) h1))))))))))))))))))))))) : CM (d + 1) jX7_count [.ref 0, .int v1] h Q := oh_mwp_1 (nL := 1) (T := tX7_count) rfl rfl (oh_run_wp (oh_mwp_m d) 200 q)
set_option maxRecDepth 20000 in
theorem mX7_told {d : Nat} {Q : oh_Q} {h : oh_St} {v1 : Int32} (q : ((v1 < (1 : Int32) → CM d jX7_failed [.ref 0, .int (-1000000001 : Int32)] h (oh_r1 (fun x2 h1 => Q (some (.int x2)) h1))) ∧ (¬ v1 < (1 : Int32) → ((v1 ≤ (5 : Int32) → (vp_in v1 6 ∧ Q (some (.int (h.1 59 v1.toNatClampNeg))) h)) ∧ (¬ v1 ≤ (5 : Int32) → CM d jX7_failed [.ref 0, .int (-1000000001 : Int32)] h (oh_r1 (fun x4 h3 => Q (some (.int x4)) h3))))))) : CM (d + 1) jX7_told [.ref 0, .int v1] h Q := oh_mwp_1 (nL := 1) (T := tX7_told) rfl rfl (oh_run_wp (oh_mwp_m d) 65 q)
set_option maxRecDepth 20000 in
theorem mX7_failed {d : Nat} {Q : oh_Q} {h : oh_St} {v1 : Int32} (q : ((((-1000000000 : Int32) - v1) < (1 : Int32) → Q (some (.int v1)) h) ∧ (¬ ((-1000000000 : Int32) - v1) < (1 : Int32) → (((5 : Int32) < ((-1000000000 : Int32) - v1) → Q (some (.int v1)) h) ∧ (¬ (5 : Int32) < ((-1000000000 : Int32) - v1) → (vp_in ((-1000000000 : Int32) - v1) 6 ∧ (vp_in ((-1000000000 : Int32) - v1) 6 ∧ Q (some (.int v1)) (oh_upi h 59 ((-1000000000 : Int32) - v1).toNatClampNeg ((h.1 59 ((-1000000000 : Int32) - v1).toNatClampNeg) + (1 : Int32)))))))))) : CM (d + 1) jX7_failed [.ref 0, .int v1] h Q := oh_mwp_1 (nL := 2) (T := tX7_failed) rfl rfl (oh_run_wp (oh_mwp_m d) 80 q)
set_option maxRecDepth 20000 in
theorem mX7_isMan {d : Nat} {Q : oh_Q} {h : oh_St} {v1 : Int32} (q : ((v1 < 0 → (((0 : Int32) = 0 ∨ (0 : Int32) = 1) ∧ Q (some (.int (0 : Int32))) h)) ∧ (¬ v1 < 0 → (((h.1 2 0) ≤ v1 → (((0 : Int32) = 0 ∨ (0 : Int32) = 1) ∧ Q (some (.int (0 : Int32))) h)) ∧ (¬ (h.1 2 0) ≤ v1 → (((1 : Int32) = 0 ∨ (1 : Int32) = 1) ∧ Q (some (.int (1 : Int32))) h)))))) : CM (d + 1) jX7_isMan [.ref 0, .int v1] h Q := oh_mwp_1 (nL := 1) (T := tX7_isMan) rfl rfl (oh_run_wp (oh_mwp_m d) 56 q)
set_option maxRecDepth 20000 in
theorem mX7_isWorld {d : Nat} {Q : oh_Q} {h : oh_St} {v1 : Int32} (q : ((v1 < 0 → (((0 : Int32) = 0 ∨ (0 : Int32) = 1) ∧ Q (some (.int (0 : Int32))) h)) ∧ (¬ v1 < 0 → CM d jX4_worldCount [.ref 2] h (oh_r1 (fun x2 h1 => ((x2 ≤ v1 → (((0 : Int32) = 0 ∨ (0 : Int32) = 1) ∧ Q (some (.int (0 : Int32))) h1)) ∧ (¬ x2 ≤ v1 → (((1 : Int32) = 0 ∨ (1 : Int32) = 1) ∧ Q (some (.int (1 : Int32))) h1)))))))) : CM (d + 1) jX7_isWorld [.ref 0, .int v1] h Q := oh_mwp_1 (nL := 1) (T := tX7_isWorld) rfl rfl (oh_run_wp (oh_mwp_m d) 56 q)
set_option maxRecDepth 20000 in
theorem mX7_isKindWithNumber {d : Nat} {Q : oh_Q} {h : oh_St} {v0 : Int32} (q : ((v0 < 0 → (((0 : Int32) = 0 ∨ (0 : Int32) = 1) ∧ Q (some (.int (0 : Int32))) h)) ∧ (¬ v0 < 0 → (((69 : Int32) < v0 → (((0 : Int32) = 0 ∨ (0 : Int32) = 1) ∧ Q (some (.int (0 : Int32))) h)) ∧ (¬ (69 : Int32) < v0 → (((1 : Int32) = 0 ∨ (1 : Int32) = 1) ∧ Q (some (.int (1 : Int32))) h)))))) : CM (d + 1) jX7_isKindWithNumber [.int v0] h Q := oh_mwp_1 (nL := 0) (T := tX7_isKindWithNumber) rfl rfl (oh_run_wp (oh_mwp_m d) 47 q)
set_option maxRecDepth 20000 in
theorem mX7_isUse {d : Nat} {Q : oh_Q} {h : oh_St} {v0 : Int32} (q : ((v0 = 0 → (((1 : Int32) = 0 ∨ (1 : Int32) = 1) ∧ Q (some (.int (1 : Int32))) h)) ∧ (¬ v0 = 0 → ((¬ v0 = (1 : Int32) → (((0 : Int32) = 0 ∨ (0 : Int32) = 1) ∧ Q (some (.int (0 : Int32))) h)) ∧ (v0 = (1 : Int32) → (((1 : Int32) = 0 ∨ (1 : Int32) = 1) ∧ Q (some (.int (1 : Int32))) h)))))) : CM (d + 1) jX7_isUse [.int v0] h Q := oh_mwp_1 (nL := 0) (T := tX7_isUse) rfl rfl (oh_run_wp (oh_mwp_m d) 47 q)
set_option maxRecDepth 20000 in
theorem mX7_isAhead {d : Nat} {Q : oh_Q} {h : oh_St} {v0 : Int32} (q : ((v0 < 0 → (((0 : Int32) = 0 ∨ (0 : Int32) = 1) ∧ Q (some (.int (0 : Int32))) h)) ∧ (¬ v0 < 0 → (((30 : Int32) < v0 → (((0 : Int32) = 0 ∨ (0 : Int32) = 1) ∧ Q (some (.int (0 : Int32))) h)) ∧ (¬ (30 : Int32) < v0 → (((1 : Int32) = 0 ∨ (1 : Int32) = 1) ∧ Q (some (.int (1 : Int32))) h)))))) : CM (d + 1) jX7_isAhead [.int v0] h Q := oh_mwp_1 (nL := 0) (T := tX7_isAhead) rfl rfl (oh_run_wp (oh_mwp_m d) 47 q)
set_option maxRecDepth 20000 in
theorem mX7_isSheet {d : Nat} {Q : oh_Q} {h : oh_St} {v0 : Int32} (q : ((v0 < 0 → (((0 : Int32) = 0 ∨ (0 : Int32) = 1) ∧ Q (some (.int (0 : Int32))) h)) ∧ (¬ v0 < 0 → (((4 : Int32) ≤ v0 → (((0 : Int32) = 0 ∨ (0 : Int32) = 1) ∧ Q (some (.int (0 : Int32))) h)) ∧ (¬ (4 : Int32) ≤ v0 → (((1 : Int32) = 0 ∨ (1 : Int32) = 1) ∧ Q (some (.int (1 : Int32))) h)))))) : CM (d + 1) jX7_isSheet [.int v0] h Q := oh_mwp_1 (nL := 0) (T := tX7_isSheet) rfl rfl (oh_run_wp (oh_mwp_m d) 47 q)
abbrev wX7_isOfKind_4 (d : Nat) (Q : oh_Q) (v1 : Int32) (v2 : Int32) (v3 : Int32) (h : oh_St) : Prop := oh_wp GC tX7_isOfKind (CM d) Q 4 cX7_isOfKind_4 [none, some (.int v1), some (.int v2), some (.int v3)] [] h
set_option maxRecDepth 20000 in
theorem mX7_isOfKind {d : Nat} {Q : oh_Q} {h : oh_St} {v0 v1 : Int32} (q : wX7_isOfKind_4 d Q v1 v0 (0 : Int32) h) : CM (d + 1) jX7_isOfKind [.int v0, .int v1] h Q := oh_mwp_1 (nL := 3) (T := tX7_isOfKind) rfl rfl (oh_run_wp (oh_mwp_m d) 95 q)
set_option maxRecDepth 20000 in
theorem bX7_isOfKind_4 {d : Nat} {Q : oh_Q} {h : oh_St} {v1 v2 v3 : Int32} (q : (((7 : Int32) ≤ v3 → (((0 : Int32) = 0 ∨ (0 : Int32) = 1) ∧ Q (some (.int (0 : Int32))) h)) ∧ (¬ (7 : Int32) ≤ v3 → ((v2 < 0 → (((0 : Int32) = 0 ∨ (0 : Int32) = 1) ∧ Q (some (.int (0 : Int32))) h)) ∧ (¬ v2 < 0 → (((7 : Int32) ≤ v2 → (((0 : Int32) = 0 ∨ (0 : Int32) = 1) ∧ Q (some (.int (0 : Int32))) h)) ∧ (¬ (7 : Int32) ≤ v2 → ((¬ v2 = v1 → (vp_in v2 7 ∧ wX7_isOfKind_4 d Q v1 (oh_l1000.getD v2.toNatClampNeg 0) (v3 + (1 : Int32)) h)) ∧ (v2 = v1 → (((1 : Int32) = 0 ∨ (1 : Int32) = 1) ∧ Q (some (.int (1 : Int32))) h)))))))))) : wX7_isOfKind_4 d Q v1 v2 v3 h := oh_run_wp (oh_mwp_m d) 95 q
set_option maxRecDepth 20000 in
theorem mX7_lawOf {d : Nat} {Q : oh_Q} {h : oh_St} {v1 : Int32} (q : ((¬ v1 = (1 : Int32) → Q (some (.ref 7)) h) ∧ (v1 = (1 : Int32) → Q (some (.ref 11)) h))) : CM (d + 1) jX7_lawOf [.ref 0, .int v1] h Q := oh_mwp_1 (nL := 1) (T := tX7_lawOf) rfl rfl (oh_run_wp (oh_mwp_m d) 53 q)
set_option maxRecDepth 20000 in
theorem mX7_whyNoBells {d : Nat} {Q : oh_Q} {h : oh_St} {v1 : Int32} (q : ((v1 < (1 : Int32) → Q (some (.int (-1000000001 : Int32))) h) ∧ (¬ v1 < (1 : Int32) → ((v1 ≤ (30 : Int32) → (((h.1 2 7) = 0 → Q (some (.int (-1000000003 : Int32))) h) ∧ (¬ (h.1 2 7) = 0 → ((((h.1 2 10) + v1) ≤ (99 : Int32) → Q (some (.int (0 : Int32))) h) ∧ (¬ ((h.1 2 10) + v1) ≤ (99 : Int32) → Q (some (.int (-1000000003 : Int32))) h))))) ∧ (¬ v1 ≤ (30 : Int32) → Q (some (.int (-1000000001 : Int32))) h))))) : CM (d + 1) jX7_whyNoBells [.ref 0, .int v1] h Q := oh_mwp_1 (nL := 1) (T := tX7_whyNoBells) rfl rfl (oh_run_wp (oh_mwp_m d) 95 q)
set_option maxRecDepth 20000 in
theorem mX7_startAhead {d : Nat} {Q : oh_Q} {h : oh_St} (q : CM d jX4_take [.ref 37, .ref 2] h (oh_r0 (fun h1 => Q none h1))) : CM (d + 1) jX7_startAhead [.ref 0] h Q := oh_mwp_1 (nL := 0) (T := tX7_startAhead) rfl rfl (oh_run_wp (oh_mwp_m d) 41 q)
abbrev wX7_ringAhead_4 (d : Nat) (Q : oh_Q) (v1 : Int32) (v2 : Int32) (v3 : Int32) (h : oh_St) : Prop := oh_wp GC tX7_ringAhead (CM d) Q 4 cX7_ringAhead_4 [some (.ref 0), some (.int v1), some (.int v2), some (.int v3), none, none] [] h
set_option maxRecDepth 20000 in
theorem mX7_ringAhead {d : Nat} {Q : oh_Q} {h : oh_St} {v1 : Int32} (q : wX7_ringAhead_4 d Q v1 (0 : Int32) (1 : Int32) h) : CM (d + 1) jX7_ringAhead [.ref 0, .int v1] h Q := oh_mwp_1 (nL := 5) (T := tX7_ringAhead) rfl rfl (oh_run_wp (oh_mwp_m d) 128 q)
set_option maxRecDepth 20000 in
theorem bX7_ringAhead_4 {d : Nat} {Q : oh_Q} {h : oh_St} {v1 v2 v3 : Int32} (q : ((v1 < v3 → Q (some (.int v2)) h) ∧ (¬ v1 < v3 → CM d jX4_ring [.ref 37, .ref 11] h (oh_r1 (fun x2 h1 => (((h1.1 37 9) = (h.1 37 9) → ((¬ x2 = 0 → wX7_ringAhead_4 d Q v1 v2 (v3 + (1 : Int32)) h1) ∧ (x2 = 0 → CM d jX4_isPastAllNumbers [.ref 37] h1 (oh_r1 (fun x4 h3 => ((x4 = 0 → wX7_ringAhead_4 d Q v1 v2 (v3 + (1 : Int32)) h3) ∧ (¬ x4 = 0 → Q (some (.int v2)) h3))))))) ∧ (¬ (h1.1 37 9) = (h.1 37 9) → ((¬ x2 = 0 → wX7_ringAhead_4 d Q v1 v3 (v3 + (1 : Int32)) h1) ∧ (x2 = 0 → CM d jX4_isPastAllNumbers [.ref 37] h1 (oh_r1 (fun x6 h5 => ((x6 = 0 → wX7_ringAhead_4 d Q v1 v3 (v3 + (1 : Int32)) h5) ∧ (¬ x6 = 0 → Q (some (.int v3)) h5))))))))))))) : wX7_ringAhead_4 d Q v1 v2 v3 h := oh_run_wp (oh_mwp_m d) 128 q
abbrev wX7_bellsTillSpoken_2 (d : Nat) (Q : oh_Q) (v1 : Int32) (v2 : Int32) (h : oh_St) : Prop := oh_wp GC tX7_bellsTillSpoken (CM d) Q 2 cX7_bellsTillSpoken_2 [some (.ref 0), some (.int v1), some (.int v2)] [] h
set_option maxRecDepth 20000 in
theorem mX7_bellsTillSpoken {d : Nat} {Q : oh_Q} {h : oh_St} {v1 : Int32} (q : wX7_bellsTillSpoken_2 d Q v1 (0 : Int32) h) : CM (d + 1) jX7_bellsTillSpoken [.ref 0, .int v1] h Q := oh_mwp_1 (nL := 2) (T := tX7_bellsTillSpoken) rfl rfl (oh_run_wp (oh_mwp_m d) 110 q)
set_option maxRecDepth 20000 in
theorem bX7_bellsTillSpoken_2 {d : Nat} {Q : oh_Q} {h : oh_St} {v1 v2 : Int32} (q : (((30 : Int32) < v2 → Q (some (.int (31 : Int32))) h) ∧ (¬ (30 : Int32) < v2 → CM d jX7_bit [.int (h.1 37 9), .int v1] h (oh_r1 (fun x2 h1 => ((¬ x2 = (1 : Int32) → CM d jX4_ring [.ref 37, .ref 11] h1 (oh_r1 (fun x4 h3 => ((¬ x4 = 0 → wX7_bellsTillSpoken_2 d Q v1 (v2 + (1 : Int32)) h3) ∧ (x4 = 0 → CM d jX4_isPastAllNumbers [.ref 37] h3 (oh_r1 (fun x6 h5 => ((x6 = 0 → wX7_bellsTillSpoken_2 d Q v1 (v2 + (1 : Int32)) h5) ∧ (¬ x6 = 0 → Q (some (.int (31 : Int32))) h5))))))))) ∧ (x2 = (1 : Int32) → Q (some (.int v2)) h1))))))) : wX7_bellsTillSpoken_2 d Q v1 v2 h := oh_run_wp (oh_mwp_m d) 110 q
set_option maxRecDepth 20000 in
theorem mX7_ranAlike {d : Nat} {Q : oh_Q} {h : oh_St} (q : Q (some (.long (h.2 37 8))) h) : CM (d + 1) jX7_ranAlike [.ref 0] h Q := oh_mwp_1 (nL := 0) (T := tX7_ranAlike) rfl rfl (oh_run_wp (oh_mwp_m d) 32 q)
abbrev wX7_knowBySignal_26 (d : Nat) (Q : oh_Q) (v1 : Int32) (v3 : Int32) (v4 : Int64) (v6 : Int32) (h : oh_St) : Prop := oh_wp GC tX7_knowBySignal (CM d) Q 26 cX7_knowBySignal_26 [none, some (.int v1), some (.ref 2), some (.int v3), some (.long v4), none, some (.int v6), none] [] h
abbrev wX7_knowBySignal_69 (d : Nat) (Q : oh_Q) (v4 : Int64) (v6 : Int32) (v7 : Int32) (h : oh_St) : Prop := oh_wp GC tX7_knowBySignal (CM d) Q 69 cX7_knowBySignal_69 [none, none, some (.ref 2), none, some (.long v4), none, some (.int v6), some (.int v7)] [] h
set_option maxRecDepth 20000 in
theorem mX7_knowBySignal {d : Nat} {Q : oh_Q} {h : oh_St} {v1 : Int32} (q : CM d jJ6_bitCount_0f7a4 [.int ((h.1 2 5) &&& v1)] h (oh_r1 (fun x2 h1 => wX7_knowBySignal_26 d Q v1 (x2 &&& (1 : Int32)) (0 : Int64) (0 : Int32) h1))) : CM (d + 1) jX7_knowBySignal [.ref 0, .int v1] h Q := oh_mwp_1 (nL := 7) (T := tX7_knowBySignal) rfl rfl (oh_run_wp (oh_mwp_m d) 197 q)
set_option maxRecDepth 20000 in
theorem bX7_knowBySignal_26 {d : Nat} {Q : oh_Q} {h : oh_St} {v1 v3 v6 : Int32} {v4 : Int64} (q : CM d jX4_worldCount [.ref 2] h (oh_r1 (fun x2 h1 => ((x2 ≤ v6 → wX7_knowBySignal_69 d Q v4 (0 : Int32) (0 : Int32) h1) ∧ (¬ x2 ≤ v6 → CM d jJ6_bitCount_0f7a4 [.int (v6 &&& v1)] h1 (oh_r1 (fun x4 h3 => ((¬ (x4 &&& (1 : Int32)) = v3 → wX7_knowBySignal_26 d Q v1 v3 v4 (v6 + (1 : Int32)) h3) ∧ ((x4 &&& (1 : Int32)) = v3 → wX7_knowBySignal_26 d Q v1 v3 (v4 ||| ((1 : Int64) <<< (v6.toInt64 &&& 63))) (v6 + (1 : Int32)) h3))))))))) : wX7_knowBySignal_26 d Q v1 v3 v4 v6 h := oh_run_wp (oh_mwp_m d) 197 q
set_option maxRecDepth 20000 in
theorem bX7_knowBySignal_69 {d : Nat} {Q : oh_Q} {h : oh_St} {v6 v7 : Int32} {v4 : Int64} (q : (((h.1 2 0) ≤ v7 → Q (some (.int v6)) h) ∧ (¬ (h.1 2 0) ≤ v7 → CM d jX4_thought [.ref 2, .int v7, .int (h.1 2 5)] h (oh_r2 (fun x2 h1 => CM d jX7_knows [.int v7, .long (x2 &&& v4)] h1 (oh_r1 (fun x4 h3 => ((x4 = 0 → wX7_knowBySignal_69 d Q v4 v6 (v7 + (1 : Int32)) h3) ∧ (¬ x4 = 0 → wX7_knowBySignal_69 d Q v4 (v6 + (1 : Int32)) (v7 + (1 : Int32)) h3))))))))) : wX7_knowBySignal_69 d Q v4 v6 v7 h := oh_run_wp (oh_mwp_m d) 197 q
abbrev wX7_commonDivisor_7 (d : Nat) (Q : oh_Q) (v2 : Int32) (v3 : Int32) (v4 : Int32) (h : oh_St) : Prop := oh_wp GC tX7_commonDivisor (CM d) Q 7 cX7_commonDivisor_7 [none, none, some (.int v2), some (.int v3), some (.int v4), none] [] h
set_option maxRecDepth 20000 in
theorem mX7_commonDivisor {d : Nat} {Q : oh_Q} {h : oh_St} {v0 v1 : Int32} (q : wX7_commonDivisor_7 d Q v0 v1 (0 : Int32) h) : CM (d + 1) jX7_commonDivisor [.int v0, .int v1] h Q := oh_mwp_1 (nL := 5) (T := tX7_commonDivisor) rfl rfl (oh_run_wp (oh_mwp_m d) 89 q)
set_option maxRecDepth 20000 in
theorem bX7_commonDivisor_7 {d : Nat} {Q : oh_Q} {h : oh_St} {v2 v3 v4 : Int32} (q : (((64 : Int32) ≤ v4 → Q (some (.int v2)) h) ∧ (¬ (64 : Int32) ≤ v4 → ((v3 = 0 → Q (some (.int v2)) h) ∧ (¬ v3 = 0 → (¬ v3 = 0 ∧ wX7_commonDivisor_7 d Q v3 (v2 - v2 / v3 * v3) (v4 + (1 : Int32)) h)))))) : wX7_commonDivisor_7 d Q v2 v3 v4 h := oh_run_wp (oh_mwp_m d) 89 q
set_option maxRecDepth 20000 in
theorem mX7_bit {d : Nat} {Q : oh_Q} {h : oh_St} {v0 v1 : Int32} (q : Q (some (.int ((v0 >>> (v1 &&& 31)) &&& (1 : Int32)))) h) : CM (d + 1) jX7_bit [.int v0, .int v1] h Q := oh_mwp_1 (nL := 1) (T := tX7_bit) rfl rfl (oh_run_wp (oh_mwp_m d) 38 q)
set_option maxRecDepth 20000 in
theorem mX7_held {d : Nat} {Q : oh_Q} {h : oh_St} {v0 v1 v2 : Int32} (q : CM d jJ9_min_7cf53 [.int v2, .int v0] h (oh_r1 (fun x2 h1 => CM d jJ9_max_7cf53 [.int v1, .int x2] h1 (oh_r1 (fun x4 h3 => Q (some (.int x4)) h3))))) : CM (d + 1) jX7_held [.int v0, .int v1, .int v2] h Q := oh_mwp_1 (nL := 2) (T := tX7_held) rfl rfl (oh_run_wp (oh_mwp_m d) 38 q)
set_option maxRecDepth 20000 in
theorem mX7_holds {d : Nat} {Q : oh_Q} {h : oh_St} {v2 : Int32} {v0 : Int64} (q : ((¬ (lg_cmp ((v0.toUInt64 >>> (v2.toInt64.toUInt64 &&& Int64.toUInt64 63)).toInt64 &&& (1 : Int64)) (1 : Int64)) = 0 → (((0 : Int32) = 0 ∨ (0 : Int32) = 1) ∧ Q (some (.int (0 : Int32))) h)) ∧ ((lg_cmp ((v0.toUInt64 >>> (v2.toInt64.toUInt64 &&& Int64.toUInt64 63)).toInt64 &&& (1 : Int64)) (1 : Int64)) = 0 → (((1 : Int32) = 0 ∨ (1 : Int32) = 1) ∧ Q (some (.int (1 : Int32))) h)))) : CM (d + 1) jX7_holds [.long v0, .int v2] h Q := oh_mwp_1 (nL := 2) (T := tX7_holds) rfl rfl (oh_run_wp (oh_mwp_m d) 56 q)
set_option maxRecDepth 20000 in
theorem mX7_blacks {d : Nat} {Q : oh_Q} {h : oh_St} {v0 : Int32} {v1 : Int64} (q : ((v0 < 0 → Q (some (.int (0 : Int32))) h) ∧ (¬ v0 < 0 → ((v0 < (6 : Int32) → (vp_in v0 6 ∧ CM d jJ13_bitCount_95d88 [.long (v1 &&& (oh_l1002.getD v0.toNatClampNeg 0))] h (oh_r1 (fun x2 h1 => Q (some (.int x2)) h1)))) ∧ (¬ v0 < (6 : Int32) → Q (some (.int (0 : Int32))) h))))) : CM (d + 1) jX7_blacks [.int v0, .long v1] h Q := oh_mwp_1 (nL := 2) (T := tX7_blacks) rfl rfl (oh_run_wp (oh_mwp_m d) 62 q)
set_option maxRecDepth 20000 in
theorem mX7_whites {d : Nat} {Q : oh_Q} {h : oh_St} {v0 : Int32} {v1 : Int64} (q : ((v0 < 0 → Q (some (.int (0 : Int32))) h) ∧ (¬ v0 < 0 → ((v0 < (6 : Int32) → (vp_in v0 6 ∧ CM d jJ13_bitCount_95d88 [.long (v1 &&& ((oh_l1002.getD v0.toNatClampNeg 0) ^^^ (-1 : Int64)))] h (oh_r1 (fun x2 h1 => Q (some (.int x2)) h1)))) ∧ (¬ v0 < (6 : Int32) → Q (some (.int (0 : Int32))) h))))) : CM (d + 1) jX7_whites [.int v0, .long v1] h Q := oh_mwp_1 (nL := 2) (T := tX7_whites) rfl rfl (oh_run_wp (oh_mwp_m d) 68 q)
set_option maxRecDepth 20000 in
theorem mX7_knows {d : Nat} {Q : oh_Q} {h : oh_St} {v0 : Int32} {v1 : Int64} (q : ((v0 < 0 → (((1 : Int32) = 0 ∨ (1 : Int32) = 1) ∧ Q (some (.int (1 : Int32))) h)) ∧ (¬ v0 < 0 → (((6 : Int32) ≤ v0 → (((1 : Int32) = 0 ∨ (1 : Int32) = 1) ∧ Q (some (.int (1 : Int32))) h)) ∧ (¬ (6 : Int32) ≤ v0 → (vp_in v0 6 ∧ (((lg_cmp (v1 &&& (oh_l1002.getD v0.toNatClampNeg 0)) (0 : Int64)) = 0 → (((1 : Int32) = 0 ∨ (1 : Int32) = 1) ∧ Q (some (.int (1 : Int32))) h)) ∧ (¬ (lg_cmp (v1 &&& (oh_l1002.getD v0.toNatClampNeg 0)) (0 : Int64)) = 0 → (vp_in v0 6 ∧ ((¬ (lg_cmp (v1 &&& ((oh_l1002.getD v0.toNatClampNeg 0) ^^^ (-1 : Int64))) (0 : Int64)) = 0 → (((0 : Int32) = 0 ∨ (0 : Int32) = 1) ∧ Q (some (.int (0 : Int32))) h)) ∧ ((lg_cmp (v1 &&& ((oh_l1002.getD v0.toNatClampNeg 0) ^^^ (-1 : Int64))) (0 : Int64)) = 0 → (((1 : Int32) = 0 ∨ (1 : Int32) = 1) ∧ Q (some (.int (1 : Int32))) h)))))))))))) : CM (d + 1) jX7_knows [.int v0, .long v1] h Q := oh_mwp_1 (nL := 2) (T := tX7_knows) rfl rfl (oh_run_wp (oh_mwp_m d) 101 q)
set_option maxRecDepth 20000 in
theorem mX7_wouldSay {d : Nat} {Q : oh_Q} {h : oh_St} {v0 : Int32} {v1 : Int64} (q : CM d jX7_blacks [.int v0, .long v1] h (oh_r1 (fun x2 h1 => CM d jX7_whites [.int v0, .long v1] h1 (oh_r1 (fun x4 h3 => ((x2 < x4 → Q (some (.int (0 : Int32))) h3) ∧ (¬ x2 < x4 → Q (some (.int (1 : Int32))) h3))))))) : CM (d + 1) jX7_wouldSay [.int v0, .long v1] h Q := oh_mwp_1 (nL := 2) (T := tX7_wouldSay) rfl rfl (oh_run_wp (oh_mwp_m d) 53 q)
abbrev wX7_allWhite_6 (d : Nat) (Q : oh_Q) (v0 : Int32) (v1 : Int64) (v3 : Int32) (h : oh_St) : Prop := oh_wp GC tX7_allWhite (CM d) Q 6 cX7_allWhite_6 [some (.int v0), some (.long v1), none, some (.int v3)] [] h
set_option maxRecDepth 20000 in
theorem mX7_allWhite {d : Nat} {Q : oh_Q} {h : oh_St} {v0 : Int32} (q : wX7_allWhite_6 d Q v0 (-1 : Int64) (0 : Int32) h) : CM (d + 1) jX7_allWhite [.int v0] h Q := oh_mwp_1 (nL := 3) (T := tX7_allWhite) rfl rfl (oh_run_wp (oh_mwp_m d) 92 q)
set_option maxRecDepth 20000 in
theorem bX7_allWhite_6 {d : Nat} {Q : oh_Q} {h : oh_St} {v0 v3 : Int32} {v1 : Int64} (q : (((6 : Int32) ≤ v3 → Q (some (.long v1)) h) ∧ (¬ (6 : Int32) ≤ v3 → CM d jX7_bit [.int v0, .int v3] h (oh_r1 (fun x2 h1 => ((¬ x2 = (1 : Int32) → wX7_allWhite_6 d Q v0 v1 (v3 + (1 : Int32)) h1) ∧ (x2 = (1 : Int32) → (vp_in v3 6 ∧ wX7_allWhite_6 d Q v0 (v1 &&& ((oh_l1002.getD v3.toNatClampNeg 0) ^^^ (-1 : Int64))) (v3 + (1 : Int32)) h1)))))))) : wX7_allWhite_6 d Q v0 v1 v3 h := oh_run_wp (oh_mwp_m d) 92 q
end
section
set_option maxRecDepth 20000 in
theorem mX8_finds {d : Nat} {Q : oh_Q} {h : oh_St} {v1 : Int32} (q : (vp_in v1 6 ∧ (vp_in v1 6 ∧ Q (some (.int ((-1000000000 : Int32) - v1))) (oh_upi h 4 v1.toNatClampNeg ((h.1 4 v1.toNatClampNeg) + (1 : Int32)))))) : MM (d + 1) jX8_finds [.ref 0, .int v1] h Q := oh_mwp_1 (nL := 1) (T := tX8_finds) rfl rfl (oh_run_wp (oh_mwp_m d) 56 q)
set_option maxRecDepth 20000 in
theorem mX8_in {d : Nat} {Q : oh_Q} {h : oh_St} {v0 v2 v4 : Int64} (q : (((lg_cmp v0 v2) < 0 → (((0 : Int32) = 0 ∨ (0 : Int32) = 1) ∧ Q (some (.int (0 : Int32))) h)) ∧ (¬ (lg_cmp v0 v2) < 0 → ((0 < (lg_cmp v0 v4) → (((0 : Int32) = 0 ∨ (0 : Int32) = 1) ∧ Q (some (.int (0 : Int32))) h)) ∧ (¬ 0 < (lg_cmp v0 v4) → (((1 : Int32) = 0 ∨ (1 : Int32) = 1) ∧ Q (some (.int (1 : Int32))) h)))))) : MM (d + 1) jX8_in [.long v0, .long v2, .long v4] h Q := oh_mwp_1 (nL := 5) (T := tX8_in) rfl rfl (oh_run_wp (oh_mwp_m d) 56 q)
set_option maxRecDepth 20000 in
theorem mX8_held {d : Nat} {Q : oh_Q} {h : oh_St} {v0 v1 v2 : Int32} (q : ((v1 ≤ v0 → ((v0 ≤ v2 → Q (some (.int v0)) h) ∧ (¬ v0 ≤ v2 → Q (some (.int v2)) h))) ∧ (¬ v1 ≤ v0 → Q (some (.int v1)) h))) : MM (d + 1) jX8_held [.int v0, .int v1, .int v2] h Q := oh_mwp_1 (nL := 2) (T := tX8_held) rfl rfl (oh_run_wp (oh_mwp_m d) 56 q)
abbrev wX8_copies_2 (d : Nat) (Q : oh_Q) (o : Nat) (o2 : Nat) (v2 : Int32) (h : oh_St) : Prop := oh_wp GM tX8_copies (MM d) Q 2 cX8_copies_2 [some (.ref o), some (.ref o2), some (.int v2)] [] h
set_option maxRecDepth 20000 in
theorem mX8_copies {d : Nat} {Q : oh_Q} {h : oh_St} {o o2 : Nat} (ho : (o = 1 ∧ o2 = 2) ∨ (o = 1 ∧ o2 = 3) ∨ (o = 2 ∧ o2 = 1) ∨ (o = 3 ∧ o2 = 1)) (q : wX8_copies_2 d Q o o2 (0 : Int32) h) : MM (d + 1) jX8_copies [.ref o, .ref o2] h Q := by
  rcases ho with ⟨rfl, rfl⟩ | ⟨rfl, rfl⟩ | ⟨rfl, rfl⟩ | ⟨rfl, rfl⟩ <;> exact oh_mwp_1 (nL := 2) (T := tX8_copies) rfl rfl (oh_run_wp (oh_mwp_m d) 62 q)
set_option maxRecDepth 20000 in
theorem bX8_copies_2 {d : Nat} {Q : oh_Q} {h : oh_St} {o o2 : Nat} {v2 : Int32} (ho : (o = 1 ∧ o2 = 2) ∨ (o = 1 ∧ o2 = 3) ∨ (o = 2 ∧ o2 = 1) ∨ (o = 3 ∧ o2 = 1)) (q : (((210 : Int32) ≤ v2 → Q none h) ∧ (¬ (210 : Int32) ≤ v2 → (vp_in v2 210 ∧ (vp_in v2 210 ∧ wX8_copies_2 d Q o o2 (v2 + (1 : Int32)) (oh_upi h o2 v2.toNatClampNeg (h.1 o v2.toNatClampNeg))))))) : wX8_copies_2 d Q o o2 v2 h := by
  rcases ho with ⟨rfl, rfl⟩ | ⟨rfl, rfl⟩ | ⟨rfl, rfl⟩ | ⟨rfl, rfl⟩ <;> exact oh_run_wp (oh_mwp_m d) 62 q
set_option maxRecDepth 20000 in
theorem mX8_isMan {d : Nat} {Q : oh_Q} {h : oh_St} {v1 : Int32} (q : (vp_in (0 : Int32) 210 ∧ MM d jX8_in [.long (v1.toInt64), .long (0 : Int64), .long (((h.1 1 (0 : Int32).toNatClampNeg) - (1 : Int32)).toInt64)] h (oh_r1 (fun x2 h1 => ((x2 = 0 ∨ x2 = 1) ∧ Q (some (.int x2)) h1))))) : MM (d + 1) jX8_isMan [.ref 0, .int v1] h Q := oh_mwp_1 (nL := 1) (T := tX8_isMan) rfl rfl (oh_run_wp (oh_mwp_m d) 56 q)
set_option maxRecDepth 20000 in
theorem mX8_of {d : Nat} {Q : oh_Q} {h : oh_St} {v1 v2 : Int32} (q : (vp_in (((8 : Int32) + ((5 : Int32) * v1)) + v2) 210 ∧ Q (some (.int (h.1 1 (((8 : Int32) + ((5 : Int32) * v1)) + v2).toNatClampNeg))) h)) : MM (d + 1) jX8_of [.ref 0, .int v1, .int v2] h Q := oh_mwp_1 (nL := 2) (T := tX8_of) rfl rfl (oh_run_wp (oh_mwp_m d) 53 q)
set_option maxRecDepth 20000 in
theorem mX8_becomes {d : Nat} {Q : oh_Q} {h : oh_St} {v1 v2 v3 : Int32} (q : (vp_in (((8 : Int32) + ((5 : Int32) * v1)) + v2) 210 ∧ Q none (oh_upi h 1 (((8 : Int32) + ((5 : Int32) * v1)) + v2).toNatClampNeg v3))) : MM (d + 1) jX8_becomes [.ref 0, .int v1, .int v2, .int v3] h Q := oh_mwp_1 (nL := 3) (T := tX8_becomes) rfl rfl (oh_run_wp (oh_mwp_m d) 56 q)
set_option maxRecDepth 20000 in
theorem mX8_allMen {d : Nat} {Q : oh_Q} {h : oh_St} (q : (vp_in (0 : Int32) 210 ∧ Q (some (.int (((1 : Int32) <<< ((h.1 1 (0 : Int32).toNatClampNeg) &&& 31)) - (1 : Int32)))) h)) : MM (d + 1) jX8_allMen [.ref 0] h Q := oh_mwp_1 (nL := 0) (T := tX8_allMen) rfl rfl (oh_run_wp (oh_mwp_m d) 47 q)
set_option maxRecDepth 20000 in
theorem mX8_isOpen {d : Nat} {Q : oh_Q} {h : oh_St} (q : (vp_in (1 : Int32) 210 ∧ ((¬ (h.1 1 (1 : Int32).toNatClampNeg) = (1 : Int32) → (((0 : Int32) = 0 ∨ (0 : Int32) = 1) ∧ Q (some (.int (0 : Int32))) h)) ∧ ((h.1 1 (1 : Int32).toNatClampNeg) = (1 : Int32) → (((1 : Int32) = 0 ∨ (1 : Int32) = 1) ∧ Q (some (.int (1 : Int32))) h))))) : MM (d + 1) jX8_isOpen [.ref 0] h Q := oh_mwp_1 (nL := 0) (T := tX8_isOpen) rfl rfl (oh_run_wp (oh_mwp_m d) 50 q)
set_option maxRecDepth 20000 in
theorem mX8_here {d : Nat} {Q : oh_Q} {h : oh_St} (q : (((h.1 0 10) ≤ (h.1 0 9) → Q (some (.int (-1 : Int32))) h) ∧ (¬ (h.1 0 10) ≤ (h.1 0 9) → ((0 ≤ (h.1 0 11) → Q (some (.int (-1 : Int32))) h) ∧ (¬ 0 ≤ (h.1 0 11) → (vp_in ((h.1 0 8) + (h.1 0 9)) 210 ∧ Q (some (.int (h.1 1 ((h.1 0 8) + (h.1 0 9)).toNatClampNeg))) h)))))) : MM (d + 1) jX8_here [.ref 0] h Q := oh_mwp_1 (nL := 0) (T := tX8_here) rfl rfl (oh_run_wp (oh_mwp_m d) 77 q)
set_option maxRecDepth 20000 in
theorem mX8_wrong {d : Nat} {Q : oh_Q} {h : oh_St} (q : ((0 ≤ (h.1 0 11) → Q (some (.int (0 : Int32))) (oh_upi h 0 11 (h.1 0 11))) ∧ (¬ 0 ≤ (h.1 0 11) → Q (some (.int (0 : Int32))) (oh_upi h 0 11 (h.1 0 9))))) : MM (d + 1) jX8_wrong [.ref 0] h Q := oh_mwp_1 (nL := 0) (T := tX8_wrong) rfl rfl (oh_run_wp (oh_mwp_m d) 56 q)
set_option maxRecDepth 20000 in
theorem mX8_takes {d : Nat} {Q : oh_Q} {h : oh_St} {v1 : Int32} (q : MM d jX8_here [.ref 0] h (oh_r1 (fun x2 h1 => ((x2 = v1 → (((1 : Int32) = 0 ∨ (1 : Int32) = 1) ∧ Q (some (.int (1 : Int32))) (oh_upi h1 0 9 ((h1.1 0 9) + (1 : Int32))))) ∧ (¬ x2 = v1 → (((0 : Int32) = 0 ∨ (0 : Int32) = 1) ∧ Q (some (.int (0 : Int32))) h1)))))) : MM (d + 1) jX8_takes [.ref 0, .int v1] h Q := oh_mwp_1 (nL := 1) (T := tX8_takes) rfl rfl (oh_run_wp (oh_mwp_m d) 62 q)
set_option maxRecDepth 20000 in
theorem mX8_nameOf {d : Nat} {Q : oh_Q} {h : oh_St} {v1 : Int32} (q : (((h.1 0 13) = 0 → ((¬ v1 = (98 : Int32) → ((¬ v1 = (110 : Int32) → ((¬ v1 = (102 : Int32) → ((¬ v1 = (108 : Int32) → Q (some (.int (-1 : Int32))) h) ∧ (v1 = (108 : Int32) → Q (some (.int (3 : Int32))) h))) ∧ (v1 = (102 : Int32) → Q (some (.int (2 : Int32))) h))) ∧ (v1 = (110 : Int32) → Q (some (.int (1 : Int32))) h))) ∧ (v1 = (98 : Int32) → Q (some (.int (0 : Int32))) h))) ∧ (¬ (h.1 0 13) = 0 → ((¬ v1 = (104 : Int32) → ((¬ v1 = (116 : Int32) → ((¬ v1 = (99 : Int32) → Q (some (.int (-1 : Int32))) h) ∧ (v1 = (99 : Int32) → Q (some (.int (2 : Int32))) h))) ∧ (v1 = (116 : Int32) → Q (some (.int (1 : Int32))) h))) ∧ (v1 = (104 : Int32) → Q (some (.int (0 : Int32))) h))))) : MM (d + 1) jX8_nameOf [.ref 0, .int v1] h Q := oh_mwp_1 (nL := 1) (T := tX8_nameOf) rfl rfl (oh_run_wp (oh_mwp_m d) 146 q)
abbrev wX8_either_5 (d : Nat) (Q : oh_Q) (v1 : Int32) (h : oh_St) : Prop := oh_wp GM tX8_either (MM d) Q 5 cX8_either_5 [some (.ref 0), some (.int v1), none] [] h
set_option maxRecDepth 20000 in
theorem mX8_either {d : Nat} {Q : oh_Q} {h : oh_St} (q : MM d jX8_both [.ref 0] h (oh_r1 (fun x2 h1 => wX8_either_5 d Q x2 h1))) : MM (d + 1) jX8_either [.ref 0] h Q := oh_mwp_1 (nL := 2) (T := tX8_either) rfl rfl (oh_run_wp (oh_mwp_m d) 83 q)
set_option maxRecDepth 20000 in
theorem bX8_either_5 {d : Nat} {Q : oh_Q} {h : oh_St} {v1 : Int32} (q : MM d jX8_takes [.ref 0, .int (124 : Int32)] h (oh_r1 (fun x2 h1 => ((x2 = 0 → Q (some (.int v1)) h1) ∧ (¬ x2 = 0 → MM d jX8_both [.ref 0] h1 (oh_r1 (fun x4 h3 => ((¬ v1 = 0 → wX8_either_5 d Q (1 : Int32) h3) ∧ (v1 = 0 → ((x4 = 0 → wX8_either_5 d Q (0 : Int32) h3) ∧ (¬ x4 = 0 → wX8_either_5 d Q (1 : Int32) h3))))))))))) : wX8_either_5 d Q v1 h := oh_run_wp (oh_mwp_m d) 83 q
abbrev wX8_both_5 (d : Nat) (Q : oh_Q) (v1 : Int32) (h : oh_St) : Prop := oh_wp GM tX8_both (MM d) Q 5 cX8_both_5 [some (.ref 0), some (.int v1), none] [] h
set_option maxRecDepth 20000 in
theorem mX8_both {d : Nat} {Q : oh_Q} {h : oh_St} (q : MM d jX8_compared [.ref 0] h (oh_r1 (fun x2 h1 => wX8_both_5 d Q x2 h1))) : MM (d + 1) jX8_both [.ref 0] h Q := oh_mwp_1 (nL := 2) (T := tX8_both) rfl rfl (oh_run_wp (oh_mwp_m d) 83 q)
set_option maxRecDepth 20000 in
theorem bX8_both_5 {d : Nat} {Q : oh_Q} {h : oh_St} {v1 : Int32} (q : MM d jX8_takes [.ref 0, .int (38 : Int32)] h (oh_r1 (fun x2 h1 => ((x2 = 0 → Q (some (.int v1)) h1) ∧ (¬ x2 = 0 → MM d jX8_compared [.ref 0] h1 (oh_r1 (fun x4 h3 => ((v1 = 0 → wX8_both_5 d Q (0 : Int32) h3) ∧ (¬ v1 = 0 → ((x4 = 0 → wX8_both_5 d Q (0 : Int32) h3) ∧ (¬ x4 = 0 → wX8_both_5 d Q (1 : Int32) h3))))))))))) : wX8_both_5 d Q v1 h := oh_run_wp (oh_mwp_m d) 83 q
set_option maxRecDepth 20000 in
theorem mX8_compared {d : Nat} {Q : oh_Q} {h : oh_St} (q : MM d jX8_sum [.ref 0] h (oh_r1 (fun x2 h1 => MM d jX8_here [.ref 0] h1 (oh_r1 (fun x4 h3 => ((x4 = (60 : Int32) → MM d jX8_sum [.ref 0] (oh_upi h3 0 9 ((h3.1 0 9) + (1 : Int32))) (oh_r1 (fun x6 h5 => ((¬ x4 = (60 : Int32) → ((¬ x4 = (61 : Int32) → ((x2 ≤ x6 → Q (some (.int (0 : Int32))) h5) ∧ (¬ x2 ≤ x6 → Q (some (.int (1 : Int32))) h5))) ∧ (x4 = (61 : Int32) → ((¬ x2 = x6 → Q (some (.int (0 : Int32))) h5) ∧ (x2 = x6 → Q (some (.int (1 : Int32))) h5))))) ∧ (x4 = (60 : Int32) → ((x6 ≤ x2 → Q (some (.int (0 : Int32))) h5) ∧ (¬ x6 ≤ x2 → Q (some (.int (1 : Int32))) h5))))))) ∧ (¬ x4 = (60 : Int32) → ((x4 = (61 : Int32) → MM d jX8_sum [.ref 0] (oh_upi h3 0 9 ((h3.1 0 9) + (1 : Int32))) (oh_r1 (fun x8 h7 => ((¬ x4 = (60 : Int32) → ((¬ x4 = (61 : Int32) → ((x2 ≤ x8 → Q (some (.int (0 : Int32))) h7) ∧ (¬ x2 ≤ x8 → Q (some (.int (1 : Int32))) h7))) ∧ (x4 = (61 : Int32) → ((¬ x2 = x8 → Q (some (.int (0 : Int32))) h7) ∧ (x2 = x8 → Q (some (.int (1 : Int32))) h7))))) ∧ (x4 = (60 : Int32) → ((x8 ≤ x2 → Q (some (.int (0 : Int32))) h7) ∧ (¬ x8 ≤ x2 → Q (some (.int (1 : Int32))) h7))))))) ∧ (¬ x4 = (61 : Int32) → ((x4 = (62 : Int32) → MM d jX8_sum [.ref 0] (oh_upi h3 0 9 ((h3.1 0 9) + (1 : Int32))) (oh_r1 (fun x10 h9 => ((¬ x4 = (60 : Int32) → ((¬ x4 = (61 : Int32) → ((x2 ≤ x10 → Q (some (.int (0 : Int32))) h9) ∧ (¬ x2 ≤ x10 → Q (some (.int (1 : Int32))) h9))) ∧ (x4 = (61 : Int32) → ((¬ x2 = x10 → Q (some (.int (0 : Int32))) h9) ∧ (x2 = x10 → Q (some (.int (1 : Int32))) h9))))) ∧ (x4 = (60 : Int32) → ((x10 ≤ x2 → Q (some (.int (0 : Int32))) h9) ∧ (¬ x10 ≤ x2 → Q (some (.int (1 : Int32))) h9))))))) ∧ (¬ x4 = (62 : Int32) → Q (some (.int x2)) h3))))))))))) : MM (d + 1) jX8_compared [.ref 0] h Q := oh_mwp_1 (nL := 3) (T := tX8_compared) rfl rfl (oh_run_wp (oh_mwp_m d) 161 q)
abbrev wX8_sum_5 (d : Nat) (Q : oh_Q) (v1 : Int32) (h : oh_St) : Prop := oh_wp GM tX8_sum (MM d) Q 5 cX8_sum_5 [some (.ref 0), some (.int v1), none, none] [] h
set_option maxRecDepth 20000 in
theorem mX8_sum {d : Nat} {Q : oh_Q} {h : oh_St} (q : MM d jX8_product [.ref 0] h (oh_r1 (fun x2 h1 => wX8_sum_5 d Q x2 h1))) : MM (d + 1) jX8_sum [.ref 0] h Q := oh_mwp_1 (nL := 3) (T := tX8_sum) rfl rfl (oh_run_wp (oh_mwp_m d) 131 q)
set_option maxRecDepth 20000 in
theorem bX8_sum_5 {d : Nat} {Q : oh_Q} {h : oh_St} {v1 : Int32} (q : MM d jX8_here [.ref 0] h (oh_r1 (fun x2 h1 => ((x2 = (43 : Int32) → MM d jX8_here [.ref 0] h1 (oh_r1 (fun x4 h3 => MM d jX8_product [.ref 0] (oh_upi h3 0 9 ((h3.1 0 9) + (1 : Int32))) (oh_r1 (fun x6 h5 => ((¬ x4 = (43 : Int32) → wX8_sum_5 d Q (v1 - x6) h5) ∧ (x4 = (43 : Int32) → wX8_sum_5 d Q (v1 + x6) h5))))))) ∧ (¬ x2 = (43 : Int32) → MM d jX8_here [.ref 0] h1 (oh_r1 (fun x8 h7 => ((¬ x8 = (45 : Int32) → Q (some (.int v1)) h7) ∧ (x8 = (45 : Int32) → MM d jX8_here [.ref 0] h7 (oh_r1 (fun x10 h9 => MM d jX8_product [.ref 0] (oh_upi h9 0 9 ((h9.1 0 9) + (1 : Int32))) (oh_r1 (fun x12 h11 => ((¬ x10 = (43 : Int32) → wX8_sum_5 d Q (v1 - x12) h11) ∧ (x10 = (43 : Int32) → wX8_sum_5 d Q (v1 + x12) h11))))))))))))))) : wX8_sum_5 d Q v1 h := oh_run_wp (oh_mwp_m d) 131 q
abbrev wX8_product_5 (d : Nat) (Q : oh_Q) (v1 : Int32) (h : oh_St) : Prop := oh_wp GM tX8_product (MM d) Q 5 cX8_product_5 [some (.ref 0), some (.int v1), none, none] [] h
set_option maxRecDepth 20000 in
theorem mX8_product {d : Nat} {Q : oh_Q} {h : oh_St} (q : MM d jX8_unit [.ref 0] h (oh_r1 (fun x2 h1 => wX8_product_5 d Q x2 h1))) : MM (d + 1) jX8_product [.ref 0] h Q := oh_mwp_1 (nL := 3) (T := tX8_product) rfl rfl (oh_run_wp (oh_mwp_m d) 176 q)
set_option maxRecDepth 20000 in
theorem bX8_product_5 {d : Nat} {Q : oh_Q} {h : oh_St} {v1 : Int32} (q : MM d jX8_here [.ref 0] h (oh_r1 (fun x2 h1 => ((x2 = (42 : Int32) → MM d jX8_here [.ref 0] h1 (oh_r1 (fun x4 h3 => MM d jX8_unit [.ref 0] (oh_upi h3 0 9 ((h3.1 0 9) + (1 : Int32))) (oh_r1 (fun x6 h5 => ((¬ x4 = (42 : Int32) → ((¬ x6 = 0 → ((¬ x4 = (47 : Int32) → (¬ x6 = 0 ∧ wX8_product_5 d Q (v1 - v1 / x6 * x6) h5)) ∧ (x4 = (47 : Int32) → (¬ x6 = 0 ∧ wX8_product_5 d Q (v1 / x6) h5)))) ∧ (x6 = 0 → wX8_product_5 d Q (0 : Int32) h5))) ∧ (x4 = (42 : Int32) → wX8_product_5 d Q (v1 * x6) h5))))))) ∧ (¬ x2 = (42 : Int32) → MM d jX8_here [.ref 0] h1 (oh_r1 (fun x8 h7 => ((x8 = (47 : Int32) → MM d jX8_here [.ref 0] h7 (oh_r1 (fun x10 h9 => MM d jX8_unit [.ref 0] (oh_upi h9 0 9 ((h9.1 0 9) + (1 : Int32))) (oh_r1 (fun x12 h11 => ((¬ x10 = (42 : Int32) → ((¬ x12 = 0 → ((¬ x10 = (47 : Int32) → (¬ x12 = 0 ∧ wX8_product_5 d Q (v1 - v1 / x12 * x12) h11)) ∧ (x10 = (47 : Int32) → (¬ x12 = 0 ∧ wX8_product_5 d Q (v1 / x12) h11)))) ∧ (x12 = 0 → wX8_product_5 d Q (0 : Int32) h11))) ∧ (x10 = (42 : Int32) → wX8_product_5 d Q (v1 * x12) h11))))))) ∧ (¬ x8 = (47 : Int32) → MM d jX8_here [.ref 0] h7 (oh_r1 (fun x14 h13 => ((¬ x14 = (37 : Int32) → Q (some (.int v1)) h13) ∧ (x14 = (37 : Int32) → MM d jX8_here [.ref 0] h13 (oh_r1 (fun x16 h15 => MM d jX8_unit [.ref 0] (oh_upi h15 0 9 ((h15.1 0 9) + (1 : Int32))) (oh_r1 (fun x18 h17 => ((¬ x16 = (42 : Int32) → ((¬ x18 = 0 → ((¬ x16 = (47 : Int32) → (¬ x18 = 0 ∧ wX8_product_5 d Q (v1 - v1 / x18 * x18) h17)) ∧ (x16 = (47 : Int32) → (¬ x18 = 0 ∧ wX8_product_5 d Q (v1 / x18) h17)))) ∧ (x18 = 0 → wX8_product_5 d Q (0 : Int32) h17))) ∧ (x16 = (42 : Int32) → wX8_product_5 d Q (v1 * x18) h17))))))))))))))))))) : wX8_product_5 d Q v1 h := oh_run_wp (oh_mwp_m d) 176 q
abbrev wX8_unit_150 (d : Nat) (Q : oh_Q) (v3 : Int32) (v4 : Int32) (h : oh_St) : Prop := oh_wp GM tX8_unit (MM d) Q 150 cX8_unit_150 [some (.ref 0), none, none, some (.int v3), some (.int v4)] [] h
set_option maxRecDepth 20000 in
theorem mX8_unit {d : Nat} {Q : oh_Q} {h : oh_St} (q : MM d jX8_here [.ref 0] h (oh_r1 (fun x2 h1 => ((x2 = (33 : Int32) → ((¬ (h1.1 0 12) = (5 : Int32) → ((¬ x2 = (40 : Int32) → MM d jX8_unit [.ref 0] (oh_upi (oh_upi h1 0 12 ((h1.1 0 12) + (1 : Int32))) 0 9 (((oh_upi h1 0 12 ((h1.1 0 12) + (1 : Int32))).1 0 9) + (1 : Int32))) (oh_r1 (fun x4 h3 => ((¬ x2 = (40 : Int32) → ((¬ x2 = (40 : Int32) → ((¬ x4 = 0 → Q (some (.int (0 : Int32))) (oh_upi h3 0 12 ((h3.1 0 12) - (1 : Int32)))) ∧ (x4 = 0 → Q (some (.int (1 : Int32))) (oh_upi h3 0 12 ((h3.1 0 12) - (1 : Int32)))))) ∧ (x2 = (40 : Int32) → Q (some (.int x4)) (oh_upi h3 0 12 ((h3.1 0 12) - (1 : Int32)))))) ∧ (x2 = (40 : Int32) → MM d jX8_takes [.ref 0, .int (41 : Int32)] h3 (oh_r1 (fun x6 h5 => ((¬ x6 = 0 → ((¬ x2 = (40 : Int32) → ((¬ x4 = 0 → Q (some (.int (0 : Int32))) (oh_upi h5 0 12 ((h5.1 0 12) - (1 : Int32)))) ∧ (x4 = 0 → Q (some (.int (1 : Int32))) (oh_upi h5 0 12 ((h5.1 0 12) - (1 : Int32)))))) ∧ (x2 = (40 : Int32) → Q (some (.int x4)) (oh_upi h5 0 12 ((h5.1 0 12) - (1 : Int32)))))) ∧ (x6 = 0 → MM d jX8_wrong [.ref 0] h5 (oh_r1 (fun x8 h7 => Q (some (.int x8)) h7))))))))))) ∧ (x2 = (40 : Int32) → MM d jX8_either [.ref 0] (oh_upi (oh_upi h1 0 12 ((h1.1 0 12) + (1 : Int32))) 0 9 (((oh_upi h1 0 12 ((h1.1 0 12) + (1 : Int32))).1 0 9) + (1 : Int32))) (oh_r1 (fun x10 h9 => ((¬ x2 = (40 : Int32) → ((¬ x2 = (40 : Int32) → ((¬ x10 = 0 → Q (some (.int (0 : Int32))) (oh_upi h9 0 12 ((h9.1 0 12) - (1 : Int32)))) ∧ (x10 = 0 → Q (some (.int (1 : Int32))) (oh_upi h9 0 12 ((h9.1 0 12) - (1 : Int32)))))) ∧ (x2 = (40 : Int32) → Q (some (.int x10)) (oh_upi h9 0 12 ((h9.1 0 12) - (1 : Int32)))))) ∧ (x2 = (40 : Int32) → MM d jX8_takes [.ref 0, .int (41 : Int32)] h9 (oh_r1 (fun x12 h11 => ((¬ x12 = 0 → ((¬ x2 = (40 : Int32) → ((¬ x10 = 0 → Q (some (.int (0 : Int32))) (oh_upi h11 0 12 ((h11.1 0 12) - (1 : Int32)))) ∧ (x10 = 0 → Q (some (.int (1 : Int32))) (oh_upi h11 0 12 ((h11.1 0 12) - (1 : Int32)))))) ∧ (x2 = (40 : Int32) → Q (some (.int x10)) (oh_upi h11 0 12 ((h11.1 0 12) - (1 : Int32)))))) ∧ (x12 = 0 → MM d jX8_wrong [.ref 0] h11 (oh_r1 (fun x14 h13 => Q (some (.int x14)) h13))))))))))))) ∧ ((h1.1 0 12) = (5 : Int32) → MM d jX8_wrong [.ref 0] h1 (oh_r1 (fun x16 h15 => Q (some (.int x16)) h15))))) ∧ (¬ x2 = (33 : Int32) → ((¬ x2 = (40 : Int32) → MM d jX8_nameOf [.ref 0, .int x2] h1 (oh_r1 (fun x18 h17 => ((x18 < 0 → wX8_unit_150 d Q (0 : Int32) (0 : Int32) h17) ∧ (¬ x18 < 0 → (vp_in x18 4 ∧ Q (some (.int ((oh_upi h17 0 9 ((h17.1 0 9) + (1 : Int32))).1 5 x18.toNatClampNeg))) (oh_upi h17 0 9 ((h17.1 0 9) + (1 : Int32))))))))) ∧ (x2 = (40 : Int32) → ((¬ (h1.1 0 12) = (5 : Int32) → ((¬ x2 = (40 : Int32) → MM d jX8_unit [.ref 0] (oh_upi (oh_upi h1 0 12 ((h1.1 0 12) + (1 : Int32))) 0 9 (((oh_upi h1 0 12 ((h1.1 0 12) + (1 : Int32))).1 0 9) + (1 : Int32))) (oh_r1 (fun x20 h19 => ((¬ x2 = (40 : Int32) → ((¬ x2 = (40 : Int32) → ((¬ x20 = 0 → Q (some (.int (0 : Int32))) (oh_upi h19 0 12 ((h19.1 0 12) - (1 : Int32)))) ∧ (x20 = 0 → Q (some (.int (1 : Int32))) (oh_upi h19 0 12 ((h19.1 0 12) - (1 : Int32)))))) ∧ (x2 = (40 : Int32) → Q (some (.int x20)) (oh_upi h19 0 12 ((h19.1 0 12) - (1 : Int32)))))) ∧ (x2 = (40 : Int32) → MM d jX8_takes [.ref 0, .int (41 : Int32)] h19 (oh_r1 (fun x22 h21 => ((¬ x22 = 0 → ((¬ x2 = (40 : Int32) → ((¬ x20 = 0 → Q (some (.int (0 : Int32))) (oh_upi h21 0 12 ((h21.1 0 12) - (1 : Int32)))) ∧ (x20 = 0 → Q (some (.int (1 : Int32))) (oh_upi h21 0 12 ((h21.1 0 12) - (1 : Int32)))))) ∧ (x2 = (40 : Int32) → Q (some (.int x20)) (oh_upi h21 0 12 ((h21.1 0 12) - (1 : Int32)))))) ∧ (x22 = 0 → MM d jX8_wrong [.ref 0] h21 (oh_r1 (fun x24 h23 => Q (some (.int x24)) h23))))))))))) ∧ (x2 = (40 : Int32) → MM d jX8_either [.ref 0] (oh_upi (oh_upi h1 0 12 ((h1.1 0 12) + (1 : Int32))) 0 9 (((oh_upi h1 0 12 ((h1.1 0 12) + (1 : Int32))).1 0 9) + (1 : Int32))) (oh_r1 (fun x26 h25 => ((¬ x2 = (40 : Int32) → ((¬ x2 = (40 : Int32) → ((¬ x26 = 0 → Q (some (.int (0 : Int32))) (oh_upi h25 0 12 ((h25.1 0 12) - (1 : Int32)))) ∧ (x26 = 0 → Q (some (.int (1 : Int32))) (oh_upi h25 0 12 ((h25.1 0 12) - (1 : Int32)))))) ∧ (x2 = (40 : Int32) → Q (some (.int x26)) (oh_upi h25 0 12 ((h25.1 0 12) - (1 : Int32)))))) ∧ (x2 = (40 : Int32) → MM d jX8_takes [.ref 0, .int (41 : Int32)] h25 (oh_r1 (fun x28 h27 => ((¬ x28 = 0 → ((¬ x2 = (40 : Int32) → ((¬ x26 = 0 → Q (some (.int (0 : Int32))) (oh_upi h27 0 12 ((h27.1 0 12) - (1 : Int32)))) ∧ (x26 = 0 → Q (some (.int (1 : Int32))) (oh_upi h27 0 12 ((h27.1 0 12) - (1 : Int32)))))) ∧ (x2 = (40 : Int32) → Q (some (.int x26)) (oh_upi h27 0 12 ((h27.1 0 12) - (1 : Int32)))))) ∧ (x28 = 0 → MM d jX8_wrong [.ref 0] h27 (oh_r1 (fun x30 h29 => Q (some (.int x30)) h29))))))))))))) ∧ ((h1.1 0 12) = (5 : Int32) → MM d jX8_wrong [.ref 0] h1 (oh_r1 (fun x32 h31 => Q (some (.int x32)) h31))))))))))) : MM (d + 1) jX8_unit [.ref 0] h Q := oh_mwp_1 (nL := 4) (T := tX8_unit) rfl rfl (oh_run_wp (oh_mwp_m d) 377 q)
set_option maxRecDepth 20000 in
theorem bX8_unit_150 {d : Nat} {Q : oh_Q} {h : oh_St} {v3 v4 : Int32} (q : (((4 : Int32) ≤ v4 → ((¬ v4 = 0 → Q (some (.int v3)) h) ∧ (v4 = 0 → MM d jX8_wrong [.ref 0] h (oh_r1 (fun x2 h1 => Q (some (.int x2)) h1))))) ∧ (¬ (4 : Int32) ≤ v4 → MM d jX8_here [.ref 0] h (oh_r1 (fun x4 h3 => MM d jX8_in [.long (x4.toInt64), .long (48 : Int64), .long (57 : Int64)] h3 (oh_r1 (fun x6 h5 => ((x6 = 0 → ((¬ v4 = 0 → Q (some (.int v3)) h5) ∧ (v4 = 0 → MM d jX8_wrong [.ref 0] h5 (oh_r1 (fun x8 h7 => Q (some (.int x8)) h7))))) ∧ (¬ x6 = 0 → MM d jX8_here [.ref 0] h5 (oh_r1 (fun x10 h9 => wX8_unit_150 d Q ((((10 : Int32) * v3) + x10) - (48 : Int32)) (v4 + (1 : Int32)) (oh_upi h9 0 9 ((h9.1 0 9) + (1 : Int32)))))))))))))) : wX8_unit_150 d Q v3 v4 h := oh_run_wp (oh_mwp_m d) 377 q
set_option maxRecDepth 20000 in
theorem mX8_worked {d : Nat} {Q : oh_Q} {h : oh_St} {v1 v2 v3 : Int32} (q : ((¬ v3 = (1 : Int32) → (((0 : Int32) = 0 ∨ (0 : Int32) = 1) ∧ MM d jX8_either [.ref 0] (oh_upi (oh_upi (oh_upi (oh_upi (oh_upi (oh_upi h 0 8 v1) 0 9 (0 : Int32)) 0 10 v2) 0 11 (-1 : Int32)) 0 12 (0 : Int32)) 0 13 (0 : Int32)) (oh_r1 (fun x2 h1 => ((0 ≤ (h1.1 0 11) → Q (some (.int x2)) h1) ∧ (¬ 0 ≤ (h1.1 0 11) → (((h1.1 0 10) ≤ (h1.1 0 9) → Q (some (.int x2)) h1) ∧ (¬ (h1.1 0 10) ≤ (h1.1 0 9) → MM d jX8_wrong [.ref 0] h1 (oh_r1 (fun x4 h3 => Q (some (.int x4)) h3)))))))))) ∧ (v3 = (1 : Int32) → (((1 : Int32) = 0 ∨ (1 : Int32) = 1) ∧ MM d jX8_either [.ref 0] (oh_upi (oh_upi (oh_upi (oh_upi (oh_upi (oh_upi h 0 8 v1) 0 9 (0 : Int32)) 0 10 v2) 0 11 (-1 : Int32)) 0 12 (0 : Int32)) 0 13 (1 : Int32)) (oh_r1 (fun x6 h5 => ((0 ≤ (h5.1 0 11) → Q (some (.int x6)) h5) ∧ (¬ 0 ≤ (h5.1 0 11) → (((h5.1 0 10) ≤ (h5.1 0 9) → Q (some (.int x6)) h5) ∧ (¬ (h5.1 0 10) ≤ (h5.1 0 9) → MM d jX8_wrong [.ref 0] h5 (oh_r1 (fun x8 h7 => Q (some (.int x8)) h7)))))))))))) : MM (d + 1) jX8_worked [.ref 0, .int v1, .int v2, .int v3] h Q := oh_mwp_1 (nL := 4) (T := tX8_worked) rfl rfl (oh_run_wp (oh_mwp_m d) 137 q)
abbrev wX8_feed_41 (d : Nat) (Q : oh_Q) (v1 : Int64) (v3 : Int32) (v4 : Int32) (h : oh_St) : Prop := oh_wp GM tX8_feed (MM d) Q 41 cX8_feed_41 [some (.ref 0), some (.long v1), none, some (.int v3), some (.int v4)] [] h
set_option maxRecDepth 20000 in
theorem mX8_feed {d : Nat} {Q : oh_Q} {h : oh_St} {v3 : Int32} {v1 : Int64} (q : MM d jX8_in [.long (v3.toInt64), .long (1 : Int64), .long (8 : Int64)] h (oh_r1 (fun x2 h1 => ((¬ x2 = 0 → (vp_in (6 : Int32) 210 ∧ ((((h1.1 1 (6 : Int32).toNatClampNeg) + v3) ≤ (50 : Int32) → wX8_feed_41 d Q v1 v3 (0 : Int32) h1) ∧ (¬ ((h1.1 1 (6 : Int32).toNatClampNeg) + v3) ≤ (50 : Int32) → MM d jX8_finds [.ref 0, .int (4 : Int32)] h1 (oh_r1 (fun x4 h3 => Q (some (.int x4)) h3)))))) ∧ (x2 = 0 → MM d jX8_finds [.ref 0, .int (1 : Int32)] h1 (oh_r1 (fun x6 h5 => Q (some (.int x6)) h5))))))) : MM (d + 1) jX8_feed [.ref 0, .long v1, .int v3] h Q := oh_mwp_1 (nL := 4) (T := tX8_feed) rfl rfl (oh_run_wp (oh_mwp_m d) 197 q)
set_option maxRecDepth 20000 in
theorem bX8_feed_41 {d : Nat} {Q : oh_Q} {h : oh_St} {v3 v4 : Int32} {v1 : Int64} (q : ((v3 ≤ v4 → (vp_in (6 : Int32) 210 ∧ Q (some (.int (h.1 1 (6 : Int32).toNatClampNeg))) h)) ∧ (¬ v3 ≤ v4 → (vp_in (6 : Int32) 210 ∧ (vp_in ((160 : Int32) + (h.1 1 (6 : Int32).toNatClampNeg)) 210 ∧ (vp_in (6 : Int32) 210 ∧ (vp_in (6 : Int32) 210 ∧ wX8_feed_41 d Q v1 v3 (v4 + (1 : Int32)) (oh_upi (oh_upi h 1 ((160 : Int32) + (h.1 1 (6 : Int32).toNatClampNeg)).toNatClampNeg (((v1 >>> (((8 : Int32) * v4).toInt64 &&& 63)) &&& (255 : Int64)).toInt32)) 1 (6 : Int32).toNatClampNeg (((oh_upi h 1 ((160 : Int32) + (h.1 1 (6 : Int32).toNatClampNeg)).toNatClampNeg (((v1 >>> (((8 : Int32) * v4).toInt64 &&& 63)) &&& (255 : Int64)).toInt32)).1 1 (6 : Int32).toNatClampNeg) + (1 : Int32)))))))))) : wX8_feed_41 d Q v1 v3 v4 h := oh_run_wp (oh_mwp_m d) 197 q
abbrev wX8_text_70 (d : Nat) (Q : oh_Q) (v1 : Int32) (v2 : Int32) (v4 : Int32) (h : oh_St) : Prop := oh_wp GM tX8_text (MM d) Q 70 cX8_text_70 [some (.ref 0), some (.int v1), some (.int v2), none, some (.int v4)] [] h
set_option maxRecDepth 20000 in
theorem mX8_text {d : Nat} {Q : oh_Q} {h : oh_St} {v1 : Int32} (q : MM d jX8_in [.long (v1.toInt64), .long (0 : Int64), .long (1 : Int64)] h (oh_r1 (fun x2 h1 => ((¬ x2 = 0 → (vp_in (6 : Int32) 210 ∧ (vp_in (6 : Int32) 210 ∧ MM d jX8_worked [.ref 0, .int (160 : Int32), .int (h1.1 1 (6 : Int32).toNatClampNeg), .int v1] (oh_upi h1 1 (6 : Int32).toNatClampNeg (0 : Int32)) (oh_r1 (fun x4 h3 => (((h3.1 0 11) < 0 → (vp_in ((38 : Int32) + v1) 210 ∧ wX8_text_70 d Q v1 (h1.1 1 (6 : Int32).toNatClampNeg) (0 : Int32) (oh_upi h3 1 ((38 : Int32) + v1).toNatClampNeg (h1.1 1 (6 : Int32).toNatClampNeg)))) ∧ (¬ (h3.1 0 11) < 0 → Q (some (.int ((-10 : Int32) - (h3.1 0 11)))) h3))))))) ∧ (x2 = 0 → MM d jX8_finds [.ref 0, .int (1 : Int32)] h1 (oh_r1 (fun x6 h5 => Q (some (.int x6)) h5))))))) : MM (d + 1) jX8_text [.ref 0, .int v1] h Q := oh_mwp_1 (nL := 4) (T := tX8_text) rfl rfl (oh_run_wp (oh_mwp_m d) 218 q)
set_option maxRecDepth 20000 in
theorem bX8_text_70 {d : Nat} {Q : oh_Q} {h : oh_St} {v1 v2 v4 : Int32} (q : ((v2 ≤ v4 → Q (some (.int (1 : Int32))) h) ∧ (¬ v2 ≤ v4 → (vp_in ((160 : Int32) + v4) 210 ∧ (vp_in (((60 : Int32) + ((50 : Int32) * v1)) + v4) 210 ∧ wX8_text_70 d Q v1 v2 (v4 + (1 : Int32)) (oh_upi h 1 (((60 : Int32) + ((50 : Int32) * v1)) + v4).toNatClampNeg (h.1 1 ((160 : Int32) + v4).toNatClampNeg))))))) : wX8_text_70 d Q v1 v2 v4 h := oh_run_wp (oh_mwp_m d) 218 q
set_option maxRecDepth 20000 in
theorem mX8_gives {d : Nat} {Q : oh_Q} {h : oh_St} {v1 v2 v3 v4 v5 : Int32} (q : ((¬ v1 = 0 → (vp_in ((38 : Int32) + v1) 210 ∧ (((h.1 1 ((38 : Int32) + v1).toNatClampNeg) ≤ 0 → ((¬ v1 = 0 → MM d jX8_held [.int (((v2 * (10 : Int32)) + (5 : Int32)) - v3), .int (0 : Int32), .int (999 : Int32)] h (oh_r1 (fun x2 h1 => Q (some (.int x2)) h1))) ∧ (v1 = 0 → Q (some (.int (((v2 * (10 : Int32)) + (5 : Int32)) - v3))) h))) ∧ (¬ (h.1 1 ((38 : Int32) + v1).toNatClampNeg) ≤ 0 → (vp_in (0 : Int32) 4 ∧ (vp_in (1 : Int32) 4 ∧ (vp_in (2 : Int32) 4 ∧ (vp_in (3 : Int32) 4 ∧ (vp_in ((38 : Int32) + v1) 210 ∧ MM d jX8_worked [.ref 0, .int ((60 : Int32) + ((50 : Int32) * v1)), .int ((oh_upi (oh_upi (oh_upi (oh_upi h 5 (0 : Int32).toNatClampNeg v2) 5 (1 : Int32).toNatClampNeg v3) 5 (2 : Int32).toNatClampNeg v4) 5 (3 : Int32).toNatClampNeg v5).1 1 ((38 : Int32) + v1).toNatClampNeg), .int v1] (oh_upi (oh_upi (oh_upi (oh_upi h 5 (0 : Int32).toNatClampNeg v2) 5 (1 : Int32).toNatClampNeg v3) 5 (2 : Int32).toNatClampNeg v4) 5 (3 : Int32).toNatClampNeg v5) (oh_r1 (fun x4 h3 => ((¬ v1 = 0 → MM d jX8_held [.int x4, .int (0 : Int32), .int (999 : Int32)] h3 (oh_r1 (fun x6 h5 => Q (some (.int x6)) h5))) ∧ (v1 = 0 → Q (some (.int x4)) h3))))))))))))) ∧ (v1 = 0 → (vp_in ((38 : Int32) + v1) 210 ∧ (((h.1 1 ((38 : Int32) + v1).toNatClampNeg) ≤ 0 → ((¬ v1 = 0 → MM d jX8_held [.int (1 : Int32), .int (0 : Int32), .int (999 : Int32)] h (oh_r1 (fun x8 h7 => Q (some (.int x8)) h7))) ∧ (v1 = 0 → Q (some (.int (1 : Int32))) h))) ∧ (¬ (h.1 1 ((38 : Int32) + v1).toNatClampNeg) ≤ 0 → (vp_in (0 : Int32) 4 ∧ (vp_in (1 : Int32) 4 ∧ (vp_in (2 : Int32) 4 ∧ (vp_in (3 : Int32) 4 ∧ (vp_in ((38 : Int32) + v1) 210 ∧ MM d jX8_worked [.ref 0, .int ((60 : Int32) + ((50 : Int32) * v1)), .int ((oh_upi (oh_upi (oh_upi (oh_upi h 5 (0 : Int32).toNatClampNeg v2) 5 (1 : Int32).toNatClampNeg v3) 5 (2 : Int32).toNatClampNeg v4) 5 (3 : Int32).toNatClampNeg v5).1 1 ((38 : Int32) + v1).toNatClampNeg), .int v1] (oh_upi (oh_upi (oh_upi (oh_upi h 5 (0 : Int32).toNatClampNeg v2) 5 (1 : Int32).toNatClampNeg v3) 5 (2 : Int32).toNatClampNeg v4) 5 (3 : Int32).toNatClampNeg v5) (oh_r1 (fun x10 h9 => ((¬ v1 = 0 → MM d jX8_held [.int x10, .int (0 : Int32), .int (999 : Int32)] h9 (oh_r1 (fun x12 h11 => Q (some (.int x12)) h11))) ∧ (v1 = 0 → Q (some (.int x10)) h9))))))))))))))) : MM (d + 1) jX8_gives [.ref 0, .int v1, .int v2, .int v3, .int v4, .int v5] h Q := oh_mwp_1 (nL := 6) (T := tX8_gives) rfl rfl (oh_run_wp (oh_mwp_m d) 209 q)
set_option maxRecDepth 20000 in
theorem mX8_law {d : Nat} {Q : oh_Q} {h : oh_St} {v1 v2 v3 v4 v5 : Int32} (q : MM d jX8_in [.long (v1.toInt64), .long (0 : Int64), .long (1 : Int64)] h (oh_r1 (fun x2 h1 => ((x2 = 0 → MM d jX8_finds [.ref 0, .int (1 : Int32)] h1 (oh_r1 (fun x4 h3 => Q (some (.int x4)) h3))) ∧ (¬ x2 = 0 → MM d jX8_gives [.ref 0, .int v1, .int v2, .int v3, .int v4, .int v5] h1 (oh_r1 (fun x6 h5 => Q (some (.int x6)) h5))))))) : MM (d + 1) jX8_law [.ref 0, .int v1, .int v2, .int v3, .int v4, .int v5] h Q := oh_mwp_1 (nL := 5) (T := tX8_law) rfl rfl (oh_run_wp (oh_mwp_m d) 74 q)
abbrev wX8_man_57 (d : Nat) (Q : oh_Q) (v1 : Int32) (v2 : Int32) (v3 : Int32) (h : oh_St) : Prop := oh_wp GM tX8_man (MM d) Q 57 cX8_man_57 [some (.ref 0), some (.int v1), some (.int v2), some (.int v3)] [] h
set_option maxRecDepth 20000 in
theorem mX8_man {d : Nat} {Q : oh_Q} {h : oh_St} {v1 : Int32} (q : MM d jX8_in [.long (v1.toInt64), .long (0 : Int64), .long (69 : Int64)] h (oh_r1 (fun x2 h1 => ((¬ x2 = 0 → MM d jX8_isOpen [.ref 0] h1 (oh_r1 (fun x4 h3 => ((x4 = 0 → (vp_in (0 : Int32) 210 ∧ ((¬ (h3.1 1 (0 : Int32).toNatClampNeg) = (6 : Int32) → (vp_in (0 : Int32) 210 ∧ wX8_man_57 d Q v1 (h3.1 1 (0 : Int32).toNatClampNeg) (0 : Int32) h3)) ∧ ((h3.1 1 (0 : Int32).toNatClampNeg) = (6 : Int32) → MM d jX8_finds [.ref 0, .int (4 : Int32)] h3 (oh_r1 (fun x6 h5 => Q (some (.int x6)) h5)))))) ∧ (¬ x4 = 0 → MM d jX8_finds [.ref 0, .int (3 : Int32)] h3 (oh_r1 (fun x8 h7 => Q (some (.int x8)) h7))))))) ∧ (x2 = 0 → MM d jX8_finds [.ref 0, .int (1 : Int32)] h1 (oh_r1 (fun x10 h9 => Q (some (.int x10)) h9))))))) : MM (d + 1) jX8_man [.ref 0, .int v1] h Q := oh_mwp_1 (nL := 3) (T := tX8_man) rfl rfl (oh_run_wp (oh_mwp_m d) 302 q)
set_option maxRecDepth 20000 in
theorem bX8_man_57 {d : Nat} {Q : oh_Q} {h : oh_St} {v1 v2 v3 : Int32} (q : ((v2 ≤ v3 → (¬ (10 : Int32) = 0 ∧ MM d jX8_becomes [.ref 0, .int v2, .int (0 : Int32), .int (v1 / (10 : Int32))] h (oh_r0 (fun h1 => (¬ (10 : Int32) = 0 ∧ MM d jX8_becomes [.ref 0, .int v2, .int (1 : Int32), .int (v1 - v1 / (10 : Int32) * (10 : Int32))] h1 (oh_r0 (fun h2 => MM d jX8_becomes [.ref 0, .int v2, .int (2 : Int32), .int (0 : Int32)] h2 (oh_r0 (fun h3 => MM d jX8_becomes [.ref 0, .int v2, .int (3 : Int32), .int (((1 : Int32) <<< (v2 &&& 31)) - (1 : Int32))] h3 (oh_r0 (fun h4 => MM d jX8_becomes [.ref 0, .int v2, .int (4 : Int32), .int (0 : Int32)] h4 (oh_r0 (fun h5 => (vp_in (0 : Int32) 210 ∧ (vp_in (0 : Int32) 210 ∧ Q (some (.int v2)) (oh_upi h5 1 (0 : Int32).toNatClampNeg ((h5.1 1 (0 : Int32).toNatClampNeg) + (1 : Int32)))))))))))))))))) ∧ (¬ v2 ≤ v3 → MM d jX8_of [.ref 0, .int v3, .int (3 : Int32)] h (oh_r1 (fun x7 h6 => MM d jX8_becomes [.ref 0, .int v3, .int (3 : Int32), .int (x7 ||| ((1 : Int32) <<< (v2 &&& 31)))] h6 (oh_r0 (fun h8 => wX8_man_57 d Q v1 v2 (v3 + (1 : Int32)) h8))))))) : wX8_man_57 d Q v1 v2 v3 h := oh_run_wp (oh_mwp_m d) 302 q
set_option maxRecDepth 20000 in
theorem mX8_ofMan {d : Nat} {Q : oh_Q} {h : oh_St} {v1 v2 : Int32} (q : MM d jX8_isMan [.ref 0, .int v1] h (oh_r1 (fun x2 h1 => ((x2 = 0 → MM d jX8_finds [.ref 0, .int (1 : Int32)] h1 (oh_r1 (fun x4 h3 => Q (some (.int x4)) h3))) ∧ (¬ x2 = 0 → MM d jX8_in [.long (v2.toInt64), .long (0 : Int64), .long (4 : Int64)] h1 (oh_r1 (fun x6 h5 => ((x6 = 0 → MM d jX8_finds [.ref 0, .int (1 : Int32)] h5 (oh_r1 (fun x8 h7 => Q (some (.int x8)) h7))) ∧ (¬ x6 = 0 → MM d jX8_of [.ref 0, .int v1, .int v2] h5 (oh_r1 (fun x10 h9 => Q (some (.int x10)) h9))))))))))) : MM (d + 1) jX8_ofMan [.ref 0, .int v1, .int v2] h Q := oh_mwp_1 (nL := 2) (T := tX8_ofMan) rfl rfl (oh_run_wp (oh_mwp_m d) 77 q)
set_option maxRecDepth 20000 in
theorem mX8_tellMan {d : Nat} {Q : oh_Q} {h : oh_St} {v1 v2 v3 : Int32} (q : MM d jX8_isMan [.ref 0, .int v1] h (oh_r1 (fun x2 h1 => ((x2 = 0 → MM d jX8_finds [.ref 0, .int (1 : Int32)] h1 (oh_r1 (fun x4 h3 => Q (some (.int x4)) h3))) ∧ (¬ x2 = 0 → MM d jX8_in [.long (v2.toInt64), .long (2 : Int64), .long (3 : Int64)] h1 (oh_r1 (fun x6 h5 => ((¬ x6 = 0 → ((¬ v2 = (2 : Int32) → MM d jX8_allMen [.ref 0] h5 (oh_r1 (fun x8 h7 => MM d jX8_in [.long (v3.toInt64), .long (0 : Int64), .long (x8.toInt64)] h7 (oh_r1 (fun x10 h9 => ((x10 = 0 → ((¬ (0 : Int32) = 0 → MM d jX8_isOpen [.ref 0] h9 (oh_r1 (fun x12 h11 => ((x12 = 0 → MM d jX8_of [.ref 0, .int v1, .int v2] h11 (oh_r1 (fun x14 h13 => MM d jX8_becomes [.ref 0, .int v1, .int v2, .int v3] h13 (oh_r0 (fun h15 => Q (some (.int x14)) h15))))) ∧ (¬ x12 = 0 → MM d jX8_finds [.ref 0, .int (3 : Int32)] h11 (oh_r1 (fun x17 h16 => Q (some (.int x17)) h16))))))) ∧ ((0 : Int32) = 0 → MM d jX8_finds [.ref 0, .int (1 : Int32)] h9 (oh_r1 (fun x19 h18 => Q (some (.int x19)) h18))))) ∧ (¬ x10 = 0 → ((¬ ((v3 >>> (v1 &&& 31)) &&& (1 : Int32)) = 0 → ((¬ (0 : Int32) = 0 → MM d jX8_isOpen [.ref 0] h9 (oh_r1 (fun x21 h20 => ((x21 = 0 → MM d jX8_of [.ref 0, .int v1, .int v2] h20 (oh_r1 (fun x23 h22 => MM d jX8_becomes [.ref 0, .int v1, .int v2, .int v3] h22 (oh_r0 (fun h24 => Q (some (.int x23)) h24))))) ∧ (¬ x21 = 0 → MM d jX8_finds [.ref 0, .int (3 : Int32)] h20 (oh_r1 (fun x26 h25 => Q (some (.int x26)) h25))))))) ∧ ((0 : Int32) = 0 → MM d jX8_finds [.ref 0, .int (1 : Int32)] h9 (oh_r1 (fun x28 h27 => Q (some (.int x28)) h27))))) ∧ (((v3 >>> (v1 &&& 31)) &&& (1 : Int32)) = 0 → ((¬ (1 : Int32) = 0 → MM d jX8_isOpen [.ref 0] h9 (oh_r1 (fun x30 h29 => ((x30 = 0 → MM d jX8_of [.ref 0, .int v1, .int v2] h29 (oh_r1 (fun x32 h31 => MM d jX8_becomes [.ref 0, .int v1, .int v2, .int v3] h31 (oh_r0 (fun h33 => Q (some (.int x32)) h33))))) ∧ (¬ x30 = 0 → MM d jX8_finds [.ref 0, .int (3 : Int32)] h29 (oh_r1 (fun x35 h34 => Q (some (.int x35)) h34))))))) ∧ ((1 : Int32) = 0 → MM d jX8_finds [.ref 0, .int (1 : Int32)] h9 (oh_r1 (fun x37 h36 => Q (some (.int x37)) h36))))))))))))) ∧ (v2 = (2 : Int32) → MM d jX8_in [.long (v3.toInt64), .long (0 : Int64), .long (1 : Int64)] h5 (oh_r1 (fun x39 h38 => ((¬ x39 = 0 → MM d jX8_isOpen [.ref 0] h38 (oh_r1 (fun x41 h40 => ((x41 = 0 → MM d jX8_of [.ref 0, .int v1, .int v2] h40 (oh_r1 (fun x43 h42 => MM d jX8_becomes [.ref 0, .int v1, .int v2, .int v3] h42 (oh_r0 (fun h44 => Q (some (.int x43)) h44))))) ∧ (¬ x41 = 0 → MM d jX8_finds [.ref 0, .int (3 : Int32)] h40 (oh_r1 (fun x46 h45 => Q (some (.int x46)) h45))))))) ∧ (x39 = 0 → MM d jX8_finds [.ref 0, .int (1 : Int32)] h38 (oh_r1 (fun x48 h47 => Q (some (.int x48)) h47))))))))) ∧ (x6 = 0 → MM d jX8_finds [.ref 0, .int (1 : Int32)] h5 (oh_r1 (fun x50 h49 => Q (some (.int x50)) h49))))))))))) : MM (d + 1) jX8_tellMan [.ref 0, .int v1, .int v2, .int v3] h Q := oh_mwp_1 (nL := 5) (T := tX8_tellMan) rfl rfl (oh_run_wp (oh_mwp_m d) 218 q)
set_option maxRecDepth 20000 in
theorem mX8_become {d : Nat} {Q : oh_Q} {h : oh_St} {v1 v2 : Int32} (q : MM d jX8_isMan [.ref 0, .int v1] h (oh_r1 (fun x2 h1 => ((x2 = 0 → MM d jX8_finds [.ref 0, .int (1 : Int32)] h1 (oh_r1 (fun x4 h3 => Q (some (.int x4)) h3))) ∧ (¬ x2 = 0 → MM d jX8_in [.long (v2.toInt64), .long (0 : Int64), .long (69 : Int64)] h1 (oh_r1 (fun x6 h5 => ((¬ x6 = 0 → MM d jX8_of [.ref 0, .int v1, .int (0 : Int32)] h5 (oh_r1 (fun x8 h7 => (¬ (10 : Int32) = 0 ∧ MM d jX8_becomes [.ref 0, .int v1, .int (0 : Int32), .int (v2 / (10 : Int32))] h7 (oh_r0 (fun h9 => (¬ (10 : Int32) = 0 ∧ MM d jX8_becomes [.ref 0, .int v1, .int (1 : Int32), .int (v2 - v2 / (10 : Int32) * (10 : Int32))] h9 (oh_r0 (fun h10 => Q (some (.int x8)) h10))))))))) ∧ (x6 = 0 → MM d jX8_finds [.ref 0, .int (1 : Int32)] h5 (oh_r1 (fun x12 h11 => Q (some (.int x12)) h11))))))))))) : MM (d + 1) jX8_become [.ref 0, .int v1, .int v2] h Q := oh_mwp_1 (nL := 3) (T := tX8_become) rfl rfl (oh_run_wp (oh_mwp_m d) 125 q)
set_option maxRecDepth 20000 in
theorem mX8_above {d : Nat} {Q : oh_Q} {h : oh_St} {v0 : Int32} (q : ((¬ v0 = (4 : Int32) → ((¬ v0 = (5 : Int32) → ((¬ v0 = (6 : Int32) → Q (some (.int (0 : Int32))) h) ∧ (v0 = (6 : Int32) → Q (some (.int (3 : Int32))) h))) ∧ (v0 = (5 : Int32) → Q (some (.int (2 : Int32))) h))) ∧ (v0 = (4 : Int32) → Q (some (.int (1 : Int32))) h))) : MM (d + 1) jX8_above [.int v0] h Q := oh_mwp_1 (nL := 0) (T := tX8_above) rfl rfl (oh_run_wp (oh_mwp_m d) 71 q)
set_option maxRecDepth 20000 in
theorem mX8_as {d : Nat} {Q : oh_Q} {h : oh_St} {v1 v2 : Int32} (q : MM d jX8_isMan [.ref 0, .int v1] h (oh_r1 (fun x2 h1 => ((x2 = 0 → MM d jX8_finds [.ref 0, .int (1 : Int32)] h1 (oh_r1 (fun x4 h3 => Q (some (.int x4)) h3))) ∧ (¬ x2 = 0 → MM d jX8_in [.long (v2.toInt64), .long (0 : Int64), .long (6 : Int64)] h1 (oh_r1 (fun x6 h5 => ((¬ x6 = 0 → MM d jX8_of [.ref 0, .int v1, .int (0 : Int32)] h5 (oh_r1 (fun x8 h7 => ((v2 = 0 → MM d jX8_of [.ref 0, .int v1, .int (1 : Int32)] h7 (oh_r1 (fun x10 h9 => Q (some (.int x10)) h9))) ∧ (¬ v2 = 0 → ((v2 = x8 → MM d jX8_of [.ref 0, .int v1, .int (1 : Int32)] h7 (oh_r1 (fun x12 h11 => Q (some (.int x12)) h11))) ∧ (¬ v2 = x8 → MM d jX8_above [.int x8] h7 (oh_r1 (fun x14 h13 => ((¬ v2 = x14 → MM d jX8_finds [.ref 0, .int (5 : Int32)] h13 (oh_r1 (fun x16 h15 => Q (some (.int x16)) h15))) ∧ (v2 = x14 → MM d jX8_of [.ref 0, .int v1, .int (1 : Int32)] h13 (oh_r1 (fun x18 h17 => Q (some (.int x18)) h17))))))))))))) ∧ (x6 = 0 → MM d jX8_finds [.ref 0, .int (1 : Int32)] h5 (oh_r1 (fun x20 h19 => Q (some (.int x20)) h19))))))))))) : MM (d + 1) jX8_as [.ref 0, .int v1, .int v2] h Q := oh_mwp_1 (nL := 3) (T := tX8_as) rfl rfl (oh_run_wp (oh_mwp_m d) 131 q)
set_option maxRecDepth 20000 in
theorem mX8_fine {d : Nat} {Q : oh_Q} {h : oh_St} {v1 : Int32} (q : MM d jX8_in [.long (v1.toInt64), .long (0 : Int64), .long (99 : Int64)] h (oh_r1 (fun x2 h1 => ((¬ x2 = 0 → (vp_in (4 : Int32) 210 ∧ (vp_in (4 : Int32) 210 ∧ Q (some (.int (h1.1 1 (4 : Int32).toNatClampNeg))) (oh_upi h1 1 (4 : Int32).toNatClampNeg v1)))) ∧ (x2 = 0 → MM d jX8_finds [.ref 0, .int (1 : Int32)] h1 (oh_r1 (fun x4 h3 => Q (some (.int x4)) h3))))))) : MM (d + 1) jX8_fine [.ref 0, .int v1] h Q := oh_mwp_1 (nL := 2) (T := tX8_fine) rfl rfl (oh_run_wp (oh_mwp_m d) 86 q)
abbrev wX8_ones_4 (d : Nat) (Q : oh_Q) (v0 : Int32) (v1 : Int32) (v2 : Int32) (h : oh_St) : Prop := oh_wp GM tX8_ones (MM d) Q 4 cX8_ones_4 [some (.int v0), some (.int v1), some (.int v2)] [] h
set_option maxRecDepth 20000 in
theorem mX8_ones {d : Nat} {Q : oh_Q} {h : oh_St} {v0 : Int32} (q : wX8_ones_4 d Q v0 (0 : Int32) (0 : Int32) h) : MM (d + 1) jX8_ones [.int v0] h Q := oh_mwp_1 (nL := 2) (T := tX8_ones) rfl rfl (oh_run_wp (oh_mwp_m d) 77 q)
set_option maxRecDepth 20000 in
theorem bX8_ones_4 {d : Nat} {Q : oh_Q} {h : oh_St} {v0 v1 v2 : Int32} (q : (((6 : Int32) ≤ v2 → Q (some (.int v1)) h) ∧ (¬ (6 : Int32) ≤ v2 → wX8_ones_4 d Q v0 (v1 + ((v0 >>> (v2 &&& 31)) &&& (1 : Int32))) (v2 + (1 : Int32)) h))) : wX8_ones_4 d Q v0 v1 v2 h := oh_run_wp (oh_mwp_m d) 77 q
abbrev wX8_manyOf_4 (d : Nat) (Q : oh_Q) (v0 : Int64) (v2 : Int32) (v3 : Int32) (h : oh_St) : Prop := oh_wp GM tX8_manyOf (MM d) Q 4 cX8_manyOf_4 [some (.long v0), none, some (.int v2), some (.int v3)] [] h
set_option maxRecDepth 20000 in
theorem mX8_manyOf {d : Nat} {Q : oh_Q} {h : oh_St} {v0 : Int64} (q : wX8_manyOf_4 d Q v0 (0 : Int32) (0 : Int32) h) : MM (d + 1) jX8_manyOf [.long v0] h Q := oh_mwp_1 (nL := 3) (T := tX8_manyOf) rfl rfl (oh_run_wp (oh_mwp_m d) 80 q)
set_option maxRecDepth 20000 in
theorem bX8_manyOf_4 {d : Nat} {Q : oh_Q} {h : oh_St} {v2 v3 : Int32} {v0 : Int64} (q : (((64 : Int32) ≤ v3 → Q (some (.int v2)) h) ∧ (¬ (64 : Int32) ≤ v3 → wX8_manyOf_4 d Q v0 (v2 + ((v0 >>> (v3.toInt64 &&& 63)) &&& (1 : Int64)).toInt32) (v3 + (1 : Int32)) h))) : wX8_manyOf_4 d Q v0 v2 v3 h := oh_run_wp (oh_mwp_m d) 80 q
set_option maxRecDepth 20000 in
theorem mX8_isPossible {d : Nat} {Q : oh_Q} {h : oh_St} {v1 : Int32} (q : ((¬ (lg_cmp (((h.2 0 3) >>> (v1.toInt64 &&& 63)) &&& (1 : Int64)) (1 : Int64)) = 0 → (((0 : Int32) = 0 ∨ (0 : Int32) = 1) ∧ Q (some (.int (0 : Int32))) h)) ∧ ((lg_cmp (((h.2 0 3) >>> (v1.toInt64 &&& 63)) &&& (1 : Int64)) (1 : Int64)) = 0 → (((1 : Int32) = 0 ∨ (1 : Int32) = 1) ∧ Q (some (.int (1 : Int32))) h)))) : MM (d + 1) jX8_isPossible [.ref 0, .int v1] h Q := oh_mwp_1 (nL := 1) (T := tX8_isPossible) rfl rfl (oh_run_wp (oh_mwp_m d) 59 q)
abbrev wX8_hats_4 (d : Nat) (Q : oh_Q) (v1 : Int32) (v2 : Int32) (h : oh_St) : Prop := oh_wp GM tX8_hats (MM d) Q 4 cX8_hats_4 [some (.ref 0), some (.int v1), some (.int v2)] [] h
set_option maxRecDepth 20000 in
theorem mX8_hats {d : Nat} {Q : oh_Q} {h : oh_St} (q : wX8_hats_4 d Q (0 : Int32) (0 : Int32) h) : MM (d + 1) jX8_hats [.ref 0] h Q := oh_mwp_1 (nL := 2) (T := tX8_hats) rfl rfl (oh_run_wp (oh_mwp_m d) 89 q)
set_option maxRecDepth 20000 in
theorem bX8_hats_4 {d : Nat} {Q : oh_Q} {h : oh_St} {v1 v2 : Int32} (q : (vp_in (0 : Int32) 210 ∧ (((h.1 1 (0 : Int32).toNatClampNeg) ≤ v2 → Q (some (.int v1)) h) ∧ (¬ (h.1 1 (0 : Int32).toNatClampNeg) ≤ v2 → MM d jX8_of [.ref 0, .int v2, .int (2 : Int32)] h (oh_r1 (fun x2 h1 => wX8_hats_4 d Q (v1 ||| (x2 <<< (v2 &&& 31))) (v2 + (1 : Int32)) h1)))))) : wX8_hats_4 d Q v1 v2 h := oh_run_wp (oh_mwp_m d) 89 q
abbrev wX8_think_2 (d : Nat) (Q : oh_Q) (v1 : Int32) (h : oh_St) : Prop := oh_wp GM tX8_think (MM d) Q 2 cX8_think_2 [some (.ref 0), some (.int v1), none, none, none] [] h
abbrev wX8_think_35 (d : Nat) (Q : oh_Q) (v1 : Int32) (v2 : Int32) (v3 : Int32) (h : oh_St) : Prop := oh_wp GM tX8_think (MM d) Q 35 cX8_think_35 [some (.ref 0), some (.int v1), some (.int v2), some (.int v3), none] [] h
abbrev wX8_think_73 (d : Nat) (Q : oh_Q) (v1 : Int32) (v2 : Int32) (v3 : Int32) (h : oh_St) : Prop := oh_wp GM tX8_think (MM d) Q 73 cX8_think_73 [some (.ref 0), some (.int v1), some (.int v2), some (.int v3), none] [] h
set_option maxRecDepth 20000 in
theorem mX8_think {d : Nat} {Q : oh_Q} {h : oh_St} (q : wX8_think_2 d Q (0 : Int32) h) : MM (d + 1) jX8_think [.ref 0] h Q := oh_mwp_1 (nL := 4) (T := tX8_think) rfl rfl (oh_run_wp (oh_mwp_m d) 383 q)
set_option maxRecDepth 20000 in
theorem bX8_think_2 {d : Nat} {Q : oh_Q} {h : oh_St} {v1 : Int32} (q : (vp_in (0 : Int32) 210 ∧ (((h.1 1 (0 : Int32).toNatClampNeg) ≤ v1 → Q none h) ∧ (¬ (h.1 1 (0 : Int32).toNatClampNeg) ≤ v1 → MM d jX8_of [.ref 0, .int v1, .int (3 : Int32)] h (oh_r1 (fun x2 h1 => (vp_in v1 6 ∧ (vp_in v1 6 ∧ wX8_think_35 d Q v1 x2 (0 : Int32) (oh_upi (oh_upi h1 8 v1.toNatClampNeg (0 : Int32)) 9 v1.toNatClampNeg (0 : Int32)))))))))) : wX8_think_2 d Q v1 h := oh_run_wp (oh_mwp_m d) 383 q
set_option maxRecDepth 20000 in
theorem bX8_think_35 {d : Nat} {Q : oh_Q} {h : oh_St} {v1 v2 v3 : Int32} (q : (((64 : Int32) ≤ v3 → wX8_think_73 d Q v1 v2 (0 : Int32) h) ∧ (¬ (64 : Int32) ≤ v3 → (vp_in (((64 : Int32) * v1) + v3) 384 ∧ (vp_in (((64 : Int32) * v1) + v3) 384 ∧ wX8_think_35 d Q v1 v2 (v3 + (1 : Int32)) (oh_upi (oh_upi h 6 (((64 : Int32) * v1) + v3).toNatClampNeg (0 : Int32)) 7 (((64 : Int32) * v1) + v3).toNatClampNeg (0 : Int32))))))) : wX8_think_35 d Q v1 v2 v3 h := oh_run_wp (oh_mwp_m d) 383 q
set_option maxRecDepth 20000 in
theorem bX8_think_73 {d : Nat} {Q : oh_Q} {h : oh_St} {v1 v2 v3 : Int32} (q : (vp_in (0 : Int32) 210 ∧ ((((1 : Int32) <<< ((h.1 1 (0 : Int32).toNatClampNeg) &&& 31)) ≤ v3 → wX8_think_2 d Q (v1 + (1 : Int32)) h) ∧ (¬ ((1 : Int32) <<< ((h.1 1 (0 : Int32).toNatClampNeg) &&& 31)) ≤ v3 → MM d jX8_isPossible [.ref 0, .int v3] h (oh_r1 (fun x2 h1 => ((x2 = 0 → wX8_think_73 d Q v1 v2 (v3 + (1 : Int32)) h1) ∧ (¬ x2 = 0 → (vp_in (((64 : Int32) * v1) + (v3 &&& v2)) 384 ∧ (vp_in (((64 : Int32) * v1) + (v3 &&& v2)) 384 ∧ (vp_in (((64 : Int32) * v1) + (v3 &&& v2)) 384 ∧ (vp_in (((64 : Int32) * v1) + (v3 &&& v2)) 384 ∧ (vp_in v1 6 ∧ (vp_in v1 6 ∧ (vp_in v1 6 ∧ (vp_in v1 6 ∧ wX8_think_73 d Q v1 v2 (v3 + (1 : Int32)) (oh_upi (oh_upi (oh_upi (oh_upi h1 6 (((64 : Int32) * v1) + (v3 &&& v2)).toNatClampNeg ((h1.1 6 (((64 : Int32) * v1) + (v3 &&& v2)).toNatClampNeg) + ((v3 >>> (v1 &&& 31)) &&& (1 : Int32)))) 7 (((64 : Int32) * v1) + (v3 &&& v2)).toNatClampNeg (((oh_upi h1 6 (((64 : Int32) * v1) + (v3 &&& v2)).toNatClampNeg ((h1.1 6 (((64 : Int32) * v1) + (v3 &&& v2)).toNatClampNeg) + ((v3 >>> (v1 &&& 31)) &&& (1 : Int32)))).1 7 (((64 : Int32) * v1) + (v3 &&& v2)).toNatClampNeg) + ((1 : Int32) - ((v3 >>> (v1 &&& 31)) &&& (1 : Int32))))) 8 v1.toNatClampNeg (((oh_upi (oh_upi h1 6 (((64 : Int32) * v1) + (v3 &&& v2)).toNatClampNeg ((h1.1 6 (((64 : Int32) * v1) + (v3 &&& v2)).toNatClampNeg) + ((v3 >>> (v1 &&& 31)) &&& (1 : Int32)))) 7 (((64 : Int32) * v1) + (v3 &&& v2)).toNatClampNeg (((oh_upi h1 6 (((64 : Int32) * v1) + (v3 &&& v2)).toNatClampNeg ((h1.1 6 (((64 : Int32) * v1) + (v3 &&& v2)).toNatClampNeg) + ((v3 >>> (v1 &&& 31)) &&& (1 : Int32)))).1 7 (((64 : Int32) * v1) + (v3 &&& v2)).toNatClampNeg) + ((1 : Int32) - ((v3 >>> (v1 &&& 31)) &&& (1 : Int32))))).1 8 v1.toNatClampNeg) + ((v3 >>> (v1 &&& 31)) &&& (1 : Int32)))) 9 v1.toNatClampNeg (((oh_upi (oh_upi (oh_upi h1 6 (((64 : Int32) * v1) + (v3 &&& v2)).toNatClampNeg ((h1.1 6 (((64 : Int32) * v1) + (v3 &&& v2)).toNatClampNeg) + ((v3 >>> (v1 &&& 31)) &&& (1 : Int32)))) 7 (((64 : Int32) * v1) + (v3 &&& v2)).toNatClampNeg (((oh_upi h1 6 (((64 : Int32) * v1) + (v3 &&& v2)).toNatClampNeg ((h1.1 6 (((64 : Int32) * v1) + (v3 &&& v2)).toNatClampNeg) + ((v3 >>> (v1 &&& 31)) &&& (1 : Int32)))).1 7 (((64 : Int32) * v1) + (v3 &&& v2)).toNatClampNeg) + ((1 : Int32) - ((v3 >>> (v1 &&& 31)) &&& (1 : Int32))))) 8 v1.toNatClampNeg (((oh_upi (oh_upi h1 6 (((64 : Int32) * v1) + (v3 &&& v2)).toNatClampNeg ((h1.1 6 (((64 : Int32) * v1) + (v3 &&& v2)).toNatClampNeg) + ((v3 >>> (v1 &&& 31)) &&& (1 : Int32)))) 7 (((64 : Int32) * v1) + (v3 &&& v2)).toNatClampNeg (((oh_upi h1 6 (((64 : Int32) * v1) + (v3 &&& v2)).toNatClampNeg ((h1.1 6 (((64 : Int32) * v1) + (v3 &&& v2)).toNatClampNeg) + ((v3 >>> (v1 &&& 31)) &&& (1 : Int32)))).1 7 (((64 : Int32) * v1) + (v3 &&& v2)).toNatClampNeg) + ((1 : Int32) - ((v3 >>> (v1 &&& 31)) &&& (1 : Int32))))).1 8 v1.toNatClampNeg) + ((v3 >>> (v1 &&& 31)) &&& (1 : Int32)))).1 9 v1.toNatClampNeg) + ((1 : Int32) - ((v3 >>> (v1 &&& 31)) &&& (1 : Int32))))))))))))))))))))) : wX8_think_73 d Q v1 v2 v3 h := oh_run_wp (oh_mwp_m d) 383 q
set_option maxRecDepth 20000 in
theorem mX8_blackOf {d : Nat} {Q : oh_Q} {h : oh_St} {v1 v2 : Int32} (q : MM d jX8_of [.ref 0, .int v1, .int (3 : Int32)] h (oh_r1 (fun x2 h1 => (vp_in (((64 : Int32) * v1) + (v2 &&& x2)) 384 ∧ Q (some (.int (h1.1 6 (((64 : Int32) * v1) + (v2 &&& x2)).toNatClampNeg))) h1)))) : MM (d + 1) jX8_blackOf [.ref 0, .int v1, .int v2] h Q := oh_mwp_1 (nL := 2) (T := tX8_blackOf) rfl rfl (oh_run_wp (oh_mwp_m d) 62 q)
set_option maxRecDepth 20000 in
theorem mX8_whiteOf {d : Nat} {Q : oh_Q} {h : oh_St} {v1 v2 : Int32} (q : MM d jX8_of [.ref 0, .int v1, .int (3 : Int32)] h (oh_r1 (fun x2 h1 => (vp_in (((64 : Int32) * v1) + (v2 &&& x2)) 384 ∧ Q (some (.int (h1.1 7 (((64 : Int32) * v1) + (v2 &&& x2)).toNatClampNeg))) h1)))) : MM (d + 1) jX8_whiteOf [.ref 0, .int v1, .int v2] h Q := oh_mwp_1 (nL := 2) (T := tX8_whiteOf) rfl rfl (oh_run_wp (oh_mwp_m d) 62 q)
set_option maxRecDepth 20000 in
theorem mX8_knows {d : Nat} {Q : oh_Q} {h : oh_St} {v1 v2 : Int32} (q : MM d jX8_blackOf [.ref 0, .int v1, .int v2] h (oh_r1 (fun x2 h1 => ((x2 = 0 → (((1 : Int32) = 0 ∨ (1 : Int32) = 1) ∧ Q (some (.int (1 : Int32))) h1)) ∧ (¬ x2 = 0 → MM d jX8_whiteOf [.ref 0, .int v1, .int v2] h1 (oh_r1 (fun x4 h3 => ((¬ x4 = 0 → (((0 : Int32) = 0 ∨ (0 : Int32) = 1) ∧ Q (some (.int (0 : Int32))) h3)) ∧ (x4 = 0 → (((1 : Int32) = 0 ∨ (1 : Int32) = 1) ∧ Q (some (.int (1 : Int32))) h3)))))))))) : MM (d + 1) jX8_knows [.ref 0, .int v1, .int v2] h Q := oh_mwp_1 (nL := 2) (T := tX8_knows) rfl rfl (oh_run_wp (oh_mwp_m d) 62 q)
set_option maxRecDepth 20000 in
theorem mX8_wouldSay {d : Nat} {Q : oh_Q} {h : oh_St} {v1 v2 : Int32} (q : MM d jX8_blackOf [.ref 0, .int v1, .int v2] h (oh_r1 (fun x2 h1 => MM d jX8_whiteOf [.ref 0, .int v1, .int v2] h1 (oh_r1 (fun x4 h3 => ((x2 < x4 → Q (some (.int (0 : Int32))) h3) ∧ (¬ x2 < x4 → Q (some (.int (1 : Int32))) h3))))))) : MM (d + 1) jX8_wouldSay [.ref 0, .int v1, .int v2] h Q := oh_mwp_1 (nL := 2) (T := tX8_wouldSay) rfl rfl (oh_run_wp (oh_mwp_m d) 59 q)
set_option maxRecDepth 20000 in
theorem mX8_isHasty {d : Nat} {Q : oh_Q} {h : oh_St} {v1 v2 : Int32} (q : MM d jX8_of [.ref 0, .int v1, .int (1 : Int32)] h (oh_r1 (fun x2 h1 => MM d jX8_knows [.ref 0, .int v1, .int v2] h1 (oh_r1 (fun x4 h3 => ((¬ x4 = 0 → (((1 : Int32) = 0 ∨ (1 : Int32) = 1) ∧ Q (some (.int (1 : Int32))) h3)) ∧ (x4 = 0 → MM d jX8_blackOf [.ref 0, .int v1, .int v2] h3 (oh_r1 (fun x6 h5 => MM d jX8_whiteOf [.ref 0, .int v1, .int v2] h5 (oh_r1 (fun x8 h7 => (((x2 * x8) < x6 → (((1 : Int32) = 0 ∨ (1 : Int32) = 1) ∧ Q (some (.int (1 : Int32))) h7)) ∧ (¬ (x2 * x8) < x6 → MM d jX8_whiteOf [.ref 0, .int v1, .int v2] h7 (oh_r1 (fun x10 h9 => MM d jX8_blackOf [.ref 0, .int v1, .int v2] h9 (oh_r1 (fun x12 h11 => ((x10 ≤ (x2 * x12) → (((0 : Int32) = 0 ∨ (0 : Int32) = 1) ∧ Q (some (.int (0 : Int32))) h11)) ∧ (¬ x10 ≤ (x2 * x12) → (((1 : Int32) = 0 ∨ (1 : Int32) = 1) ∧ Q (some (.int (1 : Int32))) h11)))))))))))))))))))) : MM (d + 1) jX8_isHasty [.ref 0, .int v1, .int v2] h Q := oh_mwp_1 (nL := 3) (T := tX8_isHasty) rfl rfl (oh_run_wp (oh_mwp_m d) 128 q)
set_option maxRecDepth 20000 in
theorem mX8_speaks {d : Nat} {Q : oh_Q} {h : oh_St} {v1 v2 : Int32} (q : (vp_in (3 : Int32) 210 ∧ ((¬ (((h.1 1 (3 : Int32).toNatClampNeg) >>> (v1 &&& 31)) &&& (1 : Int32)) = (1 : Int32) → MM d jX8_of [.ref 0, .int v1, .int (1 : Int32)] h (oh_r1 (fun x2 h1 => MM d jX8_of [.ref 0, .int v1, .int (3 : Int32)] h1 (oh_r1 (fun x4 h3 => MM d jX8_of [.ref 0, .int v1, .int (0 : Int32)] h3 (oh_r1 (fun x6 h5 => ((x6 = (1 : Int32) → MM d jX8_isHasty [.ref 0, .int v1, .int v2] h5 (oh_r1 (fun x16 h15 => ((x16 = 0 ∨ x16 = 1) ∧ Q (some (.int x16)) h15)))) ∧ (¬ x6 = (1 : Int32) → ((x6 = (2 : Int32) → MM d jX8_knows [.ref 0, .int v1, .int v2] h5 (oh_r1 (fun x14 h13 => ((x14 = 0 → (((0 : Int32) = 0 ∨ (0 : Int32) = 1) ∧ Q (some (.int (0 : Int32))) h13)) ∧ (¬ x14 = 0 → (vp_in (2 : Int32) 210 ∧ (((h13.1 1 (2 : Int32).toNatClampNeg) < x2 → (((0 : Int32) = 0 ∨ (0 : Int32) = 1) ∧ Q (some (.int (0 : Int32))) h13)) ∧ (¬ (h13.1 1 (2 : Int32).toNatClampNeg) < x2 → (((1 : Int32) = 0 ∨ (1 : Int32) = 1) ∧ Q (some (.int (1 : Int32))) h13))))))))) ∧ (¬ x6 = (2 : Int32) → ((x6 = (3 : Int32) → (((0 : Int32) = 0 ∨ (0 : Int32) = 1) ∧ Q (some (.int (0 : Int32))) h5)) ∧ (¬ x6 = (3 : Int32) → ((x6 = (4 : Int32) → MM d jX8_isHasty [.ref 0, .int v1, .int v2] h5 (oh_r1 (fun x12 h11 => ((¬ x12 = 0 → (((1 : Int32) = 0 ∨ (1 : Int32) = 1) ∧ Q (some (.int (1 : Int32))) h11)) ∧ (x12 = 0 → (vp_in (2 : Int32) 210 ∧ (((h11.1 1 (2 : Int32).toNatClampNeg) < x2 → (((0 : Int32) = 0 ∨ (0 : Int32) = 1) ∧ Q (some (.int (0 : Int32))) h11)) ∧ (¬ (h11.1 1 (2 : Int32).toNatClampNeg) < x2 → (((1 : Int32) = 0 ∨ (1 : Int32) = 1) ∧ Q (some (.int (1 : Int32))) h11))))))))) ∧ (¬ x6 = (4 : Int32) → ((x6 = (5 : Int32) → MM d jX8_knows [.ref 0, .int v1, .int v2] h5 (oh_r1 (fun x10 h9 => ((x10 = 0 → (((0 : Int32) = 0 ∨ (0 : Int32) = 1) ∧ Q (some (.int (0 : Int32))) h9)) ∧ (¬ x10 = 0 → (vp_in (2 : Int32) 210 ∧ (((h9.1 1 (2 : Int32).toNatClampNeg) < x2 → (((0 : Int32) = 0 ∨ (0 : Int32) = 1) ∧ Q (some (.int (0 : Int32))) h9)) ∧ (¬ (h9.1 1 (2 : Int32).toNatClampNeg) < x2 → (vp_in (3 : Int32) 210 ∧ ((¬ ((h9.1 1 (3 : Int32).toNatClampNeg) &&& x4) = x4 → (((0 : Int32) = 0 ∨ (0 : Int32) = 1) ∧ Q (some (.int (0 : Int32))) h9)) ∧ (((h9.1 1 (3 : Int32).toNatClampNeg) &&& x4) = x4 → (((1 : Int32) = 0 ∨ (1 : Int32) = 1) ∧ Q (some (.int (1 : Int32))) h9)))))))))))) ∧ (¬ x6 = (5 : Int32) → ((x6 = (6 : Int32) → (vp_in v1 6 ∧ (((h5.1 8 v1.toNatClampNeg) = 0 → (((1 : Int32) = 0 ∨ (1 : Int32) = 1) ∧ Q (some (.int (1 : Int32))) h5)) ∧ (¬ (h5.1 8 v1.toNatClampNeg) = 0 → (vp_in v1 6 ∧ ((¬ (h5.1 9 v1.toNatClampNeg) = 0 → (((0 : Int32) = 0 ∨ (0 : Int32) = 1) ∧ Q (some (.int (0 : Int32))) h5)) ∧ ((h5.1 9 v1.toNatClampNeg) = 0 → (((1 : Int32) = 0 ∨ (1 : Int32) = 1) ∧ Q (some (.int (1 : Int32))) h5)))))))) ∧ (¬ x6 = (6 : Int32) → MM d jX8_knows [.ref 0, .int v1, .int v2] h5 (oh_r1 (fun x8 h7 => ((x8 = 0 ∨ x8 = 1) ∧ Q (some (.int x8)) h7)))))))))))))))))))))) ∧ ((((h.1 1 (3 : Int32).toNatClampNeg) >>> (v1 &&& 31)) &&& (1 : Int32)) = (1 : Int32) → (((0 : Int32) = 0 ∨ (0 : Int32) = 1) ∧ Q (some (.int (0 : Int32))) h))))) : MM (d + 1) jX8_speaks [.ref 0, .int v1, .int v2] h Q := oh_mwp_1 (nL := 4) (T := tX8_speaks) rfl rfl (oh_run_wp (oh_mwp_m d) 338 q)
abbrev wX8_speakers_4 (d : Nat) (Q : oh_Q) (v1 : Int32) (v2 : Int32) (v3 : Int32) (h : oh_St) : Prop := oh_wp GM tX8_speakers (MM d) Q 4 cX8_speakers_4 [some (.ref 0), some (.int v1), some (.int v2), some (.int v3)] [] h
set_option maxRecDepth 20000 in
theorem mX8_speakers {d : Nat} {Q : oh_Q} {h : oh_St} {v1 : Int32} (q : wX8_speakers_4 d Q v1 (0 : Int32) (0 : Int32) h) : MM (d + 1) jX8_speakers [.ref 0, .int v1] h Q := oh_mwp_1 (nL := 3) (T := tX8_speakers) rfl rfl (oh_run_wp (oh_mwp_m d) 101 q)
set_option maxRecDepth 20000 in
theorem bX8_speakers_4 {d : Nat} {Q : oh_Q} {h : oh_St} {v1 v2 v3 : Int32} (q : (vp_in (0 : Int32) 210 ∧ (((h.1 1 (0 : Int32).toNatClampNeg) ≤ v3 → Q (some (.int v2)) h) ∧ (¬ (h.1 1 (0 : Int32).toNatClampNeg) ≤ v3 → MM d jX8_speaks [.ref 0, .int v3, .int v1] h (oh_r1 (fun x2 h1 => ((x2 = 0 → wX8_speakers_4 d Q v1 (v2 ||| (0 : Int32)) (v3 + (1 : Int32)) h1) ∧ (¬ x2 = 0 → wX8_speakers_4 d Q v1 (v2 ||| ((1 : Int32) <<< (v3 &&& 31))) (v3 + (1 : Int32)) h1)))))))) : wX8_speakers_4 d Q v1 v2 v3 h := oh_run_wp (oh_mwp_m d) 101 q
abbrev wX8_sayings_5 (d : Nat) (Q : oh_Q) (v1 : Int32) (v2 : Int32) (v3 : Int32) (v4 : Int32) (h : oh_St) : Prop := oh_wp GM tX8_sayings (MM d) Q 5 cX8_sayings_5 [some (.ref 0), some (.int v1), some (.int v2), some (.int v3), some (.int v4)] [] h
set_option maxRecDepth 20000 in
theorem mX8_sayings {d : Nat} {Q : oh_Q} {h : oh_St} {v1 v2 : Int32} (q : wX8_sayings_5 d Q v1 v2 (0 : Int32) (0 : Int32) h) : MM (d + 1) jX8_sayings [.ref 0, .int v1, .int v2] h Q := oh_mwp_1 (nL := 4) (T := tX8_sayings) rfl rfl (oh_run_wp (oh_mwp_m d) 125 q)
set_option maxRecDepth 20000 in
theorem bX8_sayings_5 {d : Nat} {Q : oh_Q} {h : oh_St} {v1 v2 v3 v4 : Int32} (q : (vp_in (0 : Int32) 210 ∧ (((h.1 1 (0 : Int32).toNatClampNeg) ≤ v4 → Q (some (.int v3)) h) ∧ (¬ (h.1 1 (0 : Int32).toNatClampNeg) ≤ v4 → ((¬ ((v2 >>> (v4 &&& 31)) &&& (1 : Int32)) = (1 : Int32) → wX8_sayings_5 d Q v1 v2 (v3 ||| (0 : Int32)) (v4 + (1 : Int32)) h) ∧ (((v2 >>> (v4 &&& 31)) &&& (1 : Int32)) = (1 : Int32) → MM d jX8_wouldSay [.ref 0, .int v4, .int v1] h (oh_r1 (fun x2 h1 => ((¬ x2 = (1 : Int32) → wX8_sayings_5 d Q v1 v2 (v3 ||| (0 : Int32)) (v4 + (1 : Int32)) h1) ∧ (x2 = (1 : Int32) → wX8_sayings_5 d Q v1 v2 (v3 ||| ((1 : Int32) <<< (v4 &&& 31))) (v4 + (1 : Int32)) h1)))))))))) : wX8_sayings_5 d Q v1 v2 v3 v4 h := oh_run_wp (oh_mwp_m d) 125 q
abbrev wX8_open_25 (d : Nat) (Q : oh_Q) (v1 : Int32) (v2 : Int64) (v4 : Int32) (h : oh_St) : Prop := oh_wp GM tX8_open (MM d) Q 25 cX8_open_25 [some (.ref 0), some (.int v1), some (.long v2), none, some (.int v4), none] [] h
set_option maxRecDepth 20000 in
theorem mX8_open {d : Nat} {Q : oh_Q} {h : oh_St} (q : MM d jX8_isOpen [.ref 0] h (oh_r1 (fun x2 h1 => ((x2 = 0 → (vp_in (0 : Int32) 210 ∧ wX8_open_25 d Q (h1.1 1 (0 : Int32).toNatClampNeg) (0 : Int64) (0 : Int32) h1)) ∧ (¬ x2 = 0 → MM d jX8_finds [.ref 0, .int (3 : Int32)] h1 (oh_r1 (fun x4 h3 => Q (some (.int x4)) h3))))))) : MM (d + 1) jX8_open [.ref 0] h Q := oh_mwp_1 (nL := 5) (T := tX8_open) rfl rfl (oh_run_wp (oh_mwp_m d) 287 q)
set_option maxRecDepth 20000 in
theorem bX8_open_25 {d : Nat} {Q : oh_Q} {h : oh_St} {v1 v4 : Int32} {v2 : Int64} (q : ((((1 : Int32) <<< (v1 &&& 31)) ≤ v4 → MM d jX8_hats [.ref 0] h (oh_r1 (fun x2 h1 => ((¬ (lg_cmp ((v2 >>> (x2.toInt64 &&& 63)) &&& (1 : Int64)) (0 : Int64)) = 0 → (vp_in (1 : Int32) 210 ∧ (vp_in (3 : Int32) 210 ∧ (vp_in (2 : Int32) 210 ∧ MM d jX8_manyOf [.long ((oh_upi (oh_upi (oh_upi (oh_upl h1 0 3 v2) 1 (1 : Int32).toNatClampNeg (1 : Int32)) 1 (3 : Int32).toNatClampNeg (0 : Int32)) 1 (2 : Int32).toNatClampNeg (0 : Int32)).2 0 3)] (oh_upi (oh_upi (oh_upi (oh_upl h1 0 3 v2) 1 (1 : Int32).toNatClampNeg (1 : Int32)) 1 (3 : Int32).toNatClampNeg (0 : Int32)) 1 (2 : Int32).toNatClampNeg (0 : Int32)) (oh_r1 (fun x4 h3 => Q (some (.int x4)) h3)))))) ∧ ((lg_cmp ((v2 >>> (x2.toInt64 &&& 63)) &&& (1 : Int64)) (0 : Int64)) = 0 → MM d jX8_finds [.ref 0, .int (3 : Int32)] h1 (oh_r1 (fun x6 h5 => Q (some (.int x6)) h5))))))) ∧ (¬ ((1 : Int32) <<< (v1 &&& 31)) ≤ v4 → ((¬ v1 = 0 → MM d jX8_ones [.int v4] h (oh_r1 (fun x8 h7 => MM d jX8_gives [.ref 0, .int (0 : Int32), .int x8, .int v1, .int (v4 &&& (1 : Int32)), .int ((v4 >>> ((v1 - (1 : Int32)) &&& 31)) &&& (1 : Int32))] h7 (oh_r1 (fun x10 h9 => ((x10 = 0 → wX8_open_25 d Q v1 (v2 ||| (0 : Int64)) (v4 + (1 : Int32)) h9) ∧ (¬ x10 = 0 → wX8_open_25 d Q v1 (v2 ||| ((1 : Int64) <<< (v4.toInt64 &&& 63))) (v4 + (1 : Int32)) h9))))))) ∧ (v1 = 0 → MM d jX8_ones [.int v4] h (oh_r1 (fun x12 h11 => MM d jX8_gives [.ref 0, .int (0 : Int32), .int x12, .int v1, .int (v4 &&& (1 : Int32)), .int (0 : Int32)] h11 (oh_r1 (fun x14 h13 => ((x14 = 0 → wX8_open_25 d Q v1 (v2 ||| (0 : Int64)) (v4 + (1 : Int32)) h13) ∧ (¬ x14 = 0 → wX8_open_25 d Q v1 (v2 ||| ((1 : Int64) <<< (v4.toInt64 &&& 63))) (v4 + (1 : Int32)) h13))))))))))) : wX8_open_25 d Q v1 v2 v4 h := oh_run_wp (oh_mwp_m d) 287 q
set_option maxRecDepth 20000 in
theorem mX8_close {d : Nat} {Q : oh_Q} {h : oh_St} (q : MM d jX8_isOpen [.ref 0] h (oh_r1 (fun x2 h1 => ((¬ x2 = 0 → (vp_in (1 : Int32) 210 ∧ (vp_in (3 : Int32) 210 ∧ MM d jX8_ones [.int ((oh_upi h1 1 (1 : Int32).toNatClampNeg (0 : Int32)).1 1 (3 : Int32).toNatClampNeg)] (oh_upi h1 1 (1 : Int32).toNatClampNeg (0 : Int32)) (oh_r1 (fun x4 h3 => Q (some (.int x4)) h3))))) ∧ (x2 = 0 → MM d jX8_finds [.ref 0, .int (3 : Int32)] h1 (oh_r1 (fun x6 h5 => Q (some (.int x6)) h5))))))) : MM (d + 1) jX8_close [.ref 0] h Q := oh_mwp_1 (nL := 0) (T := tX8_close) rfl rfl (oh_run_wp (oh_mwp_m d) 74 q)
set_option maxRecDepth 20000 in
theorem mX8_drawn {d : Nat} {Q : oh_Q} {h : oh_St} (q : (vp_in (5 : Int32) 210 ∧ (vp_in (5 : Int32) 210 ∧ (vp_in (5 : Int32) 210 ∧ Q (some (.int ((((oh_upi h 1 (5 : Int32).toNatClampNeg (((h.1 1 (5 : Int32).toNatClampNeg) * (1103515245 : Int32)) + (12345 : Int32))).1 1 (5 : Int32).toNatClampNeg).toUInt32 >>> ((8 : Int32).toUInt32 &&& Int32.toUInt32 31)).toInt32))) (oh_upi h 1 (5 : Int32).toNatClampNeg (((h.1 1 (5 : Int32).toNatClampNeg) * (1103515245 : Int32)) + (12345 : Int32))))))) : MM (d + 1) jX8_drawn [.ref 0] h Q := oh_mwp_1 (nL := 0) (T := tX8_drawn) rfl rfl (oh_run_wp (oh_mwp_m d) 77 q)
set_option maxRecDepth 20000 in
theorem mX8_pays {d : Nat} {Q : oh_Q} {h : oh_St} {v1 v2 v3 : Int32} (q : ((v2 = 0 → (vp_in (4 : Int32) 210 ∧ MM d jX8_of [.ref 0, .int v1, .int (4 : Int32)] h (oh_r1 (fun x2 h1 => MM d jX8_held [.int (x2 + (-(h.1 1 (4 : Int32).toNatClampNeg))), .int (-99999 : Int32), .int (99999 : Int32)] h1 (oh_r1 (fun x4 h3 => MM d jX8_becomes [.ref 0, .int v1, .int (4 : Int32), .int x4] h3 (oh_r0 (fun h5 => Q none h5)))))))) ∧ (¬ v2 = 0 → MM d jX8_of [.ref 0, .int v1, .int (2 : Int32)] h (oh_r1 (fun x7 h6 => (vp_in (2 : Int32) 210 ∧ MM d jX8_gives [.ref 0, .int (1 : Int32), .int x7, .int (h6.1 1 (2 : Int32).toNatClampNeg), .int v3, .int (0 : Int32)] h6 (oh_r1 (fun x9 h8 => MM d jX8_of [.ref 0, .int v1, .int (4 : Int32)] h8 (oh_r1 (fun x11 h10 => MM d jX8_held [.int (x11 + x9), .int (-99999 : Int32), .int (99999 : Int32)] h10 (oh_r1 (fun x13 h12 => MM d jX8_becomes [.ref 0, .int v1, .int (4 : Int32), .int x13] h12 (oh_r0 (fun h14 => Q none h14)))))))))))))) : MM (d + 1) jX8_pays [.ref 0, .int v1, .int v2, .int v3] h Q := oh_mwp_1 (nL := 4) (T := tX8_pays) rfl rfl (oh_run_wp (oh_mwp_m d) 128 q)
abbrev wX8_rings_26 (d : Nat) (Q : oh_Q) (v1 : Int32) (v3 : Int32) (v4 : Int32) (v5 : Int32) (h : oh_St) : Prop := oh_wp GM tX8_rings (MM d) Q 26 cX8_rings_26 [some (.ref 0), some (.int v1), none, some (.int v3), some (.int v4), some (.int v5), none, none] [] h
abbrev wX8_rings_82 (d : Nat) (Q : oh_Q) (v3 : Int32) (v4 : Int32) (v5 : Int64) (v7 : Int32) (h : oh_St) : Prop := oh_wp GM tX8_rings (MM d) Q 82 cX8_rings_82 [some (.ref 0), none, none, some (.int v3), some (.int v4), some (.long v5), none, some (.int v7)] [] h
abbrev wX8_rings_164 (d : Nat) (Q : oh_Q) (v3 : Int32) (v4 : Int32) (v7 : Int32) (h : oh_St) : Prop := oh_wp GM tX8_rings (MM d) Q 164 cX8_rings_164 [some (.ref 0), none, none, some (.int v3), some (.int v4), none, none, some (.int v7)] [] h
set_option maxRecDepth 20000 in
theorem mX8_rings {d : Nat} {Q : oh_Q} {h : oh_St} {v1 : Int32} (q : MM d jX8_think [.ref 0] h (oh_r0 (fun h1 => MM d jX8_hats [.ref 0] h1 (oh_r1 (fun x3 h2 => MM d jX8_speakers [.ref 0, .int x3] h2 (oh_r1 (fun x5 h4 => MM d jX8_sayings [.ref 0, .int x3, .int x5] h4 (oh_r1 (fun x7 h6 => wX8_rings_26 d Q v1 x5 x7 (0 : Int32) h6))))))))) : MM (d + 1) jX8_rings [.ref 0, .int v1] h Q := oh_mwp_1 (nL := 7) (T := tX8_rings) rfl rfl (oh_run_wp (oh_mwp_m d) 443 q)
set_option maxRecDepth 20000 in
theorem bX8_rings_26 {d : Nat} {Q : oh_Q} {h : oh_St} {v1 v3 v4 v5 : Int32} (q : (vp_in (0 : Int32) 210 ∧ (((h.1 1 (0 : Int32).toNatClampNeg) ≤ v5 → wX8_rings_82 d Q v3 v4 (0 : Int64) (0 : Int32) h) ∧ (¬ (h.1 1 (0 : Int32).toNatClampNeg) ≤ v5 → ((v1 = 0 → wX8_rings_82 d Q v3 v4 (0 : Int64) (0 : Int32) h) ∧ (¬ v1 = 0 → ((¬ ((v3 >>> (v5 &&& 31)) &&& (1 : Int32)) = (1 : Int32) → wX8_rings_26 d Q v1 v3 v4 (v5 + (1 : Int32)) h) ∧ (((v3 >>> (v5 &&& 31)) &&& (1 : Int32)) = (1 : Int32) → MM d jX8_drawn [.ref 0] h (oh_r1 (fun x2 h1 => (¬ (8 : Int32) = 0 ∧ ((¬ (x2 - x2 / (8 : Int32) * (8 : Int32)) = 0 → wX8_rings_26 d Q v1 v3 v4 (v5 + (1 : Int32)) h1) ∧ ((x2 - x2 / (8 : Int32) * (8 : Int32)) = 0 → wX8_rings_26 d Q v1 v3 (v4 ^^^ ((1 : Int32) <<< (v5 &&& 31))) (v5 + (1 : Int32)) h1))))))))))))) : wX8_rings_26 d Q v1 v3 v4 v5 h := oh_run_wp (oh_mwp_m d) 443 q
set_option maxRecDepth 20000 in
theorem bX8_rings_82 {d : Nat} {Q : oh_Q} {h : oh_St} {v3 v4 v7 : Int32} {v5 : Int64} (q : (vp_in (0 : Int32) 210 ∧ ((((1 : Int32) <<< ((h.1 1 (0 : Int32).toNatClampNeg) &&& 31)) ≤ v7 → ((¬ (lg_cmp v5 (0 : Int64)) = 0 → wX8_rings_164 d Q v3 v4 (0 : Int32) (oh_upl h 0 3 v5)) ∧ ((lg_cmp v5 (0 : Int64)) = 0 → wX8_rings_164 d Q v3 v4 (0 : Int32) (oh_upl h 0 3 (h.2 0 3))))) ∧ (¬ ((1 : Int32) <<< ((h.1 1 (0 : Int32).toNatClampNeg) &&& 31)) ≤ v7 → MM d jX8_isPossible [.ref 0, .int v7] h (oh_r1 (fun x2 h1 => ((x2 = 0 → wX8_rings_82 d Q v3 v4 v5 (v7 + (1 : Int32)) h1) ∧ (¬ x2 = 0 → MM d jX8_speakers [.ref 0, .int v7] h1 (oh_r1 (fun x4 h3 => ((¬ x4 = v3 → wX8_rings_82 d Q v3 v4 v5 (v7 + (1 : Int32)) h3) ∧ (x4 = v3 → MM d jX8_sayings [.ref 0, .int v7, .int v3] h3 (oh_r1 (fun x6 h5 => ((¬ x6 = v4 → wX8_rings_82 d Q v3 v4 v5 (v7 + (1 : Int32)) h5) ∧ (x6 = v4 → wX8_rings_82 d Q v3 v4 (v5 ||| ((1 : Int64) <<< (v7.toInt64 &&& 63))) (v7 + (1 : Int32)) h5)))))))))))))))) : wX8_rings_82 d Q v3 v4 v5 v7 h := oh_run_wp (oh_mwp_m d) 443 q
set_option maxRecDepth 20000 in
theorem bX8_rings_164 {d : Nat} {Q : oh_Q} {h : oh_St} {v3 v4 v7 : Int32} (q : (vp_in (0 : Int32) 210 ∧ (((h.1 1 (0 : Int32).toNatClampNeg) ≤ v7 → (vp_in (3 : Int32) 210 ∧ (vp_in (3 : Int32) 210 ∧ (vp_in (2 : Int32) 210 ∧ (vp_in (2 : Int32) 210 ∧ Q none (oh_upi (oh_upi h 1 (3 : Int32).toNatClampNeg ((h.1 1 (3 : Int32).toNatClampNeg) ||| v3)) 1 (2 : Int32).toNatClampNeg (((oh_upi h 1 (3 : Int32).toNatClampNeg ((h.1 1 (3 : Int32).toNatClampNeg) ||| v3)).1 1 (2 : Int32).toNatClampNeg) + (1 : Int32)))))))) ∧ (¬ (h.1 1 (0 : Int32).toNatClampNeg) ≤ v7 → ((¬ ((v3 >>> (v7 &&& 31)) &&& (1 : Int32)) = (1 : Int32) → wX8_rings_164 d Q v3 v4 (v7 + (1 : Int32)) h) ∧ (((v3 >>> (v7 &&& 31)) &&& (1 : Int32)) = (1 : Int32) → MM d jX8_of [.ref 0, .int v7, .int (2 : Int32)] h (oh_r1 (fun x2 h1 => ((¬ ((v4 >>> (v7 &&& 31)) &&& (1 : Int32)) = x2 → MM d jX8_ones [.int v3] h1 (oh_r1 (fun x4 h3 => MM d jX8_pays [.ref 0, .int v7, .int (0 : Int32), .int x4] h3 (oh_r0 (fun h5 => wX8_rings_164 d Q v3 v4 (v7 + (1 : Int32)) h5))))) ∧ (((v4 >>> (v7 &&& 31)) &&& (1 : Int32)) = x2 → MM d jX8_ones [.int v3] h1 (oh_r1 (fun x7 h6 => MM d jX8_pays [.ref 0, .int v7, .int (1 : Int32), .int x7] h6 (oh_r0 (fun h8 => wX8_rings_164 d Q v3 v4 (v7 + (1 : Int32)) h8)))))))))))))) : wX8_rings_164 d Q v3 v4 v7 h := oh_run_wp (oh_mwp_m d) 443 q
abbrev wX8_goesOn_2 (d : Nat) (Q : oh_Q) (v1 : Int32) (v2 : Int32) (v3 : Int32) (h : oh_St) : Prop := oh_wp GM tX8_goesOn (MM d) Q 2 cX8_goesOn_2 [some (.ref 0), some (.int v1), some (.int v2), some (.int v3)] [] h
set_option maxRecDepth 20000 in
theorem mX8_goesOn {d : Nat} {Q : oh_Q} {h : oh_St} {v1 v2 : Int32} (q : wX8_goesOn_2 d Q v1 v2 (0 : Int32) h) : MM (d + 1) jX8_goesOn [.ref 0, .int v1, .int v2] h Q := oh_mwp_1 (nL := 3) (T := tX8_goesOn) rfl rfl (oh_run_wp (oh_mwp_m d) 53 q)
set_option maxRecDepth 20000 in
theorem bX8_goesOn_2 {d : Nat} {Q : oh_Q} {h : oh_St} {v1 v2 v3 : Int32} (q : ((v1 ≤ v3 → Q none h) ∧ (¬ v1 ≤ v3 → MM d jX8_rings [.ref 0, .int v2] h (oh_r0 (fun h1 => wX8_goesOn_2 d Q v1 v2 (v3 + (1 : Int32)) h1))))) : wX8_goesOn_2 d Q v1 v2 v3 h := oh_run_wp (oh_mwp_m d) 53 q
set_option maxRecDepth 20000 in
theorem mX8_rung {d : Nat} {Q : oh_Q} {h : oh_St} {v1 v2 : Int32} (q : MM d jX8_in [.long (v1.toInt64), .long (1 : Int64), .long (30 : Int64)] h (oh_r1 (fun x2 h1 => ((¬ x2 = 0 → MM d jX8_isOpen [.ref 0] h1 (oh_r1 (fun x4 h3 => ((x4 = 0 → MM d jX8_finds [.ref 0, .int (3 : Int32)] h3 (oh_r1 (fun x6 h5 => Q (some (.int x6)) h5))) ∧ (¬ x4 = 0 → (vp_in (2 : Int32) 210 ∧ ((((h3.1 1 (2 : Int32).toNatClampNeg) + v1) ≤ (99 : Int32) → MM d jX8_goesOn [.ref 0, .int v1, .int v2] h3 (oh_r0 (fun h7 => (vp_in (3 : Int32) 210 ∧ Q (some (.int (h7.1 1 (3 : Int32).toNatClampNeg))) h7)))) ∧ (¬ ((h3.1 1 (2 : Int32).toNatClampNeg) + v1) ≤ (99 : Int32) → MM d jX8_finds [.ref 0, .int (3 : Int32)] h3 (oh_r1 (fun x9 h8 => Q (some (.int x9)) h8)))))))))) ∧ (x2 = 0 → MM d jX8_finds [.ref 0, .int (1 : Int32)] h1 (oh_r1 (fun x11 h10 => Q (some (.int x11)) h10))))))) : MM (d + 1) jX8_rung [.ref 0, .int v1, .int v2] h Q := oh_mwp_1 (nL := 2) (T := tX8_rung) rfl rfl (oh_run_wp (oh_mwp_m d) 122 q)
set_option maxRecDepth 20000 in
theorem mX8_bells {d : Nat} {Q : oh_Q} {h : oh_St} {v1 : Int32} (q : MM d jX8_rung [.ref 0, .int v1, .int (0 : Int32)] h (oh_r1 (fun x2 h1 => Q (some (.int x2)) h1))) : MM (d + 1) jX8_bells [.ref 0, .int v1] h Q := oh_mwp_1 (nL := 1) (T := tX8_bells) rfl rfl (oh_run_wp (oh_mwp_m d) 35 q)
set_option maxRecDepth 20000 in
theorem mX8_loose {d : Nat} {Q : oh_Q} {h : oh_St} {v1 : Int32} (q : MM d jX8_rung [.ref 0, .int v1, .int (1 : Int32)] h (oh_r1 (fun x2 h1 => Q (some (.int x2)) h1))) : MM (d + 1) jX8_loose [.ref 0, .int v1] h Q := oh_mwp_1 (nL := 1) (T := tX8_loose) rfl rfl (oh_run_wp (oh_mwp_m d) 35 q)
set_option maxRecDepth 20000 in
theorem mX8_why {d : Nat} {Q : oh_Q} {h : oh_St} {v1 : Int32} (q : ((¬ v1 = 0 → MM d jX8_isOpen [.ref 0] h (oh_r1 (fun x2 h1 => ((¬ x2 = 0 → Q (some (.int (0 : Int32))) h1) ∧ (x2 = 0 → Q (some (.int (3 : Int32))) h1))))) ∧ (v1 = 0 → Q (some (.int (1 : Int32))) h))) : MM (d + 1) jX8_why [.ref 0, .int v1] h Q := oh_mwp_1 (nL := 1) (T := tX8_why) rfl rfl (oh_run_wp (oh_mwp_m d) 53 q)
set_option maxRecDepth 20000 in
theorem mX8_possible {d : Nat} {Q : oh_Q} {h : oh_St} {v1 : Int32} (q : MM d jX8_allMen [.ref 0] h (oh_r1 (fun x2 h1 => MM d jX8_in [.long (v1.toInt64), .long (0 : Int64), .long (x2.toInt64)] h1 (oh_r1 (fun x4 h3 => MM d jX8_why [.ref 0, .int x4] h3 (oh_r1 (fun x6 h5 => ((x6 = 0 → MM d jX8_isPossible [.ref 0, .int v1] h5 (oh_r1 (fun x8 h7 => ((x8 = 0 → Q (some (.int (0 : Int32))) h7) ∧ (¬ x8 = 0 → Q (some (.int (1 : Int32))) h7))))) ∧ (¬ x6 = 0 → MM d jX8_finds [.ref 0, .int x6] h5 (oh_r1 (fun x10 h9 => Q (some (.int x10)) h9))))))))))) : MM (d + 1) jX8_possible [.ref 0, .int v1] h Q := oh_mwp_1 (nL := 2) (T := tX8_possible) rfl rfl (oh_run_wp (oh_mwp_m d) 92 q)
set_option maxRecDepth 20000 in
theorem mX8_thinks {d : Nat} {Q : oh_Q} {h : oh_St} {v1 v2 : Int32} (q : MM d jX8_isMan [.ref 0, .int v1] h (oh_r1 (fun x2 h1 => ((x2 = 0 → MM d jX8_why [.ref 0, .int (0 : Int32)] h1 (oh_r1 (fun x4 h3 => ((x4 = 0 → MM d jX8_think [.ref 0] h3 (oh_r0 (fun h5 => MM d jX8_hats [.ref 0] h5 (oh_r1 (fun x7 h6 => ((v2 = (0 : Int32) → MM d jX8_blackOf [.ref 0, .int v1, .int x7] h6 (oh_r1 (fun x17 h16 => Q (some (.int x17)) h16))) ∧ (¬ v2 = (0 : Int32) → ((v2 = (1 : Int32) → MM d jX8_whiteOf [.ref 0, .int v1, .int x7] h6 (oh_r1 (fun x15 h14 => Q (some (.int x15)) h14))) ∧ (¬ v2 = (1 : Int32) → ((v2 = (2 : Int32) → MM d jX8_knows [.ref 0, .int v1, .int x7] h6 (oh_r1 (fun x13 h12 => ((x13 = 0 → Q (some (.int (0 : Int32))) h12) ∧ (¬ x13 = 0 → Q (some (.int (1 : Int32))) h12))))) ∧ (¬ v2 = (2 : Int32) → ((v2 = (3 : Int32) → MM d jX8_wouldSay [.ref 0, .int v1, .int x7] h6 (oh_r1 (fun x11 h10 => Q (some (.int x11)) h10))) ∧ (¬ v2 = (3 : Int32) → MM d jX8_speaks [.ref 0, .int v1, .int x7] h6 (oh_r1 (fun x9 h8 => ((x9 = 0 → Q (some (.int (0 : Int32))) h8) ∧ (¬ x9 = 0 → Q (some (.int (1 : Int32))) h8))))))))))))))))) ∧ (¬ x4 = 0 → MM d jX8_finds [.ref 0, .int x4] h3 (oh_r1 (fun x19 h18 => Q (some (.int x19)) h18))))))) ∧ (¬ x2 = 0 → MM d jX8_in [.long (v2.toInt64), .long (0 : Int64), .long (4 : Int64)] h1 (oh_r1 (fun x21 h20 => ((x21 = 0 → MM d jX8_why [.ref 0, .int (0 : Int32)] h20 (oh_r1 (fun x23 h22 => ((x23 = 0 → MM d jX8_think [.ref 0] h22 (oh_r0 (fun h24 => MM d jX8_hats [.ref 0] h24 (oh_r1 (fun x26 h25 => ((v2 = (0 : Int32) → MM d jX8_blackOf [.ref 0, .int v1, .int x26] h25 (oh_r1 (fun x36 h35 => Q (some (.int x36)) h35))) ∧ (¬ v2 = (0 : Int32) → ((v2 = (1 : Int32) → MM d jX8_whiteOf [.ref 0, .int v1, .int x26] h25 (oh_r1 (fun x34 h33 => Q (some (.int x34)) h33))) ∧ (¬ v2 = (1 : Int32) → ((v2 = (2 : Int32) → MM d jX8_knows [.ref 0, .int v1, .int x26] h25 (oh_r1 (fun x32 h31 => ((x32 = 0 → Q (some (.int (0 : Int32))) h31) ∧ (¬ x32 = 0 → Q (some (.int (1 : Int32))) h31))))) ∧ (¬ v2 = (2 : Int32) → ((v2 = (3 : Int32) → MM d jX8_wouldSay [.ref 0, .int v1, .int x26] h25 (oh_r1 (fun x30 h29 => Q (some (.int x30)) h29))) ∧ (¬ v2 = (3 : Int32) → MM d jX8_speaks [.ref 0, .int v1, .int x26] h25 (oh_r1 (fun x28 h27 => ((x28 = 0 → Q (some (.int (0 : Int32))) h27) ∧ (¬ x28 = 0 → Q (some (.int (1 : Int32))) h27))))))))))))))))) ∧ (¬ x23 = 0 → MM d jX8_finds [.ref 0, .int x23] h22 (oh_r1 (fun x38 h37 => Q (some (.int x38)) h37))))))) ∧ (¬ x21 = 0 → MM d jX8_why [.ref 0, .int (1 : Int32)] h20 (oh_r1 (fun x40 h39 => ((x40 = 0 → MM d jX8_think [.ref 0] h39 (oh_r0 (fun h41 => MM d jX8_hats [.ref 0] h41 (oh_r1 (fun x43 h42 => ((v2 = (0 : Int32) → MM d jX8_blackOf [.ref 0, .int v1, .int x43] h42 (oh_r1 (fun x53 h52 => Q (some (.int x53)) h52))) ∧ (¬ v2 = (0 : Int32) → ((v2 = (1 : Int32) → MM d jX8_whiteOf [.ref 0, .int v1, .int x43] h42 (oh_r1 (fun x51 h50 => Q (some (.int x51)) h50))) ∧ (¬ v2 = (1 : Int32) → ((v2 = (2 : Int32) → MM d jX8_knows [.ref 0, .int v1, .int x43] h42 (oh_r1 (fun x49 h48 => ((x49 = 0 → Q (some (.int (0 : Int32))) h48) ∧ (¬ x49 = 0 → Q (some (.int (1 : Int32))) h48))))) ∧ (¬ v2 = (2 : Int32) → ((v2 = (3 : Int32) → MM d jX8_wouldSay [.ref 0, .int v1, .int x43] h42 (oh_r1 (fun x47 h46 => Q (some (.int x47)) h46))) ∧ (¬ v2 = (3 : Int32) → MM d jX8_speaks [.ref 0, .int v1, .int x43] h42 (oh_r1 (fun x45 h44 => ((x45 = 0 → Q (some (.int (0 : Int32))) h44) ∧ (¬ x45 = 0 → Q (some (.int (1 : Int32))) h44))))))))))))))))) ∧ (¬ x40 = 0 → MM d jX8_finds [.ref 0, .int x40] h39 (oh_r1 (fun x55 h54 => Q (some (.int x55)) h54))))))))))))))) : MM (d + 1) jX8_thinks [.ref 0, .int v1, .int v2] h Q := oh_mwp_1 (nL := 4) (T := tX8_thinks) rfl rfl (oh_run_wp (oh_mwp_m d) 206 q)
set_option maxRecDepth 20000 in
theorem mX8_begins {d : Nat} {Q : oh_Q} {h : oh_St} (q : MM d jX8_copies [.ref 1, .ref 2] h (oh_r0 (fun h1 => Q none (oh_upl h1 0 4 (h1.2 0 3))))) : MM (d + 1) jX8_begins [.ref 0] h Q := oh_mwp_1 (nL := 0) (T := tX8_begins) rfl rfl (oh_run_wp (oh_mwp_m d) 50 q)
set_option maxRecDepth 20000 in
theorem mX8_ends {d : Nat} {Q : oh_Q} {h : oh_St} (q : MM d jX8_copies [.ref 2, .ref 1] h (oh_r0 (fun h1 => Q none (oh_upl h1 0 3 (h1.2 0 4))))) : MM (d + 1) jX8_ends [.ref 0] h Q := oh_mwp_1 (nL := 0) (T := tX8_ends) rfl rfl (oh_run_wp (oh_mwp_m d) 50 q)
set_option maxRecDepth 20000 in
theorem mX8_then {d : Nat} {Q : oh_Q} {h : oh_St} {v1 v2 : Int32} (q : MM d jX8_in [.long (v1.toInt64), .long (0 : Int64), .long (30 : Int64)] h (oh_r1 (fun x2 h1 => ((x2 = 0 → MM d jX8_why [.ref 0, .int (0 : Int32)] h1 (oh_r1 (fun x4 h3 => ((x4 = 0 → MM d jX8_begins [.ref 0] h3 (oh_r0 (fun h5 => MM d jX8_goesOn [.ref 0, .int v1, .int (0 : Int32)] h5 (oh_r0 (fun h6 => ((¬ v2 = 0 → MM d jX8_manyOf [.long (h6.2 0 3)] h6 (oh_r1 (fun x8 h7 => MM d jX8_ends [.ref 0] h7 (oh_r0 (fun h9 => Q (some (.int x8)) h9))))) ∧ (v2 = 0 → (vp_in (3 : Int32) 210 ∧ MM d jX8_ends [.ref 0] h6 (oh_r0 (fun h10 => Q (some (.int (h6.1 1 (3 : Int32).toNatClampNeg))) h10)))))))))) ∧ (¬ x4 = 0 → MM d jX8_finds [.ref 0, .int x4] h3 (oh_r1 (fun x12 h11 => Q (some (.int x12)) h11))))))) ∧ (¬ x2 = 0 → MM d jX8_in [.long (v2.toInt64), .long (0 : Int64), .long (1 : Int64)] h1 (oh_r1 (fun x14 h13 => ((x14 = 0 → MM d jX8_why [.ref 0, .int (0 : Int32)] h13 (oh_r1 (fun x16 h15 => ((x16 = 0 → MM d jX8_begins [.ref 0] h15 (oh_r0 (fun h17 => MM d jX8_goesOn [.ref 0, .int v1, .int (0 : Int32)] h17 (oh_r0 (fun h18 => ((¬ v2 = 0 → MM d jX8_manyOf [.long (h18.2 0 3)] h18 (oh_r1 (fun x20 h19 => MM d jX8_ends [.ref 0] h19 (oh_r0 (fun h21 => Q (some (.int x20)) h21))))) ∧ (v2 = 0 → (vp_in (3 : Int32) 210 ∧ MM d jX8_ends [.ref 0] h18 (oh_r0 (fun h22 => Q (some (.int (h18.1 1 (3 : Int32).toNatClampNeg))) h22)))))))))) ∧ (¬ x16 = 0 → MM d jX8_finds [.ref 0, .int x16] h15 (oh_r1 (fun x24 h23 => Q (some (.int x24)) h23))))))) ∧ (¬ x14 = 0 → MM d jX8_why [.ref 0, .int (1 : Int32)] h13 (oh_r1 (fun x26 h25 => ((x26 = 0 → MM d jX8_begins [.ref 0] h25 (oh_r0 (fun h27 => MM d jX8_goesOn [.ref 0, .int v1, .int (0 : Int32)] h27 (oh_r0 (fun h28 => ((¬ v2 = 0 → MM d jX8_manyOf [.long (h28.2 0 3)] h28 (oh_r1 (fun x30 h29 => MM d jX8_ends [.ref 0] h29 (oh_r0 (fun h31 => Q (some (.int x30)) h31))))) ∧ (v2 = 0 → (vp_in (3 : Int32) 210 ∧ MM d jX8_ends [.ref 0] h28 (oh_r0 (fun h32 => Q (some (.int (h28.1 1 (3 : Int32).toNatClampNeg))) h32)))))))))) ∧ (¬ x26 = 0 → MM d jX8_finds [.ref 0, .int x26] h25 (oh_r1 (fun x34 h33 => Q (some (.int x34)) h33))))))))))))))) : MM (d + 1) jX8_then [.ref 0, .int v1, .int v2] h Q := oh_mwp_1 (nL := 4) (T := tX8_then) rfl rfl (oh_run_wp (oh_mwp_m d) 155 q)
set_option maxRecDepth 20000 in
theorem mX8_thenPaid {d : Nat} {Q : oh_Q} {h : oh_St} {v1 v2 : Int32} (q : MM d jX8_in [.long (v1.toInt64), .long (0 : Int64), .long (30 : Int64)] h (oh_r1 (fun x2 h1 => ((x2 = 0 → MM d jX8_why [.ref 0, .int (0 : Int32)] h1 (oh_r1 (fun x4 h3 => ((x4 = 0 → MM d jX8_begins [.ref 0] h3 (oh_r0 (fun h5 => MM d jX8_goesOn [.ref 0, .int v1, .int (0 : Int32)] h5 (oh_r0 (fun h6 => MM d jX8_of [.ref 0, .int v2, .int (4 : Int32)] h6 (oh_r1 (fun x8 h7 => MM d jX8_ends [.ref 0] h7 (oh_r0 (fun h9 => Q (some (.int x8)) h9))))))))) ∧ (¬ x4 = 0 → MM d jX8_finds [.ref 0, .int x4] h3 (oh_r1 (fun x11 h10 => Q (some (.int x11)) h10))))))) ∧ (¬ x2 = 0 → MM d jX8_isMan [.ref 0, .int v2] h1 (oh_r1 (fun x13 h12 => ((x13 = 0 → MM d jX8_why [.ref 0, .int (0 : Int32)] h12 (oh_r1 (fun x15 h14 => ((x15 = 0 → MM d jX8_begins [.ref 0] h14 (oh_r0 (fun h16 => MM d jX8_goesOn [.ref 0, .int v1, .int (0 : Int32)] h16 (oh_r0 (fun h17 => MM d jX8_of [.ref 0, .int v2, .int (4 : Int32)] h17 (oh_r1 (fun x19 h18 => MM d jX8_ends [.ref 0] h18 (oh_r0 (fun h20 => Q (some (.int x19)) h20))))))))) ∧ (¬ x15 = 0 → MM d jX8_finds [.ref 0, .int x15] h14 (oh_r1 (fun x22 h21 => Q (some (.int x22)) h21))))))) ∧ (¬ x13 = 0 → MM d jX8_why [.ref 0, .int (1 : Int32)] h12 (oh_r1 (fun x24 h23 => ((x24 = 0 → MM d jX8_begins [.ref 0] h23 (oh_r0 (fun h25 => MM d jX8_goesOn [.ref 0, .int v1, .int (0 : Int32)] h25 (oh_r0 (fun h26 => MM d jX8_of [.ref 0, .int v2, .int (4 : Int32)] h26 (oh_r1 (fun x28 h27 => MM d jX8_ends [.ref 0] h27 (oh_r0 (fun h29 => Q (some (.int x28)) h29))))))))) ∧ (¬ x24 = 0 → MM d jX8_finds [.ref 0, .int x24] h23 (oh_r1 (fun x31 h30 => Q (some (.int x31)) h30))))))))))))))) : MM (d + 1) jX8_thenPaid [.ref 0, .int v1, .int v2] h Q := oh_mwp_1 (nL := 4) (T := tX8_thenPaid) rfl rfl (oh_run_wp (oh_mwp_m d) 131 q)
abbrev wX8_soonest_2 (d : Nat) (Q : oh_Q) (v1 : Int32) (v2 : Int32) (h : oh_St) : Prop := oh_wp GM tX8_soonest (MM d) Q 2 cX8_soonest_2 [some (.ref 0), some (.int v1), some (.int v2)] [] h
set_option maxRecDepth 20000 in
theorem mX8_soonest {d : Nat} {Q : oh_Q} {h : oh_St} {v1 : Int32} (q : wX8_soonest_2 d Q v1 (0 : Int32) h) : MM (d + 1) jX8_soonest [.ref 0, .int v1] h Q := oh_mwp_1 (nL := 2) (T := tX8_soonest) rfl rfl (oh_run_wp (oh_mwp_m d) 92 q)
set_option maxRecDepth 20000 in
theorem bX8_soonest_2 {d : Nat} {Q : oh_Q} {h : oh_St} {v1 v2 : Int32} (q : (((30 : Int32) < v2 → Q (some (.int (-1 : Int32))) h) ∧ (¬ (30 : Int32) < v2 → (vp_in (3 : Int32) 210 ∧ ((¬ (((h.1 1 (3 : Int32).toNatClampNeg) >>> (v1 &&& 31)) &&& (1 : Int32)) = (1 : Int32) → MM d jX8_rings [.ref 0, .int (0 : Int32)] h (oh_r0 (fun h1 => wX8_soonest_2 d Q v1 (v2 + (1 : Int32)) h1))) ∧ ((((h.1 1 (3 : Int32).toNatClampNeg) >>> (v1 &&& 31)) &&& (1 : Int32)) = (1 : Int32) → Q (some (.int v2)) h)))))) : wX8_soonest_2 d Q v1 v2 h := oh_run_wp (oh_mwp_m d) 92 q
set_option maxRecDepth 20000 in
theorem mX8_when {d : Nat} {Q : oh_Q} {h : oh_St} {v1 : Int32} (q : MM d jX8_isMan [.ref 0, .int v1] h (oh_r1 (fun x2 h1 => MM d jX8_why [.ref 0, .int x2] h1 (oh_r1 (fun x4 h3 => ((x4 = 0 → MM d jX8_begins [.ref 0] h3 (oh_r0 (fun h5 => MM d jX8_soonest [.ref 0, .int v1] h5 (oh_r1 (fun x7 h6 => MM d jX8_ends [.ref 0] h6 (oh_r0 (fun h8 => ((0 ≤ x7 → Q (some (.int x7)) h8) ∧ (¬ 0 ≤ x7 → MM d jX8_finds [.ref 0, .int (2 : Int32)] h8 (oh_r1 (fun x10 h9 => Q (some (.int x10)) h9))))))))))) ∧ (¬ x4 = 0 → MM d jX8_finds [.ref 0, .int x4] h3 (oh_r1 (fun x12 h11 => Q (some (.int x12)) h11))))))))) : MM (d + 1) jX8_when [.ref 0, .int v1] h Q := oh_mwp_1 (nL := 3) (T := tX8_when) rfl rfl (oh_run_wp (oh_mwp_m d) 104 q)
set_option maxRecDepth 20000 in
theorem mX8_othersBy {d : Nat} {Q : oh_Q} {h : oh_St} {v1 v2 : Int32} (q : MM d jX8_goesOn [.ref 0, .int v2, .int (0 : Int32)] h (oh_r0 (fun h1 => (vp_in (3 : Int32) 210 ∧ MM d jX8_ones [.int ((h1.1 1 (3 : Int32).toNatClampNeg) &&& (((1 : Int32) <<< (v1 &&& 31)) ^^^ (-1 : Int32)))] h1 (oh_r1 (fun x3 h2 => Q (some (.int x3)) h2)))))) : MM (d + 1) jX8_othersBy [.ref 0, .int v1, .int v2] h Q := oh_mwp_1 (nL := 2) (T := tX8_othersBy) rfl rfl (oh_run_wp (oh_mwp_m d) 68 q)
set_option maxRecDepth 20000 in
theorem mX8_silence {d : Nat} {Q : oh_Q} {h : oh_St} {v1 v2 : Int32} (q : MM d jX8_isMan [.ref 0, .int v1] h (oh_r1 (fun x2 h1 => ((x2 = 0 → MM d jX8_why [.ref 0, .int (0 : Int32)] h1 (oh_r1 (fun x4 h3 => ((x4 = 0 → MM d jX8_begins [.ref 0] h3 (oh_r0 (fun h5 => MM d jX8_othersBy [.ref 0, .int v1, .int v2] h5 (oh_r1 (fun x7 h6 => MM d jX8_ends [.ref 0] h6 (oh_r0 (fun h8 => MM d jX8_begins [.ref 0] h8 (oh_r0 (fun h9 => MM d jX8_becomes [.ref 0, .int v1, .int (0 : Int32), .int (3 : Int32)] h9 (oh_r0 (fun h10 => MM d jX8_othersBy [.ref 0, .int v1, .int v2] h10 (oh_r1 (fun x12 h11 => MM d jX8_ends [.ref 0] h11 (oh_r0 (fun h13 => Q (some (.int (x7 - x12))) h13))))))))))))))) ∧ (¬ x4 = 0 → MM d jX8_finds [.ref 0, .int x4] h3 (oh_r1 (fun x15 h14 => Q (some (.int x15)) h14))))))) ∧ (¬ x2 = 0 → MM d jX8_in [.long (v2.toInt64), .long (0 : Int64), .long (30 : Int64)] h1 (oh_r1 (fun x17 h16 => ((x17 = 0 → MM d jX8_why [.ref 0, .int (0 : Int32)] h16 (oh_r1 (fun x19 h18 => ((x19 = 0 → MM d jX8_begins [.ref 0] h18 (oh_r0 (fun h20 => MM d jX8_othersBy [.ref 0, .int v1, .int v2] h20 (oh_r1 (fun x22 h21 => MM d jX8_ends [.ref 0] h21 (oh_r0 (fun h23 => MM d jX8_begins [.ref 0] h23 (oh_r0 (fun h24 => MM d jX8_becomes [.ref 0, .int v1, .int (0 : Int32), .int (3 : Int32)] h24 (oh_r0 (fun h25 => MM d jX8_othersBy [.ref 0, .int v1, .int v2] h25 (oh_r1 (fun x27 h26 => MM d jX8_ends [.ref 0] h26 (oh_r0 (fun h28 => Q (some (.int (x22 - x27))) h28))))))))))))))) ∧ (¬ x19 = 0 → MM d jX8_finds [.ref 0, .int x19] h18 (oh_r1 (fun x30 h29 => Q (some (.int x30)) h29))))))) ∧ (¬ x17 = 0 → MM d jX8_why [.ref 0, .int (1 : Int32)] h16 (oh_r1 (fun x32 h31 => ((x32 = 0 → MM d jX8_begins [.ref 0] h31 (oh_r0 (fun h33 => MM d jX8_othersBy [.ref 0, .int v1, .int v2] h33 (oh_r1 (fun x35 h34 => MM d jX8_ends [.ref 0] h34 (oh_r0 (fun h36 => MM d jX8_begins [.ref 0] h36 (oh_r0 (fun h37 => MM d jX8_becomes [.ref 0, .int v1, .int (0 : Int32), .int (3 : Int32)] h37 (oh_r0 (fun h38 => MM d jX8_othersBy [.ref 0, .int v1, .int v2] h38 (oh_r1 (fun x40 h39 => MM d jX8_ends [.ref 0] h39 (oh_r0 (fun h41 => Q (some (.int (x35 - x40))) h41))))))))))))))) ∧ (¬ x32 = 0 → MM d jX8_finds [.ref 0, .int x32] h31 (oh_r1 (fun x43 h42 => Q (some (.int x43)) h42))))))))))))))) : MM (d + 1) jX8_silence [.ref 0, .int v1, .int v2] h Q := oh_mwp_1 (nL := 5) (T := tX8_silence) rfl rfl (oh_run_wp (oh_mwp_m d) 167 q)
abbrev wX8_hatsBecome_2 (d : Nat) (Q : oh_Q) (v1 : Int32) (v2 : Int32) (h : oh_St) : Prop := oh_wp GM tX8_hatsBecome (MM d) Q 2 cX8_hatsBecome_2 [some (.ref 0), some (.int v1), some (.int v2)] [] h
set_option maxRecDepth 20000 in
theorem mX8_hatsBecome {d : Nat} {Q : oh_Q} {h : oh_St} {v1 : Int32} (q : wX8_hatsBecome_2 d Q v1 (0 : Int32) h) : MM (d + 1) jX8_hatsBecome [.ref 0, .int v1] h Q := oh_mwp_1 (nL := 2) (T := tX8_hatsBecome) rfl rfl (oh_run_wp (oh_mwp_m d) 80 q)
set_option maxRecDepth 20000 in
theorem bX8_hatsBecome_2 {d : Nat} {Q : oh_Q} {h : oh_St} {v1 v2 : Int32} (q : (vp_in (0 : Int32) 210 ∧ (((h.1 1 (0 : Int32).toNatClampNeg) ≤ v2 → Q none h) ∧ (¬ (h.1 1 (0 : Int32).toNatClampNeg) ≤ v2 → MM d jX8_becomes [.ref 0, .int v2, .int (2 : Int32), .int ((v1 >>> (v2 &&& 31)) &&& (1 : Int32))] h (oh_r0 (fun h1 => wX8_hatsBecome_2 d Q v1 (v2 + (1 : Int32)) h1)))))) : wX8_hatsBecome_2 d Q v1 v2 h := oh_run_wp (oh_mwp_m d) 80 q
abbrev wX8_trick_51 (d : Nat) (Q : oh_Q) (v1 : Int32) (v2 : Int32) (v4 : Int32) (v5 : Int32) (v6 : Int32) (h : oh_St) : Prop := oh_wp GM tX8_trick (MM d) Q 51 cX8_trick_51 [some (.ref 0), some (.int v1), some (.int v2), none, some (.int v4), some (.int v5), some (.int v6), none] [] h
set_option maxRecDepth 20000 in
theorem mX8_trick {d : Nat} {Q : oh_Q} {h : oh_St} {v1 v2 : Int32} (q : MM d jX8_in [.long (v1.toInt64), .long (0 : Int64), .long (30 : Int64)] h (oh_r1 (fun x2 h1 => ((x2 = 0 → MM d jX8_why [.ref 0, .int (0 : Int32)] h1 (oh_r1 (fun x4 h3 => ((x4 = 0 → wX8_trick_51 d Q v1 v2 (-1 : Int32) (0 : Int32) (0 : Int32) h3) ∧ (¬ x4 = 0 → MM d jX8_finds [.ref 0, .int x4] h3 (oh_r1 (fun x6 h5 => Q (some (.int x6)) h5))))))) ∧ (¬ x2 = 0 → MM d jX8_in [.long (v2.toInt64), .long (0 : Int64), .long (1 : Int64)] h1 (oh_r1 (fun x8 h7 => ((x8 = 0 → MM d jX8_why [.ref 0, .int (0 : Int32)] h7 (oh_r1 (fun x10 h9 => ((x10 = 0 → wX8_trick_51 d Q v1 v2 (-1 : Int32) (0 : Int32) (0 : Int32) h9) ∧ (¬ x10 = 0 → MM d jX8_finds [.ref 0, .int x10] h9 (oh_r1 (fun x12 h11 => Q (some (.int x12)) h11))))))) ∧ (¬ x8 = 0 → MM d jX8_why [.ref 0, .int (1 : Int32)] h7 (oh_r1 (fun x14 h13 => ((x14 = 0 → wX8_trick_51 d Q v1 v2 (-1 : Int32) (0 : Int32) (0 : Int32) h13) ∧ (¬ x14 = 0 → MM d jX8_finds [.ref 0, .int x14] h13 (oh_r1 (fun x16 h15 => Q (some (.int x16)) h15))))))))))))))) : MM (d + 1) jX8_trick [.ref 0, .int v1, .int v2] h Q := oh_mwp_1 (nL := 7) (T := tX8_trick) rfl rfl (oh_run_wp (oh_mwp_m d) 248 q)
set_option maxRecDepth 20000 in
theorem bX8_trick_51 {d : Nat} {Q : oh_Q} {h : oh_St} {v1 v2 v4 v5 v6 : Int32} (q : (vp_in (0 : Int32) 210 ∧ ((((1 : Int32) <<< ((h.1 1 (0 : Int32).toNatClampNeg) &&& 31)) ≤ v6 → ((¬ v2 = 0 → Q (some (.int v5)) h) ∧ (v2 = 0 → Q (some (.int v4)) h))) ∧ (¬ ((1 : Int32) <<< ((h.1 1 (0 : Int32).toNatClampNeg) &&& 31)) ≤ v6 → MM d jX8_isPossible [.ref 0, .int v6] h (oh_r1 (fun x2 h1 => ((x2 = 0 → wX8_trick_51 d Q v1 v2 v4 v5 (v6 + (1 : Int32)) h1) ∧ (¬ x2 = 0 → MM d jX8_begins [.ref 0] h1 (oh_r0 (fun h3 => MM d jX8_hatsBecome [.ref 0, .int v6] h3 (oh_r0 (fun h4 => MM d jX8_goesOn [.ref 0, .int v1, .int (0 : Int32)] h4 (oh_r0 (fun h5 => (vp_in (3 : Int32) 210 ∧ MM d jX8_ones [.int (h5.1 1 (3 : Int32).toNatClampNeg)] h5 (oh_r1 (fun x7 h6 => MM d jX8_ends [.ref 0] h6 (oh_r0 (fun h8 => ((v4 < 0 → wX8_trick_51 d Q v1 v2 v6 x7 (v6 + (1 : Int32)) h8) ∧ (¬ v4 < 0 → ((v5 ≤ x7 → wX8_trick_51 d Q v1 v2 v4 v5 (v6 + (1 : Int32)) h8) ∧ (¬ v5 ≤ x7 → wX8_trick_51 d Q v1 v2 v6 x7 (v6 + (1 : Int32)) h8))))))))))))))))))))))) : wX8_trick_51 d Q v1 v2 v4 v5 v6 h := oh_run_wp (oh_mwp_m d) 248 q
abbrev wX8_longest_20 (d : Nat) (Q : oh_Q) (v2 : Int32) (v3 : Int32) (h : oh_St) : Prop := oh_wp GM tX8_longest (MM d) Q 20 cX8_longest_20 [some (.ref 0), none, some (.int v2), some (.int v3), none, none] [] h
abbrev wX8_longest_52 (d : Nat) (Q : oh_Q) (v2 : Int32) (v3 : Int32) (v4 : Int32) (h : oh_St) : Prop := oh_wp GM tX8_longest (MM d) Q 52 cX8_longest_52 [some (.ref 0), none, some (.int v2), some (.int v3), some (.int v4), none] [] h
set_option maxRecDepth 20000 in
theorem mX8_longest {d : Nat} {Q : oh_Q} {h : oh_St} (q : MM d jX8_why [.ref 0, .int (1 : Int32)] h (oh_r1 (fun x2 h1 => ((x2 = 0 → wX8_longest_20 d Q (0 : Int32) (0 : Int32) h1) ∧ (¬ x2 = 0 → MM d jX8_finds [.ref 0, .int x2] h1 (oh_r1 (fun x4 h3 => Q (some (.int x4)) h3))))))) : MM (d + 1) jX8_longest [.ref 0] h Q := oh_mwp_1 (nL := 5) (T := tX8_longest) rfl rfl (oh_run_wp (oh_mwp_m d) 215 q)
set_option maxRecDepth 20000 in
theorem bX8_longest_20 {d : Nat} {Q : oh_Q} {h : oh_St} {v2 v3 : Int32} (q : (vp_in (0 : Int32) 210 ∧ ((((1 : Int32) <<< ((h.1 1 (0 : Int32).toNatClampNeg) &&& 31)) ≤ v3 → Q (some (.int v2)) h) ∧ (¬ ((1 : Int32) <<< ((h.1 1 (0 : Int32).toNatClampNeg) &&& 31)) ≤ v3 → MM d jX8_isPossible [.ref 0, .int v3] h (oh_r1 (fun x2 h1 => ((x2 = 0 → wX8_longest_20 d Q v2 (v3 + (1 : Int32)) h1) ∧ (¬ x2 = 0 → MM d jX8_begins [.ref 0] h1 (oh_r0 (fun h3 => MM d jX8_hatsBecome [.ref 0, .int v3] h3 (oh_r0 (fun h4 => wX8_longest_52 d Q v2 v3 (1 : Int32) h4)))))))))))) : wX8_longest_20 d Q v2 v3 h := oh_run_wp (oh_mwp_m d) 215 q
set_option maxRecDepth 20000 in
theorem bX8_longest_52 {d : Nat} {Q : oh_Q} {h : oh_St} {v2 v3 v4 : Int32} (q : (((30 : Int32) < v4 → MM d jX8_ends [.ref 0] h (oh_r0 (fun h1 => wX8_longest_20 d Q v2 (v3 + (1 : Int32)) h1))) ∧ (¬ (30 : Int32) < v4 → (vp_in (3 : Int32) 210 ∧ MM d jX8_rings [.ref 0, .int (0 : Int32)] h (oh_r0 (fun h2 => (vp_in (3 : Int32) 210 ∧ (((h2.1 1 (3 : Int32).toNatClampNeg) = (h.1 1 (3 : Int32).toNatClampNeg) → wX8_longest_52 d Q v2 v3 (v4 + (1 : Int32)) h2) ∧ (¬ (h2.1 1 (3 : Int32).toNatClampNeg) = (h.1 1 (3 : Int32).toNatClampNeg) → ((v4 ≤ v2 → wX8_longest_52 d Q v2 v3 (v4 + (1 : Int32)) h2) ∧ (¬ v4 ≤ v2 → wX8_longest_52 d Q v4 v3 (v4 + (1 : Int32)) h2))))))))))) : wX8_longest_52 d Q v2 v3 v4 h := oh_run_wp (oh_mwp_m d) 215 q
abbrev wX8_whoKnowBy_26 (d : Nat) (Q : oh_Q) (v1 : Int32) (v2 : Int64) (v4 : Int32) (v5 : Int32) (h : oh_St) : Prop := oh_wp GM tX8_whoKnowBy (MM d) Q 26 cX8_whoKnowBy_26 [some (.ref 0), some (.int v1), some (.long v2), none, some (.int v4), some (.int v5), none] [] h
abbrev wX8_whoKnowBy_97 (d : Nat) (Q : oh_Q) (v2 : Int64) (v5 : Int32) (v6 : Int32) (h : oh_St) : Prop := oh_wp GM tX8_whoKnowBy (MM d) Q 97 cX8_whoKnowBy_97 [some (.ref 0), none, some (.long v2), none, none, some (.int v5), some (.int v6)] [] h
set_option maxRecDepth 20000 in
theorem mX8_whoKnowBy {d : Nat} {Q : oh_Q} {h : oh_St} {v1 : Int32} (q : MM d jX8_hats [.ref 0] h (oh_r1 (fun x2 h1 => MM d jX8_ones [.int (x2 &&& v1)] h1 (oh_r1 (fun x4 h3 => (¬ (2 : Int32) = 0 ∧ wX8_whoKnowBy_26 d Q v1 (h.2 0 3) (x4 - x4 / (2 : Int32) * (2 : Int32)) (0 : Int32) (oh_upl h3 0 3 (0 : Int64)))))))) : MM (d + 1) jX8_whoKnowBy [.ref 0, .int v1] h Q := oh_mwp_1 (nL := 6) (T := tX8_whoKnowBy) rfl rfl (oh_run_wp (oh_mwp_m d) 269 q)
set_option maxRecDepth 20000 in
theorem bX8_whoKnowBy_26 {d : Nat} {Q : oh_Q} {h : oh_St} {v1 v4 v5 : Int32} {v2 : Int64} (q : (vp_in (0 : Int32) 210 ∧ ((((1 : Int32) <<< ((h.1 1 (0 : Int32).toNatClampNeg) &&& 31)) ≤ v5 → MM d jX8_think [.ref 0] h (oh_r0 (fun h1 => wX8_whoKnowBy_97 d Q v2 (0 : Int32) (0 : Int32) h1))) ∧ (¬ ((1 : Int32) <<< ((h.1 1 (0 : Int32).toNatClampNeg) &&& 31)) ≤ v5 → ((¬ (lg_cmp ((v2 >>> (v5.toInt64 &&& 63)) &&& (1 : Int64)) (1 : Int64)) = 0 → wX8_whoKnowBy_26 d Q v1 v2 v4 (v5 + (1 : Int32)) (oh_upl h 0 3 ((h.2 0 3) ||| (0 : Int64)))) ∧ ((lg_cmp ((v2 >>> (v5.toInt64 &&& 63)) &&& (1 : Int64)) (1 : Int64)) = 0 → MM d jX8_ones [.int (v5 &&& v1)] h (oh_r1 (fun x3 h2 => (¬ (2 : Int32) = 0 ∧ ((¬ (x3 - x3 / (2 : Int32) * (2 : Int32)) = v4 → wX8_whoKnowBy_26 d Q v1 v2 v4 (v5 + (1 : Int32)) (oh_upl h2 0 3 ((h.2 0 3) ||| (0 : Int64)))) ∧ ((x3 - x3 / (2 : Int32) * (2 : Int32)) = v4 → wX8_whoKnowBy_26 d Q v1 v2 v4 (v5 + (1 : Int32)) (oh_upl h2 0 3 ((h.2 0 3) ||| ((1 : Int64) <<< (v5.toInt64 &&& 63))))))))))))))) : wX8_whoKnowBy_26 d Q v1 v2 v4 v5 h := oh_run_wp (oh_mwp_m d) 269 q
set_option maxRecDepth 20000 in
theorem bX8_whoKnowBy_97 {d : Nat} {Q : oh_Q} {h : oh_St} {v5 v6 : Int32} {v2 : Int64} (q : (vp_in (0 : Int32) 210 ∧ (((h.1 1 (0 : Int32).toNatClampNeg) ≤ v6 → Q (some (.int v5)) (oh_upl h 0 3 v2)) ∧ (¬ (h.1 1 (0 : Int32).toNatClampNeg) ≤ v6 → MM d jX8_hats [.ref 0] h (oh_r1 (fun x2 h1 => MM d jX8_knows [.ref 0, .int v6, .int x2] h1 (oh_r1 (fun x4 h3 => ((x4 = 0 → wX8_whoKnowBy_97 d Q v2 (v5 + (0 : Int32)) (v6 + (1 : Int32)) h3) ∧ (¬ x4 = 0 → wX8_whoKnowBy_97 d Q v2 (v5 + (1 : Int32)) (v6 + (1 : Int32)) h3)))))))))) : wX8_whoKnowBy_97 d Q v2 v5 v6 h := oh_run_wp (oh_mwp_m d) 269 q
set_option maxRecDepth 20000 in
theorem mX8_signal {d : Nat} {Q : oh_Q} {h : oh_St} {v1 v2 : Int32} (q : MM d jX8_isMan [.ref 0, .int v1] h (oh_r1 (fun x2 h1 => ((x2 = 0 → MM d jX8_why [.ref 0, .int (0 : Int32)] h1 (oh_r1 (fun x4 h3 => ((x4 = 0 → MM d jX8_whoKnowBy [.ref 0, .int v2] h3 (oh_r1 (fun x6 h5 => Q (some (.int x6)) h5))) ∧ (¬ x4 = 0 → MM d jX8_finds [.ref 0, .int x4] h3 (oh_r1 (fun x8 h7 => Q (some (.int x8)) h7))))))) ∧ (¬ x2 = 0 → MM d jX8_of [.ref 0, .int v1, .int (3 : Int32)] h1 (oh_r1 (fun x10 h9 => ((¬ (v2 &&& (x10 ^^^ (-1 : Int32))) = 0 → MM d jX8_why [.ref 0, .int (0 : Int32)] h9 (oh_r1 (fun x12 h11 => ((x12 = 0 → MM d jX8_whoKnowBy [.ref 0, .int v2] h11 (oh_r1 (fun x14 h13 => Q (some (.int x14)) h13))) ∧ (¬ x12 = 0 → MM d jX8_finds [.ref 0, .int x12] h11 (oh_r1 (fun x16 h15 => Q (some (.int x16)) h15))))))) ∧ ((v2 &&& (x10 ^^^ (-1 : Int32))) = 0 → MM d jX8_why [.ref 0, .int (1 : Int32)] h9 (oh_r1 (fun x18 h17 => ((x18 = 0 → MM d jX8_whoKnowBy [.ref 0, .int v2] h17 (oh_r1 (fun x20 h19 => Q (some (.int x20)) h19))) ∧ (¬ x18 = 0 → MM d jX8_finds [.ref 0, .int x18] h17 (oh_r1 (fun x22 h21 => Q (some (.int x22)) h21))))))))))))))) : MM (d + 1) jX8_signal [.ref 0, .int v1, .int v2] h Q := oh_mwp_1 (nL := 3) (T := tX8_signal) rfl rfl (oh_run_wp (oh_mwp_m d) 107 q)
abbrev wX8_bestSignal_47 (d : Nat) (Q : oh_Q) (v1 : Int32) (v2 : Int32) (v4 : Int32) (v5 : Int32) (v6 : Int32) (h : oh_St) : Prop := oh_wp GM tX8_bestSignal (MM d) Q 47 cX8_bestSignal_47 [some (.ref 0), some (.int v1), some (.int v2), none, some (.int v4), some (.int v5), some (.int v6), none] [] h
set_option maxRecDepth 20000 in
theorem mX8_bestSignal {d : Nat} {Q : oh_Q} {h : oh_St} {v1 v2 : Int32} (q : MM d jX8_isMan [.ref 0, .int v1] h (oh_r1 (fun x2 h1 => ((x2 = 0 → MM d jX8_why [.ref 0, .int (0 : Int32)] h1 (oh_r1 (fun x4 h3 => ((x4 = 0 → wX8_bestSignal_47 d Q v1 v2 (0 : Int32) (-1 : Int32) (0 : Int32) h3) ∧ (¬ x4 = 0 → MM d jX8_finds [.ref 0, .int x4] h3 (oh_r1 (fun x6 h5 => Q (some (.int x6)) h5))))))) ∧ (¬ x2 = 0 → MM d jX8_in [.long (v2.toInt64), .long (0 : Int64), .long (1 : Int64)] h1 (oh_r1 (fun x8 h7 => ((x8 = 0 → MM d jX8_why [.ref 0, .int (0 : Int32)] h7 (oh_r1 (fun x10 h9 => ((x10 = 0 → wX8_bestSignal_47 d Q v1 v2 (0 : Int32) (-1 : Int32) (0 : Int32) h9) ∧ (¬ x10 = 0 → MM d jX8_finds [.ref 0, .int x10] h9 (oh_r1 (fun x12 h11 => Q (some (.int x12)) h11))))))) ∧ (¬ x8 = 0 → MM d jX8_why [.ref 0, .int (1 : Int32)] h7 (oh_r1 (fun x14 h13 => ((x14 = 0 → wX8_bestSignal_47 d Q v1 v2 (0 : Int32) (-1 : Int32) (0 : Int32) h13) ∧ (¬ x14 = 0 → MM d jX8_finds [.ref 0, .int x14] h13 (oh_r1 (fun x16 h15 => Q (some (.int x16)) h15))))))))))))))) : MM (d + 1) jX8_bestSignal [.ref 0, .int v1, .int v2] h Q := oh_mwp_1 (nL := 7) (T := tX8_bestSignal) rfl rfl (oh_run_wp (oh_mwp_m d) 221 q)
set_option maxRecDepth 20000 in
theorem bX8_bestSignal_47 {d : Nat} {Q : oh_Q} {h : oh_St} {v1 v2 v4 v5 v6 : Int32} (q : MM d jX8_allMen [.ref 0] h (oh_r1 (fun x2 h1 => ((x2 < v6 → ((¬ v2 = 0 → Q (some (.int v5)) h1) ∧ (v2 = 0 → Q (some (.int v4)) h1))) ∧ (¬ x2 < v6 → MM d jX8_of [.ref 0, .int v1, .int (3 : Int32)] h1 (oh_r1 (fun x4 h3 => ((¬ (v6 &&& (x4 ^^^ (-1 : Int32))) = 0 → wX8_bestSignal_47 d Q v1 v2 v4 v5 (v6 + (1 : Int32)) h3) ∧ ((v6 &&& (x4 ^^^ (-1 : Int32))) = 0 → MM d jX8_whoKnowBy [.ref 0, .int v6] h3 (oh_r1 (fun x6 h5 => ((x6 ≤ v5 → ((x6 ≤ v5 → wX8_bestSignal_47 d Q v1 v2 v4 v5 (v6 + (1 : Int32)) h5) ∧ (¬ x6 ≤ v5 → wX8_bestSignal_47 d Q v1 v2 v4 x6 (v6 + (1 : Int32)) h5))) ∧ (¬ x6 ≤ v5 → ((x6 ≤ v5 → wX8_bestSignal_47 d Q v1 v2 v6 v5 (v6 + (1 : Int32)) h5) ∧ (¬ x6 ≤ v5 → wX8_bestSignal_47 d Q v1 v2 v6 x6 (v6 + (1 : Int32)) h5))))))))))))))) : wX8_bestSignal_47 d Q v1 v2 v4 v5 v6 h := oh_run_wp (oh_mwp_m d) 221 q
abbrev wX8_look_28 (d : Nat) (Q : oh_Q) (v1 : Int32) (v3 : Int32) (v4 : Int32) (v5 : Int32) (h : oh_St) : Prop := oh_wp GM tX8_look (MM d) Q 28 cX8_look_28 [some (.ref 0), some (.int v1), none, some (.int v3), some (.int v4), some (.int v5), none] [] h
set_option maxRecDepth 20000 in
theorem mX8_look {d : Nat} {Q : oh_Q} {h : oh_St} {v1 : Int32} (q : MM d jX8_isMan [.ref 0, .int v1] h (oh_r1 (fun x2 h1 => MM d jX8_why [.ref 0, .int x2] h1 (oh_r1 (fun x4 h3 => ((x4 = 0 → wX8_look_28 d Q v1 (-1 : Int32) (0 : Int32) (0 : Int32) h3) ∧ (¬ x4 = 0 → MM d jX8_finds [.ref 0, .int x4] h3 (oh_r1 (fun x6 h5 => Q (some (.int x6)) h5))))))))) : MM (d + 1) jX8_look [.ref 0, .int v1] h Q := oh_mwp_1 (nL := 6) (T := tX8_look) rfl rfl (oh_run_wp (oh_mwp_m d) 251 q)
set_option maxRecDepth 20000 in
theorem bX8_look_28 {d : Nat} {Q : oh_Q} {h : oh_St} {v1 v3 v4 v5 : Int32} (q : (vp_in (0 : Int32) 210 ∧ (((h.1 1 (0 : Int32).toNatClampNeg) ≤ v5 → ((0 ≤ v3 → Q (some (.int v3)) h) ∧ (¬ 0 ≤ v3 → MM d jX8_finds [.ref 0, .int (2 : Int32)] h (oh_r1 (fun x2 h1 => Q (some (.int x2)) h1))))) ∧ (¬ (h.1 1 (0 : Int32).toNatClampNeg) ≤ v5 → ((v5 = v1 → wX8_look_28 d Q v1 v3 v4 (v5 + (1 : Int32)) h) ∧ (¬ v5 = v1 → MM d jX8_of [.ref 0, .int v1, .int (3 : Int32)] h (oh_r1 (fun x4 h3 => ((¬ ((x4 >>> (v5 &&& 31)) &&& (1 : Int32)) = 0 → wX8_look_28 d Q v1 v3 v4 (v5 + (1 : Int32)) h3) ∧ (((x4 >>> (v5 &&& 31)) &&& (1 : Int32)) = 0 → MM d jX8_begins [.ref 0] h3 (oh_r0 (fun h5 => MM d jX8_of [.ref 0, .int v1, .int (3 : Int32)] h5 (oh_r1 (fun x7 h6 => MM d jX8_becomes [.ref 0, .int v1, .int (3 : Int32), .int (x7 ||| ((1 : Int32) <<< (v5 &&& 31)))] h6 (oh_r0 (fun h8 => MM d jX8_soonest [.ref 0, .int v1] h8 (oh_r1 (fun x10 h9 => MM d jX8_ends [.ref 0] h9 (oh_r0 (fun h11 => ((x10 < 0 → wX8_look_28 d Q v1 v3 v4 (v5 + (1 : Int32)) h11) ∧ (¬ x10 < 0 → ((v3 < 0 → wX8_look_28 d Q v1 v5 x10 (v5 + (1 : Int32)) h11) ∧ (¬ v3 < 0 → ((v4 ≤ x10 → wX8_look_28 d Q v1 v3 v4 (v5 + (1 : Int32)) h11) ∧ (¬ v4 ≤ x10 → wX8_look_28 d Q v1 v5 x10 (v5 + (1 : Int32)) h11)))))))))))))))))))))))))) : wX8_look_28 d Q v1 v3 v4 v5 h := oh_run_wp (oh_mwp_m d) 251 q
abbrev wX8_common_4 (d : Nat) (Q : oh_Q) (v2 : Int32) (v3 : Int32) (h : oh_St) : Prop := oh_wp GM tX8_common (MM d) Q 4 cX8_common_4 [none, none, some (.int v2), some (.int v3), none] [] h
set_option maxRecDepth 20000 in
theorem mX8_common {d : Nat} {Q : oh_Q} {h : oh_St} {v0 v1 : Int32} (q : wX8_common_4 d Q v0 v1 h) : MM (d + 1) jX8_common [.int v0, .int v1] h Q := oh_mwp_1 (nL := 4) (T := tX8_common) rfl rfl (oh_run_wp (oh_mwp_m d) 71 q)
set_option maxRecDepth 20000 in
theorem bX8_common_4 {d : Nat} {Q : oh_Q} {h : oh_St} {v2 v3 : Int32} (q : ((v3 = 0 → Q (some (.int v2)) h) ∧ (¬ v3 = 0 → (¬ v3 = 0 ∧ wX8_common_4 d Q v3 (v2 - v2 / v3 * v3) h)))) : wX8_common_4 d Q v2 v3 h := oh_run_wp (oh_mwp_m d) 71 q
set_option maxRecDepth 20000 in
theorem mX8_odds {d : Nat} {Q : oh_Q} {h : oh_St} {v1 v2 : Int32} (q : MM d jX8_isMan [.ref 0, .int v1] h (oh_r1 (fun x2 h1 => ((x2 = 0 → MM d jX8_why [.ref 0, .int (0 : Int32)] h1 (oh_r1 (fun x4 h3 => ((x4 = 0 → MM d jX8_think [.ref 0] h3 (oh_r0 (fun h5 => MM d jX8_hats [.ref 0] h5 (oh_r1 (fun x7 h6 => MM d jX8_blackOf [.ref 0, .int v1, .int x7] h6 (oh_r1 (fun x9 h8 => MM d jX8_hats [.ref 0] h8 (oh_r1 (fun x11 h10 => MM d jX8_whiteOf [.ref 0, .int v1, .int x11] h10 (oh_r1 (fun x13 h12 => ((¬ x9 = 0 → ((¬ v2 = 0 → MM d jX8_common [.int x9, .int (x9 + x13)] h12 (oh_r1 (fun x15 h14 => (¬ x15 = 0 ∧ Q (some (.long (((x9 + x13) / x15).toInt64))) h14)))) ∧ (v2 = 0 → MM d jX8_common [.int x9, .int (x9 + x13)] h12 (oh_r1 (fun x17 h16 => (¬ x17 = 0 ∧ Q (some (.long ((x9 / x17).toInt64))) h16)))))) ∧ (x9 = 0 → Q (some (.long (v2.toInt64))) h12))))))))))))) ∧ (¬ x4 = 0 → MM d jX8_finds [.ref 0, .int x4] h3 (oh_r1 (fun x19 h18 => Q (some (.long (x19.toInt64))) h18))))))) ∧ (¬ x2 = 0 → MM d jX8_in [.long (v2.toInt64), .long (0 : Int64), .long (1 : Int64)] h1 (oh_r1 (fun x21 h20 => ((x21 = 0 → MM d jX8_why [.ref 0, .int (0 : Int32)] h20 (oh_r1 (fun x23 h22 => ((x23 = 0 → MM d jX8_think [.ref 0] h22 (oh_r0 (fun h24 => MM d jX8_hats [.ref 0] h24 (oh_r1 (fun x26 h25 => MM d jX8_blackOf [.ref 0, .int v1, .int x26] h25 (oh_r1 (fun x28 h27 => MM d jX8_hats [.ref 0] h27 (oh_r1 (fun x30 h29 => MM d jX8_whiteOf [.ref 0, .int v1, .int x30] h29 (oh_r1 (fun x32 h31 => ((¬ x28 = 0 → ((¬ v2 = 0 → MM d jX8_common [.int x28, .int (x28 + x32)] h31 (oh_r1 (fun x34 h33 => (¬ x34 = 0 ∧ Q (some (.long (((x28 + x32) / x34).toInt64))) h33)))) ∧ (v2 = 0 → MM d jX8_common [.int x28, .int (x28 + x32)] h31 (oh_r1 (fun x36 h35 => (¬ x36 = 0 ∧ Q (some (.long ((x28 / x36).toInt64))) h35)))))) ∧ (x28 = 0 → Q (some (.long (v2.toInt64))) h31))))))))))))) ∧ (¬ x23 = 0 → MM d jX8_finds [.ref 0, .int x23] h22 (oh_r1 (fun x38 h37 => Q (some (.long (x38.toInt64))) h37))))))) ∧ (¬ x21 = 0 → MM d jX8_why [.ref 0, .int (1 : Int32)] h20 (oh_r1 (fun x40 h39 => ((x40 = 0 → MM d jX8_think [.ref 0] h39 (oh_r0 (fun h41 => MM d jX8_hats [.ref 0] h41 (oh_r1 (fun x43 h42 => MM d jX8_blackOf [.ref 0, .int v1, .int x43] h42 (oh_r1 (fun x45 h44 => MM d jX8_hats [.ref 0] h44 (oh_r1 (fun x47 h46 => MM d jX8_whiteOf [.ref 0, .int v1, .int x47] h46 (oh_r1 (fun x49 h48 => ((¬ x45 = 0 → ((¬ v2 = 0 → MM d jX8_common [.int x45, .int (x45 + x49)] h48 (oh_r1 (fun x51 h50 => (¬ x51 = 0 ∧ Q (some (.long (((x45 + x49) / x51).toInt64))) h50)))) ∧ (v2 = 0 → MM d jX8_common [.int x45, .int (x45 + x49)] h48 (oh_r1 (fun x53 h52 => (¬ x53 = 0 ∧ Q (some (.long ((x45 / x53).toInt64))) h52)))))) ∧ (x45 = 0 → Q (some (.long (v2.toInt64))) h48))))))))))))) ∧ (¬ x40 = 0 → MM d jX8_finds [.ref 0, .int x40] h39 (oh_r1 (fun x55 h54 => Q (some (.long (x55.toInt64))) h54))))))))))))))) : MM (d + 1) jX8_odds [.ref 0, .int v1, .int v2] h Q := oh_mwp_1 (nL := 5) (T := tX8_odds) rfl rfl (oh_run_wp (oh_mwp_m d) 185 q)
set_option maxRecDepth 20000 in
theorem mX8_seed {d : Nat} {Q : oh_Q} {h : oh_St} {v1 : Int32} (q : (vp_in (5 : Int32) 210 ∧ (vp_in (5 : Int32) 210 ∧ Q (some (.int (h.1 1 (5 : Int32).toNatClampNeg))) (oh_upi h 1 (5 : Int32).toNatClampNeg v1)))) : MM (d + 1) jX8_seed [.ref 0, .int v1] h Q := oh_mwp_1 (nL := 2) (T := tX8_seed) rfl rfl (oh_run_wp (oh_mwp_m d) 56 q)
set_option maxRecDepth 20000 in
theorem mX8_ran {d : Nat} {Q : oh_Q} {h : oh_St} {v1 : Int32} (q : (((40 : Int32) ≤ (h.1 0 20) → Q none h) ∧ (¬ (40 : Int32) ≤ (h.1 0 20) → (vp_in (h.1 0 20) 40 ∧ Q none (oh_upi (oh_upi h 10 (h.1 0 20).toNatClampNeg v1) 0 20 (((oh_upi h 10 (h.1 0 20).toNatClampNeg v1).1 0 20) + (1 : Int32))))))) : MM (d + 1) jX8_ran [.ref 0, .int v1] h Q := oh_mwp_1 (nL := 1) (T := tX8_ran) rfl rfl (oh_run_wp (oh_mwp_m d) 71 q)
set_option maxRecDepth 20000 in
theorem mX8_own {d : Nat} {Q : oh_Q} {h : oh_St} (q : MM d jX8_of [.ref 0, .int (h.1 0 21), .int (0 : Int32)] h (oh_r1 (fun x2 h1 => Q (some (.int x2)) h1))) : MM (d + 1) jX8_own [.ref 0] h Q := oh_mwp_1 (nL := 0) (T := tX8_own) rfl rfl (oh_run_wp (oh_mwp_m d) 38 q)
set_option maxRecDepth 20000 in
theorem mX8_looks {d : Nat} {Q : oh_Q} {h : oh_St} {v1 v2 : Int32} (q : ((v1 = (0 : Int32) → MM d jX8_ran [.ref 0, .int (10 : Int32)] h (oh_r0 (fun h10 => Q (some (.int (v2 + (h10.1 0 21)))) h10))) ∧ (¬ v1 = (0 : Int32) → ((v1 = (2 : Int32) → MM d jX8_ran [.ref 0, .int (30 : Int32)] h (oh_r0 (fun h5 => MM d jX8_above [.int (2 : Int32)] h5 (oh_r1 (fun x7 h6 => MM d jX8_looks [.ref 0, .int x7, .int v2] h6 (oh_r1 (fun x9 h8 => Q (some (.int (x9 * (3 : Int32)))) h8))))))) ∧ (¬ v1 = (2 : Int32) → MM d jX8_above [.int v1] h (oh_r1 (fun x2 h1 => MM d jX8_looks [.ref 0, .int x2, .int v2] h1 (oh_r1 (fun x4 h3 => Q (some (.int x4)) h3))))))))) : MM (d + 1) jX8_looks [.ref 0, .int v1, .int v2] h Q := oh_mwp_1 (nL := 2) (T := tX8_looks) rfl rfl (oh_run_wp (oh_mwp_m d) 101 q)
set_option maxRecDepth 20000 in
theorem mX8_thoughts {d : Nat} {Q : oh_Q} {h : oh_St} {v1 v2 : Int32} (q : ((v1 = (0 : Int32) → MM d jX8_ran [.ref 0, .int (11 : Int32)] h (oh_r0 (fun h27 => MM d jX8_own [.ref 0] h27 (oh_r1 (fun x29 h28 => MM d jX8_looks [.ref 0, .int x29, .int v2] h28 (oh_r1 (fun x31 h30 => Q (some (.int (x31 * (2 : Int32)))) h30))))))) ∧ (¬ v1 = (0 : Int32) → ((v1 = (1 : Int32) → MM d jX8_ran [.ref 0, .int (20 : Int32)] h (oh_r0 (fun h18 => MM d jX8_above [.int (1 : Int32)] h18 (oh_r1 (fun x20 h19 => MM d jX8_thoughts [.ref 0, .int x20, .int v2] h19 (oh_r1 (fun x22 h21 => MM d jX8_own [.ref 0] h21 (oh_r1 (fun x24 h23 => MM d jX8_says [.ref 0, .int x24, .int (1 : Int32)] h23 (oh_r1 (fun x26 h25 => Q (some (.int (x22 - x26))) h25))))))))))) ∧ (¬ v1 = (1 : Int32) → ((v1 = (2 : Int32) → MM d jX8_above [.int v1] h (oh_r1 (fun x15 h14 => MM d jX8_thoughts [.ref 0, .int x15, .int v2] h14 (oh_r1 (fun x17 h16 => Q (some (.int x17)) h16))))) ∧ (¬ v1 = (2 : Int32) → ((v1 = (3 : Int32) → MM d jX8_above [.int v1] h (oh_r1 (fun x11 h10 => MM d jX8_thoughts [.ref 0, .int x11, .int v2] h10 (oh_r1 (fun x13 h12 => Q (some (.int x13)) h12))))) ∧ (¬ v1 = (3 : Int32) → ((v1 = (4 : Int32) → MM d jX8_ran [.ref 0, .int (50 : Int32)] h (oh_r0 (fun h5 => MM d jX8_above [.int (4 : Int32)] h5 (oh_r1 (fun x7 h6 => MM d jX8_thoughts [.ref 0, .int x7, .int (v2 + (1 : Int32))] h6 (oh_r1 (fun x9 h8 => Q (some (.int x9)) h8))))))) ∧ (¬ v1 = (4 : Int32) → MM d jX8_above [.int v1] h (oh_r1 (fun x2 h1 => MM d jX8_thoughts [.ref 0, .int x2, .int v2] h1 (oh_r1 (fun x4 h3 => Q (some (.int x4)) h3))))))))))))))) : MM (d + 1) jX8_thoughts [.ref 0, .int v1, .int v2] h Q := oh_mwp_1 (nL := 3) (T := tX8_thoughts) rfl rfl (oh_run_wp (oh_mwp_m d) 161 q)
set_option maxRecDepth 20000 in
theorem mX8_says {d : Nat} {Q : oh_Q} {h : oh_St} {v1 v2 : Int32} (q : ((v1 = (0 : Int32) → MM d jX8_ran [.ref 0, .int (12 : Int32)] h (oh_r0 (fun h15 => MM d jX8_of [.ref 0, .int (h15.1 0 21), .int (1 : Int32)] h15 (oh_r1 (fun x17 h16 => Q (some (.int (v2 - x17))) h16))))) ∧ (¬ v1 = (0 : Int32) → ((v1 = (3 : Int32) → MM d jX8_ran [.ref 0, .int (40 : Int32)] h (oh_r0 (fun h10 => MM d jX8_above [.int (3 : Int32)] h10 (oh_r1 (fun x12 h11 => MM d jX8_says [.ref 0, .int x12, .int v2] h11 (oh_r1 (fun x14 h13 => Q (some (.int (-x14))) h13))))))) ∧ (¬ v1 = (3 : Int32) → ((v1 = (6 : Int32) → MM d jX8_ran [.ref 0, .int (70 : Int32)] h (oh_r0 (fun h5 => MM d jX8_above [.int (6 : Int32)] h5 (oh_r1 (fun x7 h6 => MM d jX8_says [.ref 0, .int x7, .int v2] h6 (oh_r1 (fun x9 h8 => Q (some (.int (x9 ^^^ (h8.1 0 21)))) h8))))))) ∧ (¬ v1 = (6 : Int32) → MM d jX8_above [.int v1] h (oh_r1 (fun x2 h1 => MM d jX8_says [.ref 0, .int x2, .int v2] h1 (oh_r1 (fun x4 h3 => Q (some (.int x4)) h3))))))))))) : MM (d + 1) jX8_says [.ref 0, .int v1, .int v2] h Q := oh_mwp_1 (nL := 2) (T := tX8_says) rfl rfl (oh_run_wp (oh_mwp_m d) 143 q)
set_option maxRecDepth 20000 in
theorem mX8_tells {d : Nat} {Q : oh_Q} {h : oh_St} {v1 v2 : Int32} (q : ((v1 = (0 : Int32) → MM d jX8_ran [.ref 0, .int (13 : Int32)] h (oh_r0 (fun h23 => MM d jX8_own [.ref 0] h23 (oh_r1 (fun x25 h24 => MM d jX8_thoughts [.ref 0, .int x25, .int v2] h24 (oh_r1 (fun x27 h26 => MM d jX8_own [.ref 0] h26 (oh_r1 (fun x29 h28 => MM d jX8_says [.ref 0, .int x29, .int v2] h28 (oh_r1 (fun x31 h30 => Q (some (.int (x27 ^^^ x31))) h30))))))))))) ∧ (¬ v1 = (0 : Int32) → ((v1 = (5 : Int32) → MM d jX8_ran [.ref 0, .int (60 : Int32)] h (oh_r0 (fun h14 => MM d jX8_above [.int (5 : Int32)] h14 (oh_r1 (fun x16 h15 => MM d jX8_tells [.ref 0, .int x16, .int v2] h15 (oh_r1 (fun x18 h17 => MM d jX8_own [.ref 0] h17 (oh_r1 (fun x20 h19 => MM d jX8_looks [.ref 0, .int x20, .int (2 : Int32)] h19 (oh_r1 (fun x22 h21 => Q (some (.int (x18 - x22))) h21))))))))))) ∧ (¬ v1 = (5 : Int32) → ((v1 = (6 : Int32) → MM d jX8_ran [.ref 0, .int (71 : Int32)] h (oh_r0 (fun h5 => MM d jX8_own [.ref 0] h5 (oh_r1 (fun x7 h6 => MM d jX8_thoughts [.ref 0, .int x7, .int v2] h6 (oh_r1 (fun x9 h8 => MM d jX8_above [.int (6 : Int32)] h8 (oh_r1 (fun x11 h10 => MM d jX8_tells [.ref 0, .int x11, .int v2] h10 (oh_r1 (fun x13 h12 => Q (some (.int (x9 - x13))) h12))))))))))) ∧ (¬ v1 = (6 : Int32) → MM d jX8_above [.int v1] h (oh_r1 (fun x2 h1 => MM d jX8_tells [.ref 0, .int x2, .int v2] h1 (oh_r1 (fun x4 h3 => Q (some (.int x4)) h3))))))))))) : MM (d + 1) jX8_tells [.ref 0, .int v1, .int v2] h Q := oh_mwp_1 (nL := 3) (T := tX8_tells) rfl rfl (oh_run_wp (oh_mwp_m d) 197 q)
set_option maxRecDepth 20000 in
theorem mX8_voice {d : Nat} {Q : oh_Q} {h : oh_St} {v1 v2 v3 : Int32} (q : MM d jX8_isMan [.ref 0, .int v1] h (oh_r1 (fun x2 h1 => ((x2 = 0 → MM d jX8_finds [.ref 0, .int (1 : Int32)] h1 (oh_r1 (fun x4 h3 => Q (some (.int x4)) h3))) ∧ (¬ x2 = 0 → MM d jX8_in [.long (v2.toInt64), .long (0 : Int64), .long (3 : Int64)] h1 (oh_r1 (fun x6 h5 => ((¬ x6 = 0 → MM d jX8_own [.ref 0] (oh_upi (oh_upi h5 0 20 (0 : Int32)) 0 21 v1) (oh_r1 (fun x8 h7 => ((¬ v2 = 0 → ((¬ v2 = (1 : Int32) → ((¬ v2 = (2 : Int32) → MM d jX8_tells [.ref 0, .int x8, .int v3] h7 (oh_r1 (fun x10 h9 => Q (some (.int x10)) h9))) ∧ (v2 = (2 : Int32) → MM d jX8_says [.ref 0, .int x8, .int v3] h7 (oh_r1 (fun x12 h11 => Q (some (.int x12)) h11))))) ∧ (v2 = (1 : Int32) → MM d jX8_thoughts [.ref 0, .int x8, .int v3] h7 (oh_r1 (fun x14 h13 => Q (some (.int x14)) h13))))) ∧ (v2 = 0 → MM d jX8_looks [.ref 0, .int x8, .int v3] h7 (oh_r1 (fun x16 h15 => Q (some (.int x16)) h15))))))) ∧ (x6 = 0 → MM d jX8_finds [.ref 0, .int (1 : Int32)] h5 (oh_r1 (fun x18 h17 => Q (some (.int x18)) h17))))))))))) : MM (d + 1) jX8_voice [.ref 0, .int v1, .int v2, .int v3] h Q := oh_mwp_1 (nL := 4) (T := tX8_voice) rfl rfl (oh_run_wp (oh_mwp_m d) 173 q)
set_option maxRecDepth 20000 in
theorem mX8_trace {d : Nat} {Q : oh_Q} {h : oh_St} {v1 : Int32} (q : MM d jX8_in [.long (v1.toInt64), .long (0 : Int64), .long (((h.1 0 20) - (1 : Int32)).toInt64)] h (oh_r1 (fun x2 h1 => ((x2 = 0 → MM d jX8_finds [.ref 0, .int (2 : Int32)] h1 (oh_r1 (fun x4 h3 => Q (some (.int x4)) h3))) ∧ (¬ x2 = 0 → (vp_in v1 40 ∧ Q (some (.int (h1.1 10 v1.toNatClampNeg))) h1)))))) : MM (d + 1) jX8_trace [.ref 0, .int v1] h Q := oh_mwp_1 (nL := 1) (T := tX8_trace) rfl rfl (oh_run_wp (oh_mwp_m d) 77 q)
set_option maxRecDepth 20000 in
theorem mX8_isSheet {d : Nat} {Q : oh_Q} {h : oh_St} {v0 : Int32} (q : MM d jX8_in [.long (v0.toInt64), .long (0 : Int64), .long (3 : Int64)] h (oh_r1 (fun x2 h1 => ((x2 = 0 ∨ x2 = 1) ∧ Q (some (.int x2)) h1)))) : MM (d + 1) jX8_isSheet [.int v0] h Q := oh_mwp_1 (nL := 0) (T := tX8_isSheet) rfl rfl (oh_run_wp (oh_mwp_m d) 38 q)
abbrev wX8_sheet_90 (d : Nat) (Q : oh_Q) (v1 : Int32) (v4 : Int32) (h : oh_St) : Prop := oh_wp GM tX8_sheet (MM d) Q 90 cX8_sheet_90 [some (.ref 0), some (.int v1), none, none, some (.int v4)] [] h
set_option maxRecDepth 20000 in
theorem mX8_sheet {d : Nat} {Q : oh_Q} {h : oh_St} {v1 v2 v3 : Int32} (q : MM d jX8_isSheet [.int v1] h (oh_r1 (fun x2 h1 => ((x2 = 0 → MM d jX8_finds [.ref 0, .int (1 : Int32)] h1 (oh_r1 (fun x4 h3 => Q (some (.int x4)) h3))) ∧ (¬ x2 = 0 → ((v2 = 0 → ((v2 = 0 → ((v2 = 0 → (vp_in v1 4 ∧ ((¬ v2 = 0 → (vp_in v1 4 ∧ wX8_sheet_90 d Q v1 (0 : Int32) (oh_upi (oh_upi h1 11 v1.toNatClampNeg v2) 12 v1.toNatClampNeg v3))) ∧ (v2 = 0 → (vp_in v1 4 ∧ wX8_sheet_90 d Q v1 (0 : Int32) (oh_upi (oh_upi h1 11 v1.toNatClampNeg v2) 12 v1.toNatClampNeg (0 : Int32))))))) ∧ (¬ v2 = 0 → ((v3 ≤ (40 : Int32) → (vp_in v1 4 ∧ ((¬ v2 = 0 → (vp_in v1 4 ∧ wX8_sheet_90 d Q v1 (0 : Int32) (oh_upi (oh_upi h1 11 v1.toNatClampNeg v2) 12 v1.toNatClampNeg v3))) ∧ (v2 = 0 → (vp_in v1 4 ∧ wX8_sheet_90 d Q v1 (0 : Int32) (oh_upi (oh_upi h1 11 v1.toNatClampNeg v2) 12 v1.toNatClampNeg (0 : Int32))))))) ∧ (¬ v3 ≤ (40 : Int32) → MM d jX8_finds [.ref 0, .int (1 : Int32)] h1 (oh_r1 (fun x6 h5 => Q (some (.int x6)) h5))))))) ∧ (¬ v2 = 0 → ((0 ≤ v3 → ((v2 = 0 → (vp_in v1 4 ∧ ((¬ v2 = 0 → (vp_in v1 4 ∧ wX8_sheet_90 d Q v1 (0 : Int32) (oh_upi (oh_upi h1 11 v1.toNatClampNeg v2) 12 v1.toNatClampNeg v3))) ∧ (v2 = 0 → (vp_in v1 4 ∧ wX8_sheet_90 d Q v1 (0 : Int32) (oh_upi (oh_upi h1 11 v1.toNatClampNeg v2) 12 v1.toNatClampNeg (0 : Int32))))))) ∧ (¬ v2 = 0 → ((v3 ≤ (40 : Int32) → (vp_in v1 4 ∧ ((¬ v2 = 0 → (vp_in v1 4 ∧ wX8_sheet_90 d Q v1 (0 : Int32) (oh_upi (oh_upi h1 11 v1.toNatClampNeg v2) 12 v1.toNatClampNeg v3))) ∧ (v2 = 0 → (vp_in v1 4 ∧ wX8_sheet_90 d Q v1 (0 : Int32) (oh_upi (oh_upi h1 11 v1.toNatClampNeg v2) 12 v1.toNatClampNeg (0 : Int32))))))) ∧ (¬ v3 ≤ (40 : Int32) → MM d jX8_finds [.ref 0, .int (1 : Int32)] h1 (oh_r1 (fun x8 h7 => Q (some (.int x8)) h7))))))) ∧ (¬ 0 ≤ v3 → MM d jX8_finds [.ref 0, .int (3 : Int32)] h1 (oh_r1 (fun x10 h9 => Q (some (.int x10)) h9))))))) ∧ (¬ v2 = 0 → ((v2 = (8 : Int32) → ((v2 = 0 → ((v2 = 0 → (vp_in v1 4 ∧ ((¬ v2 = 0 → (vp_in v1 4 ∧ wX8_sheet_90 d Q v1 (0 : Int32) (oh_upi (oh_upi h1 11 v1.toNatClampNeg v2) 12 v1.toNatClampNeg v3))) ∧ (v2 = 0 → (vp_in v1 4 ∧ wX8_sheet_90 d Q v1 (0 : Int32) (oh_upi (oh_upi h1 11 v1.toNatClampNeg v2) 12 v1.toNatClampNeg (0 : Int32))))))) ∧ (¬ v2 = 0 → ((v3 ≤ (40 : Int32) → (vp_in v1 4 ∧ ((¬ v2 = 0 → (vp_in v1 4 ∧ wX8_sheet_90 d Q v1 (0 : Int32) (oh_upi (oh_upi h1 11 v1.toNatClampNeg v2) 12 v1.toNatClampNeg v3))) ∧ (v2 = 0 → (vp_in v1 4 ∧ wX8_sheet_90 d Q v1 (0 : Int32) (oh_upi (oh_upi h1 11 v1.toNatClampNeg v2) 12 v1.toNatClampNeg (0 : Int32))))))) ∧ (¬ v3 ≤ (40 : Int32) → MM d jX8_finds [.ref 0, .int (1 : Int32)] h1 (oh_r1 (fun x12 h11 => Q (some (.int x12)) h11))))))) ∧ (¬ v2 = 0 → ((0 ≤ v3 → ((v2 = 0 → (vp_in v1 4 ∧ ((¬ v2 = 0 → (vp_in v1 4 ∧ wX8_sheet_90 d Q v1 (0 : Int32) (oh_upi (oh_upi h1 11 v1.toNatClampNeg v2) 12 v1.toNatClampNeg v3))) ∧ (v2 = 0 → (vp_in v1 4 ∧ wX8_sheet_90 d Q v1 (0 : Int32) (oh_upi (oh_upi h1 11 v1.toNatClampNeg v2) 12 v1.toNatClampNeg (0 : Int32))))))) ∧ (¬ v2 = 0 → ((v3 ≤ (40 : Int32) → (vp_in v1 4 ∧ ((¬ v2 = 0 → (vp_in v1 4 ∧ wX8_sheet_90 d Q v1 (0 : Int32) (oh_upi (oh_upi h1 11 v1.toNatClampNeg v2) 12 v1.toNatClampNeg v3))) ∧ (v2 = 0 → (vp_in v1 4 ∧ wX8_sheet_90 d Q v1 (0 : Int32) (oh_upi (oh_upi h1 11 v1.toNatClampNeg v2) 12 v1.toNatClampNeg (0 : Int32))))))) ∧ (¬ v3 ≤ (40 : Int32) → MM d jX8_finds [.ref 0, .int (1 : Int32)] h1 (oh_r1 (fun x14 h13 => Q (some (.int x14)) h13))))))) ∧ (¬ 0 ≤ v3 → MM d jX8_finds [.ref 0, .int (3 : Int32)] h1 (oh_r1 (fun x16 h15 => Q (some (.int x16)) h15))))))) ∧ (¬ v2 = (8 : Int32) → ((v2 = (16 : Int32) → ((v2 = 0 → ((v2 = 0 → (vp_in v1 4 ∧ ((¬ v2 = 0 → (vp_in v1 4 ∧ wX8_sheet_90 d Q v1 (0 : Int32) (oh_upi (oh_upi h1 11 v1.toNatClampNeg v2) 12 v1.toNatClampNeg v3))) ∧ (v2 = 0 → (vp_in v1 4 ∧ wX8_sheet_90 d Q v1 (0 : Int32) (oh_upi (oh_upi h1 11 v1.toNatClampNeg v2) 12 v1.toNatClampNeg (0 : Int32))))))) ∧ (¬ v2 = 0 → ((v3 ≤ (40 : Int32) → (vp_in v1 4 ∧ ((¬ v2 = 0 → (vp_in v1 4 ∧ wX8_sheet_90 d Q v1 (0 : Int32) (oh_upi (oh_upi h1 11 v1.toNatClampNeg v2) 12 v1.toNatClampNeg v3))) ∧ (v2 = 0 → (vp_in v1 4 ∧ wX8_sheet_90 d Q v1 (0 : Int32) (oh_upi (oh_upi h1 11 v1.toNatClampNeg v2) 12 v1.toNatClampNeg (0 : Int32))))))) ∧ (¬ v3 ≤ (40 : Int32) → MM d jX8_finds [.ref 0, .int (1 : Int32)] h1 (oh_r1 (fun x18 h17 => Q (some (.int x18)) h17))))))) ∧ (¬ v2 = 0 → ((0 ≤ v3 → ((v2 = 0 → (vp_in v1 4 ∧ ((¬ v2 = 0 → (vp_in v1 4 ∧ wX8_sheet_90 d Q v1 (0 : Int32) (oh_upi (oh_upi h1 11 v1.toNatClampNeg v2) 12 v1.toNatClampNeg v3))) ∧ (v2 = 0 → (vp_in v1 4 ∧ wX8_sheet_90 d Q v1 (0 : Int32) (oh_upi (oh_upi h1 11 v1.toNatClampNeg v2) 12 v1.toNatClampNeg (0 : Int32))))))) ∧ (¬ v2 = 0 → ((v3 ≤ (40 : Int32) → (vp_in v1 4 ∧ ((¬ v2 = 0 → (vp_in v1 4 ∧ wX8_sheet_90 d Q v1 (0 : Int32) (oh_upi (oh_upi h1 11 v1.toNatClampNeg v2) 12 v1.toNatClampNeg v3))) ∧ (v2 = 0 → (vp_in v1 4 ∧ wX8_sheet_90 d Q v1 (0 : Int32) (oh_upi (oh_upi h1 11 v1.toNatClampNeg v2) 12 v1.toNatClampNeg (0 : Int32))))))) ∧ (¬ v3 ≤ (40 : Int32) → MM d jX8_finds [.ref 0, .int (1 : Int32)] h1 (oh_r1 (fun x20 h19 => Q (some (.int x20)) h19))))))) ∧ (¬ 0 ≤ v3 → MM d jX8_finds [.ref 0, .int (3 : Int32)] h1 (oh_r1 (fun x22 h21 => Q (some (.int x22)) h21))))))) ∧ (¬ v2 = (16 : Int32) → ((v2 = (32 : Int32) → ((v2 = 0 → ((v2 = 0 → (vp_in v1 4 ∧ ((¬ v2 = 0 → (vp_in v1 4 ∧ wX8_sheet_90 d Q v1 (0 : Int32) (oh_upi (oh_upi h1 11 v1.toNatClampNeg v2) 12 v1.toNatClampNeg v3))) ∧ (v2 = 0 → (vp_in v1 4 ∧ wX8_sheet_90 d Q v1 (0 : Int32) (oh_upi (oh_upi h1 11 v1.toNatClampNeg v2) 12 v1.toNatClampNeg (0 : Int32))))))) ∧ (¬ v2 = 0 → ((v3 ≤ (40 : Int32) → (vp_in v1 4 ∧ ((¬ v2 = 0 → (vp_in v1 4 ∧ wX8_sheet_90 d Q v1 (0 : Int32) (oh_upi (oh_upi h1 11 v1.toNatClampNeg v2) 12 v1.toNatClampNeg v3))) ∧ (v2 = 0 → (vp_in v1 4 ∧ wX8_sheet_90 d Q v1 (0 : Int32) (oh_upi (oh_upi h1 11 v1.toNatClampNeg v2) 12 v1.toNatClampNeg (0 : Int32))))))) ∧ (¬ v3 ≤ (40 : Int32) → MM d jX8_finds [.ref 0, .int (1 : Int32)] h1 (oh_r1 (fun x24 h23 => Q (some (.int x24)) h23))))))) ∧ (¬ v2 = 0 → ((0 ≤ v3 → ((v2 = 0 → (vp_in v1 4 ∧ ((¬ v2 = 0 → (vp_in v1 4 ∧ wX8_sheet_90 d Q v1 (0 : Int32) (oh_upi (oh_upi h1 11 v1.toNatClampNeg v2) 12 v1.toNatClampNeg v3))) ∧ (v2 = 0 → (vp_in v1 4 ∧ wX8_sheet_90 d Q v1 (0 : Int32) (oh_upi (oh_upi h1 11 v1.toNatClampNeg v2) 12 v1.toNatClampNeg (0 : Int32))))))) ∧ (¬ v2 = 0 → ((v3 ≤ (40 : Int32) → (vp_in v1 4 ∧ ((¬ v2 = 0 → (vp_in v1 4 ∧ wX8_sheet_90 d Q v1 (0 : Int32) (oh_upi (oh_upi h1 11 v1.toNatClampNeg v2) 12 v1.toNatClampNeg v3))) ∧ (v2 = 0 → (vp_in v1 4 ∧ wX8_sheet_90 d Q v1 (0 : Int32) (oh_upi (oh_upi h1 11 v1.toNatClampNeg v2) 12 v1.toNatClampNeg (0 : Int32))))))) ∧ (¬ v3 ≤ (40 : Int32) → MM d jX8_finds [.ref 0, .int (1 : Int32)] h1 (oh_r1 (fun x26 h25 => Q (some (.int x26)) h25))))))) ∧ (¬ 0 ≤ v3 → MM d jX8_finds [.ref 0, .int (3 : Int32)] h1 (oh_r1 (fun x28 h27 => Q (some (.int x28)) h27))))))) ∧ (¬ v2 = (32 : Int32) → MM d jX8_finds [.ref 0, .int (1 : Int32)] h1 (oh_r1 (fun x30 h29 => Q (some (.int x30)) h29))))))))))))))) : MM (d + 1) jX8_sheet [.ref 0, .int v1, .int v2, .int v3] h Q := oh_mwp_1 (nL := 4) (T := tX8_sheet) rfl rfl (oh_run_wp (oh_mwp_m d) 221 q)
set_option maxRecDepth 20000 in
theorem bX8_sheet_90 {d : Nat} {Q : oh_Q} {h : oh_St} {v1 v4 : Int32} (q : (((40 : Int32) ≤ v4 → Q (some (.int (1 : Int32))) h) ∧ (¬ (40 : Int32) ≤ v4 → (vp_in (((40 : Int32) * v1) + v4) 160 ∧ wX8_sheet_90 d Q v1 (v4 + (1 : Int32)) (oh_upi h 13 (((40 : Int32) * v1) + v4).toNatClampNeg (0 : Int32)))))) : wX8_sheet_90 d Q v1 v4 h := oh_run_wp (oh_mwp_m d) 221 q
set_option maxRecDepth 20000 in
theorem mX8_put {d : Nat} {Q : oh_Q} {h : oh_St} {v1 v2 v3 : Int32} (q : MM d jX8_isSheet [.int v1] h (oh_r1 (fun x2 h1 => ((¬ x2 = 0 → (vp_in v1 4 ∧ ((¬ (h1.1 11 v1.toNatClampNeg) = 0 → (vp_in v1 4 ∧ MM d jX8_in [.long (v2.toInt64), .long (0 : Int64), .long (((h1.1 12 v1.toNatClampNeg) - (1 : Int32)).toInt64)] h1 (oh_r1 (fun x4 h3 => ((¬ x4 = 0 → (vp_in v1 4 ∧ ((¬ (h3.1 11 v1.toNatClampNeg) = (8 : Int32) → (vp_in v1 4 ∧ ((¬ (h3.1 11 v1.toNatClampNeg) = (16 : Int32) → (vp_in (((40 : Int32) * v1) + v2) 160 ∧ Q (some (.int (1 : Int32))) (oh_upi h3 13 (((40 : Int32) * v1) + v2).toNatClampNeg v3))) ∧ ((h3.1 11 v1.toNatClampNeg) = (16 : Int32) → (vp_in (((40 : Int32) * v1) + v2) 160 ∧ Q (some (.int (1 : Int32))) (oh_upi h3 13 (((40 : Int32) * v1) + v2).toNatClampNeg (v3.toInt16.toInt32))))))) ∧ ((h3.1 11 v1.toNatClampNeg) = (8 : Int32) → (vp_in (((40 : Int32) * v1) + v2) 160 ∧ Q (some (.int (1 : Int32))) (oh_upi h3 13 (((40 : Int32) * v1) + v2).toNatClampNeg (v3.toInt8.toInt32))))))) ∧ (x4 = 0 → MM d jX8_finds [.ref 0, .int (1 : Int32)] h3 (oh_r1 (fun x6 h5 => Q (some (.int x6)) h5)))))))) ∧ ((h1.1 11 v1.toNatClampNeg) = 0 → MM d jX8_finds [.ref 0, .int (2 : Int32)] h1 (oh_r1 (fun x8 h7 => Q (some (.int x8)) h7)))))) ∧ (x2 = 0 → MM d jX8_finds [.ref 0, .int (1 : Int32)] h1 (oh_r1 (fun x10 h9 => Q (some (.int x10)) h9))))))) : MM (d + 1) jX8_put [.ref 0, .int v1, .int v2, .int v3] h Q := oh_mwp_1 (nL := 3) (T := tX8_put) rfl rfl (oh_run_wp (oh_mwp_m d) 203 q)
abbrev wX8_move_115 (d : Nat) (Q : oh_Q) (v1 : Int32) (v2 : Int32) (v3 : Int32) (v4 : Int32) (v5 : Int32) (v6 : Int32) (h : oh_St) : Prop := oh_wp GM tX8_move (MM d) Q 115 cX8_move_115 [some (.ref 0), some (.int v1), some (.int v2), some (.int v3), some (.int v4), some (.int v5), some (.int v6)] [] h
abbrev wX8_move_152 (d : Nat) (Q : oh_Q) (v3 : Int32) (v4 : Int32) (v5 : Int32) (v6 : Int32) (h : oh_St) : Prop := oh_wp GM tX8_move (MM d) Q 152 cX8_move_152 [some (.ref 0), none, none, some (.int v3), some (.int v4), some (.int v5), some (.int v6)] [] h
set_option maxRecDepth 20000 in
theorem mX8_move {d : Nat} {Q : oh_Q} {h : oh_St} {v1 v2 v3 v4 v5 : Int32} (q : MM d jX8_isSheet [.int v1] h (oh_r1 (fun x2 h1 => ((x2 = 0 → MM d jX8_finds [.ref 0, .int (1 : Int32)] h1 (oh_r1 (fun x4 h3 => Q (some (.int x4)) h3))) ∧ (¬ x2 = 0 → MM d jX8_isSheet [.int v3] h1 (oh_r1 (fun x6 h5 => ((¬ x6 = 0 → (vp_in v1 4 ∧ (((h5.1 11 v1.toNatClampNeg) = 0 → MM d jX8_finds [.ref 0, .int (2 : Int32)] h5 (oh_r1 (fun x8 h7 => Q (some (.int x8)) h7))) ∧ (¬ (h5.1 11 v1.toNatClampNeg) = 0 → (vp_in v3 4 ∧ ((¬ (h5.1 11 v3.toNatClampNeg) = 0 → (vp_in v1 4 ∧ (vp_in v3 4 ∧ (((h5.1 11 v1.toNatClampNeg) = (h5.1 11 v3.toNatClampNeg) → ((v5 < 0 → MM d jX8_finds [.ref 0, .int (1 : Int32)] h5 (oh_r1 (fun x10 h9 => Q (some (.int x10)) h9))) ∧ (¬ v5 < 0 → ((v2 < 0 → MM d jX8_finds [.ref 0, .int (1 : Int32)] h5 (oh_r1 (fun x12 h11 => Q (some (.int x12)) h11))) ∧ (¬ v2 < 0 → ((v4 < 0 → MM d jX8_finds [.ref 0, .int (1 : Int32)] h5 (oh_r1 (fun x14 h13 => Q (some (.int x14)) h13))) ∧ (¬ v4 < 0 → (vp_in v1 4 ∧ ((((h5.1 12 v1.toNatClampNeg) - v2) < v5 → MM d jX8_finds [.ref 0, .int (1 : Int32)] h5 (oh_r1 (fun x16 h15 => Q (some (.int x16)) h15))) ∧ (¬ ((h5.1 12 v1.toNatClampNeg) - v2) < v5 → (vp_in v3 4 ∧ ((v5 ≤ ((h5.1 12 v3.toNatClampNeg) - v4) → wX8_move_115 d Q v1 v2 v3 v4 v5 (0 : Int32) h5) ∧ (¬ v5 ≤ ((h5.1 12 v3.toNatClampNeg) - v4) → MM d jX8_finds [.ref 0, .int (1 : Int32)] h5 (oh_r1 (fun x18 h17 => Q (some (.int x18)) h17))))))))))))))) ∧ (¬ (h5.1 11 v1.toNatClampNeg) = (h5.1 11 v3.toNatClampNeg) → MM d jX8_finds [.ref 0, .int (5 : Int32)] h5 (oh_r1 (fun x20 h19 => Q (some (.int x20)) h19))))))) ∧ ((h5.1 11 v3.toNatClampNeg) = 0 → MM d jX8_finds [.ref 0, .int (2 : Int32)] h5 (oh_r1 (fun x22 h21 => Q (some (.int x22)) h21))))))))) ∧ (x6 = 0 → MM d jX8_finds [.ref 0, .int (1 : Int32)] h5 (oh_r1 (fun x24 h23 => Q (some (.int x24)) h23))))))))))) : MM (d + 1) jX8_move [.ref 0, .int v1, .int v2, .int v3, .int v4, .int v5] h Q := oh_mwp_1 (nL := 6) (T := tX8_move) rfl rfl (oh_run_wp (oh_mwp_m d) 341 q)
set_option maxRecDepth 20000 in
theorem bX8_move_115 {d : Nat} {Q : oh_Q} {h : oh_St} {v1 v2 v3 v4 v5 v6 : Int32} (q : ((v5 ≤ v6 → wX8_move_152 d Q v3 v4 v5 (0 : Int32) h) ∧ (¬ v5 ≤ v6 → (vp_in ((((40 : Int32) * v1) + v2) + v6) 160 ∧ (vp_in v6 40 ∧ wX8_move_115 d Q v1 v2 v3 v4 v5 (v6 + (1 : Int32)) (oh_upi h 14 v6.toNatClampNeg (h.1 13 ((((40 : Int32) * v1) + v2) + v6).toNatClampNeg))))))) : wX8_move_115 d Q v1 v2 v3 v4 v5 v6 h := oh_run_wp (oh_mwp_m d) 341 q
set_option maxRecDepth 20000 in
theorem bX8_move_152 {d : Nat} {Q : oh_Q} {h : oh_St} {v3 v4 v5 v6 : Int32} (q : ((v5 ≤ v6 → Q (some (.int v5)) h) ∧ (¬ v5 ≤ v6 → (vp_in v6 40 ∧ (vp_in ((((40 : Int32) * v3) + v4) + v6) 160 ∧ wX8_move_152 d Q v3 v4 v5 (v6 + (1 : Int32)) (oh_upi h 13 ((((40 : Int32) * v3) + v4) + v6).toNatClampNeg (h.1 14 v6.toNatClampNeg))))))) : wX8_move_152 d Q v3 v4 v5 v6 h := oh_run_wp (oh_mwp_m d) 341 q
abbrev wX8_worlds_46 (d : Nat) (Q : oh_Q) (v1 : Int32) (v2 : Int64) (v4 : Int32) (h : oh_St) : Prop := oh_wp GM tX8_worlds (MM d) Q 46 cX8_worlds_46 [some (.ref 0), some (.int v1), some (.long v2), none, some (.int v4), none] [] h
set_option maxRecDepth 20000 in
theorem mX8_worlds {d : Nat} {Q : oh_Q} {h : oh_St} {v1 : Int32} (q : MM d jX8_isSheet [.int v1] h (oh_r1 (fun x2 h1 => ((¬ x2 = 0 → (vp_in v1 4 ∧ ((¬ (h1.1 11 v1.toNatClampNeg) = 0 → MM d jX8_isOpen [.ref 0] h1 (oh_r1 (fun x4 h3 => ((¬ x4 = 0 → wX8_worlds_46 d Q v1 (0 : Int64) (0 : Int32) h3) ∧ (x4 = 0 → MM d jX8_finds [.ref 0, .int (3 : Int32)] h3 (oh_r1 (fun x6 h5 => Q (some (.int x6)) h5))))))) ∧ ((h1.1 11 v1.toNatClampNeg) = 0 → MM d jX8_finds [.ref 0, .int (2 : Int32)] h1 (oh_r1 (fun x8 h7 => Q (some (.int x8)) h7)))))) ∧ (x2 = 0 → MM d jX8_finds [.ref 0, .int (1 : Int32)] h1 (oh_r1 (fun x10 h9 => Q (some (.int x10)) h9))))))) : MM (d + 1) jX8_worlds [.ref 0, .int v1] h Q := oh_mwp_1 (nL := 5) (T := tX8_worlds) rfl rfl (oh_run_wp (oh_mwp_m d) 272 q)
set_option maxRecDepth 20000 in
theorem bX8_worlds_46 {d : Nat} {Q : oh_Q} {h : oh_St} {v1 v4 : Int32} {v2 : Int64} (q : (vp_in v1 4 ∧ (((h.1 12 v1.toNatClampNeg) ≤ v4 → MM d jX8_hats [.ref 0] h (oh_r1 (fun x2 h1 => ((¬ (lg_cmp ((v2 >>> (x2.toInt64 &&& 63)) &&& (1 : Int64)) (0 : Int64)) = 0 → MM d jX8_manyOf [.long ((oh_upl h1 0 3 v2).2 0 3)] (oh_upl h1 0 3 v2) (oh_r1 (fun x4 h3 => Q (some (.int x4)) h3))) ∧ ((lg_cmp ((v2 >>> (x2.toInt64 &&& 63)) &&& (1 : Int64)) (0 : Int64)) = 0 → MM d jX8_finds [.ref 0, .int (3 : Int32)] h1 (oh_r1 (fun x6 h5 => Q (some (.int x6)) h5))))))) ∧ (¬ (h.1 12 v1.toNatClampNeg) ≤ v4 → (vp_in (((40 : Int32) * v1) + v4) 160 ∧ MM d jX8_allMen [.ref 0] h (oh_r1 (fun x8 h7 => MM d jX8_in [.long ((h.1 13 (((40 : Int32) * v1) + v4).toNatClampNeg).toInt64), .long (0 : Int64), .long (x8.toInt64)] h7 (oh_r1 (fun x10 h9 => ((x10 = 0 → wX8_worlds_46 d Q v1 (v2 ||| (0 : Int64)) (v4 + (1 : Int32)) h9) ∧ (¬ x10 = 0 → MM d jX8_isPossible [.ref 0, .int (h.1 13 (((40 : Int32) * v1) + v4).toNatClampNeg)] h9 (oh_r1 (fun x12 h11 => ((x12 = 0 → wX8_worlds_46 d Q v1 (v2 ||| (0 : Int64)) (v4 + (1 : Int32)) h11) ∧ (¬ x12 = 0 → wX8_worlds_46 d Q v1 (v2 ||| ((1 : Int64) <<< ((h.1 13 (((40 : Int32) * v1) + v4).toNatClampNeg).toInt64 &&& 63))) (v4 + (1 : Int32)) h11))))))))))))))) : wX8_worlds_46 d Q v1 v2 v4 h := oh_run_wp (oh_mwp_m d) 272 q
set_option maxRecDepth 20000 in
theorem mX8_image {d : Nat} {Q : oh_Q} {h : oh_St} (q : MM d jX8_copies [.ref 1, .ref 3] h (oh_r0 (fun h1 => Q (some (.int ((oh_upi (oh_upl h1 0 5 (h1.2 0 3)) 0 6 (((oh_upl h1 0 5 (h1.2 0 3)).1 0 6) + (1 : Int32))).1 0 6))) (oh_upi (oh_upl h1 0 5 (h1.2 0 3)) 0 6 (((oh_upl h1 0 5 (h1.2 0 3)).1 0 6) + (1 : Int32)))))) : MM (d + 1) jX8_image [.ref 0] h Q := oh_mwp_1 (nL := 0) (T := tX8_image) rfl rfl (oh_run_wp (oh_mwp_m d) 74 q)
set_option maxRecDepth 20000 in
theorem mX8_restore {d : Nat} {Q : oh_Q} {h : oh_St} (q : ((¬ (h.1 0 6) = 0 → MM d jX8_copies [.ref 3, .ref 1] h (oh_r0 (fun h1 => (vp_in (2 : Int32) 210 ∧ Q (some (.int ((oh_upl h1 0 3 (h1.2 0 5)).1 1 (2 : Int32).toNatClampNeg))) (oh_upl h1 0 3 (h1.2 0 5)))))) ∧ ((h.1 0 6) = 0 → MM d jX8_finds [.ref 0, .int (2 : Int32)] h (oh_r1 (fun x3 h2 => Q (some (.int x3)) h2))))) : MM (d + 1) jX8_restore [.ref 0] h Q := oh_mwp_1 (nL := 0) (T := tX8_restore) rfl rfl (oh_run_wp (oh_mwp_m d) 83 q)
set_option maxRecDepth 20000 in
theorem mX8_tell {d : Nat} {Q : oh_Q} {h : oh_St} {v1 : Int32} (q : (vp_in (7 : Int32) 210 ∧ ((¬ (h.1 1 (7 : Int32).toNatClampNeg) = (20 : Int32) → (vp_in (7 : Int32) 210 ∧ (vp_in ((40 : Int32) + (h.1 1 (7 : Int32).toNatClampNeg)) 210 ∧ (vp_in (7 : Int32) 210 ∧ (vp_in (7 : Int32) 210 ∧ (vp_in (7 : Int32) 210 ∧ Q (some (.int ((oh_upi (oh_upi h 1 ((40 : Int32) + (h.1 1 (7 : Int32).toNatClampNeg)).toNatClampNeg v1) 1 (7 : Int32).toNatClampNeg (((oh_upi h 1 ((40 : Int32) + (h.1 1 (7 : Int32).toNatClampNeg)).toNatClampNeg v1).1 1 (7 : Int32).toNatClampNeg) + (1 : Int32))).1 1 (7 : Int32).toNatClampNeg))) (oh_upi (oh_upi h 1 ((40 : Int32) + (h.1 1 (7 : Int32).toNatClampNeg)).toNatClampNeg v1) 1 (7 : Int32).toNatClampNeg (((oh_upi h 1 ((40 : Int32) + (h.1 1 (7 : Int32).toNatClampNeg)).toNatClampNeg v1).1 1 (7 : Int32).toNatClampNeg) + (1 : Int32))))))))) ∧ ((h.1 1 (7 : Int32).toNatClampNeg) = (20 : Int32) → MM d jX8_finds [.ref 0, .int (4 : Int32)] h (oh_r1 (fun x2 h1 => Q (some (.int x2)) h1)))))) : MM (d + 1) jX8_tell [.ref 0, .int v1] h Q := oh_mwp_1 (nL := 1) (T := tX8_tell) rfl rfl (oh_run_wp (oh_mwp_m d) 119 q)
abbrev wX8_check_37 (d : Nat) (Q : oh_Q) (v1 : Int32) (v2 : Int32) (v3 : Int32) (h : oh_St) : Prop := oh_wp GM tX8_check (MM d) Q 37 cX8_check_37 [some (.ref 0), some (.int v1), some (.int v2), some (.int v3)] [] h
set_option maxRecDepth 20000 in
theorem mX8_check {d : Nat} {Q : oh_Q} {h : oh_St} (q : (vp_in (7 : Int32) 210 ∧ (vp_in (7 : Int32) 210 ∧ MM d jX8_isOpen [.ref 0] (oh_upi h 1 (7 : Int32).toNatClampNeg (0 : Int32)) (oh_r1 (fun x2 h1 => ((¬ x2 = 0 → MM d jX8_begins [.ref 0] h1 (oh_r0 (fun h3 => wX8_check_37 d Q (h.1 1 (7 : Int32).toNatClampNeg) (0 : Int32) (0 : Int32) h3))) ∧ (x2 = 0 → MM d jX8_finds [.ref 0, .int (3 : Int32)] h1 (oh_r1 (fun x5 h4 => Q (some (.int x5)) h4))))))))) : MM (d + 1) jX8_check [.ref 0] h Q := oh_mwp_1 (nL := 3) (T := tX8_check) rfl rfl (oh_run_wp (oh_mwp_m d) 182 q)
set_option maxRecDepth 20000 in
theorem bX8_check_37 {d : Nat} {Q : oh_Q} {h : oh_St} {v1 v2 v3 : Int32} (q : ((v1 ≤ v3 → MM d jX8_ends [.ref 0] h (oh_r0 (fun h1 => Q (some (.int v2)) h1))) ∧ (¬ v1 ≤ v3 → ((¬ v2 = 0 → MM d jX8_ends [.ref 0] h (oh_r0 (fun h2 => Q (some (.int v2)) h2))) ∧ (v2 = 0 → MM d jX8_rings [.ref 0, .int (0 : Int32)] h (oh_r0 (fun h3 => (vp_in (3 : Int32) 210 ∧ (vp_in ((40 : Int32) + v3) 210 ∧ ((¬ (h3.1 1 (3 : Int32).toNatClampNeg) = (h3.1 1 ((40 : Int32) + v3).toNatClampNeg) → wX8_check_37 d Q v1 ((1 : Int32) + v3) (v3 + (1 : Int32)) h3) ∧ ((h3.1 1 (3 : Int32).toNatClampNeg) = (h3.1 1 ((40 : Int32) + v3).toNatClampNeg) → wX8_check_37 d Q v1 (0 : Int32) (v3 + (1 : Int32)) h3))))))))))) : wX8_check_37 d Q v1 v2 v3 h := oh_run_wp (oh_mwp_m d) 182 q
set_option maxRecDepth 20000 in
theorem mX8_count {d : Nat} {Q : oh_Q} {h : oh_St} {v1 : Int32} (q : ((v1 = (0 : Int32) → (vp_in (0 : Int32) 210 ∧ Q (some (.int (h.1 1 (0 : Int32).toNatClampNeg))) h)) ∧ (¬ v1 = (0 : Int32) → ((v1 = (1 : Int32) → (vp_in (1 : Int32) 210 ∧ Q (some (.int (h.1 1 (1 : Int32).toNatClampNeg))) h)) ∧ (¬ v1 = (1 : Int32) → ((v1 = (2 : Int32) → (vp_in (2 : Int32) 210 ∧ Q (some (.int (h.1 1 (2 : Int32).toNatClampNeg))) h)) ∧ (¬ v1 = (2 : Int32) → ((v1 = (3 : Int32) → (vp_in (3 : Int32) 210 ∧ Q (some (.int (h.1 1 (3 : Int32).toNatClampNeg))) h)) ∧ (¬ v1 = (3 : Int32) → ((v1 = (4 : Int32) → MM d jX8_isOpen [.ref 0] h (oh_r1 (fun x4 h3 => ((x4 = 0 → Q (some (.int (0 : Int32))) h3) ∧ (¬ x4 = 0 → MM d jX8_manyOf [.long (h3.2 0 3)] h3 (oh_r1 (fun x6 h5 => Q (some (.int x6)) h5))))))) ∧ (¬ v1 = (4 : Int32) → ((v1 = (5 : Int32) → (vp_in (4 : Int32) 210 ∧ Q (some (.int (h.1 1 (4 : Int32).toNatClampNeg))) h)) ∧ (¬ v1 = (5 : Int32) → ((v1 = (6 : Int32) → (vp_in (6 : Int32) 210 ∧ Q (some (.int (h.1 1 (6 : Int32).toNatClampNeg))) h)) ∧ (¬ v1 = (6 : Int32) → ((v1 = (7 : Int32) → (vp_in (7 : Int32) 210 ∧ Q (some (.int (h.1 1 (7 : Int32).toNatClampNeg))) h)) ∧ (¬ v1 = (7 : Int32) → ((v1 = (8 : Int32) → Q (some (.int (h.1 0 20))) h) ∧ (¬ v1 = (8 : Int32) → ((v1 = (9 : Int32) → (vp_in (5 : Int32) 210 ∧ Q (some (.int (h.1 1 (5 : Int32).toNatClampNeg))) h)) ∧ (¬ v1 = (9 : Int32) → MM d jX8_finds [.ref 0, .int (1 : Int32)] h (oh_r1 (fun x2 h1 => Q (some (.int x2)) h1))))))))))))))))))))))) : MM (d + 1) jX8_count [.ref 0, .int v1] h Q := oh_mwp_1 (nL := 1) (T := tX8_count) rfl rfl (oh_run_wp (oh_mwp_m d) 194 q)
set_option maxRecDepth 20000 in
theorem mX8_told {d : Nat} {Q : oh_Q} {h : oh_St} {v1 : Int32} (q : MM d jX8_in [.long (v1.toInt64), .long (1 : Int64), .long (5 : Int64)] h (oh_r1 (fun x2 h1 => ((x2 = 0 → MM d jX8_finds [.ref 0, .int (1 : Int32)] h1 (oh_r1 (fun x4 h3 => Q (some (.int x4)) h3))) ∧ (¬ x2 = 0 → (vp_in v1 6 ∧ Q (some (.int (h1.1 4 v1.toNatClampNeg))) h1)))))) : MM (d + 1) jX8_told [.ref 0, .int v1] h Q := oh_mwp_1 (nL := 1) (T := tX8_told) rfl rfl (oh_run_wp (oh_mwp_m d) 65 q)
end
section
/-! ===== Int32 by its bits: bt x i ===== -/
def bt (x : Int32) (i : Nat) : Bool := x.toBitVec.getLsbD i
theorem b_ext {x y : Int32} (h : ∀ i, i < 32 → bt x i = bt y i) : x = y := Int32.toBitVec_inj.mp (BitVec.eq_of_getLsbD_eq (fun i hi => h i hi))
theorem b_or (x y : Int32) (i : Nat) : bt (x ||| y) i = (bt x i || bt y i) := by unfold bt; rw [Int32.toBitVec_or, BitVec.getLsbD_or]
theorem b_and (x y : Int32) (i : Nat) : bt (x &&& y) i = (bt x i && bt y i) := by unfold bt; rw [Int32.toBitVec_and, BitVec.getLsbD_and]
theorem b_xor (x y : Int32) (i : Nat) : bt (x ^^^ y) i = (bt x i ^^ bt y i) := by unfold bt; rw [Int32.toBitVec_xor, BitVec.getLsbD_xor]
theorem b_big {x : Int32} {i : Nat} (h : 32 ≤ i) : bt x i = false := BitVec.getLsbD_of_ge _ _ h
theorem b_255 (i : Nat) : bt 255 i = decide (i < 8) := by
  rcases Nat.lt_or_ge i 32 with h | h
  · exact (by decide +kernel : ∀ i, i < 32 → bt 255 i = decide (i < 8)) i h
  · rw [b_big h, decide_eq_false (by omega)]
theorem b_65535 (i : Nat) : bt 65535 i = decide (i < 16) := by
  rcases Nat.lt_or_ge i 32 with h | h
  · exact (by decide +kernel : ∀ i, i < 32 → bt 65535 i = decide (i < 16)) i h
  · rw [b_big h, decide_eq_false (by omega)]
theorem b_m1 : ∀ i, i < 32 → bt (-1) i = true := by decide +kernel
theorem b_0 (i : Nat) : bt 0 i = false := BitVec.getLsbD_zero
theorem s_l : ∀ n, n < 32 → ((nI n &&& 31).toBitVec.smod 32).toNat = n := by decide +kernel
theorem s_u : ∀ n, n < 32 → (((nI n).toUInt32 &&& Int32.toUInt32 31).toBitVec % 32).toNat = n := by decide +kernel
theorem b_shl (n : Nat) (hn : n < 32) (x : Int32) {i : Nat} (hi : i < 32) : bt (x <<< (nI n &&& 31)) i = (decide (n ≤ i) && bt x (i - n)) := by
  unfold bt
  rw [Int32.toBitVec_shiftLeft]
  show (x.toBitVec <<< ((nI n &&& 31).toBitVec.smod 32).toNat).getLsbD i = _
  rw [s_l n hn, BitVec.getLsbD_shiftLeft]
  rcases Nat.lt_or_ge i n with h | h
  · simp [h, Nat.not_le.mpr h]
  · simp [hi, h, Nat.not_lt.mpr h]
theorem b_ushr (n : Nat) (hn : n < 32) (x : Int32) (i : Nat) : bt ((x.toUInt32 >>> ((nI n).toUInt32 &&& Int32.toUInt32 31)).toInt32) i = bt x (n + i) := by
  show (x.toUInt32 >>> ((nI n).toUInt32 &&& Int32.toUInt32 31)).toBitVec.getLsbD i = x.toUInt32.toBitVec.getLsbD (n + i)
  rw [UInt32.toBitVec_shiftRight]
  show (x.toUInt32.toBitVec >>> (((nI n).toUInt32 &&& Int32.toUInt32 31).toBitVec % 32).toNat).getLsbD i = _
  rw [s_u n hn, BitVec.getLsbD_ushiftRight]
theorem b_sshr (n : Nat) (hn : n < 32) (x : Int32) {i : Nat} (hi : i < 32) : bt (x >>> (nI n &&& 31)) i = if n + i < 32 then bt x (n + i) else bt x 31 := by
  unfold bt
  rw [Int32.toBitVec_shiftRight]
  show (x.toBitVec.sshiftRight ((nI n &&& 31).toBitVec.smod 32).toNat).getLsbD i = _
  rw [s_l n hn, BitVec.getLsbD_sshiftRight, BitVec.msb_eq_getLsbD_last]
  simp [hi]
theorem b_shl8 (x : Int32) {i : Nat} (hi : i < 32) : bt (x <<< ((8 : Int32) &&& 31)) i = (decide (8 ≤ i) && bt x (i - 8)) := b_shl 8 (by omega) x hi
theorem b_shl16 (x : Int32) {i : Nat} (hi : i < 32) : bt (x <<< ((16 : Int32) &&& 31)) i = (decide (16 ≤ i) && bt x (i - 16)) := b_shl 16 (by omega) x hi
theorem b_shl24 (x : Int32) {i : Nat} (hi : i < 32) : bt (x <<< ((24 : Int32) &&& 31)) i = (decide (24 ≤ i) && bt x (i - 24)) := b_shl 24 (by omega) x hi
theorem b_sshr8 (x : Int32) {i : Nat} (hi : i < 32) : bt (x >>> ((8 : Int32) &&& 31)) i = if 8 + i < 32 then bt x (8 + i) else bt x 31 := b_sshr 8 (by omega) x hi
/-! ===== Int64 as a set of bits: test, set, clear ===== -/
theorem ts_nf {x : Bool} (h : ¬ x = false) : x = true := by cases x <;> first | rfl | exact absurd rfl h
theorem ts_nt {x : Bool} (h : ¬ x = true) : x = false := by cases x <;> first | rfl | exact absurd rfl h
theorem ts_bit {w : Int64} {s : UInt64} {j : Nat} (hj : j < 64) (hs : s.toNat = j) : ((w.toUInt64 >>> s).toInt64 &&& 1) = 0 ↔ w.toBitVec.getLsbD j = false := by
  have e : (w.toUInt64 >>> s).toInt64.toBitVec = w.toBitVec >>> j := by
    apply BitVec.eq_of_toNat_eq
    show (w.toUInt64 >>> s).toNat = _
    rw [UInt64.toNat_shiftRight, hs, Nat.mod_eq_of_lt hj, BitVec.toNat_ushiftRight]
    rfl
  rw [← Int64.toBitVec_inj, Int64.toBitVec_and, e]
  show w.toBitVec >>> j &&& 1#64 = 0#64 ↔ _
  constructor
  · intro h
    have t := congrArg (fun x => x.getLsbD 0) h
    simpa using t
  · intro h
    apply BitVec.eq_of_getLsbD_eq
    intro i hi
    cases i with
    | zero => simp [h]
    | succ i => simp
theorem ts_or {w m : Int64} {j : Nat} (hj : j < 64) (hm : m.toBitVec = BitVec.twoPow 64 j) : (w ||| m) = w ↔ w.toBitVec.getLsbD j = true := by
  rw [← Int64.toBitVec_inj, Int64.toBitVec_or, hm]
  constructor
  · intro h
    have t := congrArg (fun x => x.getLsbD j) h
    simp only [BitVec.getLsbD_or, BitVec.getLsbD_twoPow] at t
    simpa [hj] using t.symm
  · intro h
    apply BitVec.eq_of_getLsbD_eq
    intro i hi
    rw [BitVec.getLsbD_or, BitVec.getLsbD_twoPow]
    by_cases e : j = i
    · subst e; rw [h, Bool.true_or]
    · simp [e]
theorem ts_and {w m : Int64} {j : Nat} (hj : j < 64) (hm : m.toBitVec = BitVec.twoPow 64 j) : (w &&& (m ^^^ (-1))) = w ↔ w.toBitVec.getLsbD j = false := by
  have ha : (-1 : Int64).toBitVec = BitVec.allOnes 64 := by decide
  rw [← Int64.toBitVec_inj, Int64.toBitVec_and, Int64.toBitVec_xor, hm, ha]
  constructor
  · intro h
    have t := congrArg (fun x => x.getLsbD j) h
    simp only [BitVec.getLsbD_and, BitVec.getLsbD_xor, BitVec.getLsbD_twoPow, BitVec.getLsbD_allOnes] at t
    simpa [hj] using t.symm
  · intro h
    apply BitVec.eq_of_getLsbD_eq
    intro i hi
    rw [BitVec.getLsbD_and, BitVec.getLsbD_xor, BitVec.getLsbD_twoPow, BitVec.getLsbD_allOnes]
    by_cases e : j = i
    · subst e; rw [h, Bool.false_and]
    · simp [e, hi]
/-! ===== lN n to 2^64: shifts, and, or, masks, one bit ===== -/
theorem wb_tb (n : Nat) : (lN n).toBitVec = BitVec.ofNat 64 n := rfl
theorem wb_inj {a b : Int64} (h : a.toBitVec = b.toBitVec) : a = b := Int64.toBitVec_inj.mp h
theorem wb_tn {n : Nat} (h : n < 2 ^ 64) : (lN n).toBitVec.toNat = n := by rw [wb_tb, BitVec.toNat_ofNat, Nat.mod_eq_of_lt h]
theorem wb_of (x : Int64) : ∃ n, n < 2 ^ 64 ∧ x = lN n := ⟨x.toBitVec.toNat, x.toBitVec.isLt, wb_inj (by rw [wb_tb]; simp)⟩
theorem wb_of32 (x : Int32) : ∃ n, n < 2 ^ 32 ∧ x = nI n := ⟨x.toBitVec.toNat, x.toBitVec.isLt, Int32.toBitVec_inj.mp (by show _ = BitVec.ofNat 32 _; simp)⟩
theorem wb_c : ∀ k, k < 64 → ((nI k).toInt64 &&& 63) = lN k := by decide +kernel
theorem wb_cu : ∀ k, k < 64 → ((nI k).toInt64.toUInt64 &&& Int64.toUInt64 63) = UInt64.ofNat k := by decide +kernel
theorem wb_sm : ∀ k, k < 64 → (BitVec.ofNat 64 k).smod 64 = BitVec.ofNat 64 k := by decide +kernel
theorem wb_pw {a b : Nat} (h : a ≤ b) : 2 ^ b = 2 ^ a * 2 ^ (b - a) := by rw [← Nat.pow_add]; congr 1; omega
theorem wb_lt2 {a b : Nat} (h : a < b) : 2 ^ a < 2 ^ b := Nat.pow_lt_pow_right (by decide) h
theorem wb_mod (n : Nat) : lN n = lN (n % 2 ^ 64) := wb_inj (by rw [wb_tb, wb_tb]; apply BitVec.eq_of_toNat_eq; rw [BitVec.toNat_ofNat, BitVec.toNat_ofNat, Nat.mod_mod])
theorem wb_shr {n k : Nat} (hn : n < 2 ^ 64) (hk : k < 64) : ((lN n).toUInt64 >>> ((nI k).toInt64.toUInt64 &&& Int64.toUInt64 63)).toInt64 = lN (n / 2 ^ k) := by
  rw [wb_cu k hk]
  apply wb_inj
  apply BitVec.eq_of_toNat_eq
  show ((lN n).toUInt64 >>> UInt64.ofNat k).toNat = (BitVec.ofNat 64 _).toNat
  have h1 : (UInt64.ofNat k).toNat = k := by
    show (BitVec.ofNat 64 k).toNat = k
    rw [BitVec.toNat_ofNat, Nat.mod_eq_of_lt (by omega)]
  have h2 : (lN n).toUInt64.toNat = n := wb_tn hn
  rw [UInt64.toNat_shiftRight, h1, h2, Nat.mod_eq_of_lt hk, Nat.shiftRight_eq_div_pow, BitVec.toNat_ofNat, Nat.mod_eq_of_lt (Nat.lt_of_le_of_lt (Nat.div_le_self _ _) hn)]
theorem wb_shl (n : Nat) {k : Nat} (hk : k < 64) : lN n <<< ((nI k).toInt64 &&& 63) = lN (n * 2 ^ k) := by
  rw [wb_c k hk]
  apply wb_inj
  rw [Int64.toBitVec_shiftLeft, wb_tb, wb_tb, wb_tb, wb_sm k hk]
  apply BitVec.eq_of_toNat_eq
  rw [BitVec.shiftLeft_eq', BitVec.toNat_shiftLeft, BitVec.toNat_ofNat, BitVec.toNat_ofNat, BitVec.toNat_ofNat, Nat.mod_eq_of_lt (show k < 2 ^ 64 by omega), Nat.shiftLeft_eq, Nat.mul_mod, Nat.mod_mod, ← Nat.mul_mod]
theorem wb_and {a b : Nat} (ha : a < 2 ^ 64) (hb : b < 2 ^ 64) : lN a &&& lN b = lN (a &&& b) := by
  apply wb_inj
  rw [Int64.toBitVec_and, wb_tb, wb_tb, wb_tb]
  apply BitVec.eq_of_toNat_eq
  rw [BitVec.toNat_and, BitVec.toNat_ofNat, BitVec.toNat_ofNat, BitVec.toNat_ofNat, Nat.mod_eq_of_lt ha, Nat.mod_eq_of_lt hb, Nat.mod_eq_of_lt (Nat.and_lt_two_pow _ hb)]
theorem wb_or {a b : Nat} (ha : a < 2 ^ 64) (hb : b < 2 ^ 64) : lN a ||| lN b = lN (a ||| b) := by
  apply wb_inj
  rw [Int64.toBitVec_or, wb_tb, wb_tb, wb_tb]
  apply BitVec.eq_of_toNat_eq
  rw [BitVec.toNat_or, BitVec.toNat_ofNat, BitVec.toNat_ofNat, BitVec.toNat_ofNat, Nat.mod_eq_of_lt ha, Nat.mod_eq_of_lt hb, Nat.mod_eq_of_lt (Nat.or_lt_two_pow ha hb)]
theorem wb_mask {n k : Nat} (hn : n < 2 ^ 64) (hk : k < 64) : lN n &&& lN (2 ^ k - 1) = lN (n % 2 ^ k) := by
  rw [wb_and hn (by have := wb_lt2 hk; omega), Nat.and_two_pow_sub_one_eq_mod]
theorem wb_a1 {n : Nat} (hn : n < 2 ^ 64) : lN n &&& 1 = lN (n % 2) := wb_mask (k := 1) hn (by decide)
theorem wb_bit {n k : Nat} (hn : n < 2 ^ 64) (hk : k < 64) : ((lN n).toUInt64 >>> ((nI k).toInt64.toUInt64 &&& Int64.toUInt64 63)).toInt64 &&& 1 = lN (n / 2 ^ k % 2) := by
  rw [wb_shr hn hk, wb_a1 (Nat.lt_of_le_of_lt (Nat.div_le_self _ _) hn)]
theorem wb_xor {q k : Nat} (hk : k < 63) (h : 2 ^ k ≤ q) (h2 : q < 2 ^ (k + 1)) : lN q ^^^ lN (2 ^ k) = lN (q - 2 ^ k) := by
  obtain ⟨r, rfl⟩ : ∃ r, q = 2 ^ k + r := ⟨q - 2 ^ k, by omega⟩
  have hr : r < 2 ^ k := by rw [Nat.pow_succ] at h2; omega
  have hx : (2 ^ k + r) ^^^ 2 ^ k = r := by
    apply Nat.eq_of_testBit_eq
    intro i
    rw [Nat.testBit_xor, Nat.testBit_two_pow]
    rcases Nat.lt_trichotomy i k with h | h | h
    · rw [Nat.testBit_two_pow_add_gt h]
      simp [show ¬ k = i by omega]
    · subst h
      rw [Nat.testBit_two_pow_add_eq]
      simp
    · have a1 : 2 ^ (k + 1) ≤ 2 ^ i := Nat.pow_le_pow_right (by decide) h
      rw [Nat.testBit_lt_two_pow (show 2 ^ k + r < 2 ^ i by omega), Nat.testBit_lt_two_pow (show r < 2 ^ i by omega)]
      simp [show ¬ k = i by omega]
  have b1 := wb_lt2 (show k + 1 < 64 by omega)
  have b2 := wb_lt2 (show k < 64 by omega)
  apply wb_inj
  rw [Int64.toBitVec_xor, wb_tb, wb_tb, wb_tb]
  apply BitVec.eq_of_toNat_eq
  rw [BitVec.toNat_xor, BitVec.toNat_ofNat, BitVec.toNat_ofNat, BitVec.toNat_ofNat, Nat.mod_eq_of_lt (by omega : 2 ^ k + r < 2 ^ 64), Nat.mod_eq_of_lt b2, hx, Nat.add_sub_cancel_left, Nat.mod_eq_of_lt (by omega)]
/-! plain facts on numbers and arrays, to paste: each family by itself; over the kit's rows on nI and upd -/
/-! ===== order of ints, in all its forms, and through longs ===== -/
theorem fa_lt (a b : Int32) : a < b ↔ a.toInt < b.toInt := Int32.lt_iff_toInt_lt
theorem fa_le (a b : Int32) : a ≤ b ↔ a.toInt ≤ b.toInt := Int32.le_iff_toInt_le
theorem fa_eq (a b : Int32) : a = b ↔ a.toInt = b.toInt := Int32.toInt_inj.symm
theorem fa_lt64 (a b : Int64) : a < b ↔ a.toInt < b.toInt := Int64.lt_iff_toInt_lt
theorem fa_le64 (a b : Int64) : a ≤ b ↔ a.toInt ≤ b.toInt := Int64.le_iff_toInt_le
theorem fa_eq64 (a b : Int64) : a = b ↔ a.toInt = b.toInt := Int64.toInt_inj.symm
/-- a comparison of two ints taken as longs -/
theorem fa_wide_lt (a b : Int32) : a.toInt64 < b.toInt64 ↔ a < b := by rw [fa_lt64, fa_lt, Int32.toInt_toInt64, Int32.toInt_toInt64]
theorem fa_wide_le (a b : Int32) : a.toInt64 ≤ b.toInt64 ↔ a ≤ b := by rw [fa_le64, fa_le, Int32.toInt_toInt64, Int32.toInt_toInt64]
theorem fa_wide_eq (a b : Int32) : a.toInt64 = b.toInt64 ↔ a = b := by rw [fa_eq64, fa_eq, Int32.toInt_toInt64, Int32.toInt_toInt64]
/-- one strict comparison gives all the others -/
theorem fa_of_lt {a b : Int32} (h : a < b) : a ≤ b ∧ ¬ b ≤ a ∧ ¬ b < a ∧ a ≠ b ∧ b ≠ a := by
  rw [fa_lt] at h
  refine ⟨?_, ?_, ?_, ?_, ?_⟩
  · rw [fa_le]; omega
  · rw [fa_le]; omega
  · rw [fa_lt]; omega
  · intro e; rw [fa_eq] at e; omega
  · intro e; rw [fa_eq] at e; omega
theorem fa_of_nlt {a b : Int32} (h : ¬ a < b) : b ≤ a := by
  rw [fa_lt] at h
  rw [fa_le]
  omega
theorem fa_of_nle {a b : Int32} (h : ¬ a ≤ b) : b < a := by
  rw [fa_le] at h
  rw [fa_lt]
  omega
theorem fa_le_ne {a b : Int32} (h : a ≤ b) (h2 : a ≠ b) : a < b := by
  rw [fa_le] at h
  rw [fa_lt]
  have h3 : a.toInt ≠ b.toInt := fun e => h2 ((fa_eq a b).mpr e)
  omega
theorem fa_three (a b : Int32) : a < b ∨ a = b ∨ b < a := by
  rw [fa_lt, fa_lt, fa_eq]
  omega
theorem fa_trans {a b c : Int32} (h : a < b) (h2 : b ≤ c) : a < c := by
  rw [fa_lt] at *
  rw [fa_le] at h2
  omega
/-! ===== small literals as numbers ===== -/
theorem fa_lit (n : Nat) : (OfNat.ofNat n : Int32) = nI n := rfl
theorem fa_litL (n : Nat) : (OfNat.ofNat n : Int64) = lN n := rfl
/-! ===== bits of a number: 'or', masks, one bit ===== -/
theorem fa_and (a b : Nat) : nI a &&& nI b = nI (a &&& b) := by
  apply Int32.toBitVec_inj.1
  show BitVec.ofNat 32 a &&& BitVec.ofNat 32 b = BitVec.ofNat 32 (a &&& b)
  apply BitVec.eq_of_getLsbD_eq
  intro i hi
  simp [hi]
theorem fa_or (a b : Nat) : nI a ||| nI b = nI (a ||| b) := by
  apply Int32.toBitVec_inj.1
  show BitVec.ofNat 32 a ||| BitVec.ofNat 32 b = BitVec.ofNat 32 (a ||| b)
  apply BitVec.eq_of_getLsbD_eq
  intro i hi
  simp [hi]
/-- a remainder by a power of two, as a mask -/
theorem fa_mask (n k : Nat) : nI n &&& nI (2 ^ k - 1) = nI (n % 2 ^ k) := by rw [fa_and, Nat.and_two_pow_sub_one_eq_mod]
/-- 'or' of a high part and a low one that don't meet is their sum -/
theorem fa_or_sum {a k : Nat} (b : Nat) (h : a < 2 ^ k) : nI (2 ^ k * b) ||| nI a = nI (2 ^ k * b + a) := by rw [fa_or, Nat.two_pow_add_eq_or_of_lt h]
/-- one bit, by 'and' with a power of two -/
theorem fa_bit {n j : Nat} (hj : j < 31) : nI n &&& nI (2 ^ j) = 0 ↔ n.testBit j = false := by
  have h2 : (2 : Nat) ^ j < 2 ^ 31 := Nat.pow_lt_pow_right (by decide) hj
  have hle : n &&& 2 ^ j ≤ 2 ^ j := Nat.and_le_right
  have e : n &&& 2 ^ j = 0 ↔ n.testBit j = false := by
    constructor
    · intro h
      have h1 : (n &&& 2 ^ j).testBit j = false := by rw [h]; simp
      rw [Nat.testBit_and] at h1
      first | simpa using h1 | simpa [Nat.testBit_two_pow_self] using h1 | simpa [Nat.testBit_two_pow] using h1
    · intro h
      apply Nat.eq_of_testBit_eq
      intro i
      rw [Nat.testBit_and]
      by_cases hi : j = i
      · subst hi; simp [h]
      · first | (simp [Nat.testBit_two_pow, hi]; done) | (simp [Nat.testBit_two_pow_of_ne hi]; done)
  rw [fa_and]
  constructor
  · intro h
    apply e.mp
    rcases Nat.eq_zero_or_pos (n &&& 2 ^ j) with z | z
    · exact z
    · exact absurd h (nI_ne0 z (Nat.lt_of_le_of_lt hle h2))
  · intro h
    rw [e.mpr h]; exact nI_0
/-- a remainder by a power of two of a number that isn't negative, as Java divides -/
theorem fa_rem {a k : Nat} (ha : a < 2 ^ 31) (hk : k < 31) : nI a - nI a / nI (2 ^ k) * nI (2 ^ k) = nI (a % 2 ^ k) := pk_rem ha (Nat.two_pow_pos k) (Nat.pow_lt_pow_right (by decide) hk)
/-! ===== cuts to a byte, a short ===== -/
theorem fa_byte_xor (x y : Int32) : (x ^^^ y).toInt8 = x.toInt8 ^^^ y.toInt8 := by
  apply Int8.toBitVec_inj.1
  apply BitVec.eq_of_getLsbD_eq
  intro i hi
  first | (simp [hi]; done) | (simp [hi, BitVec.getLsbD_setWidth, BitVec.getLsbD_signExtend]; done)
theorem fa_short_xor (x y : Int32) : (x ^^^ y).toInt16 = x.toInt16 ^^^ y.toInt16 := by
  apply Int16.toBitVec_inj.1
  apply BitVec.eq_of_getLsbD_eq
  intro i hi
  first | (simp [hi]; done) | (simp [hi, BitVec.getLsbD_setWidth, BitVec.getLsbD_signExtend]; done)
/-- the cut to a byte sees the low byte alone -/
theorem fa_byte_low (x : Int32) : (x &&& 255).toInt8 = x.toInt8 := by
  apply Int8.toBitVec_inj.1
  apply BitVec.eq_of_getLsbD_eq
  intro i hi
  have h2 : (255 : Int32).toBitVec.getLsbD i = true := by
    have : ∀ j : Fin 8, (255 : Int32).toBitVec.getLsbD j.val = true := by decide +kernel
    exact this ⟨i, hi⟩
  have h4 : (x &&& 255).toBitVec.getLsbD i = x.toBitVec.getLsbD i := by
    show (x.toBitVec &&& (255 : Int32).toBitVec).getLsbD i = _
    rw [BitVec.getLsbD_and, h2, Bool.and_true]
  have h3 : i < 32 := by omega
  first
    | (show (((x &&& 255).toBitVec).signExtend 8).getLsbD i = (x.toBitVec.signExtend 8).getLsbD i; rw [BitVec.getLsbD_signExtend, BitVec.getLsbD_signExtend, if_pos h3, if_pos h3, h4])
    | (show (((x &&& 255).toBitVec).setWidth 8).getLsbD i = (x.toBitVec.setWidth 8).getLsbD i; rw [BitVec.getLsbD_setWidth, BitVec.getLsbD_setWidth, h4])
    | (simp [hi, h3, h4]; done)
theorem fa_short_low (x : Int32) : (x &&& 65535).toInt16 = x.toInt16 := by
  apply Int16.toBitVec_inj.1
  apply BitVec.eq_of_getLsbD_eq
  intro i hi
  have h2 : (65535 : Int32).toBitVec.getLsbD i = true := by
    have : ∀ j : Fin 16, (65535 : Int32).toBitVec.getLsbD j.val = true := by decide +kernel
    exact this ⟨i, hi⟩
  have h4 : (x &&& 65535).toBitVec.getLsbD i = x.toBitVec.getLsbD i := by
    show (x.toBitVec &&& (65535 : Int32).toBitVec).getLsbD i = _
    rw [BitVec.getLsbD_and, h2, Bool.and_true]
  have h3 : i < 32 := by omega
  first
    | (show (((x &&& 65535).toBitVec).signExtend 16).getLsbD i = (x.toBitVec.signExtend 16).getLsbD i; rw [BitVec.getLsbD_signExtend, BitVec.getLsbD_signExtend, if_pos h3, if_pos h3, h4])
    | (show (((x &&& 65535).toBitVec).setWidth 16).getLsbD i = (x.toBitVec.setWidth 16).getLsbD i; rw [BitVec.getLsbD_setWidth, BitVec.getLsbD_setWidth, h4])
    | (simp [hi, h3, h4]; done)
/-- a small number is its own byte, its own short -/
theorem fa_byte_small {n : Nat} (h : n < 128) : (nI n).toInt8.toInt32 = nI n := by
  have : ∀ j : Fin 128, (nI j.val).toInt8.toInt32 = nI j.val := by decide +kernel
  exact this ⟨n, h⟩
/-! ===== absolute difference ===== -/
theorem fa_absdiff {a b : Nat} (ha : a < 2 ^ 31) (hb : b < 2 ^ 31) : (if nI a < nI b then nI b - nI a else nI a - nI b) = nI (if a < b then b - a else a - b) := by
  by_cases h : a < b
  · rw [if_pos (nI_lt h hb), if_pos h]
    exact pk_sub (Nat.le_of_lt h)
  · rw [if_neg (nI_nlt (Nat.le_of_not_lt h) ha), if_neg h]
    exact pk_sub (Nat.le_of_not_lt h)
/-! ===== an array behind i stores, a conditional store, a row copied ===== -/
/-- f where k < i, what stood there else -/
def fa_fill {α : Type} (f g : Nat → α) (i : Nat) : Nat → α := fun k => if k < i then f k else g k
theorem fa_fill_0 {α : Type} (f g : Nat → α) : fa_fill f g 0 = g := funext fun k => if_neg (Nat.not_lt_zero k)
theorem fa_fill_in {α : Type} {f g : Nat → α} {i k : Nat} (h : k < i) : fa_fill f g i k = f k := if_pos h
theorem fa_fill_out {α : Type} {f g : Nat → α} {i k : Nat} (h : i ≤ k) : fa_fill f g i k = g k := if_neg (Nat.not_lt.mpr h)
theorem fa_fill_succ (f g : Nat → Int32) (i : Nat) : upd (fa_fill f g i) i (f i) = fa_fill f g (i + 1) := by
  funext k
  by_cases e : k = i
  · subst e
    rw [pk_us]
    exact (if_pos (Nat.lt_succ_self k)).symm
  · rw [pk_un e]
    by_cases h : k < i
    · rw [fa_fill_in h, fa_fill_in (Nat.lt_succ_of_lt h)]
    · rw [fa_fill_out (Nat.le_of_not_lt h), fa_fill_out (by omega)]
/-- a store that changes nothing -/
theorem fa_upd_same {f : Nat → Int32} {i : Nat} {x : Int32} (h : f i = x) : upd f i x = f := by
  funext k
  by_cases e : k = i
  · subst e
    rw [pk_us, h]
  · rw [pk_un e]
/-- a store under a condition, told as one -/
theorem fa_upd_if (c : Prop) [Decidable c] (f : Nat → Int32) (i : Nat) (x : Int32) : (if c then upd f i x else f) = upd f i (if c then x else f i) := by
  by_cases h : c
  · rw [if_pos h, if_pos h]
  · rw [if_neg h, if_neg h, fa_upd_same rfl]
/-- two stores at one place, at two -/
theorem fa_upd_twice (f : Nat → Int32) (i : Nat) (x y : Int32) : upd (upd f i x) i y = upd f i y := by
  funext k
  by_cases e : k = i
  · subst e
    rw [pk_us, pk_us]
  · rw [pk_un e, pk_un e, pk_un e]
theorem fa_upd_swap (f : Nat → Int32) {i j : Nat} (h : i ≠ j) (x y : Int32) : upd (upd f i x) j y = upd (upd f j y) i x := by
  funext k
  by_cases e : k = i
  · subst e
    rw [pk_un h, pk_us, pk_us]
  · by_cases e2 : k = j
    · subst e2
      rw [pk_us, pk_un e, pk_us]
    · rw [pk_un e2, pk_un e, pk_un e, pk_un e2]
/-! ===== the first index with a property; a count ===== -/
/-- the first k < n with p k, n if there is none -/
def fa_first (p : Nat → Bool) : Nat → Nat
  | 0 => 0
  | n + 1 => if fa_first p n < n then fa_first p n else if p n then n else n + 1
theorem fa_first_le (p : Nat → Bool) : ∀ n, fa_first p n ≤ n
  | 0 => Nat.le_refl 0
  | n + 1 => by
    have ih := fa_first_le p n
    unfold fa_first
    split
    · omega
    · split
      · omega
      · omega
theorem fa_first_no (p : Nat → Bool) : ∀ n k, k < fa_first p n → p k = false
  | 0, k, h => absurd h (Nat.not_lt_zero k)
  | n + 1, k, h => by
    have ih := fa_first_no p n
    have hl := fa_first_le p n
    unfold fa_first at h
    split at h
    · exact ih k h
    · rename_i h1
      split at h
      · exact ih k (by omega)
      · rename_i h2
        by_cases e : k = n
        · subst e
          exact Bool.eq_false_iff.mpr h2
        · exact ih k (by omega)
theorem fa_first_yes (p : Nat → Bool) : ∀ n, fa_first p n < n → p (fa_first p n) = true
  | 0, h => absurd h (Nat.not_lt_zero _)
  | n + 1, h => by
    have ih := fa_first_yes p n
    have hl := fa_first_le p n
    unfold fa_first at h ⊢
    split at h
    · rename_i h1
      rw [if_pos h1]
      exact ih h1
    · rename_i h1
      rw [if_neg h1]
      split at h
      · rename_i h2
        rw [if_pos h2]
        exact h2
      · omega
/-- how many k < n have p k -/
def fa_cnt (p : Nat → Bool) : Nat → Nat
  | 0 => 0
  | n + 1 => fa_cnt p n + if p n then 1 else 0
theorem fa_cnt_le (p : Nat → Bool) : ∀ n, fa_cnt p n ≤ n
  | 0 => Nat.le_refl 0
  | n + 1 => by
    have ih := fa_cnt_le p n
    unfold fa_cnt
    split
    · omega
    · omega
theorem fa_cnt_yes {p : Nat → Bool} {n : Nat} (h : p n = true) : fa_cnt p (n + 1) = fa_cnt p n + 1 := by rw [fa_cnt, if_pos h]
theorem fa_cnt_no {p : Nat → Bool} {n : Nat} (h : p n = false) : fa_cnt p (n + 1) = fa_cnt p n := by rw [fa_cnt, if_neg (by rw [h]; decide)]; rfl
theorem fa_cnt_cong {p q : Nat → Bool} : ∀ {n : Nat}, (∀ k, k < n → p k = q k) → fa_cnt p n = fa_cnt q n
  | 0, _ => rfl
  | n + 1, h => by rw [fa_cnt, fa_cnt, fa_cnt_cong (fun k hk => h k (Nat.lt_succ_of_lt hk)), h n (Nat.lt_succ_self n)]
/-! ===== an answer carried into a post; a branch on a boolean answer ===== -/
theorem fa_post {α : Type} {P : α → Prop} {x y : α} (h : x = y) (hp : P y) : P x := h ▸ hp
theorem fa_post2 {α β : Type} {P : α → β → Prop} {x y : α} {u v : β} (h : x = y) (h2 : u = v) (hp : P y v) : P x u := h ▸ h2 ▸ hp
theorem fa_bool {r : Int32} {b : Bool} (h : r = if b then 1 else 0) : (r = 0 ↔ b = false) ∧ (¬ r = 0 ↔ b = true) := by
  subst h
  cases b
  · exact ⟨⟨fun _ => rfl, fun _ => rfl⟩, ⟨fun h => absurd rfl h, fun h => absurd h (by decide)⟩⟩
  · exact ⟨⟨fun h => absurd h (by decide), fun h => absurd h (by decide)⟩, ⟨fun _ => rfl, fun _ => by decide⟩⟩
/-- a boolean's narrowing changes nothing -/
theorem fa_bool_and {r : Int32} (h : r = 0 ∨ r = 1) : r &&& 1 = r := by
  rcases h with rfl | rfl
  · decide
  · decide
theorem fa_bool_prop {c : Prop} [Decidable c] {r : Int32} (h : r = if c then 1 else 0) : (r = 0 ↔ ¬ c) ∧ (¬ r = 0 ↔ c) := by
  subst h
  by_cases hc : c
  · rw [if_pos hc]
    exact ⟨⟨fun h => absurd h (by decide), fun h => absurd hc h⟩, ⟨fun _ => hc, fun _ => by decide⟩⟩
  · rw [if_neg hc]
    exact ⟨⟨fun _ => hc, fun _ => rfl⟩, ⟨fun h => absurd rfl h, fun h => absurd h hc⟩⟩
/-! plain facts to paste, each family by itself; over the kit's nI, lN and upd -/
/-! ===== drawers: more things than places ===== -/
theorem fb_holes : ∀ (m n : Nat) (f : Nat → Nat), (∀ i, i < n → f i < m) → (∀ i j, i < j → j < n → f i ≠ f j) → n ≤ m := by
  intro m
  induction m with
  | zero =>
    intro n f h1 _
    rcases Nat.eq_zero_or_pos n with h | h
    · omega
    · exact absurd (h1 0 h) (Nat.not_lt_zero _)
  | succ m ih =>
    intro n f h1 h2
    by_cases hx : ∃ i, i < n ∧ f i = m
    · obtain ⟨a, ha, hfa⟩ := hx
      have hg := ih (n - 1) (fun i => if i < a then f i else f (i + 1)) (by
        intro i hi
        by_cases q : i < a
        · simp only [if_pos q]
          have b1 := h1 i (by omega)
          have b2 := h2 i a q ha
          omega
        · simp only [if_neg q]
          have b1 := h1 (i + 1) (by omega)
          have b2 := h2 a (i + 1) (by omega) (by omega)
          omega) (by
        intro i j hij hj
        by_cases q : i < a
        · by_cases r : j < a
          · simp only [if_pos q, if_pos r]
            exact h2 i j hij (by omega)
          · simp only [if_pos q, if_neg r]
            exact h2 i (j + 1) (by omega) (by omega)
        · have r : ¬ j < a := by omega
          simp only [if_neg q, if_neg r]
          exact h2 (i + 1) (j + 1) (by omega) (by omega))
      omega
    · have hg := ih n f (fun i hi => by
        have b1 := h1 i hi
        have b2 : f i ≠ m := fun e => hx ⟨i, hi, e⟩
        omega) h2
      omega
/-- two of them in one place -/
theorem fb_twice {m n : Nat} {f : Nat → Nat} (h : ∀ i, i < n → f i < m) (hm : m < n) : ∃ i j, i < j ∧ j < n ∧ f i = f j := by
  refine Classical.byContradiction fun hx => ?_
  have := fb_holes m n f h (fun i j hij hj e => hx ⟨i, j, hij, hj, e⟩)
  omega
/-- as many as places, none twice: each place is taken -/
theorem fb_onto {n : Nat} {f : Nat → Nat} (h : ∀ i, i < n → f i < n) (h2 : ∀ i j, i < j → j < n → f i ≠ f j) {y : Nat} (hy : y < n) : ∃ i, i < n ∧ f i = y := by
  refine Classical.byContradiction fun hx => ?_
  have hne : ∀ i, i < n → f i ≠ y := fun i hi e => hx ⟨i, hi, e⟩
  have := fb_holes (n - 1) n (fun i => if f i < y then f i else f i - 1) (by
    intro i hi
    have b1 := h i hi
    have b2 := hne i hi
    by_cases q : f i < y
    · simp only [if_pos q]; omega
    · simp only [if_neg q]; omega) (by
    intro i j hij hj
    have b1 := hne i (by omega)
    have b2 := hne j hj
    have b3 := h2 i j hij hj
    by_cases q : f i < y
    · by_cases r : f j < y
      · simp only [if_pos q, if_pos r]; exact b3
      · simp only [if_pos q, if_neg r]; omega
    · by_cases r : f j < y
      · simp only [if_neg q, if_pos r]; omega
      · simp only [if_neg q, if_neg r]; omega)
  omega
/-! ===== how many places have a property ===== -/
def fb_ct (p : Nat → Bool) : Nat → Nat
  | 0 => 0
  | n + 1 => fb_ct p n + (if p n then 1 else 0)
theorem fb_ct_succ (p : Nat → Bool) (n : Nat) : fb_ct p (n + 1) = fb_ct p n + (if p n then 1 else 0) := rfl
theorem fb_ct_le (p : Nat → Bool) : ∀ n, fb_ct p n ≤ n
  | 0 => Nat.le_refl _
  | n + 1 => by
    have h := fb_ct_le p n
    rw [fb_ct_succ]
    split <;> omega
theorem fb_ct_step (p : Nat → Bool) (m : Nat) : ∀ n, fb_ct p m ≤ fb_ct p (m + n)
  | 0 => Nat.le_refl _
  | n + 1 => by
    have h := fb_ct_step p m n
    show fb_ct p m ≤ fb_ct p (m + n + 1)
    rw [fb_ct_succ]
    omega
theorem fb_ct_mono (p : Nat → Bool) {m n : Nat} (h : m ≤ n) : fb_ct p m ≤ fb_ct p n := by
  have := fb_ct_step p m (n - m)
  rwa [Nat.add_sub_cancel' h] at this
theorem fb_ct_cong {p q : Nat → Bool} : ∀ {n : Nat}, (∀ k, k < n → p k = q k) → fb_ct p n = fb_ct q n
  | 0, _ => rfl
  | n + 1, h => by
    rw [fb_ct_succ, fb_ct_succ, fb_ct_cong (fun k hk => h k (by omega)), h n (by omega)]
/-- one place changed -/
theorem fb_ct_out (p : Nat → Bool) (b : Bool) {i n : Nat} (h : n ≤ i) : fb_ct (fun k => if k = i then b else p k) n = fb_ct p n :=
  fb_ct_cong fun k hk => if_neg (by omega)
theorem fb_ct_upd (p : Nat → Bool) (b : Bool) {i : Nat} : ∀ {n : Nat}, i < n → fb_ct (fun k => if k = i then b else p k) n + (if p i then 1 else 0) = fb_ct p n + (if b then 1 else 0)
  | 0, h => absurd h (Nat.not_lt_zero i)
  | n + 1, h => by
    rw [fb_ct_succ, fb_ct_succ]
    rcases Nat.lt_or_ge i n with q | q
    · have := fb_ct_upd p b q
      have e : (if n = i then b else p n) = p n := if_neg (by omega)
      rw [e]
      omega
    · have e : i = n := by omega
      subst e
      rw [fb_ct_out p b (Nat.le_refl _)]
      simp only [if_true]
      omega
theorem fb_ct_sub {p q : Nat → Bool} : ∀ {n : Nat}, (∀ k, k < n → p k = true → q k = true) → fb_ct p n ≤ fb_ct q n
  | 0, _ => Nat.le_refl _
  | n + 1, h => by
    have h1 := fb_ct_sub (n := n) (p := p) (q := q) (fun k hk => h k (by omega))
    have h2 := h n (by omega)
    rw [fb_ct_succ, fb_ct_succ]
    cases hp : p n <;> cases hq : q n <;> simp_all <;> omega
theorem fb_ct_or {p q : Nat → Bool} : ∀ {n : Nat}, (∀ k, k < n → ¬ (p k = true ∧ q k = true)) → fb_ct (fun k => p k || q k) n = fb_ct p n + fb_ct q n
  | 0, _ => rfl
  | n + 1, h => by
    have h1 := fb_ct_or (n := n) (p := p) (q := q) (fun k hk => h k (by omega))
    have h2 := h n (by omega)
    rw [fb_ct_succ, fb_ct_succ, fb_ct_succ, h1]
    cases hp : p n <;> cases hq : q n <;> simp_all <;> omega
theorem fb_ct_not (p : Nat → Bool) : ∀ n, fb_ct p n + fb_ct (fun k => !p k) n = n
  | 0 => rfl
  | n + 1 => by
    have h := fb_ct_not p n
    rw [fb_ct_succ, fb_ct_succ]
    cases p n <;> simp <;> omega
theorem fb_ct_split (p : Nat → Bool) (m : Nat) : ∀ n, fb_ct p (m + n) = fb_ct p m + fb_ct (fun k => p (m + k)) n
  | 0 => rfl
  | n + 1 => by
    have h := fb_ct_split p m n
    show fb_ct p (m + n + 1) = _
    rw [fb_ct_succ, fb_ct_succ, h, Nat.add_assoc]
theorem fb_ct_zero {p : Nat → Bool} : ∀ {n : Nat}, fb_ct p n = 0 ↔ ∀ k, k < n → p k = false
  | 0 => ⟨fun _ k hk => absurd hk (Nat.not_lt_zero k), fun _ => rfl⟩
  | n + 1 => by
    have h := fb_ct_zero (p := p) (n := n)
    rw [fb_ct_succ]
    constructor
    · intro e k hk
      have e1 : fb_ct p n = 0 := by omega
      rcases Nat.lt_or_ge k n with q | q
      · exact h.mp e1 k q
      · have ek : k = n := by omega
        subst ek
        cases hp : p k
        · rfl
        · simp [hp] at e
    · intro a
      rw [h.mpr (fun k hk => a k (by omega)), a n (by omega)]
      rfl
theorem fb_ct_pos {p : Nat → Bool} {n : Nat} : 0 < fb_ct p n ↔ ∃ k, k < n ∧ p k = true := by
  constructor
  · intro h
    refine Classical.byContradiction fun hx => ?_
    have := fb_ct_zero.mpr (fun k hk => by
      cases hp : p k
      · rfl
      · exact absurd ⟨k, hk, hp⟩ hx : ∀ k, k < n → p k = false)
    omega
  · rintro ⟨k, hk, hp⟩
    rcases Nat.eq_zero_or_pos (fb_ct p n) with e | e
    · have := fb_ct_zero.mp e k hk
      rw [this] at hp
      cases hp
    · exact e
theorem fb_ct_all {p : Nat → Bool} {n : Nat} : fb_ct p n = n ↔ ∀ k, k < n → p k = true := by
  have h := fb_ct_not p n
  constructor
  · intro e k hk
    have z : fb_ct (fun k => !p k) n = 0 := by omega
    have := fb_ct_zero.mp z k hk
    cases hp : p k
    · simp [hp] at this
    · rfl
  · intro a
    have z : fb_ct (fun k => !p k) n = 0 := fb_ct_zero.mpr (fun k hk => by simp [a k hk])
    omega
/-- the k-th place with the property -/
theorem fb_ct_kth {p : Nat → Bool} {k : Nat} : ∀ {n : Nat}, k < fb_ct p n → ∃ i, i < n ∧ p i = true ∧ fb_ct p i = k
  | 0, h => absurd h (Nat.not_lt_zero k)
  | n + 1, h => by
    rcases Nat.lt_or_ge k (fb_ct p n) with q | q
    · obtain ⟨i, h1, h2⟩ := fb_ct_kth q
      exact ⟨i, by omega, h2⟩
    · rw [fb_ct_succ] at h
      cases hp : p n
      · simp [hp] at h; omega
      · simp [hp] at h
        exact ⟨n, by omega, hp, by omega⟩
theorem fb_ct_kth_one {p : Nat → Bool} {i j : Nat} (hi : p i = true) (hj : p j = true) (e : fb_ct p i = fb_ct p j) : i = j := by
  have key : ∀ a b : Nat, a < b → p a = true → fb_ct p a < fb_ct p b := by
    intro a b hab ha
    have h := fb_ct_mono p (show a + 1 ≤ b from hab)
    rw [fb_ct_succ, ha] at h
    simp at h
    omega
  rcases Nat.lt_trichotomy i j with q | q | q
  · have := key i j q hi; omega
  · exact q
  · have := key j i q hj; omega
/-! ===== sums over a range: one place changed, parts, bounds ===== -/
def fb_sm (f : Nat → Nat) : Nat → Nat
  | 0 => 0
  | n + 1 => fb_sm f n + f n
theorem fb_sm_succ (f : Nat → Nat) (n : Nat) : fb_sm f (n + 1) = fb_sm f n + f n := rfl
theorem fb_sm_cong {f g : Nat → Nat} : ∀ {n : Nat}, (∀ k, k < n → f k = g k) → fb_sm f n = fb_sm g n
  | 0, _ => rfl
  | n + 1, h => by rw [fb_sm_succ, fb_sm_succ, fb_sm_cong (fun k hk => h k (by omega)), h n (by omega)]
theorem fb_sm_out (f : Nat → Nat) (v : Nat) {i n : Nat} (h : n ≤ i) : fb_sm (fun k => if k = i then v else f k) n = fb_sm f n :=
  fb_sm_cong fun k hk => if_neg (by omega)
theorem fb_sm_upd (f : Nat → Nat) (v : Nat) {i : Nat} : ∀ {n : Nat}, i < n → fb_sm (fun k => if k = i then v else f k) n + f i = fb_sm f n + v
  | 0, h => absurd h (Nat.not_lt_zero i)
  | n + 1, h => by
    rw [fb_sm_succ, fb_sm_succ]
    rcases Nat.lt_or_ge i n with q | q
    · have := fb_sm_upd f v q
      have e : (if n = i then v else f n) = f n := if_neg (by omega)
      rw [e]
      omega
    · have e : i = n := by omega
      subst e
      rw [fb_sm_out f v (Nat.le_refl _)]
      simp only [if_true]
      omega
theorem fb_sm_add (f g : Nat → Nat) : ∀ n, fb_sm (fun k => f k + g k) n = fb_sm f n + fb_sm g n
  | 0 => rfl
  | n + 1 => by
    have h := fb_sm_add f g n
    rw [fb_sm_succ, fb_sm_succ, fb_sm_succ, h]
    omega
theorem fb_sm_le {f g : Nat → Nat} : ∀ {n : Nat}, (∀ k, k < n → f k ≤ g k) → fb_sm f n ≤ fb_sm g n
  | 0, _ => Nat.le_refl _
  | n + 1, h => by
    have h1 := fb_sm_le (n := n) (f := f) (g := g) (fun k hk => h k (by omega))
    have h2 := h n (by omega)
    rw [fb_sm_succ, fb_sm_succ]
    omega
theorem fb_sm_const (c : Nat) : ∀ n, fb_sm (fun _ => c) n = n * c
  | 0 => by rw [Nat.zero_mul]; rfl
  | n + 1 => by rw [fb_sm_succ, fb_sm_const c n, Nat.succ_mul]
theorem fb_sm_bound {f : Nat → Nat} {c n : Nat} (h : ∀ k, k < n → f k ≤ c) : fb_sm f n ≤ n * c := by
  rw [← fb_sm_const c n]
  exact fb_sm_le h
theorem fb_sm_mono (f : Nat → Nat) (m : Nat) : ∀ n, fb_sm f m ≤ fb_sm f (m + n)
  | 0 => Nat.le_refl _
  | n + 1 => by
    have h := fb_sm_mono f m n
    show fb_sm f m ≤ fb_sm f (m + n + 1)
    rw [fb_sm_succ]
    omega
theorem fb_sm_part (f : Nat → Nat) {i n : Nat} (h : i < n) : fb_sm f i + f i ≤ fb_sm f n := by
  have := fb_sm_mono f (i + 1) (n - (i + 1))
  rw [fb_sm_succ, show i + 1 + (n - (i + 1)) = n by omega] at this
  exact this
theorem fb_sm_split (f : Nat → Nat) (m : Nat) : ∀ n, fb_sm f (m + n) = fb_sm f m + fb_sm (fun k => f (m + k)) n
  | 0 => rfl
  | n + 1 => by
    have h := fb_sm_split f m n
    show fb_sm f (m + n + 1) = _
    rw [fb_sm_succ, fb_sm_succ, h, Nat.add_assoc]
theorem fb_sm_zero {f : Nat → Nat} {n : Nat} (h : fb_sm f n = 0) : ∀ k, k < n → f k = 0 := fun k hk => by
  have := fb_sm_part f hk
  omega
/-- the same over whole numbers -/
def fb_si (f : Nat → Int) : Nat → Int
  | 0 => 0
  | n + 1 => fb_si f n + f n
theorem fb_si_succ (f : Nat → Int) (n : Nat) : fb_si f (n + 1) = fb_si f n + f n := rfl
theorem fb_si_cong {f g : Nat → Int} : ∀ {n : Nat}, (∀ k, k < n → f k = g k) → fb_si f n = fb_si g n
  | 0, _ => rfl
  | n + 1, h => by rw [fb_si_succ, fb_si_succ, fb_si_cong (fun k hk => h k (by omega)), h n (by omega)]
theorem fb_si_out (f : Nat → Int) (v : Int) {i n : Nat} (h : n ≤ i) : fb_si (fun k => if k = i then v else f k) n = fb_si f n :=
  fb_si_cong fun k hk => if_neg (by omega)
theorem fb_si_upd (f : Nat → Int) (v : Int) {i : Nat} : ∀ {n : Nat}, i < n → fb_si (fun k => if k = i then v else f k) n = fb_si f n - f i + v
  | 0, h => absurd h (Nat.not_lt_zero i)
  | n + 1, h => by
    rw [fb_si_succ, fb_si_succ]
    rcases Nat.lt_or_ge i n with q | q
    · have := fb_si_upd f v q
      have e : (if n = i then v else f n) = f n := if_neg (by omega)
      rw [e]
      omega
    · have e : i = n := by omega
      subst e
      rw [fb_si_out f v (Nat.le_refl _)]
      simp only [if_true]
      omega
theorem fb_si_add (f g : Nat → Int) : ∀ n, fb_si (fun k => f k + g k) n = fb_si f n + fb_si g n
  | 0 => rfl
  | n + 1 => by
    have h := fb_si_add f g n
    rw [fb_si_succ, fb_si_succ, fb_si_succ, h]
    omega
theorem fb_si_sub (f g : Nat → Int) : ∀ n, fb_si (fun k => f k - g k) n = fb_si f n - fb_si g n
  | 0 => rfl
  | n + 1 => by
    have h := fb_si_sub f g n
    rw [fb_si_succ, fb_si_succ, fb_si_succ, h]
    omega
theorem fb_si_mul (c : Int) (f : Nat → Int) : ∀ n, fb_si (fun k => c * f k) n = c * fb_si f n
  | 0 => (Int.mul_zero c).symm
  | n + 1 => by
    have h := fb_si_mul c f n
    rw [fb_si_succ, fb_si_succ, h, Int.mul_add]
theorem fb_si_split (f : Nat → Int) (m : Nat) : ∀ n, fb_si f (m + n) = fb_si f m + fb_si (fun k => f (m + k)) n
  | 0 => (Int.add_zero _).symm
  | n + 1 => by
    have h := fb_si_split f m n
    show fb_si f (m + n + 1) = _
    rw [fb_si_succ, fb_si_succ, h, Int.add_assoc]
theorem fb_si_nat (f : Nat → Nat) : ∀ n, fb_si (fun k => (f k : Int)) n = (fb_sm f n : Int)
  | 0 => rfl
  | n + 1 => by
    have h := fb_si_nat f n
    rw [fb_si_succ, fb_sm_succ, h]
    omega
theorem fb_si_bound {f : Nat → Int} {c : Int} (hc : 0 ≤ c) : ∀ {n : Nat}, (∀ k, k < n → -c ≤ f k ∧ f k ≤ c) → -(n * c) ≤ fb_si f n ∧ fb_si f n ≤ n * c
  | 0, _ => by simp [fb_si]
  | n + 1, h => by
    have h1 := fb_si_bound (n := n) (f := f) hc (fun k hk => h k (by omega))
    have h2 := h n (by omega)
    have e : ((n + 1 : Nat) : Int) * c = n * c + c := by rw [Int.natCast_add, Int.add_mul]; simp
    rw [fb_si_succ, e]
    omega
/-! ===== bits of a long that isn't negative ===== -/
theorem fb_andL (a b : Nat) : lN a &&& lN b = lN (a &&& b) := by
  apply Int64.toBitVec_inj.1
  show BitVec.ofNat 64 a &&& BitVec.ofNat 64 b = BitVec.ofNat 64 (a &&& b)
  apply BitVec.eq_of_getLsbD_eq
  intro i hi
  simp [hi]
theorem fb_orL (a b : Nat) : lN a ||| lN b = lN (a ||| b) := by
  apply Int64.toBitVec_inj.1
  show BitVec.ofNat 64 a ||| BitVec.ofNat 64 b = BitVec.ofNat 64 (a ||| b)
  apply BitVec.eq_of_getLsbD_eq
  intro i hi
  simp [hi]
theorem fb_xorL (a b : Nat) : lN a ^^^ lN b = lN (a ^^^ b) := by
  apply Int64.toBitVec_inj.1
  show BitVec.ofNat 64 a ^^^ BitVec.ofNat 64 b = BitVec.ofNat 64 (a ^^^ b)
  apply BitVec.eq_of_getLsbD_eq
  intro i hi
  simp [hi]
theorem fb_xorI (a b : Nat) : nI a ^^^ nI b = nI (a ^^^ b) := by
  apply Int32.toBitVec_inj.1
  show BitVec.ofNat 32 a ^^^ BitVec.ofNat 32 b = BitVec.ofNat 32 (a ^^^ b)
  apply BitVec.eq_of_getLsbD_eq
  intro i hi
  simp [hi]
theorem fb_maskL (n k : Nat) : lN n &&& lN (2 ^ k - 1) = lN (n % 2 ^ k) := by rw [fb_andL, Nat.and_two_pow_sub_one_eq_mod]
theorem fb_or_sumL {a k : Nat} (b : Nat) (h : a < 2 ^ k) : lN (2 ^ k * b) ||| lN a = lN (2 ^ k * b + a) := by rw [fb_orL, Nat.two_pow_add_eq_or_of_lt h]
theorem fb_lN_inj {a b : Nat} (ha : a < 2 ^ 63) (hb : b < 2 ^ 63) : lN a = lN b ↔ a = b := by
  constructor
  · intro h
    have h1 : (BitVec.ofNat 64 a).toNat = (BitVec.ofNat 64 b).toNat := congrArg (fun x : Int64 => x.toBitVec.toNat) h
    rw [BitVec.toNat_ofNat, BitVec.toNat_ofNat, Nat.mod_eq_of_lt (by omega), Nat.mod_eq_of_lt (by omega)] at h1
    exact h1
  · rintro rfl; rfl
theorem fb_bit_nat (n j : Nat) : n &&& 2 ^ j = 0 ↔ n.testBit j = false := by
  constructor
  · intro h
    have h1 : (n &&& 2 ^ j).testBit j = false := by rw [h]; simp
    rw [Nat.testBit_and] at h1
    simpa using h1
  · intro h
    apply Nat.eq_of_testBit_eq
    intro i
    rw [Nat.testBit_and]
    by_cases hi : j = i
    · subst hi; simp [h]
    · first | (simp [Nat.testBit_two_pow, hi]; done) | (simp [Nat.testBit_two_pow_of_ne hi]; done)
/-- one bit of a long -/
theorem fb_bitL {n j : Nat} (hj : j < 63) : lN n &&& lN (2 ^ j) = 0 ↔ n.testBit j = false := by
  have h2 : (2 : Nat) ^ j < 2 ^ 63 := Nat.pow_lt_pow_right (by decide) hj
  have hle : n &&& 2 ^ j ≤ 2 ^ j := Nat.and_le_right
  rw [fb_andL, ← fb_bit_nat, show (0 : Int64) = lN 0 from rfl]
  exact fb_lN_inj (by omega) (by decide)
/-- a bit set, a bit taken off -/
theorem fb_bit_set (n j i : Nat) : (n ||| 2 ^ j).testBit i = (n.testBit i || decide (i = j)) := by
  rw [Nat.testBit_or]
  by_cases h : j = i
  · subst h; simp
  · have h2 : ¬ i = j := fun e => h e.symm
    first | (simp [Nat.testBit_two_pow, h, h2]; done) | (simp [Nat.testBit_two_pow_of_ne h, h2]; done)
theorem fb_bit_flip (n j i : Nat) : (n ^^^ 2 ^ j).testBit i = (n.testBit i ^^ decide (i = j)) := by
  rw [Nat.testBit_xor]
  by_cases h : j = i
  · subst h; simp
  · have h2 : ¬ i = j := fun e => h e.symm
    first | (simp [Nat.testBit_two_pow, h, h2]; done) | (simp [Nat.testBit_two_pow_of_ne h, h2]; done)
/-! ===== a stretch of an array written over by a function ===== -/
def fb_put {α : Type} (f g : Nat → α) (a n : Nat) : Nat → α := fun k => if a ≤ k ∧ k < a + n then g (k - a) else f k
theorem fb_put_0 {α : Type} (f g : Nat → α) (a : Nat) : fb_put f g a 0 = f := funext fun k => if_neg (by omega)
theorem fb_put_in {α : Type} {f g : Nat → α} {a n k : Nat} (h1 : a ≤ k) (h2 : k < a + n) : fb_put f g a n k = g (k - a) := if_pos ⟨h1, h2⟩
theorem fb_put_out {α : Type} {f g : Nat → α} {a n k : Nat} (h : k < a ∨ a + n ≤ k) : fb_put f g a n k = f k := if_neg (by omega)
theorem fb_put_succ (f g : Nat → Int32) (a n : Nat) : upd (fb_put f g a n) (a + n) (g n) = fb_put f g a (n + 1) := by
  funext k
  by_cases h : k = a + n
  · subst h
    simp [upd, fb_put]
  · by_cases h1 : a ≤ k ∧ k < a + n
    · have h2 : a ≤ k ∧ k < a + (n + 1) := by omega
      simp only [upd, fb_put, if_neg h, if_pos h1, if_pos h2]
    · have h2 : ¬ (a ≤ k ∧ k < a + (n + 1)) := by omega
      simp only [upd, fb_put, if_neg h, if_neg h1, if_neg h2]
/-- .. from the far end down -/
theorem fb_put_down (f g : Nat → Int32) {a n m : Nat} (h : m < n) : upd (fb_put f (fun k => g (k + (m + 1))) (a + (m + 1)) (n - (m + 1))) (a + m) (g m) = fb_put f (fun k => g (k + m)) (a + m) (n - m) := by
  funext k
  by_cases h0 : k = a + m
  · subst h0
    simp only [upd, if_true]
    rw [fb_put_in (by omega) (by omega)]
    exact congrArg g (by omega)
  · simp only [upd, if_neg h0]
    by_cases h1 : a + (m + 1) ≤ k ∧ k < a + (m + 1) + (n - (m + 1))
    · rw [fb_put_in h1.1 h1.2, fb_put_in (by omega) (by omega)]
      exact congrArg g (by omega)
    · rw [fb_put_out (by omega), fb_put_out (by omega)]
theorem fb_put_cong {α : Type} {f f2 g g2 : Nat → α} {a n : Nat} (hf : ∀ k, (k < a ∨ a + n ≤ k) → f k = f2 k) (hg : ∀ k, k < n → g k = g2 k) : fb_put f g a n = fb_put f2 g2 a n := by
  funext k
  by_cases h : a ≤ k ∧ k < a + n
  · rw [fb_put_in h.1 h.2, fb_put_in h.1 h.2, hg _ (by omega)]
  · rw [fb_put_out (by omega), fb_put_out (by omega), hf _ (by omega)]
/-! ===== the least, the first, the best so far; that there is one alone ===== -/
theorem fb_first {p : Nat → Prop} [DecidablePred p] : ∀ {n : Nat}, (∃ i, i < n ∧ p i) → ∃ i, i < n ∧ p i ∧ ∀ j, j < i → ¬ p j
  | 0, h => by obtain ⟨i, hi, -⟩ := h; exact absurd hi (Nat.not_lt_zero i)
  | n + 1, h => by
    by_cases q : ∃ i, i < n ∧ p i
    · obtain ⟨i, h1, h2⟩ := fb_first q
      exact ⟨i, by omega, h2⟩
    · obtain ⟨i, h1, h2⟩ := h
      have e : i = n := by
        rcases Nat.lt_or_ge i n with r | r
        · exact absurd ⟨i, r, h2⟩ q
        · omega
      subst e
      exact ⟨i, by omega, h2, fun j hj hp => q ⟨j, hj, hp⟩⟩
theorem fb_first_one {p : Nat → Prop} {i j : Nat} (hi : p i) (hi2 : ∀ k, k < i → ¬ p k) (hj : p j) (hj2 : ∀ k, k < j → ¬ p k) : i = j := by
  rcases Nat.lt_trichotomy i j with q | q | q
  · exact absurd hi (hj2 i q)
  · exact q
  · exact absurd hj (hi2 j q)
theorem fb_last {p : Nat → Prop} [DecidablePred p] : ∀ {n : Nat}, (∃ i, i < n ∧ p i) → ∃ i, i < n ∧ p i ∧ ∀ j, i < j → j < n → ¬ p j
  | 0, h => by obtain ⟨i, hi, -⟩ := h; exact absurd hi (Nat.not_lt_zero i)
  | n + 1, h => by
    by_cases q : p n
    · exact ⟨n, by omega, q, fun j h1 h2 => by omega⟩
    · obtain ⟨i, h1, h2⟩ := h
      have hi : i < n := by
        rcases Nat.lt_or_ge i n with r | r
        · exact r
        · have e : i = n := by omega
          subst e
          exact absurd h2 q
      obtain ⟨i2, a1, a2, a3⟩ := fb_last (n := n) ⟨i, hi, h2⟩
      refine ⟨i2, by omega, a2, fun j b1 b2 => ?_⟩
      rcases Nat.lt_or_ge j n with r | r
      · exact a3 j b1 r
      · have e : j = n := by omega
        subst e
        exact q
/-- the first greatest -/
theorem fb_best (f : Nat → Int) : ∀ {n : Nat}, 0 < n → ∃ i, i < n ∧ (∀ j, j < n → f j ≤ f i) ∧ ∀ j, j < i → f j < f i
  | 0, h => absurd h (Nat.lt_irrefl 0)
  | 1, _ => ⟨0, by omega, fun j hj => by have e : j = 0 := by omega
                                         subst e; exact Int.le_refl _, fun j hj => absurd hj (Nat.not_lt_zero j)⟩
  | n + 2, _ => by
    obtain ⟨i, h1, h2, h3⟩ := fb_best f (n := n + 1) (by omega)
    by_cases q : f i < f (n + 1)
    · refine ⟨n + 1, by omega, fun j hj => ?_, fun j hj => ?_⟩
      · rcases Nat.lt_or_ge j (n + 1) with r | r
        · have := h2 j r; omega
        · have e : j = n + 1 := by omega
          subst e; exact Int.le_refl _
      · have := h2 j hj; omega
    · refine ⟨i, by omega, fun j hj => ?_, h3⟩
      rcases Nat.lt_or_ge j (n + 1) with r | r
      · exact h2 j r
      · have e : j = n + 1 := by omega
        subst e; omega
theorem fb_best_one {f : Nat → Int} {n i j : Nat} (hi : i < n) (hi2 : ∀ k, k < n → f k ≤ f i) (hi3 : ∀ k, k < i → f k < f i) (hj : j < n) (hj2 : ∀ k, k < n → f k ≤ f j) (hj3 : ∀ k, k < j → f k < f j) : i = j := by
  rcases Nat.lt_trichotomy i j with q | q | q
  · have a := hj3 i q
    have b := hi2 j hj
    omega
  · exact q
  · have a := hi3 j q
    have b := hj2 i hi
    omega
/-- the first least -/
theorem fb_low (f : Nat → Int) {n : Nat} (h : 0 < n) : ∃ i, i < n ∧ (∀ j, j < n → f i ≤ f j) ∧ ∀ j, j < i → f i < f j := by
  obtain ⟨i, h1, h2, h3⟩ := fb_best (fun k => -f k) h
  exact ⟨i, h1, fun j hj => by have := h2 j hj; omega, fun j hj => by have := h3 j hj; omega⟩
/-! ===== signed ints as whole numbers, within bounds ===== -/
theorem fb_rng (x : Int32) : -2147483648 ≤ x.toInt ∧ x.toInt < 2147483648 := by
  have h1 := Int32.le_toInt x
  have h2 := Int32.toInt_lt x
  omega
theorem fb_bmod {z : Int} (h1 : -2147483648 ≤ z) (h2 : z < 2147483648) : z.bmod (2 ^ 32) = z := by
  rw [Int.bmod_eq_of_le (by omega) (by omega)]
theorem fb_addI {x y : Int32} (h1 : -2147483648 ≤ x.toInt + y.toInt) (h2 : x.toInt + y.toInt < 2147483648) : (x + y).toInt = x.toInt + y.toInt := by
  rw [Int32.toInt_add, fb_bmod h1 h2]
theorem fb_subI {x y : Int32} (h1 : -2147483648 ≤ x.toInt - y.toInt) (h2 : x.toInt - y.toInt < 2147483648) : (x - y).toInt = x.toInt - y.toInt := by
  rw [Int32.toInt_sub, fb_bmod h1 h2]
theorem fb_mulI {x y : Int32} (h1 : -2147483648 ≤ x.toInt * y.toInt) (h2 : x.toInt * y.toInt < 2147483648) : (x * y).toInt = x.toInt * y.toInt := by
  rw [Int32.toInt_mul, fb_bmod h1 h2]
theorem fb_negI {x : Int32} (h : x.toInt ≠ -2147483648) : (-x).toInt = -x.toInt := by
  have := fb_rng x
  rw [Int32.toInt_neg, fb_bmod (by omega) (by omega)]
theorem fb_ofI {z : Int} (h1 : -2147483648 ≤ z) (h2 : z < 2147483648) : (Int32.ofInt z).toInt = z := by
  rw [Int32.toInt_ofInt, fb_bmod h1 h2]
theorem fb_asI (x : Int32) : Int32.ofInt x.toInt = x := Int32.ofInt_toInt x
theorem fb_rngL (x : Int64) : -9223372036854775808 ≤ x.toInt ∧ x.toInt < 9223372036854775808 := by
  have h1 := Int64.le_toInt x
  have h2 := Int64.toInt_lt x
  omega
theorem fb_bmodL {z : Int} (h1 : -9223372036854775808 ≤ z) (h2 : z < 9223372036854775808) : z.bmod (2 ^ 64) = z := by
  rw [Int.bmod_eq_of_le (by omega) (by omega)]
theorem fb_addL {x y : Int64} (h1 : -9223372036854775808 ≤ x.toInt + y.toInt) (h2 : x.toInt + y.toInt < 9223372036854775808) : (x + y).toInt = x.toInt + y.toInt := by
  rw [Int64.toInt_add, fb_bmodL h1 h2]
theorem fb_subL {x y : Int64} (h1 : -9223372036854775808 ≤ x.toInt - y.toInt) (h2 : x.toInt - y.toInt < 9223372036854775808) : (x - y).toInt = x.toInt - y.toInt := by
  rw [Int64.toInt_sub, fb_bmodL h1 h2]
theorem fb_mulL {x y : Int64} (h1 : -9223372036854775808 ≤ x.toInt * y.toInt) (h2 : x.toInt * y.toInt < 9223372036854775808) : (x * y).toInt = x.toInt * y.toInt := by
  rw [Int64.toInt_mul, fb_bmodL h1 h2]
/-! ===== cuts of what is narrow already ===== -/
theorem fb_byte {x : Int32} (h1 : -128 ≤ x.toInt) (h2 : x.toInt < 128) : x.toInt8.toInt32 = x := by
  apply Int32.toInt_inj.1
  rw [Int8.toInt_toInt32, Int32.toInt_toInt8, Int.bmod_eq_of_le (by omega) (by omega)]
theorem fb_short {x : Int32} (h1 : -32768 ≤ x.toInt) (h2 : x.toInt < 32768) : x.toInt16.toInt32 = x := by
  apply Int32.toInt_inj.1
  rw [Int16.toInt_toInt32, Int32.toInt_toInt16, Int.bmod_eq_of_le (by omega) (by omega)]
theorem fb_byte_rng (x : Int32) : -128 ≤ x.toInt8.toInt32.toInt ∧ x.toInt8.toInt32.toInt < 128 := by
  rw [Int8.toInt_toInt32]
  have h1 := Int8.le_toInt x.toInt8
  have h2 := Int8.toInt_lt x.toInt8
  omega
theorem fb_short_rng (x : Int32) : -32768 ≤ x.toInt16.toInt32.toInt ∧ x.toInt16.toInt32.toInt < 32768 := by
  rw [Int16.toInt_toInt32]
  have h1 := Int16.le_toInt x.toInt16
  have h2 := Int16.toInt_lt x.toInt16
  omega
theorem fb_byte_twice (x : Int32) : x.toInt8.toInt32.toInt8.toInt32 = x.toInt8.toInt32 := fb_byte (fb_byte_rng x).1 (fb_byte_rng x).2
theorem fb_short_twice (x : Int32) : x.toInt16.toInt32.toInt16.toInt32 = x.toInt16.toInt32 := fb_short (fb_short_rng x).1 (fb_short_rng x).2
theorem fb_char {n : Nat} (h : n < 65536) : (nI n).toUInt32.toUInt16.toUInt32.toInt32 = nI n := by
  apply Int32.toBitVec_inj.1
  apply BitVec.eq_of_toNat_eq
  have e1 : (nI n).toBitVec.toNat = n := by
    show (BitVec.ofNat 32 n).toNat = n
    rw [BitVec.toNat_ofNat, Nat.mod_eq_of_lt (by omega)]
  have e2 : ((nI n).toUInt32.toUInt16.toUInt32).toNat = n := by
    rw [UInt16.toNat_toUInt32, UInt32.toNat_toUInt16]
    show (nI n).toBitVec.toNat % 2 ^ 16 = n
    rw [e1, Nat.mod_eq_of_lt (by omega)]
  rw [e1]
  exact e2
end
section
/-! BASE of the pure part: states, branches on answers, small numbers -/
theorem oh_g1 (h : oh_St) (o k : Nat) (v : Int32) (a b : Nat) : (oh_upi h o k v).1 a b = if a = o ∧ b = k then v else h.1 a b := by
  unfold oh_upi
  by_cases ha : a = o
  · subst ha
    by_cases hb : b = k <;> simp [upd, hb]
  · simp [ha]
theorem oh_g2 (h : oh_St) (o k : Nat) (v : Int32) : (oh_upi h o k v).2 = h.2 := rfl
theorem oh_g3 (h : oh_St) (o k : Nat) (v : Int64) : (oh_upl h o k v).1 = h.1 := rfl
theorem oh_g4 (h : oh_St) (o k : Nat) (v : Int64) (a b : Nat) : (oh_upl h o k v).2 a b = if a = o ∧ b = k then v else h.2 a b := by
  unfold oh_upl
  by_cases ha : a = o
  · subst ha
    by_cases hb : b = k <;> simp [vp_updL, hb]
  · simp [ha]
theorem oh_g5 (h : oh_St) (o : Nat) (f : Nat → Int32) (a b : Nat) : (oh_upa h o f).1 a b = if a = o then f b else h.1 a b := by
  unfold oh_upa
  by_cases ha : a = o <;> simp [ha]
theorem oh_g6 (h : oh_St) (o : Nat) (f : Nat → Int32) : (oh_upa h o f).2 = h.2 := rfl
theorem oh_ext {h h' : oh_St} (h1 : ∀ a b, h.1 a b = h'.1 a b) (h2 : ∀ a b, h.2 a b = h'.2 a b) : h = h' := Prod.ext (funext fun a => funext fun b => h1 a b) (funext fun a => funext fun b => h2 a b)
/-- a truth as a number -/
def oh_b (c : Bool) : Int32 := if c then 1 else 0
theorem oh_b_01 (c : Bool) : oh_b c = 0 ∨ oh_b c = 1 := by cases c <;> simp [oh_b]
theorem oh_b_0 {c : Bool} : oh_b c = 0 ↔ c = false := by cases c <;> simp [oh_b]
theorem oh_b_1 {c : Bool} : oh_b c = 1 ↔ c = true := by cases c <;> simp [oh_b]
theorem oh_b_n {c : Bool} : ¬ oh_b c = 0 ↔ c = true := by cases c <;> simp [oh_b]
theorem oh_b_n1 {c : Bool} : ¬ oh_b c = 1 ↔ c = false := by cases c <;> simp [oh_b]
theorem oh_b_nI (c : Bool) : oh_b c = nI c.toNat := by cases c <;> rfl
/-- branches on a truth -/
theorem oh_bz {c : Bool} {A B : Prop} (f : c = false → A) (t : c = true → B) : (oh_b c = 0 → A) ∧ (¬ oh_b c = 0 → B) := ⟨fun z => f (oh_b_0.mp z), fun z => t (oh_b_n.mp z)⟩
theorem oh_bn {c : Bool} {A B : Prop} (t : c = true → A) (f : c = false → B) : (¬ oh_b c = 0 → A) ∧ (oh_b c = 0 → B) := ⟨fun z => t (oh_b_n.mp z), fun z => f (oh_b_0.mp z)⟩
theorem oh_bo {c : Bool} {A B : Prop} (f : c = false → A) (t : c = true → B) : (¬ oh_b c = 1 → A) ∧ (oh_b c = 1 → B) := ⟨fun z => f (oh_b_n1.mp z), fun z => t (oh_b_1.mp z)⟩
theorem oh_be {c : Bool} {A B : Prop} (t : c = true → A) (f : c = false → B) : (oh_b c = 1 → A) ∧ (¬ oh_b c = 1 → B) := ⟨fun z => t (oh_b_1.mp z), fun z => f (oh_b_n1.mp z)⟩
/-- a truth that is answered by a branch -/
theorem oh_q01 {c : Prop} [Decidable c] {K : Int32 → Prop} (q : K (oh_b (decide c))) : (c → ((1 : Int32) = 0 ∨ (1 : Int32) = 1) ∧ K 1) ∧ (¬ c → ((0 : Int32) = 0 ∨ (0 : Int32) = 1) ∧ K 0) := by
  by_cases h : c
  · simp only [h, decide_true, oh_b] at q
    exact ⟨fun _ => ⟨Or.inr rfl, q⟩, fun z => absurd h z⟩
  · simp only [h, decide_false, oh_b] at q
    exact ⟨fun z => absurd z h, fun _ => ⟨Or.inl rfl, q⟩⟩
theorem oh_q10 {c : Prop} [Decidable c] {K : Int32 → Prop} (q : K (oh_b (decide (¬ c)))) : (c → ((0 : Int32) = 0 ∨ (0 : Int32) = 1) ∧ K 0) ∧ (¬ c → ((1 : Int32) = 0 ∨ (1 : Int32) = 1) ∧ K 1) := by
  by_cases h : c
  · simp only [h, not_true, decide_false, oh_b] at q
    exact ⟨fun _ => ⟨Or.inl rfl, q⟩, fun z => absurd h z⟩
  · simp only [h, not_false_iff, decide_true, oh_b] at q
    exact ⟨fun z => absurd z h, fun _ => ⟨Or.inr rfl, q⟩⟩
theorem oh_i1 : (1 : Int32) = 0 ∨ (1 : Int32) = 1 := Or.inr rfl
theorem oh_i0 : (0 : Int32) = 0 ∨ (0 : Int32) = 1 := Or.inl rfl
/-- places by numbers -/
theorem oh_in {i n : Nat} (h : i < n) (hn : n < 2 ^ 31) : vp_in (nI i) n := vp_in_nI h hn
theorem oh_cl {i : Nat} (h : i < 2 ^ 31) : (nI i).toNatClampNeg = i := nI_clamp h
theorem oh_lt {x : Int32} {n : Nat} (hn : n < 2 ^ 31) : ¬ nI n ≤ x ↔ x < nI n := by
  rw [Int32.not_le]
theorem oh_nat {x : Int32} (h : ¬ x < 0) : ∃ j : Nat, j < 2 ^ 31 ∧ x = nI j := nI_of h
/-- an int between 0 and a number -/
theorem oh_rng {x : Int32} {n : Nat} (hn : n < 2 ^ 31) : (¬ x < 0 ∧ x < nI n) ↔ ∃ j, j < n ∧ x = nI j := by
  constructor
  · rintro ⟨h1, h2⟩
    obtain ⟨j, hj, rfl⟩ := nI_of h1
    exact ⟨j, (nI_ltI hj hn).mp h2, rfl⟩
  · rintro ⟨j, hj, rfl⟩
    exact ⟨nI_pos (by omega), nI_lt hj hn⟩
/-- a loop that counts up: from i on, to n -/
theorem oh_up {P : Nat → Prop} {n : Nat} (hs : ∀ i, i < n → P (i + 1) → P i) (he : P n) : ∀ i, i ≤ n → P i := by
  intro i hi
  obtain ⟨k, rfl⟩ := Nat.exists_eq_add_of_le hi
  clear hi
  induction k generalizing i with
  | zero => exact he
  | succ k ih => exact hs i (by omega) (ih (i + 1) (by intro j hj; exact hs j (by omega)) (by rw [show i + 1 + k = i + (k + 1) by omega]; exact he))
/-- compares of longs that came of a cmp -/
theorem oh_cmp0 (x y : Int64) : lg_cmp x y = 0 ↔ x = y := by
  unfold lg_cmp
  by_cases h : x > y
  · have : x ≠ y := fun z => by subst z; exact Int64.lt_irrefl h
    simp [h, this]
  · by_cases h2 : x = y <;> simp [h, h2]
theorem oh_cmpl (x y : Int64) : lg_cmp x y < 0 ↔ x < y := by
  unfold lg_cmp
  by_cases h : x > y
  · have : ¬ x < y := fun z => Int64.lt_irrefl (Int64.lt_trans h z)
    simp only [h, if_true, this, iff_false]; decide
  · by_cases h2 : x = y
    · subst h2
      simp
    · have : x < y := by
        rcases Int64.lt_or_lt_of_ne h2 with z | z
        · exact z
        · exact absurd z h
      simp only [h, if_false, h2, this, iff_true]; decide
theorem oh_cmpg (x y : Int64) : 0 < lg_cmp x y ↔ y < x := by
  unfold lg_cmp
  by_cases h : x > y
  · simp only [h, if_true]; decide
  · by_cases h2 : x = y
    · subst h2
      simp
    · rw [if_neg h, if_neg h2]
      constructor
      · intro z; exact absurd z (by decide)
      · intro z; exact absurd z h
end
section
/-! BITS: sets of men as small numbers (nI), sets of worlds as longs (lN) -/
theorem ob_mod2 (a i : Nat) : a / 2 ^ i % 2 = (a.testBit i).toNat := (Nat.toNat_testBit a i).symm
theorem ob_shr {a i : Nat} (ha : a < 2 ^ 31) (hi : i < 31) : nI a >>> (nI i &&& 31) = nI (a / 2 ^ i) := pk_shrN ha _ i (s_l i (by omega))
theorem ob_and1 (a : Nat) : nI a &&& 1 = nI (a % 2) := fa_mask a 1
theorem ob_bit {a i : Nat} (ha : a < 2 ^ 31) (hi : i < 31) : (nI a >>> (nI i &&& 31)) &&& 1 = oh_b (a.testBit i) := by
  rw [ob_shr ha hi, ob_and1, ob_mod2, oh_b_nI]
theorem ob_pow {i : Nat} (hi : i < 31) : (1 : Int32) <<< (nI i &&& 31) = nI (2 ^ i) := by
  have := pk_shlN (n := 1) (nI i &&& 31) i (s_l i (by omega)) (by rw [Nat.one_mul]; exact Nat.pow_lt_pow_right (by omega) (by omega))
  rw [Nat.one_mul] at this
  exact this
theorem ob_or (a b : Nat) : nI a ||| nI b = nI (a ||| b) := fa_or a b
theorem ob_and (a b : Nat) : nI a &&& nI b = nI (a &&& b) := fa_and a b
theorem ob_xor (a b : Nat) : nI a ^^^ nI b = nI (a ^^^ b) := fb_xorI a b
/-- the set of those below n with a property -/
def ob_m (f : Nat → Bool) : Nat → Nat
  | 0 => 0
  | n + 1 => if f n then ob_m f n ||| 2 ^ n else ob_m f n
theorem ob_m_bit (f : Nat → Bool) (j : Nat) : ∀ n, (ob_m f n).testBit j = (decide (j < n) && f j)
  | 0 => by simp [ob_m]
  | n + 1 => by
    unfold ob_m
    have ih := ob_m_bit f j n
    by_cases hf : f n = true
    · rw [if_pos hf, fb_bit_set, ih]
      by_cases hj : j = n
      · subst hj
        simp [hf]
      · have : decide (j < n + 1) = decide (j < n) := by congr 1; exact propext (by omega)
        rw [this]
        simp [hj]
    · rw [if_neg hf, ih]
      by_cases hj : j = n
      · subst hj
        have : f j = false := by simpa using hf
        simp [this]
      · have : decide (j < n + 1) = decide (j < n) := by congr 1; exact propext (by omega)
        rw [this]
theorem ob_lt {a n : Nat} (h : ∀ j, n ≤ j → a.testBit j = false) : a < 2 ^ n := Nat.lt_pow_two_of_testBit a h
theorem ob_hi {a n j : Nat} (h : a < 2 ^ n) (hj : n ≤ j) : a.testBit j = false := Nat.testBit_lt_two_pow (Nat.lt_of_lt_of_le h (Nat.pow_le_pow_right (by omega) hj))
theorem ob_m_lt (f : Nat → Bool) (n : Nat) : ob_m f n < 2 ^ n := ob_lt (fun j hj => by rw [ob_m_bit]; simp; omega)
theorem ob_m_le (f : Nat → Bool) {n m : Nat} (h : n ≤ m) : ob_m f n < 2 ^ m := Nat.lt_of_lt_of_le (ob_m_lt f n) (Nat.pow_le_pow_right (by omega) h)
theorem ob_ext {a b : Nat} (h : ∀ j, a.testBit j = b.testBit j) : a = b := Nat.eq_of_testBit_eq h
theorem ob_m_cong {f g : Nat → Bool} {n : Nat} (h : ∀ j, j < n → f j = g j) : ob_m f n = ob_m g n := ob_ext (fun j => by
  rw [ob_m_bit, ob_m_bit]
  by_cases hj : j < n
  · rw [h j hj]
  · simp [hj])
theorem ob_m_self {a n : Nat} (h : a < 2 ^ n) : ob_m (fun j => a.testBit j) n = a := ob_ext (fun j => by
  rw [ob_m_bit]
  by_cases hj : j < n
  · simp [hj]
  · simp [hj, ob_hi h (by omega : n ≤ j)])
-- longs
theorem ob_lbit {P k : Nat} (hP : P < 2 ^ 64) (hk : k < 64) : ((lN P).toUInt64 >>> ((nI k).toInt64.toUInt64 &&& Int64.toUInt64 63)).toInt64 &&& 1 = lN (P.testBit k).toNat := by
  rw [wb_bit hP hk, ob_mod2]
theorem ob_sbit {P k : Nat} (hk : k < 64) : (lN P >>> ((nI k).toInt64 &&& 63)) &&& 1 = lN ((P % 2 ^ 64).testBit k).toNat := by
  rw [wb_c k hk]
  apply wb_inj
  apply BitVec.eq_of_getLsbD_eq
  intro i hi
  rw [Int64.toBitVec_and, Int64.toBitVec_shiftRight, BitVec.getLsbD_and]
  show (((lN P).toBitVec.sshiftRight ((BitVec.ofNat 64 k).smod 64).toNat).getLsbD i && (BitVec.ofNat 64 1).getLsbD i) = (BitVec.ofNat 64 ((P % 2 ^ 64).testBit k).toNat).getLsbD i
  rw [wb_sm k hk]
  have hkn : (BitVec.ofNat 64 k).toNat = k := by rw [BitVec.toNat_ofNat]; exact Nat.mod_eq_of_lt (by omega)
  rw [hkn, BitVec.getLsbD_sshiftRight]
  rcases Nat.eq_zero_or_pos i with rfl | h0
  · have : (lN P).toBitVec.getLsbD k = (P % 2 ^ 64).testBit k := by
      show (BitVec.ofNat 64 P).getLsbD k = _
      rw [BitVec.getLsbD_ofNat, Nat.testBit_mod_two_pow]
    simp only [Nat.add_zero]
    rw [if_pos hk, this]
    cases (P % 2 ^ 64).testBit k <;> simp
  · have h1 : (BitVec.ofNat 64 1).getLsbD i = false := by
      rw [BitVec.getLsbD_ofNat]
      have : Nat.testBit 1 i = false := by
        exact ob_hi (n := 1) (by decide) (by omega)
      simp [this]
    have h2 : ∀ b : Bool, (BitVec.ofNat 64 b.toNat).getLsbD i = false := by
      intro b
      cases b
      · simp
      · exact h1
    rw [h1, h2, Bool.and_false]
theorem ob_lpow {k : Nat} (hk : k < 64) : (1 : Int64) <<< ((nI k).toInt64 &&& 63) = lN (2 ^ k) := by
  have := wb_shl 1 hk
  rw [Nat.one_mul] at this
  exact this
theorem ob_lor (a b : Nat) : lN a ||| lN b = lN (a ||| b) := fb_orL a b
theorem ob_land (a b : Nat) : lN a &&& lN b = lN (a &&& b) := fb_andL a b
theorem ob_lxor (a b : Nat) : lN a ^^^ lN b = lN (a ^^^ b) := fb_xorL a b
theorem ob_m1 : (-1 : Int64) = lN (2 ^ 64 - 1) := by decide +kernel
theorem ob_linj {a b : Nat} (ha : a < 2 ^ 64) (hb : b < 2 ^ 64) : lN a = lN b ↔ a = b := by
  constructor
  · intro h
    have := congrArg (fun x : Int64 => x.toBitVec.toNat) h
    simpa [wb_tn ha, wb_tn hb] using this
  · intro h; rw [h]
theorem ob_not {a : Nat} (ha : a < 2 ^ 64) : lN a ^^^ (-1) = lN (ob_m (fun j => !a.testBit j) 64) := by
  rw [ob_m1, ob_lxor]
  congr 1
  apply ob_ext
  intro j
  rw [Nat.testBit_xor, ob_m_bit, Nat.testBit_two_pow_sub_one]
  by_cases hj : j < 64
  · simp [hj]
  · simp [hj, ob_hi ha (by omega : 64 ≤ j)]
theorem ob_b1 (c : Bool) : lN c.toNat = 1 ↔ c = true := by cases c <;> decide
theorem ob_b0 (c : Bool) : lN c.toNat = 0 ↔ c = false := by cases c <;> decide
/-- how many below n -/
theorem ob_cnt_m (f : Nat → Bool) (n : Nat) : fb_ct (fun j => (ob_m f n).testBit j) n = fb_ct f n := fb_ct_cong (fun k hk => by rw [ob_m_bit]; simp [hk])
end
section
/-! COUNTS: the JDK's bitCount -/
def ob_bc (x : Int32) : Int32 :=
  let a := x - ((x.toUInt32 >>> ((1 : Int32).toUInt32 &&& Int32.toUInt32 31)).toInt32 &&& (1431655765 : Int32))
  let b := (a &&& (858993459 : Int32)) + ((a.toUInt32 >>> ((2 : Int32).toUInt32 &&& Int32.toUInt32 31)).toInt32 &&& (858993459 : Int32))
  let c := (b + (b.toUInt32 >>> ((4 : Int32).toUInt32 &&& Int32.toUInt32 31)).toInt32) &&& (252645135 : Int32)
  let e := c + (c.toUInt32 >>> ((8 : Int32).toUInt32 &&& Int32.toUInt32 31)).toInt32
  let f := e + (e.toUInt32 >>> ((16 : Int32).toUInt32 &&& Int32.toUInt32 31)).toInt32
  f &&& (63 : Int32)
def ob_bcL (x : Int64) : Int32 :=
  let a := x - ((x.toUInt64 >>> ((1 : Int32).toInt64.toUInt64 &&& Int64.toUInt64 63)).toInt64 &&& (6148914691236517205 : Int64))
  let b := (a &&& (3689348814741910323 : Int64)) + ((a.toUInt64 >>> ((2 : Int32).toInt64.toUInt64 &&& Int64.toUInt64 63)).toInt64 &&& (3689348814741910323 : Int64))
  let c := (b + (b.toUInt64 >>> ((4 : Int32).toInt64.toUInt64 &&& Int64.toUInt64 63)).toInt64) &&& (1085102592571150095 : Int64)
  let e := c + (c.toUInt64 >>> ((8 : Int32).toInt64.toUInt64 &&& Int64.toUInt64 63)).toInt64
  let f := e + (e.toUInt64 >>> ((16 : Int32).toInt64.toUInt64 &&& Int64.toUInt64 63)).toInt64
  let g := f + (f.toUInt64 >>> ((32 : Int32).toInt64.toUInt64 &&& Int64.toUInt64 63)).toInt64
  g.toInt32 &&& (127 : Int32)
/-- how many of the first n bits -/
def ob_ct (a n : Nat) : Nat := fb_ct (fun j => a.testBit j) n
theorem ob_bc_64 : ∀ a, a < 64 → ob_bc (nI a) = nI (ob_ct a 6) := by decide +kernel
theorem sJ6_bitCount {d : Nat} {K : Int32 → oh_St → Prop} {h : oh_St} {a : Nat} (ha : a < 64) (q : K (nI (ob_ct a 6)) h) : CM (d + 1) jJ6_bitCount_0f7a4 [.int (nI a)] h (oh_r1 K) := by
  refine mJ6_bitCount_0f7a4 ?_
  show K (ob_bc (nI a)) h
  rw [ob_bc_64 a ha]
  exact q
-- bytes
theorem ob_split (a c M : Nat) (hc : c < 256) : a &&& (c + 256 * M) = (a % 256 &&& c) + 256 * ((a / 256) &&& M) := by
  have h1 : (a % 256 &&& c) < 256 := Nat.lt_of_le_of_lt Nat.and_le_right hc
  have e1 : (a &&& (c + 256 * M)) % 2 ^ 8 = (a % 256 &&& c) := by
    rw [Nat.and_mod_two_pow]
    congr 1
    omega
  have e2 : (a &&& (c + 256 * M)) / 2 ^ 8 = (a / 256 &&& M) := by
    rw [← Nat.shiftRight_eq_div_pow, Nat.shiftRight_and_distrib, Nat.shiftRight_eq_div_pow, Nat.shiftRight_eq_div_pow]
    congr 1
    omega
  have := Nat.div_add_mod (a &&& (c + 256 * M)) (2 ^ 8)
  rw [e1, e2] at this
  omega
def ob_rep (c : Nat) : Nat → Nat
  | 0 => 0
  | k + 1 => c + 256 * ob_rep c k
def ob_p1 (k x : Nat) : Nat := x - ((x / 2) &&& ob_rep 85 k)
def ob_p2 (k x : Nat) : Nat := (x &&& ob_rep 51 k) + ((x / 4) &&& ob_rep 51 k)
def ob_p3 (k x : Nat) : Nat := (x + x / 16) &&& ob_rep 15 k
theorem ob_k1 : ∀ b, b < 256 → ∀ r, r < 2 → ((b / 2 + 128 * r) &&& 85) = (b / 2 &&& 85) := by decide +kernel
theorem ob_k2 : ∀ b, b < 256 → ∀ r, r < 4 → ((b / 4 + 64 * r) &&& 51) = (b / 4 &&& 51) := by decide +kernel
theorem ob_k3 : ∀ b, b < 69 → ∀ r, r < 5 → ((b + b / 16 + 16 * r) &&& 15) = ((b + b / 16) &&& 15) := by decide +kernel
def ob_b1f (b : Nat) : Nat := b - (b / 2 &&& 85)
def ob_b2f (b : Nat) : Nat := (b &&& 51) + (b / 4 &&& 51)
def ob_b3f (b : Nat) : Nat := (b + b / 16) &&& 15
theorem ob_s1 (k b y : Nat) (hb : b < 256) : ob_p1 (k + 1) (b + 256 * y) = ob_b1f b + 256 * ob_p1 k y := by
  unfold ob_p1 ob_b1f
  rw [show ob_rep 85 (k + 1) = 85 + 256 * ob_rep 85 k from rfl, ob_split _ _ _ (by omega)]
  have e1 : (b + 256 * y) / 2 % 256 = b / 2 + 128 * (y % 2) := by omega
  have e2 : (b + 256 * y) / 2 / 256 = y / 2 := by omega
  rw [e1, e2, ob_k1 b hb _ (by omega)]
  have l1 : (b / 2 &&& 85) ≤ b / 2 := Nat.and_le_left
  have l2 : (y / 2 &&& ob_rep 85 k) ≤ y / 2 := Nat.and_le_left
  omega
theorem ob_s2 (k b y : Nat) (hb : b < 256) : ob_p2 (k + 1) (b + 256 * y) = ob_b2f b + 256 * ob_p2 k y := by
  unfold ob_p2 ob_b2f
  rw [show ob_rep 51 (k + 1) = 51 + 256 * ob_rep 51 k from rfl, ob_split _ _ _ (by omega), ob_split _ _ _ (by omega)]
  have e1 : (b + 256 * y) / 4 % 256 = b / 4 + 64 * (y % 4) := by omega
  have e2 : (b + 256 * y) / 4 / 256 = y / 4 := by omega
  have e3 : (b + 256 * y) % 256 = b := by omega
  have e4 : (b + 256 * y) / 256 = y := by omega
  rw [e1, e2, e3, e4, ob_k2 b hb _ (by omega)]
  omega
theorem ob_s3 (k b y : Nat) (hb : b < 69) (hy : y % 16 < 5) : ob_p3 (k + 1) (b + 256 * y) = ob_b3f b + 256 * ob_p3 k y := by
  unfold ob_p3 ob_b3f
  rw [show ob_rep 15 (k + 1) = 15 + 256 * ob_rep 15 k from rfl, ob_split _ _ _ (by omega)]
  have e1 : (b + 256 * y + (b + 256 * y) / 16) % 256 = b + b / 16 + 16 * (y % 16) := by omega
  have e2 : (b + 256 * y + (b + 256 * y) / 16) / 256 = y + y / 16 := by omega
  rw [e1, e2, ob_k3 b hb _ hy]
theorem ob_byte : ∀ b, b < 256 → ob_b1f b < 256 ∧ ob_b2f (ob_b1f b) < 69 ∧ ob_b2f (ob_b1f b) % 16 < 5 ∧ ob_b3f (ob_b2f (ob_b1f b)) = ob_ct b 8 ∧ ob_ct b 8 ≤ 8 := by decide +kernel
theorem ob_s12 : ∀ (k x : Nat), x < 256 ^ k → ob_p2 k (ob_p1 k x) % 16 < 5
  | 0, x, h => by simp [ob_p2, ob_rep]
  | k + 1, x, h => by
    have hx : x = x % 256 + 256 * (x / 256) := by omega
    have hb : x % 256 < 256 := by omega
    obtain ⟨c1, c2, c3, -, -⟩ := ob_byte (x % 256) hb
    rw [hx, ob_s1 k _ _ hb, ob_s2 k _ _ c1]
    omega
/-- the bytes' counts in their places -/
def ob_cb : Nat → Nat → Nat
  | 0, _ => 0
  | k + 1, x => ob_ct (x % 256) 8 + 256 * ob_cb k (x / 256)
theorem ob_s123 : ∀ (k x : Nat), x < 256 ^ k → ob_p3 k (ob_p2 k (ob_p1 k x)) = ob_cb k x
  | 0, x, h => by simp [ob_p3, ob_rep, ob_cb]
  | k + 1, x, h => by
    have hb : x % 256 < 256 := by omega
    have hy : x / 256 < 256 ^ k := by rw [Nat.pow_succ] at h; exact Nat.div_lt_of_lt_mul (by omega)
    obtain ⟨c1, c2, c3, c4, -⟩ := ob_byte (x % 256) hb
    have e : ob_p3 (k + 1) (ob_p2 (k + 1) (ob_p1 (k + 1) (x % 256 + 256 * (x / 256)))) = ob_cb (k + 1) x := by
      rw [ob_s1 k _ _ hb, ob_s2 k _ _ c1, ob_s3 k _ _ c2 (ob_s12 k _ hy), ob_s123 k _ hy, c4]
      rfl
    rw [show x % 256 + 256 * (x / 256) = x by omega] at e
    exact e
theorem ob_ct_byte (x n : Nat) : ob_ct x (8 + n) = ob_ct (x % 256) 8 + ob_ct (x / 256) n := by
  unfold ob_ct
  rw [fb_ct_split]
  congr 1
  · apply fb_ct_cong
    intro k hk
    rw [show (256 : Nat) = 2 ^ 8 from rfl, Nat.testBit_mod_two_pow]
    simp [hk]
  · apply fb_ct_cong
    intro k hk
    rw [show (256 : Nat) = 2 ^ 8 from rfl, Nat.testBit_div_two_pow]
    congr 1
    omega
theorem ob_sum8 {x p0 p1 p2 p3 p4 p5 p6 p7 t1 t2 t3 t4 t5 t6 t7 : Nat} (h0 : p0 ≤ 8) (h1 : p1 ≤ 8) (h2 : p2 ≤ 8) (h3 : p3 ≤ 8) (h4 : p4 ≤ 8) (h5 : p5 ≤ 8) (h6 : p6 ≤ 8) (h7 : p7 ≤ 8) (e0 : x = p0 + 256 * t1) (e1 : t1 = p1 + 256 * t2) (e2 : t2 = p2 + 256 * t3) (e3 : t3 = p3 + 256 * t4) (e4 : t4 = p4 + 256 * t5) (e5 : t5 = p5 + 256 * t6) (e6 : t6 = p6 + 256 * t7) (e7 : t7 = p7) :
    (x + x / 256 + (x + x / 256) / 65536 + (x + x / 256 + (x + x / 256) / 65536) / 4294967296) % 128 = p0 + p1 + p2 + p3 + p4 + p5 + p6 + p7 := by
  have d1 : x / 256 = t1 := by clear e1 e2 e3 e4 e5 e6 e7; omega
  rw [d1]
  have f0 : x + t1 = (p0 + p1) + 256 * (t1 + t2) := by clear e2 e3 e4 e5 e6 e7 d1; omega
  have f1 : t1 + t2 = (p1 + p2) + 256 * (t2 + t3) := by clear e0 e3 e4 e5 e6 e7 d1 f0; omega
  have f2 : t2 + t3 = (p2 + p3) + 256 * (t3 + t4) := by clear e0 e1 e4 e5 e6 e7 d1 f0 f1; omega
  have f3 : t3 + t4 = (p3 + p4) + 256 * (t4 + t5) := by clear e0 e1 e2 e5 e6 e7 d1 f0 f1 f2; omega
  have f4 : t4 + t5 = (p4 + p5) + 256 * (t5 + t6) := by clear e0 e1 e2 e3 e6 e7 d1 f0 f1 f2 f3; omega
  have f5 : t5 + t6 = (p5 + p6) + 256 * (t6 + t7) := by clear e0 e1 e2 e3 e4 e7 d1 f0 f1 f2 f3 f4; omega
  have f6 : t6 + t7 = (p6 + p7) + 256 * p7 := by clear e0 e1 e2 e3 e4 e5 d1 f0 f1 f2 f3 f4 f5; omega
  clear e0 e1 e2 e3 e4 e5 e6 d1
  generalize x + t1 = u0 at *
  generalize t1 + t2 = u1 at *
  generalize t2 + t3 = u2 at *
  generalize t3 + t4 = u3 at *
  generalize t4 + t5 = u4 at *
  generalize t5 + t6 = u5 at *
  generalize t6 + t7 = u6 at *
  have d2 : u0 / 65536 = u2 := by clear f2 f3 f4 f5 f6 e7; omega
  rw [d2]
  have g0 : u0 + u2 = (p0 + p1 + p2 + p3) + 256 * (u1 + u3) := by clear f1 f3 f4 f5 f6 d2 e7; omega
  have g1 : u1 + u3 = (p1 + p2 + p3 + p4) + 256 * (u2 + u4) := by clear f0 f2 f4 f5 f6 d2 g0 e7; omega
  have g2 : u2 + u4 = (p2 + p3 + p4 + p5) + 256 * (u3 + u5) := by clear f0 f1 f3 f5 f6 d2 g0 g1 e7; omega
  have g3 : u3 + u5 = (p3 + p4 + p5 + p6) + 256 * (u4 + u6) := by clear f0 f1 f2 f4 f6 d2 g0 g1 g2 e7; omega
  have g4 : u4 + u6 = (p4 + p5 + p6 + p7) + 256 * (u5 + p7) := by clear f0 f1 f2 f3 f5 d2 g0 g1 g2 g3 e7; omega
  clear f0 f1 f2 f3 f4 f5 f6 d2 e7
  generalize u0 + u2 = z0 at *
  generalize u1 + u3 = z1 at *
  generalize u2 + u4 = z2 at *
  generalize u3 + u5 = z3 at *
  generalize u4 + u6 = z4 at *
  have d3 : z0 / 4294967296 = z4 := by clear g4; omega
  rw [d3]
  clear d3 g1 g2 g3
  omega
theorem ob_long {P : Nat} (hP : P < 2 ^ 64) : ob_bcL (lN P) = nI (ob_ct P 64) := by
  have r1 : ob_rep 85 8 = 6148914691236517205 := by decide +kernel
  have r2 : ob_rep 51 8 = 3689348814741910323 := by decide +kernel
  have r3 : ob_rep 15 8 = 1085102592571150095 := by decide +kernel
  have key := ob_s123 8 P (by rw [show (256 : Nat) ^ 8 = 2 ^ 64 from rfl]; exact hP)
  unfold ob_bcL
  have sh : ∀ {n k : Nat}, n < 2 ^ 64 → k < 64 → ((lN n).toUInt64 >>> ((nI k).toInt64.toUInt64 &&& Int64.toUInt64 63)).toInt64 = lN (n / 2 ^ k) := fun hn hk => wb_shr hn hk
  have q1 : (P / 2 &&& 6148914691236517205) ≤ P := Nat.le_trans Nat.and_le_left (by omega)
  have s1 : lN P - (((lN P).toUInt64 >>> ((1 : Int32).toInt64.toUInt64 &&& Int64.toUInt64 63)).toInt64 &&& (6148914691236517205 : Int64)) = lN (ob_p1 8 P) := by
    have e : ((lN P).toUInt64 >>> ((1 : Int32).toInt64.toUInt64 &&& Int64.toUInt64 63)).toInt64 = lN (P / 2) := sh (k := 1) hP (by omega)
    rw [e, show (6148914691236517205 : Int64) = lN 6148914691236517205 from rfl, ob_land, lN_sub q1]
    unfold ob_p1
    rw [r1]
  have l1 : ob_p1 8 P < 2 ^ 64 := Nat.lt_of_le_of_lt (Nat.sub_le _ _) hP
  generalize hA : ob_p1 8 P = A at s1 l1 key
  have s2 : (lN A &&& (3689348814741910323 : Int64)) + (((lN A).toUInt64 >>> ((2 : Int32).toInt64.toUInt64 &&& Int64.toUInt64 63)).toInt64 &&& (3689348814741910323 : Int64)) = lN (ob_p2 8 A) := by
    have e : ((lN A).toUInt64 >>> ((2 : Int32).toInt64.toUInt64 &&& Int64.toUInt64 63)).toInt64 = lN (A / 4) := sh (k := 2) l1 (by omega)
    rw [e, show (3689348814741910323 : Int64) = lN 3689348814741910323 from rfl, ob_land, ob_land, lN_add]
    unfold ob_p2
    rw [r2]
  have l2 : ob_p2 8 A < 2 ^ 63 := by
    unfold ob_p2
    rw [r2]
    have a1 : (A &&& 3689348814741910323) ≤ 3689348814741910323 := Nat.and_le_right
    have a2 : (A / 4 &&& 3689348814741910323) ≤ 3689348814741910323 := Nat.and_le_right
    omega
  generalize hB : ob_p2 8 A = B at s2 l2 key
  have s3 : (lN B + ((lN B).toUInt64 >>> ((4 : Int32).toInt64.toUInt64 &&& Int64.toUInt64 63)).toInt64) &&& (1085102592571150095 : Int64) = lN (ob_p3 8 B) := by
    have e : ((lN B).toUInt64 >>> ((4 : Int32).toInt64.toUInt64 &&& Int64.toUInt64 63)).toInt64 = lN (B / 16) := sh (k := 4) (by omega) (by omega)
    rw [e, show (1085102592571150095 : Int64) = lN 1085102592571150095 from rfl, lN_add, ob_land]
    unfold ob_p3
    rw [r3]
  rw [key] at s3
  have l3 : ob_cb 8 P < 2 ^ 60 := by
    have : ob_cb 8 P = ob_p3 8 B := key.symm
    rw [this]
    unfold ob_p3
    rw [r3]
    have : ((B + B / 16) &&& 1085102592571150095) ≤ 1085102592571150095 := Nat.and_le_right
    omega
  have fin : (let C := ob_cb 8 P; (C + C / 256 + (C + C / 256) / 65536 + (C + C / 256 + (C + C / 256) / 65536) / 4294967296) % 128) = ob_ct P 64 := by
    have b : ∀ y, ob_ct (y % 256) 8 ≤ 8 := fun y => (ob_byte (y % 256) (by omega)).2.2.2.2
    have := ob_sum8 (b P) (b (P / 256)) (b (P / 256 / 256)) (b (P / 256 / 256 / 256)) (b (P / 256 / 256 / 256 / 256)) (b (P / 256 / 256 / 256 / 256 / 256)) (b (P / 256 / 256 / 256 / 256 / 256 / 256)) (b (P / 256 / 256 / 256 / 256 / 256 / 256 / 256)) (show ob_cb 8 P = _ from rfl) rfl rfl rfl rfl rfl rfl (show ob_cb 1 _ = _ by simp [ob_cb])
    dsimp only
    rw [this, show (64 : Nat) = 8 + (8 + (8 + (8 + (8 + (8 + (8 + (8 + 0))))))) from rfl]
    simp only [ob_ct_byte]
    have z : ∀ y, ob_ct y 0 = 0 := fun y => rfl
    rw [z]
    omega
  generalize hC : ob_cb 8 P = C at s3 l3 fin
  dsimp only at fin ⊢
  rw [s1, s2, s3]
  have e8 : ((lN C).toUInt64 >>> ((8 : Int32).toInt64.toUInt64 &&& Int64.toUInt64 63)).toInt64 = lN (C / 256) := sh (k := 8) (by omega) (by omega)
  rw [e8, lN_add]
  have e16 : ((lN (C + C / 256)).toUInt64 >>> ((16 : Int32).toInt64.toUInt64 &&& Int64.toUInt64 63)).toInt64 = lN ((C + C / 256) / 65536) := sh (k := 16) (by omega) (by omega)
  rw [e16, lN_add]
  have e32 : ((lN (C + C / 256 + (C + C / 256) / 65536)).toUInt64 >>> ((32 : Int32).toInt64.toUInt64 &&& Int64.toUInt64 63)).toInt64 = lN ((C + C / 256 + (C + C / 256) / 65536) / 4294967296) := sh (k := 32) (by omega) (by omega)
  rw [e32, lN_add, lN_i]
  have m7 := fa_mask (C + C / 256 + (C + C / 256) / 65536 + (C + C / 256 + (C + C / 256) / 65536) / 4294967296) 7
  rw [show nI (2 ^ 7 - 1) = (127 : Int32) from rfl] at m7
  rw [m7, show (2 : Nat) ^ 7 = 128 from rfl, fin]
theorem sJ13_bitCount {d : Nat} {K : Int32 → oh_St → Prop} {h : oh_St} {P : Nat} (hP : P < 2 ^ 64) (q : K (nI (ob_ct P 64)) h) : CM (d + 1) jJ13_bitCount_95d88 [.long (lN P)] h (oh_r1 K) := by
  refine mJ13_bitCount_95d88 ?_
  show K (ob_bcL (lN P)) h
  rw [ob_long hP]
  exact q
end
section
/-! THE CLASS: sets of worlds; what a man thinks, knows, would say; who speaks -/
theorem oh_nt {c A B : Prop} (h : ¬ c) (a : A) : (¬ c → A) ∧ (c → B) := ⟨fun _ => a, fun z => absurd z h⟩
theorem oh_nf {c A B : Prop} (h : c) (b : B) : (¬ c → A) ∧ (c → B) := ⟨fun z => absurd h z, fun _ => b⟩
theorem oh_nc {c A B : Prop} (a : ¬ c → A) (b : c → B) : (¬ c → A) ∧ (c → B) := ⟨a, b⟩
theorem sX7_bit {d : Nat} {K : Int32 → oh_St → Prop} {h : oh_St} {a i : Nat} (ha : a < 2 ^ 31) (hi : i < 31) (q : K (oh_b (a.testBit i)) h) : CM (d + 1) jX7_bit [.int (nI a), .int (nI i)] h (oh_r1 K) := by
  refine mX7_bit ?_
  show K _ h
  rw [ob_bit ha hi]
  exact q
def oHeld (v lo hi : Int32) : Int32 := if v < lo then lo else if hi < v then hi else v
theorem sX7_held {d : Nat} {K : Int32 → oh_St → Prop} {h : oh_St} {v lo hi : Int32} (hl : lo ≤ hi) (q : K (oHeld v lo hi) h) : CM (d + 2) jX7_held [.int v, .int lo, .int hi] h (oh_r1 K) := by
  refine mX7_held (mJ9_min_7cf53 ?_)
  have t : ∀ {a b : Int32}, a < b → b < a → False := fun h1 h2 => Int32.lt_irrefl (Int32.lt_trans h1 h2)
  refine ⟨fun c1 => ?_, fun c1 => ?_⟩
  · refine mJ9_max_7cf53 ⟨fun c2 => ?_, fun c2 => ?_⟩
    · show K v h
      have e : oHeld v lo hi = v := by
        unfold oHeld
        rw [if_neg (fun z => t c2 z), if_neg (fun z => t c1 z)]
      rw [e] at q
      exact q
    · show K lo h
      by_cases hv : v < lo
      · have e : oHeld v lo hi = lo := by unfold oHeld; rw [if_pos hv]
        rw [e] at q
        exact q
      · have e : v = lo := Int32.le_antisymm (Int32.not_lt.mp c2) (Int32.not_lt.mp hv)
        subst e
        have e : oHeld v v hi = v := by
          unfold oHeld
          rw [if_neg hv, if_neg (fun z => t c1 z)]
        rw [e] at q
        exact q
  · refine mJ9_max_7cf53 ⟨fun c2 => ?_, fun c2 => ?_⟩
    · show K hi h
      have hv : ¬ v < lo := fun z => c1 (Int32.lt_trans z c2)
      by_cases hh : hi < v
      · have e : oHeld v lo hi = hi := by unfold oHeld; rw [if_neg hv, if_pos hh]
        rw [e] at q
        exact q
      · have e : v = hi := Int32.le_antisymm (Int32.not_lt.mp hh) (Int32.not_lt.mp c1)
        subst e
        have e : oHeld v lo v = v := by unfold oHeld; rw [if_neg hv, if_neg hh]
        rw [e] at q
        exact q
    · show K lo h
      have e : lo = hi := Int32.le_antisymm hl (Int32.not_lt.mp c2)
      subst e
      have hv : ¬ v < lo := c1
      by_cases hh : lo < v
      · have e : oHeld v lo lo = lo := by unfold oHeld; rw [if_neg hv, if_pos hh]
        rw [e] at q
        exact q
      · have e : v = lo := Int32.le_antisymm (Int32.not_lt.mp hh) (Int32.not_lt.mp hv)
        subst e
        have e : oHeld v v v = v := by unfold oHeld; rw [if_neg hv, if_neg hh]
        rw [e] at q
        exact q
theorem sX7_holds {d : Nat} {K : Int32 → oh_St → Prop} {h : oh_St} {A x : Nat} (hA : A < 2 ^ 64) (hx : x < 64) (q : K (oh_b (A.testBit x)) h) : CM (d + 1) jX7_holds [.long (lN A), .int (nI x)] h (oh_r1 K) := by
  refine mX7_holds ?_
  rw [ob_lbit hA hx]
  have e : (lg_cmp (lN (A.testBit x).toNat) 1 = 0) ↔ A.testBit x = true := by rw [oh_cmp0, ob_b1]
  cases hb : A.testBit x
  · rw [hb] at e q
    exact oh_nt (fun z => by have := e.mp z; cases this) ⟨oh_i0, q⟩
  · rw [hb] at e q
    exact oh_nf (e.mpr rfl) ⟨oh_i1, q⟩
/-- the worlds that give a man black -/
def oB (p : Nat) : Nat := ob_m (fun y => y.testBit p) 64
theorem oB_tab : ∀ p, p < 6 → oh_l1002.getD p 0 = lN (oB p) := by decide +kernel
theorem oB_lt (p : Nat) : oB p < 2 ^ 64 := ob_m_lt _ _
def oBl (p A : Nat) : Nat := fb_ct (fun y => A.testBit y && y.testBit p) 64
def oWh (p A : Nat) : Nat := fb_ct (fun y => A.testBit y && !y.testBit p) 64
theorem oBl_le (p A : Nat) : oBl p A ≤ 64 := fb_ct_le _ _
theorem oWh_le (p A : Nat) : oWh p A ≤ 64 := fb_ct_le _ _
theorem oAnd_lt {A B : Nat} (h : A < 2 ^ 64) : A &&& B < 2 ^ 64 := Nat.lt_of_le_of_lt Nat.and_le_left h
theorem sX7_blacks {d : Nat} {K : Int32 → oh_St → Prop} {h : oh_St} {A p : Nat} (hA : A < 2 ^ 64) (hp : p < 6) (q : K (nI (oBl p A)) h) : CM (d + 2) jX7_blacks [.int (nI p), .long (lN A)] h (oh_r1 K) := by
  refine mX7_blacks (br_f (nI_pos (by omega)) (br_t (nI_lt (b := 6) hp (by omega)) ⟨oh_in hp (by omega), ?_⟩))
  rw [oh_cl (by omega), oB_tab p hp, ob_land]
  refine sJ13_bitCount (oAnd_lt hA) ?_
  have e : ob_ct (A &&& oB p) 64 = oBl p A := fb_ct_cong (fun y hy => by rw [Nat.testBit_and, oB, ob_m_bit]; simp [hy])
  rw [e]
  exact q
theorem oNB {A p : Nat} : A &&& ob_m (fun j => !(oB p).testBit j) 64 = ob_m (fun y => A.testBit y && !y.testBit p) 64 := ob_ext (fun y => by
  rw [Nat.testBit_and, ob_m_bit, ob_m_bit, oB, ob_m_bit]
  by_cases hy : y < 64 <;> simp [hy])
theorem sX7_whites {d : Nat} {K : Int32 → oh_St → Prop} {h : oh_St} {A p : Nat} (hA : A < 2 ^ 64) (hp : p < 6) (q : K (nI (oWh p A)) h) : CM (d + 2) jX7_whites [.int (nI p), .long (lN A)] h (oh_r1 K) := by
  refine mX7_whites (br_f (nI_pos (by omega)) (br_t (nI_lt (b := 6) hp (by omega)) ⟨oh_in hp (by omega), ?_⟩))
  rw [oh_cl (by omega), oB_tab p hp, ob_not (oB_lt p), ob_land, oNB]
  refine sJ13_bitCount (ob_m_lt _ _) ?_
  have e : ob_ct (ob_m (fun y => A.testBit y && !y.testBit p) 64) 64 = oWh p A := ob_cnt_m _ _
  rw [e]
  exact q
def oKn (p A : Nat) : Bool := decide (oBl p A = 0) || decide (oWh p A = 0)
theorem oBl_0 {A p : Nat} (hA : A < 2 ^ 64) : A &&& oB p = 0 ↔ oBl p A = 0 := by
  unfold oBl
  rw [fb_ct_zero]
  constructor
  · intro h y hy
    have := congrArg (fun n => Nat.testBit n y) h
    simpa [Nat.testBit_and, oB, ob_m_bit, hy] using this
  · intro h
    apply ob_ext
    intro y
    rw [Nat.testBit_and, oB, ob_m_bit, Nat.zero_testBit]
    by_cases hy : y < 64
    · simpa [hy] using h y hy
    · simp [hy]
theorem oWh_0 {A p : Nat} : ob_m (fun y => A.testBit y && !y.testBit p) 64 = 0 ↔ oWh p A = 0 := by
  unfold oWh
  rw [fb_ct_zero]
  constructor
  · intro h y hy
    have := congrArg (fun n => Nat.testBit n y) h
    simpa [ob_m_bit, hy] using this
  · intro h
    apply ob_ext
    intro y
    rw [ob_m_bit, Nat.zero_testBit]
    by_cases hy : y < 64
    · simpa [hy] using h y hy
    · simp [hy]
theorem sX7_knows {d : Nat} {K : Int32 → oh_St → Prop} {h : oh_St} {A p : Nat} (hA : A < 2 ^ 64) (hp : p < 6) (q : K (oh_b (oKn p A)) h) : CM (d + 1) jX7_knows [.int (nI p), .long (lN A)] h (oh_r1 K) := by
  refine mX7_knows (br_f (nI_pos (by omega)) (br_f (nI_ge (b := 6) hp (by omega)) ⟨oh_in hp (by omega), ?_⟩))
  rw [oh_cl (by omega), oB_tab p hp, ob_not (oB_lt p), ob_land, ob_land, oNB]
  have e1 : (lg_cmp (lN (A &&& oB p)) 0 = 0) ↔ oBl p A = 0 := by
    rw [oh_cmp0, show (0 : Int64) = lN 0 from rfl, ob_linj (oAnd_lt hA) (by omega)]
    exact oBl_0 hA
  have e2 : (lg_cmp (lN (ob_m (fun y => A.testBit y && !y.testBit p) 64)) 0 = 0) ↔ oWh p A = 0 := by
    rw [oh_cmp0, show (0 : Int64) = lN 0 from rfl, ob_linj (ob_m_lt _ _) (by omega)]
    exact oWh_0
  unfold oKn at q
  by_cases c1 : oBl p A = 0
  · simp only [c1, decide_true, Bool.true_or] at q
    exact br_t (e1.mpr c1) ⟨oh_i1, q⟩
  · simp only [c1, decide_false, Bool.false_or] at q
    refine br_f (fun z => c1 (e1.mp z)) ⟨oh_in hp (by omega), ?_⟩
    by_cases c2 : oWh p A = 0
    · simp only [c2, decide_true] at q
      exact oh_nf (e2.mpr c2) ⟨oh_i1, q⟩
    · simp only [c2, decide_false] at q
      exact oh_nt (fun z => c2 (e2.mp z)) ⟨oh_i0, q⟩
def oSay (p A : Nat) : Bool := decide (oWh p A ≤ oBl p A)
theorem sX7_wouldSay {d : Nat} {K : Int32 → oh_St → Prop} {h : oh_St} {A p : Nat} (hA : A < 2 ^ 64) (hp : p < 6) (q : K (oh_b (oSay p A)) h) : CM (d + 3) jX7_wouldSay [.int (nI p), .long (lN A)] h (oh_r1 K) := by
  refine mX7_wouldSay (sX7_blacks hA hp (sX7_whites hA hp ?_))
  have h1 := oBl_le p A
  have h2 := oWh_le p A
  unfold oSay at q
  by_cases c : oBl p A < oWh p A
  · rw [decide_eq_false (by omega)] at q
    exact br_t (nI_lt c (by omega)) q
  · rw [decide_eq_true (by omega)] at q
    exact br_f (nI_nlt (by omega) (by omega)) q
def oAW (s : Nat) : Nat := ob_m (fun y => decide (y &&& s = 0)) 64
theorem oAW_0 (y s : Nat) : y &&& s = 0 ↔ ∀ j, ¬ (y.testBit j = true ∧ s.testBit j = true) := by
  constructor
  · intro h j hj
    have := congrArg (fun n => Nat.testBit n j) h
    simp [Nat.testBit_and, hj.1, hj.2] at this
  · intro h
    apply ob_ext
    intro j
    rw [Nat.testBit_and, Nat.zero_testBit]
    cases h1 : y.testBit j
    · rfl
    · cases h2 : s.testBit j
      · rfl
      · exact absurd ⟨h1, h2⟩ (h j)
/-- behind i steps -/
def oAWi (s i : Nat) : Nat := ob_m (fun y => decide (y &&& (s % 2 ^ i) = 0)) 64
theorem oAWi_s (s i : Nat) : oAWi s (i + 1) = if s.testBit i then oAWi s i &&& ob_m (fun j => !(oB i).testBit j) 64 else oAWi s i := by
  have key : ∀ y, (y &&& (s % 2 ^ (i + 1)) = 0) ↔ (y &&& (s % 2 ^ i) = 0) ∧ ¬ (y.testBit i = true ∧ s.testBit i = true) := by
    intro y
    rw [oAW_0, oAW_0]
    constructor
    · intro h
      refine ⟨fun j hj => h j ⟨hj.1, ?_⟩, fun hj => h i ⟨hj.1, ?_⟩⟩
      · have := hj.2
        rw [Nat.testBit_mod_two_pow] at this ⊢
        simp only [Bool.and_eq_true, decide_eq_true_eq] at this ⊢
        exact ⟨by omega, this.2⟩
      · rw [Nat.testBit_mod_two_pow]
        simp [hj.2]
    · intro h j hj
      have h2 := hj.2
      rw [Nat.testBit_mod_two_pow] at h2
      simp only [Bool.and_eq_true, decide_eq_true_eq] at h2
      by_cases hji : j = i
      · subst hji
        exact h.2 ⟨hj.1, h2.2⟩
      · refine h.1 j ⟨hj.1, ?_⟩
        rw [Nat.testBit_mod_two_pow]
        simp only [Bool.and_eq_true, decide_eq_true_eq]
        exact ⟨by omega, h2.2⟩
  by_cases hs : s.testBit i = true
  · rw [if_pos hs]
    apply ob_ext
    intro y
    rw [Nat.testBit_and]
    simp only [oAWi, ob_m_bit, oB]
    by_cases hy : y < 64
    · simp only [hy, decide_true, Bool.true_and]
      rw [Bool.eq_iff_iff]
      simp only [decide_eq_true_eq, Bool.and_eq_true, Bool.not_eq_true']
      rw [key y, hs]
      simp
    · simp [hy]
  · rw [if_neg hs]
    apply ob_m_cong
    intro y hy
    congr 1
    rw [propext_iff] 
    rw [key y]
    simp [hs]
theorem oAWi_0 (s : Nat) : oAWi s 0 = 2 ^ 64 - 1 := by
  apply ob_ext
  intro y
  simp only [oAWi, ob_m_bit, Nat.testBit_two_pow_sub_one, Nat.pow_zero, Nat.mod_one, Nat.and_zero, decide_true, Bool.and_true]
theorem oAWi_6 {s : Nat} (h : s < 64) : oAWi s 6 = oAW s := by
  unfold oAWi oAW
  rw [Nat.mod_eq_of_lt (show s < 2 ^ 6 by omega)]
theorem sX7_allWhite {d : Nat} {K : Int64 → oh_St → Prop} {h : oh_St} {s : Nat} (hs : s < 64) (q : K (lN (oAW s)) h) : CM (d + 2) jX7_allWhite [.int (nI s)] h (oh_r2 K) := by
  refine mX7_allWhite ?_
  have key : ∀ i, i ≤ 6 → wX7_allWhite_6 (d + 1) (oh_r2 K) (nI s) (lN (oAWi s i)) (nI i) h := by
    refine oh_up (fun i hi ih => ?_) ?_
    · refine bX7_allWhite_6 (br_f (nI_ge (b := 6) hi (by omega)) (sX7_bit (by omega) (by omega) ?_))
      refine oh_bo (fun c => ?_) (fun c => ⟨oh_in hi (by omega), ?_⟩)
      · have e := oAWi_s s i
        rw [if_neg (by rw [c]; decide)] at e
        rw [show (1 : Int32) = nI 1 from rfl, nI_add]
        rw [e] at ih
        exact ih
      · have e := oAWi_s s i
        rw [if_pos c] at e
        rw [oh_cl (by omega), oB_tab i hi, ob_not (oB_lt i), ob_land, show (1 : Int32) = nI 1 from rfl, nI_add, ← e]
        exact ih
    · refine bX7_allWhite_6 (br_t (nI_le (Nat.le_refl 6) (by omega)) ?_)
      rw [oAWi_6 hs]
      exact q
  have := key 0 (by omega)
  rw [oAWi_0, ← ob_m1] at this
  exact this
end
section
/-! THE CLASS: a scene as a mathematical value; what one thinks in a world, who speaks, who says black -/
abbrev oS : Type := Nat × (Nat → Nat) × (Nat → Nat) × (Nat → Nat) × Nat × Nat × Nat × Nat
def sN (S : oS) : Nat := S.1
def sK (S : oS) (p : Nat) : Nat := S.2.1 p
def sM (S : oS) (p : Nat) : Nat := S.2.2.1 p
def sE (S : oS) (p : Nat) : Nat := S.2.2.2.1 p
def sW (S : oS) : Nat := S.2.2.2.2.1
def sP (S : oS) : Nat := S.2.2.2.2.2.1
def sQ (S : oS) : Nat := S.2.2.2.2.2.2.1
def sB (S : oS) : Nat := S.2.2.2.2.2.2.2
def sOk (S : oS) : Prop := sN S ≤ 6 ∧ (∀ p, p < 6 → sK S p ≤ 6 ∧ sM S p ≤ 9 ∧ sE S p < 64) ∧ sW S < 2 ^ sN S ∧ sP S < 2 ^ (2 ^ sN S) ∧ sQ S < 2 ^ sN S ∧ sB S < 1000
/-- the scene at o of the class -/
def cSc (h : oh_St) (o : Nat) (S : oS) : Prop := h.1 o 0 = nI (sN S) ∧ (∀ p, p < 6 → h.1 (o + 1) p = nI (sK S p) ∧ h.1 (o + 2) p = nI (sM S p) ∧ h.1 (o + 3) p = nI (sE S p)) ∧ h.1 o 5 = nI (sW S) ∧ h.2 o 8 = lN (sP S) ∧ h.1 o 9 = nI (sQ S) ∧ h.1 o 10 = nI (sB S) ∧ sOk S
theorem sPow {S : oS} (h : sOk S) : 2 ^ sN S ≤ 64 := by
  have : 2 ^ sN S ≤ 2 ^ 6 := Nat.pow_le_pow_right (by omega) h.1
  omega
theorem sP_lt {S : oS} (h : sOk S) : sP S < 2 ^ 64 := Nat.lt_of_lt_of_le h.2.2.2.1 (Nat.pow_le_pow_right (by omega) (sPow h))
theorem sW_lt {S : oS} (h : sOk S) : sW S < 64 := Nat.lt_of_lt_of_le h.2.2.1 (sPow h)
theorem sQ_lt {S : oS} (h : sOk S) : sQ S < 64 := Nat.lt_of_lt_of_le h.2.2.2.2.1 (sPow h)
def sCell (S : oS) (p x : Nat) : Nat := ob_m (fun y => (sP S).testBit y && decide (y &&& sE S p = x &&& sE S p)) 64
theorem sCell_lt (S : oS) (p x : Nat) : sCell S p x < 2 ^ 64 := ob_m_lt _ _
theorem ob_ao : ∀ a, a < 64 → ∀ b, b < 64 → a &&& b = 0 → a + b = a ||| b := by decide +kernel
theorem ob_as : ∀ y, y < 64 → ∀ s, s < 64 → (y - (y &&& s)) &&& s = 0 := by decide +kernel
theorem sCell_k (s : Nat) (hs : s < 64) (y : Nat) (hy : y < 64) (x : Nat) (hx : x < 64) : (decide ((x &&& s) ≤ y) && decide ((y - (x &&& s)) &&& s = 0)) = decide (y &&& s = x &&& s) := by
  rw [Bool.eq_iff_iff]
  simp only [Bool.and_eq_true, decide_eq_true_eq]
  constructor
  · rintro ⟨h1, h2⟩
    have ht : (x &&& s) < 64 := Nat.lt_of_le_of_lt Nat.and_le_left hx
    have h0 : (x &&& s) &&& (y - (x &&& s)) = 0 := by
      rw [Nat.and_assoc, Nat.and_comm s, h2, Nat.and_zero]
    have h3 := ob_ao _ ht _ (by omega : y - (x &&& s) < 64) h0
    have h4 : y = (x &&& s) ||| (y - (x &&& s)) := by rw [← h3]; omega
    generalize y - (x &&& s) = r at h2 h4
    subst h4
    have h5 := (oAW_0 r s).mp h2
    apply ob_ext
    intro j
    rw [Nat.testBit_and, Nat.testBit_or, Nat.testBit_and]
    have h6 := h5 j
    clear h5 h2 h0 h3 h1
    generalize x.testBit j = a
    generalize s.testBit j = b at h6 ⊢
    generalize r.testBit j = c at h6 ⊢
    revert h6
    cases a <;> cases b <;> cases c <;> decide
  · intro h
    rw [← h]
    exact ⟨Nat.and_le_left, ob_as y hy s hs⟩
theorem sX4_worldCount {d : Nat} {K : Int32 → oh_St → Prop} {h : oh_St} {o : Nat} {S : oS} (ho : o = 2 ∨ o = 37) (hc : cSc h o S) (q : K (nI (2 ^ sN S)) h) : CM (d + 1) jX4_worldCount [.ref o] h (oh_r1 K) := by
  refine mX4_worldCount ho ?_
  show K _ h
  have := hc.2.2.2.2.2.2.1
  rw [hc.1, ob_pow (by omega)]
  exact q
theorem sX4_thought {d : Nat} {K : Int64 → oh_St → Prop} {h : oh_St} {o p x : Nat} {S : oS} (ho : o = 2 ∨ o = 37) (hc : cSc h o S) (hp : p < 6) (hx : x < 64) (q : K (lN (sCell S p x)) h) : CM (d + 3) jX4_thought [.ref o, .int (nI p), .int (nI x)] h (oh_r2 K) := by
  refine mX4_thought ho (br_f (nI_pos (by omega)) (br_t (nI_lt (b := 6) hp (by omega)) ⟨oh_in hp (by omega), ?_⟩))
  obtain ⟨h1, h2, h3, h4, h5, h6, hok⟩ := hc
  have hs := (hok.2.1 p hp).2.2
  rw [oh_cl (by omega), (h2 p hp).2.2]
  refine sX7_allWhite hs ⟨oh_in hp (by omega), ?_⟩
  show K _ h
  rw [h4, (h2 p hp).2.2, ob_and, wb_shl _ (Nat.lt_of_le_of_lt Nat.and_le_left hx), ob_land]
  have e : sP S &&& (oAW (sE S p) * 2 ^ (x &&& sE S p)) = sCell S p x := by
    apply ob_ext
    intro y
    rw [Nat.testBit_and, Nat.testBit_mul_two_pow, sCell, ob_m_bit]
    by_cases hy : y < 64
    · have k := sCell_k (sE S p) hs y hy x hx
      rw [← k]
      simp only [hy, decide_true, Bool.true_and, oAW, ob_m_bit]
      have : y - (x &&& sE S p) < 64 := by omega
      simp [this]
    · have := ob_hi (sP_lt hok) (by omega : 64 ≤ y)
      simp [hy, this]
  rw [e]
  exact q
theorem sX4_hasSpoken {d : Nat} {K : Int32 → oh_St → Prop} {h : oh_St} {o p : Nat} {S : oS} (ho : o = 2 ∨ o = 37) (hc : cSc h o S) (hp : p < 6) (q : K (oh_b ((sQ S).testBit p)) h) : CM (d + 2) jX4_hasSpoken [.ref o, .int (nI p)] h (oh_r1 K) := by
  refine mX4_hasSpoken ho ?_
  rw [hc.2.2.2.2.1]
  have := sQ_lt hc.2.2.2.2.2.2
  refine sX7_bit (by omega) (by omega) ?_
  cases hb : (sQ S).testBit p
  · rw [hb] at q
    exact oh_nt (by decide) ⟨oh_i0, q⟩
  · rw [hb] at q
    exact oh_nf (by decide) ⟨oh_i1, q⟩
def sHs (S : oS) (p A : Nat) : Bool := oKn p A || (decide (sM S p * oWh p A < oBl p A) || decide (sM S p * oBl p A < oWh p A))
theorem sX4_isSure {d : Nat} {K : Int32 → oh_St → Prop} {h : oh_St} {o p A : Nat} {S : oS} (ho : o = 2 ∨ o = 37) (hc : cSc h o S) (hp : p < 6) (hA : A < 2 ^ 64) (q : K (oh_b (sHs S p A)) h) : CM (d + 3) jX4_isSure [.ref o, .int (nI p), .long (lN A)] h (oh_r1 K) := by
  refine mX4_isSure ho (sX7_blacks hA hp (sX7_whites hA hp (br_f (nI_pos (by omega)) (br_t (nI_lt (b := 6) hp (by omega)) ⟨oh_in hp (by omega), ?_⟩))))
  obtain ⟨h1, h2, h3, h4, h5, h6, hok⟩ := hc
  have hm := (hok.2.1 p hp).2.1
  rw [oh_cl (by omega), (h2 p hp).2.1, pk_mul, pk_mul]
  have b1 := oBl_le p A
  have b2 := oWh_le p A
  have m1 : sM S p * oWh p A ≤ 9 * 64 := Nat.mul_le_mul hm b2
  have m2 : sM S p * oBl p A ≤ 9 * 64 := Nat.mul_le_mul hm b1
  unfold sHs oKn at q
  by_cases c1 : oBl p A = 0
  · rw [c1] at q ⊢
    simp only [decide_true, Bool.true_or] at q
    exact br_t rfl ⟨oh_i1, q⟩
  · refine br_f (nI_ne0 (by omega) (by omega)) ?_
    by_cases c2 : oWh p A = 0
    · rw [c2] at q ⊢
      simp only [decide_true, Bool.or_true, Bool.true_or] at q
      exact br_t rfl ⟨oh_i1, q⟩
    · refine br_f (nI_ne0 (by omega) (by omega)) ?_
      simp only [c1, c2, decide_false, Bool.or_self, Bool.false_or] at q
      by_cases c3 : sM S p * oWh p A < oBl p A
      · simp only [c3, decide_true, Bool.true_or] at q
        exact br_t (nI_lt c3 (by omega)) ⟨oh_i1, q⟩
      · refine br_f (nI_nlt (by omega) (by omega)) ?_
        simp only [c3, decide_false, Bool.false_or] at q
        by_cases c4 : sM S p * oBl p A < oWh p A
        · simp only [c4, decide_true] at q
          exact br_f (nI_ge c4 (by omega)) ⟨oh_i1, q⟩
        · simp only [c4, decide_false] at q
          exact br_t (nI_le (by omega) (by omega)) ⟨oh_i0, q⟩
/-- whether a man speaks who thinks A -/
def sSp (S : oS) (p A : Nat) : Bool := !(sQ S).testBit p && (match sK S p with
  | 1 => sHs S p A
  | 2 => decide (sM S p ≤ sB S) && oKn p A
  | 3 => false
  | 4 => decide (sM S p ≤ sB S) || sHs S p A
  | 5 => decide (sM S p ≤ sB S) && (decide (sE S p &&& sQ S = sE S p) && oKn p A)
  | 6 => oKn p (sP S)
  | _ => oKn p A)
theorem sSub : ∀ a, a < 64 → ∀ b, b < 64 → ((nI a &&& (nI b ^^^ (-1 : Int32))) = 0 ↔ a &&& b = a) := by decide +kernel
theorem sX4_speaks {d : Nat} {K : Int32 → oh_St → Prop} {h : oh_St} {o p A : Nat} {S : oS} (ho : o = 2 ∨ o = 37) (hc : cSc h o S) (hp : p < 6) (hA : A < 2 ^ 64) (q : K (oh_b (sSp S p A)) h) : CM (d + 4) jX4_speaks [.ref o, .int (nI p), .long (lN A)] h (oh_r1 K) := by
  refine mX4_speaks ho (br_f (nI_pos (by omega)) (br_f (nI_ge (b := 6) hp (by omega)) (sX4_hasSpoken ho hc hp ?_)))
  obtain ⟨h1, h2, h3, h4, h5, h6, hok⟩ := id hc
  obtain ⟨hk, hm, hs⟩ := hok.2.1 p hp
  have hq := sQ_lt hok
  have hbe := hok.2.2.2.2.2
  unfold sSp at q
  refine oh_bz (fun c => ?_) (fun c => ?_)
  · rw [c] at q
    simp only [Bool.not_false, Bool.true_and] at q
    refine ⟨oh_in hp (by omega), oh_in hp (by omega), ?_⟩
    rw [oh_cl (by omega), (h2 p hp).1, (h2 p hp).2.1, (h2 p hp).2.2, h5, h6, h4]
    have kne : ∀ {k j : Nat}, k ≤ 6 → j ≤ 6 → k ≠ j → ¬ nI k = nI j := fun a b c z => c ((nI_eq (by omega) (by omega)).mp z)
    have bell : ∀ {B : Prop} {C : Prop}, (¬ sM S p ≤ sB S → B) → (sM S p ≤ sB S → C) → (nI (sB S) < nI (sM S p) → B) ∧ (¬ nI (sB S) < nI (sM S p) → C) := fun f g => ⟨fun z => f (by have := (nI_ltI (by omega) (by omega)).mp z; omega), fun z => g (by have := mt (nI_ltI (by omega) (by omega)).mpr z; omega)⟩
    by_cases k1 : sK S p = 1
    · rw [k1] at q ⊢
      exact br_t rfl (sX4_isSure ho hc hp hA ⟨oh_b_01 _, q⟩)
    refine br_f (kne (j := 1) hk (by omega) k1) ?_
    by_cases k2 : sK S p = 2
    · rw [k2] at q ⊢
      refine br_t rfl (bell (fun c => ?_) (fun c => sX7_knows hA hp ?_))
      · simp only [c, decide_false, Bool.false_and] at q
        exact ⟨oh_i0, q⟩
      · simp only [c, decide_true, Bool.true_and] at q
        exact oh_bz (fun c => ⟨oh_i0, by rw [c] at q; exact q⟩) (fun c => ⟨oh_i1, by rw [c] at q; exact q⟩)
    refine br_f (kne (j := 2) hk (by omega) k2) ?_
    by_cases k3 : sK S p = 3
    · rw [k3] at q ⊢
      exact br_t rfl ⟨oh_i0, q⟩
    refine br_f (kne (j := 3) hk (by omega) k3) ?_
    by_cases k4 : sK S p = 4
    · rw [k4] at q ⊢
      refine br_t rfl ⟨fun z => ?_, fun z => ?_⟩
      · have z := (nI_leI (by omega) (by omega)).mp z
        simp only [z, decide_true, Bool.true_or] at q
        exact ⟨oh_i1, q⟩
      · have z := mt (nI_leI (by omega) (by omega)).mpr z
        simp only [z, decide_false, Bool.false_or] at q
        exact sX4_isSure ho hc hp hA (oh_bz (fun c => ⟨oh_i0, by rw [c] at q; exact q⟩) (fun c => ⟨oh_i1, by rw [c] at q; exact q⟩))
    refine br_f (kne (j := 4) hk (by omega) k4) ?_
    by_cases k5 : sK S p = 5
    · rw [k5] at q ⊢
      refine br_t rfl (bell (fun c => ?_) (fun c => ⟨oh_in hp (by omega), ?_⟩))
      · simp only [c, decide_false, Bool.false_and] at q
        exact ⟨oh_i0, q⟩
      · simp only [c, decide_true, Bool.true_and] at q
        have e := sSub (sE S p) hs (sQ S) hq
        refine ⟨fun z => ?_, fun z => ?_⟩
        · have z := mt e.mpr z
          simp only [z, decide_false, Bool.false_and] at q
          exact ⟨oh_i0, q⟩
        · have z := e.mp z
          simp only [z, decide_true, Bool.true_and] at q
          exact sX7_knows hA hp (oh_bz (fun c => ⟨oh_i0, by rw [c] at q; exact q⟩) (fun c => ⟨oh_i1, by rw [c] at q; exact q⟩))
    refine br_f (kne (j := 5) hk (by omega) k5) ?_
    by_cases k6 : sK S p = 6
    · rw [k6] at q ⊢
      exact br_t rfl (sX7_knows (sP_lt hok) hp ⟨oh_b_01 _, q⟩)
    refine br_f (kne (j := 6) hk (by omega) k6) ?_
    have k0 : sK S p = 0 := by omega
    rw [k0] at q
    exact sX7_knows hA hp ⟨oh_b_01 _, q⟩
  · rw [c] at q
    simp only [Bool.not_true, Bool.false_and] at q
    exact ⟨oh_i0, q⟩
/-- who speaks in a world; who of them says black -/
def sWho (S : oS) (x : Nat) : Nat := ob_m (fun p => sSp S p (sCell S p x)) (sN S)
def sBlk (S : oS) (x who : Nat) : Nat := ob_m (fun p => who.testBit p && oSay p (sCell S p x)) (sN S)
theorem sX4_speakers {d : Nat} {K : Int32 → oh_St → Prop} {h : oh_St} {o : Nat} {S : oS} (ho : o = 2 ∨ o = 37) (hc : cSc h o S) (q : K (nI (sWho S (sW S))) h) : CM (d + 5) jX4_speakers [.ref o] h (oh_r1 K) := by
  have hok := hc.2.2.2.2.2.2
  have hn := hok.1
  refine mX4_speakers ho ?_
  have key : ∀ i, i ≤ sN S → wX4_speakers_4 (d + 4) (oh_r1 K) o (nI (ob_m (fun p => sSp S p (sCell S p (sW S))) i)) (nI i) h := by
    refine oh_up (fun i hi ih => ?_) ?_
    · refine bX4_speakers_4 ho ?_
      rw [hc.1]
      refine br_f (nI_ge hi (by omega)) ?_
      rw [hc.2.2.1]
      refine sX4_thought ho hc (by omega) (sW_lt hok) (sX4_speaks ho hc (by omega) (sCell_lt _ _ _) ?_)
      rw [show (1 : Int32) = nI 1 from rfl, nI_add]
      refine oh_bz (fun c => ?_) (fun c => ?_)
      · rw [ob_m, if_neg (by rw [c]; decide)] at ih
        exact ih
      · rw [ob_m, if_pos c] at ih
        rw [show nI 1 = (1 : Int32) from rfl, ob_pow (by omega), ob_or]
        exact ih
    · refine bX4_speakers_4 ho ?_
      rw [hc.1]
      exact br_t (nI_le (Nat.le_refl _) (by omega)) q
  exact key 0 (Nat.zero_le _)
theorem ob_bsh (c : Bool) {i : Nat} (hi : i < 31) : oh_b c <<< (nI i &&& 31) = nI (if c then 2 ^ i else 0) := by
  cases c
  · have := pk_shlN (n := 0) (nI i &&& 31) i (s_l i (by omega)) (by rw [Nat.zero_mul]; exact Nat.two_pow_pos 32)
    rw [Nat.zero_mul] at this
    exact this
  · exact ob_pow hi
theorem sX4_sayings {d : Nat} {K : Int32 → oh_St → Prop} {h : oh_St} {o who : Nat} {S : oS} (ho : o = 2 ∨ o = 37) (hc : cSc h o S) (hw : who < 64) (q : K (nI (sBlk S (sW S) who)) h) : CM (d + 4) jX4_sayings [.ref o, .int (nI who)] h (oh_r1 K) := by
  have hok := hc.2.2.2.2.2.2
  have hn := hok.1
  refine mX4_sayings ho ?_
  have key : ∀ i, i ≤ sN S → wX4_sayings_4 (d + 3) (oh_r1 K) o (nI who) (nI (ob_m (fun p => who.testBit p && oSay p (sCell S p (sW S))) i)) (nI i) h := by
    refine oh_up (fun i hi ih => ?_) ?_
    · refine bX4_sayings_4 ho ?_
      rw [hc.1]
      refine br_f (nI_ge hi (by omega)) (sX7_bit (by omega) (by omega) ?_)
      rw [ob_m] at ih
      refine oh_bo (fun c => ?_) (fun c => ?_)
      · rw [c, Bool.false_and, if_neg (by decide)] at ih
        rw [show (1 : Int32) = nI 1 from rfl, nI_add]
        exact ih
      · rw [hc.2.2.1]
        refine sX4_thought ho hc (by omega) (sW_lt hok) (sX7_wouldSay (sCell_lt _ _ _) (by omega) ?_)
        rw [ob_bsh _ (by omega), ob_or, show (1 : Int32) = nI 1 from rfl, nI_add]
        rw [c, Bool.true_and] at ih
        cases hs : oSay i (sCell S i (sW S))
        · rw [hs, if_neg (by decide)] at ih
          rw [if_neg (by decide), Nat.or_zero]
          exact ih
        · rw [hs, if_pos rfl] at ih
          rw [if_pos rfl]
          exact ih
    · refine bX4_sayings_4 ho ?_
      rw [hc.1]
      exact br_t (nI_le (Nat.le_refl _) (by omega)) q
  exact key 0 (Nat.zero_le _)
end
section
/-! THE CLASS: which worlds fit what one man did -/
theorem sCell_eq {S : oS} (hok : sOk S) {p x : Nat} (hp : p < 6) (hx : x < 64) : lN (sP S) &&& (lN (oAW (sE S p)) <<< ((nI x &&& nI (sE S p)).toInt64 &&& 63)) = lN (sCell S p x) := by
  have hs := (hok.2.1 p hp).2.2
  rw [ob_and, wb_shl _ (Nat.lt_of_le_of_lt Nat.and_le_left hx), ob_land]
  congr 1
  apply ob_ext
  intro y
  rw [Nat.testBit_and, Nat.testBit_mul_two_pow, sCell, ob_m_bit]
  by_cases hy : y < 64
  · have k := sCell_k (sE S p) hs y hy x hx
    rw [← k]
    simp only [hy, decide_true, Bool.true_and, oAW, ob_m_bit]
    have : y - (x &&& sE S p) < 64 := by omega
    simp [this]
  · have := ob_hi (sP_lt hok) (by omega : 64 ≤ y)
    simp [hy, this]
theorem sCell_view {S : oS} {p x y : Nat} (h : y &&& sE S p = x &&& sE S p) : sCell S p y = sCell S p x := by unfold sCell; rw [h]
theorem sCell_bit {S : oS} {p x y : Nat} (hy : y < 64) : (sCell S p x).testBit y = ((sP S).testBit y && decide (y &&& sE S p = x &&& sE S p)) := by
  rw [sCell, ob_m_bit]; simp [hy]
/-- what a man did fits a world -/
def sGood (S : oS) (p : Nat) (sp sd : Bool) (y : Nat) : Bool := (sSp S p (sCell S p y) == sp) && (!sp || (oSay p (sCell S p y) == sd))
def sFit (S : oS) (p A : Nat) (sp sd : Bool) : Nat := ob_m (fun y => A.testBit y && sGood S p sp sd y) 64
def sSeen (S : oS) (p A w y : Nat) : Bool := (List.range w).any (fun x => A.testBit x && decide (x &&& sE S p = y &&& sE S p))
theorem sSeen_i {S : oS} {p A w y : Nat} : sSeen S p A w y = true ↔ ∃ x, x < w ∧ A.testBit x = true ∧ x &&& sE S p = y &&& sE S p := by
  unfold sSeen
  rw [List.any_eq_true]
  constructor
  · rintro ⟨x, hx, h⟩
    simp only [Bool.and_eq_true, decide_eq_true_eq] at h
    exact ⟨x, List.mem_range.mp hx, h.1, h.2⟩
  · rintro ⟨x, hx, h1, h2⟩
    exact ⟨x, List.mem_range.mpr hx, by simp [h1, h2]⟩
def sFl (S : oS) (p A w : Nat) : Nat := ob_m (fun y => A.testBit y && !sSeen S p A w y) 64
def sFf (S : oS) (p A : Nat) (sp sd : Bool) (w : Nat) : Nat := ob_m (fun y => A.testBit y && (sSeen S p A w y && sGood S p sp sd y)) 64
theorem sSeen_s {S : oS} {p A w y : Nat} : sSeen S p A (w + 1) y = (sSeen S p A w y || (A.testBit w && decide (w &&& sE S p = y &&& sE S p))) := by
  rw [Bool.eq_iff_iff]
  simp only [Bool.or_eq_true, sSeen_i, Bool.and_eq_true, decide_eq_true_eq]
  constructor
  · rintro ⟨x, hx, h1, h2⟩
    by_cases hxw : x = w
    · subst hxw; exact Or.inr ⟨h1, h2⟩
    · exact Or.inl ⟨x, by omega, h1, h2⟩
  · rintro (⟨x, hx, h1, h2⟩ | ⟨h1, h2⟩)
    · exact ⟨x, by omega, h1, h2⟩
    · exact ⟨w, by omega, h1, h2⟩
/-- a world whose view was seen, or that isn't among them: nothing changes -/
theorem sSeen_no {S : oS} {p A w : Nat} (hw : w < 64) (h : (sFl S p A w).testBit w = false) (y : Nat) : sSeen S p A (w + 1) y = sSeen S p A w y := by
  rw [sFl, ob_m_bit] at h
  simp only [hw, decide_true, Bool.true_and] at h
  rw [sSeen_s]
  cases hA : A.testBit w
  · simp
  · rw [hA] at h
    have hs : sSeen S p A w w = true := by simpa using h
    by_cases hv : w &&& sE S p = y &&& sE S p
    · obtain ⟨x, h1, h2, h3⟩ := sSeen_i.mp hs
      have : sSeen S p A w y = true := sSeen_i.mpr ⟨x, h1, h2, h3.trans hv⟩
      rw [this]; rfl
    · simp [hv]
theorem sFl_no {S : oS} {p A w : Nat} (hw : w < 64) (h : (sFl S p A w).testBit w = false) : sFl S p A (w + 1) = sFl S p A w := ob_m_cong (fun y _ => by rw [sSeen_no hw h])
theorem sFf_no {S : oS} {p A w : Nat} {sp sd : Bool} (hw : w < 64) (h : (sFl S p A w).testBit w = false) : sFf S p A sp sd (w + 1) = sFf S p A sp sd w := ob_m_cong (fun y _ => by rw [sSeen_no hw h])
theorem sGood_view {S : oS} {p x y : Nat} {sp sd : Bool} (h : y &&& sE S p = x &&& sE S p) : sGood S p sp sd y = sGood S p sp sd x := by unfold sGood; rw [sCell_view h]
theorem sFl_yes {S : oS} {p A w : Nat} (hsub : ∀ y, A.testBit y = true → (sP S).testBit y = true) (h : A.testBit w = true) : sFl S p A (w + 1) = sFl S p A w &&& ob_m (fun j => !(sCell S p w).testBit j) 64 := ob_ext (fun y => by
  rw [Nat.testBit_and]
  simp only [sFl, ob_m_bit]
  by_cases hy : y < 64
  · simp only [hy, decide_true, Bool.true_and, sCell_bit hy, sSeen_s, h]
    cases hA : A.testBit y
    · simp
    · rw [hsub y hA]
      by_cases hv : w &&& sE S p = y &&& sE S p
      · simp [hv]
      · have hv' : ¬ y &&& sE S p = w &&& sE S p := fun z => hv z.symm
        simp [hv, hv']
  · simp [hy])
theorem sFf_yes {S : oS} {p A w : Nat} {sp sd : Bool} (hsub : ∀ y, A.testBit y = true → (sP S).testBit y = true) (h : A.testBit w = true) : sFf S p A sp sd (w + 1) = if sGood S p sp sd w then sFf S p A sp sd w ||| (sCell S p w &&& A) else sFf S p A sp sd w := by
  by_cases hg : sGood S p sp sd w = true
  · rw [if_pos hg]
    apply ob_ext
    intro y
    rw [Nat.testBit_or, Nat.testBit_and]
    simp only [sFf, ob_m_bit]
    by_cases hy : y < 64
    · simp only [hy, decide_true, Bool.true_and, sCell_bit hy, sSeen_s, h]
      cases hA : A.testBit y
      · simp
      · rw [hsub y hA]
        by_cases hv : w &&& sE S p = y &&& sE S p
        · rw [sGood_view (sp := sp) (sd := sd) hv.symm, hg]
          simp [hv]
        · have hv' : ¬ y &&& sE S p = w &&& sE S p := fun z => hv z.symm
          simp [hv, hv']
    · simp only [hy, decide_false, Bool.false_and, Bool.false_or]
      rw [show (sCell S p w).testBit y = false from ob_hi (sCell_lt S p w) (by omega), Bool.false_and]
  · rw [if_neg hg]
    apply ob_m_cong
    intro y hy
    rw [sSeen_s, h]
    by_cases hv : w &&& sE S p = y &&& sE S p
    · rw [sGood_view (sp := sp) (sd := sd) hv.symm]
      have : sGood S p sp sd w = false := by simpa using hg
      simp [this]
    · simp [hv]
theorem sFf_all {S : oS} {p A w : Nat} {sp sd : Bool} (h : ∀ y, y < 64 → A.testBit y = true → sSeen S p A w y = true) : sFf S p A sp sd w = sFit S p A sp sd := ob_m_cong (fun y hy => by
  cases hA : A.testBit y
  · rfl
  · rw [h y hy hA]; rfl)
theorem sFl_z {S : oS} {p A w : Nat} (h : sFl S p A w = 0) : ∀ y, y < 64 → A.testBit y = true → sSeen S p A w y = true := by
  intro y hy hA
  have := congrArg (fun n => Nat.testBit n y) h
  simp only [sFl, ob_m_bit, hy, decide_true, Bool.true_and, hA, Nat.zero_testBit] at this
  simpa using this
theorem sX4_fitting {d : Nat} {K : Int64 → oh_St → Prop} {h : oh_St} {o p A : Nat} {sp sd : Bool} {S : oS} (ho : o = 2 ∨ o = 37) (hc : cSc h o S) (hp : p < 6) (hA : A < 2 ^ 64) (hsub : ∀ y, A.testBit y = true → (sP S).testBit y = true) (q : K (lN (sFit S p A sp sd)) h) : CM (d + 5) jX4_fitting [.ref o, .int (nI p), .long (lN A), .int (oh_b sp), .int (oh_b sd)] h (oh_r2 K) := by
  refine mX4_fitting ho (br_f (nI_pos (by omega)) (br_t (nI_lt (b := 6) hp (by omega)) ⟨oh_in hp (by omega), ?_⟩))
  obtain ⟨h1, h2, h3, h4, h5, h6, hok⟩ := id hc
  have hs := (hok.2.1 p hp).2.2
  have h64 := sPow hok
  rw [oh_cl (by omega), (h2 p hp).2.2]
  refine sX7_allWhite hs ?_
  have hlt : ∀ y, A.testBit y = true → y < 2 ^ sN S := fun y hy => by
    rcases Nat.lt_or_ge y (2 ^ sN S) with z | z
    · exact z
    · have := ob_hi hok.2.2.2.1 z
      rw [hsub y hy] at this; cases this
  have key : ∀ w, w ≤ 2 ^ sN S → wX4_fitting_38 (d + 4) (oh_r2 K) o (nI p) (lN A) (oh_b sp) (oh_b sd) (nI (sE S p)) (lN (oAW (sE S p))) (lN (sFf S p A sp sd w)) (lN (sFl S p A w)) (nI w) h := by
    refine oh_up (fun w hw ih => ?_) ?_
    · refine bX4_fitting_38 ho (sX4_worldCount ho hc (br_f (nI_ge hw (by omega)) ?_))
      have e0 : (lg_cmp (lN (sFl S p A w)) 0 = 0) ↔ sFl S p A w = 0 := by
        rw [oh_cmp0, show (0 : Int64) = lN 0 from rfl, ob_linj (show sFl S p A w < 2 ^ 64 from ob_m_lt _ _) (by omega)]
      refine ⟨fun z => ?_, fun z => ?_⟩
      · show K _ h
        rw [sFf_all (sFl_z (e0.mp z))]
        exact q
      · refine sX7_holds (ob_m_lt _ _) (by omega) ?_
        rw [show (1 : Int32) = nI 1 from rfl, nI_add]
        refine oh_bz (fun c => ?_) (fun c => ?_)
        · rw [sFl_no (by omega) c, sFf_no (by omega) c] at ih
          exact ih
        · have hAw : A.testBit w = true := by
            rw [sFl, ob_m_bit] at c
            simp only [Bool.and_eq_true] at c
            exact c.2.1
          rw [h4, sCell_eq hok hp (by omega), ob_not (sCell_lt _ _ _), ob_land, ob_land, ob_lor]
          rw [sFl_yes hsub hAw, sFf_yes hsub hAw] at ih
          refine sX4_speaks ho hc hp (sCell_lt _ _ _) ?_
          unfold sGood at ih
          refine oh_nc (fun c2 => ?_) (fun c2 => ?_)
          · have c2 : ¬ sSp S p (sCell S p w) = sp := fun z => c2 (by rw [z])
            rw [if_neg (by simp [c2])] at ih
            exact ih
          · have c2 : sSp S p (sCell S p w) = sp := by
              revert c2
              cases sSp S p (sCell S p w) <;> cases sp <;> decide
            rw [c2] at ih
            refine oh_bz (fun c3 => ?_) (fun c3 => ?_)
            · rw [c3] at ih ⊢
              rw [if_pos (by simp)] at ih
              exact ih
            · rw [c3] at ih ⊢
              refine sX7_wouldSay (sCell_lt _ _ _) hp (oh_nc (fun c4 => ?_) (fun c4 => ?_))
              · have c4 : ¬ oSay p (sCell S p w) = sd := fun z => c4 (by rw [z])
                rw [if_neg (by simp [c4])] at ih
                exact ih
              · have c4 : oSay p (sCell S p w) = sd := by
                  revert c4
                  cases oSay p (sCell S p w) <;> cases sd <;> decide
                rw [if_pos (by simp [c4])] at ih
                exact ih
    · refine bX4_fitting_38 ho (sX4_worldCount ho hc (br_t (nI_le (Nat.le_refl _) (by omega)) ?_))
      show K _ h
      rw [sFf_all (fun y _ hA => sSeen_i.mpr ⟨y, hlt y hA, hA, rfl⟩)]
      exact q
  have := key 0 (Nat.zero_le _)
  have e1 : sFf S p A sp sd 0 = 0 := by
    apply ob_ext
    intro y
    rw [sFf, ob_m_bit, Nat.zero_testBit]
    simp [sSeen]
  have e2 : sFl S p A 0 = A := by
    conv => rhs; rw [← ob_m_self hA]
    apply ob_m_cong
    intro y _
    simp [sSeen]
  rw [e1, e2] at this
  exact this
end
section
/-! THE CLASS: rows, and a law worked out from its code -/
/-- all but some cells is as it was -/
def oSame (h h' : oh_St) (X : List Nat) : Prop := (∀ a b, a ∉ X → h'.1 a b = h.1 a b) ∧ h'.2 = h.2
theorem oSame_rf (h : oh_St) (X : List Nat) : oSame h h X := ⟨fun _ _ _ => rfl, rfl⟩
theorem oSame_up {h h' : oh_St} {X : List Nat} (H : oSame h h' X) {o k : Nat} {v : Int32} (ho : o ∈ X) : oSame h (oh_upi h' o k v) X := ⟨fun a b ha => by
  rw [oh_g1, if_neg (fun z : a = o ∧ b = k => ha (by rw [z.1]; exact ho))]
  exact H.1 a b ha, H.2⟩
theorem oSame_tr {h h' h2 : oh_St} {X : List Nat} (H : oSame h h' X) (H2 : oSame h' h2 X) : oSame h h2 X := ⟨fun a b ha => (H2.1 a b ha).trans (H.1 a b ha), H2.2.trans H.2⟩
theorem oSame_mono {h h' : oh_St} {X Y : List Nat} (H : oSame h h' X) (hs : ∀ a ∈ X, a ∈ Y) : oSame h h' Y := ⟨fun a b ha => H.1 a b (fun z => ha (hs a z)), H.2⟩
def oRow (o : Nat) : Prop := o = 8 ∨ o = 12 ∨ o = 15 ∨ o = 17 ∨ o = 26 ∨ o = 30 ∨ o = 33 ∨ o = 35 ∨ o = 43 ∨ o = 45 ∨ o = 48
theorem oRow_cap {o : Nat} (h : oRow o) : oh_ln1 o ≤ 50 := by rcases h with rfl | rfl | rfl | rfl | rfl | rfl | rfl | rfl | rfl | rfl | rfl <;> decide
/-- a row holds a list -/
def rowIs (h : oh_St) (o : Nat) (l : List Int32) : Prop := h.1 o 1 = nI l.length ∧ (∀ i, i < l.length → h.1 (o + 1) i = l.getD i 0) ∧ l.length ≤ oh_ln1 o
theorem rowIs_same {h h' : oh_St} {o : Nat} {l : List Int32} {X : List Nat} (H : rowIs h o l) (hs : oSame h h' X) (h1 : o ∉ X) (h2 : o + 1 ∉ X) : rowIs h' o l := ⟨(hs.1 o 1 h1).trans H.1, fun i hi => (hs.1 (o + 1) i h2).trans (H.2.1 i hi), H.2.2⟩
theorem sX3_get {d : Nat} {K : Int32 → oh_St → Prop} {h : oh_St} {o i : Nat} {l : List Int32} (ho : oRow o) (hr : rowIs h o l) (hi : i < l.length) (q : K (l.getD i 0) h) : CM (d + 1) jX3_get [.ref o, .int (nI i)] h (oh_r1 K) := by
  have hc := oRow_cap ho
  obtain ⟨h1, h2, h3⟩ := hr
  refine mX3_get ho (br_f (nI_pos (by omega)) ?_)
  rw [h1]
  refine br_f (nI_ge hi (by omega)) (br_f (nI_ge (Nat.lt_of_lt_of_le hi h3) (by omega)) ⟨oh_in (Nat.lt_of_lt_of_le hi h3) (by omega), ?_⟩)
  show K _ h
  rw [oh_cl (by omega), h2 i hi]
  exact q
theorem sX3_clear {d : Nat} {K : oh_St → Prop} {h : oh_St} {o : Nat} (ho : oRow o) (q : K (oh_upi h o 1 0)) : CM (d + 1) jX3_clear [.ref o] h (oh_r0 K) := mX3_clear ho q
/-- a row with one more -/
def rowAdd (h : oh_St) (o n : Nat) (v : Int32) : oh_St := oh_upi (oh_upi h (o + 1) n v) o 1 (nI (n + 1))
theorem rowAdd_is {h : oh_St} {o : Nat} {l : List Int32} {v : Int32} (hr : rowIs h o l) (hl : l.length < oh_ln1 o) : rowIs (rowAdd h o l.length v) o (l ++ [v]) := by
  obtain ⟨h1, h2, h3⟩ := hr
  refine ⟨?_, fun i hi => ?_, ?_⟩
  · rw [rowAdd, oh_g1, if_pos ⟨rfl, rfl⟩]
    simp
  · rw [rowAdd, oh_g1, if_neg (by omega), oh_g1]
    simp only [List.length_append, List.length_singleton] at hi
    by_cases hil : i = l.length
    · subst hil
      rw [if_pos ⟨rfl, rfl⟩]
      simp
    · rw [if_neg (fun z => hil z.2), h2 i (by omega)]
      simp [List.getD, List.getElem?_append_left (show i < l.length by omega)]
  · simp; omega
theorem rowAdd_same (h : oh_St) (o n : Nat) (v : Int32) : oSame h (rowAdd h o n v) [o, o + 1] := oSame_up (oSame_up (oSame_rf h _) (by simp)) (by simp)
theorem sX3_add {d : Nat} {K : oh_St → Prop} {h : oh_St} {o : Nat} {l : List Int32} {v : Int32} (ho : oRow o) (hr : rowIs h o l) (hl : l.length < oh_ln1 o) (q : K (rowAdd h o l.length v)) : CM (d + 1) jX3_add [.ref o, .int v] h (oh_r0 K) := by
  have hc := oRow_cap ho
  refine mX3_add ho ?_
  obtain ⟨h1, h2, h3⟩ := hr
  rw [h1]
  refine br_f (nI_ge hl (by omega)) ⟨oh_in hl (by omega), ?_⟩
  show K _
  rw [oh_g1, if_neg (by omega), h1, oh_cl (by omega), show (1 : Int32) = nI 1 from rfl, nI_add]
  exact q
def oTake (o o2 : Nat) : Prop := (o = 8 ∧ o2 = 26) ∨ (o = 8 ∧ o2 = 43) ∨ (o = 12 ∧ o2 = 30) ∨ (o = 12 ∧ o2 = 43) ∨ (o = 15 ∧ o2 = 33) ∨ (o = 17 ∧ o2 = 35) ∨ (o = 26 ∧ o2 = 8) ∨ (o = 30 ∧ o2 = 12) ∨ (o = 33 ∧ o2 = 15) ∨ (o = 35 ∧ o2 = 17) ∨ (o = 45 ∧ o2 = 15)
theorem oTake_r {o o2 : Nat} (h : oTake o o2) : oRow o ∧ oRow o2 ∧ oh_ln1 o = oh_ln1 o2 ∧ o2 ∉ [o, o + 1] ∧ o2 + 1 ∉ [o, o + 1] := by
  unfold oRow
  rcases h with ⟨rfl, rfl⟩ | ⟨rfl, rfl⟩ | ⟨rfl, rfl⟩ | ⟨rfl, rfl⟩ | ⟨rfl, rfl⟩ | ⟨rfl, rfl⟩ | ⟨rfl, rfl⟩ | ⟨rfl, rfl⟩ | ⟨rfl, rfl⟩ | ⟨rfl, rfl⟩ | ⟨rfl, rfl⟩ <;> exact ⟨by omega, by omega, by decide, by decide, by decide⟩
theorem sX3_take {d : Nat} {K : oh_St → Prop} {h : oh_St} {o o2 : Nat} {l : List Int32} (ho : oTake o o2) (hr : rowIs h o2 l) (q : ∀ h', rowIs h' o l → oSame h h' [o, o + 1] → K h') : CM (d + 2) jX3_take [.ref o, .ref o2] h (oh_r0 K) := by
  obtain ⟨r1, r2, hcap, n1, n2⟩ := oTake_r ho
  have hc := oRow_cap r2
  have hl := hr.2.2
  refine mX3_take ho (sX3_clear r1 ?_)
  have key : ∀ i, i ≤ l.length → ∀ h', rowIs h' o (l.take i) → oSame h h' [o, o + 1] → wX3_take_6 (d + 1) (oh_r0 K) o o2 (nI i) h' := by
    refine oh_up (fun i hi ih => ?_) ?_
    · intro h' hr' hs
      have hr2 := rowIs_same hr hs n1 n2
      refine bX3_take_6 ho ?_
      rw [hr2.1]
      refine br_f (nI_ge hi (by omega)) (sX3_get r2 hr2 hi (sX3_add r1 hr' (by simp; omega) ?_))
      rw [show (1 : Int32) = nI 1 from rfl, nI_add]
      have hlen : (l.take i).length < oh_ln1 o := by simp; omega
      have := rowAdd_is (v := l.getD i 0) hr' hlen
      rw [show l.take i ++ [l.getD i 0] = l.take (i + 1) by
        rw [List.take_add_one]
        simp [List.getD, List.getElem?_eq_getElem hi]] at this
      exact ih _ this (oSame_tr hs (rowAdd_same _ _ _ _))
    · intro h' hr' hs
      have hr2 := rowIs_same hr hs n1 n2
      refine bX3_take_6 ho ?_
      rw [hr2.1]
      rw [List.take_length] at hr'
      exact br_t (nI_le (Nat.le_refl _) (by omega)) (q h' hr' hs)
  refine key 0 (Nat.zero_le _) _ ⟨?_, fun i hi => by simp at hi, by simp⟩ (oSame_up (oSame_rf h _) (by simp))
  rw [oh_g1, if_pos ⟨rfl, rfl⟩]
  rfl
-- signs
def oJ (c : Nat) (l r : Int32) : Int32 :=
  if c = 124 then (if l = 0 ∧ r = 0 then 0 else 1)
  else if c = 38 then (if l = 0 ∨ r = 0 then 0 else 1)
  else if c = 60 then (if l < r then 1 else 0)
  else if c = 61 then (if l = r then 1 else 0)
  else if c = 62 then (if r < l then 1 else 0)
  else if c = 43 then l + r
  else if c = 45 then l - r
  else if c = 42 then l * r
  else if c = 47 then (if r = 0 then 0 else l / r)
  else if c = 37 then (if r = 0 then 0 else l - l / r * r)
  else 0
theorem sX1_joined {d : Nat} {K : Int32 → oh_St → Prop} {h : oh_St} {c : Nat} {l r : Int32} (hc : c < 10000) (q : K (oJ c l r) h) : CM (d + 1) jX1_joined [.int (nI c), .int l, .int r] h (oh_r1 K) := by
  refine mX1_joined ?_
  unfold oJ at q
  have ne : ∀ {j : Nat}, j < 10000 → c ≠ j → ¬ nI c = nI j := fun a b z => b ((nI_eq (by omega) (by omega)).mp z)
  by_cases c1 : c = 37
  · subst c1
    refine br_t rfl ⟨fun z => ⟨z, ?_⟩, fun z => ?_⟩
    · (show K _ h; simpa [z] using q)
    · (show K _ h; simpa [z] using q)
  refine br_f (ne (j := 37) (by omega) c1) ?_
  by_cases c2 : c = 38
  · subst c2
    refine br_t rfl ⟨fun z => ?_, fun z => ⟨fun z2 => ?_, fun z2 => ?_⟩⟩
    · (show K _ h; simpa [z] using q)
    · (show K _ h; simpa [z, z2] using q)
    · (show K _ h; simpa [z, z2] using q)
  refine br_f (ne (j := 38) (by omega) c2) ?_
  by_cases c3 : c = 42
  · subst c3
    exact br_t rfl (by show K _ h; simpa using q)
  refine br_f (ne (j := 42) (by omega) c3) ?_
  by_cases c4 : c = 43
  · subst c4
    exact br_t rfl (by show K _ h; simpa using q)
  refine br_f (ne (j := 43) (by omega) c4) ?_
  by_cases c5 : c = 45
  · subst c5
    exact br_t rfl (by show K _ h; simpa using q)
  refine br_f (ne (j := 45) (by omega) c5) ?_
  by_cases c6 : c = 47
  · subst c6
    refine br_t rfl ⟨fun z => ⟨z, ?_⟩, fun z => ?_⟩
    · (show K _ h; simpa [z] using q)
    · (show K _ h; simpa [z] using q)
  refine br_f (ne (j := 47) (by omega) c6) ?_
  by_cases c7 : c = 60
  · subst c7
    refine br_t rfl ⟨fun z => ?_, fun z => ?_⟩
    · rw [if_neg (by decide), if_neg (by decide), if_pos rfl, if_neg (Int32.not_lt.mpr z)] at q
      exact q
    · rw [if_neg (by decide), if_neg (by decide), if_pos rfl, if_pos (Int32.not_le.mp z)] at q
      exact q
  refine br_f (ne (j := 60) (by omega) c7) ?_
  by_cases c8 : c = 61
  · subst c8
    refine br_t rfl ⟨fun z => ?_, fun z => ?_⟩
    · (show K _ h; simpa [z] using q)
    · (show K _ h; simpa [z] using q)
  refine br_f (ne (j := 61) (by omega) c8) ?_
  by_cases c9 : c = 62
  · subst c9
    refine br_t rfl ⟨fun z => ?_, fun z => ?_⟩
    · rw [if_neg (by decide), if_neg (by decide), if_neg (by decide), if_neg (by decide), if_pos rfl, if_neg (Int32.not_lt.mpr z)] at q
      exact q
    · rw [if_neg (by decide), if_neg (by decide), if_neg (by decide), if_neg (by decide), if_pos rfl, if_pos (Int32.not_le.mp z)] at q
      exact q
  refine br_f (ne (j := 62) (by omega) c9) ?_
  by_cases c10 : c = 124
  · subst c10
    refine br_t rfl ⟨fun z => ?_, fun z => ⟨fun z2 => ?_, fun z2 => ?_⟩⟩
    · (show K _ h; simpa [z] using q)
    · (show K _ h; simpa [z, z2] using q)
    · (show K _ h; simpa [z, z2] using q)
  refine br_f (ne (j := 124) (by omega) c10) ?_
  (show K _ h; simpa [c1, c2, c3, c4, c5, c6, c7, c8, c9, c10] using q)
def oNm (a b c e : Int32) (k : Nat) : Int32 := if k = 0 then a else if k = 1 then b else if k = 2 then c else e
theorem sX1_named {d : Nat} {K : Int32 → oh_St → Prop} {h : oh_St} {k : Nat} {a b c e : Int32} (hk : k < 10000) (q : K (oNm a b c e k) h) : CM (d + 1) jX1_named [.int (nI k), .int a, .int b, .int c, .int e] h (oh_r1 K) := by
  refine mX1_named ?_
  unfold oNm at q
  have ne : ∀ {j : Nat}, j < 10000 → k ≠ j → ¬ nI k = nI j := fun a b z => b ((nI_eq (by omega) (by omega)).mp z)
  by_cases c1 : k = 0
  · subst c1
    exact br_t rfl (by show K _ h; simpa using q)
  refine br_f (ne (j := 0) (by omega) c1) ?_
  by_cases c2 : k = 1
  · subst c2
    exact br_t rfl (by show K _ h; simpa using q)
  refine br_f (ne (j := 1) (by omega) c2) ?_
  by_cases c3 : k = 2
  · subst c3
    exact br_t rfl (by show K _ h; simpa using q)
  exact br_f (ne (j := 2) (by omega) c3) (by show K _ h; simpa [c1, c2, c3] using q)
/-- code worked out on a stack (its top first); none: broken off -/
def eC (nm : Nat → Int32) : List Nat → List Int32 → Option (List Int32)
  | [], st => some st
  | t :: r, st =>
    if t < 10000 then (if st.length < 50 then eC nm r (nI t :: st) else none)
    else if t < 20000 then
      (if t = 10033 then (match st with
        | x :: s => eC nm r ((if x = 0 then 1 else 0) :: s)
        | [] => none)
      else match st with
        | y :: x :: s => eC nm r (oJ (t - 10000) x y :: s)
        | _ => none)
    else (if st.length < 50 then eC nm r (nm (t - 20000) :: st) else none)
def eR (nm : Nat → Int32) (c : List Nat) : Int32 := match eC nm c [] with
  | none => 0
  | some st => st.getLastD 0
def stIs (h : oh_St) (o : Nat) (st : List Int32) : Prop := ∀ i, i < st.length → h.1 (o + 3) i = st.getD (st.length - 1 - i) 0
theorem stIs_push {h : oh_St} {o : Nat} {st : List Int32} {x : Int32} (H : stIs h o st) : stIs (oh_upi h (o + 3) st.length x) o (x :: st) := by
  intro i hi
  simp only [List.length_cons] at hi
  rw [oh_g1]
  by_cases hil : i = st.length
  · subst hil
    rw [if_pos ⟨rfl, rfl⟩]
    simp
  · rw [if_neg (fun z => hil z.2), H i (by omega)]
    simp only [List.length_cons]
    rw [show st.length + 1 - 1 - i = (st.length - 1 - i) + 1 by omega]
    rfl
theorem stIs_pop {h : oh_St} {o : Nat} {st : List Int32} {x : Int32} (H : stIs h o (x :: st)) : stIs h o st := by
  intro i hi
  rw [H i (by simp; omega)]
  simp only [List.length_cons]
  rw [show st.length + 1 - 1 - i = (st.length - 1 - i) + 1 by omega]
  rfl
theorem stIs_top {h : oh_St} {o : Nat} {st : List Int32} {x : Int32} (H : stIs h o (x :: st)) : h.1 (o + 3) st.length = x := by
  rw [H st.length (by simp)]
  simp
theorem oNot7 {o : Nat} (ho : o = 7 ∨ o = 11) : oRow (o + 1) := by
  unfold oRow
  rcases ho with rfl | rfl <;> omega
theorem sX1_workedOut {d : Nat} {K : Int32 → oh_St → Prop} {h : oh_St} {o : Nat} {c : List Nat} {v1 v2 v3 v4 : Int32} (ho : o = 7 ∨ o = 11) (hr : rowIs h (o + 1) (c.map nI)) (ht : ∀ t ∈ c, t < 20004) (q : ∀ h', oSame h h' [o + 3] → K (eR (oNm v1 v2 v3 v4) c) h') : CM (d + 2) jX1_workedOut [.ref o, .int v1, .int v2, .int v3, .int v4] h (oh_r1 K) := by
  have hcap := oRow_cap (oNot7 ho)
  have hlen := hr.2.2
  simp only [List.length_map] at hlen
  refine mX1_workedOut ho ?_
  have key : ∀ i, i ≤ c.length → ∀ h' st, oSame h h' [o + 3] → stIs h' o st → st.length ≤ 50 → (match eC (oNm v1 v2 v3 v4) (c.drop i) st with
      | none => 0
      | some st => st.getLastD 0) = eR (oNm v1 v2 v3 v4) c → wX1_workedOut_6 (d + 1) (oh_r1 K) o v1 v2 v3 v4 (nI st.length) (nI i) h' := by
    refine oh_up (fun i hi ih => ?_) ?_
    · intro h' st hs hst hl he
      have hr' := rowIs_same hr hs (by simp) (by simp)
      refine bX1_workedOut_6 ho ?_
      rw [hr'.1]
      simp only [List.length_map]
      refine br_f (nI_ge hi (by omega)) (sX3_get (oNot7 ho) hr' (by simpa using hi) ?_)
      have hci : (c.map nI).getD i 0 = nI (c[i]) := by simp [List.getD, hi]
      have htc : c[i] < 20004 := ht _ (List.getElem_mem hi)
      rw [hci]
      rw [List.drop_eq_getElem_cons hi] at he
      generalize c[i] = t at htc he
      unfold eC at he
      have push : ∀ x, (st.length < 50 → (match eC (oNm v1 v2 v3 v4) (c.drop (i + 1)) (x :: st) with
          | none => 0
          | some st => st.getLastD 0) = eR (oNm v1 v2 v3 v4) c) → st.length < 50 → vp_in (nI st.length) 50 ∧ wX1_workedOut_6 (d + 1) (oh_r1 K) o v1 v2 v3 v4 (nI st.length + 1) (nI i + 1) (oh_upi h' (o + 3) (nI st.length).toNatClampNeg x) := by
        intro x he hl2
        refine ⟨oh_in hl2 (by omega), ?_⟩
        rw [oh_cl (by omega), nI_1, nI_1]
        exact ih _ (x :: st) (oSame_up hs (by simp)) (stIs_push hst) (by simp; omega) (he hl2)
      have over : ¬ st.length < 50 → ∀ {A B : Prop}, B → (nI st.length < 50 → A) ∧ (¬ nI st.length < 50 → B) := fun z _ _ b => br_f (nI_nlt (b := 50) (by omega) (by omega)) b
      have done : ∀ {A : Prop}, (A → (0 : Int32) = eR (oNm v1 v2 v3 v4) c) → A → K 0 h' := fun e a => by rw [e a]; exact q h' hs
      by_cases c1 : t < 10000
      · rw [if_pos c1] at he
        refine br_t (nI_lt (b := 10000) c1 (by omega)) ?_
        by_cases c2 : st.length < 50
        · rw [if_pos c2] at he
          exact br_t (nI_lt (b := 50) c2 (by omega)) (br_f (nI_ge (b := 10000) c1 (by omega)) (push _ (fun _ => he) c2))
        · rw [if_neg c2] at he
          exact over c2 (done (fun _ => he) trivial)
      · rw [if_neg c1] at he
        refine br_f (nI_nlt (b := 10000) (by omega) (by omega)) ?_
        by_cases c2 : t < 20000
        · rw [if_pos c2] at he
          refine br_t (nI_lt (b := 20000) c2 (by omega)) ?_
          by_cases c3 : t = 10033
          · rw [if_pos c3] at he
            subst c3
            refine oh_nf rfl ?_
            match st, hst, hl, he with
            | [], hst, hl, he => exact br_f (nI_ge (a := 0) (b := 1) (by omega) (by omega)) (done (fun _ => he) trivial)
            | x :: s, hst, hl, he =>
              simp only [List.length_cons] at hl ⊢
              refine br_t (nI_le (a := 1) (by omega) (by omega)) ?_
              rw [show nI (s.length + 1) - 1 = nI s.length from nI_pred _, oh_cl (by omega), stIs_top hst]
              refine ⟨oh_in (by omega) (by omega), oh_nc (fun z => ⟨oh_in (by omega) (by omega), ?_⟩) (fun z => ⟨oh_in (by omega) (by omega), ?_⟩)⟩
              · rw [nI_1]
                dsimp only at he
                rw [if_neg z] at he
                exact ih _ (0 :: s) (oSame_up hs (by simp)) (stIs_push (stIs_pop hst)) (by simpa using hl) he
              · rw [nI_1]
                dsimp only at he
                rw [if_pos z] at he
                exact ih _ (1 :: s) (oSame_up hs (by simp)) (stIs_push (stIs_pop hst)) (by simpa using hl) he
          · rw [if_neg c3] at he
            refine oh_nt (fun z => c3 ((nI_eq (by omega) (by omega)).mp z)) ?_
            match st, hst, hl, he with
            | [], hst, hl, he => exact br_f (nI_ge (a := 0) (b := 2) (by omega) (by omega)) (done (fun _ => he) trivial)
            | [x], hst, hl, he => exact br_f (nI_ge (a := 1) (b := 2) (by omega) (by omega)) (done (fun _ => he) trivial)
            | y :: x :: s, hst, hl, he =>
              simp only [List.length_cons] at hl ⊢
              refine br_t (nI_le (a := 2) (by omega) (by omega)) ?_
              have e1 : nI (s.length + 1 + 1) + (-1) = nI (s.length + 1) := pk_m1 _
              rw [e1, show nI (s.length + 1) - 1 = nI s.length from nI_pred _, oh_cl (by omega), oh_cl (by omega)]
              have t1 := stIs_top hst
              simp only [List.length_cons] at t1
              rw [t1, stIs_top (stIs_pop hst)]
              refine ⟨oh_in (by omega) (by omega), oh_in (by omega) (by omega), ?_⟩
              rw [show (10000 : Int32) = nI 10000 from rfl, pk_sub (by omega)]
              refine sX1_joined (by omega) ⟨oh_in (by omega) (by omega), ?_⟩
              rw [nI_1]
              exact ih _ (oJ (t - 10000) x y :: s) (oSame_up hs (by simp)) (stIs_push (stIs_pop (stIs_pop hst))) (by simp; omega) he
        · rw [if_neg c2] at he
          refine br_f (nI_nlt (b := 20000) (by omega) (by omega)) ?_
          by_cases c3 : st.length < 50
          · rw [if_pos c3] at he
            refine br_t (nI_lt (b := 50) c3 (by omega)) (br_t (nI_le (a := 10000) (by omega) (by omega)) ?_)
            rw [show (20000 : Int32) = nI 20000 from rfl, pk_sub (by omega)]
            exact sX1_named (by omega) (push _ (fun _ => he) c3)
          · rw [if_neg c3] at he
            exact over c3 (done (fun _ => he) trivial)
    · intro h' st hs hst hl he
      have hr' := rowIs_same hr hs (by simp) (by simp)
      refine bX1_workedOut_6 ho ?_
      rw [hr'.1]
      simp only [List.length_map]
      refine br_t (nI_le (Nat.le_refl _) (by omega)) ?_
      rw [List.drop_length] at he
      match st, hst, hl, he with
      | [], hst, hl, he => exact br_f (nI_ge (a := 0) (b := 1) (by omega) (by omega)) (by show K 0 h'; rw [show (0 : Int32) = _ from he]; exact q h' hs)
      | x :: s, hst, hl, he =>
        simp only [List.length_cons] at hl ⊢
        refine br_t (nI_le (a := 1) (by omega) (by omega)) ⟨oh_in (i := 0) (by omega) (by omega), ?_⟩
        show K (h'.1 (o + 3) 0) h'
        have e0 := hst 0 (by simp)
        have e1 : (x :: s).getD ((x :: s).length - 1 - 0) 0 = (x :: s).getLastD 0 := by
          simp [List.getLastD, List.getD, List.getLast_eq_getElem]
        rw [e0, e1, show (x :: s).getLastD 0 = _ from he]
        exact q h' hs
  exact key 0 (Nat.zero_le _) h [] (oSame_rf _ _) (fun i hi => by simp at hi) (by simp) rfl
/-- what a law gives -/
def lwF (u : Nat) (c : List Nat) (v1 v2 v3 v4 : Int32) : Int32 := if u = 0 then (if c = [] then 1 else eR (oNm v1 v2 v3 v4) c) else oHeld (if c = [] then v1 * 10 + 5 - v2 else eR (oNm v1 v2 v3 v4) c) 0 999
def lawIs (h : oh_St) (o u : Nat) (c : List Nat) : Prop := h.1 o 0 = nI u ∧ u ≤ 1 ∧ rowIs h (o + 1) (c.map nI) ∧ ∀ t ∈ c, t < 20004
theorem lawIs_same {h h' : oh_St} {o u : Nat} {c : List Nat} {X : List Nat} (H : lawIs h o u c) (hs : oSame h h' X) (h0 : o ∉ X) (h1 : o + 1 ∉ X) (h2 : o + 1 + 1 ∉ X) : lawIs h' o u c := ⟨(hs.1 o 0 h0).trans H.1, H.2.1, rowIs_same H.2.2.1 hs h1 h2, H.2.2.2⟩
theorem sX1_gives {d : Nat} {K : Int32 → oh_St → Prop} {h : oh_St} {o u : Nat} {c : List Nat} {v1 v2 v3 v4 : Int32} (ho : o = 7 ∨ o = 11) (hl : lawIs h o u c) (q : ∀ h', oSame h h' [o + 3] → K (lwF u c v1 v2 v3 v4) h') : CM (d + 3) jX1_gives [.ref o, .int v1, .int v2, .int v3, .int v4] h (oh_r1 K) := by
  obtain ⟨h0, h1, hr, ht⟩ := hl
  have hcap := oRow_cap (oNot7 ho)
  have hlen := hr.2.2
  simp only [List.length_map] at hlen
  refine mX1_gives ho ?_
  rw [h0, hr.1]
  simp only [List.length_map]
  have e0 : nI c.length = 0 ↔ c = [] := by
    rw [show (0 : Int32) = nI 0 from rfl, nI_eq (by omega) (by omega)]
    exact List.length_eq_zero_iff
  unfold lwF at q
  by_cases hu : u = 0
  · subst hu
    refine oh_nf rfl (oh_nc (fun z => ?_) (fun z => ?_))
    · have z := mt e0.mpr z
      refine sX1_workedOut ho hr ht (fun h' hs => ?_)
      have := q h' hs
      rw [if_pos rfl, if_neg z] at this
      exact this
    · have z := e0.mp z
      have := q h (oSame_rf _ _)
      rw [if_pos rfl, if_pos z] at this
      exact this
  · refine oh_nt (nI_ne0 (by omega) (by omega)) (oh_nc (fun z => ?_) (fun z => ?_))
    · have z := mt e0.mpr z
      refine sX1_workedOut ho hr ht (fun h' hs => sX7_held (by decide) ?_)
      have := q h' hs
      rw [if_neg hu, if_neg z] at this
      exact this
    · have z := e0.mp z
      refine sX7_held (by decide) ?_
      have := q h (oSame_rf _ _)
      rw [if_neg hu, if_pos z] at this
      exact this
end
section
/-! THE CLASS: a bell rings -/
def pdF (S : oS) (fi : Int32) (c : List Nat) (who blk : Nat) (pd : Nat → Int32) (i : Nat) : Int32 := if i < sN S ∧ who.testBit i = true then oHeld (pd i + (if blk.testBit i = (sW S).testBit i then lwF 1 c (oh_b ((sW S).testBit i)) (nI (sB S)) (nI (ob_ct who 6)) 0 else -fi)) (-99999) 99999 else pd i
theorem oh_b_inj {a b : Bool} : oh_b a = oh_b b ↔ a = b := by cases a <;> cases b <;> decide
theorem cSc_same {h h' : oh_St} {o : Nat} {S : oS} {X : List Nat} (H : cSc h o S) (hs : oSame h h' X) (h0 : o ∉ X) (h1 : o + 1 ∉ X) (h2 : o + 2 ∉ X) (h3 : o + 3 ∉ X) : cSc h' o S := by
  obtain ⟨a1, a2, a3, a4, a5, a6, a7⟩ := H
  exact ⟨(hs.1 _ _ h0).trans a1, fun p hp => ⟨(hs.1 _ _ h1).trans (a2 p hp).1, (hs.1 _ _ h2).trans (a2 p hp).2.1, (hs.1 _ _ h3).trans (a2 p hp).2.2⟩, (hs.1 _ _ h0).trans a3, by rw [hs.2]; exact a4, (hs.1 _ _ h0).trans a5, (hs.1 _ _ h0).trans a6, a7⟩
theorem oScX {o : Nat} (ho : o = 2 ∨ o = 37) : o ∉ [o + 4, 14] ∧ o + 1 ∉ [o + 4, 14] ∧ o + 2 ∉ [o + 4, 14] ∧ o + 3 ∉ [o + 4, 14] ∧ 11 ∉ [o + 4, 14] ∧ 12 ∉ [o + 4, 14] ∧ 13 ∉ [o + 4, 14] ∧ o + 4 ≠ 14 ∧ o ≠ 11 ∧ o ≠ 12 ∧ o ≠ 13 ∧ o ≠ 14 := by
  rcases ho with rfl | rfl <;> decide
theorem sX4_payAll {d : Nat} {K : oh_St → Prop} {h : oh_St} {o who blk : Nat} {S : oS} {fi : Int32} {c : List Nat} {pd : Nat → Int32} (ho : o = 2 ∨ o = 37) (hc : cSc h o S) (hf : h.1 o 6 = fi) (hp : ∀ i, i < 6 → h.1 (o + 4) i = pd i) (hl : lawIs h 11 1 c) (hw : who < 64) (hb : blk < 64)
    (q : ∀ h', oSame h h' [o + 4, 14] → (∀ i, i < 6 → h'.1 (o + 4) i = pdF S fi c who blk pd i) → K h') : CM (d + 4) jX4_payAll [.ref o, .int (nI who), .int (nI blk), .ref 11] h (oh_r0 K) := by
  have hok := hc.2.2.2.2.2.2
  have hn := hok.1
  have hW := sW_lt hok
  have hB := hok.2.2.2.2.2
  obtain ⟨x0, x1, x2, x3, y0, y1, y2, y3, -⟩ := oScX ho
  refine mX4_payAll ho (sJ6_bitCount hw ?_)
  have key : ∀ i, i ≤ sN S → ∀ h', oSame h h' [o + 4, 14] → (∀ j, j < 6 → h'.1 (o + 4) j = if j < i then pdF S fi c who blk pd j else pd j) → wX4_payAll_9 (d + 3) (oh_r0 K) o (nI who) (nI blk) (nI (ob_ct who 6)) (nI i) h' := by
    refine oh_up (fun i hi ih => ?_) ?_
    · intro h' hs hpd
      have hc' := cSc_same hc hs x0 x1 x2 x3
      have hl' := lawIs_same hl hs y0 y1 y2
      have hf' : h'.1 o 6 = fi := (hs.1 o 6 x0).trans hf
      have hpi : h'.1 (o + 4) i = pd i := by rw [hpd i (by omega), if_neg (by omega)]
      refine bX4_payAll_9 ho ?_
      rw [hc'.1]
      refine br_f (nI_ge hi (by omega)) (sX7_bit (by omega) (by omega) ?_)
      rw [show (1 : Int32) = nI 1 from rfl, nI_add]
      refine oh_bo (fun c1 => ?_) (fun c1 => ?_)
      · refine ih h' hs (fun j hj => ?_)
        rw [hpd j hj]
        by_cases hji : j = i
        · subst hji
          rw [if_neg (by omega), if_pos (by omega), pdF, if_neg (by rw [c1]; simp)]
        · by_cases hlt : j < i
          · rw [if_pos hlt, if_pos (by omega)]
          · rw [if_neg hlt, if_neg (by omega)]
      · rw [hc'.2.2.1]
        refine sX7_bit (by omega) (by omega) (sX7_bit (by omega) (by omega) ?_)
        rw [oh_cl (by omega), hpi, hf']
        have fin : ∀ (h2 : oh_St) (v : Int32), oSame h' h2 [o + 4, 14] → (∀ j, j < 6 → h2.1 (o + 4) j = h'.1 (o + 4) j) → v = pdF S fi c who blk pd i → wX4_payAll_9 (d + 3) (oh_r0 K) o (nI who) (nI blk) (nI (ob_ct who 6)) (nI (i + 1)) (oh_upi h2 (o + 4) i v) := by
          intro h2 v hs2 hp2 hv
          refine ih _ (oSame_up (oSame_tr hs hs2) (by simp)) (fun j hj => ?_)
          rw [oh_g1]
          by_cases hji : j = i
          · subst hji
            rw [if_pos ⟨rfl, rfl⟩, if_pos (by omega), hv]
          · rw [if_neg (fun z => hji z.2), hp2 j hj, hpd j hj]
            by_cases hlt : j < i
            · rw [if_pos hlt, if_pos (by omega)]
            · rw [if_neg hlt, if_neg (by omega)]
        refine oh_nc (fun c2 => ⟨oh_in (by omega) (by omega), sX7_held (by decide) ⟨oh_in (by omega) (by omega), ?_⟩⟩) (fun c2 => ?_)
        · have c2 : ¬ blk.testBit i = (sW S).testBit i := fun z => c2 (by rw [z])
          refine fin h' _ (oSame_rf _ _) (fun _ _ => rfl) ?_
          rw [pdF, if_pos ⟨hi, c1⟩, if_neg c2]
        · have c2 : blk.testBit i = (sW S).testBit i := oh_b_inj.mp c2
          rw [hc'.2.2.2.2.2.1]
          refine sX1_gives (by omega) hl' (fun h2 hs2 => ⟨oh_in (by omega) (by omega), ?_⟩)
          have e4 : ∀ j, h2.1 (o + 4) j = h'.1 (o + 4) j := fun j => hs2.1 _ _ (by simp; omega)
          rw [e4, hpi]
          refine sX7_held (by decide) ⟨oh_in (by omega) (by omega), ?_⟩
          refine fin h2 _ (oSame_mono hs2 (by simp)) (fun j _ => e4 j) ?_
          rw [pdF, if_pos ⟨hi, c1⟩, if_pos c2]
    · intro h' hs hpd
      have hc' := cSc_same hc hs x0 x1 x2 x3
      refine bX4_payAll_9 ho ?_
      rw [hc'.1]
      refine br_t (nI_le (Nat.le_refl _) (by omega)) (q h' hs (fun i hi => ?_))
      rw [hpd i hi]
      by_cases hin : i < sN S
      · rw [if_pos hin]
      · rw [if_neg hin, pdF, if_neg (fun z => hin z.1)]
  exact key 0 (Nat.zero_le _) h (oSame_rf _ _) (fun j hj => by rw [if_neg (by omega)]; exact hp j hj)
-- which worlds are left
def sFits (S : oS) (who blk y p : Nat) : Bool := (sQ S).testBit p || sGood S p (who.testBit p) (blk.testBit p) y
def sLf (S : oS) (who blk i : Nat) : Nat := ob_m (fun y => (sP S).testBit y && (List.range i).all (sFits S who blk y)) 64
theorem sLf_0 {S : oS} (h : sOk S) (who blk : Nat) : sLf S who blk 0 = sP S := by
  conv => rhs; rw [← ob_m_self (sP_lt h)]
  exact ob_m_cong (fun y _ => by simp)
theorem sLf_s (S : oS) (who blk i : Nat) : sLf S who blk (i + 1) = if (sQ S).testBit i then sLf S who blk i else sFit S i (sLf S who blk i) (who.testBit i) (blk.testBit i) := by
  cases hq : (sQ S).testBit i
  · rw [if_neg (by decide), sFit]
    apply ob_ext
    intro y
    rw [sLf, ob_m_bit, ob_m_bit, sLf, ob_m_bit]
    by_cases hy : y < 64
    · simp only [hy, decide_true, Bool.true_and, List.range_succ, List.all_append, List.all_cons, List.all_nil, Bool.and_true, sFits, hq, Bool.false_or, Bool.and_assoc]
    · simp [hy]
  · rw [if_pos rfl]
    exact ob_m_cong (fun y _ => by simp [List.range_succ, sFits, hq])
theorem sLf_sub (S : oS) (who blk i y : Nat) (h : (sLf S who blk i).testBit y = true) : (sP S).testBit y = true := by
  rw [sLf, ob_m_bit] at h
  simp only [Bool.and_eq_true] at h
  exact h.2.1
def sHear (S : oS) (who blk : Nat) : oS := (sN S, sK S, sM S, sE S, sW S, if sLf S who blk (sN S) = 0 then sP S else sLf S who blk (sN S), sQ S ||| who, sB S + 1)
theorem sLf_lt {S : oS} (h : sOk S) (who blk i : Nat) : sLf S who blk i < 2 ^ 2 ^ sN S := ob_lt (fun j hj => by
  cases hb : (sLf S who blk i).testBit j
  · rfl
  · have := sLf_sub S who blk i j hb
    rw [ob_hi h.2.2.2.1 hj] at this; cases this)
theorem sHear_ok {S : oS} (h : sOk S) {who blk : Nat} (hw : who < 2 ^ sN S) (hb : sB S + 1 < 1000) : sOk (sHear S who blk) := by
  refine ⟨h.1, h.2.1, h.2.2.1, ?_, ?_, hb⟩
  · show (if sLf S who blk (sN S) = 0 then sP S else sLf S who blk (sN S)) < 2 ^ 2 ^ sN S
    by_cases hz : sLf S who blk (sN S) = 0
    · rw [if_pos hz]; exact h.2.2.2.1
    · rw [if_neg hz]; exact sLf_lt h _ _ _
  · exact Nat.or_lt_two_pow h.2.2.2.2.1 hw
/-- what a bell leaves as it was -/
def oFr (h h' : oh_St) (o : Nat) : Prop := (∀ a b, a ≠ o → a ≠ o + 4 → a ≠ 14 → h'.1 a b = h.1 a b) ∧ (∀ b, b ≠ 9 → b ≠ 10 → h'.1 o b = h.1 o b) ∧ ∀ a b, ¬ (a = o ∧ b = 8) → h'.2 a b = h.2 a b
def sChg (S : oS) (who blk : Nat) : Bool := decide (¬ who = 0) || (decide (¬ sLf S who blk (sN S) = 0) && decide (¬ sLf S who blk (sN S) = sP S))
theorem sX4_hear {d : Nat} {K : Int32 → oh_St → Prop} {h : oh_St} {o who blk : Nat} {S : oS} {fi : Int32} {c : List Nat} {pd : Nat → Int32} (ho : o = 2 ∨ o = 37) (hc : cSc h o S) (hf : h.1 o 6 = fi) (hp : ∀ i, i < 6 → h.1 (o + 4) i = pd i) (hl : lawIs h 11 1 c) (hw : who < 2 ^ sN S) (hb : blk < 64) (hbe : sB S + 1 < 1000)
    (q : ∀ h', cSc h' o (sHear S who blk) → oFr h h' o → (∀ i, i < 6 → h'.1 (o + 4) i = pdF S fi c who blk pd i) → K (oh_b (sChg S who blk)) h') : CM (d + 6) jX4_hear [.ref o, .int (nI who), .int (nI blk), .ref 11] h (oh_r1 K) := by
  have hok := hc.2.2.2.2.2.2
  have hn := hok.1
  have h64 := sPow hok
  obtain ⟨x0, x1, x2, x3, y0, y1, y2, y3, -, -, -, y4⟩ := oScX ho
  refine mX4_hear ho ?_
  have key : ∀ i, i ≤ sN S → wX4_hear_9 (d + 5) (oh_r1 K) o (nI who) (nI blk) (lN (sLf S who blk i)) (nI i) h := by
    refine oh_up (fun i hi ih => ?_) ?_
    · refine bX4_hear_9 ho ?_
      rw [hc.1]
      refine br_f (nI_ge hi (by omega)) (sX4_hasSpoken ho hc (by omega) ?_)
      rw [sLf_s] at ih
      rw [show (1 : Int32) = nI 1 from rfl, nI_add]
      refine oh_bn (fun c1 => ?_) (fun c1 => ?_)
      · rw [if_pos c1] at ih
        exact ih
      · rw [if_neg (by rw [c1]; decide)] at ih
        refine sX7_bit (by omega) (by omega) (oh_bo (fun c2 => ?_) (fun c2 => ?_))
        · refine sX7_bit (by omega) (by omega) ?_
          have := sX4_fitting (d := d) (K := fun x h' => wX4_hear_9 (d + 5) (oh_r1 K) o (nI who) (nI blk) x (nI (i + 1)) h') (sp := false) (sd := blk.testBit i) (p := i) (A := sLf S who blk i) ho hc (by omega) (ob_m_lt _ _) (fun y hy => sLf_sub S who blk i y hy) (by rw [c2] at ih; exact ih)
          exact this
        · refine sX7_bit (by omega) (by omega) ?_
          have := sX4_fitting (d := d) (K := fun x h' => wX4_hear_9 (d + 5) (oh_r1 K) o (nI who) (nI blk) x (nI (i + 1)) h') (sp := true) (sd := blk.testBit i) (p := i) (A := sLf S who blk i) ho hc (by omega) (ob_m_lt _ _) (fun y hy => sLf_sub S who blk i y hy) (by rw [c2] at ih; exact ih)
          exact this
    · refine bX4_hear_9 ho ?_
      rw [hc.1]
      refine br_t (nI_le (Nat.le_refl _) (by omega)) (sX4_payAll ho hc hf hp hl (by omega) hb (fun h1 hs hpd => ?_))
      have hc1 := cSc_same hc hs x0 x1 x2 x3
      rw [hc1.2.2.2.1]
      have e0 : (lg_cmp (lN (sLf S who blk (sN S))) 0 = 0) ↔ sLf S who blk (sN S) = 0 := by
        rw [oh_cmp0, show (0 : Int64) = lN 0 from rfl, ob_linj (show sLf S who blk (sN S) < 2 ^ 64 from ob_m_lt _ _) (by omega)]
      have eP : (lg_cmp (lN (sLf S who blk (sN S))) (lN (sP S)) = 0) ↔ sLf S who blk (sN S) = sP S := by
        rw [oh_cmp0, ob_linj (show sLf S who blk (sN S) < 2 ^ 64 from ob_m_lt _ _) (sP_lt hok)]
      have ew : nI who = 0 ↔ who = 0 := by
        rw [show (0 : Int32) = nI 0 from rfl, nI_eq (by omega) (by omega)]
      have hok' := sHear_ok hok (blk := blk) hw hbe
      -- the two states behind it
      have fin0 : sLf S who blk (sN S) = 0 → K (oh_b (sChg S who blk)) (oh_upi (oh_upi h1 o 9 ((h1.1 o 9) ||| nI who)) o 10 (((oh_upi h1 o 9 ((h1.1 o 9) ||| nI who)).1 o 10) + 1)) := by
        intro hz
        obtain ⟨a1, a2, a3, a4, a5, a6, a7⟩ := hc1
        refine q _ ⟨?_, fun p hp => ?_, ?_, ?_, ?_, ?_, hok'⟩ ⟨fun a b n1 n2 n3 => ?_, fun b n1 n2 => ?_, fun a b _ => ?_⟩ (fun i hi => ?_)
        · rw [oh_g1, if_neg (by omega), oh_g1, if_neg (by omega)]; exact a1
        · rw [oh_g1, if_neg (by omega), oh_g1, if_neg (by omega), oh_g1, if_neg (by omega), oh_g1, if_neg (by omega), oh_g1, if_neg (by omega), oh_g1, if_neg (by omega)]; exact a2 p hp
        · rw [oh_g1, if_neg (by omega), oh_g1, if_neg (by omega)]; exact a3
        · rw [oh_g2, oh_g2, a4]
          show lN (sP S) = lN (if sLf S who blk (sN S) = 0 then sP S else sLf S who blk (sN S))
          rw [if_pos hz]
        · rw [oh_g1, if_neg (by omega), oh_g1, if_pos ⟨rfl, rfl⟩, a5, ob_or]; rfl
        · rw [oh_g1, if_pos ⟨rfl, rfl⟩, oh_g1, if_neg (by omega), a6, nI_1]; rfl
        · rw [oh_g1, if_neg (fun z => n1 z.1), oh_g1, if_neg (fun z => n1 z.1)]
          exact hs.1 a b (by simp; exact ⟨n2, n3⟩)
        · rw [oh_g1, if_neg (fun z => n2 z.2), oh_g1, if_neg (fun z => n1 z.2)]
          exact hs.1 o b x0
        · rw [oh_g2, oh_g2, hs.2]
        · rw [oh_g1, if_neg (by omega), oh_g1, if_neg (by omega)]; exact hpd i hi
      have fin1 : ¬ sLf S who blk (sN S) = 0 → K (oh_b (sChg S who blk)) (oh_upi (oh_upi (oh_upl h1 o 8 (lN (sLf S who blk (sN S)))) o 9 (((oh_upl h1 o 8 (lN (sLf S who blk (sN S)))).1 o 9) ||| nI who)) o 10 (((oh_upi (oh_upl h1 o 8 (lN (sLf S who blk (sN S)))) o 9 (((oh_upl h1 o 8 (lN (sLf S who blk (sN S)))).1 o 9) ||| nI who)).1 o 10) + 1)) := by
        intro hz
        obtain ⟨a1, a2, a3, a4, a5, a6, a7⟩ := hc1
        refine q _ ⟨?_, fun p hp => ?_, ?_, ?_, ?_, ?_, hok'⟩ ⟨fun a b n1 n2 n3 => ?_, fun b n1 n2 => ?_, fun a b n1 => ?_⟩ (fun i hi => ?_)
        · rw [oh_g1, if_neg (by omega), oh_g1, if_neg (by omega), oh_g3]; exact a1
        · rw [oh_g1, if_neg (by omega), oh_g1, if_neg (by omega), oh_g1, if_neg (by omega), oh_g1, if_neg (by omega), oh_g1, if_neg (by omega), oh_g1, if_neg (by omega), oh_g3]; exact a2 p hp
        · rw [oh_g1, if_neg (by omega), oh_g1, if_neg (by omega), oh_g3]; exact a3
        · rw [oh_g2, oh_g2, oh_g4, if_pos ⟨rfl, rfl⟩]
          show _ = lN (if sLf S who blk (sN S) = 0 then sP S else sLf S who blk (sN S))
          rw [if_neg hz]
        · rw [oh_g1, if_neg (by omega), oh_g1, if_pos ⟨rfl, rfl⟩, oh_g3, a5, ob_or]; rfl
        · rw [oh_g1, if_pos ⟨rfl, rfl⟩, oh_g1, if_neg (by omega), oh_g3, a6, nI_1]; rfl
        · rw [oh_g1, if_neg (fun z => n1 z.1), oh_g1, if_neg (fun z => n1 z.1), oh_g3]
          exact hs.1 a b (by simp; exact ⟨n2, n3⟩)
        · rw [oh_g1, if_neg (fun z => n2 z.2), oh_g1, if_neg (fun z => n1 z.2), oh_g3]
          exact hs.1 o b x0
        · rw [oh_g2, oh_g2, oh_g4, if_neg n1, hs.2]
        · rw [oh_g1, if_neg (by omega), oh_g1, if_neg (by omega), oh_g3]; exact hpd i hi
      unfold sChg at fin0 fin1
      refine oh_nc (fun w => ?_) (fun w => ?_)
      · have w := mt ew.mpr w
        simp only [w, not_false_iff, decide_true, Bool.true_or] at fin0 fin1
        exact ⟨fun z => ⟨oh_i1, fin0 (e0.mp z)⟩, fun z => ⟨oh_i1, fin1 (mt e0.mpr z)⟩⟩
      · have w := ew.mp w
        simp only [w, not_true, decide_false, Bool.false_or] at fin0 fin1
        subst w
        refine ⟨fun z => ?_, fun z => ?_⟩
        · have z0 := e0.mp z
          simp only [z0, not_true, decide_false, Bool.false_and] at fin0
          exact br_t z ⟨oh_i0, fin0 trivial⟩
        · have z0 := mt e0.mpr z
          simp only [z0, not_false_iff, decide_true, Bool.true_and] at fin1
          refine ⟨fun z2 => br_f z ⟨oh_i0, ?_⟩, fun z2 => br_f z ⟨oh_i1, ?_⟩⟩
          · have := fin1 trivial
            rw [decide_eq_false (by rw [eP.mp z2]; simp)] at this
            exact this
          · have := fin1 trivial
            rw [decide_eq_true (mt eP.mpr z2)] at this
            exact this
  have := key 0 (Nat.zero_le _)
  rw [sLf_0 hok] at this
  rw [hc.2.2.2.1]
  exact this
def sRing (S : oS) : oS := sHear S (sWho S (sW S)) (sBlk S (sW S) (sWho S (sW S)))
theorem sX4_ring {d : Nat} {K : Int32 → oh_St → Prop} {h : oh_St} {o : Nat} {S : oS} {fi : Int32} {c : List Nat} {pd : Nat → Int32} (ho : o = 2 ∨ o = 37) (hc : cSc h o S) (hf : h.1 o 6 = fi) (hp : ∀ i, i < 6 → h.1 (o + 4) i = pd i) (hl : lawIs h 11 1 c) (hbe : sB S + 1 < 1000)
    (q : ∀ h', cSc h' o (sRing S) → oFr h h' o → (∀ i, i < 6 → h'.1 (o + 4) i = pdF S fi c (sWho S (sW S)) (sBlk S (sW S) (sWho S (sW S))) pd i) → K (oh_b (sChg S (sWho S (sW S)) (sBlk S (sW S) (sWho S (sW S))))) h') : CM (d + 7) jX4_ring [.ref o, .ref 11] h (oh_r1 K) := by
  have hok := hc.2.2.2.2.2.2
  have h64 := sPow hok
  have w1 : sWho S (sW S) < 2 ^ sN S := ob_m_lt _ _
  have w2 : sBlk S (sW S) (sWho S (sW S)) < 2 ^ sN S := ob_m_lt _ _
  refine mX4_ring ho (sX4_speakers ho hc (sX4_sayings ho hc (by omega) (sX4_hear ho hc hf hp hl w1 (by omega) hbe (fun h' a b c => ⟨oh_b_01 _, q h' a b c⟩))))
end
