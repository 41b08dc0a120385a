section
-- ===== PART A: goes FIRST, ahead of the names: the tables' words, and 'selects' of the private methods out of them =====
/-- a private method of a class that the tables say can be made, by its rows of tables_1 -/
def lw_okq (q : MethodName × Nat) : Prop := (q.1.cls ≠ "java/lang/invoke/MethodHandle" ∧ q.1.cls ≠ "java/lang/invoke/VarHandle") ∧ Cond.instantiable q.1.cls q.2 ∈ tables_1 ∧ Cond.privateMethod q.1 ∈ tables_1 ∧ Cond.instanceMethod q.1 ∈ tables_1
theorem lw_p0 : lw_okq (⟨"OtherHat", "failed", "(I)I"⟩, 8) := ⟨⟨by decide +kernel, by decide +kernel⟩, List.mem_of_getElem? (i := 20) (by decide +kernel), List.mem_of_getElem? (i := 254) (by decide +kernel), List.mem_of_getElem? (i := 255) (by decide +kernel)⟩
theorem lw_p1 : lw_okq (⟨"OtherHat$Scene", "addMan", "(I)I"⟩, 11) := ⟨⟨by decide +kernel, by decide +kernel⟩, List.mem_of_getElem? (i := 34) (by decide +kernel), List.mem_of_getElem? (i := 261) (by decide +kernel), List.mem_of_getElem? (i := 262) (by decide +kernel)⟩
theorem lw_p2 : lw_okq (⟨"OtherHat", "isMan", "(I)Z"⟩, 8) := ⟨⟨by decide +kernel, by decide +kernel⟩, List.mem_of_getElem? (i := 20) (by decide +kernel), List.mem_of_getElem? (i := 272) (by decide +kernel), List.mem_of_getElem? (i := 273) (by decide +kernel)⟩
theorem lw_p3 : lw_okq (⟨"OtherHat", "isWorld", "(I)Z"⟩, 8) := ⟨⟨by decide +kernel, by decide +kernel⟩, List.mem_of_getElem? (i := 20) (by decide +kernel), List.mem_of_getElem? (i := 283) (by decide +kernel), List.mem_of_getElem? (i := 284) (by decide +kernel)⟩
theorem lw_p4 : lw_okq (⟨"OtherHat$Scene", "worldCount", "()I"⟩, 11) := ⟨⟨by decide +kernel, by decide +kernel⟩, List.mem_of_getElem? (i := 34) (by decide +kernel), List.mem_of_getElem? (i := 287) (by decide +kernel), List.mem_of_getElem? (i := 288) (by decide +kernel)⟩
theorem lw_p5 : lw_okq (⟨"OtherHat$Row", "add", "(I)V"⟩, 2) := ⟨⟨by decide +kernel, by decide +kernel⟩, List.mem_of_getElem? (i := 95) (by decide +kernel), List.mem_of_getElem? (i := 313) (by decide +kernel), List.mem_of_getElem? (i := 314) (by decide +kernel)⟩
theorem lw_p6 : lw_okq (⟨"OtherHat$Reader", "faultOf", "(LOtherHat$Row;I)I"⟩, 4) := ⟨⟨by decide +kernel, by decide +kernel⟩, List.mem_of_getElem? (i := 155) (by decide +kernel), List.mem_of_getElem? (i := 324) (by decide +kernel), List.mem_of_getElem? (i := 325) (by decide +kernel)⟩
theorem lw_p7 : lw_okq (⟨"OtherHat$Row", "take", "(LOtherHat$Row;)V"⟩, 2) := ⟨⟨by decide +kernel, by decide +kernel⟩, List.mem_of_getElem? (i := 95) (by decide +kernel), List.mem_of_getElem? (i := 328) (by decide +kernel), List.mem_of_getElem? (i := 329) (by decide +kernel)⟩
theorem lw_p8 : lw_okq (⟨"OtherHat$Row", "clear", "()V"⟩, 2) := ⟨⟨by decide +kernel, by decide +kernel⟩, List.mem_of_getElem? (i := 95) (by decide +kernel), List.mem_of_getElem? (i := 332) (by decide +kernel), List.mem_of_getElem? (i := 333) (by decide +kernel)⟩
theorem lw_p9 : lw_okq (⟨"OtherHat$Row", "get", "(I)I"⟩, 2) := ⟨⟨by decide +kernel, by decide +kernel⟩, List.mem_of_getElem? (i := 95) (by decide +kernel), List.mem_of_getElem? (i := 336) (by decide +kernel), List.mem_of_getElem? (i := 337) (by decide +kernel)⟩
theorem lw_p10 : lw_okq (⟨"OtherHat$Reader", "readLevel", "(II)Z"⟩, 4) := ⟨⟨by decide +kernel, by decide +kernel⟩, List.mem_of_getElem? (i := 155) (by decide +kernel), List.mem_of_getElem? (i := 344) (by decide +kernel), List.mem_of_getElem? (i := 345) (by decide +kernel)⟩
theorem lw_p11 : lw_okq (⟨"OtherHat$Reader", "readUnit", "(I)Z"⟩, 4) := ⟨⟨by decide +kernel, by decide +kernel⟩, List.mem_of_getElem? (i := 155) (by decide +kernel), List.mem_of_getElem? (i := 348) (by decide +kernel), List.mem_of_getElem? (i := 349) (by decide +kernel)⟩
theorem lw_p12 : lw_okq (⟨"OtherHat$Reader", "next", "()I"⟩, 4) := ⟨⟨by decide +kernel, by decide +kernel⟩, List.mem_of_getElem? (i := 155) (by decide +kernel), List.mem_of_getElem? (i := 352) (by decide +kernel), List.mem_of_getElem? (i := 353) (by decide +kernel)⟩
theorem lw_p13 : lw_okq (⟨"OtherHat$Reader", "readNumber", "()V"⟩, 4) := ⟨⟨by decide +kernel, by decide +kernel⟩, List.mem_of_getElem? (i := 155) (by decide +kernel), List.mem_of_getElem? (i := 360) (by decide +kernel), List.mem_of_getElem? (i := 361) (by decide +kernel)⟩
theorem lw_p14 : lw_okq (⟨"OtherHat$Reader", "readNot", "(I)Z"⟩, 4) := ⟨⟨by decide +kernel, by decide +kernel⟩, List.mem_of_getElem? (i := 155) (by decide +kernel), List.mem_of_getElem? (i := 365) (by decide +kernel), List.mem_of_getElem? (i := 366) (by decide +kernel)⟩
theorem lw_p15 : lw_okq (⟨"OtherHat$Reader", "readInside", "(I)Z"⟩, 4) := ⟨⟨by decide +kernel, by decide +kernel⟩, List.mem_of_getElem? (i := 155) (by decide +kernel), List.mem_of_getElem? (i := 369) (by decide +kernel), List.mem_of_getElem? (i := 370) (by decide +kernel)⟩
def lw_privs_1 : List (MethodName × Nat) := [(⟨"OtherHat", "failed", "(I)I"⟩, 8), (⟨"OtherHat$Scene", "addMan", "(I)I"⟩, 11), (⟨"OtherHat", "isMan", "(I)Z"⟩, 8), (⟨"OtherHat", "isWorld", "(I)Z"⟩, 8), (⟨"OtherHat$Scene", "worldCount", "()I"⟩, 11), (⟨"OtherHat$Row", "add", "(I)V"⟩, 2), (⟨"OtherHat$Reader", "faultOf", "(LOtherHat$Row;I)I"⟩, 4), (⟨"OtherHat$Row", "take", "(LOtherHat$Row;)V"⟩, 2), (⟨"OtherHat$Row", "clear", "()V"⟩, 2), (⟨"OtherHat$Row", "get", "(I)I"⟩, 2), (⟨"OtherHat$Reader", "readLevel", "(II)Z"⟩, 4), (⟨"OtherHat$Reader", "readUnit", "(I)Z"⟩, 4), (⟨"OtherHat$Reader", "next", "()I"⟩, 4), (⟨"OtherHat$Reader", "readNumber", "()V"⟩, 4), (⟨"OtherHat$Reader", "readNot", "(I)Z"⟩, 4), (⟨"OtherHat$Reader", "readInside", "(I)Z"⟩, 4)]
theorem lw_r1 : ∀ q ∈ lw_privs_1, lw_okq q := List.forall_mem_cons.mpr ⟨lw_p0, List.forall_mem_cons.mpr ⟨lw_p1, List.forall_mem_cons.mpr ⟨lw_p2, List.forall_mem_cons.mpr ⟨lw_p3, List.forall_mem_cons.mpr ⟨lw_p4, List.forall_mem_cons.mpr ⟨lw_p5, List.forall_mem_cons.mpr ⟨lw_p6, List.forall_mem_cons.mpr ⟨lw_p7, List.forall_mem_cons.mpr ⟨lw_p8, List.forall_mem_cons.mpr ⟨lw_p9, List.forall_mem_cons.mpr ⟨lw_p10, List.forall_mem_cons.mpr ⟨lw_p11, List.forall_mem_cons.mpr ⟨lw_p12, List.forall_mem_cons.mpr ⟨lw_p13, List.forall_mem_cons.mpr ⟨lw_p14, List.forall_mem_cons.mpr ⟨lw_p15, fun _ h => absurd h List.not_mem_nil⟩⟩⟩⟩⟩⟩⟩⟩⟩⟩⟩⟩⟩⟩⟩⟩
theorem lw_p16 : lw_okq (⟨"OtherHat", "lawOf", "(I)LOtherHat$Law;"⟩, 8) := ⟨⟨by decide +kernel, by decide +kernel⟩, List.mem_of_getElem? (i := 20) (by decide +kernel), List.mem_of_getElem? (i := 459) (by decide +kernel), List.mem_of_getElem? (i := 460) (by decide +kernel)⟩
theorem lw_p17 : lw_okq (⟨"OtherHat$Law", "gives", "(IIII)I"⟩, 3) := ⟨⟨by decide +kernel, by decide +kernel⟩, List.mem_of_getElem? (i := 89) (by decide +kernel), List.mem_of_getElem? (i := 468) (by decide +kernel), List.mem_of_getElem? (i := 469) (by decide +kernel)⟩
theorem lw_p18 : lw_okq (⟨"OtherHat$Law", "workedOut", "(IIII)I"⟩, 3) := ⟨⟨by decide +kernel, by decide +kernel⟩, List.mem_of_getElem? (i := 89) (by decide +kernel), List.mem_of_getElem? (i := 472) (by decide +kernel), List.mem_of_getElem? (i := 473) (by decide +kernel)⟩
theorem lw_p19 : lw_okq (⟨"OtherHat$Scene", "givenBy", "(LOtherHat$Law;)J"⟩, 11) := ⟨⟨by decide +kernel, by decide +kernel⟩, List.mem_of_getElem? (i := 34) (by decide +kernel), List.mem_of_getElem? (i := 492) (by decide +kernel), List.mem_of_getElem? (i := 493) (by decide +kernel)⟩
theorem lw_p20 : lw_okq (⟨"OtherHat", "whyNoBells", "(I)I"⟩, 8) := ⟨⟨by decide +kernel, by decide +kernel⟩, List.mem_of_getElem? (i := 20) (by decide +kernel), List.mem_of_getElem? (i := 523) (by decide +kernel), List.mem_of_getElem? (i := 524) (by decide +kernel)⟩
theorem lw_p21 : lw_okq (⟨"OtherHat$Scene", "ring", "(LOtherHat$Law;)Z"⟩, 11) := ⟨⟨by decide +kernel, by decide +kernel⟩, List.mem_of_getElem? (i := 34) (by decide +kernel), List.mem_of_getElem? (i := 527) (by decide +kernel), List.mem_of_getElem? (i := 528) (by decide +kernel)⟩
theorem lw_p22 : lw_okq (⟨"OtherHat$Scene", "speakers", "()I"⟩, 11) := ⟨⟨by decide +kernel, by decide +kernel⟩, List.mem_of_getElem? (i := 34) (by decide +kernel), List.mem_of_getElem? (i := 531) (by decide +kernel), List.mem_of_getElem? (i := 532) (by decide +kernel)⟩
theorem lw_p23 : lw_okq (⟨"OtherHat$Scene", "thought", "(II)J"⟩, 11) := ⟨⟨by decide +kernel, by decide +kernel⟩, List.mem_of_getElem? (i := 34) (by decide +kernel), List.mem_of_getElem? (i := 535) (by decide +kernel), List.mem_of_getElem? (i := 536) (by decide +kernel)⟩
theorem lw_p24 : lw_okq (⟨"OtherHat$Scene", "speaks", "(IJ)Z"⟩, 11) := ⟨⟨by decide +kernel, by decide +kernel⟩, List.mem_of_getElem? (i := 34) (by decide +kernel), List.mem_of_getElem? (i := 545) (by decide +kernel), List.mem_of_getElem? (i := 546) (by decide +kernel)⟩
theorem lw_p25 : lw_okq (⟨"OtherHat$Scene", "hasSpoken", "(I)Z"⟩, 11) := ⟨⟨by decide +kernel, by decide +kernel⟩, List.mem_of_getElem? (i := 34) (by decide +kernel), List.mem_of_getElem? (i := 549) (by decide +kernel), List.mem_of_getElem? (i := 550) (by decide +kernel)⟩
theorem lw_p26 : lw_okq (⟨"OtherHat$Scene", "isSure", "(IJ)Z"⟩, 11) := ⟨⟨by decide +kernel, by decide +kernel⟩, List.mem_of_getElem? (i := 34) (by decide +kernel), List.mem_of_getElem? (i := 553) (by decide +kernel), List.mem_of_getElem? (i := 554) (by decide +kernel)⟩
theorem lw_p27 : lw_okq (⟨"OtherHat$Scene", "sayings", "(I)I"⟩, 11) := ⟨⟨by decide +kernel, by decide +kernel⟩, List.mem_of_getElem? (i := 34) (by decide +kernel), List.mem_of_getElem? (i := 566) (by decide +kernel), List.mem_of_getElem? (i := 567) (by decide +kernel)⟩
theorem lw_p28 : lw_okq (⟨"OtherHat$Scene", "hear", "(IILOtherHat$Law;)Z"⟩, 11) := ⟨⟨by decide +kernel, by decide +kernel⟩, List.mem_of_getElem? (i := 34) (by decide +kernel), List.mem_of_getElem? (i := 575) (by decide +kernel), List.mem_of_getElem? (i := 576) (by decide +kernel)⟩
theorem lw_p29 : lw_okq (⟨"OtherHat$Scene", "fitting", "(IJZI)J"⟩, 11) := ⟨⟨by decide +kernel, by decide +kernel⟩, List.mem_of_getElem? (i := 34) (by decide +kernel), List.mem_of_getElem? (i := 579) (by decide +kernel), List.mem_of_getElem? (i := 580) (by decide +kernel)⟩
theorem lw_p30 : lw_okq (⟨"OtherHat$Scene", "payAll", "(IILOtherHat$Law;)V"⟩, 11) := ⟨⟨by decide +kernel, by decide +kernel⟩, List.mem_of_getElem? (i := 34) (by decide +kernel), List.mem_of_getElem? (i := 585) (by decide +kernel), List.mem_of_getElem? (i := 586) (by decide +kernel)⟩
theorem lw_p31 : lw_okq (⟨"OtherHat$Book", "ringLoosely", "()V"⟩, 6) := ⟨⟨by decide +kernel, by decide +kernel⟩, List.mem_of_getElem? (i := 28) (by decide +kernel), List.mem_of_getElem? (i := 596) (by decide +kernel), List.mem_of_getElem? (i := 597) (by decide +kernel)⟩
def lw_privs_2 : List (MethodName × Nat) := [(⟨"OtherHat", "lawOf", "(I)LOtherHat$Law;"⟩, 8), (⟨"OtherHat$Law", "gives", "(IIII)I"⟩, 3), (⟨"OtherHat$Law", "workedOut", "(IIII)I"⟩, 3), (⟨"OtherHat$Scene", "givenBy", "(LOtherHat$Law;)J"⟩, 11), (⟨"OtherHat", "whyNoBells", "(I)I"⟩, 8), (⟨"OtherHat$Scene", "ring", "(LOtherHat$Law;)Z"⟩, 11), (⟨"OtherHat$Scene", "speakers", "()I"⟩, 11), (⟨"OtherHat$Scene", "thought", "(II)J"⟩, 11), (⟨"OtherHat$Scene", "speaks", "(IJ)Z"⟩, 11), (⟨"OtherHat$Scene", "hasSpoken", "(I)Z"⟩, 11), (⟨"OtherHat$Scene", "isSure", "(IJ)Z"⟩, 11), (⟨"OtherHat$Scene", "sayings", "(I)I"⟩, 11), (⟨"OtherHat$Scene", "hear", "(IILOtherHat$Law;)Z"⟩, 11), (⟨"OtherHat$Scene", "fitting", "(IJZI)J"⟩, 11), (⟨"OtherHat$Scene", "payAll", "(IILOtherHat$Law;)V"⟩, 11), (⟨"OtherHat$Book", "ringLoosely", "()V"⟩, 6)]
theorem lw_r2 : ∀ q ∈ lw_privs_2, lw_okq q := List.forall_mem_cons.mpr ⟨lw_p16, List.forall_mem_cons.mpr ⟨lw_p17, List.forall_mem_cons.mpr ⟨lw_p18, List.forall_mem_cons.mpr ⟨lw_p19, List.forall_mem_cons.mpr ⟨lw_p20, List.forall_mem_cons.mpr ⟨lw_p21, List.forall_mem_cons.mpr ⟨lw_p22, List.forall_mem_cons.mpr ⟨lw_p23, List.forall_mem_cons.mpr ⟨lw_p24, List.forall_mem_cons.mpr ⟨lw_p25, List.forall_mem_cons.mpr ⟨lw_p26, List.forall_mem_cons.mpr ⟨lw_p27, List.forall_mem_cons.mpr ⟨lw_p28, List.forall_mem_cons.mpr ⟨lw_p29, List.forall_mem_cons.mpr ⟨lw_p30, List.forall_mem_cons.mpr ⟨lw_p31, fun _ h => absurd h List.not_mem_nil⟩⟩⟩⟩⟩⟩⟩⟩⟩⟩⟩⟩⟩⟩⟩⟩
theorem lw_p32 : lw_okq (⟨"OtherHat$Book", "drawn", "()I"⟩, 6) := ⟨⟨by decide +kernel, by decide +kernel⟩, List.mem_of_getElem? (i := 28) (by decide +kernel), List.mem_of_getElem? (i := 603) (by decide +kernel), List.mem_of_getElem? (i := 604) (by decide +kernel)⟩
theorem lw_p33 : lw_okq (⟨"OtherHat", "startAhead", "()V"⟩, 8) := ⟨⟨by decide +kernel, by decide +kernel⟩, List.mem_of_getElem? (i := 20) (by decide +kernel), List.mem_of_getElem? (i := 628) (by decide +kernel), List.mem_of_getElem? (i := 629) (by decide +kernel)⟩
theorem lw_p34 : lw_okq (⟨"OtherHat$Scene", "take", "(LOtherHat$Scene;)V"⟩, 11) := ⟨⟨by decide +kernel, by decide +kernel⟩, List.mem_of_getElem? (i := 34) (by decide +kernel), List.mem_of_getElem? (i := 632) (by decide +kernel), List.mem_of_getElem? (i := 633) (by decide +kernel)⟩
theorem lw_p35 : lw_okq (⟨"OtherHat", "ringAhead", "(I)I"⟩, 8) := ⟨⟨by decide +kernel, by decide +kernel⟩, List.mem_of_getElem? (i := 20) (by decide +kernel), List.mem_of_getElem? (i := 636) (by decide +kernel), List.mem_of_getElem? (i := 637) (by decide +kernel)⟩
theorem lw_p36 : lw_okq (⟨"OtherHat$Scene", "isPastAllNumbers", "()Z"⟩, 11) := ⟨⟨by decide +kernel, by decide +kernel⟩, List.mem_of_getElem? (i := 34) (by decide +kernel), List.mem_of_getElem? (i := 640) (by decide +kernel), List.mem_of_getElem? (i := 641) (by decide +kernel)⟩
theorem lw_p37 : lw_okq (⟨"OtherHat", "bellsTillSpoken", "(I)I"⟩, 8) := ⟨⟨by decide +kernel, by decide +kernel⟩, List.mem_of_getElem? (i := 20) (by decide +kernel), List.mem_of_getElem? (i := 652) (by decide +kernel), List.mem_of_getElem? (i := 653) (by decide +kernel)⟩
theorem lw_p38 : lw_okq (⟨"OtherHat", "ranAlike", "()J"⟩, 8) := ⟨⟨by decide +kernel, by decide +kernel⟩, List.mem_of_getElem? (i := 20) (by decide +kernel), List.mem_of_getElem? (i := 665) (by decide +kernel), List.mem_of_getElem? (i := 666) (by decide +kernel)⟩
theorem lw_p39 : lw_okq (⟨"OtherHat", "knowBySignal", "(I)I"⟩, 8) := ⟨⟨by decide +kernel, by decide +kernel⟩, List.mem_of_getElem? (i := 20) (by decide +kernel), List.mem_of_getElem? (i := 677) (by decide +kernel), List.mem_of_getElem? (i := 678) (by decide +kernel)⟩
theorem lw_p40 : lw_okq (⟨"OtherHat$Voices", "heard", "(LOtherHat$Scene;III)I"⟩, 4) := ⟨⟨by decide +kernel, by decide +kernel⟩, List.mem_of_getElem? (i := 179) (by decide +kernel), List.mem_of_getElem? (i := 704) (by decide +kernel), List.mem_of_getElem? (i := 705) (by decide +kernel)⟩
theorem lw_p41 : lw_okq (⟨"OtherHat$Voices", "own", "(III)I"⟩, 4) := ⟨⟨by decide +kernel, by decide +kernel⟩, List.mem_of_getElem? (i := 179) (by decide +kernel), List.mem_of_getElem? (i := 709) (by decide +kernel), List.mem_of_getElem? (i := 710) (by decide +kernel)⟩
theorem lw_p42 : lw_okq (⟨"OtherHat$Voices", "from", "(IIII)I"⟩, 4) := ⟨⟨by decide +kernel, by decide +kernel⟩, List.mem_of_getElem? (i := 179) (by decide +kernel), List.mem_of_getElem? (i := 713) (by decide +kernel), List.mem_of_getElem? (i := 714) (by decide +kernel)⟩
theorem lw_p43 : lw_okq (⟨"OtherHat$Voices", "workedOut", "(III)I"⟩, 4) := ⟨⟨by decide +kernel, by decide +kernel⟩, List.mem_of_getElem? (i := 179) (by decide +kernel), List.mem_of_getElem? (i := 720) (by decide +kernel), List.mem_of_getElem? (i := 721) (by decide +kernel)⟩
theorem lw_p44 : lw_okq (⟨"OtherHat$Sheet", "renew", "(II)V"⟩, 3) := ⟨⟨by decide +kernel, by decide +kernel⟩, List.mem_of_getElem? (i := 202) (by decide +kernel), List.mem_of_getElem? (i := 737) (by decide +kernel), List.mem_of_getElem? (i := 738) (by decide +kernel)⟩
theorem lw_p45 : lw_okq (⟨"OtherHat$Sheet", "write", "(II)V"⟩, 3) := ⟨⟨by decide +kernel, by decide +kernel⟩, List.mem_of_getElem? (i := 202) (by decide +kernel), List.mem_of_getElem? (i := 746) (by decide +kernel), List.mem_of_getElem? (i := 747) (by decide +kernel)⟩
theorem lw_p46 : lw_okq (⟨"OtherHat$Sheet", "hasRun", "(II)Z"⟩, 3) := ⟨⟨by decide +kernel, by decide +kernel⟩, List.mem_of_getElem? (i := 202) (by decide +kernel), List.mem_of_getElem? (i := 754) (by decide +kernel), List.mem_of_getElem? (i := 755) (by decide +kernel)⟩
theorem lw_p47 : lw_okq (⟨"OtherHat$Sheet", "asWorlds", "()J"⟩, 3) := ⟨⟨by decide +kernel, by decide +kernel⟩, List.mem_of_getElem? (i := 202) (by decide +kernel), List.mem_of_getElem? (i := 765) (by decide +kernel), List.mem_of_getElem? (i := 766) (by decide +kernel)⟩
def lw_privs_3 : List (MethodName × Nat) := [(⟨"OtherHat$Book", "drawn", "()I"⟩, 6), (⟨"OtherHat", "startAhead", "()V"⟩, 8), (⟨"OtherHat$Scene", "take", "(LOtherHat$Scene;)V"⟩, 11), (⟨"OtherHat", "ringAhead", "(I)I"⟩, 8), (⟨"OtherHat$Scene", "isPastAllNumbers", "()Z"⟩, 11), (⟨"OtherHat", "bellsTillSpoken", "(I)I"⟩, 8), (⟨"OtherHat", "ranAlike", "()J"⟩, 8), (⟨"OtherHat", "knowBySignal", "(I)I"⟩, 8), (⟨"OtherHat$Voices", "heard", "(LOtherHat$Scene;III)I"⟩, 4), (⟨"OtherHat$Voices", "own", "(III)I"⟩, 4), (⟨"OtherHat$Voices", "from", "(IIII)I"⟩, 4), (⟨"OtherHat$Voices", "workedOut", "(III)I"⟩, 4), (⟨"OtherHat$Sheet", "renew", "(II)V"⟩, 3), (⟨"OtherHat$Sheet", "write", "(II)V"⟩, 3), (⟨"OtherHat$Sheet", "hasRun", "(II)Z"⟩, 3), (⟨"OtherHat$Sheet", "asWorlds", "()J"⟩, 3)]
theorem lw_r3 : ∀ q ∈ lw_privs_3, lw_okq q := List.forall_mem_cons.mpr ⟨lw_p32, List.forall_mem_cons.mpr ⟨lw_p33, List.forall_mem_cons.mpr ⟨lw_p34, List.forall_mem_cons.mpr ⟨lw_p35, List.forall_mem_cons.mpr ⟨lw_p36, List.forall_mem_cons.mpr ⟨lw_p37, List.forall_mem_cons.mpr ⟨lw_p38, List.forall_mem_cons.mpr ⟨lw_p39, List.forall_mem_cons.mpr ⟨lw_p40, List.forall_mem_cons.mpr ⟨lw_p41, List.forall_mem_cons.mpr ⟨lw_p42, List.forall_mem_cons.mpr ⟨lw_p43, List.forall_mem_cons.mpr ⟨lw_p44, List.forall_mem_cons.mpr ⟨lw_p45, List.forall_mem_cons.mpr ⟨lw_p46, List.forall_mem_cons.mpr ⟨lw_p47, fun _ h => absurd h List.not_mem_nil⟩⟩⟩⟩⟩⟩⟩⟩⟩⟩⟩⟩⟩⟩⟩⟩
theorem lw_p48 : lw_okq (⟨"OtherHat$Book", "take", "(LOtherHat$Book;)V"⟩, 6) := ⟨⟨by decide +kernel, by decide +kernel⟩, List.mem_of_getElem? (i := 28) (by decide +kernel), List.mem_of_getElem? (i := 773) (by decide +kernel), List.mem_of_getElem? (i := 774) (by decide +kernel)⟩
theorem lw_p49 : lw_okq (⟨"OtherHatModel", "finds", "(I)I"⟩, 26) := ⟨⟨by decide +kernel, by decide +kernel⟩, List.mem_of_getElem? (i := 799) (by decide +kernel), List.mem_of_getElem? (i := 892) (by decide +kernel), List.mem_of_getElem? (i := 893) (by decide +kernel)⟩
theorem lw_p50 : lw_okq (⟨"OtherHatModel", "worked", "(III)I"⟩, 26) := ⟨⟨by decide +kernel, by decide +kernel⟩, List.mem_of_getElem? (i := 799) (by decide +kernel), List.mem_of_getElem? (i := 902) (by decide +kernel), List.mem_of_getElem? (i := 903) (by decide +kernel)⟩
theorem lw_p51 : lw_okq (⟨"OtherHatModel", "either", "()I"⟩, 26) := ⟨⟨by decide +kernel, by decide +kernel⟩, List.mem_of_getElem? (i := 799) (by decide +kernel), List.mem_of_getElem? (i := 906) (by decide +kernel), List.mem_of_getElem? (i := 907) (by decide +kernel)⟩
theorem lw_p52 : lw_okq (⟨"OtherHatModel", "both", "()I"⟩, 26) := ⟨⟨by decide +kernel, by decide +kernel⟩, List.mem_of_getElem? (i := 799) (by decide +kernel), List.mem_of_getElem? (i := 910) (by decide +kernel), List.mem_of_getElem? (i := 911) (by decide +kernel)⟩
theorem lw_p53 : lw_okq (⟨"OtherHatModel", "compared", "()I"⟩, 26) := ⟨⟨by decide +kernel, by decide +kernel⟩, List.mem_of_getElem? (i := 799) (by decide +kernel), List.mem_of_getElem? (i := 914) (by decide +kernel), List.mem_of_getElem? (i := 915) (by decide +kernel)⟩
theorem lw_p54 : lw_okq (⟨"OtherHatModel", "sum", "()I"⟩, 26) := ⟨⟨by decide +kernel, by decide +kernel⟩, List.mem_of_getElem? (i := 799) (by decide +kernel), List.mem_of_getElem? (i := 918) (by decide +kernel), List.mem_of_getElem? (i := 919) (by decide +kernel)⟩
theorem lw_p55 : lw_okq (⟨"OtherHatModel", "product", "()I"⟩, 26) := ⟨⟨by decide +kernel, by decide +kernel⟩, List.mem_of_getElem? (i := 799) (by decide +kernel), List.mem_of_getElem? (i := 922) (by decide +kernel), List.mem_of_getElem? (i := 923) (by decide +kernel)⟩
theorem lw_p56 : lw_okq (⟨"OtherHatModel", "unit", "()I"⟩, 26) := ⟨⟨by decide +kernel, by decide +kernel⟩, List.mem_of_getElem? (i := 799) (by decide +kernel), List.mem_of_getElem? (i := 926) (by decide +kernel), List.mem_of_getElem? (i := 927) (by decide +kernel)⟩
theorem lw_p57 : lw_okq (⟨"OtherHatModel", "here", "()I"⟩, 26) := ⟨⟨by decide +kernel, by decide +kernel⟩, List.mem_of_getElem? (i := 799) (by decide +kernel), List.mem_of_getElem? (i := 930) (by decide +kernel), List.mem_of_getElem? (i := 931) (by decide +kernel)⟩
theorem lw_p58 : lw_okq (⟨"OtherHatModel", "wrong", "()I"⟩, 26) := ⟨⟨by decide +kernel, by decide +kernel⟩, List.mem_of_getElem? (i := 799) (by decide +kernel), List.mem_of_getElem? (i := 934) (by decide +kernel), List.mem_of_getElem? (i := 935) (by decide +kernel)⟩
theorem lw_p59 : lw_okq (⟨"OtherHatModel", "takes", "(I)Z"⟩, 26) := ⟨⟨by decide +kernel, by decide +kernel⟩, List.mem_of_getElem? (i := 799) (by decide +kernel), List.mem_of_getElem? (i := 938) (by decide +kernel), List.mem_of_getElem? (i := 939) (by decide +kernel)⟩
theorem lw_p60 : lw_okq (⟨"OtherHatModel", "nameOf", "(I)I"⟩, 26) := ⟨⟨by decide +kernel, by decide +kernel⟩, List.mem_of_getElem? (i := 799) (by decide +kernel), List.mem_of_getElem? (i := 942) (by decide +kernel), List.mem_of_getElem? (i := 943) (by decide +kernel)⟩
theorem lw_p61 : lw_okq (⟨"OtherHatModel", "gives", "(IIIII)I"⟩, 26) := ⟨⟨by decide +kernel, by decide +kernel⟩, List.mem_of_getElem? (i := 799) (by decide +kernel), List.mem_of_getElem? (i := 952) (by decide +kernel), List.mem_of_getElem? (i := 953) (by decide +kernel)⟩
theorem lw_p62 : lw_okq (⟨"OtherHatModel", "isOpen", "()Z"⟩, 26) := ⟨⟨by decide +kernel, by decide +kernel⟩, List.mem_of_getElem? (i := 799) (by decide +kernel), List.mem_of_getElem? (i := 964) (by decide +kernel), List.mem_of_getElem? (i := 965) (by decide +kernel)⟩
theorem lw_p63 : lw_okq (⟨"OtherHatModel", "of", "(II)I"⟩, 26) := ⟨⟨by decide +kernel, by decide +kernel⟩, List.mem_of_getElem? (i := 799) (by decide +kernel), List.mem_of_getElem? (i := 968) (by decide +kernel), List.mem_of_getElem? (i := 969) (by decide +kernel)⟩
def lw_privs_4 : List (MethodName × Nat) := [(⟨"OtherHat$Book", "take", "(LOtherHat$Book;)V"⟩, 6), (⟨"OtherHatModel", "finds", "(I)I"⟩, 26), (⟨"OtherHatModel", "worked", "(III)I"⟩, 26), (⟨"OtherHatModel", "either", "()I"⟩, 26), (⟨"OtherHatModel", "both", "()I"⟩, 26), (⟨"OtherHatModel", "compared", "()I"⟩, 26), (⟨"OtherHatModel", "sum", "()I"⟩, 26), (⟨"OtherHatModel", "product", "()I"⟩, 26), (⟨"OtherHatModel", "unit", "()I"⟩, 26), (⟨"OtherHatModel", "here", "()I"⟩, 26), (⟨"OtherHatModel", "wrong", "()I"⟩, 26), (⟨"OtherHatModel", "takes", "(I)Z"⟩, 26), (⟨"OtherHatModel", "nameOf", "(I)I"⟩, 26), (⟨"OtherHatModel", "gives", "(IIIII)I"⟩, 26), (⟨"OtherHatModel", "isOpen", "()Z"⟩, 26), (⟨"OtherHatModel", "of", "(II)I"⟩, 26)]
theorem lw_r4 : ∀ q ∈ lw_privs_4, lw_okq q := List.forall_mem_cons.mpr ⟨lw_p48, List.forall_mem_cons.mpr ⟨lw_p49, List.forall_mem_cons.mpr ⟨lw_p50, List.forall_mem_cons.mpr ⟨lw_p51, List.forall_mem_cons.mpr ⟨lw_p52, List.forall_mem_cons.mpr ⟨lw_p53, List.forall_mem_cons.mpr ⟨lw_p54, List.forall_mem_cons.mpr ⟨lw_p55, List.forall_mem_cons.mpr ⟨lw_p56, List.forall_mem_cons.mpr ⟨lw_p57, List.forall_mem_cons.mpr ⟨lw_p58, List.forall_mem_cons.mpr ⟨lw_p59, List.forall_mem_cons.mpr ⟨lw_p60, List.forall_mem_cons.mpr ⟨lw_p61, List.forall_mem_cons.mpr ⟨lw_p62, List.forall_mem_cons.mpr ⟨lw_p63, fun _ h => absurd h List.not_mem_nil⟩⟩⟩⟩⟩⟩⟩⟩⟩⟩⟩⟩⟩⟩⟩⟩
theorem lw_p64 : lw_okq (⟨"OtherHatModel", "becomes", "(III)V"⟩, 26) := ⟨⟨by decide +kernel, by decide +kernel⟩, List.mem_of_getElem? (i := 799) (by decide +kernel), List.mem_of_getElem? (i := 972) (by decide +kernel), List.mem_of_getElem? (i := 973) (by decide +kernel)⟩
theorem lw_p65 : lw_okq (⟨"OtherHatModel", "isMan", "(I)Z"⟩, 26) := ⟨⟨by decide +kernel, by decide +kernel⟩, List.mem_of_getElem? (i := 799) (by decide +kernel), List.mem_of_getElem? (i := 980) (by decide +kernel), List.mem_of_getElem? (i := 981) (by decide +kernel)⟩
theorem lw_p66 : lw_okq (⟨"OtherHatModel", "allMen", "()I"⟩, 26) := ⟨⟨by decide +kernel, by decide +kernel⟩, List.mem_of_getElem? (i := 799) (by decide +kernel), List.mem_of_getElem? (i := 991) (by decide +kernel), List.mem_of_getElem? (i := 992) (by decide +kernel)⟩
theorem lw_p67 : lw_okq (⟨"OtherHatModel", "hats", "()I"⟩, 26) := ⟨⟨by decide +kernel, by decide +kernel⟩, List.mem_of_getElem? (i := 799) (by decide +kernel), List.mem_of_getElem? (i := 1019) (by decide +kernel), List.mem_of_getElem? (i := 1020) (by decide +kernel)⟩
theorem lw_p68 : lw_okq (⟨"OtherHatModel", "rung", "(IZ)I"⟩, 26) := ⟨⟨by decide +kernel, by decide +kernel⟩, List.mem_of_getElem? (i := 799) (by decide +kernel), List.mem_of_getElem? (i := 1034) (by decide +kernel), List.mem_of_getElem? (i := 1035) (by decide +kernel)⟩
theorem lw_p69 : lw_okq (⟨"OtherHatModel", "goesOn", "(IZ)V"⟩, 26) := ⟨⟨by decide +kernel, by decide +kernel⟩, List.mem_of_getElem? (i := 799) (by decide +kernel), List.mem_of_getElem? (i := 1039) (by decide +kernel), List.mem_of_getElem? (i := 1040) (by decide +kernel)⟩
theorem lw_p70 : lw_okq (⟨"OtherHatModel", "rings", "(Z)V"⟩, 26) := ⟨⟨by decide +kernel, by decide +kernel⟩, List.mem_of_getElem? (i := 799) (by decide +kernel), List.mem_of_getElem? (i := 1043) (by decide +kernel), List.mem_of_getElem? (i := 1044) (by decide +kernel)⟩
theorem lw_p71 : lw_okq (⟨"OtherHatModel", "think", "()V"⟩, 26) := ⟨⟨by decide +kernel, by decide +kernel⟩, List.mem_of_getElem? (i := 799) (by decide +kernel), List.mem_of_getElem? (i := 1047) (by decide +kernel), List.mem_of_getElem? (i := 1048) (by decide +kernel)⟩
theorem lw_p72 : lw_okq (⟨"OtherHatModel", "isPossible", "(I)Z"⟩, 26) := ⟨⟨by decide +kernel, by decide +kernel⟩, List.mem_of_getElem? (i := 799) (by decide +kernel), List.mem_of_getElem? (i := 1051) (by decide +kernel), List.mem_of_getElem? (i := 1052) (by decide +kernel)⟩
theorem lw_p73 : lw_okq (⟨"OtherHatModel", "speakers", "(I)I"⟩, 26) := ⟨⟨by decide +kernel, by decide +kernel⟩, List.mem_of_getElem? (i := 799) (by decide +kernel), List.mem_of_getElem? (i := 1055) (by decide +kernel), List.mem_of_getElem? (i := 1056) (by decide +kernel)⟩
theorem lw_p74 : lw_okq (⟨"OtherHatModel", "speaks", "(II)Z"⟩, 26) := ⟨⟨by decide +kernel, by decide +kernel⟩, List.mem_of_getElem? (i := 799) (by decide +kernel), List.mem_of_getElem? (i := 1059) (by decide +kernel), List.mem_of_getElem? (i := 1060) (by decide +kernel)⟩
theorem lw_p75 : lw_okq (⟨"OtherHatModel", "isHasty", "(II)Z"⟩, 26) := ⟨⟨by decide +kernel, by decide +kernel⟩, List.mem_of_getElem? (i := 799) (by decide +kernel), List.mem_of_getElem? (i := 1063) (by decide +kernel), List.mem_of_getElem? (i := 1064) (by decide +kernel)⟩
theorem lw_p76 : lw_okq (⟨"OtherHatModel", "knows", "(II)Z"⟩, 26) := ⟨⟨by decide +kernel, by decide +kernel⟩, List.mem_of_getElem? (i := 799) (by decide +kernel), List.mem_of_getElem? (i := 1067) (by decide +kernel), List.mem_of_getElem? (i := 1068) (by decide +kernel)⟩
theorem lw_p77 : lw_okq (⟨"OtherHatModel", "blackOf", "(II)I"⟩, 26) := ⟨⟨by decide +kernel, by decide +kernel⟩, List.mem_of_getElem? (i := 799) (by decide +kernel), List.mem_of_getElem? (i := 1071) (by decide +kernel), List.mem_of_getElem? (i := 1072) (by decide +kernel)⟩
theorem lw_p78 : lw_okq (⟨"OtherHatModel", "whiteOf", "(II)I"⟩, 26) := ⟨⟨by decide +kernel, by decide +kernel⟩, List.mem_of_getElem? (i := 799) (by decide +kernel), List.mem_of_getElem? (i := 1075) (by decide +kernel), List.mem_of_getElem? (i := 1076) (by decide +kernel)⟩
theorem lw_p79 : lw_okq (⟨"OtherHatModel", "sayings", "(II)I"⟩, 26) := ⟨⟨by decide +kernel, by decide +kernel⟩, List.mem_of_getElem? (i := 799) (by decide +kernel), List.mem_of_getElem? (i := 1079) (by decide +kernel), List.mem_of_getElem? (i := 1080) (by decide +kernel)⟩
def lw_privs_5 : List (MethodName × Nat) := [(⟨"OtherHatModel", "becomes", "(III)V"⟩, 26), (⟨"OtherHatModel", "isMan", "(I)Z"⟩, 26), (⟨"OtherHatModel", "allMen", "()I"⟩, 26), (⟨"OtherHatModel", "hats", "()I"⟩, 26), (⟨"OtherHatModel", "rung", "(IZ)I"⟩, 26), (⟨"OtherHatModel", "goesOn", "(IZ)V"⟩, 26), (⟨"OtherHatModel", "rings", "(Z)V"⟩, 26), (⟨"OtherHatModel", "think", "()V"⟩, 26), (⟨"OtherHatModel", "isPossible", "(I)Z"⟩, 26), (⟨"OtherHatModel", "speakers", "(I)I"⟩, 26), (⟨"OtherHatModel", "speaks", "(II)Z"⟩, 26), (⟨"OtherHatModel", "isHasty", "(II)Z"⟩, 26), (⟨"OtherHatModel", "knows", "(II)Z"⟩, 26), (⟨"OtherHatModel", "blackOf", "(II)I"⟩, 26), (⟨"OtherHatModel", "whiteOf", "(II)I"⟩, 26), (⟨"OtherHatModel", "sayings", "(II)I"⟩, 26)]
theorem lw_r5 : ∀ q ∈ lw_privs_5, lw_okq q := List.forall_mem_cons.mpr ⟨lw_p64, List.forall_mem_cons.mpr ⟨lw_p65, List.forall_mem_cons.mpr ⟨lw_p66, List.forall_mem_cons.mpr ⟨lw_p67, List.forall_mem_cons.mpr ⟨lw_p68, List.forall_mem_cons.mpr ⟨lw_p69, List.forall_mem_cons.mpr ⟨lw_p70, List.forall_mem_cons.mpr ⟨lw_p71, List.forall_mem_cons.mpr ⟨lw_p72, List.forall_mem_cons.mpr ⟨lw_p73, List.forall_mem_cons.mpr ⟨lw_p74, List.forall_mem_cons.mpr ⟨lw_p75, List.forall_mem_cons.mpr ⟨lw_p76, List.forall_mem_cons.mpr ⟨lw_p77, List.forall_mem_cons.mpr ⟨lw_p78, List.forall_mem_cons.mpr ⟨lw_p79, fun _ h => absurd h List.not_mem_nil⟩⟩⟩⟩⟩⟩⟩⟩⟩⟩⟩⟩⟩⟩⟩⟩
theorem lw_p80 : lw_okq (⟨"OtherHatModel", "wouldSay", "(II)I"⟩, 26) := ⟨⟨by decide +kernel, by decide +kernel⟩, List.mem_of_getElem? (i := 799) (by decide +kernel), List.mem_of_getElem? (i := 1083) (by decide +kernel), List.mem_of_getElem? (i := 1084) (by decide +kernel)⟩
theorem lw_p81 : lw_okq (⟨"OtherHatModel", "drawn", "()I"⟩, 26) := ⟨⟨by decide +kernel, by decide +kernel⟩, List.mem_of_getElem? (i := 799) (by decide +kernel), List.mem_of_getElem? (i := 1087) (by decide +kernel), List.mem_of_getElem? (i := 1088) (by decide +kernel)⟩
theorem lw_p82 : lw_okq (⟨"OtherHatModel", "pays", "(IZI)V"⟩, 26) := ⟨⟨by decide +kernel, by decide +kernel⟩, List.mem_of_getElem? (i := 799) (by decide +kernel), List.mem_of_getElem? (i := 1092) (by decide +kernel), List.mem_of_getElem? (i := 1093) (by decide +kernel)⟩
theorem lw_p83 : lw_okq (⟨"OtherHatModel", "why", "(Z)I"⟩, 26) := ⟨⟨by decide +kernel, by decide +kernel⟩, List.mem_of_getElem? (i := 799) (by decide +kernel), List.mem_of_getElem? (i := 1106) (by decide +kernel), List.mem_of_getElem? (i := 1107) (by decide +kernel)⟩
theorem lw_p84 : lw_okq (⟨"OtherHatModel", "begins", "()V"⟩, 26) := ⟨⟨by decide +kernel, by decide +kernel⟩, List.mem_of_getElem? (i := 799) (by decide +kernel), List.mem_of_getElem? (i := 1118) (by decide +kernel), List.mem_of_getElem? (i := 1119) (by decide +kernel)⟩
theorem lw_p85 : lw_okq (⟨"OtherHatModel", "ends", "()V"⟩, 26) := ⟨⟨by decide +kernel, by decide +kernel⟩, List.mem_of_getElem? (i := 799) (by decide +kernel), List.mem_of_getElem? (i := 1125) (by decide +kernel), List.mem_of_getElem? (i := 1126) (by decide +kernel)⟩
theorem lw_p86 : lw_okq (⟨"OtherHatModel", "soonest", "(I)I"⟩, 26) := ⟨⟨by decide +kernel, by decide +kernel⟩, List.mem_of_getElem? (i := 799) (by decide +kernel), List.mem_of_getElem? (i := 1137) (by decide +kernel), List.mem_of_getElem? (i := 1138) (by decide +kernel)⟩
theorem lw_p87 : lw_okq (⟨"OtherHatModel", "othersBy", "(II)I"⟩, 26) := ⟨⟨by decide +kernel, by decide +kernel⟩, List.mem_of_getElem? (i := 799) (by decide +kernel), List.mem_of_getElem? (i := 1145) (by decide +kernel), List.mem_of_getElem? (i := 1146) (by decide +kernel)⟩
theorem lw_p88 : lw_okq (⟨"OtherHatModel", "hatsBecome", "(I)V"⟩, 26) := ⟨⟨by decide +kernel, by decide +kernel⟩, List.mem_of_getElem? (i := 799) (by decide +kernel), List.mem_of_getElem? (i := 1153) (by decide +kernel), List.mem_of_getElem? (i := 1154) (by decide +kernel)⟩
theorem lw_p89 : lw_okq (⟨"OtherHatModel", "whoKnowBy", "(I)I"⟩, 26) := ⟨⟨by decide +kernel, by decide +kernel⟩, List.mem_of_getElem? (i := 799) (by decide +kernel), List.mem_of_getElem? (i := 1165) (by decide +kernel), List.mem_of_getElem? (i := 1166) (by decide +kernel)⟩
theorem lw_p90 : lw_okq (⟨"OtherHatModel", "own", "()I"⟩, 26) := ⟨⟨by decide +kernel, by decide +kernel⟩, List.mem_of_getElem? (i := 799) (by decide +kernel), List.mem_of_getElem? (i := 1192) (by decide +kernel), List.mem_of_getElem? (i := 1193) (by decide +kernel)⟩
theorem lw_p91 : lw_okq (⟨"OtherHatModel", "looks", "(II)I"⟩, 26) := ⟨⟨by decide +kernel, by decide +kernel⟩, List.mem_of_getElem? (i := 799) (by decide +kernel), List.mem_of_getElem? (i := 1196) (by decide +kernel), List.mem_of_getElem? (i := 1197) (by decide +kernel)⟩
theorem lw_p92 : lw_okq (⟨"OtherHatModel", "ran", "(I)V"⟩, 26) := ⟨⟨by decide +kernel, by decide +kernel⟩, List.mem_of_getElem? (i := 799) (by decide +kernel), List.mem_of_getElem? (i := 1200) (by decide +kernel), List.mem_of_getElem? (i := 1201) (by decide +kernel)⟩
theorem lw_p93 : lw_okq (⟨"OtherHatModel", "thoughts", "(II)I"⟩, 26) := ⟨⟨by decide +kernel, by decide +kernel⟩, List.mem_of_getElem? (i := 799) (by decide +kernel), List.mem_of_getElem? (i := 1204) (by decide +kernel), List.mem_of_getElem? (i := 1205) (by decide +kernel)⟩
theorem lw_p94 : lw_okq (⟨"OtherHatModel", "says", "(II)I"⟩, 26) := ⟨⟨by decide +kernel, by decide +kernel⟩, List.mem_of_getElem? (i := 799) (by decide +kernel), List.mem_of_getElem? (i := 1208) (by decide +kernel), List.mem_of_getElem? (i := 1209) (by decide +kernel)⟩
theorem lw_p95 : lw_okq (⟨"OtherHatModel", "tells", "(II)I"⟩, 26) := ⟨⟨by decide +kernel, by decide +kernel⟩, List.mem_of_getElem? (i := 799) (by decide +kernel), List.mem_of_getElem? (i := 1212) (by decide +kernel), List.mem_of_getElem? (i := 1213) (by decide +kernel)⟩
def lw_privs_6 : List (MethodName × Nat) := [(⟨"OtherHatModel", "wouldSay", "(II)I"⟩, 26), (⟨"OtherHatModel", "drawn", "()I"⟩, 26), (⟨"OtherHatModel", "pays", "(IZI)V"⟩, 26), (⟨"OtherHatModel", "why", "(Z)I"⟩, 26), (⟨"OtherHatModel", "begins", "()V"⟩, 26), (⟨"OtherHatModel", "ends", "()V"⟩, 26), (⟨"OtherHatModel", "soonest", "(I)I"⟩, 26), (⟨"OtherHatModel", "othersBy", "(II)I"⟩, 26), (⟨"OtherHatModel", "hatsBecome", "(I)V"⟩, 26), (⟨"OtherHatModel", "whoKnowBy", "(I)I"⟩, 26), (⟨"OtherHatModel", "own", "()I"⟩, 26), (⟨"OtherHatModel", "looks", "(II)I"⟩, 26), (⟨"OtherHatModel", "ran", "(I)V"⟩, 26), (⟨"OtherHatModel", "thoughts", "(II)I"⟩, 26), (⟨"OtherHatModel", "says", "(II)I"⟩, 26), (⟨"OtherHatModel", "tells", "(II)I"⟩, 26)]
theorem lw_r6 : ∀ q ∈ lw_privs_6, lw_okq q := List.forall_mem_cons.mpr ⟨lw_p80, List.forall_mem_cons.mpr ⟨lw_p81, List.forall_mem_cons.mpr ⟨lw_p82, List.forall_mem_cons.mpr ⟨lw_p83, List.forall_mem_cons.mpr ⟨lw_p84, List.forall_mem_cons.mpr ⟨lw_p85, List.forall_mem_cons.mpr ⟨lw_p86, List.forall_mem_cons.mpr ⟨lw_p87, List.forall_mem_cons.mpr ⟨lw_p88, List.forall_mem_cons.mpr ⟨lw_p89, List.forall_mem_cons.mpr ⟨lw_p90, List.forall_mem_cons.mpr ⟨lw_p91, List.forall_mem_cons.mpr ⟨lw_p92, List.forall_mem_cons.mpr ⟨lw_p93, List.forall_mem_cons.mpr ⟨lw_p94, List.forall_mem_cons.mpr ⟨lw_p95, fun _ h => absurd h List.not_mem_nil⟩⟩⟩⟩⟩⟩⟩⟩⟩⟩⟩⟩⟩⟩⟩⟩
def lw_privs : List (MethodName × Nat) := lw_privs_1 ++ (lw_privs_2 ++ (lw_privs_3 ++ (lw_privs_4 ++ (lw_privs_5 ++ (lw_privs_6)))))
def lw_tbl : List Cond := k2_sels lw_privs ++ tables_1
theorem lw_privs_ok : ∀ q ∈ lw_privs, lw_okq q := by
  show ∀ q ∈ lw_privs_1 ++ (lw_privs_2 ++ (lw_privs_3 ++ (lw_privs_4 ++ (lw_privs_5 ++ (lw_privs_6))))), lw_okq q
  exact List.forall_mem_append.mpr ⟨lw_r1, List.forall_mem_append.mpr ⟨lw_r2, List.forall_mem_append.mpr ⟨lw_r3, List.forall_mem_append.mpr ⟨lw_r4, List.forall_mem_append.mpr ⟨lw_r5, lw_r6⟩⟩⟩⟩⟩
/-! ===== BEGIN words of one list among another's, by their places ===== -/
theorem goodIn_r {big : List Cond} (ws : List Cond) (ps : List Nat) (hp : ws = ps.filterMap (fun i => big[i]?)) (h : ws.all goodWord = true) : GoodIn big ws := by
  intro w hw
  have h1 := List.all_eq_true.mp h w hw
  rw [hp] at hw
  obtain ⟨i, -, hi⟩ := List.mem_filterMap.mp hw
  have hm : w ∈ big := by first | exact List.mem_of_getElem? hi | exact List.getElem?_mem hi
  exact ⟨hm, good_of_word h1⟩
theorem goodIn_app {big a b : List Cond} (ha : GoodIn big a) (hb : GoodIn big b) : GoodIn big (a ++ b) := fun w h => (List.mem_append.mp h).elim (ha w) (hb w)
theorem goodIn_ca {big a b : List Cond} {c : Cond} (ha : GoodIn big (c :: a)) (hb : GoodIn big b) : GoodIn big (c :: (a ++ b)) := fun w h => (List.mem_cons.mp h).elim (fun e => ha w (List.mem_cons.mpr (Or.inl e))) (fun h => (List.mem_append.mp h).elim (fun h => ha w (List.mem_cons.mpr (Or.inr h))) (hb w))
theorem goodIn_sub {big ws : List Cond} (hm : ∀ w ∈ ws, w ∈ big) (h : ws.all goodWord = true) : GoodIn big ws := fun w hw => ⟨hm w hw, good_of_word (List.all_eq_true.mp h w hw)⟩
/-! ===== END ===== -/

/-! ===== BEGIN printed: names, fields, word lists, decode rows ===== -/
def RX0 : String := "OtherHat$Book"
def TX0 : u_T := fun k => match k with
  | 0 => ("OtherHat$Book", "scene", "LOtherHat$Scene;", true)
  | 1 => ("OtherHat$Book", "rule", "LOtherHat$Law;", true)
  | 2 => ("OtherHat$Book", "pays", "LOtherHat$Law;", true)
  | 3 => ("OtherHat$Book", "tape", "LOtherHat$Row;", true)
  | 4 => ("OtherHat$Book", "waiting", "LOtherHat$Row;", true)
  | _ => ("OtherHat$Book", "z", "I", false)
def tyX0 : Nat → FieldType := fun k => match k with
  | 0 => .object "OtherHat$Scene"
  | 1 => .object "OtherHat$Law"
  | 2 => .object "OtherHat$Law"
  | 3 => .object "OtherHat$Row"
  | 4 => .object "OtherHat$Row"
  | _ => .int
abbrev wsX00 : List Cond := u_ws RX0 TX0 6
theorem nmX0 : ∀ a, a < 6 → ∀ b, b < 6 → a ≠ b → (TX0 a).2.1 ≠ (TX0 b).2.1 := by decide +kernel
theorem tyX0_ok : ∀ k, k < 6 → parseFieldDescriptor (TX0 k).2.2.1 = some (tyX0 k) := by decide +kernel
abbrev cX0_init : ByteArray := prog_2_method_1_code
def yX0_init : MethodName := ⟨RX0, "<init>", "()V"⟩
abbrev cX0_take : ByteArray := prog_2_method_2_code
def yX0_take : MethodName := ⟨RX0, "take", "(LOtherHat$Book;)V"⟩
abbrev cX0_drawn : ByteArray := prog_2_method_3_code
def yX0_drawn : MethodName := ⟨RX0, "drawn", "()I"⟩
abbrev cX0_ringLoosely : ByteArray := prog_2_method_4_code
def yX0_ringLoosely : MethodName := ⟨RX0, "ringLoosely", "()V"⟩
def RX1 : String := "OtherHat$Law"
def TX1 : u_T := fun k => match k with
  | 0 => ("OtherHat$Law", "use", "I", true)
  | 1 => ("OtherHat$Law", "code", "LOtherHat$Row;", true)
  | _ => ("OtherHat$Law", "stack", "[I", true)
def tyX1 : Nat → FieldType := fun k => match k with
  | 0 => .int
  | 1 => .object "OtherHat$Row"
  | _ => .array .int
abbrev wsX10 : List Cond := u_ws RX1 TX1 3
theorem nmX1 : ∀ a, a < 3 → ∀ b, b < 3 → a ≠ b → (TX1 a).2.1 ≠ (TX1 b).2.1 := by decide +kernel
theorem tyX1_ok : ∀ k, k < 3 → parseFieldDescriptor (TX1 k).2.2.1 = some (tyX1 k) := by decide +kernel
abbrev cX1_init : ByteArray := prog_3_method_1_code
def yX1_init : MethodName := ⟨RX1, "<init>", "(I)V"⟩
abbrev cX1_gives : ByteArray := prog_3_method_2_code
def yX1_gives : MethodName := ⟨RX1, "gives", "(IIII)I"⟩
abbrev cX1_workedOut : ByteArray := prog_3_method_3_code
def yX1_workedOut : MethodName := ⟨RX1, "workedOut", "(IIII)I"⟩
abbrev cX1_named : ByteArray := prog_3_method_4_code
def yX1_named : MethodName := ⟨RX1, "named", "(IIIII)I"⟩
abbrev cX1_joined : ByteArray := prog_3_method_5_code
def yX1_joined : MethodName := ⟨RX1, "joined", "(III)I"⟩
def RX2 : String := "OtherHat$Reader"
def TX2 : u_T := fun k => match k with
  | 0 => ("OtherHat$Reader", "code", "LOtherHat$Row;", true)
  | 1 => ("OtherHat$Reader", "bytes", "LOtherHat$Row;", true)
  | 2 => ("OtherHat$Reader", "names", "Ljava/lang/String;", false)
  | _ => ("OtherHat$Reader", "at", "I", false)
def tyX2 : Nat → FieldType := fun k => match k with
  | 0 => .object "OtherHat$Row"
  | 1 => .object "OtherHat$Row"
  | 2 => .object "java/lang/String"
  | _ => .int
abbrev wsX20 : List Cond := u_ws RX2 TX2 4
theorem nmX2 : ∀ a, a < 4 → ∀ b, b < 4 → a ≠ b → (TX2 a).2.1 ≠ (TX2 b).2.1 := by decide +kernel
theorem tyX2_ok : ∀ k, k < 4 → parseFieldDescriptor (TX2 k).2.2.1 = some (tyX2 k) := by decide +kernel
abbrev cX2_init : ByteArray := prog_4_method_1_code
def yX2_init : MethodName := ⟨RX2, "<init>", "()V"⟩
abbrev cX2_faultOf : ByteArray := prog_4_method_2_code
def yX2_faultOf : MethodName := ⟨RX2, "faultOf", "(LOtherHat$Row;I)I"⟩
abbrev cX2_readLevel : ByteArray := prog_4_method_3_code
def yX2_readLevel : MethodName := ⟨RX2, "readLevel", "(II)Z"⟩
abbrev cX2_readUnit : ByteArray := prog_4_method_4_code
def yX2_readUnit : MethodName := ⟨RX2, "readUnit", "(I)Z"⟩
abbrev cX2_readNot : ByteArray := prog_4_method_5_code
def yX2_readNot : MethodName := ⟨RX2, "readNot", "(I)Z"⟩
abbrev cX2_readInside : ByteArray := prog_4_method_6_code
def yX2_readInside : MethodName := ⟨RX2, "readInside", "(I)Z"⟩
abbrev cX2_readNumber : ByteArray := prog_4_method_7_code
def yX2_readNumber : MethodName := ⟨RX2, "readNumber", "()V"⟩
abbrev cX2_next : ByteArray := prog_4_method_8_code
def yX2_next : MethodName := ⟨RX2, "next", "()I"⟩
abbrev cX2_isDigit : ByteArray := prog_4_method_9_code
def yX2_isDigit : MethodName := ⟨RX2, "isDigit", "(I)Z"⟩
abbrev cX2_isSignOf : ByteArray := prog_4_method_10_code
def yX2_isSignOf : MethodName := ⟨RX2, "isSignOf", "(II)Z"⟩
def RX3 : String := "OtherHat$Row"
def TX3 : u_T := fun k => match k with
  | 0 => ("OtherHat$Row", "items", "[I", true)
  | _ => ("OtherHat$Row", "size", "I", false)
def tyX3 : Nat → FieldType := fun k => match k with
  | 0 => .array .int
  | _ => .int
abbrev wsX30 : List Cond := u_ws RX3 TX3 2
theorem nmX3 : ∀ a, a < 2 → ∀ b, b < 2 → a ≠ b → (TX3 a).2.1 ≠ (TX3 b).2.1 := by decide +kernel
theorem tyX3_ok : ∀ k, k < 2 → parseFieldDescriptor (TX3 k).2.2.1 = some (tyX3 k) := by decide +kernel
abbrev cX3_init : ByteArray := prog_5_method_1_code
def yX3_init : MethodName := ⟨RX3, "<init>", "(I)V"⟩
abbrev cX3_add : ByteArray := prog_5_method_2_code
def yX3_add : MethodName := ⟨RX3, "add", "(I)V"⟩
abbrev cX3_get : ByteArray := prog_5_method_3_code
def yX3_get : MethodName := ⟨RX3, "get", "(I)I"⟩
abbrev cX3_clear : ByteArray := prog_5_method_4_code
def yX3_clear : MethodName := ⟨RX3, "clear", "()V"⟩
abbrev cX3_take : ByteArray := prog_5_method_5_code
def yX3_take : MethodName := ⟨RX3, "take", "(LOtherHat$Row;)V"⟩
def RX4 : String := "OtherHat$Scene"
def TX4 : u_T := fun k => match k with
  | 0 => ("OtherHat$Scene", "men", "I", false)
  | 1 => ("OtherHat$Scene", "kind", "[I", true)
  | 2 => ("OtherHat$Scene", "number", "[I", true)
  | 3 => ("OtherHat$Scene", "sees", "[I", true)
  | 4 => ("OtherHat$Scene", "paid", "[I", true)
  | 5 => ("OtherHat$Scene", "world", "I", false)
  | 6 => ("OtherHat$Scene", "fine", "I", false)
  | 7 => ("OtherHat$Scene", "open", "Z", false)
  | 8 => ("OtherHat$Scene", "possible", "J", false)
  | 9 => ("OtherHat$Scene", "spoke", "I", false)
  | _ => ("OtherHat$Scene", "bell", "I", false)
def tyX4 : Nat → FieldType := fun k => match k with
  | 0 => .int
  | 1 => .array .int
  | 2 => .array .int
  | 3 => .array .int
  | 4 => .array .int
  | 5 => .int
  | 6 => .int
  | 7 => .boolean
  | 8 => .long
  | 9 => .int
  | _ => .int
abbrev wsX40 : List Cond := u_ws RX4 TX4 11
theorem nmX4 : ∀ a, a < 11 → ∀ b, b < 11 → a ≠ b → (TX4 a).2.1 ≠ (TX4 b).2.1 := by decide +kernel
theorem tyX4_ok : ∀ k, k < 11 → parseFieldDescriptor (TX4 k).2.2.1 = some (tyX4 k) := by decide +kernel
abbrev cX4_init : ByteArray := prog_6_method_1_code
def yX4_init : MethodName := ⟨RX4, "<init>", "()V"⟩
abbrev cX4_take : ByteArray := prog_6_method_2_code
def yX4_take : MethodName := ⟨RX4, "take", "(LOtherHat$Scene;)V"⟩
abbrev cX4_worldCount : ByteArray := prog_6_method_3_code
def yX4_worldCount : MethodName := ⟨RX4, "worldCount", "()I"⟩
abbrev cX4_addMan : ByteArray := prog_6_method_4_code
def yX4_addMan : MethodName := ⟨RX4, "addMan", "(I)I"⟩
abbrev cX4_givenBy : ByteArray := prog_6_method_5_code
def yX4_givenBy : MethodName := ⟨RX4, "givenBy", "(LOtherHat$Law;)J"⟩
abbrev cX4_thought : ByteArray := prog_6_method_6_code
def yX4_thought : MethodName := ⟨RX4, "thought", "(II)J"⟩
abbrev cX4_hasSpoken : ByteArray := prog_6_method_7_code
def yX4_hasSpoken : MethodName := ⟨RX4, "hasSpoken", "(I)Z"⟩
abbrev cX4_speaks : ByteArray := prog_6_method_8_code
def yX4_speaks : MethodName := ⟨RX4, "speaks", "(IJ)Z"⟩
abbrev cX4_isSure : ByteArray := prog_6_method_9_code
def yX4_isSure : MethodName := ⟨RX4, "isSure", "(IJ)Z"⟩
abbrev cX4_speakers : ByteArray := prog_6_method_10_code
def yX4_speakers : MethodName := ⟨RX4, "speakers", "()I"⟩
abbrev cX4_sayings : ByteArray := prog_6_method_11_code
def yX4_sayings : MethodName := ⟨RX4, "sayings", "(I)I"⟩
abbrev cX4_ring : ByteArray := prog_6_method_12_code
def yX4_ring : MethodName := ⟨RX4, "ring", "(LOtherHat$Law;)Z"⟩
abbrev cX4_hear : ByteArray := prog_6_method_13_code
def yX4_hear : MethodName := ⟨RX4, "hear", "(IILOtherHat$Law;)Z"⟩
abbrev cX4_fitting : ByteArray := prog_6_method_14_code
def yX4_fitting : MethodName := ⟨RX4, "fitting", "(IJZI)J"⟩
abbrev cX4_payAll : ByteArray := prog_6_method_15_code
def yX4_payAll : MethodName := ⟨RX4, "payAll", "(IILOtherHat$Law;)V"⟩
abbrev cX4_isPastAllNumbers : ByteArray := prog_6_method_16_code
def yX4_isPastAllNumbers : MethodName := ⟨RX4, "isPastAllNumbers", "()Z"⟩
def RX5 : String := "OtherHat$Sheet"
def TX5 : u_T := fun k => match k with
  | 0 => ("OtherHat$Sheet", "bits", "I", false)
  | 1 => ("OtherHat$Sheet", "size", "I", false)
  | _ => ("OtherHat$Sheet", "items", "[I", true)
def tyX5 : Nat → FieldType := fun k => match k with
  | 0 => .int
  | 1 => .int
  | _ => .array .int
abbrev wsX50 : List Cond := u_ws RX5 TX5 3
theorem nmX5 : ∀ a, a < 3 → ∀ b, b < 3 → a ≠ b → (TX5 a).2.1 ≠ (TX5 b).2.1 := by decide +kernel
theorem tyX5_ok : ∀ k, k < 3 → parseFieldDescriptor (TX5 k).2.2.1 = some (tyX5 k) := by decide +kernel
abbrev cX5_init : ByteArray := prog_7_method_1_code
def yX5_init : MethodName := ⟨RX5, "<init>", "()V"⟩
abbrev cX5_renew : ByteArray := prog_7_method_2_code
def yX5_renew : MethodName := ⟨RX5, "renew", "(II)V"⟩
abbrev cX5_write : ByteArray := prog_7_method_3_code
def yX5_write : MethodName := ⟨RX5, "write", "(II)V"⟩
abbrev cX5_hasRun : ByteArray := prog_7_method_4_code
def yX5_hasRun : MethodName := ⟨RX5, "hasRun", "(II)Z"⟩
abbrev cX5_asWorlds : ByteArray := prog_7_method_5_code
def yX5_asWorlds : MethodName := ⟨RX5, "asWorlds", "()J"⟩
def RX6 : String := "OtherHat$Voices"
def TX6 : u_T := fun k => match k with
  | 0 => ("OtherHat$Voices", "bodies", "LOtherHat$Row;", true)
  | 1 => ("OtherHat$Voices", "kind", "I", false)
  | 2 => ("OtherHat$Voices", "n", "I", false)
  | _ => ("OtherHat$Voices", "m", "I", false)
def tyX6 : Nat → FieldType := fun k => match k with
  | 0 => .object "OtherHat$Row"
  | 1 => .int
  | 2 => .int
  | _ => .int
abbrev wsX60 : List Cond := u_ws RX6 TX6 4
theorem nmX6 : ∀ a, a < 4 → ∀ b, b < 4 → a ≠ b → (TX6 a).2.1 ≠ (TX6 b).2.1 := by decide +kernel
theorem tyX6_ok : ∀ k, k < 4 → parseFieldDescriptor (TX6 k).2.2.1 = some (tyX6 k) := by decide +kernel
abbrev cX6_init : ByteArray := prog_8_method_1_code
def yX6_init : MethodName := ⟨RX6, "<init>", "()V"⟩
abbrev cX6_heard : ByteArray := prog_8_method_2_code
def yX6_heard : MethodName := ⟨RX6, "heard", "(LOtherHat$Scene;III)I"⟩
abbrev cX6_own : ByteArray := prog_8_method_3_code
def yX6_own : MethodName := ⟨RX6, "own", "(III)I"⟩
abbrev cX6_from : ByteArray := prog_8_method_4_code
def yX6_from : MethodName := ⟨RX6, "from", "(IIII)I"⟩
abbrev cX6_workedOut : ByteArray := prog_8_method_5_code
def yX6_workedOut : MethodName := ⟨RX6, "workedOut", "(III)I"⟩
def RX7 : String := "OtherHat"
def TX7 : u_T := fun k => match k with
  | 0 => ("OtherHat", "now", "LOtherHat$Book;", true)
  | 1 => ("OtherHat", "kept", "LOtherHat$Book;", true)
  | 2 => ("OtherHat", "ahead", "LOtherHat$Scene;", true)
  | 3 => ("OtherHat", "reader", "LOtherHat$Reader;", true)
  | 4 => ("OtherHat", "voices", "LOtherHat$Voices;", true)
  | 5 => ("OtherHat", "sheets", "[LOtherHat$Sheet;", true)
  | 6 => ("OtherHat", "errors", "[I", true)
  | _ => ("OtherHat", "images", "I", false)
def tyX7 : Nat → FieldType := fun k => match k with
  | 0 => .object "OtherHat$Book"
  | 1 => .object "OtherHat$Book"
  | 2 => .object "OtherHat$Scene"
  | 3 => .object "OtherHat$Reader"
  | 4 => .object "OtherHat$Voices"
  | 5 => .array (.object "OtherHat$Sheet")
  | 6 => .array .int
  | _ => .int
abbrev wsX70 : List Cond := u_ws RX7 TX7 8
theorem nmX7 : ∀ a, a < 8 → ∀ b, b < 8 → a ≠ b → (TX7 a).2.1 ≠ (TX7 b).2.1 := by decide +kernel
theorem tyX7_ok : ∀ k, k < 8 → parseFieldDescriptor (TX7 k).2.2.1 = some (tyX7 k) := by decide +kernel
abbrev cX7_init : ByteArray := prog_1_method_1_code
def yX7_init : MethodName := ⟨RX7, "<init>", "()V"⟩
abbrev cX7_man : ByteArray := prog_1_method_2_code
def yX7_man : MethodName := ⟨RX7, "man", "(I)I"⟩
abbrev cX7_ofMan : ByteArray := prog_1_method_3_code
def yX7_ofMan : MethodName := ⟨RX7, "ofMan", "(II)I"⟩
abbrev cX7_tellMan : ByteArray := prog_1_method_4_code
def yX7_tellMan : MethodName := ⟨RX7, "tellMan", "(III)I"⟩
abbrev cX7_become : ByteArray := prog_1_method_5_code
def yX7_become : MethodName := ⟨RX7, "become", "(II)I"⟩
abbrev cX7_as : ByteArray := prog_1_method_6_code
def yX7_as : MethodName := ⟨RX7, "as", "(II)I"⟩
abbrev cX7_fine : ByteArray := prog_1_method_7_code
def yX7_fine : MethodName := ⟨RX7, "fine", "(I)I"⟩
abbrev cX7_feed : ByteArray := prog_1_method_8_code
def yX7_feed : MethodName := ⟨RX7, "feed", "(JI)I"⟩
abbrev cX7_text : ByteArray := prog_1_method_9_code
def yX7_text : MethodName := ⟨RX7, "text", "(I)I"⟩
abbrev cX7_law : ByteArray := prog_1_method_10_code
def yX7_law : MethodName := ⟨RX7, "law", "(IIIII)I"⟩
abbrev cX7_open : ByteArray := prog_1_method_11_code
def yX7_open : MethodName := ⟨RX7, "open", "()I"⟩
abbrev cX7_close : ByteArray := prog_1_method_12_code
def yX7_close : MethodName := ⟨RX7, "close", "()I"⟩
abbrev cX7_bells : ByteArray := prog_1_method_13_code
def yX7_bells : MethodName := ⟨RX7, "bells", "(I)I"⟩
abbrev cX7_loose : ByteArray := prog_1_method_14_code
def yX7_loose : MethodName := ⟨RX7, "loose", "(I)I"⟩
abbrev cX7_possible : ByteArray := prog_1_method_15_code
def yX7_possible : MethodName := ⟨RX7, "possible", "(I)I"⟩
abbrev cX7_thinks : ByteArray := prog_1_method_16_code
def yX7_thinks : MethodName := ⟨RX7, "thinks", "(II)I"⟩
abbrev cX7_then : ByteArray := prog_1_method_17_code
def yX7_then : MethodName := ⟨RX7, "then", "(II)I"⟩
abbrev cX7_thenPaid : ByteArray := prog_1_method_18_code
def yX7_thenPaid : MethodName := ⟨RX7, "thenPaid", "(II)I"⟩
abbrev cX7_when : ByteArray := prog_1_method_19_code
def yX7_when : MethodName := ⟨RX7, "when", "(I)I"⟩
abbrev cX7_silence : ByteArray := prog_1_method_20_code
def yX7_silence : MethodName := ⟨RX7, "silence", "(II)I"⟩
abbrev cX7_trick : ByteArray := prog_1_method_21_code
def yX7_trick : MethodName := ⟨RX7, "trick", "(II)I"⟩
abbrev cX7_longest : ByteArray := prog_1_method_22_code
def yX7_longest : MethodName := ⟨RX7, "longest", "()I"⟩
abbrev cX7_signal : ByteArray := prog_1_method_23_code
def yX7_signal : MethodName := ⟨RX7, "signal", "(II)I"⟩
abbrev cX7_bestSignal : ByteArray := prog_1_method_24_code
def yX7_bestSignal : MethodName := ⟨RX7, "bestSignal", "(II)I"⟩
abbrev cX7_look : ByteArray := prog_1_method_25_code
def yX7_look : MethodName := ⟨RX7, "look", "(I)I"⟩
abbrev cX7_odds : ByteArray := prog_1_method_26_code
def yX7_odds : MethodName := ⟨RX7, "odds", "(II)J"⟩
abbrev cX7_seed : ByteArray := prog_1_method_27_code
def yX7_seed : MethodName := ⟨RX7, "seed", "(I)I"⟩
abbrev cX7_voice : ByteArray := prog_1_method_28_code
def yX7_voice : MethodName := ⟨RX7, "voice", "(III)I"⟩
abbrev cX7_trace : ByteArray := prog_1_method_29_code
def yX7_trace : MethodName := ⟨RX7, "trace", "(I)I"⟩
abbrev cX7_sheet : ByteArray := prog_1_method_30_code
def yX7_sheet : MethodName := ⟨RX7, "sheet", "(III)I"⟩
abbrev cX7_put : ByteArray := prog_1_method_31_code
def yX7_put : MethodName := ⟨RX7, "put", "(III)I"⟩
abbrev cX7_move : ByteArray := prog_1_method_32_code
def yX7_move : MethodName := ⟨RX7, "move", "(IIIII)I"⟩
abbrev cX7_worlds : ByteArray := prog_1_method_33_code
def yX7_worlds : MethodName := ⟨RX7, "worlds", "(I)I"⟩
abbrev cX7_image : ByteArray := prog_1_method_34_code
def yX7_image : MethodName := ⟨RX7, "image", "()I"⟩
abbrev cX7_restore : ByteArray := prog_1_method_35_code
def yX7_restore : MethodName := ⟨RX7, "restore", "()I"⟩
abbrev cX7_tell : ByteArray := prog_1_method_36_code
def yX7_tell : MethodName := ⟨RX7, "tell", "(I)I"⟩
abbrev cX7_check : ByteArray := prog_1_method_37_code
def yX7_check : MethodName := ⟨RX7, "check", "()I"⟩
abbrev cX7_count : ByteArray := prog_1_method_38_code
def yX7_count : MethodName := ⟨RX7, "count", "(I)I"⟩
abbrev cX7_told : ByteArray := prog_1_method_39_code
def yX7_told : MethodName := ⟨RX7, "told", "(I)I"⟩
abbrev cX7_failed : ByteArray := prog_1_method_40_code
def yX7_failed : MethodName := ⟨RX7, "failed", "(I)I"⟩
abbrev cX7_isMan : ByteArray := prog_1_method_41_code
def yX7_isMan : MethodName := ⟨RX7, "isMan", "(I)Z"⟩
abbrev cX7_isWorld : ByteArray := prog_1_method_42_code
def yX7_isWorld : MethodName := ⟨RX7, "isWorld", "(I)Z"⟩
abbrev cX7_isKindWithNumber : ByteArray := prog_1_method_43_code
def yX7_isKindWithNumber : MethodName := ⟨RX7, "isKindWithNumber", "(I)Z"⟩
abbrev cX7_isUse : ByteArray := prog_1_method_44_code
def yX7_isUse : MethodName := ⟨RX7, "isUse", "(I)Z"⟩
abbrev cX7_isAhead : ByteArray := prog_1_method_45_code
def yX7_isAhead : MethodName := ⟨RX7, "isAhead", "(I)Z"⟩
abbrev cX7_isSheet : ByteArray := prog_1_method_46_code
def yX7_isSheet : MethodName := ⟨RX7, "isSheet", "(I)Z"⟩
abbrev cX7_isOfKind : ByteArray := prog_1_method_47_code
def yX7_isOfKind : MethodName := ⟨RX7, "isOfKind", "(II)Z"⟩
abbrev cX7_lawOf : ByteArray := prog_1_method_48_code
def yX7_lawOf : MethodName := ⟨RX7, "lawOf", "(I)LOtherHat$Law;"⟩
abbrev cX7_whyNoBells : ByteArray := prog_1_method_49_code
def yX7_whyNoBells : MethodName := ⟨RX7, "whyNoBells", "(I)I"⟩
abbrev cX7_startAhead : ByteArray := prog_1_method_50_code
def yX7_startAhead : MethodName := ⟨RX7, "startAhead", "()V"⟩
abbrev cX7_ringAhead : ByteArray := prog_1_method_51_code
def yX7_ringAhead : MethodName := ⟨RX7, "ringAhead", "(I)I"⟩
abbrev cX7_bellsTillSpoken : ByteArray := prog_1_method_52_code
def yX7_bellsTillSpoken : MethodName := ⟨RX7, "bellsTillSpoken", "(I)I"⟩
abbrev cX7_ranAlike : ByteArray := prog_1_method_53_code
def yX7_ranAlike : MethodName := ⟨RX7, "ranAlike", "()J"⟩
abbrev cX7_knowBySignal : ByteArray := prog_1_method_54_code
def yX7_knowBySignal : MethodName := ⟨RX7, "knowBySignal", "(I)I"⟩
abbrev cX7_commonDivisor : ByteArray := prog_1_method_55_code
def yX7_commonDivisor : MethodName := ⟨RX7, "commonDivisor", "(II)I"⟩
abbrev cX7_bit : ByteArray := prog_1_method_56_code
def yX7_bit : MethodName := ⟨RX7, "bit", "(II)I"⟩
abbrev cX7_held : ByteArray := prog_1_method_57_code
def yX7_held : MethodName := ⟨RX7, "held", "(III)I"⟩
abbrev cX7_holds : ByteArray := prog_1_method_58_code
def yX7_holds : MethodName := ⟨RX7, "holds", "(JI)Z"⟩
abbrev cX7_blacks : ByteArray := prog_1_method_59_code
def yX7_blacks : MethodName := ⟨RX7, "blacks", "(IJ)I"⟩
abbrev cX7_whites : ByteArray := prog_1_method_60_code
def yX7_whites : MethodName := ⟨RX7, "whites", "(IJ)I"⟩
abbrev cX7_knows : ByteArray := prog_1_method_61_code
def yX7_knows : MethodName := ⟨RX7, "knows", "(IJ)Z"⟩
abbrev cX7_wouldSay : ByteArray := prog_1_method_62_code
def yX7_wouldSay : MethodName := ⟨RX7, "wouldSay", "(IJ)I"⟩
abbrev cX7_allWhite : ByteArray := prog_1_method_63_code
def yX7_allWhite : MethodName := ⟨RX7, "allWhite", "(I)J"⟩
def RX8 : String := "OtherHatModel"
def TX8 : u_T := fun k => match k with
  | 0 => ("OtherHatModel", "d", "[I", true)
  | 1 => ("OtherHatModel", "e", "[I", true)
  | 2 => ("OtherHatModel", "kept", "[I", true)
  | 3 => ("OtherHatModel", "worlds", "J", false)
  | 4 => ("OtherHatModel", "worldsWere", "J", false)
  | 5 => ("OtherHatModel", "worldsKept", "J", false)
  | 6 => ("OtherHatModel", "images", "I", false)
  | 7 => ("OtherHatModel", "found", "[I", true)
  | 8 => ("OtherHatModel", "base", "I", false)
  | 9 => ("OtherHatModel", "at", "I", false)
  | 10 => ("OtherHatModel", "size", "I", false)
  | 11 => ("OtherHatModel", "fault", "I", false)
  | 12 => ("OtherHatModel", "opened", "I", false)
  | 13 => ("OtherHatModel", "isPay", "Z", false)
  | 14 => ("OtherHatModel", "names", "[I", true)
  | 15 => ("OtherHatModel", "blackBy", "[I", true)
  | 16 => ("OtherHatModel", "whiteBy", "[I", true)
  | 17 => ("OtherHatModel", "blackIn", "[I", true)
  | 18 => ("OtherHatModel", "whiteIn", "[I", true)
  | 19 => ("OtherHatModel", "traced", "[I", true)
  | 20 => ("OtherHatModel", "traceMany", "I", false)
  | 21 => ("OtherHatModel", "who", "I", false)
  | 22 => ("OtherHatModel", "bitsOf", "[I", true)
  | 23 => ("OtherHatModel", "sizeOf", "[I", true)
  | 24 => ("OtherHatModel", "number", "[I", true)
  | _ => ("OtherHatModel", "lifted", "[I", true)
def tyX8 : Nat → FieldType := fun k => match k with
  | 0 => .array .int
  | 1 => .array .int
  | 2 => .array .int
  | 3 => .long
  | 4 => .long
  | 5 => .long
  | 6 => .int
  | 7 => .array .int
  | 8 => .int
  | 9 => .int
  | 10 => .int
  | 11 => .int
  | 12 => .int
  | 13 => .boolean
  | 14 => .array .int
  | 15 => .array .int
  | 16 => .array .int
  | 17 => .array .int
  | 18 => .array .int
  | 19 => .array .int
  | 20 => .int
  | 21 => .int
  | 22 => .array .int
  | 23 => .array .int
  | 24 => .array .int
  | _ => .array .int
abbrev wsX80 : List Cond := u_ws RX8 TX8 26
theorem nmX8 : ∀ a, a < 26 → ∀ b, b < 26 → a ≠ b → (TX8 a).2.1 ≠ (TX8 b).2.1 := by decide +kernel
theorem tyX8_ok : ∀ k, k < 26 → parseFieldDescriptor (TX8 k).2.2.1 = some (tyX8 k) := by decide +kernel
abbrev cX8_init : ByteArray := prog_10_method_1_code
def yX8_init : MethodName := ⟨RX8, "<init>", "()V"⟩
abbrev cX8_finds : ByteArray := prog_10_method_3_code
def yX8_finds : MethodName := ⟨RX8, "finds", "(I)I"⟩
abbrev cX8_in : ByteArray := prog_10_method_4_code
def yX8_in : MethodName := ⟨RX8, "in", "(JJJ)Z"⟩
abbrev cX8_held : ByteArray := prog_10_method_5_code
def yX8_held : MethodName := ⟨RX8, "held", "(III)I"⟩
abbrev cX8_copies : ByteArray := prog_10_method_6_code
def yX8_copies : MethodName := ⟨RX8, "copies", "([I[I)V"⟩
abbrev cX8_isMan : ByteArray := prog_10_method_7_code
def yX8_isMan : MethodName := ⟨RX8, "isMan", "(I)Z"⟩
abbrev cX8_of : ByteArray := prog_10_method_8_code
def yX8_of : MethodName := ⟨RX8, "of", "(II)I"⟩
abbrev cX8_becomes : ByteArray := prog_10_method_9_code
def yX8_becomes : MethodName := ⟨RX8, "becomes", "(III)V"⟩
abbrev cX8_allMen : ByteArray := prog_10_method_10_code
def yX8_allMen : MethodName := ⟨RX8, "allMen", "()I"⟩
abbrev cX8_isOpen : ByteArray := prog_10_method_11_code
def yX8_isOpen : MethodName := ⟨RX8, "isOpen", "()Z"⟩
abbrev cX8_here : ByteArray := prog_10_method_12_code
def yX8_here : MethodName := ⟨RX8, "here", "()I"⟩
abbrev cX8_wrong : ByteArray := prog_10_method_13_code
def yX8_wrong : MethodName := ⟨RX8, "wrong", "()I"⟩
abbrev cX8_takes : ByteArray := prog_10_method_14_code
def yX8_takes : MethodName := ⟨RX8, "takes", "(I)Z"⟩
abbrev cX8_nameOf : ByteArray := prog_10_method_15_code
def yX8_nameOf : MethodName := ⟨RX8, "nameOf", "(I)I"⟩
abbrev cX8_either : ByteArray := prog_10_method_16_code
def yX8_either : MethodName := ⟨RX8, "either", "()I"⟩
abbrev cX8_both : ByteArray := prog_10_method_17_code
def yX8_both : MethodName := ⟨RX8, "both", "()I"⟩
abbrev cX8_compared : ByteArray := prog_10_method_18_code
def yX8_compared : MethodName := ⟨RX8, "compared", "()I"⟩
abbrev cX8_sum : ByteArray := prog_10_method_19_code
def yX8_sum : MethodName := ⟨RX8, "sum", "()I"⟩
abbrev cX8_product : ByteArray := prog_10_method_20_code
def yX8_product : MethodName := ⟨RX8, "product", "()I"⟩
abbrev cX8_unit : ByteArray := prog_10_method_21_code
def yX8_unit : MethodName := ⟨RX8, "unit", "()I"⟩
abbrev cX8_worked : ByteArray := prog_10_method_22_code
def yX8_worked : MethodName := ⟨RX8, "worked", "(III)I"⟩
abbrev cX8_feed : ByteArray := prog_10_method_23_code
def yX8_feed : MethodName := ⟨RX8, "feed", "(JI)I"⟩
abbrev cX8_text : ByteArray := prog_10_method_24_code
def yX8_text : MethodName := ⟨RX8, "text", "(I)I"⟩
abbrev cX8_gives : ByteArray := prog_10_method_25_code
def yX8_gives : MethodName := ⟨RX8, "gives", "(IIIII)I"⟩
abbrev cX8_law : ByteArray := prog_10_method_26_code
def yX8_law : MethodName := ⟨RX8, "law", "(IIIII)I"⟩
abbrev cX8_man : ByteArray := prog_10_method_27_code
def yX8_man : MethodName := ⟨RX8, "man", "(I)I"⟩
abbrev cX8_ofMan : ByteArray := prog_10_method_28_code
def yX8_ofMan : MethodName := ⟨RX8, "ofMan", "(II)I"⟩
abbrev cX8_tellMan : ByteArray := prog_10_method_29_code
def yX8_tellMan : MethodName := ⟨RX8, "tellMan", "(III)I"⟩
abbrev cX8_become : ByteArray := prog_10_method_30_code
def yX8_become : MethodName := ⟨RX8, "become", "(II)I"⟩
abbrev cX8_above : ByteArray := prog_10_method_31_code
def yX8_above : MethodName := ⟨RX8, "above", "(I)I"⟩
abbrev cX8_as : ByteArray := prog_10_method_32_code
def yX8_as : MethodName := ⟨RX8, "as", "(II)I"⟩
abbrev cX8_fine : ByteArray := prog_10_method_33_code
def yX8_fine : MethodName := ⟨RX8, "fine", "(I)I"⟩
abbrev cX8_ones : ByteArray := prog_10_method_34_code
def yX8_ones : MethodName := ⟨RX8, "ones", "(I)I"⟩
abbrev cX8_manyOf : ByteArray := prog_10_method_35_code
def yX8_manyOf : MethodName := ⟨RX8, "manyOf", "(J)I"⟩
abbrev cX8_isPossible : ByteArray := prog_10_method_36_code
def yX8_isPossible : MethodName := ⟨RX8, "isPossible", "(I)Z"⟩
abbrev cX8_hats : ByteArray := prog_10_method_37_code
def yX8_hats : MethodName := ⟨RX8, "hats", "()I"⟩
abbrev cX8_think : ByteArray := prog_10_method_38_code
def yX8_think : MethodName := ⟨RX8, "think", "()V"⟩
abbrev cX8_blackOf : ByteArray := prog_10_method_39_code
def yX8_blackOf : MethodName := ⟨RX8, "blackOf", "(II)I"⟩
abbrev cX8_whiteOf : ByteArray := prog_10_method_40_code
def yX8_whiteOf : MethodName := ⟨RX8, "whiteOf", "(II)I"⟩
abbrev cX8_knows : ByteArray := prog_10_method_41_code
def yX8_knows : MethodName := ⟨RX8, "knows", "(II)Z"⟩
abbrev cX8_wouldSay : ByteArray := prog_10_method_42_code
def yX8_wouldSay : MethodName := ⟨RX8, "wouldSay", "(II)I"⟩
abbrev cX8_isHasty : ByteArray := prog_10_method_43_code
def yX8_isHasty : MethodName := ⟨RX8, "isHasty", "(II)Z"⟩
abbrev cX8_speaks : ByteArray := prog_10_method_44_code
def yX8_speaks : MethodName := ⟨RX8, "speaks", "(II)Z"⟩
abbrev cX8_speakers : ByteArray := prog_10_method_45_code
def yX8_speakers : MethodName := ⟨RX8, "speakers", "(I)I"⟩
abbrev cX8_sayings : ByteArray := prog_10_method_46_code
def yX8_sayings : MethodName := ⟨RX8, "sayings", "(II)I"⟩
abbrev cX8_open : ByteArray := prog_10_method_47_code
def yX8_open : MethodName := ⟨RX8, "open", "()I"⟩
abbrev cX8_close : ByteArray := prog_10_method_48_code
def yX8_close : MethodName := ⟨RX8, "close", "()I"⟩
abbrev cX8_drawn : ByteArray := prog_10_method_49_code
def yX8_drawn : MethodName := ⟨RX8, "drawn", "()I"⟩
abbrev cX8_pays : ByteArray := prog_10_method_50_code
def yX8_pays : MethodName := ⟨RX8, "pays", "(IZI)V"⟩
abbrev cX8_rings : ByteArray := prog_10_method_51_code
def yX8_rings : MethodName := ⟨RX8, "rings", "(Z)V"⟩
abbrev cX8_goesOn : ByteArray := prog_10_method_52_code
def yX8_goesOn : MethodName := ⟨RX8, "goesOn", "(IZ)V"⟩
abbrev cX8_rung : ByteArray := prog_10_method_53_code
def yX8_rung : MethodName := ⟨RX8, "rung", "(IZ)I"⟩
abbrev cX8_bells : ByteArray := prog_10_method_54_code
def yX8_bells : MethodName := ⟨RX8, "bells", "(I)I"⟩
abbrev cX8_loose : ByteArray := prog_10_method_55_code
def yX8_loose : MethodName := ⟨RX8, "loose", "(I)I"⟩
abbrev cX8_why : ByteArray := prog_10_method_56_code
def yX8_why : MethodName := ⟨RX8, "why", "(Z)I"⟩
abbrev cX8_possible : ByteArray := prog_10_method_57_code
def yX8_possible : MethodName := ⟨RX8, "possible", "(I)I"⟩
abbrev cX8_thinks : ByteArray := prog_10_method_58_code
def yX8_thinks : MethodName := ⟨RX8, "thinks", "(II)I"⟩
abbrev cX8_begins : ByteArray := prog_10_method_59_code
def yX8_begins : MethodName := ⟨RX8, "begins", "()V"⟩
abbrev cX8_ends : ByteArray := prog_10_method_60_code
def yX8_ends : MethodName := ⟨RX8, "ends", "()V"⟩
abbrev cX8_then : ByteArray := prog_10_method_61_code
def yX8_then : MethodName := ⟨RX8, "then", "(II)I"⟩
abbrev cX8_thenPaid : ByteArray := prog_10_method_62_code
def yX8_thenPaid : MethodName := ⟨RX8, "thenPaid", "(II)I"⟩
abbrev cX8_soonest : ByteArray := prog_10_method_63_code
def yX8_soonest : MethodName := ⟨RX8, "soonest", "(I)I"⟩
abbrev cX8_when : ByteArray := prog_10_method_64_code
def yX8_when : MethodName := ⟨RX8, "when", "(I)I"⟩
abbrev cX8_othersBy : ByteArray := prog_10_method_65_code
def yX8_othersBy : MethodName := ⟨RX8, "othersBy", "(II)I"⟩
abbrev cX8_silence : ByteArray := prog_10_method_66_code
def yX8_silence : MethodName := ⟨RX8, "silence", "(II)I"⟩
abbrev cX8_hatsBecome : ByteArray := prog_10_method_67_code
def yX8_hatsBecome : MethodName := ⟨RX8, "hatsBecome", "(I)V"⟩
abbrev cX8_trick : ByteArray := prog_10_method_68_code
def yX8_trick : MethodName := ⟨RX8, "trick", "(II)I"⟩
abbrev cX8_longest : ByteArray := prog_10_method_69_code
def yX8_longest : MethodName := ⟨RX8, "longest", "()I"⟩
abbrev cX8_whoKnowBy : ByteArray := prog_10_method_70_code
def yX8_whoKnowBy : MethodName := ⟨RX8, "whoKnowBy", "(I)I"⟩
abbrev cX8_signal : ByteArray := prog_10_method_71_code
def yX8_signal : MethodName := ⟨RX8, "signal", "(II)I"⟩
abbrev cX8_bestSignal : ByteArray := prog_10_method_72_code
def yX8_bestSignal : MethodName := ⟨RX8, "bestSignal", "(II)I"⟩
abbrev cX8_look : ByteArray := prog_10_method_73_code
def yX8_look : MethodName := ⟨RX8, "look", "(I)I"⟩
abbrev cX8_common : ByteArray := prog_10_method_74_code
def yX8_common : MethodName := ⟨RX8, "common", "(II)I"⟩
abbrev cX8_odds : ByteArray := prog_10_method_75_code
def yX8_odds : MethodName := ⟨RX8, "odds", "(II)J"⟩
abbrev cX8_seed : ByteArray := prog_10_method_76_code
def yX8_seed : MethodName := ⟨RX8, "seed", "(I)I"⟩
abbrev cX8_ran : ByteArray := prog_10_method_77_code
def yX8_ran : MethodName := ⟨RX8, "ran", "(I)V"⟩
abbrev cX8_own : ByteArray := prog_10_method_78_code
def yX8_own : MethodName := ⟨RX8, "own", "()I"⟩
abbrev cX8_looks : ByteArray := prog_10_method_79_code
def yX8_looks : MethodName := ⟨RX8, "looks", "(II)I"⟩
abbrev cX8_thoughts : ByteArray := prog_10_method_80_code
def yX8_thoughts : MethodName := ⟨RX8, "thoughts", "(II)I"⟩
abbrev cX8_says : ByteArray := prog_10_method_81_code
def yX8_says : MethodName := ⟨RX8, "says", "(II)I"⟩
abbrev cX8_tells : ByteArray := prog_10_method_82_code
def yX8_tells : MethodName := ⟨RX8, "tells", "(II)I"⟩
abbrev cX8_voice : ByteArray := prog_10_method_83_code
def yX8_voice : MethodName := ⟨RX8, "voice", "(III)I"⟩
abbrev cX8_trace : ByteArray := prog_10_method_84_code
def yX8_trace : MethodName := ⟨RX8, "trace", "(I)I"⟩
abbrev cX8_isSheet : ByteArray := prog_10_method_85_code
def yX8_isSheet : MethodName := ⟨RX8, "isSheet", "(I)Z"⟩
abbrev cX8_sheet : ByteArray := prog_10_method_86_code
def yX8_sheet : MethodName := ⟨RX8, "sheet", "(III)I"⟩
abbrev cX8_put : ByteArray := prog_10_method_87_code
def yX8_put : MethodName := ⟨RX8, "put", "(III)I"⟩
abbrev cX8_move : ByteArray := prog_10_method_88_code
def yX8_move : MethodName := ⟨RX8, "move", "(IIIII)I"⟩
abbrev cX8_worlds : ByteArray := prog_10_method_89_code
def yX8_worlds : MethodName := ⟨RX8, "worlds", "(I)I"⟩
abbrev cX8_image : ByteArray := prog_10_method_90_code
def yX8_image : MethodName := ⟨RX8, "image", "()I"⟩
abbrev cX8_restore : ByteArray := prog_10_method_91_code
def yX8_restore : MethodName := ⟨RX8, "restore", "()I"⟩
abbrev cX8_tell : ByteArray := prog_10_method_92_code
def yX8_tell : MethodName := ⟨RX8, "tell", "(I)I"⟩
abbrev cX8_check : ByteArray := prog_10_method_93_code
def yX8_check : MethodName := ⟨RX8, "check", "()I"⟩
abbrev cX8_count : ByteArray := prog_10_method_94_code
def yX8_count : MethodName := ⟨RX8, "count", "(I)I"⟩
abbrev cX8_told : ByteArray := prog_10_method_95_code
def yX8_told : MethodName := ⟨RX8, "told", "(I)I"⟩
def RJ11 : String := "java/lang/Character"
def TJ11 : u_T := fun k => match k with
  | _ => ("", "", "", false)
def tyJ11 : Nat → FieldType := fun k => match k with
  | _ => .int
abbrev wsJ110 : List Cond := u_ws RJ11 TJ11 0
theorem nmJ11 : ∀ a, a < 0 → ∀ b, b < 0 → a ≠ b → (TJ11 a).2.1 ≠ (TJ11 b).2.1 := by decide +kernel
theorem tyJ11_ok : ∀ k, k < 0 → parseFieldDescriptor (TJ11 k).2.2.1 = some (tyJ11 k) := by decide +kernel
abbrev cJ11_isValidCodePoint_9a6ad : ByteArray := prog_11_method_11_code
def yJ11_isValidCodePoint_9a6ad : MethodName := ⟨RJ11, "isValidCodePoint", "(I)Z"⟩
abbrev cJ11_highSurrogate_5068e : ByteArray := prog_11_method_28_code
def yJ11_highSurrogate_5068e : MethodName := ⟨RJ11, "highSurrogate", "(I)C"⟩
abbrev cJ11_lowSurrogate_5068e : ByteArray := prog_11_method_29_code
def yJ11_lowSurrogate_5068e : MethodName := ⟨RJ11, "lowSurrogate", "(I)C"⟩
def RJ6 : String := "java/lang/Integer"
def TJ6 : u_T := fun k => match k with
  | _ => ("", "", "", false)
def tyJ6 : Nat → FieldType := fun k => match k with
  | _ => .int
abbrev wsJ60 : List Cond := u_ws RJ6 TJ6 0
theorem nmJ6 : ∀ a, a < 0 → ∀ b, b < 0 → a ≠ b → (TJ6 a).2.1 ≠ (TJ6 b).2.1 := by decide +kernel
theorem tyJ6_ok : ∀ k, k < 0 → parseFieldDescriptor (TJ6 k).2.2.1 = some (tyJ6 k) := by decide +kernel
abbrev cJ6_bitCount_0f7a4 : ByteArray := prog_12_method_49_code
def yJ6_bitCount_0f7a4 : MethodName := ⟨RJ6, "bitCount", "(I)I"⟩
def RJ13 : String := "java/lang/Long"
def TJ13 : u_T := fun k => match k with
  | _ => ("", "", "", false)
def tyJ13 : Nat → FieldType := fun k => match k with
  | _ => .int
abbrev wsJ130 : List Cond := u_ws RJ13 TJ13 0
theorem nmJ13 : ∀ a, a < 0 → ∀ b, b < 0 → a ≠ b → (TJ13 a).2.1 ≠ (TJ13 b).2.1 := by decide +kernel
theorem tyJ13_ok : ∀ k, k < 0 → parseFieldDescriptor (TJ13 k).2.2.1 = some (tyJ13 k) := by decide +kernel
abbrev cJ13_bitCount_95d88 : ByteArray := prog_13_method_50_code
def yJ13_bitCount_95d88 : MethodName := ⟨RJ13, "bitCount", "(J)I"⟩
def RJ9 : String := "java/lang/Math"
def TJ9 : u_T := fun k => match k with
  | _ => ("", "", "", false)
def tyJ9 : Nat → FieldType := fun k => match k with
  | _ => .int
abbrev wsJ90 : List Cond := u_ws RJ9 TJ9 0
theorem nmJ9 : ∀ a, a < 0 → ∀ b, b < 0 → a ≠ b → (TJ9 a).2.1 ≠ (TJ9 b).2.1 := by decide +kernel
theorem tyJ9_ok : ∀ k, k < 0 → parseFieldDescriptor (TJ9 k).2.2.1 = some (tyJ9 k) := by decide +kernel
abbrev cJ9_max_7cf53 : ByteArray := prog_14_method_65_code
def yJ9_max_7cf53 : MethodName := ⟨RJ9, "max", "(II)I"⟩
abbrev cJ9_min_7cf53 : ByteArray := prog_14_method_69_code
def yJ9_min_7cf53 : MethodName := ⟨RJ9, "min", "(II)I"⟩
def RJ0 : String := "java/lang/String"
def TJ0 : u_T := fun k => match k with
  | _ => ("", "", "", false)
def tyJ0 : Nat → FieldType := fun k => match k with
  | _ => .int
abbrev wsJ00 : List Cond := u_ws RJ0 TJ0 0
theorem nmJ0 : ∀ a, a < 0 → ∀ b, b < 0 → a ≠ b → (TJ0 a).2.1 ≠ (TJ0 b).2.1 := by decide +kernel
theorem tyJ0_ok : ∀ k, k < 0 → parseFieldDescriptor (TJ0 k).2.2.1 = some (tyJ0 k) := by decide +kernel
abbrev cJ0_length_8abf5 : ByteArray := prog_15_method_54_code
def yJ0_length_8abf5 : MethodName := ⟨RJ0, "length", "()I"⟩
abbrev cJ0_indexOf_0f7a4 : ByteArray := prog_15_method_79_code
def yJ0_indexOf_0f7a4 : MethodName := ⟨RJ0, "indexOf", "(I)I"⟩
abbrev cJ0_indexOf_7cf53 : ByteArray := prog_15_method_80_code
def yJ0_indexOf_7cf53 : MethodName := ⟨RJ0, "indexOf", "(II)I"⟩
abbrev cJ0_coder_7d493 : ByteArray := prog_15_method_152_code
def yJ0_coder_7d493 : MethodName := ⟨RJ0, "coder", "()B"⟩
abbrev cJ0_isLatin1_aae02 : ByteArray := prog_15_method_154_code
def yJ0_isLatin1_aae02 : MethodName := ⟨RJ0, "isLatin1", "()Z"⟩
abbrev cJ0_checkBoundsBeginEnd_23922 : ByteArray := prog_15_method_158_code
def yJ0_checkBoundsBeginEnd_23922 : MethodName := ⟨RJ0, "checkBoundsBeginEnd", "(III)V"⟩
def RJ1 : String := "java/lang/StringLatin1"
def TJ1 : u_T := fun k => match k with
  | _ => ("", "", "", false)
def tyJ1 : Nat → FieldType := fun k => match k with
  | _ => .int
abbrev wsJ10 : List Cond := u_ws RJ1 TJ1 0
theorem nmJ1 : ∀ a, a < 0 → ∀ b, b < 0 → a ≠ b → (TJ1 a).2.1 ≠ (TJ1 b).2.1 := by decide +kernel
theorem tyJ1_ok : ∀ k, k < 0 → parseFieldDescriptor (TJ1 k).2.2.1 = some (tyJ1 k) := by decide +kernel
abbrev cJ1_canEncode_9a6ad : ByteArray := prog_16_method_4_code
def yJ1_canEncode_9a6ad : MethodName := ⟨RJ1, "canEncode", "(I)Z"⟩
abbrev cJ1_indexOf_4cfef : ByteArray := prog_16_method_22_code
def yJ1_indexOf_4cfef : MethodName := ⟨RJ1, "indexOf", "([BIII)I"⟩
abbrev cJ1_indexOfChar_4cfef : ByteArray := prog_16_method_23_code
def yJ1_indexOfChar_4cfef : MethodName := ⟨RJ1, "indexOfChar", "([BIII)I"⟩
def RJ2 : String := "java/lang/StringUTF16"
def TJ2 : u_T := fun k => match k with
  | _ => ("", "", "", false)
def tyJ2 : Nat → FieldType := fun k => match k with
  | _ => .int
abbrev wsJ20 : List Cond := u_ws RJ2 TJ2 0
theorem nmJ2 : ∀ a, a < 0 → ∀ b, b < 0 → a ≠ b → (TJ2 a).2.1 ≠ (TJ2 b).2.1 := by decide +kernel
theorem tyJ2_ok : ∀ k, k < 0 → parseFieldDescriptor (TJ2 k).2.2.1 = some (tyJ2 k) := by decide +kernel
abbrev cJ2_getChar_3b067 : ByteArray := prog_17_method_5_code
def yJ2_getChar_3b067 : MethodName := ⟨RJ2, "getChar", "([BI)C"⟩
abbrev cJ2_length_9d52b : ByteArray := prog_17_method_6_code
def yJ2_length_9d52b : MethodName := ⟨RJ2, "length", "([B)I"⟩
abbrev cJ2_indexOf_4cfef : ByteArray := prog_17_method_40_code
def yJ2_indexOf_4cfef : MethodName := ⟨RJ2, "indexOf", "([BIII)I"⟩
abbrev cJ2_indexOfChar_4cfef : ByteArray := prog_17_method_47_code
def yJ2_indexOfChar_4cfef : MethodName := ⟨RJ2, "indexOfChar", "([BIII)I"⟩
abbrev cJ2_indexOfCharUnsafe_4cfef : ByteArray := prog_17_method_48_code
def yJ2_indexOfCharUnsafe_4cfef : MethodName := ⟨RJ2, "indexOfCharUnsafe", "([BIII)I"⟩
abbrev cJ2_indexOfSupplementary_4cfef : ByteArray := prog_17_method_49_code
def yJ2_indexOfSupplementary_4cfef : MethodName := ⟨RJ2, "indexOfSupplementary", "([BIII)I"⟩
abbrev cJ2_checkBoundsBeginEnd_d044e : ByteArray := prog_17_method_93_code
def yJ2_checkBoundsBeginEnd_d044e : MethodName := ⟨RJ2, "checkBoundsBeginEnd", "(II[B)V"⟩
def RJ10 : String := "java/lang/System"
def TJ10 : u_T := fun k => match k with
  | _ => ("", "", "", false)
def tyJ10 : Nat → FieldType := fun k => match k with
  | _ => .int
abbrev wsJ100 : List Cond := u_ws RJ10 TJ10 0
theorem nmJ10 : ∀ a, a < 0 → ∀ b, b < 0 → a ≠ b → (TJ10 a).2.1 ≠ (TJ10 b).2.1 := by decide +kernel
theorem tyJ10_ok : ∀ k, k < 0 → parseFieldDescriptor (TJ10 k).2.2.1 = some (tyJ10 k) := by decide +kernel
def RJ3 : String := "jdk/internal/util/Preconditions"
def TJ3 : u_T := fun k => match k with
  | _ => ("", "", "", false)
def tyJ3 : Nat → FieldType := fun k => match k with
  | _ => .int
abbrev wsJ30 : List Cond := u_ws RJ3 TJ3 0
theorem nmJ3 : ∀ a, a < 0 → ∀ b, b < 0 → a ≠ b → (TJ3 a).2.1 ≠ (TJ3 b).2.1 := by decide +kernel
theorem tyJ3_ok : ∀ k, k < 0 → parseFieldDescriptor (TJ3 k).2.2.1 = some (tyJ3 k) := by decide +kernel
abbrev cJ3_checkFromToIndex_8c36e : ByteArray := prog_19_method_12_code
def yJ3_checkFromToIndex_8c36e : MethodName := ⟨RJ3, "checkFromToIndex", "(IIILjava/util/function/BiFunction;)I"⟩
def RL : String := "OtherHatLaw"
abbrev cL_law : ByteArray := code
def yL_law : MethodName := ⟨RL, "law", "([I)Z"⟩
/-! END names -/
abbrev vwCl : List vw_C := [(RX0, TX0, 6), (RX1, TX1, 3), (RX2, TX2, 4), (RX3, TX3, 2), (RX4, TX4, 11), (RX5, TX5, 3), (RX6, TX6, 4), (RX7, TX7, 8), (RX8, TX8, 26)]
end
section
/-! THEORY: a clean picture of the machine for methods that make no object: ids instead of addresses, two functions for all ints and longs. -/
abbrev oh_St : Type := (Nat → Nat → Int32) × (Nat → Nat → Int64)
abbrev oh_Sh : Type := (Nat × List (Nat × Nat)) ⊕ (Nat ⊕ List Nat)
abbrev oh_L : Type := List (Option Value)
abbrev oh_Q : Type := Option Value → oh_St → Prop
abbrev oh_I : Type := Instr × Nat × Nat × Nat × Nat × Nat × Nat
abbrev oh_C : Type := List oh_I
abbrev oh_T : Type := List (Nat × Option (List Bool) × oh_C)
abbrev oh_E : Type := Nat → List Value → oh_St → oh_Q → Prop
abbrev oh_P : Type := Nat → oh_C → oh_L → List Value → oh_St → Prop
def oh_upi (h : oh_St) (o k : Nat) (v : Int32) : oh_St := (fun a => if a = o then upd (h.1 o) k v else h.1 a, h.2)
def oh_upl (h : oh_St) (o k : Nat) (v : Int64) : oh_St := (h.1, fun a => if a = o then vp_updL (h.2 o) k v else h.2 a)
def oh_upa (h : oh_St) (o : Nat) (f : Nat → Int32) : oh_St := (fun a => if a = o then f else h.1 a, h.2)
def oh_nth {α : Type} : List α → Nat → Option α
  | [], _ => none
  | x :: _, 0 => some x
  | _ :: l, n + 1 => oh_nth l n
theorem oh_nth_eq {α : Type} : ∀ (l : List α) (n : Nat), oh_nth l n = l[n]?
  | [], n => by simp [oh_nth]
  | x :: l, 0 => by simp [oh_nth]
  | x :: l, n + 1 => by simp [oh_nth, oh_nth_eq l n]
def oh_find {α : Type} : List (Nat × α) → Nat → Option α
  | [], _ => none
  | (p, x) :: r, pc => match Nat.beq p pc with
    | true => some x
    | false => oh_find r pc
def oh_get : oh_L → Nat → Option Value
  | [], _ => none
  | o :: _, 0 => o
  | _ :: l, n + 1 => oh_get l n
def oh_put : oh_L → Nat → Option Value → oh_L
  | [], _, _ => []
  | _ :: l, 0, v => v :: l
  | o :: l, n + 1, v => o :: oh_put l n v
def oh_clr (l : oh_L) (i : Nat) : oh_L := match i with
  | 0 => l
  | n + 1 => match oh_get l n with
    | some (.long _) => oh_put l n none
    | some (.double _) => oh_put l n none
    | _ => l
def oh_st1 (l : oh_L) (i : Nat) (v : Value) : oh_L := oh_put (oh_clr l i) i (some v)
def oh_st2 (l : oh_L) (i : Nat) (v : Value) : oh_L := oh_put (oh_put (oh_clr l i) i (some v)) (i + 1) none
def oh_mask : List Bool → oh_L → oh_L
  | true :: m, o :: l => o :: oh_mask m l
  | false :: m, _ :: l => none :: oh_mask m l
  | _, l => l
def oh_xI : List (Nat × List Int32) := [(1000, [-1, 0, 0, 0, 1, 2, 3]), (1001, [10, 11, 12, 13, 0, 20, 0, 0, 30, 0, 0, 0, 0, 0, 40, 0, 0, 50, 0, 0, 0, 0, 0, 60, 0, 0, 70, 71])]
def oh_xL : List (Nat × List Int64) := [(1002, [-6148914691236517206, -3689348814741910324, -1085102592571150096, -71777214294589696, -281470681808896, -4294967296])]
-- words on the stack
def oh_II (st : List Value) (K : Int32 → Int32 → List Value → Prop) : Prop := match st with
  | .int y :: .int x :: r => K x y r
  | _ => False
def oh_I1 (st : List Value) (K : Int32 → List Value → Prop) : Prop := match st with
  | .int x :: r => K x r
  | _ => False
def oh_LL (st : List Value) (K : Int64 → Int64 → List Value → Prop) : Prop := match st with
  | .long y :: .long x :: r => K x y r
  | _ => False
def oh_L1 (st : List Value) (K : Int64 → List Value → Prop) : Prop := match st with
  | .long x :: r => K x r
  | _ => False
def oh_LI (st : List Value) (K : Int64 → Int32 → List Value → Prop) : Prop := match st with
  | .int y :: .long x :: r => K x y r
  | _ => False
def oh_R1 (st : List Value) (K : Nat → List Value → Prop) : Prop := match st with
  | .ref x :: r => K x r
  | _ => False
def oh_RI (st : List Value) (K : Nat → Int32 → List Value → Prop) : Prop := match st with
  | .int y :: .ref x :: r => K x y r
  | _ => False
def oh_RII (st : List Value) (K : Nat → Int32 → Int32 → List Value → Prop) : Prop := match st with
  | .int z :: .int y :: .ref x :: r => K x y z r
  | _ => False
def oh_V1 (st : List Value) (K : Value → List Value → Prop) : Prop := match st with
  | x :: r => match Nat.beq x.category 1 with
    | true => K x r
    | false => False
  | _ => False
def oh_RV (st : List Value) (K : Nat → Value → List Value → Prop) : Prop := match st with
  | v :: .ref x :: r => K x v r
  | _ => False
def oh_Z (st : List Value) (K : Prop) : Prop := match st with
  | [] => K
  | _ => False
theorem oh_II_i {st : List Value} {K : Int32 → Int32 → List Value → Prop} (h : oh_II st K) : ∃ x y r, st = .int y :: .int x :: r ∧ K x y r := by
  unfold oh_II at h
  split at h
  · exact ⟨_, _, _, rfl, h⟩
  · exact h.elim
theorem oh_I1_i {st : List Value} {K : Int32 → List Value → Prop} (h : oh_I1 st K) : ∃ x r, st = .int x :: r ∧ K x r := by
  unfold oh_I1 at h
  split at h
  · exact ⟨_, _, rfl, h⟩
  · exact h.elim
theorem oh_LL_i {st : List Value} {K : Int64 → Int64 → List Value → Prop} (h : oh_LL st K) : ∃ x y r, st = .long y :: .long x :: r ∧ K x y r := by
  unfold oh_LL at h
  split at h
  · exact ⟨_, _, _, rfl, h⟩
  · exact h.elim
theorem oh_L1_i {st : List Value} {K : Int64 → List Value → Prop} (h : oh_L1 st K) : ∃ x r, st = .long x :: r ∧ K x r := by
  unfold oh_L1 at h
  split at h
  · exact ⟨_, _, rfl, h⟩
  · exact h.elim
theorem oh_LI_i {st : List Value} {K : Int64 → Int32 → List Value → Prop} (h : oh_LI st K) : ∃ x y r, st = .int y :: .long x :: r ∧ K x y r := by
  unfold oh_LI at h
  split at h
  · exact ⟨_, _, _, rfl, h⟩
  · exact h.elim
theorem oh_R1_i {st : List Value} {K : Nat → List Value → Prop} (h : oh_R1 st K) : ∃ x r, st = .ref x :: r ∧ K x r := by
  unfold oh_R1 at h
  split at h
  · exact ⟨_, _, rfl, h⟩
  · exact h.elim
theorem oh_RI_i {st : List Value} {K : Nat → Int32 → List Value → Prop} (h : oh_RI st K) : ∃ x y r, st = .int y :: .ref x :: r ∧ K x y r := by
  unfold oh_RI at h
  split at h
  · exact ⟨_, _, _, rfl, h⟩
  · exact h.elim
theorem oh_RII_i {st : List Value} {K : Nat → Int32 → Int32 → List Value → Prop} (h : oh_RII st K) : ∃ x y z r, st = .int z :: .int y :: .ref x :: r ∧ K x y z r := by
  unfold oh_RII at h
  split at h
  · exact ⟨_, _, _, _, rfl, h⟩
  · exact h.elim
theorem oh_V1_i {st : List Value} {K : Value → List Value → Prop} (h : oh_V1 st K) : ∃ x r, st = x :: r ∧ x.category = 1 ∧ K x r := by
  unfold oh_V1 at h
  split at h
  · split at h
    · rename_i hb
      exact ⟨_, _, rfl, Nat.eq_of_beq_eq_true hb, h⟩
    · exact h.elim
  · exact h.elim
theorem oh_RV_i {st : List Value} {K : Nat → Value → List Value → Prop} (h : oh_RV st K) : ∃ x v r, st = v :: .ref x :: r ∧ K x v r := by
  unfold oh_RV at h
  split at h
  · exact ⟨_, _, _, rfl, h⟩
  · exact h.elim
theorem oh_Z_i {st : List Value} {K : Prop} (h : oh_Z st K) : st = [] ∧ K := by
  unfold oh_Z at h
  split at h
  · exact ⟨rfl, h⟩
  · exact h.elim
theorem oh_II_m {st : List Value} {K K' : Int32 → Int32 → List Value → Prop} (hk : ∀ x y r, K x y r → K' x y r) (h : oh_II st K) : oh_II st K' := by
  obtain ⟨x, y, r, rfl, h⟩ := oh_II_i h; exact hk _ _ _ h
theorem oh_I1_m {st : List Value} {K K' : Int32 → List Value → Prop} (hk : ∀ x r, K x r → K' x r) (h : oh_I1 st K) : oh_I1 st K' := by
  obtain ⟨x, r, rfl, h⟩ := oh_I1_i h; exact hk _ _ h
theorem oh_LL_m {st : List Value} {K K' : Int64 → Int64 → List Value → Prop} (hk : ∀ x y r, K x y r → K' x y r) (h : oh_LL st K) : oh_LL st K' := by
  obtain ⟨x, y, r, rfl, h⟩ := oh_LL_i h; exact hk _ _ _ h
theorem oh_L1_m {st : List Value} {K K' : Int64 → List Value → Prop} (hk : ∀ x r, K x r → K' x r) (h : oh_L1 st K) : oh_L1 st K' := by
  obtain ⟨x, r, rfl, h⟩ := oh_L1_i h; exact hk _ _ h
theorem oh_LI_m {st : List Value} {K K' : Int64 → Int32 → List Value → Prop} (hk : ∀ x y r, K x y r → K' x y r) (h : oh_LI st K) : oh_LI st K' := by
  obtain ⟨x, y, r, rfl, h⟩ := oh_LI_i h; exact hk _ _ _ h
theorem oh_R1_m {st : List Value} {K K' : Nat → List Value → Prop} (hk : ∀ x r, K x r → K' x r) (h : oh_R1 st K) : oh_R1 st K' := by
  obtain ⟨x, r, rfl, h⟩ := oh_R1_i h; exact hk _ _ h
theorem oh_RI_m {st : List Value} {K K' : Nat → Int32 → List Value → Prop} (hk : ∀ x y r, K x y r → K' x y r) (h : oh_RI st K) : oh_RI st K' := by
  obtain ⟨x, y, r, rfl, h⟩ := oh_RI_i h; exact hk _ _ _ h
theorem oh_RII_m {st : List Value} {K K' : Nat → Int32 → Int32 → List Value → Prop} (hk : ∀ x y z r, K x y z r → K' x y z r) (h : oh_RII st K) : oh_RII st K' := by
  obtain ⟨x, y, z, r, rfl, h⟩ := oh_RII_i h; exact hk _ _ _ _ h
theorem oh_V1_m {st : List Value} {K K' : Value → List Value → Prop} (hk : ∀ x r, K x r → K' x r) (h : oh_V1 st K) : oh_V1 st K' := by
  obtain ⟨x, r, rfl, hc, h⟩ := oh_V1_i h
  unfold oh_V1
  simp only [hc]
  exact hk _ _ h
theorem oh_RV_m {st : List Value} {K K' : Nat → Value → List Value → Prop} (hk : ∀ x v r, K x v r → K' x v r) (h : oh_RV st K) : oh_RV st K' := by
  obtain ⟨x, v, r, rfl, h⟩ := oh_RV_i h; exact hk _ _ _ h
theorem oh_Z_m {st : List Value} {K K' : Prop} (hk : K → K') (h : oh_Z st K) : oh_Z st K' := by
  obtain ⟨rfl, h⟩ := oh_Z_i h; exact hk h
/-- a compare and its two ways -/
def oh_br (c : ClassFile.Cond) (x y : Int32) (A B : Prop) : Prop := match c with
  | .eq => (x = y → A) ∧ (¬ x = y → B)
  | .ne => (¬ x = y → A) ∧ (x = y → B)
  | .lt => (x < y → A) ∧ (¬ x < y → B)
  | .ge => (y ≤ x → A) ∧ (¬ y ≤ x → B)
  | .gt => (y < x → A) ∧ (¬ y < x → B)
  | .le => (x ≤ y → A) ∧ (¬ x ≤ y → B)
theorem oh_br_m {c : ClassFile.Cond} {x y : Int32} {A B A' B' : Prop} (ha : A → A') (hb : B → B') (h : oh_br c x y A B) : oh_br c x y A' B' := by
  cases c <;> exact ⟨fun q => ha (h.1 q), fun q => hb (h.2 q)⟩
/-- a number that is written out -/
def oh_num (a b : Nat) : Int32 := match b with
  | 0 => Int32.ofNat a
  | _ => -(Int32.ofNat a)
def oh_numL (a b : Nat) : Int64 := match b with
  | 0 => Int64.ofNat a
  | _ => -(Int64.ofNat a)
def oh_tab (J : Nat → Prop) (pc : Nat) (x : Int32) : Nat → List Int → Int → Prop
  | _, [], d => J ((pc : Int) + d).toNat
  | lo, o :: r, d => (x = Int32.ofNat lo → J ((pc : Int) + o).toNat) ∧ (¬ x = Int32.ofNat lo → oh_tab J pc x (lo + 1) r d)
theorem oh_tab_m {J J' : Nat → Prop} {pc : Nat} {x : Int32} (hj : ∀ q, J q → J' q) : ∀ (lo : Nat) (r : List Int) (d : Int), oh_tab J pc x lo r d → oh_tab J' pc x lo r d
  | _, [], _, h => hj _ h
  | lo, o :: r, d, h => ⟨fun q => hj _ (h.1 q), fun q => oh_tab_m hj (lo + 1) r d (h.2 q)⟩
def oh_lkp (J : Nat → Prop) (pc : Nat) (x : Int32) (d : Int) : List (Int × Int) → Prop
  | [] => J ((pc : Int) + d).toNat
  | o :: r => (x = Int32.ofNat o.1.toNat → J ((pc : Int) + o.2).toNat) ∧ (¬ x = Int32.ofNat o.1.toNat → oh_lkp J pc x d r)
theorem oh_lkp_m {J J' : Nat → Prop} {pc : Nat} {x : Int32} {d : Int} (hj : ∀ q, J q → J' q) : ∀ (r : List (Int × Int)), oh_lkp J pc x d r → oh_lkp J' pc x d r
  | [], h => hj _ h
  | o :: r, h => ⟨fun q => hj _ (h.1 q), fun q => oh_lkp_m hj r (h.2 q)⟩
def oh_J (T : oh_T) (P' P : oh_P) (pc : Nat) (l : oh_L) (st : List Value) (h : oh_St) : Prop := match oh_find T pc with
  | some (none, c) => P' pc c l st h
  | some (some mm, c) => P pc c (oh_mask mm l) st h
  | none => False
theorem oh_J_m {T : oh_T} {P' P P2' P2 : oh_P} (h1 : ∀ pc c l st h, P' pc c l st h → P2' pc c l st h) (h2 : ∀ pc c l st h, P pc c l st h → P2 pc c l st h) {pc : Nat} {l : oh_L} {st : List Value} {h : oh_St} (q : oh_J T P' P pc l st h) : oh_J T P2' P2 pc l st h := by
  unfold oh_J at q ⊢
  split at q
  · exact h1 _ _ _ _ _ q
  · exact h2 _ _ _ _ _ q
  · exact q.elim
def oh_csum : List Value → Nat
  | [] => 0
  | v :: r => v.category + oh_csum r
/-- what an answer of each kind is used for -/
def oh_r0 (K : oh_St → Prop) : oh_Q := fun r h => match r with
  | none => K h
  | _ => False
def oh_r1 (K : Int32 → oh_St → Prop) : oh_Q := fun r h => match r with
  | some (.int x) => K x h
  | _ => False
def oh_r2 (K : Int64 → oh_St → Prop) : oh_Q := fun r h => match r with
  | some (.long x) => K x h
  | _ => False
def oh_r3 (K : Nat → oh_St → Prop) : oh_Q := fun r h => match r with
  | some (.ref x) => K x h
  | _ => False
theorem oh_r0_i {K : oh_St → Prop} {r : Option Value} {h : oh_St} (q : oh_r0 K r h) : r = none ∧ K h := by
  unfold oh_r0 at q
  split at q
  · exact ⟨rfl, q⟩
  · exact q.elim
theorem oh_r1_i {K : Int32 → oh_St → Prop} {r : Option Value} {h : oh_St} (q : oh_r1 K r h) : ∃ x, r = some (.int x) ∧ K x h := by
  unfold oh_r1 at q
  split at q
  · exact ⟨_, rfl, q⟩
  · exact q.elim
theorem oh_r2_i {K : Int64 → oh_St → Prop} {r : Option Value} {h : oh_St} (q : oh_r2 K r h) : ∃ x, r = some (.long x) ∧ K x h := by
  unfold oh_r2 at q
  split at q
  · exact ⟨_, rfl, q⟩
  · exact q.elim
theorem oh_r3_i {K : Nat → oh_St → Prop} {r : Option Value} {h : oh_St} (q : oh_r3 K r h) : ∃ x, r = some (.ref x) ∧ K x h := by
  unfold oh_r3 at q
  split at q
  · exact ⟨_, rfl, q⟩
  · exact q.elim
theorem oh_r0_m {K K' : oh_St → Prop} (hk : ∀ h, K h → K' h) (r : Option Value) (h : oh_St) (q : oh_r0 K r h) : oh_r0 K' r h := by
  obtain ⟨rfl, q⟩ := oh_r0_i q; exact hk _ q
theorem oh_r1_m {K K' : Int32 → oh_St → Prop} (hk : ∀ x h, K x h → K' x h) (r : Option Value) (h : oh_St) (q : oh_r1 K r h) : oh_r1 K' r h := by
  obtain ⟨x, rfl, q⟩ := oh_r1_i q; exact hk _ _ q
theorem oh_r2_m {K K' : Int64 → oh_St → Prop} (hk : ∀ x h, K x h → K' x h) (r : Option Value) (h : oh_St) (q : oh_r2 K r h) : oh_r2 K' r h := by
  obtain ⟨x, rfl, q⟩ := oh_r2_i q; exact hk _ _ q
theorem oh_r3_m {K K' : Nat → oh_St → Prop} (hk : ∀ x h, K x h → K' x h) (r : Option Value) (h : oh_St) (q : oh_r3 K r h) : oh_r3 K' r h := by
  obtain ⟨x, rfl, q⟩ := oh_r3_i q; exact hk _ _ q
def oh_callK (E : oh_E) (j k : Nat) (av rest : List Value) (h : oh_St) (K : List Value → oh_St → Prop) : Prop := match k with
  | 0 => E j av h (oh_r0 (fun h' => K rest h'))
  | 1 => E j av h (oh_r1 (fun x h' => K (.int x :: rest) h'))
  | 2 => E j av h (oh_r2 (fun x h' => K (.long x :: rest) h'))
  | 3 => E j av h (oh_r3 (fun x h' => K (.ref x :: rest) h'))
  | _ => False
/-- the top of the stack as arguments in their order, and the rest -/
def oh_split : Nat → List Value → List Value → (List Value → List Value → Prop) → Prop
  | 0, st, acc, K => K acc st
  | n + 1, v :: st, acc, K => oh_split n st (v :: acc) K
  | _ + 1, [], _, _ => False
theorem oh_split_i : ∀ (n : Nat) (st acc : List Value) (K : List Value → List Value → Prop), oh_split n st acc K → n ≤ st.length ∧ K ((st.take n).reverse ++ acc) (st.drop n)
  | 0, st, acc, K, q => ⟨Nat.zero_le _, q⟩
  | n + 1, v :: st, acc, K, q => by
    obtain ⟨h1, h2⟩ := oh_split_i n st (v :: acc) K q
    refine ⟨by simp; omega, ?_⟩
    simpa using h2
  | _ + 1, [], _, _, q => q.elim
theorem oh_split_m {K K' : List Value → List Value → Prop} (hk : ∀ a r, K a r → K' a r) : ∀ (n : Nat) (st acc : List Value), oh_split n st acc K → oh_split n st acc K'
  | 0, _, _, q => hk _ _ q
  | n + 1, v :: st, acc, q => oh_split_m hk n st (v :: acc) q
  | _ + 1, [], _, q => q.elim
def oh_call (E : oh_E) (j n k : Nat) (st : List Value) (h : oh_St) (K : List Value → oh_St → Prop) : Prop := oh_split n st [] (fun av rest => match Nat.ble (oh_csum rest) 8 with
  | true => oh_callK E j k av rest h K
  | false => False)
def oh_Emono (E : oh_E) : Prop := ∀ (j : Nat) (a : List Value) (h : oh_St) (Q Q' : oh_Q), (∀ r h', Q r h' → Q' r h') → E j a h Q → E j a h Q'
theorem oh_callK_i {E : oh_E} {j k : Nat} {av rest : List Value} {h : oh_St} {K : List Value → oh_St → Prop} (q : oh_callK E j k av rest h K) : ∃ Q' : oh_Q, E j av h Q' ∧ ∀ r h', Q' r h' → K (r.toList ++ rest) h' := by
  unfold oh_callK at q
  split at q
  · exact ⟨_, q, fun r h' z => by obtain ⟨rfl, z⟩ := oh_r0_i z; exact z⟩
  · exact ⟨_, q, fun r h' z => by obtain ⟨x, rfl, z⟩ := oh_r1_i z; exact z⟩
  · exact ⟨_, q, fun r h' z => by obtain ⟨x, rfl, z⟩ := oh_r2_i z; exact z⟩
  · exact ⟨_, q, fun r h' z => by obtain ⟨x, rfl, z⟩ := oh_r3_i z; exact z⟩
  · exact q.elim
theorem oh_call_i {E : oh_E} {j n k : Nat} {st : List Value} {h : oh_St} {K : List Value → oh_St → Prop} (q : oh_call E j n k st h K) : n ≤ st.length ∧ oh_csum (st.drop n) ≤ 8 ∧ ∃ Q' : oh_Q, E j (st.take n).reverse h Q' ∧ ∀ r h', Q' r h' → K (r.toList ++ st.drop n) h' := by
  obtain ⟨h1, h2⟩ := oh_split_i _ _ _ _ q
  rw [List.append_nil] at h2
  split at h2
  · rename_i h3
    exact ⟨h1, Nat.le_of_ble_eq_true h3, oh_callK_i h2⟩
  · exact h2.elim
theorem oh_callK_m {E : oh_E} (hE : oh_Emono E) {j k : Nat} {av rest : List Value} {h : oh_St} {K K' : List Value → oh_St → Prop} (hk : ∀ s h, K s h → K' s h) (q : oh_callK E j k av rest h K) : oh_callK E j k av rest h K' := by
  unfold oh_callK at q ⊢
  split at q
  · exact hE _ _ _ _ _ (oh_r0_m (fun h => hk _ _)) q
  · exact hE _ _ _ _ _ (oh_r1_m (fun x h => hk _ _)) q
  · exact hE _ _ _ _ _ (oh_r2_m (fun x h => hk _ _)) q
  · exact hE _ _ _ _ _ (oh_r3_m (fun x h => hk _ _)) q
  · exact q
theorem oh_call_m {E : oh_E} (hE : oh_Emono E) {j n k : Nat} {st : List Value} {h : oh_St} {K K' : List Value → oh_St → Prop} (hk : ∀ s h, K s h → K' s h) (q : oh_call E j n k st h K) : oh_call E j n k st h K' := by
  refine oh_split_m (fun a r z => ?_) n st [] q
  split at z
  · exact oh_callK_m hE hk z
  · exact z.elim
/-- a field read -/
def oh_gf (G : List oh_Sh) (ci k o : Nat) (h : oh_St) (K : Value → Prop) : Prop := match oh_nth G o with
  | some (.inl (c2, sl)) => match Nat.beq c2 ci with
    | true => match oh_nth sl k with
      | some (0, _) => K (.int (h.1 o k))
      | some (1, _) => K (.long (h.2 o k))
      | some (2, j) => K (.ref j)
      | some (3, _) => K (.ref (2000 + (h.1 o k).toNatClampNeg))
      | some (4, _) => K (.int (h.1 o k))
      | _ => False
    | false => False
  | _ => False
theorem oh_gf_m {G : List oh_Sh} {ci k o : Nat} {h : oh_St} {K K' : Value → Prop} (hk : ∀ v, K v → K' v) (q : oh_gf G ci k o h K) : oh_gf G ci k o h K' := by
  unfold oh_gf at q ⊢
  split at q
  · split at q
    · split at q <;> first | exact hk _ q | exact q.elim
    · exact q.elim
  · exact q.elim
/-- a field write -/
def oh_pf (G : List oh_Sh) (ci k o : Nat) (v : Value) (h : oh_St) (K : oh_St → Prop) : Prop := match oh_nth G o with
  | some (.inl (c2, sl)) => match Nat.beq c2 ci with
    | true => match oh_nth sl k, v with
      | some (0, _), .int x => K (oh_upi h o k x)
      | some (1, _), .long x => K (oh_upl h o k x)
      | some (3, _), .ref j => match Nat.ble 2000 j, Nat.ble j 2002 with
        | true, true => K (oh_upi h o k (Int32.ofNat (j - 2000)))
        | _, _ => False
      | some (4, _), .int x => (x = 0 ∨ x = 1) ∧ K (oh_upi h o k x)
      | _, _ => False
    | false => False
  | _ => False
theorem oh_pf_m {G : List oh_Sh} {ci k o : Nat} {v : Value} {h : oh_St} {K K' : oh_St → Prop} (hk : ∀ h, K h → K' h) (q : oh_pf G ci k o v h K) : oh_pf G ci k o v h K' := by
  unfold oh_pf at q ⊢
  split at q
  · split at q
    · split at q
      · exact hk _ q
      · exact hk _ q
      · split at q
        · exact hk _ q
        · exact q.elim
      · exact ⟨q.1, hk _ q.2⟩
      · exact q.elim
    · exact q.elim
  · exact q.elim
/-- an int row read -/
def oh_ia (G : List oh_Sh) (o : Nat) (i : Int32) (h : oh_St) (K : Int32 → Prop) : Prop := match oh_nth G o with
  | some (.inr (.inl n)) => vp_in i n ∧ K (h.1 o i.toNatClampNeg)
  | some _ => False
  | none => match oh_find oh_xI o with
    | some l => vp_in i l.length ∧ K (l.getD i.toNatClampNeg 0)
    | none => False
theorem oh_ia_m {G : List oh_Sh} {o : Nat} {i : Int32} {h : oh_St} {K K' : Int32 → Prop} (hk : ∀ v, K v → K' v) (q : oh_ia G o i h K) : oh_ia G o i h K' := by
  unfold oh_ia at q ⊢
  split at q
  · exact ⟨q.1, hk _ q.2⟩
  · exact q.elim
  · split at q
    · exact ⟨q.1, hk _ q.2⟩
    · exact q.elim
def oh_la (G : List oh_Sh) (o : Nat) (i : Int32) (K : Int64 → Prop) : Prop := match oh_nth G o with
  | some _ => False
  | none => match oh_find oh_xL o with
    | some l => vp_in i l.length ∧ K (l.getD i.toNatClampNeg 0)
    | none => False
theorem oh_la_m {G : List oh_Sh} {o : Nat} {i : Int32} {K K' : Int64 → Prop} (hk : ∀ v, K v → K' v) (q : oh_la G o i K) : oh_la G o i K' := by
  unfold oh_la at q ⊢
  split at q
  · exact q.elim
  · split at q
    · exact ⟨q.1, hk _ q.2⟩
    · exact q.elim
def oh_ias (G : List oh_Sh) (o : Nat) (i x : Int32) (h : oh_St) (K : oh_St → Prop) : Prop := match oh_nth G o with
  | some (.inr (.inl n)) => vp_in i n ∧ K (oh_upi h o i.toNatClampNeg x)
  | _ => False
theorem oh_ias_m {G : List oh_Sh} {o : Nat} {i x : Int32} {h : oh_St} {K K' : oh_St → Prop} (hk : ∀ h, K h → K' h) (q : oh_ias G o i x h K) : oh_ias G o i x h K' := by
  unfold oh_ias at q ⊢
  split at q
  · exact ⟨q.1, hk _ q.2⟩
  · exact q.elim
def oh_aal (G : List oh_Sh) (o : Nat) (i : Int32) (K : Nat → Prop) : Prop := match oh_nth G o with
  | some (.inr (.inr js)) => vp_in i js.length ∧ (match oh_nth js i.toNatClampNeg with
    | some j => K j
    | none => False)
  | _ => False
theorem oh_aal_m {G : List oh_Sh} {o : Nat} {i : Int32} {K K' : Nat → Prop} (hk : ∀ v, K v → K' v) (q : oh_aal G o i K) : oh_aal G o i K' := by
  unfold oh_aal at q ⊢
  split at q
  · refine ⟨q.1, ?_⟩
    have q2 := q.2
    split at q2
    · exact hk _ q2
    · exact q2.elim
  · exact q.elim
def oh_al (G : List oh_Sh) (o : Nat) (K : Int32 → Prop) : Prop := match oh_nth G o with
  | some (.inr (.inl n)) => K (Int32.ofNat n)
  | _ => False
theorem oh_al_m {G : List oh_Sh} {o : Nat} {K K' : Int32 → Prop} (hk : ∀ v, K v → K' v) (q : oh_al G o K) : oh_al G o K' := by
  unfold oh_al at q ⊢
  split at q
  · exact hk _ q
  · exact q.elim
/-- System.arraycopy of int rows -/
def oh_acp (G : List oh_Sh) (st : List Value) (h : oh_St) (K : List Value → oh_St → Prop) : Prop := match st with
  | .int n :: .int dp :: .ref o1 :: .int sp :: .ref o0 :: r => match oh_nth G o0, oh_nth G o1, Nat.ble (oh_csum r) 8 with
    | some (.inr (.inl n0)), some (.inr (.inl n1)), true => (¬ sp < 0 ∧ ¬ dp < 0 ∧ ¬ n < 0 ∧ sp.toNatClampNeg + n.toNatClampNeg ≤ n0 ∧ dp.toNatClampNeg + n.toNatClampNeg ≤ n1) ∧ K r (oh_upa h o1 (va_cpy (h.1 o0) (h.1 o1) sp.toNatClampNeg dp.toNatClampNeg n.toNatClampNeg))
    | _, _, _ => False
  | _ => False
theorem oh_acp_m {G : List oh_Sh} {st : List Value} {h : oh_St} {K K' : List Value → oh_St → Prop} (hk : ∀ s h, K s h → K' s h) (q : oh_acp G st h K) : oh_acp G st h K' := by
  unfold oh_acp at q ⊢
  split at q
  · split at q
    · exact ⟨q.1, hk _ _ q.2⟩
    · exact q.elim
  · exact q.elim
/-- a local read, of a kind -/
def oh_ldI (l : oh_L) (i : Nat) (K : Value → Prop) : Prop := match oh_get l i with
  | some (.int x) => K (.int x)
  | _ => False
def oh_ldL (l : oh_L) (i : Nat) (K : Value → Prop) : Prop := match oh_get l i with
  | some (.long x) => K (.long x)
  | _ => False
def oh_ldA (l : oh_L) (i : Nat) (K : Value → Prop) : Prop := match oh_get l i with
  | some (.ref x) => K (.ref x)
  | _ => False
theorem oh_ldI_i {l : oh_L} {i : Nat} {K : Value → Prop} (h : oh_ldI l i K) : ∃ x, oh_get l i = some (.int x) ∧ K (.int x) := by
  unfold oh_ldI at h
  split at h
  · exact ⟨_, by assumption, h⟩
  · exact h.elim
theorem oh_ldL_i {l : oh_L} {i : Nat} {K : Value → Prop} (h : oh_ldL l i K) : ∃ x, oh_get l i = some (.long x) ∧ K (.long x) := by
  unfold oh_ldL at h
  split at h
  · exact ⟨_, by assumption, h⟩
  · exact h.elim
theorem oh_ldA_i {l : oh_L} {i : Nat} {K : Value → Prop} (h : oh_ldA l i K) : ∃ x, oh_get l i = some (.ref x) ∧ K (.ref x) := by
  unfold oh_ldA at h
  split at h
  · exact ⟨_, by assumption, h⟩
  · exact h.elim
theorem oh_ldI_m {l : oh_L} {i : Nat} {K K' : Value → Prop} (hk : ∀ v, K v → K' v) (h : oh_ldI l i K) : oh_ldI l i K' := by
  obtain ⟨x, e, h⟩ := oh_ldI_i h
  unfold oh_ldI
  rw [e]
  exact hk _ h
theorem oh_ldL_m {l : oh_L} {i : Nat} {K K' : Value → Prop} (hk : ∀ v, K v → K' v) (h : oh_ldL l i K) : oh_ldL l i K' := by
  obtain ⟨x, e, h⟩ := oh_ldL_i h
  unfold oh_ldL
  rw [e]
  exact hk _ h
theorem oh_ldA_m {l : oh_L} {i : Nat} {K K' : Value → Prop} (hk : ∀ v, K v → K' v) (h : oh_ldA l i K) : oh_ldA l i K' := by
  obtain ⟨x, e, h⟩ := oh_ldA_i h
  unfold oh_ldA
  rw [e]
  exact hk _ h
/-- a local written: there is room for it; the new list is laid out at once -/
def oh_putK : oh_L → Nat → Option Value → (oh_L → Prop) → Prop
  | [], _, _, K => K []
  | _ :: l, 0, v, K => K (v :: l)
  | o :: l, n + 1, v, K => oh_putK l n v (fun l' => K (o :: l'))
theorem oh_putK_eq : ∀ (l : oh_L) (i : Nat) (v : Option Value) (K : oh_L → Prop), oh_putK l i v K = K (oh_put l i v)
  | [], _, _, _ => rfl
  | _ :: l, 0, _, _ => rfl
  | o :: l, n + 1, v, K => oh_putK_eq l n v (fun l' => K (o :: l'))
def oh_clrK (l : oh_L) (i : Nat) (K : oh_L → Prop) : Prop := match i with
  | 0 => K l
  | n + 1 => match oh_get l n with
    | some (.long _) => oh_putK l n none K
    | some (.double _) => oh_putK l n none K
    | _ => K l
theorem oh_clrK_eq (l : oh_L) (i : Nat) (K : oh_L → Prop) : oh_clrK l i K = K (oh_clr l i) := by
  unfold oh_clrK oh_clr
  cases i with
  | zero => rfl
  | succ n => dsimp only; split <;> first | rfl | exact oh_putK_eq _ _ _ _
def oh_wr1 (l : oh_L) (i : Nat) (v : Value) (K : oh_L → Prop) : Prop := match Nat.blt i l.length with
  | true => oh_clrK l i (fun l => oh_putK l i (some v) K)
  | false => False
def oh_wr2 (l : oh_L) (i : Nat) (v : Value) (K : oh_L → Prop) : Prop := match Nat.blt (i + 1) l.length with
  | true => oh_clrK l i (fun l => oh_putK l i (some v) (fun l => oh_putK l (i + 1) none K))
  | false => False
theorem oh_wr1_i {l : oh_L} {i : Nat} {v : Value} {K : oh_L → Prop} (h : oh_wr1 l i v K) : i < l.length ∧ K (oh_st1 l i v) := by
  unfold oh_wr1 at h
  split at h
  · rename_i q
    rw [oh_clrK_eq, oh_putK_eq] at h
    exact ⟨Nat.le_of_ble_eq_true q, h⟩
  · exact h.elim
theorem oh_wr2_i {l : oh_L} {i : Nat} {v : Value} {K : oh_L → Prop} (h : oh_wr2 l i v K) : i + 1 < l.length ∧ K (oh_st2 l i v) := by
  unfold oh_wr2 at h
  split at h
  · rename_i q
    rw [oh_clrK_eq, oh_putK_eq, oh_putK_eq] at h
    exact ⟨Nat.le_of_ble_eq_true q, h⟩
  · exact h.elim
theorem oh_wr1_m {l : oh_L} {i : Nat} {v : Value} {K K' : oh_L → Prop} (hk : ∀ l, K l → K' l) (h : oh_wr1 l i v K) : oh_wr1 l i v K' := by
  unfold oh_wr1 at h ⊢
  split at h
  · rw [oh_clrK_eq, oh_putK_eq] at h ⊢
    exact hk _ h
  · exact h.elim
theorem oh_wr2_m {l : oh_L} {i : Nat} {v : Value} {K K' : oh_L → Prop} (hk : ∀ l, K l → K' l) (h : oh_wr2 l i v K) : oh_wr2 l i v K' := by
  unfold oh_wr2 at h ⊢
  split at h
  · rw [oh_clrK_eq, oh_putK_eq, oh_putK_eq] at h ⊢
    exact hk _ h
  · exact h.elim
/-- the receiver is of the class that the call names (99: a text) -/
def oh_rcv (G : List oh_Sh) (e n : Nat) (st : List Value) (K : Prop) : Prop := oh_split n st [] (fun av _ => match av with
  | .ref o :: _ => match Nat.beq e 99 with
    | true => (2000 ≤ (o : Nat) ∧ (o : Nat) ≤ 2002) ∧ K
    | false => match oh_nth G o with
      | some (.inl (c2, _)) => match Nat.beq c2 e with
        | true => K
        | false => False
      | _ => False
  | _ => False)
theorem oh_rcv_m {G : List oh_Sh} {e n : Nat} {st : List Value} {K K' : Prop} (hk : K → K') (q : oh_rcv G e n st K) : oh_rcv G e n st K' := by
  refine oh_split_m (fun a r q => ?_) n st [] q
  split at q
  · split at q
    · exact ⟨q.1, hk q.2⟩
    · split at q
      · split at q
        · exact hk q
        · exact q.elim
      · exact q.elim
  · exact q.elim
theorem oh_rcv_i {G : List oh_Sh} {e n : Nat} {st : List Value} {K : Prop} (q : oh_rcv G e n st K) : ∃ (o : Nat) (r : List Value), (st.take n).reverse = .ref o :: r ∧ ((e = 99 ∧ 2000 ≤ o ∧ o ≤ 2002) ∨ (¬ e = 99 ∧ ∃ sl, oh_nth G o = some (.inl (e, sl)))) ∧ K := by
  obtain ⟨h1, q2⟩ := oh_split_i _ _ _ _ q
  clear q
  rw [List.append_nil] at q2
  have q := q2
  clear q2
  split at q
  · rename_i o r hs
    split at q
    · rename_i h9
      exact ⟨o, r, hs, Or.inl ⟨Nat.eq_of_beq_eq_true h9, q.1.1, q.1.2⟩, q.2⟩
    · rename_i h9
      split at q
      · rename_i c2 sl hg
        split at q
        · rename_i hc
          have := Nat.eq_of_beq_eq_true hc
          subst this
          exact ⟨o, r, hs, Or.inr ⟨fun z => (by rw [z] at h9; cases h9), sl, hg⟩, q⟩
        · exact q.elim
      · exact q.elim
  · exact q.elim
end
section
/-- one instruction: what must hold of the next states (P': go on, P: stop at a cut) -/
def oh_nx (G : List oh_Sh) (T : oh_T) (E : oh_E) (Q : oh_Q) (P' P : oh_P) (pc : Nat) (code : oh_C) (l : oh_L) (st : List Value) (h : oh_St) : Prop := match code with
  | [] => oh_J T P' P pc l st h
  | (i, n, a, b, c, e, _) :: r => match i with
    | .iconst _ => P' (pc + n) r l (.int (oh_num a b) :: st) h
    | .bipush _ => P' (pc + n) r l (.int (oh_num a b) :: st) h
    | .sipush _ => P' (pc + n) r l (.int (oh_num a b) :: st) h
    | .lconst _ => P' (pc + n) r l (.long (oh_numL a b) :: st) h
    | .ldc _ => match b with
      | 0 => P' (pc + n) r l (.int (oh_num a e) :: st) h
      | _ => P' (pc + n) r l (.ref a :: st) h
    | .ldc_w _ => P' (pc + n) r l (.int (oh_num a b) :: st) h
    | .ldc2_w _ => P' (pc + n) r l (.long (oh_numL a b) :: st) h
    | .iload_n _ => oh_ldI l a (fun v => P' (pc + n) r l (v :: st) h)
    | .iload _ => oh_ldI l a (fun v => P' (pc + n) r l (v :: st) h)
    | .lload_n _ => oh_ldL l a (fun v => P' (pc + n) r l (v :: st) h)
    | .lload _ => oh_ldL l a (fun v => P' (pc + n) r l (v :: st) h)
    | .aload_n _ => oh_ldA l a (fun v => P' (pc + n) r l (v :: st) h)
    | .aload _ => oh_ldA l a (fun v => P' (pc + n) r l (v :: st) h)
    | .istore_n _ => oh_I1 st (fun x st => oh_wr1 l a (.int x) (fun l => P' (pc + n) r l st h))
    | .istore _ => oh_I1 st (fun x st => oh_wr1 l a (.int x) (fun l => P' (pc + n) r l st h))
    | .lstore_n _ => oh_L1 st (fun x st => oh_wr2 l a (.long x) (fun l => P' (pc + n) r l st h))
    | .lstore _ => oh_L1 st (fun x st => oh_wr2 l a (.long x) (fun l => P' (pc + n) r l st h))
    | .astore_n _ => oh_R1 st (fun x st => oh_wr1 l a (.ref x) (fun l => P' (pc + n) r l st h))
    | .astore _ => oh_R1 st (fun x st => oh_wr1 l a (.ref x) (fun l => P' (pc + n) r l st h))
    | .iinc _ _ => oh_ldI l a (fun w => match w with
      | .int x => oh_wr1 l a (.int (x + oh_num b c)) (fun l => P' (pc + n) r l st h)
      | _ => False)
    | .iadd => oh_II st (fun x y st => P' (pc + n) r l (.int (x + y) :: st) h)
    | .isub => oh_II st (fun x y st => P' (pc + n) r l (.int (x - y) :: st) h)
    | .imul => oh_II st (fun x y st => P' (pc + n) r l (.int (x * y) :: st) h)
    | .iand => oh_II st (fun x y st => P' (pc + n) r l (.int (x &&& y) :: st) h)
    | .ior => oh_II st (fun x y st => P' (pc + n) r l (.int (x ||| y) :: st) h)
    | .ixor => oh_II st (fun x y st => P' (pc + n) r l (.int (x ^^^ y) :: st) h)
    | .ishl => oh_II st (fun x y st => P' (pc + n) r l (.int (x <<< (y &&& 31)) :: st) h)
    | .ishr => oh_II st (fun x y st => P' (pc + n) r l (.int (x >>> (y &&& 31)) :: st) h)
    | .iushr => oh_II st (fun x y st => P' (pc + n) r l (.int (x.toUInt32 >>> (y.toUInt32 &&& Int32.toUInt32 31)).toInt32 :: st) h)
    | .idiv => oh_II st (fun x y st => ¬ y = 0 ∧ P' (pc + n) r l (.int (x / y) :: st) h)
    | .irem => oh_II st (fun x y st => ¬ y = 0 ∧ P' (pc + n) r l (.int (x - x / y * y) :: st) h)
    | .ineg => oh_I1 st (fun x st => P' (pc + n) r l (.int (-x) :: st) h)
    | .ladd => oh_LL st (fun x y st => P' (pc + n) r l (.long (x + y) :: st) h)
    | .lsub => oh_LL st (fun x y st => P' (pc + n) r l (.long (x - y) :: st) h)
    | .land => oh_LL st (fun x y st => P' (pc + n) r l (.long (x &&& y) :: st) h)
    | .lor => oh_LL st (fun x y st => P' (pc + n) r l (.long (x ||| y) :: st) h)
    | .lxor => oh_LL st (fun x y st => P' (pc + n) r l (.long (x ^^^ y) :: st) h)
    | .lcmp => oh_LL st (fun x y st => P' (pc + n) r l (.int (lg_cmp x y) :: st) h)
    | .lshl => oh_LI st (fun x y st => P' (pc + n) r l (.long (x <<< (y.toInt64 &&& 63)) :: st) h)
    | .lshr => oh_LI st (fun x y st => P' (pc + n) r l (.long (x >>> (y.toInt64 &&& 63)) :: st) h)
    | .lushr => oh_LI st (fun x y st => P' (pc + n) r l (.long (x.toUInt64 >>> (y.toInt64.toUInt64 &&& Int64.toUInt64 63)).toInt64 :: st) h)
    | .i2l => oh_I1 st (fun x st => P' (pc + n) r l (.long x.toInt64 :: st) h)
    | .l2i => oh_L1 st (fun x st => P' (pc + n) r l (.int x.toInt32 :: st) h)
    | .i2b => oh_I1 st (fun x st => P' (pc + n) r l (.int x.toInt8.toInt32 :: st) h)
    | .i2s => oh_I1 st (fun x st => P' (pc + n) r l (.int x.toInt16.toInt32 :: st) h)
    | .i2c => oh_I1 st (fun x st => P' (pc + n) r l (.int (x.toUInt32 % 65536).toInt32 :: st) h)
    | .dup => oh_V1 st (fun v st => P' (pc + n) r l (v :: v :: st) h)
    | .pop => oh_V1 st (fun _ st => P' (pc + n) r l st h)
    | .dup2 => oh_V1 st (fun v st => oh_V1 st (fun w st => P' (pc + n) r l (v :: w :: v :: w :: st) h))
    | .goto _ => oh_J T P' P a l st h
    | .ifCond cd _ => oh_I1 st (fun x st => oh_br cd x 0 (oh_J T P' P a l st h) (P' (pc + n) r l st h))
    | .if_icmp cd _ => oh_II st (fun x y st => oh_br cd x y (oh_J T P' P a l st h) (P' (pc + n) r l st h))
    | .tableswitch d lo _ os => oh_I1 st (fun x st => oh_tab (fun q => oh_J T P' P q l st h) pc x lo.toNat os.toList d)
    | .lookupswitch d ps => oh_I1 st (fun x st => oh_lkp (fun q => oh_J T P' P q l st h) pc x d ps.toList)
    | .getfield _ => oh_R1 st (fun o st => oh_gf G a b o h (fun v => P' (pc + n) r l (v :: st) h))
    | .putfield _ => oh_RV st (fun o v st => oh_pf G a b o v h (fun h => P' (pc + n) r l st h))
    | .getstatic _ => P' (pc + n) r l (.ref a :: st) h
    | .iaload => oh_RI st (fun o i st => oh_ia G o i h (fun v => P' (pc + n) r l (.int v :: st) h))
    | .laload => oh_RI st (fun o i st => oh_la G o i (fun v => P' (pc + n) r l (.long v :: st) h))
    | .aaload => oh_RI st (fun o i st => oh_aal G o i (fun v => P' (pc + n) r l (.ref v :: st) h))
    | .iastore => oh_RII st (fun o i x st => oh_ias G o i x h (fun h => P' (pc + n) r l st h))
    | .arraylength => oh_R1 st (fun o st => oh_al G o (fun v => P' (pc + n) r l (.int v :: st) h))
    | .invokevirtual _ => oh_rcv G e b st (oh_call E a b c st h (fun st h => P' (pc + n) r l st h))
    | .invokestatic _ => match c with
      | 4 => oh_acp G st h (fun st h => P' (pc + n) r l st h)
      | c => oh_call E a b c st h (fun st h => P' (pc + n) r l st h)
    | .ireturn => oh_I1 st (fun x st => oh_Z st (match a with
      | 0 => Q (some (.int x)) h
      | _ => (x = 0 ∨ x = 1) ∧ Q (some (.int x)) h))
    | .lreturn => oh_L1 st (fun x st => oh_Z st (Q (some (.long x)) h))
    | .areturn => oh_R1 st (fun x st => oh_Z st (Q (some (.ref x)) h))
    | .return_ => oh_Z st (Q none h)
    | _ => False
set_option maxHeartbeats 4000000 in
theorem oh_nx_m {G : List oh_Sh} {T : oh_T} {E : oh_E} (hE : oh_Emono E) {Q : oh_Q} {P' P P2' P2 : oh_P} (h1 : ∀ pc c l st h, P' pc c l st h → P2' pc c l st h) (h2 : ∀ pc c l st h, P pc c l st h → P2 pc c l st h) {pc : Nat} {code : oh_C} {l : oh_L} {st : List Value} {h : oh_St} (q : oh_nx G T E Q P' P pc code l st h) : oh_nx G T E Q P2' P2 pc code l st h := by
  rcases code with _ | ⟨⟨i, n, a, b, c, e, ps⟩, r⟩
  · exact oh_J_m h1 h2 q
  · cases i
    all_goals dsimp only [oh_nx] at q ⊢
    all_goals first
      | exact h1 _ _ _ _ _ q
      | exact False.elim q
      | exact oh_J_m h1 h2 q
      | exact q
      | exact oh_ldI_m (fun v => h1 _ _ _ _ _) q
      | exact oh_ldL_m (fun v => h1 _ _ _ _ _) q
      | exact oh_ldA_m (fun v => h1 _ _ _ _ _) q
      | exact oh_I1_m (fun x st => oh_wr1_m (fun l => h1 _ _ _ _ _)) q
      | exact oh_L1_m (fun x st => oh_wr2_m (fun l => h1 _ _ _ _ _)) q
      | exact oh_R1_m (fun x st => oh_wr1_m (fun l => h1 _ _ _ _ _)) q
      | exact oh_II_m (fun x y st => h1 _ _ _ _ _) q
      | exact oh_II_m (fun x y st z => ⟨z.1, h1 _ _ _ _ _ z.2⟩) q
      | exact oh_I1_m (fun x st => h1 _ _ _ _ _) q
      | exact oh_LL_m (fun x y st => h1 _ _ _ _ _) q
      | exact oh_LI_m (fun x y st => h1 _ _ _ _ _) q
      | exact oh_L1_m (fun x st => h1 _ _ _ _ _) q
      | exact oh_V1_m (fun v st => h1 _ _ _ _ _) q
      | exact oh_V1_m (fun v st => oh_V1_m (fun w st => h1 _ _ _ _ _)) q
      | exact oh_I1_m (fun x st => oh_br_m (oh_J_m h1 h2) (h1 _ _ _ _ _)) q
      | exact oh_II_m (fun x y st => oh_br_m (oh_J_m h1 h2) (h1 _ _ _ _ _)) q
      | exact oh_I1_m (fun x st => oh_tab_m (fun q => oh_J_m h1 h2) _ _ _) q
      | exact oh_I1_m (fun x st => oh_lkp_m (fun q => oh_J_m h1 h2) _) q
      | exact oh_R1_m (fun o st => oh_gf_m (fun v => h1 _ _ _ _ _)) q
      | exact oh_RV_m (fun o v st => oh_pf_m (fun h => h1 _ _ _ _ _)) q
      | exact oh_RI_m (fun o i st => oh_ia_m (fun v => h1 _ _ _ _ _)) q
      | exact oh_RI_m (fun o i st => oh_la_m (fun v => h1 _ _ _ _ _)) q
      | exact oh_RI_m (fun o i st => oh_aal_m (fun v => h1 _ _ _ _ _)) q
      | exact oh_RII_m (fun o i x st => oh_ias_m (fun h => h1 _ _ _ _ _)) q
      | exact oh_R1_m (fun o st => oh_al_m (fun v => h1 _ _ _ _ _)) q
      | exact oh_rcv_m (oh_call_m hE (fun s h => h1 _ _ _ _ _)) q
      | (refine oh_ldI_m (fun w => ?_) q; cases w <;> first | exact False.elim | exact oh_wr1_m (fun l => h1 _ _ _ _ _))
      | (split at q <;> first | exact h1 _ _ _ _ _ q | exact oh_acp_m (fun s h => h1 _ _ _ _ _) q | exact oh_call_m hE (fun s h => h1 _ _ _ _ _) q)
/-- more locals are known -/
def oh_more : oh_L → oh_L → Prop
  | [], [] => True
  | o :: l, o' :: l' => (o = none ∨ o = o') ∧ oh_more l l'
  | _, _ => False
/-- from here the method comes to an end with Q: the least that is closed under the instructions, and under knowing more locals -/
def oh_wp (G : List oh_Sh) (T : oh_T) (E : oh_E) (Q : oh_Q) (pc : Nat) (code : oh_C) (l : oh_L) (st : List Value) (h : oh_St) : Prop :=
  ∀ P : oh_P, (∀ pc code l st h, oh_nx G T E Q P P pc code l st h → P pc code l st h) → (∀ pc code l l' st h, oh_more l l' → P pc code l st h → P pc code l' st h) → P pc code l st h
theorem oh_wp_1 {G : List oh_Sh} {T : oh_T} {E : oh_E} (hE : oh_Emono E) {Q : oh_Q} {pc : Nat} {code : oh_C} {l : oh_L} {st : List Value} {h : oh_St} (q : oh_nx G T E Q (oh_wp G T E Q) (oh_wp G T E Q) pc code l st h) : oh_wp G T E Q pc code l st h := by
  intro P hc hw
  exact hc _ _ _ _ _ (oh_nx_m hE (fun _ _ _ _ _ z => z P hc hw) (fun _ _ _ _ _ z => z P hc hw) q)
theorem oh_wp_w {G : List oh_Sh} {T : oh_T} {E : oh_E} {Q : oh_Q} {pc : Nat} {code : oh_C} {l l' : oh_L} {st : List Value} {h : oh_St} (hl : oh_more l l') (q : oh_wp G T E Q pc code l st h) : oh_wp G T E Q pc code l' st h := by
  intro P hc hw
  exact hw _ _ _ _ _ _ hl (q P hc hw)
theorem oh_nx_q {G : List oh_Sh} {T : oh_T} {E : oh_E} {Q Q' : oh_Q} (hQ : ∀ r h, Q r h → Q' r h) {P' P : oh_P} {pc : Nat} {code : oh_C} {l : oh_L} {st : List Value} {h : oh_St} (q : oh_nx G T E Q P' P pc code l st h) : oh_nx G T E Q' P' P pc code l st h := by
  rcases code with _ | ⟨⟨i, n, a, b, c, e, ps⟩, r⟩
  · exact q
  · cases i <;> first
      | exact q
      | exact oh_L1_m (fun x st => oh_Z_m (hQ _ _)) q
      | exact oh_R1_m (fun x st => oh_Z_m (hQ _ _)) q
      | exact oh_Z_m (hQ _ _) q
      | exact oh_I1_m (fun x st => oh_Z_m (by rcases a with _ | a; exact hQ _ _; exact fun z => ⟨z.1, hQ _ _ z.2⟩)) q
theorem oh_wp_m {G : List oh_Sh} {T : oh_T} {E : oh_E} {Q Q' : oh_Q} (hQ : ∀ r h, Q r h → Q' r h) {pc : Nat} {code : oh_C} {l : oh_L} {st : List Value} {h : oh_St} (q : oh_wp G T E Q pc code l st h) : oh_wp G T E Q' pc code l st h := by
  intro P hc hw
  exact q P (fun _ _ _ _ _ z => hc _ _ _ _ _ (oh_nx_q hQ z)) hw
/-- many instructions at once, up to the cuts -/
def oh_run (G : List oh_Sh) (T : oh_T) (E : oh_E) (Q : oh_Q) : Nat → oh_P
  | 0 => oh_wp G T E Q
  | k + 1 => oh_nx G T E Q (oh_run G T E Q k) (oh_wp G T E Q)
theorem oh_run_wp {G : List oh_Sh} {T : oh_T} {E : oh_E} (hE : oh_Emono E) {Q : oh_Q} : ∀ (k : Nat) {pc : Nat} {code : oh_C} {l : oh_L} {st : List Value} {h : oh_St}, oh_run G T E Q k pc code l st h → oh_wp G T E Q pc code l st h
  | 0, _, _, _, _, _, q => q
  | k + 1, _, _, _, _, _, q => oh_wp_1 hE (oh_nx_m hE (fun _ _ _ _ _ z => oh_run_wp hE k z) (fun _ _ _ _ _ z => z) q)
def oh_arg : List Value → oh_L
  | [] => []
  | .long x :: r => some (.long x) :: none :: oh_arg r
  | .double x :: r => some (.double x) :: none :: oh_arg r
  | v :: r => some v :: oh_arg r
def oh_pad : Nat → oh_L → oh_L
  | 0, l => l
  | n + 1, [] => none :: oh_pad n []
  | n + 1, o :: l => o :: oh_pad n l
/-- indexOf over the texts by number -/
def oh_tx : List (List Int32) := [[], [98, 110, 102, 108], [104, 116, 99]]
def oh_ixF (c : Int32) : List Int32 → Nat → Int32
  | [], _ => -1
  | b :: l, k => if b = c then nI k else oh_ixF c l (k + 1)
/-- a method by its number, so many calls deep -/
def oh_mwp (G : List oh_Sh) (M : List (Nat × oh_T)) : Nat → oh_E
  | 0 => fun _ _ _ _ => False
  | d + 1 => fun j a h Q => match oh_nth M j with
    | some (nL, T) => match nL with
      | 0 => match a with
        | [.ref k, .int c] => 5 ≤ d ∧ 2000 ≤ k ∧ k ≤ 2002 ∧ Q (some (.int (oh_ixF c (oh_tx.getD (k - 2000) []) 0))) h
        | _ => False
      | _ => Nat.ble (oh_arg a).length nL = true ∧ oh_J T (oh_wp G T (oh_mwp G M d) Q) (oh_wp G T (oh_mwp G M d) Q) 0 (oh_pad nL (oh_arg a)) [] h
    | none => False
theorem oh_mwp_m {G : List oh_Sh} {M : List (Nat × oh_T)} : ∀ d : Nat, oh_Emono (oh_mwp G M d)
  | 0 => fun _ _ _ _ _ _ q => q
  | d + 1 => fun j a h Q Q' hQ q => by
    unfold oh_mwp at q ⊢
    split at q
    · split at q
      · split at q
        · exact ⟨q.1, q.2.1, q.2.2.1, hQ _ _ q.2.2.2⟩
        · exact q
      · exact ⟨q.1, oh_J_m (fun _ _ _ _ _ => oh_wp_m hQ) (fun _ _ _ _ _ => oh_wp_m hQ) q.2⟩
    · exact q
end
section
/-! PICTURES: ids and addresses; what a method of the class finds around it -/
def oh_V (ad : Nat → Nat) : Value → Value
  | .ref i => .ref (ad i)
  | v => v
theorem oh_V_cat (ad : Nat → Nat) (v : Value) : (oh_V ad v).category = v.category := by cases v <;> rfl
def oh_slv (ad : Nat → Nat) (h : oh_St) (o k : Nat) (q : Nat × Nat) : Value := match q.1 with
  | 0 => .int (h.1 o k)
  | 1 => .long (h.2 o k)
  | 2 => .ref (ad q.2)
  | 3 => .ref (ad (2000 + (h.1 o k).toNatClampNeg))
  | _ => .int (h.1 o k)
def oh_cell (cI cR : ClassId) (ad : Nat → Nat) (h : oh_St) (o : Nat) (s : oh_Sh) : va_E := match s with
  | .inl q => .inr (q.1, q.2.mapIdx (fun k z => oh_slv ad h o k z))
  | .inr (.inl n) => .inl (cI, n, .inl (h.1 o))
  | .inr (.inr js) => .inl (cR, js.length, .inr (.inr (.inr (.inr (fun k => (js[k]?).map ad)))))
def oh_W (cI cR : ClassId) (ad : Nat → Nat) (G : List oh_Sh) (h : oh_St) : va_W := G.mapIdx (fun o s => (ad o, oh_cell cI cR ad h o s))
theorem oh_W_at {cI cR : ClassId} {ad : Nat → Nat} {G : List oh_Sh} {h : oh_St} {o : Nat} {s : oh_Sh} (hs : oh_nth G o = some s) : (oh_W cI cR ad G h)[o]? = some (ad o, oh_cell cI cR ad h o s) := by
  rw [oh_nth_eq] at hs
  simp [oh_W, hs]
theorem oh_W_inv {cI cR : ClassId} {ad : Nat → Nat} {G : List oh_Sh} {h : oh_St} {o : Nat} {q : Nat × va_E} (hq : (oh_W cI cR ad G h)[o]? = some q) : o < G.length ∧ q.1 = ad o := by
  simp only [oh_W, List.getElem?_mapIdx, Option.map_eq_some_iff] at hq
  obtain ⟨s, h1, h2⟩ := hq
  exact ⟨(List.getElem?_eq_some_iff.mp h1).1, by rw [← h2]⟩
theorem oh_W_D {cI cR : ClassId} {ad : Nat → Nat} {G : List oh_Sh} {h : oh_St} {A : Nat → Prop} (hinj : ∀ i j, i < G.length → j < G.length → ad i = ad j → i = j) (hA : ∀ i, i < G.length → A (ad i)) : va_D A (oh_W cI cR ad G h) := by
  refine ⟨fun i j p q hi hj hpq => ?_, fun k q hk => ?_⟩
  · obtain ⟨a1, a2⟩ := oh_W_inv hi
    obtain ⟨b1, b2⟩ := oh_W_inv hj
    exact hinj i j a1 b1 (by rw [← a2, ← b2, hpq])
  · obtain ⟨a1, a2⟩ := oh_W_inv hk
    rw [a2]; exact hA k a1
theorem oh_cell_ne {cI cR : ClassId} {ad : Nat → Nat} {h h' : oh_St} {o : Nat} {s : oh_Sh} (h1 : h'.1 o = h.1 o) (h2 : h'.2 o = h.2 o) : oh_cell cI cR ad h' o s = oh_cell cI cR ad h o s := by
  rcases s with ⟨ci, sl⟩ | n | js
  · simp only [oh_cell]
    congr 3
    funext k z
    simp only [oh_slv, h1, h2]
  · simp only [oh_cell, h1]
  · rfl
/-- one cell changes -/
theorem oh_W_set {cI cR : ClassId} {ad : Nat → Nat} {G : List oh_Sh} {h h' : oh_St} {o : Nat} {s : oh_Sh} {e : va_E} (hs : oh_nth G o = some s) (hne : ∀ a, a ≠ o → h'.1 a = h.1 a ∧ h'.2 a = h.2 a) (he : oh_cell cI cR ad h' o s = e) : (oh_W cI cR ad G h).set o (ad o, e) = oh_W cI cR ad G h' := by
  rw [oh_nth_eq] at hs
  have hl := (List.getElem?_eq_some_iff.mp hs).1
  apply List.ext_getElem?
  intro i
  by_cases hi : i = o
  · subst hi
    rw [List.getElem?_set_self (by simpa [oh_W] using hl)]
    simp [oh_W, hs, he]
  · rw [List.getElem?_set_ne (Ne.symm hi)]
    simp only [oh_W, List.getElem?_mapIdx]
    cases hg : G[i]? with
    | none => rfl
    | some s' => simp only [Option.map_some]; rw [oh_cell_ne (hne i hi).1 (hne i hi).2]
theorem oh_upi_1 (h : oh_St) (o k : Nat) (x : Int32) : (oh_upi h o k x).1 o = upd (h.1 o) k x := by simp [oh_upi]
theorem oh_upi_n (h : oh_St) (o k : Nat) (x : Int32) : ∀ a, a ≠ o → (oh_upi h o k x).1 a = h.1 a ∧ (oh_upi h o k x).2 a = h.2 a := by
  intro a ha
  simp [oh_upi, ha]
theorem oh_upl_1 (h : oh_St) (o k : Nat) (x : Int64) : (oh_upl h o k x).2 o = vp_updL (h.2 o) k x := by simp [oh_upl]
theorem oh_upl_n (h : oh_St) (o k : Nat) (x : Int64) : ∀ a, a ≠ o → (oh_upl h o k x).1 a = h.1 a ∧ (oh_upl h o k x).2 a = h.2 a := by
  intro a ha
  simp [oh_upl, ha]
theorem oh_upa_n (h : oh_St) (o : Nat) (f : Nat → Int32) : ∀ a, a ≠ o → (oh_upa h o f).1 a = h.1 a ∧ (oh_upa h o f).2 a = h.2 a := by
  intro a ha
  simp [oh_upa, ha]
/-- an object's slot is written -/
theorem oh_slots_set {ad : Nat → Nat} {h h' : oh_St} {o k : Nat} {sl : List (Nat × Nat)} {z : Nat × Nat} {v : Value} (hz : oh_nth sl k = some z) (hk : oh_slv ad h' o k z = v) (hne : ∀ j, j ≠ k → h'.1 o j = h.1 o j ∧ h'.2 o j = h.2 o j) : sl.mapIdx (fun k z => oh_slv ad h' o k z) = (sl.mapIdx (fun k z => oh_slv ad h o k z)).set k v := by
  rw [oh_nth_eq] at hz
  have hl := (List.getElem?_eq_some_iff.mp hz).1
  apply List.ext_getElem?
  intro i
  by_cases hi : i = k
  · subst hi
    rw [List.getElem?_set_self (by simpa using hl)]
    simp [hz, hk]
  · rw [List.getElem?_set_ne (Ne.symm hi)]
    simp only [List.getElem?_mapIdx]
    cases sl[i]? with
    | none => rfl
    | some q => simp only [Option.map_some]; congr 1; simp only [oh_slv, (hne i hi).1, (hne i hi).2]
-- locals
theorem oh_get_put : ∀ (l : oh_L) (i : Nat) (o : Option Value) (j : Nat), oh_get (oh_put l i o) j = if j = i ∧ i < l.length then o else oh_get l j
  | [], i, o, j => by simp [oh_put, oh_get]
  | x :: l, 0, o, 0 => by simp [oh_put, oh_get]
  | x :: l, 0, o, j + 1 => by simp [oh_put, oh_get]
  | x :: l, i + 1, o, 0 => by simp [oh_put, oh_get]
  | x :: l, i + 1, o, j + 1 => by
    simp only [oh_put, oh_get, oh_get_put l i o j, List.length_cons]
    congr 1
    simp
theorem oh_put_len : ∀ (l : oh_L) (i : Nat) (o : Option Value), (oh_put l i o).length = l.length
  | [], _, _ => rfl
  | _ :: l, 0, _ => rfl
  | _ :: l, i + 1, o => by simp [oh_put, oh_put_len l i o]
theorem oh_clr_len (l : oh_L) (i : Nat) : (oh_clr l i).length = l.length := by
  unfold oh_clr
  split
  · rfl
  · split <;> simp [oh_put_len]
theorem oh_clr_get {l : oh_L} {i j : Nat} {v : Value} (h : oh_get (oh_clr l i) j = some v) : oh_get l j = some v ∧ ¬ (j + 1 = i ∧ v.category = 2) := by
  unfold oh_clr at h
  split at h
  · exact ⟨h, fun q => by omega⟩
  · rename_i n
    split at h
    · rename_i x hx
      rw [oh_get_put] at h
      split at h
      · cases h
      · rename_i hc
        refine ⟨h, fun q => ?_⟩
        have hj : j = n := by omega
        subst hj
        by_cases hl : j < l.length
        · exact hc ⟨rfl, hl⟩
        · have : oh_get l j = none := by
            clear h hx hc
            induction l generalizing j with
            | nil => rfl
            | cons a l ih =>
              cases j with
              | zero => simp at hl
              | succ j => exact ih (by omega) (by simpa using hl)
          rw [this] at h; cases h
    · rename_i x hx
      rw [oh_get_put] at h
      split at h
      · cases h
      · rename_i hc
        refine ⟨h, fun q => ?_⟩
        have hj : j = n := by omega
        subst hj
        by_cases hl : j < l.length
        · exact hc ⟨rfl, hl⟩
        · have : oh_get l j = none := by
            clear h hx hc
            induction l generalizing j with
            | nil => rfl
            | cons a l ih =>
              cases j with
              | zero => simp at hl
              | succ j => exact ih (by omega) (by simpa using hl)
          rw [this] at h; cases h
    · rename_i h1 h2
      refine ⟨h, fun q => ?_⟩
      have hj : j = n := by omega
      subst hj
      cases v with
      | long x => exact h1 x h
      | double x => exact h2 x h
      | _ => exact absurd q.2 (by simp [Value.category])
/-- the machine's locals hold what is known of them -/
def oh_loc (ad : Nat → Nat) (lsc : Array Slot) (nL : Nat) (l : oh_L) : Prop := l.length = nL ∧ lsc.size = nL ∧ lv_wf lsc ∧ ∀ (i : Nat) (v : Value), oh_get l i = some v → lsc[i]? = some (.val (oh_V ad v))
def oh_asF (ad : Nat → Nat) : Nat → oh_L → List (Nat × Value)
  | _, [] => []
  | k, none :: l => oh_asF ad (k + 1) l
  | k, some v :: l => (k, oh_V ad v) :: oh_asF ad (k + 1) l
theorem oh_asF_get {ad : Nat → Nat} : ∀ (l : oh_L) (k i : Nat) (v : Value), oh_get l i = some v → (k + i, oh_V ad v) ∈ oh_asF ad k l
  | [], _, _, _, h => by cases h
  | none :: l, k, 0, v, h => by cases h
  | none :: l, k, i + 1, v, h => by
    have := oh_asF_get (ad := ad) l (k + 1) i v h
    rw [show k + (i + 1) = k + 1 + i by omega]
    exact this
  | some w :: l, k, 0, v, h => by
    cases h
    exact List.mem_cons_self
  | some w :: l, k, i + 1, v, h => by
    have := oh_asF_get (ad := ad) l (k + 1) i v h
    rw [show k + (i + 1) = k + 1 + i by omega]
    exact List.mem_cons_of_mem _ this
theorem oh_asF_mem {ad : Nat → Nat} : ∀ (l : oh_L) (k : Nat) (q : Nat × Value), q ∈ oh_asF ad k l → ∃ i v, q.1 = k + i ∧ oh_get l i = some v ∧ q.2 = oh_V ad v
  | [], _, _, h => by cases h
  | none :: l, k, q, h => by
    obtain ⟨i, v, h1, h2, h3⟩ := oh_asF_mem l (k + 1) q h
    exact ⟨i + 1, v, by omega, h2, h3⟩
  | some w :: l, k, q, h => by
    rcases List.mem_cons.mp h with rfl | h
    · exact ⟨0, w, rfl, rfl, rfl⟩
    · obtain ⟨i, v, h1, h2, h3⟩ := oh_asF_mem l (k + 1) q h
      exact ⟨i + 1, v, by omega, h2, h3⟩
theorem oh_loc_has {ad : Nat → Nat} {lsc : Array Slot} {nL : Nat} {l : oh_L} (h : oh_loc ad lsc nL l) : lv_has lsc nL (oh_asF ad 0 l) := by
  refine ⟨h.2.1, h.2.2.1, fun q hq => ?_⟩
  obtain ⟨i, v, h1, h2, h3⟩ := oh_asF_mem l 0 q hq
  rw [h1, h3, Nat.zero_add]
  exact h.2.2.2 i v h2
theorem oh_loc_1 {ad : Nat → Nat} {lsc ls' : Array Slot} {nL i : Nat} {l : oh_L} {v : Value} (h : oh_loc ad lsc nL l) (hs : lv_has ls' nL ((i, oh_V ad v) :: (oh_asF ad 0 l).filter (fun q => !(q.1 == i) && !(q.1 + 1 == i && q.2.category == 2)))) : oh_loc ad ls' nL (oh_st1 l i v) := by
  refine ⟨by rw [oh_st1, oh_put_len, oh_clr_len]; exact h.1, hs.1, hs.2.1, fun j w hj => ?_⟩
  rw [oh_st1, oh_get_put] at hj
  split at hj
  · rename_i hc
    obtain ⟨rfl, -⟩ := hc
    cases hj
    exact hs.2.2 _ List.mem_cons_self
  · rename_i hc
    obtain ⟨h1, h2⟩ := oh_clr_get hj
    by_cases hji : j = i
    · subst hji
      exfalso
      refine hc ⟨rfl, ?_⟩
      rw [oh_clr_len]
      have : lsc[j]? = some (.val (oh_V ad w)) := h.2.2.2 j w h1
      have := lv_lt this
      rw [h.1, ← h.2.1]; exact this
    · refine hs.2.2 (j, oh_V ad w) (List.mem_cons_of_mem _ (List.mem_filter.mpr ⟨by simpa using oh_asF_get (ad := ad) l 0 j w h1, ?_⟩))
      simp only [Bool.and_eq_true, Bool.not_eq_true', beq_eq_false_iff_ne, ne_eq, Bool.and_eq_false_iff, oh_V_cat]
      refine ⟨hji, ?_⟩
      by_cases hj1 : j + 1 = i
      · right
        exact fun z => h2 ⟨hj1, z⟩
      · left
        exact hj1
theorem oh_loc_2 {ad : Nat → Nat} {lsc ls' : Array Slot} {nL i : Nat} {l : oh_L} {v : Value} (h : oh_loc ad lsc nL l) (hi : i + 1 < nL) (hs : lv_has ls' nL ((i, oh_V ad v) :: (oh_asF ad 0 l).filter (fun q => !(q.1 == i) && (!(q.1 == i + 1) && !(q.1 + 1 == i && q.2.category == 2))))) : oh_loc ad ls' nL (oh_st2 l i v) := by
  refine ⟨by rw [oh_st2, oh_put_len, oh_put_len, oh_clr_len]; exact h.1, hs.1, hs.2.1, fun j w hj => ?_⟩
  rw [oh_st2, oh_get_put] at hj
  split at hj
  · cases hj
  · rename_i hc0
    rw [oh_get_put] at hj
    split at hj
    · rename_i hc
      obtain ⟨rfl, -⟩ := hc
      cases hj
      exact hs.2.2 _ List.mem_cons_self
    · rename_i hc
      obtain ⟨h1, h2⟩ := oh_clr_get hj
      have hjl : j < l.length := by
        have : lsc[j]? = some (.val (oh_V ad w)) := h.2.2.2 j w h1
        have := lv_lt this
        rw [h.1, ← h.2.1]; exact this
      have hji : ¬ j = i := fun z => hc ⟨z, by rw [oh_clr_len]; omega⟩
      have hji1 : ¬ j = i + 1 := fun z => hc0 ⟨z, by rw [oh_put_len, oh_clr_len]; omega⟩
      refine hs.2.2 (j, oh_V ad w) (List.mem_cons_of_mem _ (List.mem_filter.mpr ⟨by simpa using oh_asF_get (ad := ad) l 0 j w h1, ?_⟩))
      simp only [Bool.and_eq_true, Bool.not_eq_true', beq_eq_false_iff_ne, ne_eq, Bool.and_eq_false_iff, oh_V_cat]
      refine ⟨hji, hji1, ?_⟩
      by_cases hj1 : j + 1 = i
      · right
        exact fun z => h2 ⟨hj1, z⟩
      · left
        exact hj1
theorem oh_more_get : ∀ {l l' : oh_L}, oh_more l l' → ∀ (i : Nat) (v : Value), oh_get l i = some v → oh_get l' i = some v
  | [], [], _, _, _, h => h
  | o :: l, o' :: l', hm, 0, v, h => by
    rcases hm.1 with z | z
    · change o = some v at h
      rw [z] at h; cases h
    · change o' = some v
      rw [← z]; exact h
  | o :: l, o' :: l', hm, i + 1, v, h => oh_more_get hm.2 i v h
  | [], _ :: _, hm, _, _, _ => hm.elim
  | _ :: _, [], hm, _, _, _ => hm.elim
theorem oh_more_len : ∀ {l l' : oh_L}, oh_more l l' → l.length = l'.length
  | [], [], _ => rfl
  | o :: l, o' :: l', hm => by simp [oh_more_len hm.2]
  | [], _ :: _, hm => hm.elim
  | _ :: _, [], hm => hm.elim
theorem oh_more_refl : ∀ l : oh_L, oh_more l l
  | [] => trivial
  | o :: l => ⟨Or.inr rfl, oh_more_refl l⟩
theorem oh_more_mask : ∀ (m : List Bool) (l : oh_L), oh_more (oh_mask m l) l
  | [], [] => trivial
  | [], o :: l => oh_more_refl (o :: l)
  | true :: m, [] => trivial
  | false :: m, [] => trivial
  | true :: m, o :: l => ⟨Or.inr rfl, oh_more_mask m l⟩
  | false :: m, o :: l => ⟨Or.inl rfl, oh_more_mask m l⟩
theorem oh_loc_less {ad : Nat → Nat} {lsc : Array Slot} {nL : Nat} {l l' : oh_L} (hm : oh_more l l') (h : oh_loc ad lsc nL l') : oh_loc ad lsc nL l := ⟨(oh_more_len hm).trans h.1, h.2.1, h.2.2.1, fun i v hv => h.2.2.2 i v (oh_more_get hm i v hv)⟩
theorem oh_pad_len : ∀ (n : Nat) (l : oh_L), l.length ≤ n → (oh_pad n l).length = n
  | 0, [], _ => rfl
  | 0, _ :: _, h => by simp at h
  | n + 1, [], _ => by simp [oh_pad, oh_pad_len n [] (by simp)]
  | n + 1, o :: l, h => by simp [oh_pad, oh_pad_len n l (by simpa using h)]
theorem oh_pad_get : ∀ (n : Nat) (l : oh_L) (i : Nat) (v : Value), oh_get (oh_pad n l) i = some v → oh_get l i = some v
  | 0, l, i, v, h => h
  | n + 1, [], 0, v, h => by cases h
  | n + 1, [], i + 1, v, h => by
    have := oh_pad_get n [] i v h
    cases this
  | n + 1, o :: l, 0, v, h => h
  | n + 1, o :: l, i + 1, v, h => oh_pad_get n l i v h
theorem oh_arg_len (ad : Nat → Nat) : ∀ vs : List Value, (oh_arg vs).length = (lg_sl (vs.map (oh_V ad))).length
  | [] => rfl
  | v :: r => by
    have ih := oh_arg_len ad r
    simp only [lg_sl, List.map_cons, List.flatMap_cons, List.length_append, oh_V_cat] at ih ⊢
    cases v <;> simp [oh_arg, Value.category, ih] <;> omega
theorem oh_arg_get (ad : Nat → Nat) : ∀ (vs : List Value) (k i : Nat) (v : Value), oh_get (oh_arg vs) i = some v → (k + i, oh_V ad v) ∈ lv_args k (vs.map (oh_V ad))
  | [], _, _, _, h => by cases h
  | w :: r, k, i, v, h => by
    have key1 : ∀ (w' : Value), w'.category = 1 → oh_arg (w' :: r) = some w' :: oh_arg r := by
      intro w' hw
      cases w' <;> first | rfl | cases hw
    have key2 : ∀ (w' : Value), w'.category = 2 → oh_arg (w' :: r) = some w' :: none :: oh_arg r := by
      intro w' hw
      cases w' <;> first | rfl | cases hw
    simp only [List.map_cons, lv_args, oh_V_cat]
    rcases lv_cat w with hw | hw
    · rw [key1 w hw] at h
      rw [if_neg (by omega)]
      cases i with
      | zero => cases h; exact List.mem_cons_self
      | succ i =>
        refine List.mem_cons_of_mem _ ?_
        rw [show k + (i + 1) = k + 1 + i by omega]
        exact oh_arg_get ad r (k + 1) i v h
    · rw [key2 w hw] at h
      rw [if_pos hw]
      cases i with
      | zero => cases h; exact List.mem_cons_self
      | succ i =>
        cases i with
        | zero => cases h
        | succ i =>
          refine List.mem_cons_of_mem _ ?_
          rw [show k + (i + 1 + 1) = k + 2 + i by omega]
          exact oh_arg_get ad r (k + 2) i v h
end
section
/-! WHAT STANDS AROUND: the tables' words, statics, texts; checks of a method's code by program -/
def oh_nest : Cond → Bool
  | .fieldLinkNest _ _ _ _ _ _ => true
  | .methodLinkNest _ _ _ _ => true
  | _ => false
def oh_okw (w : Cond) : Bool := (w.onTables && w.keeps) || oh_nest w
theorem oh_okw_on {w : Cond} (h : oh_okw w = true) : w.onTables = true := by
  unfold oh_okw at h
  rcases (Bool.or_eq_true _ _).mp h with h | h
  · exact ((Bool.and_eq_true _ _).mp h).1
  · cases w <;> first | rfl | cases h
theorem oh_okw_warm {w : Cond} (h : oh_okw w = true) {s U : State} (hW : s.WarmedH U.vm) (hw : va_Nw w s) : va_Nw w U := by
  unfold oh_okw at h
  rcases (Bool.or_eq_true _ _).mp h with h | h
  · exact word_at hW (Or.inl h) hw
  · cases w <;> first | cases h; done | exact va_Nw.warmF hW hw | exact va_Nw.warmM hW hw
def oh_B (b0 : Nat) : Nat → Prop := fun q => b0 ≤ q
def oh_xN : List (Nat × String × String × String) := [(1000, "OtherHat", "ABOVE", "[I"), (1001, "OtherHat$Voices", "OWN", "[I"), (1002, "OtherHat", "BLACK_FOR", "[J")]
def oh_xS : List (Nat × Nat × String) := [(23, 0, ""), (33, 1, "bnfl"), (35, 2, "htc")]
def oh_Amb (D : va_G) (cI cR : ClassId) (ad : Nat → Nat) (b0 : Nat) (U : State) (H : Heap) : Prop :=
  va_K D vwCl [(cI, .int), (cR, .object RX5)] U ∧ (∀ w ∈ lw_tbl, oh_okw w = true → va_Nw w U) ∧
  (∀ x q, oh_find oh_xN x = some q → va_Z q.1 q.2.1 q.2.2 (.ref (ad x)) (oh_B b0) U H) ∧
  (∀ x l, oh_find oh_xI x = some l → va_T .int (ad x) l.length (fun j => .int (l.getD j 0)) (oh_B b0) U H) ∧
  (∀ x l, oh_find oh_xL x = some l → va_T .long (ad x) l.length (fun j => .long (l.getD j 0)) (oh_B b0) U H) ∧
  (∀ q ∈ oh_xS, vk_R RX2 q.1 q.2.2 (ad (2000 + q.2.1)) U) ∧
  vk_S 3 (oh_tx.map List.length) oh_tx (fun i => ad (2000 + i)) (fun i => ad (3000 + i)) (oh_B b0) U H ∧
  (va_Z "java/lang/String" "COMPACT_STRINGS" "Z" (.int 1) (oh_B b0) U H)
theorem oh_Amb_go {D : va_G} {cI cR : ClassId} {ad : Nat → Nat} {b0 : Nat} {s U : State} {H H1 : Heap} (h : oh_Amb D cI cR ad b0 s H) (hW : s.WarmedH U.vm) (hq : ∀ a : Nat, a < H.size → ¬ oh_B b0 a → H1[a]? = H[a]?) : oh_Amb D cI cR ad b0 U H1 := by
  obtain ⟨h1, h2, h3, h4, h5, h6, h7, h8⟩ := h
  exact ⟨va_K.moved hW.alike h1, fun w hw ho => oh_okw_warm ho hW (h2 w hw ho), fun x q hx => va_Z.moved hW.alike ((h3 x q hx).kept hq), fun x q hx => va_T.moved hW.alike ((h4 x q hx).kept hq), fun x q hx => va_T.moved hW.alike ((h5 x q hx).kept hq), fun q hx => vk_R.warm hW (h6 q hx), vk_S.moved hW.alike (h7.kept hq), va_Z.moved hW.alike (h8.kept hq)⟩
theorem oh_Amb_same {D : va_G} {cI cR : ClassId} {ad : Nat → Nat} {b0 : Nat} {u U : State} {H : Heap} (h : oh_Amb D cI cR ad b0 u H) (hv : u.vm = U.vm) : oh_Amb D cI cR ad b0 U H := by
  have hal : u.vm.Alike U.vm := by rw [hv]; exact Vm.Alike.refl U.vm
  obtain ⟨h1, h2, h3, h4, h5, h6, h7, h8⟩ := h
  exact ⟨va_K.moved hal h1, fun w hw ho => va_Nw.same (oh_okw_on ho) hv (h2 w hw ho), fun x q hx => va_Z.moved hal (h3 x q hx), fun x q hx => va_T.moved hal (h4 x q hx), fun x q hx => va_T.moved hal (h5 x q hx), fun q hx => vk_R.same hv.symm (h6 q hx), vk_S.moved hal h7, va_Z.moved hal h8⟩
def oh_A (ad : Nat → Nat) (G : List oh_Sh) (sz : Nat) : Nat → Prop := fun q => (∃ i, i < G.length ∧ q = ad i) ∨ sz ≤ q
def oh_Pc (D : va_G) (cI cR : ClassId) (ad : Nat → Nat) (b0 : Nat) (G : List oh_Sh) (h : oh_St) (av : List Value) (sz : Nat) : Array Value → State → Prop := fun v U => v = (av.map (oh_V ad)).toArray ∧ U.heap.size = sz ∧ va_P D vwCl (oh_W cI cR ad G h) U.heap ∧ oh_Amb D cI cR ad b0 U U.heap
def oh_Qc (D : va_G) (cI cR : ClassId) (ad : Nat → Nat) (G : List oh_Sh) (Q : oh_Q) (sz : Nat) : Array Value → State → Outcome → State → Prop := fun _ st oc t => (∃ (r : Option Value) (h' : oh_St), oc = .returned (r.map (oh_V ad)) ∧ Q r h' ∧ va_P D vwCl (oh_W cI cR ad G h') t.heap) ∧ va_F (oh_A ad G sz) st t
theorem oh_Pc_blind {D : va_G} {cI cR : ClassId} {ad : Nat → Nat} {b0 : Nat} {G : List oh_Sh} {h : oh_St} {av : List Value} {sz : Nat} : FrameBlind (oh_Pc D cI cR ad b0 G h av sz) := fun _ _ _ _ q => ⟨q.1, q.2.1, q.2.2.1, oh_Amb_same q.2.2.2 rfl⟩
def oh_rm (d : Nat) : Room := { frames := d, cells := 0, slots := 0, locals := 60 * d }
/-- behind a call -/
theorem oh_callW {p : Program} {l : Launch} {e : Env} {R : Room} {s : State} {m : MethodId} {args : Array Value} {below : List Frame} {meth : Method} {c : Code} {H : Heap} {locs : List Loc} {cells slots : Nat} {Q : State → Prop} {pc : Nat} {ls : Array Slot} {rest st0 : List Value} {a : Array Value} {A0 : Nat → Prop} {H0 : Heap} {D : va_G} {cI cR : ClassId} {ad : Nat → Nat} {G : List oh_Sh} {Q' : oh_Q}
    (hr : va_Run p l e R s m args below meth c H locs cells slots 0 0 (F0 m pc ls st0) rest (oh_Qc D cI cR ad G Q' H.size a) (oh_A ad G H.size)) (hS : va_S A0 H0 H locs) (hA : ∀ q, oh_A ad G H.size q → A0 q)
    (kk : ∀ (r : Option Value) (h' : oh_St) (H1 : Heap) (locs1 : List Loc), Q' r h' → va_P D vwCl (oh_W cI cR ad G h') H1 → va_S A0 H0 H1 locs1 → W p l e R s m args below meth c H1 locs1 cells slots Q (F0 m (pc + 3) ls ((r.map (oh_V ad)).toList ++ rest))) : W p l e R s m args below meth c H locs cells slots Q (F0 m pc ls st0) := by
  intro T hT X
  obtain ⟨v, st₀, t, T', L, h0, X', hL, e1, e2, ⟨⟨r, h', hv, hp, hb⟩, hz, hk⟩, st⟩ := hr T hT X
  cases hv
  rw [h0] at hz hk
  obtain ⟨t2, a1, b1⟩ := kk r h' T'.heap (locs ++ L) hp (by rw [e1]; exact hb)
    ⟨Nat.le_trans hS.1 (by rw [e1]; exact hz), fun q h1 h2 => by rw [e1, hk q (Nat.lt_of_lt_of_le h1 hS.1) (fun z => h2 (hA q z))]; exact hS.2.1 q h1 h2, fun q hq => by
      rcases List.mem_append.mp hq with h | h
      · exact hS.2.2 q h
      · exact hA _ (hL q h)⟩ T' rfl X'
  exact ⟨t2, st t2 a1, b1⟩
-- checks
abbrev oh_MI : Type := MethodName × ByteArray × Nat × Option FieldType × Bool × Nat × Nat × Nat × Nat
def oh_wd (ps : Nat) (w : Cond) : Bool := (match oh_nth lw_tbl ps with
  | some w' => decide (w' = w)
  | none => false) && oh_okw w
theorem oh_wd_i {ps : Nat} {w : Cond} (h : oh_wd ps w = true) : w ∈ lw_tbl ∧ oh_okw w = true := by
  unfold oh_wd at h
  obtain ⟨h1, h2⟩ := (Bool.and_eq_true _ _).mp h
  split at h1
  · rename_i w' hw
    have := of_decide_eq_true h1
    subst this
    rw [oh_nth_eq] at hw
    exact ⟨List.mem_of_getElem? hw, h2⟩
  · cases h1
def oh_ln (i : Instr) (n : Nat) : Bool := match i with
  | .bipush _ => Nat.beq n 2
  | .ldc _ => Nat.beq n 2
  | .iload _ => Nat.beq n 2
  | .lload _ => Nat.beq n 2
  | .aload _ => Nat.beq n 2
  | .istore _ => Nat.beq n 2
  | .lstore _ => Nat.beq n 2
  | .astore _ => Nat.beq n 2
  | .sipush _ => Nat.beq n 3
  | .ldc_w _ => Nat.beq n 3
  | .ldc2_w _ => Nat.beq n 3
  | .iinc _ _ => Nat.beq n 3
  | .goto _ => Nat.beq n 3
  | .ifCond _ _ => Nat.beq n 3
  | .if_icmp _ _ => Nat.beq n 3
  | .getfield _ => Nat.beq n 3
  | .putfield _ => Nat.beq n 3
  | .getstatic _ => Nat.beq n 3
  | .invokevirtual _ => Nat.beq n 3
  | .invokestatic _ => Nat.beq n 3
  | .tableswitch _ _ _ _ => true
  | .lookupswitch _ _ => true
  | _ => Nat.beq n 1
def oh_ckF (own : String) (x a b ps : Nat) : Bool := match oh_nth vwCl a with
  | some (C, T, N) => Nat.blt b N && decide ((T b).1 = C) && (oh_wd ps (.fieldLink own x C (T b).2.1 (T b).2.2.1) || oh_wd ps (.fieldLinkNest own x C (T b).2.1 (T b).2.2.1 "OtherHat"))
  | none => false
def oh_ckN (a b : Nat) : Bool := match oh_nth vwCl a with
  | some (_, T, _) => !(T b).2.2.2
  | none => false
def oh_ckY (own : String) (x : Nat) (y : MethodName) (ps : Nat) : Bool := oh_wd ps (.methodLink own x y) || oh_wd ps (.methodLinkNest own x y "OtherHat")
def oh_ckC (e : Nat) (cls : String) : Bool := match Nat.beq e 99 with
  | true => decide (cls = "java/lang/String")
  | false => match oh_nth vwCl e with
    | some (C, _, _) => decide (C = cls)
    | none => false
def oh_ckI (mi : List oh_MI) (own : String) (ret : Option FieldType) (pc : Nat) (i : Instr) (a b c e ps : Nat) : Bool := match i with
  | .iconst v => decide (Int32.ofInt v = oh_num a b)
  | .bipush v => decide ((Int8.ofInt v).toInt32 = oh_num a b)
  | .sipush v => decide ((Int16.ofInt v).toInt32 = oh_num a b)
  | .lconst v => decide (Int64.ofNat v.1 = oh_numL a b)
  | .iload_n k => Nat.beq k.1 a
  | .iload k => Nat.beq k a
  | .lload_n k => Nat.beq k.1 a
  | .lload k => Nat.beq k a
  | .aload_n k => Nat.beq k.1 a
  | .aload k => Nat.beq k a
  | .istore_n k => Nat.beq k.1 a
  | .istore k => Nat.beq k a
  | .lstore_n k => Nat.beq k.1 a
  | .lstore k => Nat.beq k a
  | .astore_n k => Nat.beq k.1 a
  | .astore k => Nat.beq k a
  | .iinc k v => Nat.beq k a && decide (Int32.ofInt v = oh_num b c)
  | .goto o => decide ((pc : Int) + o = (a : Int))
  | .ifCond _ o => decide ((pc : Int) + o = (a : Int))
  | .if_icmp _ o => decide ((pc : Int) + o = (a : Int))
  | .getfield x => oh_ckF own x a b ps
  | .putfield x => oh_ckF own x a b ps && oh_ckN a b
  | .getstatic x => match oh_find oh_xN a with
    | some q => oh_wd ps (.fieldLink own x q.1 q.2.1 q.2.2) || oh_wd ps (.fieldLinkNest own x q.1 q.2.1 q.2.2 "OtherHat")
    | none => false
  | .ldc x => match b with
    | 0 => oh_wd ps (.constant own x (oh_num a e))
    | _ => decide (own = RX2) && (match oh_nth oh_xS c with
      | some q => decide (q.1 = x) && decide (2000 + q.2.1 = a)
      | none => false)
  | .ldc_w x => oh_wd ps (.constant own x (oh_num a b))
  | .ldc2_w x => oh_wd ps (.constantLong own x (oh_numL a b))
  | .invokevirtual x => match oh_nth mi a with
    | some q => !q.2.2.2.2.1 && oh_ckY own x q.1 ps && decide ((parseMethodDescriptor q.1.desc).map (fun d => d.parameters.length) = some (b - 1)) && Nat.blt 0 b && oh_ckC e q.1.cls
    | none => false
  | .invokestatic x => match c with
    | 4 => oh_wd ps (.methodLink own x arraycopyName) && oh_wd a (.native arraycopyName) && oh_wd b (.static arraycopyName) && oh_wd e (.initialized "java/lang/System")
    | _ => match oh_nth mi a with
      | some q => q.2.2.2.2.1 && oh_ckY own x q.1 ps && decide ((parseMethodDescriptor q.1.desc).map (fun d => d.parameters.length) = some b)
      | none => false
  | .ireturn => match a with
    | 0 => decide (ret = some .int)
    | _ => decide (ret = some .boolean)
  | .lreturn => decide (ret = some .long)
  | .areturn => match ret with
    | some (.object _) => true
    | _ => false
  | .return_ => decide (ret = none)
  | .tableswitch d lo hi os => decide (0 ≤ lo) && decide (hi ≤ 2147483647) && decide (hi = lo + os.toList.length - 1) && decide (0 ≤ (pc : Int) + d) && os.toList.all (fun o => decide (0 ≤ (pc : Int) + o))
  | .lookupswitch d ps => decide (0 ≤ (pc : Int) + d) && ps.toList.all (fun o => decide (0 ≤ (pc : Int) + o.2) && decide (0 ≤ o.1) && decide (o.1 ≤ 2147483647)) && (ps.toList.zip (ps.toList.drop 1)).all (fun (a, next) => a.1 < next.1)
  | _ => true
def oh_ckS (mi : List oh_MI) (own : String) (ret : Option FieldType) (bytes : ByteArray) : Nat → oh_C → Bool
  | _, [] => true
  | pc, (i, n, a, b, c, e, ps) :: r => decide (decode bytes pc = .ok (i, n)) && oh_ln i n && oh_ckI mi own ret pc i a b c e ps && oh_ckS mi own ret bytes (pc + n) r
theorem oh_ckS_i {mi : List oh_MI} {own : String} {ret : Option FieldType} {bytes : ByteArray} {pc : Nat} {i : Instr} {n a b c e ps : Nat} {r : oh_C} (h : oh_ckS mi own ret bytes pc ((i, n, a, b, c, e, ps) :: r) = true) : decode bytes pc = .ok (i, n) ∧ oh_ln i n = true ∧ oh_ckI mi own ret pc i a b c e ps = true ∧ oh_ckS mi own ret bytes (pc + n) r = true := by
  unfold oh_ckS at h
  simp only [Bool.and_eq_true] at h
  exact ⟨of_decide_eq_true h.1.1.1, h.1.1.2, h.1.2, h.2⟩
def oh_ckT (mi : List oh_MI) (own : String) (ret : Option FieldType) (bytes : ByteArray) : oh_T → Bool
  | [] => true
  | (pc, _, c) :: r => oh_ckS mi own ret bytes pc c && oh_ckT mi own ret bytes r
theorem oh_ckT_i {mi : List oh_MI} {own : String} {ret : Option FieldType} {bytes : ByteArray} : ∀ {T : oh_T}, oh_ckT mi own ret bytes T = true → ∀ {pc : Nat} {q : Option (List Bool) × oh_C}, oh_find T pc = some q → oh_ckS mi own ret bytes pc q.2 = true
  | [], _, _, _, h => by cases h
  | (p, mm, c) :: r, hc, pc, q, h => by
    unfold oh_ckT at hc
    obtain ⟨h1, h2⟩ := (Bool.and_eq_true _ _).mp hc
    unfold oh_find at h
    split at h
    · rename_i hb
      have := Nat.eq_of_beq_eq_true hb
      subst this
      cases h
      exact h1
    · exact oh_ckT_i h2 h
def oh_ckM (q : oh_MI) : Bool := match q with
  | (y, bs, mL, ret, stc, p1, p2, p3, p4) => oh_wd p1 (.code y bs mL ret) && (match stc with
      | true => oh_wd p2 (.static y)
      | false => oh_wd p2 (.instanceMethod y) && oh_wd p3 (.selects y.cls y y)) && oh_wd p4 (.initialized y.cls) && decide (y.cls ≠ "java/lang/invoke/MethodHandle") && decide (y.cls ≠ "java/lang/invoke/VarHandle") && plainName y.cls && Nat.ble mL 40
/-- the shapes agree with the classes' tables -/
def oh_kd (k : Nat) (d : String) : Bool := match k with
  | 0 => decide (d = "I")
  | 1 => decide (d = "J")
  | 2 => true
  | 3 => decide (d = "Ljava/lang/String;")
  | 4 => decide (d = "Z")
  | _ => false
def oh_kds (T : u_T) : Nat → List (Nat × Nat) → Bool
  | _, [] => true
  | k, z :: r => oh_kd z.1 (T k).2.2.1 && oh_kds T (k + 1) r
theorem oh_kds_i {T : u_T} : ∀ {sl : List (Nat × Nat)} {k : Nat}, oh_kds T k sl = true → ∀ {j : Nat} {z : Nat × Nat}, oh_nth sl j = some z → oh_kd z.1 (T (k + j)).2.2.1 = true
  | [], _, _, _, _, h => by cases h
  | z :: r, k, hk, 0, z', h => by
    unfold oh_kds at hk
    cases h
    exact ((Bool.and_eq_true _ _).mp hk).1
  | z :: r, k, hk, j + 1, z', h => by
    unfold oh_kds at hk
    have := oh_kds_i ((Bool.and_eq_true _ _).mp hk).2 (j := j) h
    rw [show k + (j + 1) = k + 1 + j by omega]
    exact this
def oh_ckG (G : List oh_Sh) : Bool := G.all (fun s => match s with
  | .inl (ci, sl) => match oh_nth vwCl ci with
    | some (_, T, N) => Nat.beq sl.length N && oh_kds T 0 sl
    | none => false
  | .inr (.inl _) => true
  | .inr (.inr js) => Nat.ble js.length 1000)
theorem oh_ckG_j {G : List oh_Sh} (h : oh_ckG G = true) {o : Nat} {js : List Nat} (hg : oh_nth G o = some (.inr (.inr js))) : js.length ≤ 1000 := by
  rw [oh_nth_eq] at hg
  have h1 := List.all_eq_true.mp h _ (List.mem_of_getElem? hg)
  exact Nat.le_of_ble_eq_true h1
theorem oh_ckG_i {G : List oh_Sh} (h : oh_ckG G = true) {o ci : Nat} {sl : List (Nat × Nat)} (hg : oh_nth G o = some (.inl (ci, sl))) : ∃ C T N, oh_nth vwCl ci = some (C, T, N) ∧ sl.length = N ∧ oh_kds T 0 sl = true := by
  rw [oh_nth_eq] at hg
  have h1 := List.all_eq_true.mp h _ (List.mem_of_getElem? hg)
  dsimp only at h1
  split at h1
  · rename_i C T N hn
    obtain ⟨h2, h3⟩ := (Bool.and_eq_true _ _).mp h1
    exact ⟨C, T, N, hn, Nat.eq_of_beq_eq_true h2, h3⟩
  · cases h1
/-- of each class: its fields' types, their names apart, its layout's words -/
theorem oh_cls {ci : Nat} {C : String} {T : u_T} {N : Nat} (h : oh_nth vwCl ci = some (C, T, N)) : (∃ ty0 : Nat → FieldType, ∀ k, k < N → parseFieldDescriptor (T k).2.2.1 = some (ty0 k)) ∧ ∀ a, a < N → ∀ b, b < N → a ≠ b → (T a).2.1 ≠ (T b).2.1 := by
  rw [oh_nth_eq] at h
  match ci, h with
  | 0, h => cases h; exact ⟨⟨_, tyX0_ok⟩, nmX0⟩
  | 1, h => cases h; exact ⟨⟨_, tyX1_ok⟩, nmX1⟩
  | 2, h => cases h; exact ⟨⟨_, tyX2_ok⟩, nmX2⟩
  | 3, h => cases h; exact ⟨⟨_, tyX3_ok⟩, nmX3⟩
  | 4, h => cases h; exact ⟨⟨_, tyX4_ok⟩, nmX4⟩
  | 5, h => cases h; exact ⟨⟨_, tyX5_ok⟩, nmX5⟩
  | 6, h => cases h; exact ⟨⟨_, tyX6_ok⟩, nmX6⟩
  | 7, h => cases h; exact ⟨⟨_, tyX7_ok⟩, nmX7⟩
  | 8, h => cases h; exact ⟨⟨_, tyX8_ok⟩, nmX8⟩
  | k + 9, h => simp [vwCl] at h
def oh_clw : Bool := (vwCl.flatMap (fun q => u_ws q.1 q.2.1 q.2.2)).all (fun w => decide (w ∈ tables_1) && oh_okw w)
theorem oh_clw_ok : oh_clw = true := by decide +kernel
theorem oh_cls_w {ci : Nat} {C : String} {T : u_T} {N : Nat} (h : oh_nth vwCl ci = some (C, T, N)) : ∀ w ∈ u_ws C T N, w ∈ lw_tbl ∧ oh_okw w = true := by
  intro w hw
  rw [oh_nth_eq] at h
  have h1 := List.all_eq_true.mp oh_clw_ok w (List.mem_flatMap.mpr ⟨_, List.mem_of_getElem? h, hw⟩)
  obtain ⟨h2, h3⟩ := (Bool.and_eq_true _ _).mp h1
  exact ⟨List.mem_append_right _ (of_decide_eq_true h2), h3⟩
end
section
/-! SOUNDNESS: the clean picture's steps are the machine's -/
def oh_Pm (p : Program) (l : Launch) (e : Env) (R : Room) (s : State) (m : MethodId) (args : Array Value) (below : List Frame) (meth : Method) (c : Code) (D : va_G) (cI cR : ClassId) (ad : Nat → Nat) (G : List oh_Sh) (A : Nat → Prop) (Qm : State → Prop) (mi : List oh_MI) (own : String) (ret : Option FieldType) (bytes : ByteArray) (nL : Nat) : oh_P := fun pc code l' st h => ∀ (H : Heap) (locs : List Loc) (lsc : Array Slot), va_P D vwCl (oh_W cI cR ad G h) H → va_S A s.heap H locs → oh_loc ad lsc nL l' → oh_ckS mi own ret bytes pc code = true → W p l e R s m args below meth c H locs 0 0 Qm (F0 m pc lsc (st.map (oh_V ad)))
section OHS
variable {p : Program} {l : Launch} {e : Env} {R : Room} {s : State} {m : MethodId} {args : Array Value} {below : List Frame} {meth : Method} {c : Code} {D : va_G} {cI cR : ClassId} {ad : Nat → Nat} {G : List oh_Sh} {A : Nat → Prop} {Qm : State → Prop} {mi : List oh_MI} {own : String} {ret : Option FieldType} {bytes : ByteArray} {nL b0 : Nat} {T : oh_T}
theorem oh_J_W {pc : Nat} {l' : oh_L} {st : List Value} {h : oh_St} {H : Heap} {locs : List Loc} {lsc : Array Slot} (hT : oh_ckT mi own ret bytes T = true) (q : oh_J T (oh_Pm p l e R s m args below meth c D cI cR ad G A Qm mi own ret bytes nL) (oh_Pm p l e R s m args below meth c D cI cR ad G A Qm mi own ret bytes nL) pc l' st h) (hP : va_P D vwCl (oh_W cI cR ad G h) H) (hS : va_S A s.heap H locs) (hl : oh_loc ad lsc nL l') : W p l e R s m args below meth c H locs 0 0 Qm (F0 m pc lsc (st.map (oh_V ad))) := by
  unfold oh_J at q
  split at q
  · rename_i c2 hf
    exact q H locs lsc hP hS hl (oh_ckT_i hT hf)
  · rename_i mm c2 hf
    exact q H locs lsc hP hS (oh_loc_less (oh_more_mask mm l') hl) (oh_ckT_i hT hf)
  · exact q.elim
theorem oh_Ab {w : Cond} (hAmb : oh_Amb D cI cR ad b0 s s.heap) (hw : w ∈ lw_tbl ∧ oh_okw w = true) : w.before args s = true := va_Nw.use (oh_okw_on hw.2) (hAmb.2.1 w hw.1 hw.2)
theorem oh_ts (hAmb : oh_Amb D cI cR ad b0 s s.heap) : ∀ w ∈ lw_tbl.filter oh_okw, w.before args s = true := fun w hw => by
  obtain ⟨h1, h2⟩ := List.mem_filter.mp hw
  exact oh_Ab hAmb ⟨h1, h2⟩
theorem oh_getW {C : String} {T' : u_T} {N ci index k o pc : Nat} {sl : List (Nat × Nat)} {z : Nat × Nat} {h : oh_St} {H : Heap} {locs : List Loc} {ls : Array Slot} {rest : List Value} {v : Value} (hx : p.tables.exec = Jvm.exec) (hb : c.code = bytes) (hown : s.vm.findClass own = some m.cls) (hAmb : oh_Amb D cI cR ad b0 s s.heap)
    (hP : va_P D vwCl (oh_W cI cR ad G h) H) (hg : oh_nth G o = some (.inl (ci, sl))) (hc : oh_nth vwCl ci = some (C, T', N)) (hk : k < N) (hC : (T' k).1 = C) {ps : Nat} (hw : oh_wd ps (.fieldLink own index C (T' k).2.1 (T' k).2.2.1) = true ∨ oh_wd ps (.fieldLinkNest own index C (T' k).2.1 (T' k).2.2.1 "OtherHat") = true) (hz : oh_nth sl k = some z) (hv : oh_slv ad h o k z = v) (hdg : decode bytes pc = .ok (.getfield index, 3))
    (kk : W p l e R s m args below meth c H locs 0 0 Qm (F0 m (pc + 3) ls (v :: rest))) : W p l e R s m args below meth c H locs 0 0 Qm (F0 m pc ls (.ref (ad o) :: rest)) := by
  have he : (oh_W cI cR ad G h)[o]? = some (ad o, .inr (ci, sl.mapIdx (fun k z => oh_slv ad h o k z))) := oh_W_at hg
  have hin : ∀ w ∈ u_ws C T' N, w ∈ lw_tbl.filter oh_okw := fun w hw => List.mem_filter.mpr ((oh_cls_w hc) w hw)
  have hfs : (sl.mapIdx (fun k z => oh_slv ad h o k z))[k]? = some v := by
    rw [oh_nth_eq] at hz
    simp [hz, hv]
  have hc' : vwCl[ci]? = some (C, T', N) := by rw [← oh_nth_eq]; exact hc
  rcases hw with hw | hw
  · exact va_get (ref := C) hx hb (oh_ts hAmb) hin hown hAmb.1 hP o he hc' k hk (oh_Ab hAmb (oh_wd_i hw)) (fun x hh => by rw [hC] at hh; exact hh) hfs hdg kk
  · exact va_getN (ref := C) (host := "OtherHat") hx hb (oh_ts hAmb) hin hown hAmb.1 hP o he hc' k hk (oh_Ab hAmb (oh_wd_i hw)) (fun x hh => by rw [hC] at hh; exact hh) hfs hdg kk
theorem oh_putW {C : String} {T' : u_T} {N ci index k o pc : Nat} {sl : List (Nat × Nat)} {z : Nat × Nat} {h h' : oh_St} {H : Heap} {locs : List Loc} {ls : Array Slot} {rest : List Value} {v : Value} {ty : FieldType} (hx : p.tables.exec = Jvm.exec) (hb : c.code = bytes) (hown : s.vm.findClass own = some m.cls) (hAmb : oh_Amb D cI cR ad b0 s s.heap)
    (hP : va_P D vwCl (oh_W cI cR ad G h) H) (hD : va_D A (oh_W cI cR ad G h)) (hS : va_S A s.heap H locs) (hg : oh_nth G o = some (.inl (ci, sl))) (hc : oh_nth vwCl ci = some (C, T', N)) (hk : k < N) (hC : (T' k).1 = C) (hfin : (T' k).2.2.2 = false) {ps : Nat} (hw : oh_wd ps (.fieldLink own index C (T' k).2.1 (T' k).2.2.1) = true ∨ oh_wd ps (.fieldLinkNest own index C (T' k).2.1 (T' k).2.2.1 "OtherHat") = true) (hz : oh_nth sl k = some z)
    (hd : parseFieldDescriptor (T' k).2.2.1 = some ty) (hn : narrow ty v = v) (hfit : fits ty v = true) (hv : oh_slv ad h' o k z = v) (hne : ∀ a, a ≠ o → h'.1 a = h.1 a ∧ h'.2 a = h.2 a) (hne2 : ∀ j, j ≠ k → h'.1 o j = h.1 o j ∧ h'.2 o j = h.2 o j) (hdg : decode bytes pc = .ok (.putfield index, 3))
    (kk : ∀ (H1 : Heap) (locs1 : List Loc), va_P D vwCl (oh_W cI cR ad G h') H1 → va_S A s.heap H1 locs1 → W p l e R s m args below meth c H1 locs1 0 0 Qm (F0 m (pc + 3) ls rest)) : W p l e R s m args below meth c H locs 0 0 Qm (F0 m pc ls (v :: .ref (ad o) :: rest)) := by
  have he : (oh_W cI cR ad G h)[o]? = some (ad o, .inr (ci, sl.mapIdx (fun k z => oh_slv ad h o k z))) := oh_W_at hg
  have hin : ∀ w ∈ u_ws C T' N, w ∈ lw_tbl.filter oh_okw := fun w hw => List.mem_filter.mpr ((oh_cls_w hc) w hw)
  have hl : k < (sl.mapIdx (fun k z => oh_slv ad h o k z)).length := by
    rw [oh_nth_eq] at hz
    simpa using (List.getElem?_eq_some_iff.mp hz).1
  have hc' : vwCl[ci]? = some (C, T', N) := by rw [← oh_nth_eq]; exact hc
  obtain ⟨⟨ty0, hty⟩, hnm⟩ := oh_cls hc
  have hset : (oh_W cI cR ad G h).set o (ad o, .inr (ci, (sl.mapIdx (fun k z => oh_slv ad h o k z)).set k v)) = oh_W cI cR ad G h' := oh_W_set hg hne (by
    show Sum.inr (ci, sl.mapIdx (fun k z => oh_slv ad h' o k z)) = _
    rw [oh_slots_set hz hv hne2])
  rcases hw with hw | hw
  · exact va_put (ref := C) hx hb (oh_ts hAmb) hin ty0 hty hnm hown hAmb.1 hP hD hS o he hc' k hk (oh_Ab hAmb (oh_wd_i hw)) (fun x hh => by rw [hC] at hh; exact hh) hfin hd hn hfit hl hdg (fun H1 locs1 hP1 _ hS1 => kk H1 locs1 (by rw [hset] at hP1; exact hP1) hS1)
  · exact va_putN (ref := C) (host := "OtherHat") hx hb (oh_ts hAmb) hin ty0 hty hnm hown hAmb.1 hP hD hS o he hc' k hk (oh_Ab hAmb (oh_wd_i hw)) (fun x hh => by rw [hC] at hh; exact hh) hfin hd hn hfit hl hdg (fun H1 locs1 hP1 _ hS1 => kk H1 locs1 (by rw [hset] at hP1; exact hP1) hS1)
theorem oh_csum_eq : ∀ st : List Value, ((st.map (oh_V ad)).map fun v => v.category).sum = oh_csum st
  | [] => rfl
  | v :: r => by simp only [List.map_cons, List.sum_cons, oh_csum, oh_V_cat, oh_csum_eq r]
/-- which cells change: those of the world, and new ones -/
theorem oh_A_sub {H : Heap} {locs : List Loc} (hA : ∀ q, A q ↔ oh_A ad G s.heap.size q) (hS : va_S A s.heap H locs) : ∀ q, oh_A ad G H.size q → A q := by
  intro q hq
  rw [hA]
  rcases hq with h | h
  · exact Or.inl h
  · exact Or.inr (Nat.le_trans hS.1 h)
theorem oh_AmbU {H : Heap} {locs : List Loc} {U : State} (hAmb : oh_Amb D cI cR ad b0 s s.heap) (hAB : ∀ q, A q → b0 ≤ q) (hS : va_S A s.heap H locs) (hU : U.heap = H) (hW : s.WarmedH U.vm) : oh_Amb D cI cR ad b0 U U.heap := by
  rw [hU]
  exact oh_Amb_go hAmb hW (fun a h1 h2 => hS.2.1 a h1 (fun z => h2 (hAB a z)))
/-- what is known of the methods that are called -/
def oh_Ms (l : Launch) (D : va_G) (cI cR : ClassId) (ad : Nat → Nat) (b0 : Nat) (G : List oh_Sh) (mi : List oh_MI) (d : Nat) (E : oh_E) : Prop :=
  ∀ (j : Nat) (q : oh_MI), oh_nth mi j = some q → ∀ (av : List Value) (h : oh_St) (Q : oh_Q) (sz : Nat), b0 ≤ sz → E j av h Q → Met l q.1 [.code q.1 q.2.1 q.2.2.1 q.2.2.2.1] (oh_rm d) (oh_Pc D cI cR ad b0 G h av sz) (oh_Qc D cI cR ad G Q sz) 0 0 (oh_A ad G sz)
theorem oh_ckM_i {q : oh_MI} (h : oh_ckM q = true) : (Cond.code q.1 q.2.1 q.2.2.1 q.2.2.2.1 ∈ lw_tbl ∧ oh_okw (.code q.1 q.2.1 q.2.2.1 q.2.2.2.1) = true) ∧ ((q.2.2.2.2.1 = true ∧ Cond.static q.1 ∈ lw_tbl ∧ oh_okw (.static q.1) = true) ∨ (q.2.2.2.2.1 = false ∧ (Cond.instanceMethod q.1 ∈ lw_tbl ∧ oh_okw (.instanceMethod q.1) = true) ∧ (Cond.selects q.1.cls q.1 q.1 ∈ lw_tbl ∧ oh_okw (.selects q.1.cls q.1 q.1) = true))) ∧ (Cond.initialized q.1.cls ∈ lw_tbl ∧ oh_okw (.initialized q.1.cls) = true) ∧ (q.1.cls ≠ "java/lang/invoke/MethodHandle" ∧ q.1.cls ≠ "java/lang/invoke/VarHandle") ∧ plainName q.1.cls = true ∧ q.2.2.1 ≤ 40 := by
  obtain ⟨y, bs, mL, rt, stc, p1, p2, p3, p4⟩ := q
  unfold oh_ckM at h
  simp only [Bool.and_eq_true] at h
  obtain ⟨⟨⟨⟨⟨⟨h1, h2⟩, h3⟩, h4⟩, h5⟩, h6⟩, h7⟩ := h
  refine ⟨oh_wd_i h1, ?_, oh_wd_i h3, ⟨of_decide_eq_true h4, of_decide_eq_true h5⟩, h6, Nat.le_of_ble_eq_true h7⟩
  cases stc with
  | true => exact Or.inl ⟨rfl, oh_wd_i h2⟩
  | false =>
    obtain ⟨h8, h9⟩ := (Bool.and_eq_true _ _).mp h2
    exact Or.inr ⟨rfl, oh_wd_i h8, oh_wd_i h9⟩
theorem oh_good_code {y : MethodName} {bs : ByteArray} {mL : Nat} {rt : Option FieldType} (h : oh_okw (.code y bs mL rt) = true) : ((Cond.code y bs mL rt).onTables && (Cond.code y bs mL rt).keeps) = true := by
  unfold oh_okw at h
  rcases (Bool.or_eq_true _ _).mp h with h | h
  · exact h
  · cases h
/-- a call of a method of an object -/
theorem oh_callV {d j n k pc x ps e' : Nat} {q : oh_MI} {E : oh_E} {st : List Value} {h : oh_St} {H : Heap} {locs : List Loc} {lsc : Array Slot} {K : List Value → oh_St → Prop} (hx : p.tables.exec = Jvm.exec) (hb : c.code = bytes) (hml : c.maxLocals = nL) (hown : s.vm.findClass own = some m.cls) (hAmb : oh_Amb D cI cR ad b0 s s.heap) (hA : ∀ q, A q ↔ oh_A ad G s.heap.size q) (hAB : ∀ q, A q → b0 ≤ q) (hR : R = oh_rm (d + 1)) (hE : oh_Ms l D cI cR ad b0 G mi d E)
    (hP : va_P D vwCl (oh_W cI cR ad G h) H) (hS : va_S A s.heap H locs) (hsz : lsc.size = nL) (hq : oh_nth mi j = some q) (hM : oh_ckM q = true) (hstc : q.2.2.2.2.1 = false) (hY : oh_ckY own x q.1 ps = true) (hdes : (parseMethodDescriptor q.1.desc).map (fun d => d.parameters.length) = some (n - 1)) (hn0 : 0 < n) (hC : oh_ckC e' q.1.cls = true) (hdg : decode bytes pc = .ok (.invokevirtual x, 3)) (hrc : oh_rcv G e' n st (oh_call E j n k st h K)) (hbs : b0 ≤ s.heap.size)
    (kk : ∀ (r : Option Value) (h' : oh_St) (H1 : Heap) (locs1 : List Loc), K (r.toList ++ st.drop n) h' → va_P D vwCl (oh_W cI cR ad G h') H1 → va_S A s.heap H1 locs1 → W p l e R s m args below meth c H1 locs1 0 0 Qm (F0 m (pc + 3) lsc ((r.map (oh_V ad)).toList ++ (st.drop n).map (oh_V ad)))) : W p l e R s m args below meth c H locs 0 0 Qm (F0 m pc lsc (st.map (oh_V ad))) := by
  obtain ⟨o, As, hst, hcls, hcall⟩ := oh_rcv_i hrc
  obtain ⟨hnl, hcs, Q', hEj, hQ'⟩ := oh_call_i hcall
  obtain ⟨hcode, hinst, hini, hmh, hpl, hmL⟩ := oh_ckM_i hM
  rcases hinst with ⟨z, -⟩ | ⟨-, hin, hsel⟩
  · rw [hstc] at z; cases z
  have hlen : (st.take n).reverse.length = n := by simp [hnl]
  rw [hst] at hlen
  have hAs : As.length = n - 1 := by simp at hlen; omega
  have hstk : st = As.reverse ++ .ref o :: st.drop n := by
    have h1 : st.take n = As.reverse ++ [.ref o] := by
      have := congrArg List.reverse hst
      simpa using this
    calc st = st.take n ++ st.drop n := (List.take_append_drop n st).symm
      _ = As.reverse ++ .ref o :: st.drop n := by rw [h1]; simp
  have hMet := hE j q hq (st.take n).reverse h _ H.size (Nat.le_trans hbs hS.1) hEj
  have hfix : CallFix p m c bytes nL s args (lw_tbl.filter oh_okw) own := ⟨hx, hb, hml, hown, oh_ts hAmb⟩
  have hroom : (oh_rm d).frames + 1 ≤ R.frames ∧ 8 + (q.2.2.1 + 11) + (oh_rm d).locals ≤ R.locals := by
    rw [hR]; simp only [oh_rm]; omega
  have hws : ∀ w ∈ [Cond.code q.1 q.2.1 q.2.2.1 q.2.2.2.1], ∀ (a' : Array Value) (U : State), s.WarmedH U.vm → w.before a' U = true := fun w hw a' U hW => by
    rw [List.mem_singleton] at hw
    subst hw
    exact word_at (args := args) hW (Or.inl (oh_good_code hcode.2)) (oh_Ab hAmb hcode)
  have hpar : ∀ sig, parseMethodDescriptor q.1.desc = some sig → n - 1 = sig.parameters.length := fun sig hs => by
    rw [hs] at hdes
    exact (Option.some.inj hdes).symm
  have hPcU : ∀ U : State, U.heap = H → s.WarmedH U.vm → oh_Pc D cI cR ad b0 G h (st.take n).reverse H.size (Value.ref (ad o) :: As.map (oh_V ad)).toArray U := fun U hU hW => by
    refine ⟨?_, by rw [hU], by rw [hU]; exact hP, oh_AmbU hAmb hAB hS hU hW⟩
    rw [hst]; rfl
  have hcell : ∃ cellB : Cell, H[ad o]? = some cellB ∧ cellB.vm.isStatics = false ∧ s.vm.findClass q.1.cls = some cellB.cls := by
    rcases hcls with ⟨h9, ho1, ho2⟩ | ⟨h9, sl, hg⟩
    · subst h9
      have hcn : q.1.cls = "java/lang/String" := of_decide_eq_true hC
      rw [hcn]
      have := vk_recv (H := H) (i := o - 2000) (vk_S.narrow hAmb.2.2.2.2.2.2.1 hAB) (by omega) hS
      rw [show 2000 + (o - 2000) = o by omega] at this
      exact this
    · unfold oh_ckC at hC
      split at hC
      · rename_i hb9
        exact absurd (Nat.eq_of_beq_eq_true hb9) h9
      · split at hC
        · rename_i C2 T2 N2 hcl
          have hcn : C2 = q.1.cls := of_decide_eq_true hC
          rw [← hcn]
          exact va_recv (q := (C2, T2, N2)) hAmb.1 hP (by rw [← oh_nth_eq]; exact hcl) (oh_W_at hg)
        · cases hC
  have hstack : (F0 m pc lsc (st.map (oh_V ad))).stack = (As.map (oh_V ad)).reverse ++ .ref (ad o) :: (st.drop n).map (oh_V ad) := by
    show st.map (oh_V ad) = _
    conv => lhs; rw [hstk]
    simp [oh_V]
  have hWr : 2 * (F0 m pc lsc (st.map (oh_V ad))).monitorRoom + (((st.drop n).map (oh_V ad)).map fun v => v.category).sum ≤ 8 := lv_room (by rw [oh_csum_eq]; exact hcs)
  unfold oh_ckY at hY
  rcases (Bool.or_eq_true _ _).mp hY with hY | hY
  · refine oh_callW (va_runV (C := q.1.cls) (As := As.map (oh_V ad)) (rest := (st.drop n).map (oh_V ad)) (n := n - 1) hfix hMet ⟨⟨rfl, rfl, hroom.1, hroom.2, hws, List.mem_cons_self, oh_Ab hAmb hcode, oh_Ab hAmb hini, hmh, hpar, oh_Ab hAmb (oh_wd_i hY)⟩, oh_Ab hAmb hin, oh_Ab hAmb hsel⟩ ⟨oh_Pc_blind, hcell, hPcU⟩ rfl (by simpa using hAs) hsz hstack hWr hdg ⟨Nat.zero_le _, Nat.zero_le _⟩) hS (oh_A_sub hA hS) ?_
    exact fun r h' H1 locs1 hq => kk r h' H1 locs1 (hQ' r h' hq)
  · refine oh_callW (va_runVN (C := q.1.cls) (host := "OtherHat") (As := As.map (oh_V ad)) (rest := (st.drop n).map (oh_V ad)) (n := n - 1) hfix hMet ⟨⟨⟨rfl, rfl, hroom.1, hroom.2, hws, List.mem_cons_self⟩, oh_Ab hAmb hcode, oh_Ab hAmb hini, hmh, hpar, oh_Ab hAmb (oh_wd_i hY)⟩, oh_Ab hAmb hin, oh_Ab hAmb hsel⟩ ⟨oh_Pc_blind, hcell, hPcU⟩ rfl (by simpa using hAs) hsz hstack hWr hdg ⟨Nat.zero_le _, Nat.zero_le _⟩) hS (oh_A_sub hA hS) ?_
    exact fun r h' H1 locs1 hq => kk r h' H1 locs1 (hQ' r h' hq)
/-- a call of a static method -/
theorem oh_callS {d j n k pc x ps : Nat} {q : oh_MI} {E : oh_E} {st : List Value} {h : oh_St} {H : Heap} {locs : List Loc} {lsc : Array Slot} {K : List Value → oh_St → Prop} (hx : p.tables.exec = Jvm.exec) (hb : c.code = bytes) (hml : c.maxLocals = nL) (hown : s.vm.findClass own = some m.cls) (hAmb : oh_Amb D cI cR ad b0 s s.heap) (hA : ∀ q, A q ↔ oh_A ad G s.heap.size q) (hAB : ∀ q, A q → b0 ≤ q) (hR : R = oh_rm (d + 1)) (hE : oh_Ms l D cI cR ad b0 G mi d E)
    (hP : va_P D vwCl (oh_W cI cR ad G h) H) (hS : va_S A s.heap H locs) (hsz : lsc.size = nL) (hq : oh_nth mi j = some q) (hM : oh_ckM q = true) (hstc : q.2.2.2.2.1 = true) (hY : oh_ckY own x q.1 ps = true) (hdes : (parseMethodDescriptor q.1.desc).map (fun d => d.parameters.length) = some n) (hdg : decode bytes pc = .ok (.invokestatic x, 3)) (hcall : oh_call E j n k st h K) (hbs : b0 ≤ s.heap.size)
    (kk : ∀ (r : Option Value) (h' : oh_St) (H1 : Heap) (locs1 : List Loc), K (r.toList ++ st.drop n) h' → va_P D vwCl (oh_W cI cR ad G h') H1 → va_S A s.heap H1 locs1 → W p l e R s m args below meth c H1 locs1 0 0 Qm (F0 m (pc + 3) lsc ((r.map (oh_V ad)).toList ++ (st.drop n).map (oh_V ad)))) : W p l e R s m args below meth c H locs 0 0 Qm (F0 m pc lsc (st.map (oh_V ad))) := by
  obtain ⟨hnl, hcs, Q', hEj, hQ'⟩ := oh_call_i hcall
  obtain ⟨hcode, hinst, hini, hmh, hpl, hmL⟩ := oh_ckM_i hM
  rcases hinst with ⟨-, hst⟩ | ⟨z, -⟩
  case inr => rw [hstc] at z; cases z
  have hMet := hE j q hq (st.take n).reverse h _ H.size (Nat.le_trans hbs hS.1) hEj
  have hfix : CallFix p m c bytes nL s args (lw_tbl.filter oh_okw) own := ⟨hx, hb, hml, hown, oh_ts hAmb⟩
  have hroom : (oh_rm d).frames + 1 ≤ R.frames ∧ 8 + (q.2.2.1 + 11) + (oh_rm d).locals ≤ R.locals := by
    rw [hR]; simp only [oh_rm]; omega
  have hws : ∀ w ∈ [Cond.code q.1 q.2.1 q.2.2.1 q.2.2.2.1], ∀ (a' : Array Value) (U : State), s.WarmedH U.vm → w.before a' U = true := fun w hw a' U hW => by
    rw [List.mem_singleton] at hw
    subst hw
    exact word_at (args := args) hW (Or.inl (oh_good_code hcode.2)) (oh_Ab hAmb hcode)
  have hpar : ∀ sig, parseMethodDescriptor q.1.desc = some sig → n = sig.parameters.length := fun sig hs => by
    rw [hs] at hdes
    exact (Option.some.inj hdes).symm
  have hPcU : ∀ U : State, U.heap = H → s.WarmedH U.vm → oh_Pc D cI cR ad b0 G h (st.take n).reverse H.size ((st.take n).reverse.map (oh_V ad)).toArray U := fun U hU hW => ⟨rfl, by rw [hU], by rw [hU]; exact hP, oh_AmbU hAmb hAB hS hU hW⟩
  have hstack : (F0 m pc lsc (st.map (oh_V ad))).stack = ((st.take n).reverse.map (oh_V ad)).reverse ++ (st.drop n).map (oh_V ad) := by
    show st.map (oh_V ad) = _
    rw [List.map_reverse, List.reverse_reverse, ← List.map_append, List.take_append_drop]
  have hWr : 2 * (F0 m pc lsc (st.map (oh_V ad))).monitorRoom + (((st.drop n).map (oh_V ad)).map fun v => v.category).sum ≤ 8 := lv_room (by rw [oh_csum_eq]; exact hcs)
  unfold oh_ckY at hY
  rcases (Bool.or_eq_true _ _).mp hY with hY | hY
  · refine oh_callW (va_runS (As := (st.take n).reverse.map (oh_V ad)) (rest := (st.drop n).map (oh_V ad)) (n := n) hfix hMet ⟨⟨rfl, rfl, hroom.1, hroom.2, hws, List.mem_cons_self, oh_Ab hAmb hcode, oh_Ab hAmb hini, hmh, hpar, oh_Ab hAmb (oh_wd_i hY)⟩, oh_Ab hAmb hst⟩ ⟨oh_Pc_blind, hPcU⟩ rfl (by simp [hnl]) hsz hstack hWr hdg ⟨Nat.zero_le _, Nat.zero_le _⟩) hS (oh_A_sub hA hS) ?_
    exact fun r h' H1 locs1 hq => kk r h' H1 locs1 (hQ' r h' hq)
  · refine oh_callW (va_runSN (host := "OtherHat") (As := (st.take n).reverse.map (oh_V ad)) (rest := (st.drop n).map (oh_V ad)) (n := n) hfix hMet ⟨⟨⟨rfl, rfl, hroom.1, hroom.2, hws, List.mem_cons_self⟩, oh_Ab hAmb hcode, oh_Ab hAmb hini, hmh, hpar, oh_Ab hAmb (oh_wd_i hY)⟩, oh_Ab hAmb hst, trivial⟩ ⟨oh_Pc_blind, hPcU⟩ rfl (by simp [hnl]) hsz hstack hWr hdg ⟨Nat.zero_le _, Nat.zero_le _⟩) hS (oh_A_sub hA hS) ?_
    exact fun r h' H1 locs1 hq => kk r h' H1 locs1 (hQ' r h' hq)
end OHS
end
section
/-! SOUNDNESS: each instruction -/
theorem oh_gf_i {G : List oh_Sh} {ci k o : Nat} {h : oh_St} {K : Value → Prop} (q : oh_gf G ci k o h K) : ∃ sl z v, oh_nth G o = some (.inl (ci, sl)) ∧ oh_nth sl k = some z ∧ (∀ ad, oh_slv ad h o k z = oh_V ad v) ∧ K v := by
  unfold oh_gf at q
  split at q
  · rename_i c2 sl hg
    split at q
    · rename_i hb
      have := Nat.eq_of_beq_eq_true hb
      subst this
      split at q
      · rename_i z hz
        exact ⟨sl, _, _, hg, hz, fun _ => rfl, q⟩
      · rename_i z hz
        exact ⟨sl, _, _, hg, hz, fun _ => rfl, q⟩
      · rename_i z hz
        exact ⟨sl, _, _, hg, hz, fun _ => rfl, q⟩
      · rename_i z hz
        exact ⟨sl, _, _, hg, hz, fun _ => rfl, q⟩
      · rename_i z hz
        exact ⟨sl, _, _, hg, hz, fun _ => rfl, q⟩
      · exact q.elim
    · exact q.elim
  · exact q.elim
theorem oh_upi_k (h : oh_St) (o k : Nat) (x : Int32) : ∀ j, j ≠ k → (oh_upi h o k x).1 o j = h.1 o j ∧ (oh_upi h o k x).2 o j = h.2 o j := by
  intro j hj
  simp [oh_upi, upd, hj]
theorem oh_upl_k (h : oh_St) (o k : Nat) (x : Int64) : ∀ j, j ≠ k → (oh_upl h o k x).1 o j = h.1 o j ∧ (oh_upl h o k x).2 o j = h.2 o j := by
  intro j hj
  simp [oh_upl, vp_updL, hj]
theorem oh_upi_v (h : oh_St) (o k : Nat) (x : Int32) : (oh_upi h o k x).1 o k = x := by simp [oh_upi, upd]
theorem oh_upl_v (h : oh_St) (o k : Nat) (x : Int64) : (oh_upl h o k x).2 o k = x := by simp [oh_upl, vp_updL]
theorem oh_pf_i {G : List oh_Sh} {ci k o : Nat} {v : Value} {h : oh_St} {K : oh_St → Prop} (q : oh_pf G ci k o v h K) : ∃ sl z h', oh_nth G o = some (.inl (ci, sl)) ∧ oh_nth sl k = some z ∧ (∀ ad, oh_slv ad h' o k z = oh_V ad v) ∧ (∀ a, a ≠ o → h'.1 a = h.1 a ∧ h'.2 a = h.2 a) ∧ (∀ j, j ≠ k → h'.1 o j = h.1 o j ∧ h'.2 o j = h.2 o j) ∧ (∃ ty, (∀ dsc, oh_kd z.1 dsc = true → parseFieldDescriptor dsc = some ty) ∧ ∀ ad, narrow ty (oh_V ad v) = oh_V ad v ∧ fits ty (oh_V ad v) = true) ∧ K h' := by
  unfold oh_pf at q
  split at q
  · rename_i c2 sl hg
    split at q
    · rename_i hb
      have := Nat.eq_of_beq_eq_true hb
      subst this
      split at q
      · rename_i z x hz
        refine ⟨sl, _, _, hg, hz, fun _ => ?_, oh_upi_n h o k x, oh_upi_k h o k x, ⟨.int, fun dsc hd => ?_, fun _ => ⟨rfl, rfl⟩⟩, q⟩
        · show Value.int _ = Value.int x
          rw [oh_upi_v]
        · have := of_decide_eq_true hd
          subst this
          decide +kernel
      · rename_i z x hz
        refine ⟨sl, _, _, hg, hz, fun _ => ?_, oh_upl_n h o k x, oh_upl_k h o k x, ⟨.long, fun dsc hd => ?_, fun _ => ⟨rfl, rfl⟩⟩, q⟩
        · show Value.long _ = Value.long x
          rw [oh_upl_v]
        · have := of_decide_eq_true hd
          subst this
          decide +kernel
      · rename_i z j hz
        split at q
        · rename_i h1 h2
          have h1 : 2000 ≤ (j : Nat) := Nat.le_of_ble_eq_true h1
          have h2 : (j : Nat) ≤ 2002 := Nat.le_of_ble_eq_true h2
          refine ⟨sl, _, _, hg, hz, fun ad => ?_, oh_upi_n h o k _, oh_upi_k h o k _, ⟨.object "java/lang/String", fun dsc hd => ?_, fun _ => ⟨rfl, rfl⟩⟩, q⟩
          · show Value.ref (ad (2000 + _)) = Value.ref (ad j)
            rw [oh_upi_v]
            have key : ∀ i : Nat, 2000 ≤ i → i ≤ 2002 → 2000 + (Int32.ofNat (i - 2000)).toNatClampNeg = i := by
              intro i g1 g2
              have hi : i = 2000 ∨ i = 2001 ∨ i = 2002 := by omega
              rcases hi with rfl | rfl | rfl <;> rfl
            exact congrArg (fun z => Value.ref (ad z)) (key j h1 h2)
          · have := of_decide_eq_true hd
            subst this
            decide +kernel
        · exact q.elim
      · rename_i z x hz
        refine ⟨sl, _, _, hg, hz, fun _ => ?_, oh_upi_n h o k x, oh_upi_k h o k x, ⟨.boolean, fun dsc hd => ?_, fun _ => ?_⟩, q.2⟩
        · show Value.int _ = Value.int x
          rw [oh_upi_v]
        · have := of_decide_eq_true hd
          subst this
          decide +kernel
        · rcases q.1 with rfl | rfl
          · exact ⟨(by decide +kernel : narrow .boolean (.int 0) = .int 0), (by decide +kernel : fits .boolean (.int 0) = true)⟩
          · exact ⟨(by decide +kernel : narrow .boolean (.int 1) = .int 1), (by decide +kernel : fits .boolean (.int 1) = true)⟩
      · exact q.elim
    · exact q.elim
  · exact q.elim
theorem oh_tab_i {J : Nat → Prop} {pc : Nat} {x : Int32} : ∀ (os : List Int) (lo : Nat) (d : Int), (lo : Int) + os.length - 1 ≤ 2147483647 → oh_tab J pc x lo os d → ((x.toInt < lo ∨ (lo : Int) + os.length - 1 < x.toInt) → J ((pc : Int) + d).toNat) ∧ ∀ (k : Nat) (off : Int), os[k]? = some off → x.toInt = lo + k → J ((pc : Int) + off).toNat
  | [], lo, d, _, q => ⟨fun _ => q, fun k off h => by simp at h⟩
  | o :: r, lo, d, h2, q => by
    simp only [List.length_cons] at h2
    have hlo : (Int32.ofNat lo).toInt = lo := nI_toInt (by omega)
    by_cases hx : x = Int32.ofNat lo
    · have hx' : x.toInt = lo := by rw [hx, hlo]
      refine ⟨fun h => by simp only [List.length_cons] at h; omega, fun k off hk he => ?_⟩
      have hk0 : k = 0 := by omega
      subst hk0
      simp at hk
      subst hk
      exact q.1 hx
    · have hx' : ¬ x.toInt = lo := fun z => hx (Int32.toInt_inj.mp (by rw [hlo]; exact z))
      have ih := oh_tab_i r (lo + 1) d (by omega) (q.2 hx)
      refine ⟨fun h => ih.1 (by simp only [List.length_cons] at h; omega), fun k off hk he => ?_⟩
      cases k with
      | zero => exact absurd (by simpa using he) hx'
      | succ k => exact ih.2 k off (by simpa using hk) (by rw [he]; push_cast; omega)
theorem oh_lkp_i {J : Nat → Prop} {pc : Nat} {x : Int32} {d : Int} : ∀ (ps : List (Int × Int)), (∀ o ∈ ps, 0 ≤ o.1 ∧ o.1 ≤ 2147483647) → oh_lkp J pc x d ps → J ((pc : Int) + Op.lookupswitch.offset ps d x.toInt).toNat
  | [], _, q => q
  | o :: r, hr, q => by
    obtain ⟨a, of⟩ := o
    have h1 := hr (a, of) List.mem_cons_self
    have hlo : (Int32.ofNat a.toNat).toInt = a := by
      have := nI_toInt (n := a.toNat) (by omega)
      rw [show nI a.toNat = Int32.ofNat a.toNat from rfl] at this
      rw [this]
      omega
    by_cases hx : x = Int32.ofNat a.toNat
    · have hx' : x.toInt = a := by rw [hx, hlo]
      rw [Op.lookupswitch.offset_cons, if_pos hx'.symm]
      exact q.1 hx
    · rw [lv_osw hx hlo]
      exact oh_lkp_i r (fun o ho => hr o (List.mem_cons_of_mem _ ho)) (q.2 hx)
theorem oh_lkp_0 {pc : Nat} {x d : Int} : ∀ (ps : List (Int × Int)), (∀ o ∈ ps, 0 ≤ (pc : Int) + o.2) → 0 ≤ (pc : Int) + d → 0 ≤ (pc : Int) + Op.lookupswitch.offset ps d x
  | [], _, h => h
  | o :: r, hr, h => by
    obtain ⟨a, of⟩ := o
    rw [Op.lookupswitch.offset_cons]
    split
    · exact hr (a, of) List.mem_cons_self
    · exact oh_lkp_0 r (fun o ho => hr o (List.mem_cons_of_mem _ ho)) h
section OHC
variable {p : Program} {l : Launch} {e : Env} {R : Room} {s : State} {m : MethodId} {args : Array Value} {below : List Frame} {meth : Method} {c : Code} {D : va_G} {cI cR : ClassId} {ad : Nat → Nat} {G : List oh_Sh} {mi : List oh_MI} {own : String} {ret : Option FieldType} {bytes : ByteArray} {nL b0 : Nat} {T : oh_T}
set_option maxHeartbeats 8000000 in
theorem oh_closed {d : Nat} {E : oh_E} {Q : oh_Q} (hx : p.tables.exec = Jvm.exec) (hb : c.code = bytes) (hml : c.maxLocals = nL) (hown : s.vm.findClass own = some m.cls) (hr : meth.sig.returnType = ret) (hlocks : meth.locks = false) (hAmb : oh_Amb D cI cR ad b0 s s.heap) (hG : oh_ckG G = true) (hinj : ∀ i j, i < G.length → j < G.length → ad i = ad j → i = j) (hb0 : ∀ i, i < G.length → b0 ≤ ad i) (hbs : b0 ≤ s.heap.size) (hR : R = oh_rm (d + 1)) (hE : oh_Ms l D cI cR ad b0 G mi d E) (hmi : ∀ j q, oh_nth mi j = some q → oh_ckM q = true) (hT : oh_ckT mi own ret bytes T = true)
    (pc : Nat) (code : oh_C) (l' : oh_L) (st : List Value) (h : oh_St)
    (q : oh_nx G T E Q (oh_Pm p l e R s m args below meth c D cI cR ad G (oh_A ad G s.heap.size) (MQ below (oh_Qc D cI cR ad G Q s.heap.size) args s 0 0 (oh_A ad G s.heap.size)) mi own ret bytes nL) (oh_Pm p l e R s m args below meth c D cI cR ad G (oh_A ad G s.heap.size) (MQ below (oh_Qc D cI cR ad G Q s.heap.size) args s 0 0 (oh_A ad G s.heap.size)) mi own ret bytes nL) pc code l' st h) :
    oh_Pm p l e R s m args below meth c D cI cR ad G (oh_A ad G s.heap.size) (MQ below (oh_Qc D cI cR ad G Q s.heap.size) args s 0 0 (oh_A ad G s.heap.size)) mi own ret bytes nL pc code l' st h := by
  intro H locs lsc hP hS hl hk
  have hAB : ∀ q, oh_A ad G s.heap.size q → b0 ≤ q := fun z hz => by
    rcases hz with ⟨i, hi, rfl⟩ | hz
    · exact hb0 i hi
    · exact Nat.le_trans hbs hz
  have hD : va_D (oh_A ad G s.heap.size) (oh_W cI cR ad G h) := oh_W_D hinj (fun i hi => Or.inl ⟨i, hi, rfl⟩)
  rcases code with _ | ⟨⟨i, n, a, b, c', e', ps⟩, r⟩
  · exact oh_J_W hT q hP hS hl
  obtain ⟨hdg, hln, hck, hkr⟩ := oh_ckS_i hk
  cases i
  all_goals dsimp only [oh_nx] at q
  all_goals try exact q.elim
  case iconst v =>
    obtain rfl : n = 1 := Nat.eq_of_beq_eq_true hln
    exact lv_iconst hx hb hdg (of_decide_eq_true hck) (q H locs lsc hP hS hl hkr)
  case bipush v =>
    obtain rfl : n = 2 := Nat.eq_of_beq_eq_true hln
    exact lv_bipush hx hb hdg (of_decide_eq_true hck) (q H locs lsc hP hS hl hkr)
  case sipush v =>
    obtain rfl : n = 3 := Nat.eq_of_beq_eq_true hln
    exact lv_sipush hx hb hdg (of_decide_eq_true hck) (q H locs lsc hP hS hl hkr)
  case lconst v =>
    obtain rfl : n = 1 := Nat.eq_of_beq_eq_true hln
    exact lv_lconst hx hb hdg (of_decide_eq_true hck) (q H locs lsc hP hS hl hkr)
  case ldc x =>
    obtain rfl : n = 2 := Nat.eq_of_beq_eq_true hln
    rcases b with _ | b
    · exact lv_ldc hx hb hown (oh_Ab hAmb (oh_wd_i hck)) hdg (q H locs lsc hP hS hl hkr)
    · obtain ⟨h1, h2⟩ := (Bool.and_eq_true _ _).mp hck
      have := of_decide_eq_true h1
      subst this
      split at h2
      · rename_i z hz
        obtain ⟨h3, h4⟩ := (Bool.and_eq_true _ _).mp h2
        have h3 := of_decide_eq_true h3
        have h4 := of_decide_eq_true h4
        rw [oh_nth_eq] at hz
        have h6 := hAmb.2.2.2.2.2.1 z (List.mem_of_getElem? hz)
        rw [h3, h4] at h6
        exact va_ldcS hx hb hown h6 hdg (q H locs lsc hP hS hl hkr)
      · cases h2
  case ldc_w x =>
    obtain rfl : n = 3 := Nat.eq_of_beq_eq_true hln
    exact lv_ldcw hx hb hown (oh_Ab hAmb (oh_wd_i hck)) hdg (q H locs lsc hP hS hl hkr)
  case ldc2_w x =>
    obtain rfl : n = 3 := Nat.eq_of_beq_eq_true hln
    exact lv_ldc2 hx hb hown (oh_Ab hAmb (oh_wd_i hck)) hdg (q H locs lsc hP hS hl hkr)
  case iload_n k =>
    obtain rfl : n = 1 := Nat.eq_of_beq_eq_true hln
    obtain ⟨x, hg, q1⟩ := oh_ldI_i q
    exact lv_iload_n hx hb hdg (Nat.eq_of_beq_eq_true hck) (hl.2.2.2 _ _ hg) (q1 H locs lsc hP hS hl hkr)
  case iload k =>
    obtain rfl : k = a := Nat.eq_of_beq_eq_true hck
    obtain rfl : n = 2 := Nat.eq_of_beq_eq_true hln
    obtain ⟨x, hg, q1⟩ := oh_ldI_i q
    exact lv_iload hx hb hdg (hl.2.2.2 _ _ hg) (q1 H locs lsc hP hS hl hkr)
  case lload_n k =>
    obtain rfl : n = 1 := Nat.eq_of_beq_eq_true hln
    obtain ⟨x, hg, q1⟩ := oh_ldL_i q
    exact lv_lload_n hx hb hdg (Nat.eq_of_beq_eq_true hck) (hl.2.2.2 _ _ hg) (q1 H locs lsc hP hS hl hkr)
  case lload k =>
    obtain rfl : k = a := Nat.eq_of_beq_eq_true hck
    obtain rfl : n = 2 := Nat.eq_of_beq_eq_true hln
    obtain ⟨x, hg, q1⟩ := oh_ldL_i q
    exact lv_lload hx hb hdg (hl.2.2.2 _ _ hg) (q1 H locs lsc hP hS hl hkr)
  case aload_n k =>
    obtain rfl : n = 1 := Nat.eq_of_beq_eq_true hln
    obtain ⟨x, hg, q1⟩ := oh_ldA_i q
    exact lv_aload_n hx hb hdg (Nat.eq_of_beq_eq_true hck) (hl.2.2.2 _ _ hg) (q1 H locs lsc hP hS hl hkr)
  case aload k =>
    obtain rfl : k = a := Nat.eq_of_beq_eq_true hck
    obtain rfl : n = 2 := Nat.eq_of_beq_eq_true hln
    obtain ⟨x, hg, q1⟩ := oh_ldA_i q
    exact lv_aload hx hb hdg (hl.2.2.2 _ _ hg) (q1 H locs lsc hP hS hl hkr)
  case istore_n k =>
    obtain rfl : n = 1 := Nat.eq_of_beq_eq_true hln
    obtain ⟨x, st, rfl, q1⟩ := oh_I1_i q
    obtain ⟨hi, q2⟩ := oh_wr1_i q1
    exact lv_istore_n hx hb hdg (Nat.eq_of_beq_eq_true hck) (oh_loc_has hl) (by rw [← hl.1]; exact hi) rfl (fun ls' hl' => q2 H locs ls' hP hS (oh_loc_1 (v := .int x) hl hl') hkr)
  case istore k =>
    obtain rfl : k = a := Nat.eq_of_beq_eq_true hck
    obtain rfl : n = 2 := Nat.eq_of_beq_eq_true hln
    obtain ⟨x, st, rfl, q1⟩ := oh_I1_i q
    obtain ⟨hi, q2⟩ := oh_wr1_i q1
    exact lv_istore hx hb hdg (oh_loc_has hl) (by rw [← hl.1]; exact hi) rfl (fun ls' hl' => q2 H locs ls' hP hS (oh_loc_1 (v := .int x) hl hl') hkr)
  case lstore_n k =>
    obtain rfl : n = 1 := Nat.eq_of_beq_eq_true hln
    obtain ⟨x, st, rfl, q1⟩ := oh_L1_i q
    obtain ⟨hi, q2⟩ := oh_wr2_i q1
    exact lv_lstore_n hx hb hdg (Nat.eq_of_beq_eq_true hck) (oh_loc_has hl) (by rw [← hl.1]; exact hi) rfl (fun ls' hl' => q2 H locs ls' hP hS (oh_loc_2 (v := .long x) hl (by rw [← hl.1]; exact hi) hl') hkr)
  case lstore k =>
    obtain rfl : k = a := Nat.eq_of_beq_eq_true hck
    obtain rfl : n = 2 := Nat.eq_of_beq_eq_true hln
    obtain ⟨x, st, rfl, q1⟩ := oh_L1_i q
    obtain ⟨hi, q2⟩ := oh_wr2_i q1
    exact lv_lstore hx hb hdg (oh_loc_has hl) (by rw [← hl.1]; exact hi) rfl (fun ls' hl' => q2 H locs ls' hP hS (oh_loc_2 (v := .long x) hl (by rw [← hl.1]; exact hi) hl') hkr)
  case astore_n k =>
    obtain rfl : n = 1 := Nat.eq_of_beq_eq_true hln
    obtain ⟨x, st, rfl, q1⟩ := oh_R1_i q
    obtain ⟨hi, q2⟩ := oh_wr1_i q1
    exact lv_astore_n hx hb hdg (Nat.eq_of_beq_eq_true hck) (oh_loc_has hl) (by rw [← hl.1]; exact hi) rfl (fun ls' hl' => q2 H locs ls' hP hS (oh_loc_1 (v := .ref x) hl hl') hkr)
  case astore k =>
    obtain rfl : k = a := Nat.eq_of_beq_eq_true hck
    obtain rfl : n = 2 := Nat.eq_of_beq_eq_true hln
    obtain ⟨x, st, rfl, q1⟩ := oh_R1_i q
    obtain ⟨hi, q2⟩ := oh_wr1_i q1
    exact lv_astore hx hb hdg (oh_loc_has hl) (by rw [← hl.1]; exact hi) rfl (fun ls' hl' => q2 H locs ls' hP hS (oh_loc_1 (v := .ref x) hl hl') hkr)
  case iinc k v =>
    obtain rfl : n = 3 := Nat.eq_of_beq_eq_true hln
    obtain ⟨hk1, hk2⟩ := (Bool.and_eq_true _ _).mp hck
    obtain rfl : k = a := Nat.eq_of_beq_eq_true hk1
    have hv := of_decide_eq_true hk2
    obtain ⟨x, hg, q1⟩ := oh_ldI_i q
    obtain ⟨hi, q2⟩ := oh_wr1_i q1
    obtain ⟨kk, hkk⟩ := List.getElem?_of_mem (oh_asF_get (ad := ad) l' 0 k (.int x) hg)
    rw [Nat.zero_add] at hkk
    exact lv_iinc (x := x) (k := kk) hx hb hdg (oh_loc_has hl) hkk (by rw [hv]) (by rw [← hl.1]; exact hi) rfl (fun ls' hl' => q2 H locs ls' hP hS (oh_loc_1 (v := .int (x + oh_num b c')) hl hl') hkr)
  case iadd =>
    obtain rfl : n = 1 := Nat.eq_of_beq_eq_true hln
    obtain ⟨x, y, st, rfl, q1⟩ := oh_II_i q
    exact lv_iadd hx hb hdg (q1 H locs lsc hP hS hl hkr)
  case isub =>
    obtain rfl : n = 1 := Nat.eq_of_beq_eq_true hln
    obtain ⟨x, y, st, rfl, q1⟩ := oh_II_i q
    exact lv_isub hx hb hdg (q1 H locs lsc hP hS hl hkr)
  case imul =>
    obtain rfl : n = 1 := Nat.eq_of_beq_eq_true hln
    obtain ⟨x, y, st, rfl, q1⟩ := oh_II_i q
    exact lv_imul hx hb hdg (q1 H locs lsc hP hS hl hkr)
  case iand =>
    obtain rfl : n = 1 := Nat.eq_of_beq_eq_true hln
    obtain ⟨x, y, st, rfl, q1⟩ := oh_II_i q
    exact lv_iand hx hb hdg (q1 H locs lsc hP hS hl hkr)
  case ior =>
    obtain rfl : n = 1 := Nat.eq_of_beq_eq_true hln
    obtain ⟨x, y, st, rfl, q1⟩ := oh_II_i q
    exact lv_ior hx hb hdg (q1 H locs lsc hP hS hl hkr)
  case ixor =>
    obtain rfl : n = 1 := Nat.eq_of_beq_eq_true hln
    obtain ⟨x, y, st, rfl, q1⟩ := oh_II_i q
    exact lv_ixor hx hb hdg (q1 H locs lsc hP hS hl hkr)
  case ishl =>
    obtain rfl : n = 1 := Nat.eq_of_beq_eq_true hln
    obtain ⟨x, y, st, rfl, q1⟩ := oh_II_i q
    exact lv_ishl hx hb hdg (q1 H locs lsc hP hS hl hkr)
  case ishr =>
    obtain rfl : n = 1 := Nat.eq_of_beq_eq_true hln
    obtain ⟨x, y, st, rfl, q1⟩ := oh_II_i q
    exact lv_ishr hx hb hdg (q1 H locs lsc hP hS hl hkr)
  case iushr =>
    obtain rfl : n = 1 := Nat.eq_of_beq_eq_true hln
    obtain ⟨x, y, st, rfl, q1⟩ := oh_II_i q
    exact lv_iushr hx hb hdg rfl (q1 H locs lsc hP hS hl hkr)
  case idiv =>
    obtain rfl : n = 1 := Nat.eq_of_beq_eq_true hln
    obtain ⟨x, y, st, rfl, hy, q1⟩ := oh_II_i q
    exact lv_idiv hx hb hdg hy (q1 H locs lsc hP hS hl hkr)
  case irem =>
    obtain rfl : n = 1 := Nat.eq_of_beq_eq_true hln
    obtain ⟨x, y, st, rfl, hy, q1⟩ := oh_II_i q
    exact lv_irem hx hb hdg hy (q1 H locs lsc hP hS hl hkr)
  case ineg =>
    obtain rfl : n = 1 := Nat.eq_of_beq_eq_true hln
    obtain ⟨x, st, rfl, q1⟩ := oh_I1_i q
    exact lv_ineg hx hb hdg (q1 H locs lsc hP hS hl hkr)
  case ladd =>
    obtain rfl : n = 1 := Nat.eq_of_beq_eq_true hln
    obtain ⟨x, y, st, rfl, q1⟩ := oh_LL_i q
    exact lv_ladd hx hb hdg (q1 H locs lsc hP hS hl hkr)
  case lsub =>
    obtain rfl : n = 1 := Nat.eq_of_beq_eq_true hln
    obtain ⟨x, y, st, rfl, q1⟩ := oh_LL_i q
    exact lv_lsub hx hb hdg (q1 H locs lsc hP hS hl hkr)
  case land =>
    obtain rfl : n = 1 := Nat.eq_of_beq_eq_true hln
    obtain ⟨x, y, st, rfl, q1⟩ := oh_LL_i q
    exact lv_land hx hb hdg (q1 H locs lsc hP hS hl hkr)
  case lor =>
    obtain rfl : n = 1 := Nat.eq_of_beq_eq_true hln
    obtain ⟨x, y, st, rfl, q1⟩ := oh_LL_i q
    exact lv_lor hx hb hdg (q1 H locs lsc hP hS hl hkr)
  case lxor =>
    obtain rfl : n = 1 := Nat.eq_of_beq_eq_true hln
    obtain ⟨x, y, st, rfl, q1⟩ := oh_LL_i q
    exact lv_lxor hx hb hdg (q1 H locs lsc hP hS hl hkr)
  case lcmp =>
    obtain rfl : n = 1 := Nat.eq_of_beq_eq_true hln
    obtain ⟨x, y, st, rfl, q1⟩ := oh_LL_i q
    exact W.lcmp hx hb hdg (q1 H locs lsc hP hS hl hkr)
  case lshl =>
    obtain rfl : n = 1 := Nat.eq_of_beq_eq_true hln
    obtain ⟨x, y, st, rfl, q1⟩ := oh_LI_i q
    exact lv_lshl hx hb hdg rfl (q1 H locs lsc hP hS hl hkr)
  case lshr =>
    obtain rfl : n = 1 := Nat.eq_of_beq_eq_true hln
    obtain ⟨x, y, st, rfl, q1⟩ := oh_LI_i q
    exact lv_lshr hx hb hdg rfl (q1 H locs lsc hP hS hl hkr)
  case lushr =>
    obtain rfl : n = 1 := Nat.eq_of_beq_eq_true hln
    obtain ⟨x, y, st, rfl, q1⟩ := oh_LI_i q
    exact lv_lushr hx hb hdg rfl (q1 H locs lsc hP hS hl hkr)
  case i2l =>
    obtain rfl : n = 1 := Nat.eq_of_beq_eq_true hln
    obtain ⟨x, st, rfl, q1⟩ := oh_I1_i q
    exact lv_i2l hx hb hdg rfl (q1 H locs lsc hP hS hl hkr)
  case l2i =>
    obtain rfl : n = 1 := Nat.eq_of_beq_eq_true hln
    obtain ⟨x, st, rfl, q1⟩ := oh_L1_i q
    exact lv_l2i hx hb hdg rfl (q1 H locs lsc hP hS hl hkr)
  case i2b =>
    obtain rfl : n = 1 := Nat.eq_of_beq_eq_true hln
    obtain ⟨x, st, rfl, q1⟩ := oh_I1_i q
    exact lv_i2b hx hb hdg rfl (q1 H locs lsc hP hS hl hkr)
  case i2s =>
    obtain rfl : n = 1 := Nat.eq_of_beq_eq_true hln
    obtain ⟨x, st, rfl, q1⟩ := oh_I1_i q
    exact lv_i2s hx hb hdg rfl (q1 H locs lsc hP hS hl hkr)
  case i2c =>
    obtain rfl : n = 1 := Nat.eq_of_beq_eq_true hln
    obtain ⟨x, st, rfl, q1⟩ := oh_I1_i q
    exact lv_i2c hx hb hdg rfl (q1 H locs lsc hP hS hl hkr)
  case dup =>
    obtain rfl : n = 1 := Nat.eq_of_beq_eq_true hln
    obtain ⟨x, st, rfl, hc, q1⟩ := oh_V1_i q
    exact lv_dup hx hb hdg (by rw [oh_V_cat]; exact hc) (q1 H locs lsc hP hS hl hkr)
  case pop =>
    obtain rfl : n = 1 := Nat.eq_of_beq_eq_true hln
    obtain ⟨x, st, rfl, hc, q1⟩ := oh_V1_i q
    exact lv_pop hx hb hdg (by rw [oh_V_cat]; exact hc) (q1 H locs lsc hP hS hl hkr)
  case dup2 =>
    obtain rfl : n = 1 := Nat.eq_of_beq_eq_true hln
    obtain ⟨x, st, rfl, hc, q1⟩ := oh_V1_i q
    obtain ⟨y, st, rfl, hc2, q2⟩ := oh_V1_i q1
    exact lv_dup2_11 hx hb hdg (by rw [oh_V_cat]; exact hc) (by rw [oh_V_cat]; exact hc2) (q2 H locs lsc hP hS hl hkr)
  case goto o =>
    obtain rfl : n = 3 := Nat.eq_of_beq_eq_true hln
    exact lv_goto hx hb hdg (of_decide_eq_true hck) (oh_J_W hT q hP hS hl)
  case ifCond cd o =>
    obtain rfl : n = 3 := Nat.eq_of_beq_eq_true hln
    obtain ⟨x, st, rfl, q1⟩ := oh_I1_i q
    cases cd
    · exact lv_if_eq hx hb hdg (of_decide_eq_true hck) (fun z => oh_J_W hT (q1.1 z) hP hS hl) (fun z => q1.2 z H locs lsc hP hS hl hkr)
    · exact lv_if_ne hx hb hdg (of_decide_eq_true hck) (fun z => oh_J_W hT (q1.1 z) hP hS hl) (fun z => q1.2 z H locs lsc hP hS hl hkr)
    · exact lv_if_lt hx hb hdg (of_decide_eq_true hck) (fun z => oh_J_W hT (q1.1 z) hP hS hl) (fun z => q1.2 z H locs lsc hP hS hl hkr)
    · exact lv_if_ge hx hb hdg (of_decide_eq_true hck) (fun z => oh_J_W hT (q1.1 z) hP hS hl) (fun z => q1.2 z H locs lsc hP hS hl hkr)
    · exact lv_if_gt hx hb hdg (of_decide_eq_true hck) (fun z => oh_J_W hT (q1.1 z) hP hS hl) (fun z => q1.2 z H locs lsc hP hS hl hkr)
    · exact lv_if_le hx hb hdg (of_decide_eq_true hck) (fun z => oh_J_W hT (q1.1 z) hP hS hl) (fun z => q1.2 z H locs lsc hP hS hl hkr)
  case if_icmp cd o =>
    obtain rfl : n = 3 := Nat.eq_of_beq_eq_true hln
    obtain ⟨x, y, st, rfl, q1⟩ := oh_II_i q
    cases cd
    · exact lv_icmp_eq hx hb hdg (of_decide_eq_true hck) (fun z => oh_J_W hT (q1.1 z) hP hS hl) (fun z => q1.2 z H locs lsc hP hS hl hkr)
    · exact lv_icmp_ne hx hb hdg (of_decide_eq_true hck) (fun z => oh_J_W hT (q1.1 z) hP hS hl) (fun z => q1.2 z H locs lsc hP hS hl hkr)
    · exact lv_icmp_lt hx hb hdg (of_decide_eq_true hck) (fun z => oh_J_W hT (q1.1 z) hP hS hl) (fun z => q1.2 z H locs lsc hP hS hl hkr)
    · exact lv_icmp_ge hx hb hdg (of_decide_eq_true hck) (fun z => oh_J_W hT (q1.1 z) hP hS hl) (fun z => q1.2 z H locs lsc hP hS hl hkr)
    · exact lv_icmp_gt hx hb hdg (of_decide_eq_true hck) (fun z => oh_J_W hT (q1.1 z) hP hS hl) (fun z => q1.2 z H locs lsc hP hS hl hkr)
    · exact lv_icmp_le hx hb hdg (of_decide_eq_true hck) (fun z => oh_J_W hT (q1.1 z) hP hS hl) (fun z => q1.2 z H locs lsc hP hS hl hkr)
  case tableswitch dd lo hi os =>
    obtain ⟨x, st, rfl, q1⟩ := oh_I1_i q
    unfold oh_ckI at hck
    simp only [Bool.and_eq_true, decide_eq_true_eq, List.all_eq_true] at hck
    obtain ⟨⟨⟨⟨h1, h2⟩, h3⟩, h4⟩, h5⟩ := hck
    obtain ⟨t1, t2⟩ := oh_tab_i os.toList lo.toNat dd (by omega) q1
    by_cases hlo : x.toInt < lo
    · exact lv_tableOut hx hb hdg (Or.inl hlo) (Int.toNat_of_nonneg h4).symm (oh_J_W hT (t1 (Or.inl (by omega))) hP hS hl)
    · by_cases hhi : hi < x.toInt
      · exact lv_tableOut hx hb hdg (Or.inr hhi) (Int.toNat_of_nonneg h4).symm (oh_J_W hT (t1 (Or.inr (by omega))) hP hS hl)
      · have hk1 : (x.toInt - lo).toNat < os.toList.length := by omega
        have hk2 : os.toList[(x.toInt - lo).toNat]? = some os.toList[(x.toInt - lo).toNat] := List.getElem?_eq_getElem hk1
        exact lv_tableIn hx hb hdg hlo hhi (by rw [← Array.getElem?_toList]; exact hk2) (Int.toNat_of_nonneg (h5 _ (List.getElem_mem hk1))).symm (oh_J_W hT (t2 _ _ hk2 (by omega)) hP hS hl)
  case lookupswitch dd pp =>
    obtain ⟨x, st, rfl, q1⟩ := oh_I1_i q
    unfold oh_ckI at hck
    obtain ⟨h12, h3⟩ := (Bool.and_eq_true _ _).mp hck
    obtain ⟨h1, h2⟩ := (Bool.and_eq_true _ _).mp h12
    have h1 := of_decide_eq_true h1
    have h2 : ∀ o ∈ pp.toList, 0 ≤ (pc : Int) + o.2 ∧ 0 ≤ o.1 ∧ o.1 ≤ 2147483647 := fun o ho => by
      have := List.all_eq_true.mp h2 o ho
      simp only [Bool.and_eq_true, decide_eq_true_eq] at this
      exact ⟨this.1.1, this.1.2, this.2⟩
    exact lv_lookup hx hb hdg h3 rfl (Int.toNat_of_nonneg (oh_lkp_0 _ (fun o ho => (h2 o ho).1) h1)).symm (oh_J_W hT (oh_lkp_i pp.toList (fun o ho => (h2 o ho).2) q1) hP hS hl)
  case getfield x =>
    obtain rfl : n = 3 := Nat.eq_of_beq_eq_true hln
    obtain ⟨o, st, rfl, q1⟩ := oh_R1_i q
    obtain ⟨sl, z, v, hg, hz, hv, q2⟩ := oh_gf_i q1
    unfold oh_ckI oh_ckF at hck
    dsimp only at hck
    split at hck
    · rename_i C T' N hcl
      simp only [Bool.and_eq_true, Bool.or_eq_true] at hck
      obtain ⟨⟨h1, h2⟩, h3⟩ := hck
      exact oh_getW hx hb hown hAmb hP hg hcl (Nat.le_of_ble_eq_true h1) (of_decide_eq_true h2) h3 hz (hv ad) hdg (q2 H locs lsc hP hS hl hkr)
    · cases hck
  case putfield x =>
    obtain rfl : n = 3 := Nat.eq_of_beq_eq_true hln
    obtain ⟨o, v, st, rfl, q1⟩ := oh_RV_i q
    obtain ⟨sl, z, h', hg, hz, hv, hne, hne2, ⟨ty, hty, hnf⟩, q2⟩ := oh_pf_i q1
    unfold oh_ckI oh_ckF oh_ckN at hck
    dsimp only at hck
    obtain ⟨C0, T0, N0, hc0, hsl, hkds⟩ := oh_ckG_i hG hg
    rw [hc0] at hck
    simp only [Bool.and_eq_true, Bool.or_eq_true, Bool.not_eq_true'] at hck
    obtain ⟨⟨⟨h1, h2⟩, h3⟩, h4⟩ := hck
    have hkd := oh_kds_i hkds hz
    rw [Nat.zero_add] at hkd
    exact oh_putW hx hb hown hAmb hP hD hS hg hc0 (Nat.le_of_ble_eq_true h1) (of_decide_eq_true h2) h4 h3 hz (hty _ hkd) (hnf ad).1 (hnf ad).2 (hv ad) hne hne2 hdg (fun H1 locs1 hP1 hS1 => q2 H1 locs1 lsc hP1 hS1 hl hkr)
  case getstatic x =>
    obtain rfl : n = 3 := Nat.eq_of_beq_eq_true hln
    unfold oh_ckI at hck
    dsimp only at hck
    split at hck
    · rename_i z hz
      rcases (Bool.or_eq_true _ _).mp hck with h1 | h1
      · exact va_gets hx hb (va_Z.narrow (hAmb.2.2.1 a z hz) hAB) hS hown (oh_Ab hAmb (oh_wd_i h1)) (fun _ hh => hh) hdg (q H locs lsc hP hS hl hkr)
      · exact va_getsN hx hb (va_Z.narrow (hAmb.2.2.1 a z hz) hAB) hS hown (oh_Ab hAmb (oh_wd_i h1)) (fun _ hh => hh) hdg (q H locs lsc hP hS hl hkr)
    · cases hck
  case iaload =>
    obtain rfl : n = 1 := Nat.eq_of_beq_eq_true hln
    obtain ⟨o, i, st, rfl, q1⟩ := oh_RI_i q
    unfold oh_ia at q1
    split at q1
    · rename_i nn hg
      exact va_iald hx hb hAmb.1 hP o 0 (oh_W_at hg) rfl q1.1 hdg (q1.2 H locs lsc hP hS hl hkr)
    · exact q1.elim
    · split at q1
      · rename_i lst hf
        exact va_ti hx hb (va_T.narrow (hAmb.2.2.2.1 o lst hf) hAB) hS q1.1 rfl hdg (q1.2 H locs lsc hP hS hl hkr)
      · exact q1.elim
  case laload =>
    obtain rfl : n = 1 := Nat.eq_of_beq_eq_true hln
    obtain ⟨o, i, st, rfl, q1⟩ := oh_RI_i q
    unfold oh_la at q1
    split at q1
    · exact q1.elim
    · split at q1
      · rename_i lst hf
        exact va_tl hx hb (va_T.narrow (hAmb.2.2.2.2.1 o lst hf) hAB) hS q1.1 rfl hdg (q1.2 H locs lsc hP hS hl hkr)
      · exact q1.elim
  case aaload =>
    obtain rfl : n = 1 := Nat.eq_of_beq_eq_true hln
    obtain ⟨o, i, st, rfl, q1⟩ := oh_RI_i q
    unfold oh_aal at q1
    split at q1
    · rename_i js hg
      have hjl := oh_ckG_j hG hg
      obtain ⟨k, hk1, hk2⟩ := vp_in_of q1.1 (by omega)
      have hjk : js[k]? = some js[k] := List.getElem?_eq_getElem hk1
      have hik : i.toNatClampNeg = k := by rw [hk2, nI_clamp (by omega)]
      have q2 := q1.2
      rw [oh_nth_eq, hik, hjk] at q2
      refine va_aldq hx hb hAmb.1 hP o 1 (oh_W_at hg) rfl q1.1 hdg ?_
      have he : va_rf ((js[i.toNatClampNeg]?).map ad) = .ref (ad js[k]) := by
        rw [hik, hjk]; rfl
      rw [he]
      exact q2 H locs lsc hP hS hl hkr
    · exact q1.elim
  case iastore =>
    obtain rfl : n = 1 := Nat.eq_of_beq_eq_true hln
    obtain ⟨o, i, x, st, rfl, q1⟩ := oh_RII_i q
    unfold oh_ias at q1
    split at q1
    · rename_i nn hg
      have hset := oh_W_set (cI := cI) (cR := cR) (ad := ad) (h := h) hg (oh_upi_n h o i.toNatClampNeg x) (e := .inl (cI, nn, .inl (upd (h.1 o) i.toNatClampNeg x))) (by
        show Sum.inl (cI, nn, Sum.inl ((oh_upi h o i.toNatClampNeg x).1 o)) = _
        rw [oh_upi_1])
      exact va_iast hx hb hAmb.1 hP hD hS o 0 (oh_W_at hg) rfl q1.1 hdg (fun H1 locs1 hP1 _ hS1 => q1.2 H1 locs1 lsc (by rw [hset] at hP1; exact hP1) hS1 hl hkr)
    · exact q1.elim
  case arraylength =>
    obtain rfl : n = 1 := Nat.eq_of_beq_eq_true hln
    obtain ⟨o, st, rfl, q1⟩ := oh_R1_i q
    unfold oh_al at q1
    split at q1
    · rename_i nn hg
      exact va_alen hx hb hAmb.1 hP o 0 (oh_W_at hg) (ty := .int) rfl rfl hdg (q1 H locs lsc hP hS hl hkr)
    · exact q1.elim
  case invokevirtual x =>
    obtain rfl : n = 3 := Nat.eq_of_beq_eq_true hln
    unfold oh_ckI at hck
    dsimp only at hck
    split at hck
    · rename_i z hz
      simp only [Bool.and_eq_true, Bool.not_eq_true', decide_eq_true_eq] at hck
      obtain ⟨⟨⟨⟨h1, h2⟩, h3⟩, h4⟩, h5⟩ := hck
      refine oh_callV hx hb hml hown hAmb (fun _ => Iff.rfl) hAB hR hE hP hS hl.2.1 hz (hmi _ _ hz) h1 h2 h3 (Nat.le_of_ble_eq_true h4) h5 hdg q hbs (fun r' h' H1 locs1 hq hP1 hS1 => ?_)
      have := hq H1 locs1 lsc hP1 hS1 hl hkr
      rw [List.map_append] at this
      cases r' <;> exact this
    · cases hck
  case invokestatic x =>
    obtain rfl : n = 3 := Nat.eq_of_beq_eq_true hln
    unfold oh_ckI at hck
    dsimp only at hck
    split at q
    · simp only [Bool.and_eq_true] at hck
      obtain ⟨⟨⟨h1, h2⟩, h3⟩, h4⟩ := hck
      unfold oh_acp at q
      split at q
      · rename_i nn dp o1 sp o0 r0
        split at q
        · rename_i n0 n1 hg0 hg1 hcs
          obtain ⟨⟨g1, g2, g3, g4, g5⟩, q⟩ := q
          have hset := oh_W_set (cI := cI) (cR := cR) (ad := ad) (h := h) hg1 (oh_upa_n h o1 (va_cpy (h.1 o0) (h.1 o1) sp.toNatClampNeg dp.toNatClampNeg nn.toNatClampNeg)) (e := .inl (cI, n1, .inl (va_cpy (h.1 o0) (h.1 o1) sp.toNatClampNeg dp.toNatClampNeg nn.toNatClampNeg))) (by
            show Sum.inl (cI, n1, Sum.inl ((oh_upa h o1 _).1 o1)) = _
            simp [oh_upa])
          have hcs' : ((r0.map (oh_V ad)).map fun v => v.category).sum ≤ 8 := by rw [oh_csum_eq]; exact Nat.le_of_ble_eq_true hcs
          have hnf : nativeFrameWords "java/lang/System" "arraycopy" 5 = 7 := by decide +kernel
          exact va_copyi (rest := r0.map (oh_V ad)) hx hb (hml.trans hl.2.1.symm) hown (oh_Ab hAmb (oh_wd_i h1)) (oh_Ab hAmb (oh_wd_i h2)) (oh_Ab hAmb (oh_wd_i h3)) (oh_Ab hAmb (oh_wd_i h4)) hAmb.1 hP hD hS o0 o1 0 0 (oh_W_at hg0) (oh_W_at hg1) (ty := .int) rfl rfl rfl g1 g2 g3 g4 g5 (fun _ _ => rfl) (by rw [hR]; simp [oh_rm]) (by rw [hR, hnf]; simp only [oh_rm]; omega) hdg (fun H1 locs1 hP1 _ hS1 => q H1 locs1 lsc (by rw [hset] at hP1; exact hP1) hS1 hl hkr)
        · exact q.elim
      · exact q.elim
    · split at hck
      · exact absurd rfl (by assumption)
      · split at hck
        · rename_i z hz
          simp only [Bool.and_eq_true, decide_eq_true_eq] at hck
          obtain ⟨⟨h1, h2⟩, h3⟩ := hck
          refine oh_callS hx hb hml hown hAmb (fun _ => Iff.rfl) hAB hR hE hP hS hl.2.1 hz (hmi _ _ hz) h1 h2 h3 hdg q hbs (fun r' h' H1 locs1 hq hP1 hS1 => ?_)
          have := hq H1 locs1 lsc hP1 hS1 hl hkr
          rw [List.map_append] at this
          cases r' <;> exact this
        · cases hck
  case ireturn =>
    obtain rfl : n = 1 := Nat.eq_of_beq_eq_true hln
    obtain ⟨x, st, rfl, q1⟩ := oh_I1_i q
    obtain ⟨rfl, q2⟩ := oh_Z_i q1
    rcases a with _ | a
    · exact W.iret (v := x) hx hb (hr.trans (of_decide_eq_true hck)) (fun t ht hW => ⟨⟨some (.int x), h, rfl, q2, by rw [ht]; exact hP⟩, hS.F ht⟩) hS.2.2 hdg (hlocks := hlocks)
    · exact W.zret (v := x) (ty := .boolean) hx hb (hr.trans (of_decide_eq_true hck)) (by rcases q2.1 with rfl | rfl <;> decide +kernel) (fun t ht hW => ⟨⟨some (.int x), h, rfl, q2.2, by rw [ht]; exact hP⟩, hS.F ht⟩) hS.2.2 hdg (hlocks := hlocks)
  case lreturn =>
    obtain rfl : n = 1 := Nat.eq_of_beq_eq_true hln
    obtain ⟨x, st, rfl, q1⟩ := oh_L1_i q
    obtain ⟨rfl, q2⟩ := oh_Z_i q1
    exact W.lret (v := x) hx hb (hr.trans (of_decide_eq_true hck)) (fun t ht hW => ⟨⟨some (.long x), h, rfl, q2, by rw [ht]; exact hP⟩, hS.F ht⟩) hS.2.2 hdg (hlocks := hlocks)
  case areturn =>
    obtain rfl : n = 1 := Nat.eq_of_beq_eq_true hln
    obtain ⟨x, st, rfl, q1⟩ := oh_R1_i q
    obtain ⟨rfl, q2⟩ := oh_Z_i q1
    unfold oh_ckI at hck
    dsimp only at hck
    split at hck
    · exact W.aret (v := .ref (ad x)) hx hb hr (Or.inl ⟨_, rfl⟩) (Or.inr ⟨_, rfl⟩) (fun t ht hW => ⟨⟨some (.ref x), h, rfl, q2, by rw [ht]; exact hP⟩, hS.F ht⟩) hS.2.2 hdg (hlocks := hlocks)
    · cases hck
  case return_ =>
    obtain rfl : n = 1 := Nat.eq_of_beq_eq_true hln
    obtain ⟨rfl, q1⟩ := oh_Z_i q
    exact W.vret hx hb (hr.trans (of_decide_eq_true hck)) (fun t ht hW => ⟨⟨none, h, rfl, q1, by rw [ht]; exact hP⟩, hS.F ht⟩) hS.2.2 hdg (hlocks := hlocks)
end OHC
end
section
/-! SOUNDNESS: each method, by the depth of its calls -/
/-- what is wanted of the methods that are taken by hand (the JDK's indexOf) -/
def oh_Prim (l : Launch) (D : va_G) (cI cR : ClassId) (ad : Nat → Nat) (b0 : Nat) (G : List oh_Sh) (mi : List oh_MI) (M : List (Nat × oh_T)) : Prop :=
  ∀ (j : Nat) (q : oh_MI) (T : oh_T), oh_nth mi j = some q → oh_nth M j = some (0, T) → ∀ (d k : Nat) (x : Int32) (h : oh_St) (Q : oh_Q) (sz : Nat), b0 ≤ sz → 5 ≤ d → 2000 ≤ k → k ≤ 2002 → Q (some (.int (oh_ixF x (oh_tx.getD (k - 2000) []) 0))) h → Met l q.1 [.code q.1 q.2.1 q.2.2.1 q.2.2.2.1] (oh_rm (d + 1)) (oh_Pc D cI cR ad b0 G h [.ref k, .int x] sz) (oh_Qc D cI cR ad G Q sz) 0 0 (oh_A ad G sz)
theorem oh_sound {l : Launch} {D : va_G} {cI cR : ClassId} {ad : Nat → Nat} {b0 : Nat} {G : List oh_Sh} {mi : List oh_MI} {M : List (Nat × oh_T)} (hG : oh_ckG G = true) (hinj : ∀ i j, i < G.length → j < G.length → ad i = ad j → i = j) (hb0 : ∀ i, i < G.length → b0 ≤ ad i) (hmi : ∀ j q, oh_nth mi j = some q → oh_ckM q = true)
    (hM : ∀ j q, oh_nth mi j = some q → ∃ nL T, oh_nth M j = some (nL, T) ∧ (nL = 0 ∨ (nL = q.2.2.1 ∧ oh_ckT mi q.1.cls q.2.2.2.1 q.2.1 T = true))) (hprim : oh_Prim l D cI cR ad b0 G mi M) : ∀ d : Nat, oh_Ms l D cI cR ad b0 G mi d (oh_mwp G M d)
  | 0 => fun _ _ _ _ _ _ _ _ h => h.elim
  | d + 1 => by
    have ih := oh_sound hG hinj hb0 hmi hM hprim d
    intro j q hq av h Q sz hsz hE
    obtain ⟨nL, T, hMj, hnL⟩ := hM j q hq
    unfold oh_mwp at hE
    rw [hMj] at hE
    dsimp only at hE
    rcases nL with _ | nL'
    · split at hE
      · split at hE
        · rename_i k x
          exact hprim j q T hq hMj d k x h Q sz hsz hE.1 hE.2.1 hE.2.2.1 hE.2.2.2
        · exact hE.elim
      · rename_i hne
        exact absurd rfl hne
    · rcases hnL with h0 | ⟨hnL, hT⟩
      · cases h0
      · obtain ⟨hlen, hJ⟩ := hE
        have hlen : (oh_arg av).length ≤ nL' + 1 := Nat.le_of_ble_eq_true hlen
        have hpl := (oh_ckM_i (hmi j q hq)).2.2.2.2.1
        refine Met.ofW (cc := q.2.1) (maxL := q.2.2.1) (ret := q.2.2.2.1) hpl rfl ?_
        intro p e s m args below meth c s₁ B hml hv
        obtain ⟨rfl, hsz', hP, hAmb⟩ := hv
        subst hsz'
        have hown : s.vm.findClass q.1.cls = some m.cls := findClass_of_methodNamed B.named
        rw [← hnL] at hml ⊢
        rw [lg_entry_eq]
        have hent := lv_entry (av.map (oh_V ad)) (n := nL' + 1) (by rw [← oh_arg_len]; exact hlen)
        generalize (lg_sl (av.map (oh_V ad)) ++ List.replicate (nL' + 1 - (lg_sl (av.map (oh_V ad))).length) Slot.unset).toArray = lsc at hent ⊢
        have hl : oh_loc ad lsc (nL' + 1) (oh_pad (nL' + 1) (oh_arg av)) := ⟨oh_pad_len _ _ hlen, hent.1, hent.2.1, fun i v hv => by
          have := hent.2.2 _ (oh_arg_get ad av 0 i v (oh_pad_get _ _ i v hv))
          rw [Nat.zero_add] at this
          exact this⟩
        have hcl := oh_closed (p := p) (l := l) (e := e) (R := oh_rm (d + 1)) (s := s) (m := m) (args := (av.map (oh_V ad)).toArray) (below := below) (meth := meth) (c := c) (D := D) (cI := cI) (cR := cR) (ad := ad) (G := G) (mi := mi) (own := q.1.cls) (ret := q.2.2.2.1) (bytes := q.2.1) (nL := nL' + 1) (b0 := b0) (T := T) (d := d) (E := oh_mwp G M d) (Q := Q) B.exec B.bytes hml hown B.returns B.notSynchronized hAmb hG hinj hb0 hsz rfl ih hmi hT
        have hw : ∀ pc code l2 l3 st h, oh_more l2 l3 → oh_Pm p l e (oh_rm (d + 1)) s m (av.map (oh_V ad)).toArray below meth c D cI cR ad G (oh_A ad G s.heap.size) (MQ below (oh_Qc D cI cR ad G Q s.heap.size) (av.map (oh_V ad)).toArray s 0 0 (oh_A ad G s.heap.size)) mi q.1.cls q.2.2.2.1 q.2.1 (nL' + 1) pc code l2 st h → oh_Pm p l e (oh_rm (d + 1)) s m (av.map (oh_V ad)).toArray below meth c D cI cR ad G (oh_A ad G s.heap.size) (MQ below (oh_Qc D cI cR ad G Q s.heap.size) (av.map (oh_V ad)).toArray s 0 0 (oh_A ad G s.heap.size)) mi q.1.cls q.2.2.2.1 q.2.1 (nL' + 1) pc code l3 st h := fun pc code l2 l3 st h hm z H locs lsc hP hS hl hk => z H locs lsc hP hS (oh_loc_less hm hl) hk
        exact oh_J_W (A := oh_A ad G s.heap.size) (R := oh_rm (d + 1)) (l' := oh_pad (nL' + 1) (oh_arg av)) (st := []) (h := h) hT (oh_J_m (fun pc' c2 l2 st2 h2 z => z _ hcl hw) (fun pc' c2 l2 st2 h2 z => z _ hcl hw) hJ) hP va_S.rf hl
end
