section
-- ===== PART A: goes FIRST, ahead of the names: the tables' words, and 'selects' of the private methods out of them =====
/-- a private method of a class that the tables say can be made, by its rows of tables_1 -/
def lw_okq (q : MethodName × Nat) : Prop := (q.1.cls ≠ "java/lang/invoke/MethodHandle" ∧ q.1.cls ≠ "java/lang/invoke/VarHandle") ∧ Cond.instantiable q.1.cls q.2 ∈ tables_1 ∧ Cond.privateMethod q.1 ∈ tables_1 ∧ Cond.instanceMethod q.1 ∈ tables_1
theorem lw_p0 : lw_okq (⟨"BesideWalk", "refuse", "(I)I"⟩, 11) := ⟨⟨by decide +kernel, by decide +kernel⟩, List.mem_of_getElem? (i := 15) (by decide +kernel), List.mem_of_getElem? (i := 255) (by decide +kernel), List.mem_of_getElem? (i := 256) (by decide +kernel)⟩
theorem lw_p1 : lw_okq (⟨"BesideWalk", "leavePast", "(I)V"⟩, 11) := ⟨⟨by decide +kernel, by decide +kernel⟩, List.mem_of_getElem? (i := 15) (by decide +kernel), List.mem_of_getElem? (i := 259) (by decide +kernel), List.mem_of_getElem? (i := 260) (by decide +kernel)⟩
theorem lw_p2 : lw_okq (⟨"BesideWalk", "isMove", "(IIII)Z"⟩, 11) := ⟨⟨by decide +kernel, by decide +kernel⟩, List.mem_of_getElem? (i := 15) (by decide +kernel), List.mem_of_getElem? (i := 288) (by decide +kernel), List.mem_of_getElem? (i := 289) (by decide +kernel)⟩
theorem lw_p3 : lw_okq (⟨"BesideWalk", "isState", "(II)Z"⟩, 11) := ⟨⟨by decide +kernel, by decide +kernel⟩, List.mem_of_getElem? (i := 15) (by decide +kernel), List.mem_of_getElem? (i := 292) (by decide +kernel), List.mem_of_getElem? (i := 293) (by decide +kernel)⟩
theorem lw_p4 : lw_okq (⟨"BesideWalk$Proc", "setTargets", "(III)V"⟩, 3) := ⟨⟨by decide +kernel, by decide +kernel⟩, List.mem_of_getElem? (i := 33) (by decide +kernel), List.mem_of_getElem? (i := 314) (by decide +kernel), List.mem_of_getElem? (i := 315) (by decide +kernel)⟩
theorem lw_p5 : lw_okq (⟨"BesideWalk$Pairing", "number", "(II)I"⟩, 4) := ⟨⟨by decide +kernel, by decide +kernel⟩, List.mem_of_getElem? (i := 158) (by decide +kernel), List.mem_of_getElem? (i := 361) (by decide +kernel), List.mem_of_getElem? (i := 362) (by decide +kernel)⟩
theorem lw_p6 : lw_okq (⟨"BesideWalk$Pairing", "both", "(LBesideWalk$Proc;LBesideWalk$Proc;IILBesideWalk$Proc;)V"⟩, 4) := ⟨⟨by decide +kernel, by decide +kernel⟩, List.mem_of_getElem? (i := 158) (by decide +kernel), List.mem_of_getElem? (i := 366) (by decide +kernel), List.mem_of_getElem? (i := 367) (by decide +kernel)⟩
theorem lw_p7 : lw_okq (⟨"BesideWalk$Pairing", "add", "(IIILBesideWalk$Proc;)V"⟩, 4) := ⟨⟨by decide +kernel, by decide +kernel⟩, List.mem_of_getElem? (i := 158) (by decide +kernel), List.mem_of_getElem? (i := 371) (by decide +kernel), List.mem_of_getElem? (i := 372) (by decide +kernel)⟩
theorem lw_p8 : lw_okq (⟨"BesideWalk$Pairing", "oneAlone", "(LBesideWalk$Proc;LBesideWalk$Proc;IILBesideWalk$Proc;)V"⟩, 4) := ⟨⟨by decide +kernel, by decide +kernel⟩, List.mem_of_getElem? (i := 158) (by decide +kernel), List.mem_of_getElem? (i := 376) (by decide +kernel), List.mem_of_getElem? (i := 377) (by decide +kernel)⟩
theorem lw_p9 : lw_okq (⟨"BesideWalk$Likeness", "join", "(LBesideWalk$Proc;)V"⟩, 6) := ⟨⟨by decide +kernel, by decide +kernel⟩, List.mem_of_getElem? (i := 133) (by decide +kernel), List.mem_of_getElem? (i := 390) (by decide +kernel), List.mem_of_getElem? (i := 391) (by decide +kernel)⟩
theorem lw_p10 : lw_okq (⟨"BesideWalk$Likeness", "findAlike", "()V"⟩, 6) := ⟨⟨by decide +kernel, by decide +kernel⟩, List.mem_of_getElem? (i := 133) (by decide +kernel), List.mem_of_getElem? (i := 395) (by decide +kernel), List.mem_of_getElem? (i := 396) (by decide +kernel)⟩
theorem lw_p11 : lw_okq (⟨"BesideWalk$Likeness", "findImages", "()V"⟩, 6) := ⟨⟨by decide +kernel, by decide +kernel⟩, List.mem_of_getElem? (i := 133) (by decide +kernel), List.mem_of_getElem? (i := 399) (by decide +kernel), List.mem_of_getElem? (i := 400) (by decide +kernel)⟩
theorem lw_p12 : lw_okq (⟨"BesideWalk$Likeness", "splits", "()Z"⟩, 6) := ⟨⟨by decide +kernel, by decide +kernel⟩, List.mem_of_getElem? (i := 133) (by decide +kernel), List.mem_of_getElem? (i := 404) (by decide +kernel), List.mem_of_getElem? (i := 405) (by decide +kernel)⟩
theorem lw_p13 : lw_okq (⟨"BesideWalk$Likeness", "sameImages", "(II)Z"⟩, 6) := ⟨⟨by decide +kernel, by decide +kernel⟩, List.mem_of_getElem? (i := 133) (by decide +kernel), List.mem_of_getElem? (i := 408) (by decide +kernel), List.mem_of_getElem? (i := 409) (by decide +kernel)⟩
theorem lw_p14 : lw_okq (⟨"BesideWalk$Proc", "successors", "(I)I"⟩, 3) := ⟨⟨by decide +kernel, by decide +kernel⟩, List.mem_of_getElem? (i := 33) (by decide +kernel), List.mem_of_getElem? (i := 420) (by decide +kernel), List.mem_of_getElem? (i := 421) (by decide +kernel)⟩
theorem lw_p15 : lw_okq (⟨"BesideWalk$Likeness", "standIn", "(II)I"⟩, 6) := ⟨⟨by decide +kernel, by decide +kernel⟩, List.mem_of_getElem? (i := 133) (by decide +kernel), List.mem_of_getElem? (i := 424) (by decide +kernel), List.mem_of_getElem? (i := 425) (by decide +kernel)⟩
def lw_privs_1 : List (MethodName × Nat) := [(⟨"BesideWalk", "refuse", "(I)I"⟩, 11), (⟨"BesideWalk", "leavePast", "(I)V"⟩, 11), (⟨"BesideWalk", "isMove", "(IIII)Z"⟩, 11), (⟨"BesideWalk", "isState", "(II)Z"⟩, 11), (⟨"BesideWalk$Proc", "setTargets", "(III)V"⟩, 3), (⟨"BesideWalk$Pairing", "number", "(II)I"⟩, 4), (⟨"BesideWalk$Pairing", "both", "(LBesideWalk$Proc;LBesideWalk$Proc;IILBesideWalk$Proc;)V"⟩, 4), (⟨"BesideWalk$Pairing", "add", "(IIILBesideWalk$Proc;)V"⟩, 4), (⟨"BesideWalk$Pairing", "oneAlone", "(LBesideWalk$Proc;LBesideWalk$Proc;IILBesideWalk$Proc;)V"⟩, 4), (⟨"BesideWalk$Likeness", "join", "(LBesideWalk$Proc;)V"⟩, 6), (⟨"BesideWalk$Likeness", "findAlike", "()V"⟩, 6), (⟨"BesideWalk$Likeness", "findImages", "()V"⟩, 6), (⟨"BesideWalk$Likeness", "splits", "()Z"⟩, 6), (⟨"BesideWalk$Likeness", "sameImages", "(II)Z"⟩, 6), (⟨"BesideWalk$Proc", "successors", "(I)I"⟩, 3), (⟨"BesideWalk$Likeness", "standIn", "(II)I"⟩, 6)]
theorem lw_r1 : ∀ q ∈ lw_privs_1, lw_okq q := List.forall_mem_cons.mpr ⟨lw_p0, List.forall_mem_cons.mpr ⟨lw_p1, List.forall_mem_cons.mpr ⟨lw_p2, List.forall_mem_cons.mpr ⟨lw_p3, List.forall_mem_cons.mpr ⟨lw_p4, List.forall_mem_cons.mpr ⟨lw_p5, List.forall_mem_cons.mpr ⟨lw_p6, List.forall_mem_cons.mpr ⟨lw_p7, List.forall_mem_cons.mpr ⟨lw_p8, List.forall_mem_cons.mpr ⟨lw_p9, List.forall_mem_cons.mpr ⟨lw_p10, List.forall_mem_cons.mpr ⟨lw_p11, List.forall_mem_cons.mpr ⟨lw_p12, List.forall_mem_cons.mpr ⟨lw_p13, List.forall_mem_cons.mpr ⟨lw_p14, List.forall_mem_cons.mpr ⟨lw_p15, fun _ h => absurd h List.not_mem_nil⟩⟩⟩⟩⟩⟩⟩⟩⟩⟩⟩⟩⟩⟩⟩⟩
theorem lw_p16 : lw_okq (⟨"BesideWalk$Likeness", "pressMoves", "(LBesideWalk$Proc;IILBesideWalk$Proc;)V"⟩, 6) := ⟨⟨by decide +kernel, by decide +kernel⟩, List.mem_of_getElem? (i := 133) (by decide +kernel), List.mem_of_getElem? (i := 429) (by decide +kernel), List.mem_of_getElem? (i := 430) (by decide +kernel)⟩
theorem lw_p17 : lw_okq (⟨"BesideWalk", "figure", "(II)I"⟩, 11) := ⟨⟨by decide +kernel, by decide +kernel⟩, List.mem_of_getElem? (i := 15) (by decide +kernel), List.mem_of_getElem? (i := 439) (by decide +kernel), List.mem_of_getElem? (i := 440) (by decide +kernel)⟩
theorem lw_p18 : lw_okq (⟨"BesideWalk", "outlook", "(I)LBesideWalk$Outlook;"⟩, 11) := ⟨⟨by decide +kernel, by decide +kernel⟩, List.mem_of_getElem? (i := 15) (by decide +kernel), List.mem_of_getElem? (i := 455) (by decide +kernel), List.mem_of_getElem? (i := 456) (by decide +kernel)⟩
theorem lw_p19 : lw_okq (⟨"BesideWalk$Outlook", "findLost", "(LBesideWalk$Proc;)V"⟩, 9) := ⟨⟨by decide +kernel, by decide +kernel⟩, List.mem_of_getElem? (i := 177) (by decide +kernel), List.mem_of_getElem? (i := 465) (by decide +kernel), List.mem_of_getElem? (i := 466) (by decide +kernel)⟩
theorem lw_p20 : lw_okq (⟨"BesideWalk$Outlook", "findOnward", "(LBesideWalk$Proc;)V"⟩, 9) := ⟨⟨by decide +kernel, by decide +kernel⟩, List.mem_of_getElem? (i := 177) (by decide +kernel), List.mem_of_getElem? (i := 469) (by decide +kernel), List.mem_of_getElem? (i := 470) (by decide +kernel)⟩
theorem lw_p21 : lw_okq (⟨"BesideWalk$Outlook", "fillSingles", "(LBesideWalk$Proc;)V"⟩, 9) := ⟨⟨by decide +kernel, by decide +kernel⟩, List.mem_of_getElem? (i := 177) (by decide +kernel), List.mem_of_getElem? (i := 474) (by decide +kernel), List.mem_of_getElem? (i := 475) (by decide +kernel)⟩
theorem lw_p22 : lw_okq (⟨"BesideWalk$Outlook", "onwardFrom", "(I)I"⟩, 9) := ⟨⟨by decide +kernel, by decide +kernel⟩, List.mem_of_getElem? (i := 177) (by decide +kernel), List.mem_of_getElem? (i := 478) (by decide +kernel), List.mem_of_getElem? (i := 479) (by decide +kernel)⟩
theorem lw_p23 : lw_okq (⟨"BesideWalk$Outlook", "fillSets", "()V"⟩, 9) := ⟨⟨by decide +kernel, by decide +kernel⟩, List.mem_of_getElem? (i := 177) (by decide +kernel), List.mem_of_getElem? (i := 485) (by decide +kernel), List.mem_of_getElem? (i := 486) (by decide +kernel)⟩
theorem lw_p24 : lw_okq (⟨"BesideWalk$Text", "readByte", "(ILBesideWalk$Proc;)I"⟩, 8) := ⟨⟨by decide +kernel, by decide +kernel⟩, List.mem_of_getElem? (i := 69) (by decide +kernel), List.mem_of_getElem? (i := 526) (by decide +kernel), List.mem_of_getElem? (i := 527) (by decide +kernel)⟩
theorem lw_p25 : lw_okq (⟨"BesideWalk$Text", "readFrom", "(IILBesideWalk$Proc;)I"⟩, 8) := ⟨⟨by decide +kernel, by decide +kernel⟩, List.mem_of_getElem? (i := 69) (by decide +kernel), List.mem_of_getElem? (i := 530) (by decide +kernel), List.mem_of_getElem? (i := 531) (by decide +kernel)⟩
theorem lw_p26 : lw_okq (⟨"BesideWalk$Text", "readBy", "(II)I"⟩, 8) := ⟨⟨by decide +kernel, by decide +kernel⟩, List.mem_of_getElem? (i := 69) (by decide +kernel), List.mem_of_getElem? (i := 538) (by decide +kernel), List.mem_of_getElem? (i := 539) (by decide +kernel)⟩
theorem lw_p27 : lw_okq (⟨"BesideWalk$Text", "readTo", "(IILBesideWalk$Proc;)I"⟩, 8) := ⟨⟨by decide +kernel, by decide +kernel⟩, List.mem_of_getElem? (i := 69) (by decide +kernel), List.mem_of_getElem? (i := 542) (by decide +kernel), List.mem_of_getElem? (i := 543) (by decide +kernel)⟩
theorem lw_p28 : lw_okq (⟨"BesideWalk$Search", "forget", "()V"⟩, 7) := ⟨⟨by decide +kernel, by decide +kernel⟩, List.mem_of_getElem? (i := 104) (by decide +kernel), List.mem_of_getElem? (i := 588) (by decide +kernel), List.mem_of_getElem? (i := 589) (by decide +kernel)⟩
theorem lw_p29 : lw_okq (⟨"BesideWalk$Search", "enqueue", "(III)V"⟩, 7) := ⟨⟨by decide +kernel, by decide +kernel⟩, List.mem_of_getElem? (i := 104) (by decide +kernel), List.mem_of_getElem? (i := 594) (by decide +kernel), List.mem_of_getElem? (i := 595) (by decide +kernel)⟩
theorem lw_p30 : lw_okq (⟨"BesideWalk$Search", "grow", "()V"⟩, 7) := ⟨⟨by decide +kernel, by decide +kernel⟩, List.mem_of_getElem? (i := 104) (by decide +kernel), List.mem_of_getElem? (i := 599) (by decide +kernel), List.mem_of_getElem? (i := 600) (by decide +kernel)⟩
theorem lw_p31 : lw_okq (⟨"BesideWalk$Search", "note", "(II)V"⟩, 7) := ⟨⟨by decide +kernel, by decide +kernel⟩, List.mem_of_getElem? (i := 104) (by decide +kernel), List.mem_of_getElem? (i := 632) (by decide +kernel), List.mem_of_getElem? (i := 633) (by decide +kernel)⟩
def lw_privs_2 : List (MethodName × Nat) := [(⟨"BesideWalk$Likeness", "pressMoves", "(LBesideWalk$Proc;IILBesideWalk$Proc;)V"⟩, 6), (⟨"BesideWalk", "figure", "(II)I"⟩, 11), (⟨"BesideWalk", "outlook", "(I)LBesideWalk$Outlook;"⟩, 11), (⟨"BesideWalk$Outlook", "findLost", "(LBesideWalk$Proc;)V"⟩, 9), (⟨"BesideWalk$Outlook", "findOnward", "(LBesideWalk$Proc;)V"⟩, 9), (⟨"BesideWalk$Outlook", "fillSingles", "(LBesideWalk$Proc;)V"⟩, 9), (⟨"BesideWalk$Outlook", "onwardFrom", "(I)I"⟩, 9), (⟨"BesideWalk$Outlook", "fillSets", "()V"⟩, 9), (⟨"BesideWalk$Text", "readByte", "(ILBesideWalk$Proc;)I"⟩, 8), (⟨"BesideWalk$Text", "readFrom", "(IILBesideWalk$Proc;)I"⟩, 8), (⟨"BesideWalk$Text", "readBy", "(II)I"⟩, 8), (⟨"BesideWalk$Text", "readTo", "(IILBesideWalk$Proc;)I"⟩, 8), (⟨"BesideWalk$Search", "forget", "()V"⟩, 7), (⟨"BesideWalk$Search", "enqueue", "(III)V"⟩, 7), (⟨"BesideWalk$Search", "grow", "()V"⟩, 7), (⟨"BesideWalk$Search", "note", "(II)V"⟩, 7)]
theorem lw_r2 : ∀ q ∈ lw_privs_2, lw_okq q := List.forall_mem_cons.mpr ⟨lw_p16, List.forall_mem_cons.mpr ⟨lw_p17, List.forall_mem_cons.mpr ⟨lw_p18, List.forall_mem_cons.mpr ⟨lw_p19, List.forall_mem_cons.mpr ⟨lw_p20, List.forall_mem_cons.mpr ⟨lw_p21, List.forall_mem_cons.mpr ⟨lw_p22, List.forall_mem_cons.mpr ⟨lw_p23, List.forall_mem_cons.mpr ⟨lw_p24, List.forall_mem_cons.mpr ⟨lw_p25, List.forall_mem_cons.mpr ⟨lw_p26, List.forall_mem_cons.mpr ⟨lw_p27, List.forall_mem_cons.mpr ⟨lw_p28, List.forall_mem_cons.mpr ⟨lw_p29, List.forall_mem_cons.mpr ⟨lw_p30, List.forall_mem_cons.mpr ⟨lw_p31, fun _ h => absurd h List.not_mem_nil⟩⟩⟩⟩⟩⟩⟩⟩⟩⟩⟩⟩⟩⟩⟩⟩
theorem lw_p32 : lw_okq (⟨"BesideWalk", "tally", "(I)I"⟩, 11) := ⟨⟨by decide +kernel, by decide +kernel⟩, List.mem_of_getElem? (i := 15) (by decide +kernel), List.mem_of_getElem? (i := 670) (by decide +kernel), List.mem_of_getElem? (i := 671) (by decide +kernel)⟩
theorem lw_p33 : lw_okq (⟨"BesideWalk", "digestOfProcess", "(JI)J"⟩, 11) := ⟨⟨by decide +kernel, by decide +kernel⟩, List.mem_of_getElem? (i := 15) (by decide +kernel), List.mem_of_getElem? (i := 680) (by decide +kernel), List.mem_of_getElem? (i := 681) (by decide +kernel)⟩
theorem lw_p34 : lw_okq (⟨"BesideWalk", "digestOfContest", "(JII)J"⟩, 11) := ⟨⟨by decide +kernel, by decide +kernel⟩, List.mem_of_getElem? (i := 15) (by decide +kernel), List.mem_of_getElem? (i := 684) (by decide +kernel), List.mem_of_getElem? (i := 685) (by decide +kernel)⟩
theorem lw_p35 : lw_okq (⟨"BesideWalkModel", "counts", "(I)I"⟩, 16) := ⟨⟨by decide +kernel, by decide +kernel⟩, List.mem_of_getElem? (i := 688) (by decide +kernel), List.mem_of_getElem? (i := 748) (by decide +kernel), List.mem_of_getElem? (i := 749) (by decide +kernel)⟩
theorem lw_p36 : lw_okq (⟨"BesideWalkModel", "leaves", "()V"⟩, 16) := ⟨⟨by decide +kernel, by decide +kernel⟩, List.mem_of_getElem? (i := 688) (by decide +kernel), List.mem_of_getElem? (i := 762) (by decide +kernel), List.mem_of_getElem? (i := 763) (by decide +kernel)⟩
theorem lw_p37 : lw_okq (⟨"BesideWalkModel", "many", "(I)I"⟩, 16) := ⟨⟨by decide +kernel, by decide +kernel⟩, List.mem_of_getElem? (i := 688) (by decide +kernel), List.mem_of_getElem? (i := 766) (by decide +kernel), List.mem_of_getElem? (i := 767) (by decide +kernel)⟩
theorem lw_p38 : lw_okq (⟨"BesideWalkModel", "isMove", "(IIII)Z"⟩, 16) := ⟨⟨by decide +kernel, by decide +kernel⟩, List.mem_of_getElem? (i := 688) (by decide +kernel), List.mem_of_getElem? (i := 774) (by decide +kernel), List.mem_of_getElem? (i := 775) (by decide +kernel)⟩
theorem lw_p39 : lw_okq (⟨"BesideWalkModel", "isState", "(II)Z"⟩, 16) := ⟨⟨by decide +kernel, by decide +kernel⟩, List.mem_of_getElem? (i := 688) (by decide +kernel), List.mem_of_getElem? (i := 778) (by decide +kernel), List.mem_of_getElem? (i := 779) (by decide +kernel)⟩
theorem lw_p40 : lw_okq (⟨"BesideWalkModel", "leadsOf", "(III)I"⟩, 16) := ⟨⟨by decide +kernel, by decide +kernel⟩, List.mem_of_getElem? (i := 688) (by decide +kernel), List.mem_of_getElem? (i := 782) (by decide +kernel), List.mem_of_getElem? (i := 783) (by decide +kernel)⟩
theorem lw_p41 : lw_okq (⟨"BesideWalkModel", "movesOf", "(I)I"⟩, 16) := ⟨⟨by decide +kernel, by decide +kernel⟩, List.mem_of_getElem? (i := 688) (by decide +kernel), List.mem_of_getElem? (i := 792) (by decide +kernel), List.mem_of_getElem? (i := 793) (by decide +kernel)⟩
theorem lw_p42 : lw_okq (⟨"BesideWalkModel", "shifts", "(III)V"⟩, 16) := ⟨⟨by decide +kernel, by decide +kernel⟩, List.mem_of_getElem? (i := 688) (by decide +kernel), List.mem_of_getElem? (i := 807) (by decide +kernel), List.mem_of_getElem? (i := 808) (by decide +kernel)⟩
theorem lw_p43 : lw_okq (⟨"BesideWalkModel", "isMade", "(III)Z"⟩, 16) := ⟨⟨by decide +kernel, by decide +kernel⟩, List.mem_of_getElem? (i := 688) (by decide +kernel), List.mem_of_getElem? (i := 819) (by decide +kernel), List.mem_of_getElem? (i := 820) (by decide +kernel)⟩
theorem lw_p44 : lw_okq (⟨"BesideWalkModel", "pairAt", "(II)I"⟩, 16) := ⟨⟨by decide +kernel, by decide +kernel⟩, List.mem_of_getElem? (i := 688) (by decide +kernel), List.mem_of_getElem? (i := 823) (by decide +kernel), List.mem_of_getElem? (i := 824) (by decide +kernel)⟩
theorem lw_p45 : lw_okq (⟨"BesideWalkModel", "pairsUp", "(IIII)Z"⟩, 16) := ⟨⟨by decide +kernel, by decide +kernel⟩, List.mem_of_getElem? (i := 688) (by decide +kernel), List.mem_of_getElem? (i := 827) (by decide +kernel), List.mem_of_getElem? (i := 828) (by decide +kernel)⟩
theorem lw_p46 : lw_okq (⟨"BesideWalkModel", "putsMade", "(I)V"⟩, 16) := ⟨⟨by decide +kernel, by decide +kernel⟩, List.mem_of_getElem? (i := 688) (by decide +kernel), List.mem_of_getElem? (i := 831) (by decide +kernel), List.mem_of_getElem? (i := 832) (by decide +kernel)⟩
theorem lw_p47 : lw_okq (⟨"BesideWalkModel", "laysLike", "(II)V"⟩, 16) := ⟨⟨by decide +kernel, by decide +kernel⟩, List.mem_of_getElem? (i := 688) (by decide +kernel), List.mem_of_getElem? (i := 839) (by decide +kernel), List.mem_of_getElem? (i := 840) (by decide +kernel)⟩
def lw_privs_3 : List (MethodName × Nat) := [(⟨"BesideWalk", "tally", "(I)I"⟩, 11), (⟨"BesideWalk", "digestOfProcess", "(JI)J"⟩, 11), (⟨"BesideWalk", "digestOfContest", "(JII)J"⟩, 11), (⟨"BesideWalkModel", "counts", "(I)I"⟩, 16), (⟨"BesideWalkModel", "leaves", "()V"⟩, 16), (⟨"BesideWalkModel", "many", "(I)I"⟩, 16), (⟨"BesideWalkModel", "isMove", "(IIII)Z"⟩, 16), (⟨"BesideWalkModel", "isState", "(II)Z"⟩, 16), (⟨"BesideWalkModel", "leadsOf", "(III)I"⟩, 16), (⟨"BesideWalkModel", "movesOf", "(I)I"⟩, 16), (⟨"BesideWalkModel", "shifts", "(III)V"⟩, 16), (⟨"BesideWalkModel", "isMade", "(III)Z"⟩, 16), (⟨"BesideWalkModel", "pairAt", "(II)I"⟩, 16), (⟨"BesideWalkModel", "pairsUp", "(IIII)Z"⟩, 16), (⟨"BesideWalkModel", "putsMade", "(I)V"⟩, 16), (⟨"BesideWalkModel", "laysLike", "(II)V"⟩, 16)]
theorem lw_r3 : ∀ q ∈ lw_privs_3, lw_okq q := List.forall_mem_cons.mpr ⟨lw_p32, List.forall_mem_cons.mpr ⟨lw_p33, List.forall_mem_cons.mpr ⟨lw_p34, List.forall_mem_cons.mpr ⟨lw_p35, List.forall_mem_cons.mpr ⟨lw_p36, List.forall_mem_cons.mpr ⟨lw_p37, List.forall_mem_cons.mpr ⟨lw_p38, List.forall_mem_cons.mpr ⟨lw_p39, List.forall_mem_cons.mpr ⟨lw_p40, List.forall_mem_cons.mpr ⟨lw_p41, List.forall_mem_cons.mpr ⟨lw_p42, List.forall_mem_cons.mpr ⟨lw_p43, List.forall_mem_cons.mpr ⟨lw_p44, List.forall_mem_cons.mpr ⟨lw_p45, List.forall_mem_cons.mpr ⟨lw_p46, List.forall_mem_cons.mpr ⟨lw_p47, fun _ h => absurd h List.not_mem_nil⟩⟩⟩⟩⟩⟩⟩⟩⟩⟩⟩⟩⟩⟩⟩⟩
theorem lw_p48 : lw_okq (⟨"BesideWalkModel", "isThere", "(III)Z"⟩, 16) := ⟨⟨by decide +kernel, by decide +kernel⟩, List.mem_of_getElem? (i := 688) (by decide +kernel), List.mem_of_getElem? (i := 843) (by decide +kernel), List.mem_of_getElem? (i := 844) (by decide +kernel)⟩
theorem lw_p49 : lw_okq (⟨"BesideWalkModel", "isMet", "(IIIII)Z"⟩, 16) := ⟨⟨by decide +kernel, by decide +kernel⟩, List.mem_of_getElem? (i := 688) (by decide +kernel), List.mem_of_getElem? (i := 847) (by decide +kernel), List.mem_of_getElem? (i := 848) (by decide +kernel)⟩
theorem lw_p50 : lw_okq (⟨"BesideWalkModel", "reachable", "(I)I"⟩, 16) := ⟨⟨by decide +kernel, by decide +kernel⟩, List.mem_of_getElem? (i := 688) (by decide +kernel), List.mem_of_getElem? (i := 851) (by decide +kernel), List.mem_of_getElem? (i := 852) (by decide +kernel)⟩
theorem lw_p51 : lw_okq (⟨"BesideWalkModel", "numbered", "(III)I"⟩, 16) := ⟨⟨by decide +kernel, by decide +kernel⟩, List.mem_of_getElem? (i := 688) (by decide +kernel), List.mem_of_getElem? (i := 858) (by decide +kernel), List.mem_of_getElem? (i := 859) (by decide +kernel)⟩
theorem lw_p52 : lw_okq (⟨"BesideWalkModel", "ofProcess", "(II)I"⟩, 16) := ⟨⟨by decide +kernel, by decide +kernel⟩, List.mem_of_getElem? (i := 688) (by decide +kernel), List.mem_of_getElem? (i := 870) (by decide +kernel), List.mem_of_getElem? (i := 871) (by decide +kernel)⟩
theorem lw_p53 : lw_okq (⟨"BesideWalkModel", "offers", "(II)I"⟩, 16) := ⟨⟨by decide +kernel, by decide +kernel⟩, List.mem_of_getElem? (i := 688) (by decide +kernel), List.mem_of_getElem? (i := 874) (by decide +kernel), List.mem_of_getElem? (i := 875) (by decide +kernel)⟩
theorem lw_p54 : lw_okq (⟨"BesideWalkModel", "stables", "(I)I"⟩, 16) := ⟨⟨by decide +kernel, by decide +kernel⟩, List.mem_of_getElem? (i := 688) (by decide +kernel), List.mem_of_getElem? (i := 878) (by decide +kernel), List.mem_of_getElem? (i := 879) (by decide +kernel)⟩
theorem lw_p55 : lw_okq (⟨"BesideWalkModel", "losts", "(I)I"⟩, 16) := ⟨⟨by decide +kernel, by decide +kernel⟩, List.mem_of_getElem? (i := 688) (by decide +kernel), List.mem_of_getElem? (i := 882) (by decide +kernel), List.mem_of_getElem? (i := 883) (by decide +kernel)⟩
theorem lw_p56 : lw_okq (⟨"BesideWalkModel", "moved", "(I)Z"⟩, 16) := ⟨⟨by decide +kernel, by decide +kernel⟩, List.mem_of_getElem? (i := 688) (by decide +kernel), List.mem_of_getElem? (i := 902) (by decide +kernel), List.mem_of_getElem? (i := 903) (by decide +kernel)⟩
theorem lw_p57 : lw_okq (⟨"BesideWalkModel", "here", "()I"⟩, 16) := ⟨⟨by decide +kernel, by decide +kernel⟩, List.mem_of_getElem? (i := 688) (by decide +kernel), List.mem_of_getElem? (i := 906) (by decide +kernel), List.mem_of_getElem? (i := 907) (by decide +kernel)⟩
theorem lw_p58 : lw_okq (⟨"BesideWalkModel", "statePassed", "(I)I"⟩, 16) := ⟨⟨by decide +kernel, by decide +kernel⟩, List.mem_of_getElem? (i := 688) (by decide +kernel), List.mem_of_getElem? (i := 910) (by decide +kernel), List.mem_of_getElem? (i := 911) (by decide +kernel)⟩
theorem lw_p59 : lw_okq (⟨"BesideWalkModel", "changesAside", "()V"⟩, 16) := ⟨⟨by decide +kernel, by decide +kernel⟩, List.mem_of_getElem? (i := 688) (by decide +kernel), List.mem_of_getElem? (i := 914) (by decide +kernel), List.mem_of_getElem? (i := 915) (by decide +kernel)⟩
theorem lw_p60 : lw_okq (⟨"BesideWalkModel", "behindText", "(I)I"⟩, 16) := ⟨⟨by decide +kernel, by decide +kernel⟩, List.mem_of_getElem? (i := 688) (by decide +kernel), List.mem_of_getElem? (i := 922) (by decide +kernel), List.mem_of_getElem? (i := 923) (by decide +kernel)⟩
theorem lw_p61 : lw_okq (⟨"BesideWalkModel", "onSilently", "(II)I"⟩, 16) := ⟨⟨by decide +kernel, by decide +kernel⟩, List.mem_of_getElem? (i := 688) (by decide +kernel), List.mem_of_getElem? (i := 926) (by decide +kernel), List.mem_of_getElem? (i := 927) (by decide +kernel)⟩
theorem lw_p62 : lw_okq (⟨"BesideWalkModel", "ledTo", "(III)I"⟩, 16) := ⟨⟨by decide +kernel, by decide +kernel⟩, List.mem_of_getElem? (i := 688) (by decide +kernel), List.mem_of_getElem? (i := 930) (by decide +kernel), List.mem_of_getElem? (i := 931) (by decide +kernel)⟩
theorem lw_p63 : lw_okq (⟨"BesideWalkModel", "offered", "(II)I"⟩, 16) := ⟨⟨by decide +kernel, by decide +kernel⟩, List.mem_of_getElem? (i := 688) (by decide +kernel), List.mem_of_getElem? (i := 934) (by decide +kernel), List.mem_of_getElem? (i := 935) (by decide +kernel)⟩
def lw_privs_4 : List (MethodName × Nat) := [(⟨"BesideWalkModel", "isThere", "(III)Z"⟩, 16), (⟨"BesideWalkModel", "isMet", "(IIIII)Z"⟩, 16), (⟨"BesideWalkModel", "reachable", "(I)I"⟩, 16), (⟨"BesideWalkModel", "numbered", "(III)I"⟩, 16), (⟨"BesideWalkModel", "ofProcess", "(II)I"⟩, 16), (⟨"BesideWalkModel", "offers", "(II)I"⟩, 16), (⟨"BesideWalkModel", "stables", "(I)I"⟩, 16), (⟨"BesideWalkModel", "losts", "(I)I"⟩, 16), (⟨"BesideWalkModel", "moved", "(I)Z"⟩, 16), (⟨"BesideWalkModel", "here", "()I"⟩, 16), (⟨"BesideWalkModel", "statePassed", "(I)I"⟩, 16), (⟨"BesideWalkModel", "changesAside", "()V"⟩, 16), (⟨"BesideWalkModel", "behindText", "(I)I"⟩, 16), (⟨"BesideWalkModel", "onSilently", "(II)I"⟩, 16), (⟨"BesideWalkModel", "ledTo", "(III)I"⟩, 16), (⟨"BesideWalkModel", "offered", "(II)I"⟩, 16)]
theorem lw_r4 : ∀ q ∈ lw_privs_4, lw_okq q := List.forall_mem_cons.mpr ⟨lw_p48, List.forall_mem_cons.mpr ⟨lw_p49, List.forall_mem_cons.mpr ⟨lw_p50, List.forall_mem_cons.mpr ⟨lw_p51, List.forall_mem_cons.mpr ⟨lw_p52, List.forall_mem_cons.mpr ⟨lw_p53, List.forall_mem_cons.mpr ⟨lw_p54, List.forall_mem_cons.mpr ⟨lw_p55, List.forall_mem_cons.mpr ⟨lw_p56, List.forall_mem_cons.mpr ⟨lw_p57, List.forall_mem_cons.mpr ⟨lw_p58, List.forall_mem_cons.mpr ⟨lw_p59, List.forall_mem_cons.mpr ⟨lw_p60, List.forall_mem_cons.mpr ⟨lw_p61, List.forall_mem_cons.mpr ⟨lw_p62, List.forall_mem_cons.mpr ⟨lw_p63, fun _ h => absurd h List.not_mem_nil⟩⟩⟩⟩⟩⟩⟩⟩⟩⟩⟩⟩⟩⟩⟩⟩
theorem lw_p64 : lw_okq (⟨"BesideWalkModel", "fewest", "(II)I"⟩, 16) := ⟨⟨by decide +kernel, by decide +kernel⟩, List.mem_of_getElem? (i := 688) (by decide +kernel), List.mem_of_getElem? (i := 938) (by decide +kernel), List.mem_of_getElem? (i := 939) (by decide +kernel)⟩
theorem lw_p65 : lw_okq (⟨"BesideWalkModel", "faultAt", "(III)I"⟩, 16) := ⟨⟨by decide +kernel, by decide +kernel⟩, List.mem_of_getElem? (i := 688) (by decide +kernel), List.mem_of_getElem? (i := 949) (by decide +kernel), List.mem_of_getElem? (i := 950) (by decide +kernel)⟩
theorem lw_p66 : lw_okq (⟨"BesideWalkModel", "comes", "(III)V"⟩, 16) := ⟨⟨by decide +kernel, by decide +kernel⟩, List.mem_of_getElem? (i := 688) (by decide +kernel), List.mem_of_getElem? (i := 953) (by decide +kernel), List.mem_of_getElem? (i := 954) (by decide +kernel)⟩
theorem lw_p67 : lw_okq (⟨"BesideWalkModel", "wrong", "(IIIII)I"⟩, 16) := ⟨⟨by decide +kernel, by decide +kernel⟩, List.mem_of_getElem? (i := 688) (by decide +kernel), List.mem_of_getElem? (i := 957) (by decide +kernel), List.mem_of_getElem? (i := 958) (by decide +kernel)⟩
theorem lw_p68 : lw_okq (⟨"BesideWalkModel", "toldIs", "(I)I"⟩, 16) := ⟨⟨by decide +kernel, by decide +kernel⟩, List.mem_of_getElem? (i := 688) (by decide +kernel), List.mem_of_getElem? (i := 973) (by decide +kernel), List.mem_of_getElem? (i := 974) (by decide +kernel)⟩
theorem lw_p69 : lw_okq (⟨"BesideWalkModel", "mix", "(I)V"⟩, 16) := ⟨⟨by decide +kernel, by decide +kernel⟩, List.mem_of_getElem? (i := 688) (by decide +kernel), List.mem_of_getElem? (i := 982) (by decide +kernel), List.mem_of_getElem? (i := 983) (by decide +kernel)⟩
theorem lw_p70 : lw_okq (⟨"BesideWalkModel", "mixProcess", "(I)V"⟩, 16) := ⟨⟨by decide +kernel, by decide +kernel⟩, List.mem_of_getElem? (i := 688) (by decide +kernel), List.mem_of_getElem? (i := 987) (by decide +kernel), List.mem_of_getElem? (i := 988) (by decide +kernel)⟩
def lw_privs_5 : List (MethodName × Nat) := [(⟨"BesideWalkModel", "fewest", "(II)I"⟩, 16), (⟨"BesideWalkModel", "faultAt", "(III)I"⟩, 16), (⟨"BesideWalkModel", "comes", "(III)V"⟩, 16), (⟨"BesideWalkModel", "wrong", "(IIIII)I"⟩, 16), (⟨"BesideWalkModel", "toldIs", "(I)I"⟩, 16), (⟨"BesideWalkModel", "mix", "(I)V"⟩, 16), (⟨"BesideWalkModel", "mixProcess", "(I)V"⟩, 16)]
theorem lw_r5 : ∀ q ∈ lw_privs_5, lw_okq q := List.forall_mem_cons.mpr ⟨lw_p64, List.forall_mem_cons.mpr ⟨lw_p65, List.forall_mem_cons.mpr ⟨lw_p66, List.forall_mem_cons.mpr ⟨lw_p67, List.forall_mem_cons.mpr ⟨lw_p68, List.forall_mem_cons.mpr ⟨lw_p69, List.forall_mem_cons.mpr ⟨lw_p70, fun _ h => absurd h List.not_mem_nil⟩⟩⟩⟩⟩⟩⟩
def lw_privs : List (MethodName × Nat) := lw_privs_1 ++ (lw_privs_2 ++ (lw_privs_3 ++ (lw_privs_4 ++ (lw_privs_5))))
def lw_tbl : List Cond := k2_sels lw_privs ++ tables_1
theorem lw_privs_ok : ∀ q ∈ lw_privs, lw_okq q := by
  show ∀ q ∈ lw_privs_1 ++ (lw_privs_2 ++ (lw_privs_3 ++ (lw_privs_4 ++ (lw_privs_5)))), lw_okq q
  exact List.forall_mem_append.mpr ⟨lw_r1, List.forall_mem_append.mpr ⟨lw_r2, List.forall_mem_append.mpr ⟨lw_r3, List.forall_mem_append.mpr ⟨lw_r4, lw_r5⟩⟩⟩⟩
end
section
def RX0 : String := "BesideWalk$Likeness"
def TX0 : u_T := fun k => match k with
  | 0 => ("BesideWalk$Likeness", "lead", "[I", true)
  | 1 => ("BesideWalk$Likeness", "image", "[I", true)
  | 2 => ("BesideWalk$Likeness", "like", "[I", true)
  | 3 => ("BesideWalk$Likeness", "numbers", "[I", true)
  | 4 => ("BesideWalk$Likeness", "nodes", "I", false)
  | _ => ("BesideWalk$Likeness", "second", "I", false)
def tyX0 : Nat → FieldType := fun k => match k with
  | 0 => .array .int
  | 1 => .array .int
  | 2 => .array .int
  | 3 => .array .int
  | 4 => .int
  | _ => .int
theorem nmX0 : ∀ a, a < 6 → ∀ b, b < 6 → a ≠ b → (TX0 a).2.1 ≠ (TX0 b).2.1 := by decide +kernel
theorem tyX0_ok : ∀ k, k < 6 → parseFieldDescriptor (TX0 k).2.2.1 = some (tyX0 k) := by decide +kernel
abbrev cX0_init : ByteArray := prog_2_method_1_code
def yX0_init : MethodName := ⟨RX0, "<init>", "()V"⟩
abbrev cX0_lookInto : ByteArray := prog_2_method_2_code
def yX0_lookInto : MethodName := ⟨RX0, "lookInto", "(LBesideWalk$Proc;)V"⟩
abbrev cX0_compare : ByteArray := prog_2_method_3_code
def yX0_compare : MethodName := ⟨RX0, "compare", "(LBesideWalk$Proc;LBesideWalk$Proc;)V"⟩
abbrev cX0_across : ByteArray := prog_2_method_4_code
def yX0_across : MethodName := ⟨RX0, "across", "(II)Z"⟩
abbrev cX0_press : ByteArray := prog_2_method_5_code
def yX0_press : MethodName := ⟨RX0, "press", "(LBesideWalk$Proc;LBesideWalk$Proc;)V"⟩
abbrev cX0_pressMoves : ByteArray := prog_2_method_6_code
def yX0_pressMoves : MethodName := ⟨RX0, "pressMoves", "(LBesideWalk$Proc;IILBesideWalk$Proc;)V"⟩
abbrev cX0_standIn : ByteArray := prog_2_method_7_code
def yX0_standIn : MethodName := ⟨RX0, "standIn", "(II)I"⟩
abbrev cX0_join : ByteArray := prog_2_method_8_code
def yX0_join : MethodName := ⟨RX0, "join", "(LBesideWalk$Proc;)V"⟩
abbrev cX0_findAlike : ByteArray := prog_2_method_9_code
def yX0_findAlike : MethodName := ⟨RX0, "findAlike", "()V"⟩
abbrev cX0_findImages : ByteArray := prog_2_method_10_code
def yX0_findImages : MethodName := ⟨RX0, "findImages", "()V"⟩
abbrev cX0_splits : ByteArray := prog_2_method_11_code
def yX0_splits : MethodName := ⟨RX0, "splits", "()Z"⟩
abbrev cX0_sameImages : ByteArray := prog_2_method_12_code
def yX0_sameImages : MethodName := ⟨RX0, "sameImages", "(II)Z"⟩
def RX1 : String := "BesideWalk$Outlook"
def TX1 : u_T := fun k => match k with
  | 0 => ("BesideWalk$Outlook", "fresh", "Z", false)
  | 1 => ("BesideWalk$Outlook", "stable", "I", false)
  | 2 => ("BesideWalk$Outlook", "lost", "I", false)
  | 3 => ("BesideWalk$Outlook", "states", "I", false)
  | 4 => ("BesideWalk$Outlook", "offers", "[I", true)
  | 5 => ("BesideWalk$Outlook", "onward", "[I", true)
  | 6 => ("BesideWalk$Outlook", "next", "[I", true)
  | 7 => ("BesideWalk$Outlook", "offered", "[I", true)
  | _ => ("BesideWalk$Outlook", "allowed", "[I", true)
def tyX1 : Nat → FieldType := fun k => match k with
  | 0 => .boolean
  | 1 => .int
  | 2 => .int
  | 3 => .int
  | 4 => .array .int
  | 5 => .array .int
  | 6 => .array .int
  | 7 => .array .int
  | _ => .array .int
theorem nmX1 : ∀ a, a < 9 → ∀ b, b < 9 → a ≠ b → (TX1 a).2.1 ≠ (TX1 b).2.1 := by decide +kernel
theorem tyX1_ok : ∀ k, k < 9 → parseFieldDescriptor (TX1 k).2.2.1 = some (tyX1 k) := by decide +kernel
abbrev cX1_init : ByteArray := prog_3_method_1_code
def yX1_init : MethodName := ⟨RX1, "<init>", "()V"⟩
abbrev cX1_look : ByteArray := prog_3_method_2_code
def yX1_look : MethodName := ⟨RX1, "look", "(LBesideWalk$Proc;)V"⟩
abbrev cX1_start : ByteArray := prog_3_method_3_code
def yX1_start : MethodName := ⟨RX1, "start", "()I"⟩
abbrev cX1_after : ByteArray := prog_3_method_4_code
def yX1_after : MethodName := ⟨RX1, "after", "(II)I"⟩
abbrev cX1_refusesWithin : ByteArray := prog_3_method_5_code
def yX1_refusesWithin : MethodName := ⟨RX1, "refusesWithin", "(ILBesideWalk$Outlook;I)Z"⟩
abbrev cX1_isLostIn : ByteArray := prog_3_method_6_code
def yX1_isLostIn : MethodName := ⟨RX1, "isLostIn", "(I)Z"⟩
abbrev cX1_possibleNext : ByteArray := prog_3_method_7_code
def yX1_possibleNext : MethodName := ⟨RX1, "possibleNext", "(I)I"⟩
abbrev cX1_fewestOffered : ByteArray := prog_3_method_8_code
def yX1_fewestOffered : MethodName := ⟨RX1, "fewestOffered", "(I)I"⟩
abbrev cX1_findLost : ByteArray := prog_3_method_9_code
def yX1_findLost : MethodName := ⟨RX1, "findLost", "(LBesideWalk$Proc;)V"⟩
abbrev cX1_findOnward : ByteArray := prog_3_method_10_code
def yX1_findOnward : MethodName := ⟨RX1, "findOnward", "(LBesideWalk$Proc;)V"⟩
abbrev cX1_fillSingles : ByteArray := prog_3_method_11_code
def yX1_fillSingles : MethodName := ⟨RX1, "fillSingles", "(LBesideWalk$Proc;)V"⟩
abbrev cX1_onwardFrom : ByteArray := prog_3_method_12_code
def yX1_onwardFrom : MethodName := ⟨RX1, "onwardFrom", "(I)I"⟩
abbrev cX1_setsHolding : ByteArray := prog_3_method_13_code
def yX1_setsHolding : MethodName := ⟨RX1, "setsHolding", "(I)I"⟩
abbrev cX1_fillSets : ByteArray := prog_3_method_14_code
def yX1_fillSets : MethodName := ⟨RX1, "fillSets", "()V"⟩
def RX2 : String := "BesideWalk$Pairing"
def TX2 : u_T := fun k => match k with
  | 0 => ("BesideWalk$Pairing", "numbers", "[I", true)
  | 1 => ("BesideWalk$Pairing", "pairs", "[I", true)
  | 2 => ("BesideWalk$Pairing", "found", "I", false)
  | _ => ("BesideWalk$Pairing", "fits", "Z", false)
def tyX2 : Nat → FieldType := fun k => match k with
  | 0 => .array .int
  | 1 => .array .int
  | 2 => .int
  | _ => .boolean
theorem nmX2 : ∀ a, a < 4 → ∀ b, b < 4 → a ≠ b → (TX2 a).2.1 ≠ (TX2 b).2.1 := by decide +kernel
theorem tyX2_ok : ∀ k, k < 4 → parseFieldDescriptor (TX2 k).2.2.1 = some (tyX2 k) := by decide +kernel
abbrev cX2_init : ByteArray := prog_4_method_1_code
def yX2_init : MethodName := ⟨RX2, "<init>", "()V"⟩
abbrev cX2_builds : ByteArray := prog_4_method_2_code
def yX2_builds : MethodName := ⟨RX2, "builds", "(LBesideWalk$Proc;LBesideWalk$Proc;ILBesideWalk$Proc;)Z"⟩
abbrev cX2_both : ByteArray := prog_4_method_3_code
def yX2_both : MethodName := ⟨RX2, "both", "(LBesideWalk$Proc;LBesideWalk$Proc;IILBesideWalk$Proc;)V"⟩
abbrev cX2_oneAlone : ByteArray := prog_4_method_4_code
def yX2_oneAlone : MethodName := ⟨RX2, "oneAlone", "(LBesideWalk$Proc;LBesideWalk$Proc;IILBesideWalk$Proc;)V"⟩
abbrev cX2_number : ByteArray := prog_4_method_5_code
def yX2_number : MethodName := ⟨RX2, "number", "(II)I"⟩
abbrev cX2_add : ByteArray := prog_4_method_6_code
def yX2_add : MethodName := ⟨RX2, "add", "(IIILBesideWalk$Proc;)V"⟩
def RX3 : String := "BesideWalk$Pasts"
def TX3 : u_T := fun k => match k with
  | 0 => ("BesideWalk$Pasts", "count", "I", false)
  | 1 => ("BesideWalk$Pasts", "next", "I", false)
  | _ => ("BesideWalk$Pasts", "rows", "[LBesideWalk$Proc;", true)
def tyX3 : Nat → FieldType := fun k => match k with
  | 0 => .int
  | 1 => .int
  | _ => .array (.object "BesideWalk$Proc")
theorem nmX3 : ∀ a, a < 3 → ∀ b, b < 3 → a ≠ b → (TX3 a).2.1 ≠ (TX3 b).2.1 := by decide +kernel
theorem tyX3_ok : ∀ k, k < 3 → parseFieldDescriptor (TX3 k).2.2.1 = some (tyX3 k) := by decide +kernel
abbrev cX3_init : ByteArray := prog_5_method_1_code
def yX3_init : MethodName := ⟨RX3, "<init>", "()V"⟩
abbrev cX3_keep : ByteArray := prog_5_method_2_code
def yX3_keep : MethodName := ⟨RX3, "keep", "([LBesideWalk$Proc;)V"⟩
abbrev cX3_restore : ByteArray := prog_5_method_3_code
def yX3_restore : MethodName := ⟨RX3, "restore", "([LBesideWalk$Proc;)V"⟩
def RX4 : String := "BesideWalk$Proc"
def TX4 : u_T := fun k => match k with
  | 0 => ("BesideWalk$Proc", "states", "I", false)
  | 1 => ("BesideWalk$Proc", "count", "I", false)
  | _ => ("BesideWalk$Proc", "lead", "[I", true)
def tyX4 : Nat → FieldType := fun k => match k with
  | 0 => .int
  | 1 => .int
  | _ => .array .int
theorem nmX4 : ∀ a, a < 3 → ∀ b, b < 3 → a ≠ b → (TX4 a).2.1 ≠ (TX4 b).2.1 := by decide +kernel
theorem tyX4_ok : ∀ k, k < 3 → parseFieldDescriptor (TX4 k).2.2.1 = some (tyX4 k) := by decide +kernel
abbrev cX4_init : ByteArray := prog_6_method_1_code
def yX4_init : MethodName := ⟨RX4, "<init>", "()V"⟩
abbrev cX4_begin : ByteArray := prog_6_method_2_code
def yX4_begin : MethodName := ⟨RX4, "begin", "(I)V"⟩
abbrev cX4_become : ByteArray := prog_6_method_3_code
def yX4_become : MethodName := ⟨RX4, "become", "(LBesideWalk$Proc;)V"⟩
abbrev cX4_targets : ByteArray := prog_6_method_4_code
def yX4_targets : MethodName := ⟨RX4, "targets", "(II)I"⟩
abbrev cX4_stands : ByteArray := prog_6_method_5_code
def yX4_stands : MethodName := ⟨RX4, "stands", "(III)Z"⟩
abbrev cX4_put : ByteArray := prog_6_method_6_code
def yX4_put : MethodName := ⟨RX4, "put", "(III)V"⟩
abbrev cX4_drop : ByteArray := prog_6_method_7_code
def yX4_drop : MethodName := ⟨RX4, "drop", "(III)V"⟩
abbrev cX4_turn : ByteArray := prog_6_method_8_code
def yX4_turn : MethodName := ⟨RX4, "turn", "(II)V"⟩
abbrev cX4_countBy : ByteArray := prog_6_method_9_code
def yX4_countBy : MethodName := ⟨RX4, "countBy", "(I)I"⟩
abbrev cX4_lettersUsed : ByteArray := prog_6_method_10_code
def yX4_lettersUsed : MethodName := ⟨RX4, "lettersUsed", "()I"⟩
abbrev cX4_offers : ByteArray := prog_6_method_11_code
def yX4_offers : MethodName := ⟨RX4, "offers", "(I)I"⟩
abbrev cX4_reached : ByteArray := prog_6_method_12_code
def yX4_reached : MethodName := ⟨RX4, "reached", "()I"⟩
abbrev cX4_successors : ByteArray := prog_6_method_13_code
def yX4_successors : MethodName := ⟨RX4, "successors", "(I)I"⟩
abbrev cX4_setTargets : ByteArray := prog_6_method_14_code
def yX4_setTargets : MethodName := ⟨RX4, "setTargets", "(III)V"⟩
def RX5 : String := "BesideWalk$Search"
def TX5 : u_T := fun k => match k with
  | 0 => ("BesideWalk$Search", "why", "[I", true)
  | 1 => ("BesideWalk$Search", "found", "[I", true)
  | 2 => ("BesideWalk$Search", "seen", "[I", true)
  | 3 => ("BesideWalk$Search", "pairs", "[I", false)
  | 4 => ("BesideWalk$Search", "parents", "[I", false)
  | 5 => ("BesideWalk$Search", "letters", "[B", false)
  | _ => ("BesideWalk$Search", "size", "I", false)
def tyX5 : Nat → FieldType := fun k => match k with
  | 0 => .array .int
  | 1 => .array .int
  | 2 => .array .int
  | 3 => .array .int
  | 4 => .array .int
  | 5 => .array .byte
  | _ => .int
theorem nmX5 : ∀ a, a < 7 → ∀ b, b < 7 → a ≠ b → (TX5 a).2.1 ≠ (TX5 b).2.1 := by decide +kernel
theorem tyX5_ok : ∀ k, k < 7 → parseFieldDescriptor (TX5 k).2.2.1 = some (tyX5 k) := by decide +kernel
abbrev cX5_init : ByteArray := prog_7_method_1_code
def yX5_init : MethodName := ⟨RX5, "<init>", "()V"⟩
abbrev cX5_run : ByteArray := prog_7_method_2_code
def yX5_run : MethodName := ⟨RX5, "run", "(LBesideWalk$Outlook;LBesideWalk$Outlook;I)V"⟩
abbrev cX5_foundIn : ByteArray := prog_7_method_3_code
def yX5_foundIn : MethodName := ⟨RX5, "foundIn", "(I)Z"⟩
abbrev cX5_wordLength : ByteArray := prog_7_method_4_code
def yX5_wordLength : MethodName := ⟨RX5, "wordLength", "(I)I"⟩
abbrev cX5_letterFromEnd : ByteArray := prog_7_method_5_code
def yX5_letterFromEnd : MethodName := ⟨RX5, "letterFromEnd", "(II)I"⟩
abbrev cX5_forget : ByteArray := prog_7_method_6_code
def yX5_forget : MethodName := ⟨RX5, "forget", "()V"⟩
abbrev cX5_enqueue : ByteArray := prog_7_method_7_code
def yX5_enqueue : MethodName := ⟨RX5, "enqueue", "(III)V"⟩
abbrev cX5_grow : ByteArray := prog_7_method_8_code
def yX5_grow : MethodName := ⟨RX5, "grow", "()V"⟩
abbrev cX5_note : ByteArray := prog_7_method_9_code
def yX5_note : MethodName := ⟨RX5, "note", "(II)V"⟩
abbrev cX5_reasonAt : ByteArray := prog_7_method_10_code
def yX5_reasonAt : MethodName := ⟨RX5, "reasonAt", "(LBesideWalk$Outlook;LBesideWalk$Outlook;II)I"⟩
def RX6 : String := "BesideWalk$Text"
def TX6 : u_T := fun k => match k with
  | 0 => ("BesideWalk$Text", "length", "I", false)
  | 1 => ("BesideWalk$Text", "wordLength", "I", false)
  | 2 => ("BesideWalk$Text", "word", "[I", true)
  | 3 => ("BesideWalk$Text", "bytes", "[B", true)
  | 4 => ("BesideWalk$Text", "stage", "I", false)
  | 5 => ("BesideWalk$Text", "firstByte", "I", false)
  | 6 => ("BesideWalk$Text", "from", "I", false)
  | _ => ("BesideWalk$Text", "by", "I", false)
def tyX6 : Nat → FieldType := fun k => match k with
  | 0 => .int
  | 1 => .int
  | 2 => .array .int
  | 3 => .array .byte
  | 4 => .int
  | 5 => .int
  | 6 => .int
  | _ => .int
theorem nmX6 : ∀ a, a < 8 → ∀ b, b < 8 → a ≠ b → (TX6 a).2.1 ≠ (TX6 b).2.1 := by decide +kernel
theorem tyX6_ok : ∀ k, k < 8 → parseFieldDescriptor (TX6 k).2.2.1 = some (tyX6 k) := by decide +kernel
abbrev cX6_init : ByteArray := prog_8_method_1_code
def yX6_init : MethodName := ⟨RX6, "<init>", "()V"⟩
abbrev cX6_append : ByteArray := prog_8_method_2_code
def yX6_append : MethodName := ⟨RX6, "append", "(I)V"⟩
abbrev cX6_readWord : ByteArray := prog_8_method_3_code
def yX6_readWord : MethodName := ⟨RX6, "readWord", "()I"⟩
abbrev cX6_readMoves : ByteArray := prog_8_method_4_code
def yX6_readMoves : MethodName := ⟨RX6, "readMoves", "(LBesideWalk$Proc;)I"⟩
abbrev cX6_readByte : ByteArray := prog_8_method_5_code
def yX6_readByte : MethodName := ⟨RX6, "readByte", "(ILBesideWalk$Proc;)I"⟩
abbrev cX6_readFrom : ByteArray := prog_8_method_6_code
def yX6_readFrom : MethodName := ⟨RX6, "readFrom", "(IILBesideWalk$Proc;)I"⟩
abbrev cX6_kindOf : ByteArray := prog_8_method_7_code
def yX6_kindOf : MethodName := ⟨RX6, "kindOf", "(I)I"⟩
abbrev cX6_readBy : ByteArray := prog_8_method_8_code
def yX6_readBy : MethodName := ⟨RX6, "readBy", "(II)I"⟩
abbrev cX6_readTo : ByteArray := prog_8_method_9_code
def yX6_readTo : MethodName := ⟨RX6, "readTo", "(IILBesideWalk$Proc;)I"⟩
def RX7 : String := "BesideWalk"
def TX7 : u_T := fun k => match k with
  | 0 => ("BesideWalk", "processes", "[LBesideWalk$Proc;", true)
  | 1 => ("BesideWalk", "outlooks", "[LBesideWalk$Outlook;", true)
  | 2 => ("BesideWalk", "pasts", "LBesideWalk$Pasts;", true)
  | 3 => ("BesideWalk", "text", "LBesideWalk$Text;", true)
  | 4 => ("BesideWalk", "search", "LBesideWalk$Search;", true)
  | 5 => ("BesideWalk", "likeness", "LBesideWalk$Likeness;", true)
  | 6 => ("BesideWalk", "pairing", "LBesideWalk$Pairing;", true)
  | 7 => ("BesideWalk", "draft", "LBesideWalk$Proc;", true)
  | 8 => ("BesideWalk", "bads", "I", false)
  | 9 => ("BesideWalk", "noes", "I", false)
  | _ => ("BesideWalk", "fulls", "I", false)
def tyX7 : Nat → FieldType := fun k => match k with
  | 0 => .array (.object "BesideWalk$Proc")
  | 1 => .array (.object "BesideWalk$Outlook")
  | 2 => .object "BesideWalk$Pasts"
  | 3 => .object "BesideWalk$Text"
  | 4 => .object "BesideWalk$Search"
  | 5 => .object "BesideWalk$Likeness"
  | 6 => .object "BesideWalk$Pairing"
  | 7 => .object "BesideWalk$Proc"
  | 8 => .int
  | 9 => .int
  | _ => .int
theorem nmX7 : ∀ a, a < 11 → ∀ b, b < 11 → a ≠ b → (TX7 a).2.1 ≠ (TX7 b).2.1 := by decide +kernel
theorem tyX7_ok : ∀ k, k < 11 → parseFieldDescriptor (TX7 k).2.2.1 = some (tyX7 k) := by decide +kernel
abbrev cX7_init : ByteArray := prog_1_method_1_code
def yX7_init : MethodName := ⟨RX7, "<init>", "()V"⟩
abbrev cX7_process : ByteArray := prog_1_method_2_code
def yX7_process : MethodName := ⟨RX7, "process", "(II)I"⟩
abbrev cX7_move : ByteArray := prog_1_method_3_code
def yX7_move : MethodName := ⟨RX7, "move", "(IIII)I"⟩
abbrev cX7_unmove : ByteArray := prog_1_method_4_code
def yX7_unmove : MethodName := ⟨RX7, "unmove", "(IIII)I"⟩
abbrev cX7_hides : ByteArray := prog_1_method_5_code
def yX7_hides : MethodName := ⟨RX7, "hides", "(II)I"⟩
abbrev cX7_renames : ByteArray := prog_1_method_6_code
def yX7_renames : MethodName := ⟨RX7, "renames", "(III)I"⟩
abbrev cX7_together : ByteArray := prog_1_method_7_code
def yX7_together : MethodName := ⟨RX7, "together", "(IIII)I"⟩
abbrev cX7_presses : ByteArray := prog_1_method_8_code
def yX7_presses : MethodName := ⟨RX7, "presses", "(I)I"⟩
abbrev cX7_of : ByteArray := prog_1_method_9_code
def yX7_of : MethodName := ⟨RX7, "of", "(II)I"⟩
abbrev cX7_leads : ByteArray := prog_1_method_10_code
def yX7_leads : MethodName := ⟨RX7, "leads", "(III)I"⟩
abbrev cX7_alike : ByteArray := prog_1_method_11_code
def yX7_alike : MethodName := ⟨RX7, "alike", "(IIII)I"⟩
abbrev cX7_type : ByteArray := prog_1_method_12_code
def yX7_type : MethodName := ⟨RX7, "type", "(I)I"⟩
abbrev cX7_clear : ByteArray := prog_1_method_13_code
def yX7_clear : MethodName := ⟨RX7, "clear", "()I"⟩
abbrev cX7_moves : ByteArray := prog_1_method_14_code
def yX7_moves : MethodName := ⟨RX7, "moves", "(I)I"⟩
abbrev cX7_behind : ByteArray := prog_1_method_15_code
def yX7_behind : MethodName := ⟨RX7, "behind", "(II)I"⟩
abbrev cX7_holds : ByteArray := prog_1_method_16_code
def yX7_holds : MethodName := ⟨RX7, "holds", "(III)I"⟩
abbrev cX7_fault : ByteArray := prog_1_method_17_code
def yX7_fault : MethodName := ⟨RX7, "fault", "(IIII)I"⟩
abbrev cX7_reason : ByteArray := prog_1_method_18_code
def yX7_reason : MethodName := ⟨RX7, "reason", "(III)I"⟩
abbrev cX7_back : ByteArray := prog_1_method_19_code
def yX7_back : MethodName := ⟨RX7, "back", "()I"⟩
abbrev cX7_told : ByteArray := prog_1_method_20_code
def yX7_told : MethodName := ⟨RX7, "told", "(I)I"⟩
abbrev cX7_digest : ByteArray := prog_1_method_21_code
def yX7_digest : MethodName := ⟨RX7, "digest", "()J"⟩
abbrev cX7_digestOfProcess : ByteArray := prog_1_method_22_code
def yX7_digestOfProcess : MethodName := ⟨RX7, "digestOfProcess", "(JI)J"⟩
abbrev cX7_digestOfContest : ByteArray := prog_1_method_23_code
def yX7_digestOfContest : MethodName := ⟨RX7, "digestOfContest", "(JII)J"⟩
abbrev cX7_tally : ByteArray := prog_1_method_24_code
def yX7_tally : MethodName := ⟨RX7, "tally", "(I)I"⟩
abbrev cX7_figure : ByteArray := prog_1_method_25_code
def yX7_figure : MethodName := ⟨RX7, "figure", "(II)I"⟩
abbrev cX7_leavePast : ByteArray := prog_1_method_26_code
def yX7_leavePast : MethodName := ⟨RX7, "leavePast", "(I)V"⟩
abbrev cX7_outlook : ByteArray := prog_1_method_27_code
def yX7_outlook : MethodName := ⟨RX7, "outlook", "(I)LBesideWalk$Outlook;"⟩
abbrev cX7_refuse : ByteArray := prog_1_method_28_code
def yX7_refuse : MethodName := ⟨RX7, "refuse", "(I)I"⟩
abbrev cX7_isState : ByteArray := prog_1_method_29_code
def yX7_isState : MethodName := ⟨RX7, "isState", "(II)Z"⟩
abbrev cX7_isMove : ByteArray := prog_1_method_30_code
def yX7_isMove : MethodName := ⟨RX7, "isMove", "(IIII)Z"⟩
abbrev cX7_isContest : ByteArray := prog_1_method_31_code
def yX7_isContest : MethodName := ⟨RX7, "isContest", "(III)Z"⟩
abbrev cX7_isProcess : ByteArray := prog_1_method_32_code
def yX7_isProcess : MethodName := ⟨RX7, "isProcess", "(I)Z"⟩
abbrev cX7_isLetter : ByteArray := prog_1_method_33_code
def yX7_isLetter : MethodName := ⟨RX7, "isLetter", "(I)Z"⟩
abbrev cX7_isKind : ByteArray := prog_1_method_34_code
def yX7_isKind : MethodName := ⟨RX7, "isKind", "(I)Z"⟩
abbrev cX7_isLetterSet : ByteArray := prog_1_method_35_code
def yX7_isLetterSet : MethodName := ⟨RX7, "isLetterSet", "(I)Z"⟩
abbrev cX7_has : ByteArray := prog_1_method_36_code
def yX7_has : MethodName := ⟨RX7, "has", "(II)Z"⟩
def RX8 : String := "BesideWalkModel"
def TX8 : u_T := fun k => match k with
  | 0 => ("BesideWalkModel", "now", "[I", true)
  | 1 => ("BesideWalkModel", "aside", "[I", true)
  | 2 => ("BesideWalkModel", "past", "[I", true)
  | 3 => ("BesideWalkModel", "pasts", "I", false)
  | 4 => ("BesideWalkModel", "refused", "[I", true)
  | 5 => ("BesideWalkModel", "text", "[I", true)
  | 6 => ("BesideWalkModel", "length", "I", false)
  | 7 => ("BesideWalkModel", "made", "[I", true)
  | 8 => ("BesideWalkModel", "pairs", "[I", true)
  | 9 => ("BesideWalkModel", "like", "[I", true)
  | 10 => ("BesideWalkModel", "place", "I", false)
  | 11 => ("BesideWalkModel", "pairOf", "[I", true)
  | 12 => ("BesideWalkModel", "cameBy", "[I", true)
  | 13 => ("BesideWalkModel", "seen", "[I", true)
  | 14 => ("BesideWalkModel", "found", "I", false)
  | _ => ("BesideWalkModel", "hash", "J", false)
def tyX8 : Nat → FieldType := fun k => match k with
  | 0 => .array .int
  | 1 => .array .int
  | 2 => .array .int
  | 3 => .int
  | 4 => .array .int
  | 5 => .array .int
  | 6 => .int
  | 7 => .array .int
  | 8 => .array .int
  | 9 => .array .int
  | 10 => .int
  | 11 => .array .int
  | 12 => .array .int
  | 13 => .array .int
  | 14 => .int
  | _ => .long
theorem nmX8 : ∀ a, a < 16 → ∀ b, b < 16 → a ≠ b → (TX8 a).2.1 ≠ (TX8 b).2.1 := by decide +kernel
theorem tyX8_ok : ∀ k, k < 16 → parseFieldDescriptor (TX8 k).2.2.1 = some (tyX8 k) := by decide +kernel
abbrev cX8_init : ByteArray := prog_10_method_1_code
def yX8_init : MethodName := ⟨RX8, "<init>", "()V"⟩
abbrev cX8_within : ByteArray := prog_10_method_3_code
def yX8_within : MethodName := ⟨RX8, "within", "(III)Z"⟩
abbrev cX8_has : ByteArray := prog_10_method_4_code
def yX8_has : MethodName := ⟨RX8, "has", "(II)Z"⟩
abbrev cX8_ones : ByteArray := prog_10_method_5_code
def yX8_ones : MethodName := ⟨RX8, "ones", "(I)I"⟩
abbrev cX8_counts : ByteArray := prog_10_method_6_code
def yX8_counts : MethodName := ⟨RX8, "counts", "(I)I"⟩
abbrev cX8_isProcess : ByteArray := prog_10_method_7_code
def yX8_isProcess : MethodName := ⟨RX8, "isProcess", "(I)Z"⟩
abbrev cX8_many : ByteArray := prog_10_method_8_code
def yX8_many : MethodName := ⟨RX8, "many", "(I)I"⟩
abbrev cX8_isState : ByteArray := prog_10_method_9_code
def yX8_isState : MethodName := ⟨RX8, "isState", "(II)Z"⟩
abbrev cX8_at : ByteArray := prog_10_method_10_code
def yX8_at : MethodName := ⟨RX8, "at", "(III)I"⟩
abbrev cX8_leadsOf : ByteArray := prog_10_method_11_code
def yX8_leadsOf : MethodName := ⟨RX8, "leadsOf", "(III)I"⟩
abbrev cX8_leaves : ByteArray := prog_10_method_12_code
def yX8_leaves : MethodName := ⟨RX8, "leaves", "()V"⟩
abbrev cX8_back : ByteArray := prog_10_method_13_code
def yX8_back : MethodName := ⟨RX8, "back", "()I"⟩
abbrev cX8_movesOf : ByteArray := prog_10_method_14_code
def yX8_movesOf : MethodName := ⟨RX8, "movesOf", "(I)I"⟩
abbrev cX8_process : ByteArray := prog_10_method_15_code
def yX8_process : MethodName := ⟨RX8, "process", "(II)I"⟩
abbrev cX8_isMove : ByteArray := prog_10_method_16_code
def yX8_isMove : MethodName := ⟨RX8, "isMove", "(IIII)Z"⟩
abbrev cX8_move : ByteArray := prog_10_method_17_code
def yX8_move : MethodName := ⟨RX8, "move", "(IIII)I"⟩
abbrev cX8_unmove : ByteArray := prog_10_method_18_code
def yX8_unmove : MethodName := ⟨RX8, "unmove", "(IIII)I"⟩
abbrev cX8_shifts : ByteArray := prog_10_method_19_code
def yX8_shifts : MethodName := ⟨RX8, "shifts", "(III)V"⟩
abbrev cX8_hides : ByteArray := prog_10_method_20_code
def yX8_hides : MethodName := ⟨RX8, "hides", "(II)I"⟩
abbrev cX8_renames : ByteArray := prog_10_method_21_code
def yX8_renames : MethodName := ⟨RX8, "renames", "(III)I"⟩
abbrev cX8_pairAt : ByteArray := prog_10_method_22_code
def yX8_pairAt : MethodName := ⟨RX8, "pairAt", "(II)I"⟩
abbrev cX8_pairsUp : ByteArray := prog_10_method_23_code
def yX8_pairsUp : MethodName := ⟨RX8, "pairsUp", "(IIII)Z"⟩
abbrev cX8_isMade : ByteArray := prog_10_method_24_code
def yX8_isMade : MethodName := ⟨RX8, "isMade", "(III)Z"⟩
abbrev cX8_putsMade : ByteArray := prog_10_method_25_code
def yX8_putsMade : MethodName := ⟨RX8, "putsMade", "(I)V"⟩
abbrev cX8_together : ByteArray := prog_10_method_26_code
def yX8_together : MethodName := ⟨RX8, "together", "(IIII)I"⟩
abbrev cX8_isMet : ByteArray := prog_10_method_27_code
def yX8_isMet : MethodName := ⟨RX8, "isMet", "(IIIII)Z"⟩
abbrev cX8_isThere : ByteArray := prog_10_method_28_code
def yX8_isThere : MethodName := ⟨RX8, "isThere", "(III)Z"⟩
abbrev cX8_laysLike : ByteArray := prog_10_method_29_code
def yX8_laysLike : MethodName := ⟨RX8, "laysLike", "(II)V"⟩
abbrev cX8_reachable : ByteArray := prog_10_method_30_code
def yX8_reachable : MethodName := ⟨RX8, "reachable", "(I)I"⟩
abbrev cX8_least : ByteArray := prog_10_method_31_code
def yX8_least : MethodName := ⟨RX8, "least", "(I)I"⟩
abbrev cX8_presses : ByteArray := prog_10_method_32_code
def yX8_presses : MethodName := ⟨RX8, "presses", "(I)I"⟩
abbrev cX8_numbered : ByteArray := prog_10_method_33_code
def yX8_numbered : MethodName := ⟨RX8, "numbered", "(III)I"⟩
abbrev cX8_alike : ByteArray := prog_10_method_34_code
def yX8_alike : MethodName := ⟨RX8, "alike", "(IIII)I"⟩
abbrev cX8_onSilently : ByteArray := prog_10_method_35_code
def yX8_onSilently : MethodName := ⟨RX8, "onSilently", "(II)I"⟩
abbrev cX8_ledTo : ByteArray := prog_10_method_36_code
def yX8_ledTo : MethodName := ⟨RX8, "ledTo", "(III)I"⟩
abbrev cX8_offers : ByteArray := prog_10_method_37_code
def yX8_offers : MethodName := ⟨RX8, "offers", "(II)I"⟩
abbrev cX8_stables : ByteArray := prog_10_method_38_code
def yX8_stables : MethodName := ⟨RX8, "stables", "(I)I"⟩
abbrev cX8_losts : ByteArray := prog_10_method_39_code
def yX8_losts : MethodName := ⟨RX8, "losts", "(I)I"⟩
abbrev cX8_ofProcess : ByteArray := prog_10_method_40_code
def yX8_ofProcess : MethodName := ⟨RX8, "ofProcess", "(II)I"⟩
abbrev cX8_of : ByteArray := prog_10_method_41_code
def yX8_of : MethodName := ⟨RX8, "of", "(II)I"⟩
abbrev cX8_leads : ByteArray := prog_10_method_42_code
def yX8_leads : MethodName := ⟨RX8, "leads", "(III)I"⟩
abbrev cX8_type : ByteArray := prog_10_method_43_code
def yX8_type : MethodName := ⟨RX8, "type", "(I)I"⟩
abbrev cX8_clear : ByteArray := prog_10_method_44_code
def yX8_clear : MethodName := ⟨RX8, "clear", "()I"⟩
abbrev cX8_here : ByteArray := prog_10_method_45_code
def yX8_here : MethodName := ⟨RX8, "here", "()I"⟩
abbrev cX8_statePassed : ByteArray := prog_10_method_46_code
def yX8_statePassed : MethodName := ⟨RX8, "statePassed", "(I)I"⟩
abbrev cX8_moved : ByteArray := prog_10_method_47_code
def yX8_moved : MethodName := ⟨RX8, "moved", "(I)Z"⟩
abbrev cX8_changesAside : ByteArray := prog_10_method_48_code
def yX8_changesAside : MethodName := ⟨RX8, "changesAside", "()V"⟩
abbrev cX8_moves : ByteArray := prog_10_method_49_code
def yX8_moves : MethodName := ⟨RX8, "moves", "(I)I"⟩
abbrev cX8_behindText : ByteArray := prog_10_method_50_code
def yX8_behindText : MethodName := ⟨RX8, "behindText", "(I)I"⟩
abbrev cX8_fewest : ByteArray := prog_10_method_51_code
def yX8_fewest : MethodName := ⟨RX8, "fewest", "(II)I"⟩
abbrev cX8_offered : ByteArray := prog_10_method_52_code
def yX8_offered : MethodName := ⟨RX8, "offered", "(II)I"⟩
abbrev cX8_behind : ByteArray := prog_10_method_53_code
def yX8_behind : MethodName := ⟨RX8, "behind", "(II)I"⟩
abbrev cX8_wrong : ByteArray := prog_10_method_54_code
def yX8_wrong : MethodName := ⟨RX8, "wrong", "(IIIII)I"⟩
abbrev cX8_comes : ByteArray := prog_10_method_55_code
def yX8_comes : MethodName := ⟨RX8, "comes", "(III)V"⟩
abbrev cX8_faultAt : ByteArray := prog_10_method_56_code
def yX8_faultAt : MethodName := ⟨RX8, "faultAt", "(III)I"⟩
abbrev cX8_areHeld : ByteArray := prog_10_method_57_code
def yX8_areHeld : MethodName := ⟨RX8, "areHeld", "(III)Z"⟩
abbrev cX8_holds : ByteArray := prog_10_method_58_code
def yX8_holds : MethodName := ⟨RX8, "holds", "(III)I"⟩
abbrev cX8_fault : ByteArray := prog_10_method_59_code
def yX8_fault : MethodName := ⟨RX8, "fault", "(IIII)I"⟩
abbrev cX8_reason : ByteArray := prog_10_method_60_code
def yX8_reason : MethodName := ⟨RX8, "reason", "(III)I"⟩
abbrev cX8_toldIs : ByteArray := prog_10_method_61_code
def yX8_toldIs : MethodName := ⟨RX8, "toldIs", "(I)I"⟩
abbrev cX8_told : ByteArray := prog_10_method_62_code
def yX8_told : MethodName := ⟨RX8, "told", "(I)I"⟩
abbrev cX8_mix : ByteArray := prog_10_method_63_code
def yX8_mix : MethodName := ⟨RX8, "mix", "(I)V"⟩
abbrev cX8_mixProcess : ByteArray := prog_10_method_64_code
def yX8_mixProcess : MethodName := ⟨RX8, "mixProcess", "(I)V"⟩
abbrev cX8_digest : ByteArray := prog_10_method_65_code
def yX8_digest : MethodName := ⟨RX8, "digest", "()J"⟩
def RJx8e188 : String := "java/lang/Cloneable"
def RJ6 : String := "java/lang/Integer"
abbrev cJ6_bitCount_0f7a4 : ByteArray := prog_12_method_49_code
def yJ6_bitCount_0f7a4 : MethodName := ⟨RJ6, "bitCount", "(I)I"⟩
def RJ9 : String := "java/lang/Math"
abbrev cJ9_min_7cf53 : ByteArray := prog_13_method_69_code
def yJ9_min_7cf53 : MethodName := ⟨RJ9, "min", "(II)I"⟩
def RJ10 : String := "java/lang/System"
def RJ7 : String := "java/util/Arrays"
abbrev cJ7_fill_53178 : ByteArray := prog_15_method_103_code
def yJ7_fill_53178 : MethodName := ⟨RJ7, "fill", "([II)V"⟩
abbrev cJ7_copyOf_9075b : ByteArray := prog_15_method_121_code
def yJ7_copyOf_9075b : MethodName := ⟨RJ7, "copyOf", "([BI)[B"⟩
abbrev cJ7_copyOf_59c91 : ByteArray := prog_15_method_123_code
def yJ7_copyOf_59c91 : MethodName := ⟨RJ7, "copyOf", "([II)[I"⟩
def RL : String := "BesideWalkLaw"
abbrev cL_law : ByteArray := code
def yL_law : MethodName := ⟨RL, "law", "([I)Z"⟩
end
section
/-! ===== a pure interpreter of the bytecode that the claim uses: heap = a map from numbers to cells, references are those numbers; 0 is the script ===== -/
abbrev rx_C : Type := (Nat × vp_A) ⊕ (Nat × List Value)
/-- cells, slots, the map -/
abbrev rx_H : Type := Nat × Nat × (Nat → Option rx_C)
def rx_rd (h : rx_H) (i : Nat) : Option rx_C := h.2.2 i
def rx_up (h : rx_H) (i : Nat) (c : rx_C) : rx_H := (h.1, h.2.1, fun j => if j = i then some c else h.2.2 j)
def rx_nw (h : rx_H) (k : Nat) (c : rx_C) : rx_H := (h.1 + 1, h.2.1 + k, fun j => if j = h.1 then some c else h.2.2 j)
/-- instruction, next pc, two numbers, a kind, a constant -/
abbrev rx_I : Type := Instr × Nat × Nat × Nat × Nat × Value
/-- goes on | calls (method, arguments, the stack below) | returns -/
abbrev rx_O : Type := (Nat × List Value × List Value × rx_H) ⊕ (Nat × List Value × List Value × Nat) ⊕ Option Value
def rx_nl : List Value → Nat → Bool
  | _, 0 => true
  | l, a + 1 => match l[a]? with
    | some (.long _) => false
    | some (.double _) => false
    | _ => true
def rx_cmp (c : Jvm.ClassFile.Cond) (x y : Int32) : Prop := match c with
  | .eq => x = y
  | .ne => ¬ x = y
  | .lt => x < y
  | .ge => y ≤ x
  | .gt => y < x
  | .le => x ≤ y
def rx_cmpB (c : Jvm.ClassFile.Cond) (x y : Int32) : Bool := match c with
  | .eq => decide (x = y)
  | .ne => !decide (x = y)
  | .lt => decide (x < y)
  | .ge => decide (y ≤ x)
  | .gt => decide (y < x)
  | .le => decide (x ≤ y)
/-- what a field of kind k keeps: 0 int, 1 boolean, 2 reference, 3 long -/
def rx_fit : Nat → Value → Bool
  | 0, .int _ => true
  | 1, .int x => decide (x = 0) || decide (x = 1)
  | 2, .ref _ => true
  | 3, .long _ => true
  | _, _ => false
def rx_ld (k : Nat) (v : Option Value) : Option Value := match k, v with
  | 0, some (.int x) => some (.int x)
  | 2, some (.ref x) => some (.ref x)
  | 3, some (.long x) => some (.long x)
  | _, _ => none
def rx_b2 (f : Int32 → Int32 → Int32) (nx : Nat) (ls st : List Value) (h : rx_H) : Option rx_O := match st with
  | .int y :: .int x :: r => some (.inl (nx, ls, .int (f x y) :: r, h))
  | _ => none
def rx_b2z (f : Int32 → Int32 → Int32) (nx : Nat) (ls st : List Value) (h : rx_H) : Option rx_O := match st with
  | .int y :: .int x :: r => if y = 0 then none else some (.inl (nx, ls, .int (f x y) :: r, h))
  | _ => none
def rx_l2 (f : Int64 → Int64 → Int64) (nx : Nat) (ls st : List Value) (h : rx_H) : Option rx_O := match st with
  | .long y :: .long x :: r => some (.inl (nx, ls, .long (f x y) :: r, h))
  | _ => none
def rx_load (k a nx : Nat) (ls st : List Value) (h : rx_H) : Option rx_O := match rx_ld k ls[a]? with
  | some v => some (.inl (nx, ls, v :: st, h))
  | none => none
/-- an int or a reference comes into a local -/
def rx_store (k a nx : Nat) (ls st : List Value) (h : rx_H) : Option rx_O := match st with
  | v :: r => match rx_ld k (some v) with
    | some w => if decide (a < ls.length) && rx_nl ls a then some (.inl (nx, ls.set a w, r, h)) else none
    | none => none
  | _ => none
def rx_lstore (a nx : Nat) (ls st : List Value) (h : rx_H) : Option rx_O := match st with
  | .long x :: r => if decide (a + 1 < ls.length) && rx_nl ls a then some (.inl (nx, (ls.set a (.long x)).set (a + 1) .null, r, h)) else none
  | _ => none
def rx_iinc (a nx : Nat) (n : Int32) (ls st : List Value) (h : rx_H) : Option rx_O := match ls[a]? with
  | some (.int x) => if rx_nl ls a then some (.inl (nx, ls.set a (.int (x + n)), st, h)) else none
  | _ => none
def rx_get (ci k nx : Nat) (ls st : List Value) (h : rx_H) : Option rx_O := match st with
  | .ref i :: r => if i = 0 then none else match rx_rd h i with
    | some (.inr (c, fs)) => if c = ci then match fs[k]? with
      | some v => some (.inl (nx, ls, v :: r, h))
      | none => none
      else none
    | _ => none
  | _ => none
def rx_put (ci k kd nx : Nat) (ls st : List Value) (h : rx_H) : Option rx_O := match st with
  | v :: .ref i :: r => if i = 0 then none else match rx_rd h i with
    | some (.inr (c, fs)) => if c = ci then (if rx_fit kd v && decide (k < fs.length) then some (.inl (nx, ls, r, rx_up h i (.inr (c, fs.set k v)))) else none) else none
    | _ => none
  | _ => none
/-- tag 0: int rows, 1: byte rows -/
def rx_aload (tg nx : Nat) (ls st : List Value) (h : rx_H) : Option rx_O := match st with
  | .int j :: .ref i :: r => match rx_rd h i with
    | some (.inl (t, n, .inl f)) => if t = tg then (if j < 0 ∨ n ≤ j.toNatClampNeg then none else some (.inl (nx, ls, .int (f j.toNatClampNeg) :: r, h))) else none
    | _ => none
  | _ => none
def rx_astore (tg nx : Nat) (nar : Int32 → Int32) (ls st : List Value) (h : rx_H) : Option rx_O := match st with
  | .int x :: .int j :: .ref i :: r => if i = 0 then none else match rx_rd h i with
    | some (.inl (t, n, .inl f)) => if t = tg then (if j < 0 ∨ n ≤ j.toNatClampNeg then none else some (.inl (nx, ls, r, rx_up h i (.inl (t, n, .inl (upd f j.toNatClampNeg (nar x))))))) else none
    | _ => none
  | _ => none
/-- tag 2: rows of Proc (kind 4), 3: of Outlook (kind 1) -/
def rx_tc (t : Nat) : Nat := if t = 2 then 4 else 1
def rx_aaload (nx : Nat) (ls st : List Value) (h : rx_H) : Option rx_O := match st with
  | .int j :: .ref i :: r => if i = 0 then none else match rx_rd h i with
    | some (.inl (t, n, .inr (.inr (.inr (.inr f))))) => if t = 2 ∨ t = 3 then (if j < 0 ∨ n ≤ j.toNatClampNeg then none else match f j.toNatClampNeg with
      | some q => some (.inl (nx, ls, .ref q :: r, h))
      | none => none) else none
    | _ => none
  | _ => none
def rx_aastore (nx : Nat) (ls st : List Value) (h : rx_H) : Option rx_O := match st with
  | .ref q :: .int j :: .ref i :: r => if i = 0 ∨ q = 0 then none else match rx_rd h i with
    | some (.inl (t, n, .inr (.inr (.inr (.inr f))))) => if t = 2 ∨ t = 3 then (if j < 0 ∨ n ≤ j.toNatClampNeg then none else match rx_rd h q with
      | some (.inr (c, _)) => if c = rx_tc t then some (.inl (nx, ls, r, rx_up h i (.inl (t, n, .inr (.inr (.inr (.inr (va_up f j.toNatClampNeg (some q))))))))) else none
      | _ => none) else none
    | _ => none
  | _ => none
def rx_alen (nx : Nat) (ls st : List Value) (h : rx_H) : Option rx_O := match st with
  | .ref i :: r => match rx_rd h i with
    | some (.inl (t, n, .inl _)) => if t = 0 ∨ (t = 1 ∧ ¬ i = 0) then some (.inl (nx, ls, .int (Int32.ofNat n) :: r, h)) else none
    | _ => none
  | _ => none
def rx_newa (tg nx : Nat) (ls st : List Value) (h : rx_H) : Option rx_O := match st with
  | .int n :: r => if n < 0 ∨ 134217728 < n.toNatClampNeg then none else some (.inl (nx, ls, .ref h.1 :: r, rx_nw h n.toNatClampNeg (.inl (tg, n.toNatClampNeg, .inl (fun _ => 0)))))
  | _ => none
def rx_anew (tg nx : Nat) (ls st : List Value) (h : rx_H) : Option rx_O := match st with
  | .int n :: r => if n < 0 ∨ 134217728 < n.toNatClampNeg then none else some (.inl (nx, ls, .ref h.1 :: r, rx_nw h n.toNatClampNeg (.inl (tg, n.toNatClampNeg, .inr (.inr (.inr (.inr (fun _ => none))))))))
  | _ => none
/-- a new object's fields -/
def rx_df : Nat → List Value
  | 0 => [.null, .null, .null, .null, .int 0, .int 0]
  | 1 => [.int 0, .int 0, .int 0, .int 0, .null, .null, .null, .null, .null]
  | 2 => [.null, .null, .int 0, .int 0]
  | 3 => [.int 0, .int 0, .null]
  | 4 => [.int 0, .int 0, .null]
  | 5 => [.null, .null, .null, .null, .null, .null, .int 0]
  | 6 => [.int 0, .int 0, .null, .null, .int 0, .int 0, .int 0, .int 0]
  | 7 => [.null, .null, .null, .null, .null, .null, .null, .null, .int 0, .int 0, .int 0]
  | 8 => [.null, .null, .null, .int 0, .null, .null, .int 0, .null, .null, .null, .int 0, .null, .null, .null, .int 0, .long 0]
  | _ => []
def rx_copy (nx : Nat) (ls st : List Value) (h : rx_H) : Option rx_O := match st with
  | .int n :: .int dp :: .ref d :: .int sp :: .ref i :: r => if i = 0 ∨ d = 0 ∨ 4 < r.length then none else match rx_rd h i, rx_rd h d with
    | some (.inl (t, n0, .inl f)), some (.inl (u, n1, .inl g)) => if t ≤ 1 ∧ u = t ∧ ¬ sp < 0 ∧ ¬ dp < 0 ∧ ¬ n < 0 ∧ sp.toNatClampNeg + n.toNatClampNeg ≤ n0 ∧ dp.toNatClampNeg + n.toNatClampNeg ≤ n1 ∧ (t = 0 ∨ ∀ j, j < n.toNatClampNeg → fits .byte (.int (f (sp.toNatClampNeg + j))) = true)
      then some (.inl (nx, ls, r, rx_up h d (.inl (u, n1, .inl (va_cpy f g sp.toNatClampNeg dp.toNatClampNeg n.toNatClampNeg))))) else none
    | _, _ => none
  | _ => none
def rx_min (nx : Nat) (ls st : List Value) (h : rx_H) : Option rx_O := match st with
  | .int y :: .int x :: r => if r.length ≤ 4 then some (.inl (nx, ls, .int (if y < x then y else x) :: r, h)) else none
  | _ => none
def rx_br (c : Bool) (a nx : Nat) (ls r : List Value) (h : rx_H) : Option rx_O := bif c then some (.inl (a, ls, r, h)) else some (.inl (nx, ls, r, h))
def rx_tgt (pc : Nat) (off : Int) : Nat := ((pc : Int) + off).toNat
def rx_sw (pc : Nat) (dflt lo hi : Int) (offs : Array Int) (x : Int32) : Nat := if x.toInt < lo ∨ hi < x.toInt then rx_tgt pc dflt else rx_tgt pc (offs.getD (x.toInt - lo).toNat dflt)
/-- a call: nr values of the stack are its arguments; kind 0 static, 1 of an object, 2 a maker -/
def rx_call (a nr kd cn nx : Nat) (st : List Value) (h : rx_H) : Option rx_O :=
  if decide (nr ≤ st.length) && decide ((st.drop nr).length ≤ 4) then match kd, (st.take nr).reverse with
    | 0, As => some (.inr (.inl (a, As, st.drop nr, nx)))
    | 1, .ref i :: As => if i = 0 then none else match rx_rd h i with
      | some (.inr (c, _)) => if c = cn then some (.inr (.inl (a, .ref i :: As, st.drop nr, nx))) else none
      | _ => none
    | 2, .ref i :: As => if i = 0 then none else some (.inr (.inl (a, .ref i :: As, st.drop nr, nx)))
    | _, _ => none
  else none
def rx_res (cn : Nat → Nat) (i : rx_I) (pc : Nat) (ls st : List Value) (h : rx_H) : Option rx_O := match i with
  | (.iconst _, nx, _, _, _, v) => some (.inl (nx, ls, v :: st, h))
  | (.bipush _, nx, _, _, _, v) => some (.inl (nx, ls, v :: st, h))
  | (.sipush _, nx, _, _, _, v) => some (.inl (nx, ls, v :: st, h))
  | (.ldc _, nx, _, _, _, v) => some (.inl (nx, ls, v :: st, h))
  | (.ldc_w _, nx, _, _, _, v) => some (.inl (nx, ls, v :: st, h))
  | (.ldc2_w _, nx, _, _, _, v) => some (.inl (nx, ls, v :: st, h))
  | (.iload_n _, nx, a, _, _, _) => rx_load 0 a nx ls st h
  | (.iload _, nx, a, _, _, _) => rx_load 0 a nx ls st h
  | (.aload_n _, nx, a, _, _, _) => rx_load 2 a nx ls st h
  | (.aload _, nx, a, _, _, _) => rx_load 2 a nx ls st h
  | (.lload_n _, nx, a, _, _, _) => rx_load 3 a nx ls st h
  | (.lload _, nx, a, _, _, _) => rx_load 3 a nx ls st h
  | (.istore_n _, nx, a, _, _, _) => rx_store 0 a nx ls st h
  | (.istore _, nx, a, _, _, _) => rx_store 0 a nx ls st h
  | (.astore_n _, nx, a, _, _, _) => rx_store 2 a nx ls st h
  | (.astore _, nx, a, _, _, _) => rx_store 2 a nx ls st h
  | (.lstore_n _, nx, a, _, _, _) => rx_lstore a nx ls st h
  | (.lstore _, nx, a, _, _, _) => rx_lstore a nx ls st h
  | (.iinc _ _, nx, a, _, _, .int n) => rx_iinc a nx n ls st h
  | (.iadd, nx, _, _, _, _) => rx_b2 (fun x y => x + y) nx ls st h
  | (.isub, nx, _, _, _, _) => rx_b2 (fun x y => x - y) nx ls st h
  | (.imul, nx, _, _, _, _) => rx_b2 (fun x y => x * y) nx ls st h
  | (.iand, nx, _, _, _, _) => rx_b2 (fun x y => x &&& y) nx ls st h
  | (.ior, nx, _, _, _, _) => rx_b2 (fun x y => x ||| y) nx ls st h
  | (.ixor, nx, _, _, _, _) => rx_b2 (fun x y => x ^^^ y) nx ls st h
  | (.ishl, nx, _, _, _, _) => rx_b2 (fun x y => x <<< (y &&& 31)) nx ls st h
  | (.ishr, nx, _, _, _, _) => rx_b2 (fun x y => x >>> (y &&& 31)) nx ls st h
  | (.iushr, nx, _, _, _, _) => rx_b2 (fun x y => (x.toUInt32 >>> (y.toUInt32 &&& Int32.toUInt32 31)).toInt32) nx ls st h
  | (.idiv, nx, _, _, _, _) => rx_b2z (fun x y => x / y) nx ls st h
  | (.irem, nx, _, _, _, _) => rx_b2z (fun x y => x - x / y * y) nx ls st h
  | (.ladd, nx, _, _, _, _) => rx_l2 (fun x y => x + y) nx ls st h
  | (.lmul, nx, _, _, _, _) => rx_l2 (fun x y => x * y) nx ls st h
  | (.ineg, nx, _, _, _, _) => match st with
    | .int x :: r => some (.inl (nx, ls, .int (-x) :: r, h))
    | _ => none
  | (.i2l, nx, _, _, _, _) => match st with
    | .int x :: r => some (.inl (nx, ls, .long x.toInt64 :: r, h))
    | _ => none
  | (.i2b, nx, _, _, _, _) => match st with
    | .int x :: r => some (.inl (nx, ls, .int x.toInt8.toInt32 :: r, h))
    | _ => none
  | (.lcmp, nx, _, _, _, _) => match st with
    | .long y :: .long x :: r => some (.inl (nx, ls, .int (lg_cmp x y) :: r, h))
    | _ => none
  | (.dup, nx, _, _, _, _) => match st with
    | .int x :: r => some (.inl (nx, ls, .int x :: .int x :: r, h))
    | .ref x :: r => some (.inl (nx, ls, .ref x :: .ref x :: r, h))
    | _ => none
  | (.pop, nx, _, _, _, _) => match st with
    | .int _ :: r => some (.inl (nx, ls, r, h))
    | _ => none
  | (.dup2, nx, _, _, _, _) => match st with
    | .int x :: .ref y :: r => some (.inl (nx, ls, .int x :: .ref y :: .int x :: .ref y :: r, h))
    | _ => none
  | (.goto _, _, a, _, _, _) => some (.inl (a, ls, st, h))
  | (.ifCond c _, nx, a, _, _, _) => match st with
    | .int x :: r => rx_br (rx_cmpB c x 0) a nx ls r h
    | _ => none
  | (.if_icmp c _, nx, a, _, _, _) => match st with
    | .int y :: .int x :: r => rx_br (rx_cmpB c x y) a nx ls r h
    | _ => none
  | (.tableswitch d lo hi offs, _, _, _, _, _) => match st with
    | .int x :: r => some (.inl (rx_sw pc d lo hi offs x, ls, r, h))
    | _ => none
  | (.getfield _, nx, a, b, _, _) => rx_get a b nx ls st h
  | (.putfield _, nx, a, b, k, _) => rx_put a b k nx ls st h
  | (.iaload, nx, _, _, _, _) => rx_aload 0 nx ls st h
  | (.baload, nx, _, _, _, _) => match st with
    | .int j :: .ref i :: r => if i = 0 then none else rx_aload 1 nx ls (.int j :: .ref i :: r) h
    | _ => none
  | (.iastore, nx, _, _, _, _) => rx_astore 0 nx (fun x => x) ls st h
  | (.bastore, nx, _, _, _, _) => rx_astore 1 nx (fun x => x.toInt8.toInt32) ls st h
  | (.aaload, nx, _, _, _, _) => rx_aaload nx ls st h
  | (.aastore, nx, _, _, _, _) => rx_aastore nx ls st h
  | (.arraylength, nx, _, _, _, _) => rx_alen nx ls st h
  | (.new _, nx, a, b, _, _) => some (.inl (nx, ls, .ref h.1 :: st, rx_nw h b (.inr (a, rx_df a))))
  | (.newarray _, nx, a, _, _, _) => rx_newa a nx ls st h
  | (.anewarray _, nx, a, _, _, _) => rx_anew a nx ls st h
  | (.invokespecial _, nx, a, b, k, _) => if k = 8 then (match st with
    | .ref _ :: r => if r.length ≤ 4 then some (.inl (nx, ls, r, h)) else none
    | _ => none) else rx_call a b 2 0 nx st h
  | (.invokestatic _, nx, a, b, k, _) => if k = 9 then rx_copy nx ls st h else if k = 7 then rx_min nx ls st h else rx_call a b 0 0 nx st h
  | (.invokevirtual _, nx, a, b, _, _) => rx_call a b 1 (cn a) nx st h
  | (.ireturn, _, _, _, k, _) => match st with
    | [.int x] => if decide (k = 0) || decide (x = 0) || decide (x = 1) then some (.inr (.inr (some (.int x)))) else none
    | _ => none
  | (.lreturn, _, _, _, _, _) => match st with
    | [.long x] => some (.inr (.inr (some (.long x))))
    | _ => none
  | (.areturn, _, _, _, _, _) => match st with
    | [.ref x] => some (.inr (.inr (some (.ref x))))
    | _ => none
  | (.return_, _, _, _, _, _) => match st with
    | [] => some (.inr (.inr none))
    | _ => none
  | _ => none
end
section
def rx_T (a : Nat) : u_T := match a with
  | 0 => TX0 | 1 => TX1 | 2 => TX2 | 3 => TX3 | 4 => TX4 | 5 => TX5 | 6 => TX6 | 7 => TX7 | _ => TX8
def rx_Rn (a : Nat) : String := match a with
  | 0 => RX0 | 1 => RX1 | 2 => RX2 | 3 => RX3 | 4 => RX4 | 5 => RX5 | 6 => RX6 | 7 => RX7 | _ => RX8
def rx_N (a : Nat) : Nat := match a with
  | 0 => 6 | 1 => 9 | 2 => 4 | 3 => 3 | 4 => 3 | 5 => 7 | 6 => 8 | 7 => 11 | _ => 16
def rx_ty (a : Nat) : Nat → FieldType := match a with
  | 0 => tyX0 | 1 => tyX1 | 2 => tyX2 | 3 => tyX3 | 4 => tyX4 | 5 => tyX5 | 6 => tyX6 | 7 => tyX7 | _ => tyX8
def rx_kinds : List vw_C := [(RX0, TX0, 6), (RX1, TX1, 9), (RX2, TX2, 4), (RX3, TX3, 3), (RX4, TX4, 3), (RX5, TX5, 7), (RX6, TX6, 8), (RX7, TX7, 11), (RX8, TX8, 16)]
theorem rx_kinds_at (a : Nat) (h : a < 9) : rx_kinds[a]? = some (rx_Rn a, rx_T a, rx_N a) := by
  rcases a with _ | _ | _ | _ | _ | _ | _ | _ | _ | a <;> first | rfl | omega
theorem rx_ty_ok (a : Nat) (h : a < 9) : ∀ k, k < rx_N a → parseFieldDescriptor (rx_T a k).2.2.1 = some (rx_ty a k) := by
  rcases a with _ | _ | _ | _ | _ | _ | _ | _ | _ | a
  · exact tyX0_ok
  · exact tyX1_ok
  · exact tyX2_ok
  · exact tyX3_ok
  · exact tyX4_ok
  · exact tyX5_ok
  · exact tyX6_ok
  · exact tyX7_ok
  · exact tyX8_ok
  · omega
theorem rx_nm_ok (a : Nat) (h : a < 9) : ∀ x, x < rx_N a → ∀ y, y < rx_N a → x ≠ y → (rx_T a x).2.1 ≠ (rx_T a y).2.1 := by
  rcases a with _ | _ | _ | _ | _ | _ | _ | _ | _ | a
  · exact nmX0
  · exact nmX1
  · exact nmX2
  · exact nmX3
  · exact nmX4
  · exact nmX5
  · exact nmX6
  · exact nmX7
  · exact nmX8
  · omega
def rx_g : List Cond := lw_tbl.filter goodWord
def rx_ys : List MethodName := [yX0_init, yX0_lookInto, yX0_compare, yX0_across, yX0_press, yX0_pressMoves, yX0_standIn, yX0_join, yX0_findAlike, yX0_findImages, yX0_splits, yX0_sameImages, yX1_init, yX1_look, yX1_start, yX1_after, yX1_refusesWithin, yX1_isLostIn, yX1_possibleNext, yX1_fewestOffered, yX1_findLost, yX1_findOnward, yX1_fillSingles, yX1_onwardFrom, yX1_setsHolding, yX1_fillSets, yX2_init, yX2_builds, yX2_both, yX2_oneAlone, yX2_number, yX2_add, yX3_init, yX3_keep, yX3_restore, yX4_init, yX4_begin, yX4_become, yX4_targets, yX4_stands, yX4_put, yX4_drop, yX4_turn, yX4_countBy, yX4_lettersUsed, yX4_offers, yX4_reached, yX4_successors, yX4_setTargets, yX5_init, yX5_run, yX5_foundIn, yX5_wordLength, yX5_letterFromEnd, yX5_forget, yX5_enqueue, yX5_grow, yX5_note, yX5_reasonAt, yX6_init, yX6_append, yX6_readWord, yX6_readMoves, yX6_readByte, yX6_readFrom, yX6_kindOf, yX6_readBy, yX6_readTo, yX7_init, yX7_process, yX7_move, yX7_unmove, yX7_hides, yX7_renames, yX7_together, yX7_presses, yX7_of, yX7_leads, yX7_alike, yX7_type, yX7_clear, yX7_moves, yX7_behind, yX7_holds, yX7_fault, yX7_reason, yX7_back, yX7_told, yX7_digest, yX7_digestOfProcess, yX7_digestOfContest, yX7_tally, yX7_figure, yX7_leavePast, yX7_outlook, yX7_refuse, yX7_isState, yX7_isMove, yX7_isContest, yX7_isProcess, yX7_isLetter, yX7_isKind, yX7_isLetterSet, yX7_has, yX8_init, yX8_within, yX8_has, yX8_ones, yX8_counts, yX8_isProcess, yX8_many, yX8_isState, yX8_at, yX8_leadsOf, yX8_leaves, yX8_back, yX8_movesOf, yX8_process, yX8_isMove, yX8_move, yX8_unmove, yX8_shifts, yX8_hides, yX8_renames, yX8_pairAt, yX8_pairsUp, yX8_isMade, yX8_putsMade, yX8_together, yX8_isMet, yX8_isThere, yX8_laysLike, yX8_reachable, yX8_least, yX8_presses, yX8_numbered, yX8_alike, yX8_onSilently, yX8_ledTo, yX8_offers, yX8_stables, yX8_losts, yX8_ofProcess, yX8_of, yX8_leads, yX8_type, yX8_clear, yX8_here, yX8_statePassed, yX8_moved, yX8_changesAside, yX8_moves, yX8_behindText, yX8_fewest, yX8_offered, yX8_behind, yX8_wrong, yX8_comes, yX8_faultAt, yX8_areHeld, yX8_holds, yX8_fault, yX8_reason, yX8_toldIs, yX8_told, yX8_mix, yX8_mixProcess, yX8_digest, yJ6_bitCount_0f7a4, yJ7_fill_53178, yJ7_copyOf_9075b, yJ7_copyOf_59c91, yL_law]
def rx_y (mi : Nat) : MethodName := rx_ys.getD mi yL_law
def rx_ccs : List ByteArray := [cX0_init, cX0_lookInto, cX0_compare, cX0_across, cX0_press, cX0_pressMoves, cX0_standIn, cX0_join, cX0_findAlike, cX0_findImages, cX0_splits, cX0_sameImages, cX1_init, cX1_look, cX1_start, cX1_after, cX1_refusesWithin, cX1_isLostIn, cX1_possibleNext, cX1_fewestOffered, cX1_findLost, cX1_findOnward, cX1_fillSingles, cX1_onwardFrom, cX1_setsHolding, cX1_fillSets, cX2_init, cX2_builds, cX2_both, cX2_oneAlone, cX2_number, cX2_add, cX3_init, cX3_keep, cX3_restore, cX4_init, cX4_begin, cX4_become, cX4_targets, cX4_stands, cX4_put, cX4_drop, cX4_turn, cX4_countBy, cX4_lettersUsed, cX4_offers, cX4_reached, cX4_successors, cX4_setTargets, cX5_init, cX5_run, cX5_foundIn, cX5_wordLength, cX5_letterFromEnd, cX5_forget, cX5_enqueue, cX5_grow, cX5_note, cX5_reasonAt, cX6_init, cX6_append, cX6_readWord, cX6_readMoves, cX6_readByte, cX6_readFrom, cX6_kindOf, cX6_readBy, cX6_readTo, cX7_init, cX7_process, cX7_move, cX7_unmove, cX7_hides, cX7_renames, cX7_together, cX7_presses, cX7_of, cX7_leads, cX7_alike, cX7_type, cX7_clear, cX7_moves, cX7_behind, cX7_holds, cX7_fault, cX7_reason, cX7_back, cX7_told, cX7_digest, cX7_digestOfProcess, cX7_digestOfContest, cX7_tally, cX7_figure, cX7_leavePast, cX7_outlook, cX7_refuse, cX7_isState, cX7_isMove, cX7_isContest, cX7_isProcess, cX7_isLetter, cX7_isKind, cX7_isLetterSet, cX7_has, cX8_init, cX8_within, cX8_has, cX8_ones, cX8_counts, cX8_isProcess, cX8_many, cX8_isState, cX8_at, cX8_leadsOf, cX8_leaves, cX8_back, cX8_movesOf, cX8_process, cX8_isMove, cX8_move, cX8_unmove, cX8_shifts, cX8_hides, cX8_renames, cX8_pairAt, cX8_pairsUp, cX8_isMade, cX8_putsMade, cX8_together, cX8_isMet, cX8_isThere, cX8_laysLike, cX8_reachable, cX8_least, cX8_presses, cX8_numbered, cX8_alike, cX8_onSilently, cX8_ledTo, cX8_offers, cX8_stables, cX8_losts, cX8_ofProcess, cX8_of, cX8_leads, cX8_type, cX8_clear, cX8_here, cX8_statePassed, cX8_moved, cX8_changesAside, cX8_moves, cX8_behindText, cX8_fewest, cX8_offered, cX8_behind, cX8_wrong, cX8_comes, cX8_faultAt, cX8_areHeld, cX8_holds, cX8_fault, cX8_reason, cX8_toldIs, cX8_told, cX8_mix, cX8_mixProcess, cX8_digest, cJ6_bitCount_0f7a4, cJ7_fill_53178, cJ7_copyOf_9075b, cJ7_copyOf_59c91, cL_law]
def rx_cc (mi : Nat) : ByteArray := rx_ccs.getD mi cL_law
def rx_mls : List Nat := [1, 2, 3, 3, 6, 7, 4, 5, 2, 4, 4, 4, 1, 3, 1, 3, 4, 2, 4, 5, 5, 4, 5, 4, 3, 4, 1, 7, 10, 9, 4, 5, 2, 3, 3, 1, 2, 2, 3, 4, 4, 4, 4, 4, 3, 4, 4, 5, 4, 1, 9, 2, 4, 5, 2, 5, 2, 4, 4, 1, 2, 3, 5, 4, 4, 1, 3, 4, 2, 4, 5, 5, 4, 4, 5, 2, 3, 4, 5, 2, 2, 4, 7, 4, 6, 4, 2, 2, 5, 8, 8, 2, 3, 2, 2, 2, 3, 5, 3, 1, 1, 1, 1, 2, 2, 3, 2, 3, 2, 1, 2, 3, 3, 4, 2, 2, 4, 5, 5, 5, 5, 5, 4, 4, 4, 9, 9, 3, 5, 10, 4, 9, 6, 2, 6, 7, 5, 6, 6, 5, 4, 6, 6, 3, 4, 2, 2, 1, 3, 7, 3, 5, 5, 6, 5, 4, 9, 4, 8, 3, 4, 9, 5, 2, 2, 2, 3, 5, 1, 4, 3, 3, 4]
def rx_ml (mi : Nat) : Nat := rx_mls.getD mi 4
def rx_rts : List (Option FieldType) := [none, none, none, (some .boolean), none, none, (some .int), none, none, none, (some .boolean), (some .boolean), none, none, (some .int), (some .int), (some .boolean), (some .boolean), (some .int), (some .int), none, none, none, (some .int), (some .int), none, none, (some .boolean), none, none, (some .int), none, none, none, none, none, none, none, (some .int), (some .boolean), none, none, none, (some .int), (some .int), (some .int), (some .int), (some .int), none, none, none, (some .boolean), (some .int), (some .int), none, none, none, none, (some .int), none, none, (some .int), (some .int), (some .int), (some .int), (some .int), (some .int), (some .int), none, (some .int), (some .int), (some .int), (some .int), (some .int), (some .int), (some .int), (some .int), (some .int), (some .int), (some .int), (some .int), (some .int), (some .int), (some .int), (some .int), (some .int), (some .int), (some .int), (some .long), (some .long), (some .long), (some .int), (some .int), none, (some (.object "BesideWalk$Outlook")), (some .int), (some .boolean), (some .boolean), (some .boolean), (some .boolean), (some .boolean), (some .boolean), (some .boolean), (some .boolean), none, (some .boolean), (some .boolean), (some .int), (some .int), (some .boolean), (some .int), (some .boolean), (some .int), (some .int), none, (some .int), (some .int), (some .int), (some .boolean), (some .int), (some .int), none, (some .int), (some .int), (some .int), (some .boolean), (some .boolean), none, (some .int), (some .boolean), (some .boolean), none, (some .int), (some .int), (some .int), (some .int), (some .int), (some .int), (some .int), (some .int), (some .int), (some .int), (some .int), (some .int), (some .int), (some .int), (some .int), (some .int), (some .int), (some .boolean), none, (some .int), (some .int), (some .int), (some .int), (some .int), (some .int), none, (some .int), (some .boolean), (some .int), (some .int), (some .int), (some .int), (some .int), none, none, (some .long), (some .int), none, (some (.array .byte)), (some (.array .int)), (some .boolean)]
def rx_rt (mi : Nat) : Option FieldType := rx_rts.getD mi none
def rx_frs : List Nat := [1, 3, 3, 1, 4, 3, 1, 1, 2, 1, 1, 0, 1, 3, 0, 0, 0, 0, 1, 1, 1, 1, 2, 1, 0, 0, 1, 5, 4, 4, 0, 3, 2, 2, 2, 1, 1, 1, 0, 1, 2, 2, 2, 1, 2, 1, 2, 1, 1, 1, 4, 0, 0, 0, 1, 3, 2, 0, 1, 1, 0, 1, 5, 4, 0, 1, 0, 3, 3, 4, 4, 4, 4, 4, 6, 5, 6, 2, 4, 1, 0, 6, 5, 5, 5, 5, 3, 1, 7, 6, 5, 0, 5, 3, 4, 0, 1, 2, 1, 0, 0, 0, 0, 0, 1, 0, 0, 0, 0, 1, 0, 2, 0, 1, 0, 1, 1, 2, 3, 4, 4, 2, 3, 3, 0, 1, 2, 0, 3, 2, 1, 3, 2, 1, 4, 2, 4, 3, 2, 2, 2, 2, 3, 4, 3, 1, 0, 0, 3, 4, 0, 5, 4, 3, 3, 5, 3, 1, 4, 2, 5, 5, 5, 0, 1, 0, 4, 5, 0, 0, 1, 1, 8]
def rx_fr (mi : Nat) : Nat := rx_frs.getD mi 0
def rx_los : List Nat := [20, 67, 67, 21, 94, 68, 21, 22, 46, 21, 23, 0, 20, 68, 0, 0, 0, 0, 21, 21, 22, 22, 44, 21, 0, 0, 20, 121, 92, 92, 0, 68, 40, 47, 47, 20, 23, 26, 0, 22, 45, 45, 45, 22, 45, 22, 46, 22, 22, 20, 93, 0, 0, 0, 23, 69, 48, 0, 23, 20, 0, 20, 114, 91, 0, 20, 0, 68, 61, 90, 90, 90, 90, 90, 147, 119, 133, 42, 89, 21, 0, 138, 111, 121, 121, 121, 69, 21, 160, 133, 121, 0, 111, 69, 90, 0, 20, 42, 20, 0, 0, 0, 0, 0, 20, 0, 0, 0, 0, 22, 0, 42, 0, 22, 0, 21, 22, 42, 64, 88, 88, 45, 69, 69, 0, 23, 51, 0, 79, 45, 21, 74, 45, 21, 102, 42, 102, 70, 45, 45, 45, 45, 70, 95, 64, 22, 0, 0, 64, 86, 0, 112, 95, 69, 69, 119, 70, 21, 98, 42, 125, 125, 125, 0, 22, 0, 95, 125, 0, 0, 26, 26, 184]
def rx_lo (mi : Nat) : Nat := rx_los.getD mi 0
def rx_nps : List Nat := [0, 1, 2, 2, 2, 4, 2, 1, 0, 0, 0, 2, 0, 1, 0, 2, 3, 1, 1, 1, 1, 1, 1, 1, 1, 0, 0, 4, 5, 5, 2, 4, 0, 1, 1, 0, 1, 1, 2, 3, 3, 3, 2, 1, 0, 1, 0, 1, 3, 0, 3, 1, 1, 2, 0, 3, 0, 2, 4, 0, 1, 0, 1, 2, 3, 1, 2, 3, 0, 2, 4, 4, 2, 3, 4, 1, 2, 3, 4, 1, 0, 1, 2, 3, 4, 3, 0, 1, 0, 2, 3, 1, 2, 1, 1, 1, 2, 4, 3, 1, 1, 1, 1, 2, 0, 3, 2, 1, 1, 1, 1, 2, 3, 3, 0, 0, 1, 2, 4, 4, 4, 3, 2, 3, 2, 4, 3, 1, 4, 5, 3, 2, 1, 1, 1, 3, 4, 2, 3, 2, 1, 1, 2, 2, 3, 1, 0, 0, 1, 1, 0, 1, 1, 2, 2, 2, 5, 3, 3, 3, 3, 4, 3, 1, 1, 1, 1, 0, 1, 2, 2, 2, 1]
def rx_np (mi : Nat) : Nat := rx_nps.getD mi 0
def rx_cns : List Nat := [0, 0, 0, 0, 0, 0, 0, 0, 0, 0, 0, 0, 1, 1, 1, 1, 1, 1, 1, 1, 1, 1, 1, 1, 1, 1, 2, 2, 2, 2, 2, 2, 3, 3, 3, 4, 4, 4, 4, 4, 4, 4, 4, 4, 4, 4, 4, 4, 4, 5, 5, 5, 5, 5, 5, 5, 5, 5, 5, 6, 6, 6, 6, 6, 6, 6, 6, 6, 7, 7, 7, 7, 7, 7, 7, 7, 7, 7, 7, 7, 7, 7, 7, 7, 7, 7, 7, 7, 7, 7, 7, 7, 7, 7, 7, 7, 7, 7, 7, 7, 7, 7, 7, 7, 8, 8, 8, 8, 8, 8, 8, 8, 8, 8, 8, 8, 8, 8, 8, 8, 8, 8, 8, 8, 8, 8, 8, 8, 8, 8, 8, 8, 8, 8, 8, 8, 8, 8, 8, 8, 8, 8, 8, 8, 8, 8, 8, 8, 8, 8, 8, 8, 8, 8, 8, 8, 8, 8, 8, 8, 8, 8, 8, 8, 8, 8, 8, 8, 99, 99, 99, 99, 99]
def rx_cn (mi : Nat) : Nat := rx_cns.getD mi 99
def rx_nest : List Cond := [.methodLinkNest RX3 24 yX4_init "BesideWalk", .methodLinkNest RX7 30 yX6_init "BesideWalk", .methodLinkNest RX7 37 yX5_init "BesideWalk", .methodLinkNest RX7 44 yX0_init "BesideWalk", .methodLinkNest RX7 51 yX2_init "BesideWalk", .methodLinkNest RX7 56 yX4_init "BesideWalk", .methodLinkNest RX7 71 yX1_init "BesideWalk", .methodLinkNest RX4 38 yX7_has "BesideWalk", .methodLinkNest RX2 42 yX7_has "BesideWalk", .methodLinkNest RX0 38 yX7_has "BesideWalk", .methodLinkNest RX1 64 yX7_has "BesideWalk", .methodLinkNest RX6 38 yX7_isLetter "BesideWalk"]
def rx_tb_0_0 : List (Nat × rx_I × List Nat) := [(0, (.aload_n 0, 1, 0, 0, 0, .null), []),
  (1, (.invokespecial 3, 4, 0, 0, 8, .null), [208, 91]),
  (4, (.aload_n 0, 5, 0, 0, 0, .null), []),
  (5, (.bipush 80, 7, 0, 0, 0, .int 80), []),
  (7, (.newarray .int, 9, 0, 0, 0, .null), [127]),
  (9, (.putfield 11, 12, 0, 0, 2, .null), [209]),
  (12, (.aload_n 0, 13, 0, 0, 0, .null), []),
  (13, (.bipush 80, 15, 0, 0, 0, .int 80), []),
  (15, (.newarray .int, 17, 0, 0, 0, .null), [127]),
  (17, (.putfield 15, 20, 0, 1, 2, .null), [210]),
  (20, (.aload_n 0, 21, 0, 0, 0, .null), []),
  (21, (.bipush 16, 23, 0, 0, 0, .int 16), []),
  (23, (.newarray .int, 25, 0, 0, 0, .null), [127]),
  (25, (.putfield 18, 28, 0, 2, 2, .null), [211]),
  (28, (.aload_n 0, 29, 0, 0, 0, .null), []),
  (29, (.bipush 8, 31, 0, 0, 0, .int 8), []),
  (31, (.newarray .int, 33, 0, 0, 0, .null), [127]),
  (33, (.putfield 21, 36, 0, 3, 2, .null), [212]),
  (36, (.aload_n 0, 37, 0, 0, 0, .null), []),
  (37, (.iconst 0, 38, 0, 0, 0, .int 0), []),
  (38, (.putfield 24, 41, 0, 4, 0, .null), [213]),
  (41, (.aload_n 0, 42, 0, 0, 0, .null), []),
  (42, (.iconst 0, 43, 0, 0, 0, .int 0), []),
  (43, (.putfield 28, 46, 0, 5, 0, .null), [214]),
  (46, (.return_, 47, 0, 0, 0, .null), [])]
def rx_tb_0 : List (Nat × rx_I × List Nat) := rx_tb_0_0
def rx_tb_1_0 : List (Nat × rx_I × List Nat) := [(0, (.aload_n 0, 1, 0, 0, 0, .null), []),
  (1, (.iconst 0, 2, 0, 0, 0, .int 0), []),
  (2, (.putfield 24, 5, 0, 4, 0, .null), [213]),
  (5, (.aload_n 0, 6, 0, 0, 0, .null), []),
  (6, (.aload_n 1, 7, 1, 0, 0, .null), []),
  (7, (.invokevirtual 31, 10, 7, 2, 0, .null), [460, 462, 9, 77]),
  (10, (.aload_n 0, 11, 0, 0, 0, .null), []),
  (11, (.invokevirtual 35, 14, 8, 1, 0, .null), [465, 467, 10, 77]),
  (14, (.return_, 15, 0, 0, 0, .null), [])]
def rx_tb_1 : List (Nat × rx_I × List Nat) := rx_tb_1_0
def rx_tb_2_0 : List (Nat × rx_I × List Nat) := [(0, (.aload_n 0, 1, 0, 0, 0, .null), []),
  (1, (.iconst 0, 2, 0, 0, 0, .int 0), []),
  (2, (.putfield 24, 5, 0, 4, 0, .null), [213]),
  (5, (.aload_n 0, 6, 0, 0, 0, .null), []),
  (6, (.aload_n 1, 7, 1, 0, 0, .null), []),
  (7, (.invokevirtual 31, 10, 7, 2, 0, .null), [460, 462, 9, 77]),
  (10, (.aload_n 0, 11, 0, 0, 0, .null), []),
  (11, (.aload_n 0, 12, 0, 0, 0, .null), []),
  (12, (.getfield 24, 15, 0, 4, 0, .null), [213]),
  (15, (.putfield 28, 18, 0, 5, 0, .null), [214]),
  (18, (.aload_n 0, 19, 0, 0, 0, .null), []),
  (19, (.aload_n 2, 20, 2, 0, 0, .null), []),
  (20, (.invokevirtual 31, 23, 7, 2, 0, .null), [460, 462, 9, 77]),
  (23, (.aload_n 0, 24, 0, 0, 0, .null), []),
  (24, (.invokevirtual 35, 27, 8, 1, 0, .null), [465, 467, 10, 77]),
  (27, (.return_, 28, 0, 0, 0, .null), [])]
def rx_tb_2 : List (Nat × rx_I × List Nat) := rx_tb_2_0
def rx_tb_3_0 : List (Nat × rx_I × List Nat) := [(0, (.aload_n 0, 1, 0, 0, 0, .null), []),
  (1, (.getfield 18, 4, 0, 2, 0, .null), [211]),
  (4, (.iload_n 1, 5, 1, 0, 0, .null), []),
  (5, (.iaload, 6, 0, 0, 0, .null), []),
  (6, (.aload_n 0, 7, 0, 0, 0, .null), []),
  (7, (.getfield 28, 10, 0, 5, 0, .null), [214]),
  (10, (.iload_n 2, 11, 2, 0, 0, .null), []),
  (11, (.iadd, 12, 0, 0, 0, .null), []),
  (12, (.invokestatic 38, 15, 103, 2, 1, .null), [378, 72]),
  (15, (.ireturn, 16, 0, 0, 1, .null), [])]
def rx_tb_3 : List (Nat × rx_I × List Nat) := rx_tb_3_0
def rx_tb_4_0 : List (Nat × rx_I × List Nat) := [(0, (.aload_n 1, 1, 1, 0, 0, .null), []),
  (1, (.invokevirtual 42, 4, 46, 1, 0, .null), [486, 487, 488, 74]),
  (4, (.istore_n 3, 5, 3, 0, 0, .null), []),
  (5, (.iconst 0, 6, 0, 0, 0, .int 0), []),
  (6, (.istore 4, 8, 4, 0, 0, .null), []),
  (8, (.iconst 0, 9, 0, 0, 0, .int 0), []),
  (9, (.istore 5, 11, 5, 0, 0, .null), []),
  (11, (.iload 5, 13, 5, 0, 0, .null), []),
  (13, (.aload_n 1, 14, 1, 0, 0, .null), []),
  (14, (.getfield 48, 17, 4, 0, 0, .null), [113]),
  (17, (.if_icmp .ge 42, 20, 59, 0, 0, .null), []),
  (20, (.iload_n 3, 21, 3, 0, 0, .null), []),
  (21, (.iload 5, 23, 5, 0, 0, .null), []),
  (23, (.invokestatic 38, 26, 103, 2, 1, .null), [378, 72]),
  (26, (.ifCond .eq 27, 29, 53, 0, 0, .null), []),
  (29, (.aload_n 0, 30, 0, 0, 0, .null), []),
  (30, (.iload 5, 32, 5, 0, 0, .null), []),
  (32, (.iload_n 3, 33, 3, 0, 0, .null), []),
  (33, (.invokevirtual 51, 36, 6, 3, 0, .null), [494, 496, 15, 77]),
  (36, (.iload 5, 38, 5, 0, 0, .null), []),
  (38, (.if_icmp .ne 15, 41, 53, 0, 0, .null), []),
  (41, (.aload_n 0, 42, 0, 0, 0, .null), []),
  (42, (.getfield 21, 45, 0, 3, 0, .null), [212]),
  (45, (.iload 5, 47, 5, 0, 0, .null), []),
  (47, (.iload 4, 49, 4, 0, 0, .null), []),
  (49, (.iastore, 50, 0, 0, 0, .null), []),
  (50, (.iinc 4 1, 53, 4, 0, 0, .int 1), []),
  (53, (.iinc 5 1, 56, 5, 0, 0, .int 1), []),
  (56, (.goto (-45), 59, 11, 0, 0, .null), []),
  (59, (.aload_n 2, 60, 2, 0, 0, .null), []),
  (60, (.iload 4, 62, 4, 0, 0, .null), []),
  (62, (.invokevirtual 55, 65, 36, 2, 0, .null), [498, 348, 349, 74]),
  (65, (.iconst 0, 66, 0, 0, 0, .int 0), []),
  (66, (.istore 5, 68, 5, 0, 0, .null), []),
  (68, (.iload 5, 70, 5, 0, 0, .null), []),
  (70, (.aload_n 1, 71, 1, 0, 0, .null), []),
  (71, (.getfield 48, 74, 4, 0, 0, .null), [113]),
  (74, (.if_icmp .ge 39, 77, 113, 0, 0, .null), []),
  (77, (.iload_n 3, 78, 3, 0, 0, .null), []),
  (78, (.iload 5, 80, 5, 0, 0, .null), []),
  (80, (.invokestatic 38, 83, 103, 2, 1, .null), [378, 72]),
  (83, (.ifCond .eq 24, 86, 107, 0, 0, .null), []),
  (86, (.aload_n 0, 87, 0, 0, 0, .null), []),
  (87, (.iload 5, 89, 5, 0, 0, .null), []),
  (89, (.iload_n 3, 90, 3, 0, 0, .null), []),
  (90, (.invokevirtual 51, 93, 6, 3, 0, .null), [494, 496, 15, 77]),
  (93, (.iload 5, 95, 5, 0, 0, .null), []),
  (95, (.if_icmp .ne 12, 98, 107, 0, 0, .null), []),
  (98, (.aload_n 0, 99, 0, 0, 0, .null), []),
  (99, (.aload_n 1, 100, 1, 0, 0, .null), [])]
def rx_tb_4_1 : List (Nat × rx_I × List Nat) := [(100, (.iload 5, 102, 5, 0, 0, .null), []),
  (102, (.iload_n 3, 103, 3, 0, 0, .null), []),
  (103, (.aload_n 2, 104, 2, 0, 0, .null), []),
  (104, (.invokevirtual 59, 107, 5, 5, 0, .null), [499, 501, 16, 77]),
  (107, (.iinc 5 1, 110, 5, 0, 0, .int 1), []),
  (110, (.goto (-42), 113, 68, 0, 0, .null), []),
  (113, (.return_, 114, 0, 0, 0, .null), [])]
def rx_tb_4 : List (Nat × rx_I × List Nat) := rx_tb_4_0 ++ rx_tb_4_1
def rx_tb_5_0 : List (Nat × rx_I × List Nat) := [(0, (.iconst 0, 1, 0, 0, 0, .int 0), []),
  (1, (.istore 5, 3, 5, 0, 0, .null), []),
  (3, (.iload 5, 5, 5, 0, 0, .null), []),
  (5, (.iconst 5, 6, 0, 0, 0, .int 5), []),
  (6, (.if_icmp .ge 64, 9, 70, 0, 0, .null), []),
  (9, (.iconst 0, 10, 0, 0, 0, .int 0), []),
  (10, (.istore 6, 12, 6, 0, 0, .null), []),
  (12, (.iload 6, 14, 6, 0, 0, .null), []),
  (14, (.aload_n 1, 15, 1, 0, 0, .null), []),
  (15, (.getfield 48, 18, 4, 0, 0, .null), [113]),
  (18, (.if_icmp .ge 46, 21, 64, 0, 0, .null), []),
  (21, (.aload_n 1, 22, 1, 0, 0, .null), []),
  (22, (.iload_n 2, 23, 2, 0, 0, .null), []),
  (23, (.iload 5, 25, 5, 0, 0, .null), []),
  (25, (.iload 6, 27, 6, 0, 0, .null), []),
  (27, (.invokevirtual 63, 30, 39, 4, 0, .null), [503, 370, 371, 74]),
  (30, (.ifCond .eq 28, 33, 58, 0, 0, .null), []),
  (33, (.aload 4, 35, 4, 0, 0, .null), []),
  (35, (.aload_n 0, 36, 0, 0, 0, .null), []),
  (36, (.getfield 21, 39, 0, 3, 0, .null), [212]),
  (39, (.iload_n 2, 40, 2, 0, 0, .null), []),
  (40, (.iaload, 41, 0, 0, 0, .null), []),
  (41, (.iload 5, 43, 5, 0, 0, .null), []),
  (43, (.aload_n 0, 44, 0, 0, 0, .null), []),
  (44, (.getfield 21, 47, 0, 3, 0, .null), [212]),
  (47, (.aload_n 0, 48, 0, 0, 0, .null), []),
  (48, (.iload 6, 50, 6, 0, 0, .null), []),
  (50, (.iload_n 3, 51, 3, 0, 0, .null), []),
  (51, (.invokevirtual 51, 54, 6, 3, 0, .null), [494, 496, 15, 77]),
  (54, (.iaload, 55, 0, 0, 0, .null), []),
  (55, (.invokevirtual 67, 58, 40, 4, 0, .null), [504, 381, 382, 74]),
  (58, (.iinc 6 1, 61, 6, 0, 0, .int 1), []),
  (61, (.goto (-49), 64, 12, 0, 0, .null), []),
  (64, (.iinc 5 1, 67, 5, 0, 0, .int 1), []),
  (67, (.goto (-64), 70, 3, 0, 0, .null), []),
  (70, (.return_, 71, 0, 0, 0, .null), [])]
def rx_tb_5 : List (Nat × rx_I × List Nat) := rx_tb_5_0
def rx_tb_6_0 : List (Nat × rx_I × List Nat) := [(0, (.iconst 0, 1, 0, 0, 0, .int 0), []),
  (1, (.istore_n 3, 2, 3, 0, 0, .null), []),
  (2, (.iload_n 3, 3, 3, 0, 0, .null), []),
  (3, (.iload_n 1, 4, 1, 0, 0, .null), []),
  (4, (.if_icmp .ge 26, 7, 30, 0, 0, .null), []),
  (7, (.aload_n 0, 8, 0, 0, 0, .null), []),
  (8, (.getfield 18, 11, 0, 2, 0, .null), [211]),
  (11, (.iload_n 1, 12, 1, 0, 0, .null), []),
  (12, (.iaload, 13, 0, 0, 0, .null), []),
  (13, (.iload_n 2, 14, 2, 0, 0, .null), []),
  (14, (.iand, 15, 0, 0, 0, .null), []),
  (15, (.iload_n 3, 16, 3, 0, 0, .null), []),
  (16, (.invokestatic 38, 19, 103, 2, 1, .null), [378, 72]),
  (19, (.ifCond .eq 5, 22, 24, 0, 0, .null), []),
  (22, (.iload_n 3, 23, 3, 0, 0, .null), []),
  (23, (.ireturn, 24, 0, 0, 0, .null), []),
  (24, (.iinc 3 1, 27, 3, 0, 0, .int 1), []),
  (27, (.goto (-25), 30, 2, 0, 0, .null), []),
  (30, (.iload_n 1, 31, 1, 0, 0, .null), []),
  (31, (.ireturn, 32, 0, 0, 0, .null), [])]
def rx_tb_6 : List (Nat × rx_I × List Nat) := rx_tb_6_0
def rx_tb_7_0 : List (Nat × rx_I × List Nat) := [(0, (.aload_n 0, 1, 0, 0, 0, .null), []),
  (1, (.getfield 24, 4, 0, 4, 0, .null), [213]),
  (4, (.istore_n 2, 5, 2, 0, 0, .null), []),
  (5, (.iconst 0, 6, 0, 0, 0, .int 0), []),
  (6, (.istore_n 3, 7, 3, 0, 0, .null), []),
  (7, (.iload_n 3, 8, 3, 0, 0, .null), []),
  (8, (.aload_n 1, 9, 1, 0, 0, .null), []),
  (9, (.getfield 48, 12, 4, 0, 0, .null), [113]),
  (12, (.if_icmp .ge 57, 15, 69, 0, 0, .null), []),
  (15, (.iconst 0, 16, 0, 0, 0, .int 0), []),
  (16, (.istore 4, 18, 4, 0, 0, .null), []),
  (18, (.iload 4, 20, 4, 0, 0, .null), []),
  (20, (.iconst 5, 21, 0, 0, 0, .int 5), []),
  (21, (.if_icmp .ge 32, 24, 53, 0, 0, .null), []),
  (24, (.aload_n 0, 25, 0, 0, 0, .null), []),
  (25, (.getfield 11, 28, 0, 0, 0, .null), [209]),
  (28, (.aload_n 0, 29, 0, 0, 0, .null), []),
  (29, (.getfield 24, 32, 0, 4, 0, .null), [213]),
  (32, (.iconst 5, 33, 0, 0, 0, .int 5), []),
  (33, (.imul, 34, 0, 0, 0, .null), []),
  (34, (.iload 4, 36, 4, 0, 0, .null), []),
  (36, (.iadd, 37, 0, 0, 0, .null), []),
  (37, (.aload_n 1, 38, 1, 0, 0, .null), []),
  (38, (.iload_n 3, 39, 3, 0, 0, .null), []),
  (39, (.iload 4, 41, 4, 0, 0, .null), []),
  (41, (.invokevirtual 71, 44, 38, 3, 0, .null), [464, 374, 375, 74]),
  (44, (.iload_n 2, 45, 2, 0, 0, .null), []),
  (45, (.ishl, 46, 0, 0, 0, .null), []),
  (46, (.iastore, 47, 0, 0, 0, .null), []),
  (47, (.iinc 4 1, 50, 4, 0, 0, .int 1), []),
  (50, (.goto (-32), 53, 18, 0, 0, .null), []),
  (53, (.aload_n 0, 54, 0, 0, 0, .null), []),
  (54, (.dup, 55, 0, 0, 0, .null), []),
  (55, (.getfield 24, 58, 0, 4, 0, .null), [213]),
  (58, (.iconst 1, 59, 0, 0, 0, .int 1), []),
  (59, (.iadd, 60, 0, 0, 0, .null), []),
  (60, (.putfield 24, 63, 0, 4, 0, .null), [213]),
  (63, (.iinc 3 1, 66, 3, 0, 0, .int 1), []),
  (66, (.goto (-59), 69, 7, 0, 0, .null), []),
  (69, (.return_, 70, 0, 0, 0, .null), [])]
def rx_tb_7 : List (Nat × rx_I × List Nat) := rx_tb_7_0
def rx_tb_8_0 : List (Nat × rx_I × List Nat) := [(0, (.iconst 0, 1, 0, 0, 0, .int 0), []),
  (1, (.istore_n 1, 2, 1, 0, 0, .null), []),
  (2, (.iload_n 1, 3, 1, 0, 0, .null), []),
  (3, (.aload_n 0, 4, 0, 0, 0, .null), []),
  (4, (.getfield 24, 7, 0, 4, 0, .null), [213]),
  (7, (.if_icmp .ge 23, 10, 30, 0, 0, .null), []),
  (10, (.aload_n 0, 11, 0, 0, 0, .null), []),
  (11, (.getfield 18, 14, 0, 2, 0, .null), [211]),
  (14, (.iload_n 1, 15, 1, 0, 0, .null), []),
  (15, (.iconst 1, 16, 0, 0, 0, .int 1), []),
  (16, (.aload_n 0, 17, 0, 0, 0, .null), []),
  (17, (.getfield 24, 20, 0, 4, 0, .null), [213]),
  (20, (.ishl, 21, 0, 0, 0, .null), []),
  (21, (.iconst 1, 22, 0, 0, 0, .int 1), []),
  (22, (.isub, 23, 0, 0, 0, .null), []),
  (23, (.iastore, 24, 0, 0, 0, .null), []),
  (24, (.iinc 1 1, 27, 1, 0, 0, .int 1), []),
  (27, (.goto (-25), 30, 2, 0, 0, .null), []),
  (30, (.iconst 0, 31, 0, 0, 0, .int 0), []),
  (31, (.istore_n 1, 32, 1, 0, 0, .null), []),
  (32, (.iload_n 1, 33, 1, 0, 0, .null), []),
  (33, (.aload_n 0, 34, 0, 0, 0, .null), []),
  (34, (.getfield 24, 37, 0, 4, 0, .null), [213]),
  (37, (.if_icmp .ge 23, 40, 60, 0, 0, .null), []),
  (40, (.aload_n 0, 41, 0, 0, 0, .null), []),
  (41, (.invokevirtual 74, 44, 9, 1, 0, .null), [469, 471, 11, 77]),
  (44, (.aload_n 0, 45, 0, 0, 0, .null), []),
  (45, (.invokevirtual 77, 48, 10, 1, 0, .null), [474, 476, 12, 77]),
  (48, (.ifCond .ne 6, 51, 54, 0, 0, .null), []),
  (51, (.goto 9, 54, 60, 0, 0, .null), []),
  (54, (.iinc 1 1, 57, 1, 0, 0, .int 1), []),
  (57, (.goto (-25), 60, 32, 0, 0, .null), []),
  (60, (.return_, 61, 0, 0, 0, .null), [])]
def rx_tb_8 : List (Nat × rx_I × List Nat) := rx_tb_8_0
def rx_tb_9_0 : List (Nat × rx_I × List Nat) := [(0, (.iconst 0, 1, 0, 0, 0, .int 0), []),
  (1, (.istore_n 1, 2, 1, 0, 0, .null), []),
  (2, (.iload_n 1, 3, 1, 0, 0, .null), []),
  (3, (.aload_n 0, 4, 0, 0, 0, .null), []),
  (4, (.getfield 24, 7, 0, 4, 0, .null), [213]),
  (7, (.iconst 5, 8, 0, 0, 0, .int 5), []),
  (8, (.imul, 9, 0, 0, 0, .null), []),
  (9, (.if_icmp .ge 67, 12, 76, 0, 0, .null), []),
  (12, (.iconst 0, 13, 0, 0, 0, .int 0), []),
  (13, (.istore_n 2, 14, 2, 0, 0, .null), []),
  (14, (.iconst 0, 15, 0, 0, 0, .int 0), []),
  (15, (.istore_n 3, 16, 3, 0, 0, .null), []),
  (16, (.aload_n 0, 17, 0, 0, 0, .null), []),
  (17, (.getfield 11, 20, 0, 0, 0, .null), [209]),
  (20, (.iload_n 1, 21, 1, 0, 0, .null), []),
  (21, (.iaload, 22, 0, 0, 0, .null), []),
  (22, (.iload_n 3, 23, 3, 0, 0, .null), []),
  (23, (.ishr, 24, 0, 0, 0, .null), []),
  (24, (.ifCond .eq 39, 27, 63, 0, 0, .null), []),
  (27, (.iload_n 3, 28, 3, 0, 0, .null), []),
  (28, (.aload_n 0, 29, 0, 0, 0, .null), []),
  (29, (.getfield 24, 32, 0, 4, 0, .null), [213]),
  (32, (.if_icmp .ge 31, 35, 63, 0, 0, .null), []),
  (35, (.aload_n 0, 36, 0, 0, 0, .null), []),
  (36, (.getfield 11, 39, 0, 0, 0, .null), [209]),
  (39, (.iload_n 1, 40, 1, 0, 0, .null), []),
  (40, (.iaload, 41, 0, 0, 0, .null), []),
  (41, (.iload_n 3, 42, 3, 0, 0, .null), []),
  (42, (.invokestatic 38, 45, 103, 2, 1, .null), [378, 72]),
  (45, (.ifCond .eq 12, 48, 57, 0, 0, .null), []),
  (48, (.iload_n 2, 49, 2, 0, 0, .null), []),
  (49, (.aload_n 0, 50, 0, 0, 0, .null), []),
  (50, (.getfield 18, 53, 0, 2, 0, .null), [211]),
  (53, (.iload_n 3, 54, 3, 0, 0, .null), []),
  (54, (.iaload, 55, 0, 0, 0, .null), []),
  (55, (.ior, 56, 0, 0, 0, .null), []),
  (56, (.istore_n 2, 57, 2, 0, 0, .null), []),
  (57, (.iinc 3 1, 60, 3, 0, 0, .int 1), []),
  (60, (.goto (-44), 63, 16, 0, 0, .null), []),
  (63, (.aload_n 0, 64, 0, 0, 0, .null), []),
  (64, (.getfield 15, 67, 0, 1, 0, .null), [210]),
  (67, (.iload_n 1, 68, 1, 0, 0, .null), []),
  (68, (.iload_n 2, 69, 2, 0, 0, .null), []),
  (69, (.iastore, 70, 0, 0, 0, .null), []),
  (70, (.iinc 1 1, 73, 1, 0, 0, .int 1), []),
  (73, (.goto (-71), 76, 2, 0, 0, .null), []),
  (76, (.return_, 77, 0, 0, 0, .null), [])]
def rx_tb_9 : List (Nat × rx_I × List Nat) := rx_tb_9_0
def rx_tb_10_0 : List (Nat × rx_I × List Nat) := [(0, (.iconst 0, 1, 0, 0, 0, .int 0), []),
  (1, (.istore_n 1, 2, 1, 0, 0, .null), []),
  (2, (.iconst 0, 3, 0, 0, 0, .int 0), []),
  (3, (.istore_n 2, 4, 2, 0, 0, .null), []),
  (4, (.iload_n 2, 5, 2, 0, 0, .null), []),
  (5, (.aload_n 0, 6, 0, 0, 0, .null), []),
  (6, (.getfield 24, 9, 0, 4, 0, .null), [213]),
  (9, (.if_icmp .ge 63, 12, 72, 0, 0, .null), []),
  (12, (.iconst 0, 13, 0, 0, 0, .int 0), []),
  (13, (.istore_n 3, 14, 3, 0, 0, .null), []),
  (14, (.iload_n 3, 15, 3, 0, 0, .null), []),
  (15, (.aload_n 0, 16, 0, 0, 0, .null), []),
  (16, (.getfield 24, 19, 0, 4, 0, .null), [213]),
  (19, (.if_icmp .ge 47, 22, 66, 0, 0, .null), []),
  (22, (.aload_n 0, 23, 0, 0, 0, .null), []),
  (23, (.getfield 18, 26, 0, 2, 0, .null), [211]),
  (26, (.iload_n 2, 27, 2, 0, 0, .null), []),
  (27, (.iaload, 28, 0, 0, 0, .null), []),
  (28, (.iload_n 3, 29, 3, 0, 0, .null), []),
  (29, (.invokestatic 38, 32, 103, 2, 1, .null), [378, 72]),
  (32, (.ifCond .eq 28, 35, 60, 0, 0, .null), []),
  (35, (.aload_n 0, 36, 0, 0, 0, .null), []),
  (36, (.iload_n 2, 37, 2, 0, 0, .null), []),
  (37, (.iload_n 3, 38, 3, 0, 0, .null), []),
  (38, (.invokevirtual 81, 41, 11, 3, 0, .null), [478, 480, 13, 77]),
  (41, (.ifCond .ne 19, 44, 60, 0, 0, .null), []),
  (44, (.aload_n 0, 45, 0, 0, 0, .null), []),
  (45, (.getfield 18, 48, 0, 2, 0, .null), [211]),
  (48, (.iload_n 2, 49, 2, 0, 0, .null), []),
  (49, (.dup2, 50, 0, 0, 0, .null), []),
  (50, (.iaload, 51, 0, 0, 0, .null), []),
  (51, (.iconst 1, 52, 0, 0, 0, .int 1), []),
  (52, (.iload_n 3, 53, 3, 0, 0, .null), []),
  (53, (.ishl, 54, 0, 0, 0, .null), []),
  (54, (.iconst (-1), 55, 0, 0, 0, .int (-1)), []),
  (55, (.ixor, 56, 0, 0, 0, .null), []),
  (56, (.iand, 57, 0, 0, 0, .null), []),
  (57, (.iastore, 58, 0, 0, 0, .null), []),
  (58, (.iconst 1, 59, 0, 0, 0, .int 1), []),
  (59, (.istore_n 1, 60, 1, 0, 0, .null), []),
  (60, (.iinc 3 1, 63, 3, 0, 0, .int 1), []),
  (63, (.goto (-49), 66, 14, 0, 0, .null), []),
  (66, (.iinc 2 1, 69, 2, 0, 0, .int 1), []),
  (69, (.goto (-65), 72, 4, 0, 0, .null), []),
  (72, (.iload_n 1, 73, 1, 0, 0, .null), []),
  (73, (.ireturn, 74, 0, 0, 1, .null), [])]
def rx_tb_10 : List (Nat × rx_I × List Nat) := rx_tb_10_0
def rx_tb_11_0 : List (Nat × rx_I × List Nat) := [(0, (.iconst 0, 1, 0, 0, 0, .int 0), []),
  (1, (.istore_n 3, 2, 3, 0, 0, .null), []),
  (2, (.iload_n 3, 3, 3, 0, 0, .null), []),
  (3, (.iconst 5, 4, 0, 0, 0, .int 5), []),
  (4, (.if_icmp .ge 34, 7, 38, 0, 0, .null), []),
  (7, (.aload_n 0, 8, 0, 0, 0, .null), []),
  (8, (.getfield 15, 11, 0, 1, 0, .null), [210]),
  (11, (.iload_n 1, 12, 1, 0, 0, .null), []),
  (12, (.iconst 5, 13, 0, 0, 0, .int 5), []),
  (13, (.imul, 14, 0, 0, 0, .null), []),
  (14, (.iload_n 3, 15, 3, 0, 0, .null), []),
  (15, (.iadd, 16, 0, 0, 0, .null), []),
  (16, (.iaload, 17, 0, 0, 0, .null), []),
  (17, (.aload_n 0, 18, 0, 0, 0, .null), []),
  (18, (.getfield 15, 21, 0, 1, 0, .null), [210]),
  (21, (.iload_n 2, 22, 2, 0, 0, .null), []),
  (22, (.iconst 5, 23, 0, 0, 0, .int 5), []),
  (23, (.imul, 24, 0, 0, 0, .null), []),
  (24, (.iload_n 3, 25, 3, 0, 0, .null), []),
  (25, (.iadd, 26, 0, 0, 0, .null), []),
  (26, (.iaload, 27, 0, 0, 0, .null), []),
  (27, (.if_icmp .eq 5, 30, 32, 0, 0, .null), []),
  (30, (.iconst 0, 31, 0, 0, 0, .int 0), []),
  (31, (.ireturn, 32, 0, 0, 1, .null), []),
  (32, (.iinc 3 1, 35, 3, 0, 0, .int 1), []),
  (35, (.goto (-33), 38, 2, 0, 0, .null), []),
  (38, (.iconst 1, 39, 0, 0, 0, .int 1), []),
  (39, (.ireturn, 40, 0, 0, 1, .null), [])]
def rx_tb_11 : List (Nat × rx_I × List Nat) := rx_tb_11_0
def rx_tb_12_0 : List (Nat × rx_I × List Nat) := [(0, (.aload_n 0, 1, 0, 0, 0, .null), []),
  (1, (.invokespecial 3, 4, 0, 0, 8, .null), [252, 91]),
  (4, (.aload_n 0, 5, 0, 0, 0, .null), []),
  (5, (.iconst 0, 6, 0, 0, 0, .int 0), []),
  (6, (.putfield 9, 9, 1, 0, 1, .null), [253]),
  (9, (.aload_n 0, 10, 0, 0, 0, .null), []),
  (10, (.iconst 0, 11, 0, 0, 0, .int 0), []),
  (11, (.putfield 15, 14, 1, 1, 0, .null), [255]),
  (14, (.aload_n 0, 15, 0, 0, 0, .null), []),
  (15, (.iconst 0, 16, 0, 0, 0, .int 0), []),
  (16, (.putfield 19, 19, 1, 2, 0, .null), [257]),
  (19, (.aload_n 0, 20, 0, 0, 0, .null), []),
  (20, (.iconst 1, 21, 0, 0, 0, .int 1), []),
  (21, (.putfield 22, 24, 1, 3, 0, .null), [259]),
  (24, (.aload_n 0, 25, 0, 0, 0, .null), []),
  (25, (.bipush 8, 27, 0, 0, 0, .int 8), []),
  (27, (.newarray .int, 29, 0, 0, 0, .null), [127]),
  (29, (.putfield 25, 32, 1, 4, 2, .null), [260]),
  (32, (.aload_n 0, 33, 0, 0, 0, .null), []),
  (33, (.bipush 8, 35, 0, 0, 0, .int 8), []),
  (35, (.newarray .int, 37, 0, 0, 0, .null), [127]),
  (37, (.putfield 29, 40, 1, 5, 2, .null), [261]),
  (40, (.aload_n 0, 41, 0, 0, 0, .null), []),
  (41, (.sipush 256, 44, 0, 0, 0, .int 256), []),
  (44, (.newarray .int, 46, 0, 0, 0, .null), [127]),
  (46, (.putfield 32, 49, 1, 6, 2, .null), [262]),
  (49, (.aload_n 0, 50, 0, 0, 0, .null), []),
  (50, (.sipush 256, 53, 0, 0, 0, .int 256), []),
  (53, (.newarray .int, 55, 0, 0, 0, .null), [127]),
  (55, (.putfield 35, 58, 1, 7, 2, .null), [263]),
  (58, (.aload_n 0, 59, 0, 0, 0, .null), []),
  (59, (.sipush 256, 62, 0, 0, 0, .int 256), []),
  (62, (.newarray .int, 64, 0, 0, 0, .null), [127]),
  (64, (.putfield 38, 67, 1, 8, 2, .null), [264]),
  (67, (.return_, 68, 0, 0, 0, .null), [])]
def rx_tb_12 : List (Nat × rx_I × List Nat) := rx_tb_12_0
def rx_tb_13_0 : List (Nat × rx_I × List Nat) := [(0, (.aload_n 0, 1, 0, 0, 0, .null), []),
  (1, (.aload_n 1, 2, 1, 0, 0, .null), []),
  (2, (.getfield 41, 5, 4, 0, 0, .null), [110]),
  (5, (.putfield 22, 8, 1, 3, 0, .null), [259]),
  (8, (.aload_n 0, 9, 0, 0, 0, .null), []),
  (9, (.iconst 0, 10, 0, 0, 0, .int 0), []),
  (10, (.putfield 15, 13, 1, 1, 0, .null), [255]),
  (13, (.iconst 0, 14, 0, 0, 0, .int 0), []),
  (14, (.istore_n 2, 15, 2, 0, 0, .null), []),
  (15, (.iload_n 2, 16, 2, 0, 0, .null), []),
  (16, (.aload_n 0, 17, 0, 0, 0, .null), []),
  (17, (.getfield 22, 20, 1, 3, 0, .null), [259]),
  (20, (.if_icmp .ge 41, 23, 61, 0, 0, .null), []),
  (23, (.aload_n 0, 24, 0, 0, 0, .null), []),
  (24, (.getfield 25, 27, 1, 4, 0, .null), [260]),
  (27, (.iload_n 2, 28, 2, 0, 0, .null), []),
  (28, (.aload_n 1, 29, 1, 0, 0, .null), []),
  (29, (.iload_n 2, 30, 2, 0, 0, .null), []),
  (30, (.invokevirtual 44, 33, 45, 2, 0, .null), [533, 522, 523, 74]),
  (33, (.iastore, 34, 0, 0, 0, .null), []),
  (34, (.aload_n 1, 35, 1, 0, 0, .null), []),
  (35, (.iload_n 2, 36, 2, 0, 0, .null), []),
  (36, (.iconst 4, 37, 0, 0, 0, .int 4), []),
  (37, (.invokevirtual 47, 40, 38, 3, 0, .null), [534, 374, 375, 74]),
  (40, (.ifCond .ne 15, 43, 55, 0, 0, .null), []),
  (43, (.aload_n 0, 44, 0, 0, 0, .null), []),
  (44, (.dup, 45, 0, 0, 0, .null), []),
  (45, (.getfield 15, 48, 1, 1, 0, .null), [255]),
  (48, (.iconst 1, 49, 0, 0, 0, .int 1), []),
  (49, (.iload_n 2, 50, 2, 0, 0, .null), []),
  (50, (.ishl, 51, 0, 0, 0, .null), []),
  (51, (.ior, 52, 0, 0, 0, .null), []),
  (52, (.putfield 15, 55, 1, 1, 0, .null), [255]),
  (55, (.iinc 2 1, 58, 2, 0, 0, .int 1), []),
  (58, (.goto (-43), 61, 15, 0, 0, .null), []),
  (61, (.aload_n 0, 62, 0, 0, 0, .null), []),
  (62, (.aload_n 1, 63, 1, 0, 0, .null), []),
  (63, (.invokevirtual 51, 66, 20, 2, 0, .null), [535, 537, 19, 79]),
  (66, (.aload_n 0, 67, 0, 0, 0, .null), []),
  (67, (.aload_n 1, 68, 1, 0, 0, .null), []),
  (68, (.invokevirtual 55, 71, 21, 2, 0, .null), [539, 541, 20, 79]),
  (71, (.aload_n 0, 72, 0, 0, 0, .null), []),
  (72, (.aload_n 1, 73, 1, 0, 0, .null), []),
  (73, (.invokevirtual 58, 76, 22, 2, 0, .null), [544, 546, 21, 79]),
  (76, (.aload_n 0, 77, 0, 0, 0, .null), []),
  (77, (.invokevirtual 61, 80, 25, 1, 0, .null), [555, 557, 23, 79]),
  (80, (.aload_n 0, 81, 0, 0, 0, .null), []),
  (81, (.iconst 1, 82, 0, 0, 0, .int 1), []),
  (82, (.putfield 9, 85, 1, 0, 1, .null), [253]),
  (85, (.return_, 86, 0, 0, 0, .null), [])]
def rx_tb_13 : List (Nat × rx_I × List Nat) := rx_tb_13_0
def rx_tb_14_0 : List (Nat × rx_I × List Nat) := [(0, (.aload_n 0, 1, 0, 0, 0, .null), []),
  (1, (.getfield 29, 4, 1, 5, 0, .null), [261]),
  (4, (.iconst 0, 5, 0, 0, 0, .int 0), []),
  (5, (.iaload, 6, 0, 0, 0, .null), []),
  (6, (.ireturn, 7, 0, 0, 0, .null), [])]
def rx_tb_14 : List (Nat × rx_I × List Nat) := rx_tb_14_0
def rx_tb_15_0 : List (Nat × rx_I × List Nat) := [(0, (.aload_n 0, 1, 0, 0, 0, .null), []),
  (1, (.getfield 32, 4, 1, 6, 0, .null), [262]),
  (4, (.iload_n 1, 5, 1, 0, 0, .null), []),
  (5, (.iaload, 6, 0, 0, 0, .null), []),
  (6, (.iload_n 2, 7, 2, 0, 0, .null), []),
  (7, (.bipush 8, 9, 0, 0, 0, .int 8), []),
  (9, (.imul, 10, 0, 0, 0, .null), []),
  (10, (.ishr, 11, 0, 0, 0, .null), []),
  (11, (.sipush 255, 14, 0, 0, 0, .int 255), []),
  (14, (.iand, 15, 0, 0, 0, .null), []),
  (15, (.ireturn, 16, 0, 0, 0, .null), [])]
def rx_tb_15 : List (Nat × rx_I × List Nat) := rx_tb_15_0
def rx_tb_16_0 : List (Nat × rx_I × List Nat) := [(0, (.aload_n 0, 1, 0, 0, 0, .null), []),
  (1, (.getfield 35, 4, 1, 7, 0, .null), [263]),
  (4, (.iload_n 1, 5, 1, 0, 0, .null), []),
  (5, (.iaload, 6, 0, 0, 0, .null), []),
  (6, (.aload_n 2, 7, 2, 0, 0, .null), []),
  (7, (.getfield 38, 10, 1, 8, 0, .null), [264]),
  (10, (.iload_n 3, 11, 3, 0, 0, .null), []),
  (11, (.iaload, 12, 0, 0, 0, .null), []),
  (12, (.iconst (-1), 13, 0, 0, 0, .int (-1)), []),
  (13, (.ixor, 14, 0, 0, 0, .null), []),
  (14, (.iand, 15, 0, 0, 0, .null), []),
  (15, (.ifCond .ne 7, 18, 22, 0, 0, .null), []),
  (18, (.iconst 1, 19, 0, 0, 0, .int 1), []),
  (19, (.goto 4, 22, 23, 0, 0, .null), []),
  (22, (.iconst 0, 23, 0, 0, 0, .int 0), []),
  (23, (.ireturn, 24, 0, 0, 1, .null), [])]
def rx_tb_16 : List (Nat × rx_I × List Nat) := rx_tb_16_0
def rx_tb_17_0 : List (Nat × rx_I × List Nat) := [(0, (.iload_n 1, 1, 1, 0, 0, .null), []),
  (1, (.aload_n 0, 2, 0, 0, 0, .null), []),
  (2, (.getfield 19, 5, 1, 2, 0, .null), [257]),
  (5, (.iand, 6, 0, 0, 0, .null), []),
  (6, (.ifCond .eq 7, 9, 13, 0, 0, .null), []),
  (9, (.iconst 1, 10, 0, 0, 0, .int 1), []),
  (10, (.goto 4, 13, 14, 0, 0, .null), []),
  (13, (.iconst 0, 14, 0, 0, 0, .int 0), []),
  (14, (.ireturn, 15, 0, 0, 1, .null), [])]
def rx_tb_17 : List (Nat × rx_I × List Nat) := rx_tb_17_0
def rx_tb_18_0 : List (Nat × rx_I × List Nat) := [(0, (.iconst 0, 1, 0, 0, 0, .int 0), []),
  (1, (.istore_n 2, 2, 2, 0, 0, .null), []),
  (2, (.iconst 0, 3, 0, 0, 0, .int 0), []),
  (3, (.istore_n 3, 4, 3, 0, 0, .null), []),
  (4, (.iload_n 3, 5, 3, 0, 0, .null), []),
  (5, (.aload_n 0, 6, 0, 0, 0, .null), []),
  (6, (.getfield 22, 9, 1, 3, 0, .null), [259]),
  (9, (.if_icmp .ge 26, 12, 35, 0, 0, .null), []),
  (12, (.iload_n 1, 13, 1, 0, 0, .null), []),
  (13, (.iload_n 3, 14, 3, 0, 0, .null), []),
  (14, (.invokestatic 64, 17, 103, 2, 1, .null), [378, 72]),
  (17, (.ifCond .eq 12, 20, 29, 0, 0, .null), []),
  (20, (.iload_n 2, 21, 2, 0, 0, .null), []),
  (21, (.aload_n 0, 22, 0, 0, 0, .null), []),
  (22, (.getfield 25, 25, 1, 4, 0, .null), [260]),
  (25, (.iload_n 3, 26, 3, 0, 0, .null), []),
  (26, (.iaload, 27, 0, 0, 0, .null), []),
  (27, (.ior, 28, 0, 0, 0, .null), []),
  (28, (.istore_n 2, 29, 2, 0, 0, .null), []),
  (29, (.iinc 3 1, 32, 3, 0, 0, .int 1), []),
  (32, (.goto (-28), 35, 4, 0, 0, .null), []),
  (35, (.iload_n 2, 36, 2, 0, 0, .null), []),
  (36, (.ireturn, 37, 0, 0, 0, .null), [])]
def rx_tb_18 : List (Nat × rx_I × List Nat) := rx_tb_18_0
def rx_tb_19_0 : List (Nat × rx_I × List Nat) := [(0, (.iconst (-1), 1, 0, 0, 0, .int (-1)), []),
  (1, (.istore_n 2, 2, 2, 0, 0, .null), []),
  (2, (.iconst 0, 3, 0, 0, 0, .int 0), []),
  (3, (.istore_n 3, 4, 3, 0, 0, .null), []),
  (4, (.iload_n 3, 5, 3, 0, 0, .null), []),
  (5, (.aload_n 0, 6, 0, 0, 0, .null), []),
  (6, (.getfield 22, 9, 1, 3, 0, .null), [259]),
  (9, (.if_icmp .ge 47, 12, 56, 0, 0, .null), []),
  (12, (.aload_n 0, 13, 0, 0, 0, .null), []),
  (13, (.getfield 25, 16, 1, 4, 0, .null), [260]),
  (16, (.iload_n 3, 17, 3, 0, 0, .null), []),
  (17, (.iaload, 18, 0, 0, 0, .null), []),
  (18, (.invokestatic 68, 21, 168, 1, 0, .null), [642, 389, 84]),
  (21, (.istore 4, 23, 4, 0, 0, .null), []),
  (23, (.iload_n 1, 24, 1, 0, 0, .null), []),
  (24, (.aload_n 0, 25, 0, 0, 0, .null), []),
  (25, (.getfield 15, 28, 1, 1, 0, .null), [255]),
  (28, (.iand, 29, 0, 0, 0, .null), []),
  (29, (.iload_n 3, 30, 3, 0, 0, .null), []),
  (30, (.invokestatic 64, 33, 103, 2, 1, .null), [378, 72]),
  (33, (.ifCond .eq 17, 36, 50, 0, 0, .null), []),
  (36, (.iload_n 2, 37, 2, 0, 0, .null), []),
  (37, (.iconst (-1), 38, 0, 0, 0, .int (-1)), []),
  (38, (.if_icmp .eq 9, 41, 47, 0, 0, .null), []),
  (41, (.iload 4, 43, 4, 0, 0, .null), []),
  (43, (.iload_n 2, 44, 2, 0, 0, .null), []),
  (44, (.if_icmp .ge 6, 47, 50, 0, 0, .null), []),
  (47, (.iload 4, 49, 4, 0, 0, .null), []),
  (49, (.istore_n 2, 50, 2, 0, 0, .null), []),
  (50, (.iinc 3 1, 53, 3, 0, 0, .int 1), []),
  (53, (.goto (-49), 56, 4, 0, 0, .null), []),
  (56, (.iload_n 2, 57, 2, 0, 0, .null), []),
  (57, (.ireturn, 58, 0, 0, 0, .null), [])]
def rx_tb_19 : List (Nat × rx_I × List Nat) := rx_tb_19_0
def rx_tb_20_0 : List (Nat × rx_I × List Nat) := [(0, (.iconst 1, 1, 0, 0, 0, .int 1), []),
  (1, (.aload_n 0, 2, 0, 0, 0, .null), []),
  (2, (.getfield 22, 5, 1, 3, 0, .null), [259]),
  (5, (.ishl, 6, 0, 0, 0, .null), []),
  (6, (.iconst 1, 7, 0, 0, 0, .int 1), []),
  (7, (.isub, 8, 0, 0, 0, .null), []),
  (8, (.istore_n 2, 9, 2, 0, 0, .null), []),
  (9, (.iconst 0, 10, 0, 0, 0, .int 0), []),
  (10, (.istore_n 3, 11, 3, 0, 0, .null), []),
  (11, (.iload_n 3, 12, 3, 0, 0, .null), []),
  (12, (.aload_n 0, 13, 0, 0, 0, .null), []),
  (13, (.getfield 22, 16, 1, 3, 0, .null), [259]),
  (16, (.if_icmp .ge 48, 19, 64, 0, 0, .null), []),
  (19, (.iconst 0, 20, 0, 0, 0, .int 0), []),
  (20, (.istore 4, 22, 4, 0, 0, .null), []),
  (22, (.iload 4, 24, 4, 0, 0, .null), []),
  (24, (.aload_n 0, 25, 0, 0, 0, .null), []),
  (25, (.getfield 22, 28, 1, 3, 0, .null), [259]),
  (28, (.if_icmp .ge 30, 31, 58, 0, 0, .null), []),
  (31, (.aload_n 1, 32, 1, 0, 0, .null), []),
  (32, (.iload 4, 34, 4, 0, 0, .null), []),
  (34, (.iconst 4, 35, 0, 0, 0, .int 4), []),
  (35, (.invokevirtual 47, 38, 38, 3, 0, .null), [534, 374, 375, 74]),
  (38, (.iload_n 2, 39, 2, 0, 0, .null), []),
  (39, (.iand, 40, 0, 0, 0, .null), []),
  (40, (.ifCond .ne 12, 43, 52, 0, 0, .null), []),
  (43, (.iload_n 2, 44, 2, 0, 0, .null), []),
  (44, (.iconst 1, 45, 0, 0, 0, .int 1), []),
  (45, (.iload 4, 47, 4, 0, 0, .null), []),
  (47, (.ishl, 48, 0, 0, 0, .null), []),
  (48, (.iconst (-1), 49, 0, 0, 0, .int (-1)), []),
  (49, (.ixor, 50, 0, 0, 0, .null), []),
  (50, (.iand, 51, 0, 0, 0, .null), []),
  (51, (.istore_n 2, 52, 2, 0, 0, .null), []),
  (52, (.iinc 4 1, 55, 4, 0, 0, .int 1), []),
  (55, (.goto (-33), 58, 22, 0, 0, .null), []),
  (58, (.iinc 3 1, 61, 3, 0, 0, .int 1), []),
  (61, (.goto (-50), 64, 11, 0, 0, .null), []),
  (64, (.aload_n 0, 65, 0, 0, 0, .null), []),
  (65, (.iload_n 2, 66, 2, 0, 0, .null), []),
  (66, (.putfield 19, 69, 1, 2, 0, .null), [257]),
  (69, (.return_, 70, 0, 0, 0, .null), [])]
def rx_tb_20 : List (Nat × rx_I × List Nat) := rx_tb_20_0
def rx_tb_21_0 : List (Nat × rx_I × List Nat) := [(0, (.iconst 0, 1, 0, 0, 0, .int 0), []),
  (1, (.istore_n 2, 2, 2, 0, 0, .null), []),
  (2, (.iload_n 2, 3, 2, 0, 0, .null), []),
  (3, (.aload_n 0, 4, 0, 0, 0, .null), []),
  (4, (.getfield 22, 7, 1, 3, 0, .null), [259]),
  (7, (.if_icmp .ge 25, 10, 32, 0, 0, .null), []),
  (10, (.aload_n 0, 11, 0, 0, 0, .null), []),
  (11, (.getfield 29, 14, 1, 5, 0, .null), [261]),
  (14, (.iload_n 2, 15, 2, 0, 0, .null), []),
  (15, (.iconst 1, 16, 0, 0, 0, .int 1), []),
  (16, (.iload_n 2, 17, 2, 0, 0, .null), []),
  (17, (.ishl, 18, 0, 0, 0, .null), []),
  (18, (.aload_n 1, 19, 1, 0, 0, .null), []),
  (19, (.iload_n 2, 20, 2, 0, 0, .null), []),
  (20, (.iconst 4, 21, 0, 0, 0, .int 4), []),
  (21, (.invokevirtual 47, 24, 38, 3, 0, .null), [534, 374, 375, 74]),
  (24, (.ior, 25, 0, 0, 0, .null), []),
  (25, (.iastore, 26, 0, 0, 0, .null), []),
  (26, (.iinc 2 1, 29, 2, 0, 0, .int 1), []),
  (29, (.goto (-27), 32, 2, 0, 0, .null), []),
  (32, (.iconst 0, 33, 0, 0, 0, .int 0), []),
  (33, (.istore_n 2, 34, 2, 0, 0, .null), []),
  (34, (.iload_n 2, 35, 2, 0, 0, .null), []),
  (35, (.aload_n 0, 36, 0, 0, 0, .null), []),
  (36, (.getfield 22, 39, 1, 3, 0, .null), [259]),
  (39, (.if_icmp .ge 53, 42, 92, 0, 0, .null), []),
  (42, (.iconst 0, 43, 0, 0, 0, .int 0), []),
  (43, (.istore_n 3, 44, 3, 0, 0, .null), []),
  (44, (.iload_n 3, 45, 3, 0, 0, .null), []),
  (45, (.aload_n 0, 46, 0, 0, 0, .null), []),
  (46, (.getfield 22, 49, 1, 3, 0, .null), [259]),
  (49, (.if_icmp .ge 37, 52, 86, 0, 0, .null), []),
  (52, (.aload_n 0, 53, 0, 0, 0, .null), []),
  (53, (.getfield 29, 56, 1, 5, 0, .null), [261]),
  (56, (.iload_n 3, 57, 3, 0, 0, .null), []),
  (57, (.iaload, 58, 0, 0, 0, .null), []),
  (58, (.iload_n 2, 59, 2, 0, 0, .null), []),
  (59, (.invokestatic 64, 62, 103, 2, 1, .null), [378, 72]),
  (62, (.ifCond .eq 18, 65, 80, 0, 0, .null), []),
  (65, (.aload_n 0, 66, 0, 0, 0, .null), []),
  (66, (.getfield 29, 69, 1, 5, 0, .null), [261]),
  (69, (.iload_n 3, 70, 3, 0, 0, .null), []),
  (70, (.dup2, 71, 0, 0, 0, .null), []),
  (71, (.iaload, 72, 0, 0, 0, .null), []),
  (72, (.aload_n 0, 73, 0, 0, 0, .null), []),
  (73, (.getfield 29, 76, 1, 5, 0, .null), [261]),
  (76, (.iload_n 2, 77, 2, 0, 0, .null), []),
  (77, (.iaload, 78, 0, 0, 0, .null), []),
  (78, (.ior, 79, 0, 0, 0, .null), []),
  (79, (.iastore, 80, 0, 0, 0, .null), [])]
def rx_tb_21_1 : List (Nat × rx_I × List Nat) := [(80, (.iinc 3 1, 83, 3, 0, 0, .int 1), []),
  (83, (.goto (-39), 86, 44, 0, 0, .null), []),
  (86, (.iinc 2 1, 89, 2, 0, 0, .int 1), []),
  (89, (.goto (-55), 92, 34, 0, 0, .null), []),
  (92, (.return_, 93, 0, 0, 0, .null), [])]
def rx_tb_21 : List (Nat × rx_I × List Nat) := rx_tb_21_0 ++ rx_tb_21_1
def rx_tb_22_0 : List (Nat × rx_I × List Nat) := [(0, (.iconst 0, 1, 0, 0, 0, .int 0), []),
  (1, (.istore_n 2, 2, 2, 0, 0, .null), []),
  (2, (.iload_n 2, 3, 2, 0, 0, .null), []),
  (3, (.aload_n 0, 4, 0, 0, 0, .null), []),
  (4, (.getfield 22, 7, 1, 3, 0, .null), [259]),
  (7, (.if_icmp .ge 120, 10, 127, 0, 0, .null), []),
  (10, (.iconst 1, 11, 0, 0, 0, .int 1), []),
  (11, (.iload_n 2, 12, 2, 0, 0, .null), []),
  (12, (.ishl, 13, 0, 0, 0, .null), []),
  (13, (.istore_n 3, 14, 3, 0, 0, .null), []),
  (14, (.aload_n 0, 15, 0, 0, 0, .null), []),
  (15, (.getfield 32, 18, 1, 6, 0, .null), [262]),
  (18, (.iload_n 3, 19, 3, 0, 0, .null), []),
  (19, (.iconst 0, 20, 0, 0, 0, .int 0), []),
  (20, (.iastore, 21, 0, 0, 0, .null), []),
  (21, (.iconst 0, 22, 0, 0, 0, .int 0), []),
  (22, (.istore 4, 24, 4, 0, 0, .null), []),
  (24, (.iload 4, 26, 4, 0, 0, .null), []),
  (26, (.iconst 4, 27, 0, 0, 0, .int 4), []),
  (27, (.if_icmp .ge 35, 30, 62, 0, 0, .null), []),
  (30, (.aload_n 0, 31, 0, 0, 0, .null), []),
  (31, (.getfield 32, 34, 1, 6, 0, .null), [262]),
  (34, (.iload_n 3, 35, 3, 0, 0, .null), []),
  (35, (.dup2, 36, 0, 0, 0, .null), []),
  (36, (.iaload, 37, 0, 0, 0, .null), []),
  (37, (.aload_n 0, 38, 0, 0, 0, .null), []),
  (38, (.aload_n 1, 39, 1, 0, 0, .null), []),
  (39, (.iload_n 2, 40, 2, 0, 0, .null), []),
  (40, (.iload 4, 42, 4, 0, 0, .null), []),
  (42, (.invokevirtual 47, 45, 38, 3, 0, .null), [534, 374, 375, 74]),
  (45, (.invokevirtual 73, 48, 23, 2, 0, .null), [548, 550, 22, 79]),
  (48, (.iload 4, 50, 4, 0, 0, .null), []),
  (50, (.bipush 8, 52, 0, 0, 0, .int 8), []),
  (52, (.imul, 53, 0, 0, 0, .null), []),
  (53, (.ishl, 54, 0, 0, 0, .null), []),
  (54, (.ior, 55, 0, 0, 0, .null), []),
  (55, (.iastore, 56, 0, 0, 0, .null), []),
  (56, (.iinc 4 1, 59, 4, 0, 0, .int 1), []),
  (59, (.goto (-35), 62, 24, 0, 0, .null), []),
  (62, (.aload_n 0, 63, 0, 0, 0, .null), []),
  (63, (.getfield 35, 66, 1, 7, 0, .null), [263]),
  (66, (.iload_n 3, 67, 3, 0, 0, .null), []),
  (67, (.aload_n 0, 68, 0, 0, 0, .null), []),
  (68, (.getfield 15, 71, 1, 1, 0, .null), [255]),
  (71, (.iload_n 2, 72, 2, 0, 0, .null), []),
  (72, (.invokestatic 64, 75, 103, 2, 1, .null), [378, 72]),
  (75, (.ifCond .eq 14, 78, 89, 0, 0, .null), []),
  (78, (.iconst 1, 79, 0, 0, 0, .int 1), []),
  (79, (.aload_n 0, 80, 0, 0, 0, .null), []),
  (80, (.getfield 25, 83, 1, 4, 0, .null), [260])]
def rx_tb_22_1 : List (Nat × rx_I × List Nat) := [(83, (.iload_n 2, 84, 2, 0, 0, .null), []),
  (84, (.iaload, 85, 0, 0, 0, .null), []),
  (85, (.ishl, 86, 0, 0, 0, .null), []),
  (86, (.goto 4, 89, 90, 0, 0, .null), []),
  (89, (.iconst 0, 90, 0, 0, 0, .int 0), []),
  (90, (.iastore, 91, 0, 0, 0, .null), []),
  (91, (.aload_n 0, 92, 0, 0, 0, .null), []),
  (92, (.getfield 38, 95, 1, 8, 0, .null), [264]),
  (95, (.iload_n 3, 96, 3, 0, 0, .null), []),
  (96, (.aload_n 0, 97, 0, 0, 0, .null), []),
  (97, (.getfield 15, 100, 1, 1, 0, .null), [255]),
  (100, (.iload_n 2, 101, 2, 0, 0, .null), []),
  (101, (.invokestatic 64, 104, 103, 2, 1, .null), [378, 72]),
  (104, (.ifCond .eq 15, 107, 119, 0, 0, .null), []),
  (107, (.aload_n 0, 108, 0, 0, 0, .null), []),
  (108, (.getfield 25, 111, 1, 4, 0, .null), [260]),
  (111, (.iload_n 2, 112, 2, 0, 0, .null), []),
  (112, (.iaload, 113, 0, 0, 0, .null), []),
  (113, (.invokestatic 76, 116, 24, 1, 0, .null), [552, 553, 79]),
  (116, (.goto 4, 119, 120, 0, 0, .null), []),
  (119, (.iconst 0, 120, 0, 0, 0, .int 0), []),
  (120, (.iastore, 121, 0, 0, 0, .null), []),
  (121, (.iinc 2 1, 124, 2, 0, 0, .int 1), []),
  (124, (.goto (-122), 127, 2, 0, 0, .null), []),
  (127, (.return_, 128, 0, 0, 0, .null), [])]
def rx_tb_22 : List (Nat × rx_I × List Nat) := rx_tb_22_0 ++ rx_tb_22_1
def rx_tb_23_0 : List (Nat × rx_I × List Nat) := [(0, (.iconst 0, 1, 0, 0, 0, .int 0), []),
  (1, (.istore_n 2, 2, 2, 0, 0, .null), []),
  (2, (.iconst 0, 3, 0, 0, 0, .int 0), []),
  (3, (.istore_n 3, 4, 3, 0, 0, .null), []),
  (4, (.iload_n 3, 5, 3, 0, 0, .null), []),
  (5, (.aload_n 0, 6, 0, 0, 0, .null), []),
  (6, (.getfield 22, 9, 1, 3, 0, .null), [259]),
  (9, (.if_icmp .ge 26, 12, 35, 0, 0, .null), []),
  (12, (.iload_n 1, 13, 1, 0, 0, .null), []),
  (13, (.iload_n 3, 14, 3, 0, 0, .null), []),
  (14, (.invokestatic 64, 17, 103, 2, 1, .null), [378, 72]),
  (17, (.ifCond .eq 12, 20, 29, 0, 0, .null), []),
  (20, (.iload_n 2, 21, 2, 0, 0, .null), []),
  (21, (.aload_n 0, 22, 0, 0, 0, .null), []),
  (22, (.getfield 29, 25, 1, 5, 0, .null), [261]),
  (25, (.iload_n 3, 26, 3, 0, 0, .null), []),
  (26, (.iaload, 27, 0, 0, 0, .null), []),
  (27, (.ior, 28, 0, 0, 0, .null), []),
  (28, (.istore_n 2, 29, 2, 0, 0, .null), []),
  (29, (.iinc 3 1, 32, 3, 0, 0, .int 1), []),
  (32, (.goto (-28), 35, 4, 0, 0, .null), []),
  (35, (.iload_n 2, 36, 2, 0, 0, .null), []),
  (36, (.ireturn, 37, 0, 0, 0, .null), [])]
def rx_tb_23 : List (Nat × rx_I × List Nat) := rx_tb_23_0
def rx_tb_24_0 : List (Nat × rx_I × List Nat) := [(0, (.iconst 0, 1, 0, 0, 0, .int 0), []),
  (1, (.istore_n 1, 2, 1, 0, 0, .null), []),
  (2, (.iconst 0, 3, 0, 0, 0, .int 0), []),
  (3, (.istore_n 2, 4, 2, 0, 0, .null), []),
  (4, (.iload_n 2, 5, 2, 0, 0, .null), []),
  (5, (.bipush 16, 7, 0, 0, 0, .int 16), []),
  (7, (.if_icmp .ge 22, 10, 29, 0, 0, .null), []),
  (10, (.iload_n 2, 11, 2, 0, 0, .null), []),
  (11, (.iload_n 0, 12, 0, 0, 0, .null), []),
  (12, (.iand, 13, 0, 0, 0, .null), []),
  (13, (.iload_n 0, 14, 0, 0, 0, .null), []),
  (14, (.if_icmp .ne 9, 17, 23, 0, 0, .null), []),
  (17, (.iload_n 1, 18, 1, 0, 0, .null), []),
  (18, (.iconst 1, 19, 0, 0, 0, .int 1), []),
  (19, (.iload_n 2, 20, 2, 0, 0, .null), []),
  (20, (.ishl, 21, 0, 0, 0, .null), []),
  (21, (.ior, 22, 0, 0, 0, .null), []),
  (22, (.istore_n 1, 23, 1, 0, 0, .null), []),
  (23, (.iinc 2 1, 26, 2, 0, 0, .int 1), []),
  (26, (.goto (-22), 29, 4, 0, 0, .null), []),
  (29, (.iload_n 1, 30, 1, 0, 0, .null), []),
  (30, (.ireturn, 31, 0, 0, 0, .null), [])]
def rx_tb_24 : List (Nat × rx_I × List Nat) := rx_tb_24_0
def rx_tb_25_0 : List (Nat × rx_I × List Nat) := [(0, (.iconst 1, 1, 0, 0, 0, .int 1), []),
  (1, (.istore_n 1, 2, 1, 0, 0, .null), []),
  (2, (.iload_n 1, 3, 1, 0, 0, .null), []),
  (3, (.iconst 1, 4, 0, 0, 0, .int 1), []),
  (4, (.aload_n 0, 5, 0, 0, 0, .null), []),
  (5, (.getfield 22, 8, 1, 3, 0, .null), [259]),
  (8, (.ishl, 9, 0, 0, 0, .null), []),
  (9, (.if_icmp .ge 75, 12, 84, 0, 0, .null), []),
  (12, (.iload_n 1, 13, 1, 0, 0, .null), []),
  (13, (.iload_n 1, 14, 1, 0, 0, .null), []),
  (14, (.ineg, 15, 0, 0, 0, .null), []),
  (15, (.iand, 16, 0, 0, 0, .null), []),
  (16, (.istore_n 2, 17, 2, 0, 0, .null), []),
  (17, (.iload_n 1, 18, 1, 0, 0, .null), []),
  (18, (.iload_n 2, 19, 2, 0, 0, .null), []),
  (19, (.isub, 20, 0, 0, 0, .null), []),
  (20, (.istore_n 3, 21, 3, 0, 0, .null), []),
  (21, (.aload_n 0, 22, 0, 0, 0, .null), []),
  (22, (.getfield 32, 25, 1, 6, 0, .null), [262]),
  (25, (.iload_n 1, 26, 1, 0, 0, .null), []),
  (26, (.aload_n 0, 27, 0, 0, 0, .null), []),
  (27, (.getfield 32, 30, 1, 6, 0, .null), [262]),
  (30, (.iload_n 2, 31, 2, 0, 0, .null), []),
  (31, (.iaload, 32, 0, 0, 0, .null), []),
  (32, (.aload_n 0, 33, 0, 0, 0, .null), []),
  (33, (.getfield 32, 36, 1, 6, 0, .null), [262]),
  (36, (.iload_n 3, 37, 3, 0, 0, .null), []),
  (37, (.iaload, 38, 0, 0, 0, .null), []),
  (38, (.ior, 39, 0, 0, 0, .null), []),
  (39, (.iastore, 40, 0, 0, 0, .null), []),
  (40, (.aload_n 0, 41, 0, 0, 0, .null), []),
  (41, (.getfield 35, 44, 1, 7, 0, .null), [263]),
  (44, (.iload_n 1, 45, 1, 0, 0, .null), []),
  (45, (.aload_n 0, 46, 0, 0, 0, .null), []),
  (46, (.getfield 35, 49, 1, 7, 0, .null), [263]),
  (49, (.iload_n 2, 50, 2, 0, 0, .null), []),
  (50, (.iaload, 51, 0, 0, 0, .null), []),
  (51, (.aload_n 0, 52, 0, 0, 0, .null), []),
  (52, (.getfield 35, 55, 1, 7, 0, .null), [263]),
  (55, (.iload_n 3, 56, 3, 0, 0, .null), []),
  (56, (.iaload, 57, 0, 0, 0, .null), []),
  (57, (.ior, 58, 0, 0, 0, .null), []),
  (58, (.iastore, 59, 0, 0, 0, .null), []),
  (59, (.aload_n 0, 60, 0, 0, 0, .null), []),
  (60, (.getfield 38, 63, 1, 8, 0, .null), [264]),
  (63, (.iload_n 1, 64, 1, 0, 0, .null), []),
  (64, (.aload_n 0, 65, 0, 0, 0, .null), []),
  (65, (.getfield 38, 68, 1, 8, 0, .null), [264]),
  (68, (.iload_n 2, 69, 2, 0, 0, .null), []),
  (69, (.iaload, 70, 0, 0, 0, .null), [])]
def rx_tb_25_1 : List (Nat × rx_I × List Nat) := [(70, (.aload_n 0, 71, 0, 0, 0, .null), []),
  (71, (.getfield 38, 74, 1, 8, 0, .null), [264]),
  (74, (.iload_n 3, 75, 3, 0, 0, .null), []),
  (75, (.iaload, 76, 0, 0, 0, .null), []),
  (76, (.ior, 77, 0, 0, 0, .null), []),
  (77, (.iastore, 78, 0, 0, 0, .null), []),
  (78, (.iinc 1 1, 81, 1, 0, 0, .int 1), []),
  (81, (.goto (-79), 84, 2, 0, 0, .null), []),
  (84, (.return_, 85, 0, 0, 0, .null), [])]
def rx_tb_25 : List (Nat × rx_I × List Nat) := rx_tb_25_0 ++ rx_tb_25_1
def rx_tb_26_0 : List (Nat × rx_I × List Nat) := [(0, (.aload_n 0, 1, 0, 0, 0, .null), []),
  (1, (.invokespecial 3, 4, 0, 0, 8, .null), [233, 91]),
  (4, (.aload_n 0, 5, 0, 0, 0, .null), []),
  (5, (.bipush 64, 7, 0, 0, 0, .int 64), []),
  (7, (.newarray .int, 9, 0, 0, 0, .null), [127]),
  (9, (.putfield 9, 12, 2, 0, 2, .null), [234]),
  (12, (.aload_n 0, 13, 0, 0, 0, .null), []),
  (13, (.bipush 8, 15, 0, 0, 0, .int 8), []),
  (15, (.newarray .int, 17, 0, 0, 0, .null), [127]),
  (17, (.putfield 15, 20, 2, 1, 2, .null), [235]),
  (20, (.aload_n 0, 21, 0, 0, 0, .null), []),
  (21, (.iconst 0, 22, 0, 0, 0, .int 0), []),
  (22, (.putfield 18, 25, 2, 2, 0, .null), [236]),
  (25, (.aload_n 0, 26, 0, 0, 0, .null), []),
  (26, (.iconst 1, 27, 0, 0, 0, .int 1), []),
  (27, (.putfield 22, 30, 2, 3, 1, .null), [237]),
  (30, (.return_, 31, 0, 0, 0, .null), [])]
def rx_tb_26 : List (Nat × rx_I × List Nat) := rx_tb_26_0
def rx_tb_27_0 : List (Nat × rx_I × List Nat) := [(0, (.aload_n 0, 1, 0, 0, 0, .null), []),
  (1, (.getfield 9, 4, 2, 0, 0, .null), [234]),
  (4, (.iconst (-1), 5, 0, 0, 0, .int (-1)), []),
  (5, (.invokestatic 26, 8, 169, 2, 0, .null), [429, 352, 83]),
  (8, (.aload_n 0, 9, 0, 0, 0, .null), []),
  (9, (.iconst 0, 10, 0, 0, 0, .int 0), []),
  (10, (.putfield 18, 13, 2, 2, 0, .null), [236]),
  (13, (.aload_n 0, 14, 0, 0, 0, .null), []),
  (14, (.iconst 1, 15, 0, 0, 0, .int 1), []),
  (15, (.putfield 22, 18, 2, 3, 1, .null), [237]),
  (18, (.aload 4, 20, 4, 0, 0, .null), []),
  (20, (.bipush 8, 22, 0, 0, 0, .int 8), []),
  (22, (.invokevirtual 32, 25, 36, 2, 0, .null), [430, 348, 349, 74]),
  (25, (.aload_n 0, 26, 0, 0, 0, .null), []),
  (26, (.iconst 0, 27, 0, 0, 0, .int 0), []),
  (27, (.iconst 0, 28, 0, 0, 0, .int 0), []),
  (28, (.invokevirtual 38, 31, 30, 3, 0, .null), [431, 433, 5, 78]),
  (31, (.pop, 32, 0, 0, 0, .null), []),
  (32, (.iconst 0, 33, 0, 0, 0, .int 0), []),
  (33, (.istore 5, 35, 5, 0, 0, .null), []),
  (35, (.iload 5, 37, 5, 0, 0, .null), []),
  (37, (.aload_n 0, 38, 0, 0, 0, .null), []),
  (38, (.getfield 18, 41, 2, 2, 0, .null), [236]),
  (41, (.if_icmp .ge 87, 44, 128, 0, 0, .null), []),
  (44, (.iload 5, 46, 5, 0, 0, .null), []),
  (46, (.bipush 8, 48, 0, 0, 0, .int 8), []),
  (48, (.if_icmp .ge 80, 51, 128, 0, 0, .null), []),
  (51, (.aload_n 0, 52, 0, 0, 0, .null), []),
  (52, (.getfield 22, 55, 2, 3, 0, .null), [237]),
  (55, (.ifCond .eq 73, 58, 128, 0, 0, .null), []),
  (58, (.iconst 0, 59, 0, 0, 0, .int 0), []),
  (59, (.istore 6, 61, 6, 0, 0, .null), []),
  (61, (.iload 6, 63, 6, 0, 0, .null), []),
  (63, (.iconst 5, 64, 0, 0, 0, .int 5), []),
  (64, (.if_icmp .ge 58, 67, 122, 0, 0, .null), []),
  (67, (.aload_n 0, 68, 0, 0, 0, .null), []),
  (68, (.getfield 22, 71, 2, 3, 0, .null), [237]),
  (71, (.ifCond .eq 51, 74, 122, 0, 0, .null), []),
  (74, (.iload 6, 76, 6, 0, 0, .null), []),
  (76, (.iconst 4, 77, 0, 0, 0, .int 4), []),
  (77, (.if_icmp .ge 27, 80, 104, 0, 0, .null), []),
  (80, (.iload_n 3, 81, 3, 0, 0, .null), []),
  (81, (.iload 6, 83, 6, 0, 0, .null), []),
  (83, (.invokestatic 42, 86, 103, 2, 1, .null), [378, 72]),
  (86, (.ifCond .eq 18, 89, 104, 0, 0, .null), []),
  (89, (.aload_n 0, 90, 0, 0, 0, .null), []),
  (90, (.aload_n 1, 91, 1, 0, 0, .null), []),
  (91, (.aload_n 2, 92, 2, 0, 0, .null), []),
  (92, (.iload 5, 94, 5, 0, 0, .null), []),
  (94, (.iload 6, 96, 6, 0, 0, .null), [])]
def rx_tb_27_1 : List (Nat × rx_I × List Nat) := [(96, (.aload 4, 98, 4, 0, 0, .null), []),
  (98, (.invokevirtual 46, 101, 28, 6, 0, .null), [436, 438, 6, 78]),
  (101, (.goto 15, 104, 116, 0, 0, .null), []),
  (104, (.aload_n 0, 105, 0, 0, 0, .null), []),
  (105, (.aload_n 1, 106, 1, 0, 0, .null), []),
  (106, (.aload_n 2, 107, 2, 0, 0, .null), []),
  (107, (.iload 5, 109, 5, 0, 0, .null), []),
  (109, (.iload 6, 111, 6, 0, 0, .null), []),
  (111, (.aload 4, 113, 4, 0, 0, .null), []),
  (113, (.invokevirtual 50, 116, 29, 6, 0, .null), [446, 448, 8, 78]),
  (116, (.iinc 6 1, 119, 6, 0, 0, .int 1), []),
  (119, (.goto (-58), 122, 61, 0, 0, .null), []),
  (122, (.iinc 5 1, 125, 5, 0, 0, .int 1), []),
  (125, (.goto (-90), 128, 35, 0, 0, .null), []),
  (128, (.aload 4, 130, 4, 0, 0, .null), []),
  (130, (.aload_n 0, 131, 0, 0, 0, .null), []),
  (131, (.getfield 18, 134, 2, 2, 0, .null), [236]),
  (134, (.putfield 53, 137, 4, 0, 0, .null), [112]),
  (137, (.aload_n 0, 138, 0, 0, 0, .null), []),
  (138, (.getfield 22, 141, 2, 3, 0, .null), [237]),
  (141, (.ireturn, 142, 0, 0, 1, .null), [])]
def rx_tb_27 : List (Nat × rx_I × List Nat) := rx_tb_27_0 ++ rx_tb_27_1
def rx_tb_28_0 : List (Nat × rx_I × List Nat) := [(0, (.aload_n 1, 1, 1, 0, 0, .null), []),
  (1, (.aload_n 0, 2, 0, 0, 0, .null), []),
  (2, (.getfield 15, 5, 2, 1, 0, .null), [235]),
  (5, (.iload_n 3, 6, 3, 0, 0, .null), []),
  (6, (.iaload, 7, 0, 0, 0, .null), []),
  (7, (.bipush 8, 9, 0, 0, 0, .int 8), []),
  (9, (.idiv, 10, 0, 0, 0, .null), []),
  (10, (.iload 4, 12, 4, 0, 0, .null), []),
  (12, (.invokevirtual 56, 15, 38, 3, 0, .null), [440, 374, 375, 74]),
  (15, (.istore 6, 17, 6, 0, 0, .null), []),
  (17, (.aload_n 2, 18, 2, 0, 0, .null), []),
  (18, (.aload_n 0, 19, 0, 0, 0, .null), []),
  (19, (.getfield 15, 22, 2, 1, 0, .null), [235]),
  (22, (.iload_n 3, 23, 3, 0, 0, .null), []),
  (23, (.iaload, 24, 0, 0, 0, .null), []),
  (24, (.bipush 8, 26, 0, 0, 0, .int 8), []),
  (26, (.irem, 27, 0, 0, 0, .null), []),
  (27, (.iload 4, 29, 4, 0, 0, .null), []),
  (29, (.invokevirtual 56, 32, 38, 3, 0, .null), [440, 374, 375, 74]),
  (32, (.istore 7, 34, 7, 0, 0, .null), []),
  (34, (.iconst 0, 35, 0, 0, 0, .int 0), []),
  (35, (.istore 8, 37, 8, 0, 0, .null), []),
  (37, (.iload 8, 39, 8, 0, 0, .null), []),
  (39, (.bipush 8, 41, 0, 0, 0, .int 8), []),
  (41, (.if_icmp .ge 62, 44, 103, 0, 0, .null), []),
  (44, (.iconst 0, 45, 0, 0, 0, .int 0), []),
  (45, (.istore 9, 47, 9, 0, 0, .null), []),
  (47, (.iload 9, 49, 9, 0, 0, .null), []),
  (49, (.bipush 8, 51, 0, 0, 0, .int 8), []),
  (51, (.if_icmp .ge 46, 54, 97, 0, 0, .null), []),
  (54, (.iload 6, 56, 6, 0, 0, .null), []),
  (56, (.iload 8, 58, 8, 0, 0, .null), []),
  (58, (.invokestatic 42, 61, 103, 2, 1, .null), [378, 72]),
  (61, (.ifCond .eq 30, 64, 91, 0, 0, .null), []),
  (64, (.iload 7, 66, 7, 0, 0, .null), []),
  (66, (.iload 9, 68, 9, 0, 0, .null), []),
  (68, (.invokestatic 42, 71, 103, 2, 1, .null), [378, 72]),
  (71, (.ifCond .eq 20, 74, 91, 0, 0, .null), []),
  (74, (.aload_n 0, 75, 0, 0, 0, .null), []),
  (75, (.iload_n 3, 76, 3, 0, 0, .null), []),
  (76, (.iload 4, 78, 4, 0, 0, .null), []),
  (78, (.aload_n 0, 79, 0, 0, 0, .null), []),
  (79, (.iload 8, 81, 8, 0, 0, .null), []),
  (81, (.iload 9, 83, 9, 0, 0, .null), []),
  (83, (.invokevirtual 38, 86, 30, 3, 0, .null), [431, 433, 5, 78]),
  (86, (.aload 5, 88, 5, 0, 0, .null), []),
  (88, (.invokevirtual 59, 91, 31, 5, 0, .null), [441, 443, 7, 78]),
  (91, (.iinc 9 1, 94, 9, 0, 0, .int 1), []),
  (94, (.goto (-47), 97, 47, 0, 0, .null), []),
  (97, (.iinc 8 1, 100, 8, 0, 0, .int 1), [])]
def rx_tb_28_1 : List (Nat × rx_I × List Nat) := [(100, (.goto (-63), 103, 37, 0, 0, .null), []),
  (103, (.return_, 104, 0, 0, 0, .null), [])]
def rx_tb_28 : List (Nat × rx_I × List Nat) := rx_tb_28_0 ++ rx_tb_28_1
def rx_tb_29_0 : List (Nat × rx_I × List Nat) := [(0, (.aload_n 0, 1, 0, 0, 0, .null), []),
  (1, (.getfield 15, 4, 2, 1, 0, .null), [235]),
  (4, (.iload_n 3, 5, 3, 0, 0, .null), []),
  (5, (.iaload, 6, 0, 0, 0, .null), []),
  (6, (.bipush 8, 8, 0, 0, 0, .int 8), []),
  (8, (.idiv, 9, 0, 0, 0, .null), []),
  (9, (.istore 6, 11, 6, 0, 0, .null), []),
  (11, (.aload_n 0, 12, 0, 0, 0, .null), []),
  (12, (.getfield 15, 15, 2, 1, 0, .null), [235]),
  (15, (.iload_n 3, 16, 3, 0, 0, .null), []),
  (16, (.iaload, 17, 0, 0, 0, .null), []),
  (17, (.bipush 8, 19, 0, 0, 0, .int 8), []),
  (19, (.irem, 20, 0, 0, 0, .null), []),
  (20, (.istore 7, 22, 7, 0, 0, .null), []),
  (22, (.iconst 0, 23, 0, 0, 0, .int 0), []),
  (23, (.istore 8, 25, 8, 0, 0, .null), []),
  (25, (.iload 8, 27, 8, 0, 0, .null), []),
  (27, (.bipush 8, 29, 0, 0, 0, .int 8), []),
  (29, (.if_icmp .ge 39, 32, 68, 0, 0, .null), []),
  (32, (.aload_n 1, 33, 1, 0, 0, .null), []),
  (33, (.iload 6, 35, 6, 0, 0, .null), []),
  (35, (.iload 4, 37, 4, 0, 0, .null), []),
  (37, (.iload 8, 39, 8, 0, 0, .null), []),
  (39, (.invokevirtual 63, 42, 39, 4, 0, .null), [450, 370, 371, 74]),
  (42, (.ifCond .eq 20, 45, 62, 0, 0, .null), []),
  (45, (.aload_n 0, 46, 0, 0, 0, .null), []),
  (46, (.iload_n 3, 47, 3, 0, 0, .null), []),
  (47, (.iload 4, 49, 4, 0, 0, .null), []),
  (49, (.aload_n 0, 50, 0, 0, 0, .null), []),
  (50, (.iload 8, 52, 8, 0, 0, .null), []),
  (52, (.iload 7, 54, 7, 0, 0, .null), []),
  (54, (.invokevirtual 38, 57, 30, 3, 0, .null), [431, 433, 5, 78]),
  (57, (.aload 5, 59, 5, 0, 0, .null), []),
  (59, (.invokevirtual 59, 62, 31, 5, 0, .null), [441, 443, 7, 78]),
  (62, (.iinc 8 1, 65, 8, 0, 0, .int 1), []),
  (65, (.goto (-40), 68, 25, 0, 0, .null), []),
  (68, (.iconst 0, 69, 0, 0, 0, .int 0), []),
  (69, (.istore 8, 71, 8, 0, 0, .null), []),
  (71, (.iload 8, 73, 8, 0, 0, .null), []),
  (73, (.bipush 8, 75, 0, 0, 0, .int 8), []),
  (75, (.if_icmp .ge 39, 78, 114, 0, 0, .null), []),
  (78, (.aload_n 2, 79, 2, 0, 0, .null), []),
  (79, (.iload 7, 81, 7, 0, 0, .null), []),
  (81, (.iload 4, 83, 4, 0, 0, .null), []),
  (83, (.iload 8, 85, 8, 0, 0, .null), []),
  (85, (.invokevirtual 63, 88, 39, 4, 0, .null), [450, 370, 371, 74]),
  (88, (.ifCond .eq 20, 91, 108, 0, 0, .null), []),
  (91, (.aload_n 0, 92, 0, 0, 0, .null), []),
  (92, (.iload_n 3, 93, 3, 0, 0, .null), []),
  (93, (.iload 4, 95, 4, 0, 0, .null), [])]
def rx_tb_29_1 : List (Nat × rx_I × List Nat) := [(95, (.aload_n 0, 96, 0, 0, 0, .null), []),
  (96, (.iload 6, 98, 6, 0, 0, .null), []),
  (98, (.iload 8, 100, 8, 0, 0, .null), []),
  (100, (.invokevirtual 38, 103, 30, 3, 0, .null), [431, 433, 5, 78]),
  (103, (.aload 5, 105, 5, 0, 0, .null), []),
  (105, (.invokevirtual 59, 108, 31, 5, 0, .null), [441, 443, 7, 78]),
  (108, (.iinc 8 1, 111, 8, 0, 0, .int 1), []),
  (111, (.goto (-40), 114, 71, 0, 0, .null), []),
  (114, (.return_, 115, 0, 0, 0, .null), [])]
def rx_tb_29 : List (Nat × rx_I × List Nat) := rx_tb_29_0 ++ rx_tb_29_1
def rx_tb_30_0 : List (Nat × rx_I × List Nat) := [(0, (.iload_n 1, 1, 1, 0, 0, .null), []),
  (1, (.bipush 8, 3, 0, 0, 0, .int 8), []),
  (3, (.imul, 4, 0, 0, 0, .null), []),
  (4, (.iload_n 2, 5, 2, 0, 0, .null), []),
  (5, (.iadd, 6, 0, 0, 0, .null), []),
  (6, (.istore_n 3, 7, 3, 0, 0, .null), []),
  (7, (.aload_n 0, 8, 0, 0, 0, .null), []),
  (8, (.getfield 9, 11, 2, 0, 0, .null), [234]),
  (11, (.iload_n 3, 12, 3, 0, 0, .null), []),
  (12, (.iaload, 13, 0, 0, 0, .null), []),
  (13, (.iconst (-1), 14, 0, 0, 0, .int (-1)), []),
  (14, (.if_icmp .ne 42, 17, 56, 0, 0, .null), []),
  (17, (.aload_n 0, 18, 0, 0, 0, .null), []),
  (18, (.getfield 18, 21, 2, 2, 0, .null), [236]),
  (21, (.bipush 8, 23, 0, 0, 0, .int 8), []),
  (23, (.if_icmp .ge 33, 26, 56, 0, 0, .null), []),
  (26, (.aload_n 0, 27, 0, 0, 0, .null), []),
  (27, (.getfield 9, 30, 2, 0, 0, .null), [234]),
  (30, (.iload_n 3, 31, 3, 0, 0, .null), []),
  (31, (.aload_n 0, 32, 0, 0, 0, .null), []),
  (32, (.getfield 18, 35, 2, 2, 0, .null), [236]),
  (35, (.iastore, 36, 0, 0, 0, .null), []),
  (36, (.aload_n 0, 37, 0, 0, 0, .null), []),
  (37, (.getfield 15, 40, 2, 1, 0, .null), [235]),
  (40, (.aload_n 0, 41, 0, 0, 0, .null), []),
  (41, (.getfield 18, 44, 2, 2, 0, .null), [236]),
  (44, (.iload_n 3, 45, 3, 0, 0, .null), []),
  (45, (.iastore, 46, 0, 0, 0, .null), []),
  (46, (.aload_n 0, 47, 0, 0, 0, .null), []),
  (47, (.dup, 48, 0, 0, 0, .null), []),
  (48, (.getfield 18, 51, 2, 2, 0, .null), [236]),
  (51, (.iconst 1, 52, 0, 0, 0, .int 1), []),
  (52, (.iadd, 53, 0, 0, 0, .null), []),
  (53, (.putfield 18, 56, 2, 2, 0, .null), [236]),
  (56, (.aload_n 0, 57, 0, 0, 0, .null), []),
  (57, (.getfield 9, 60, 2, 0, 0, .null), [234]),
  (60, (.iload_n 3, 61, 3, 0, 0, .null), []),
  (61, (.iaload, 62, 0, 0, 0, .null), []),
  (62, (.ireturn, 63, 0, 0, 0, .null), [])]
def rx_tb_30 : List (Nat × rx_I × List Nat) := rx_tb_30_0
def rx_tb_31_0 : List (Nat × rx_I × List Nat) := [(0, (.iload_n 3, 1, 3, 0, 0, .null), []),
  (1, (.iconst (-1), 2, 0, 0, 0, .int (-1)), []),
  (2, (.if_icmp .ne 9, 5, 11, 0, 0, .null), []),
  (5, (.aload_n 0, 6, 0, 0, 0, .null), []),
  (6, (.iconst 0, 7, 0, 0, 0, .int 0), []),
  (7, (.putfield 22, 10, 2, 3, 1, .null), [237]),
  (10, (.return_, 11, 0, 0, 0, .null), []),
  (11, (.aload 4, 13, 4, 0, 0, .null), []),
  (13, (.iload_n 1, 14, 1, 0, 0, .null), []),
  (14, (.iload_n 2, 15, 2, 0, 0, .null), []),
  (15, (.iload_n 3, 16, 3, 0, 0, .null), []),
  (16, (.invokevirtual 67, 19, 40, 4, 0, .null), [445, 381, 382, 74]),
  (19, (.aload 4, 21, 4, 0, 0, .null), []),
  (21, (.getfield 71, 24, 4, 1, 0, .null), [118]),
  (24, (.bipush 24, 26, 0, 0, 0, .int 24), []),
  (26, (.if_icmp .le 8, 29, 34, 0, 0, .null), []),
  (29, (.aload_n 0, 30, 0, 0, 0, .null), []),
  (30, (.iconst 0, 31, 0, 0, 0, .int 0), []),
  (31, (.putfield 22, 34, 2, 3, 1, .null), [237]),
  (34, (.return_, 35, 0, 0, 0, .null), [])]
def rx_tb_31 : List (Nat × rx_I × List Nat) := rx_tb_31_0
def rx_tb_32_0 : List (Nat × rx_I × List Nat) := [(0, (.aload_n 0, 1, 0, 0, 0, .null), []),
  (1, (.invokespecial 3, 4, 0, 0, 8, .null), [102, 91]),
  (4, (.aload_n 0, 5, 0, 0, 0, .null), []),
  (5, (.iconst 0, 6, 0, 0, 0, .int 0), []),
  (6, (.putfield 9, 9, 3, 0, 0, .null), [128]),
  (9, (.aload_n 0, 10, 0, 0, 0, .null), []),
  (10, (.iconst 0, 11, 0, 0, 0, .int 0), []),
  (11, (.putfield 15, 14, 3, 1, 0, .null), [130]),
  (14, (.aload_n 0, 15, 0, 0, 0, .null), []),
  (15, (.bipush 20, 17, 0, 0, 0, .int 20), []),
  (17, (.anewarray 18, 20, 2, 0, 0, .null), [103]),
  (20, (.putfield 20, 23, 3, 2, 2, .null), [131]),
  (23, (.iconst 0, 24, 0, 0, 0, .int 0), []),
  (24, (.istore_n 1, 25, 1, 0, 0, .null), []),
  (25, (.iload_n 1, 26, 1, 0, 0, .null), []),
  (26, (.bipush 20, 28, 0, 0, 0, .int 20), []),
  (28, (.if_icmp .ge 22, 31, 50, 0, 0, .null), []),
  (31, (.aload_n 0, 32, 0, 0, 0, .null), []),
  (32, (.getfield 20, 35, 3, 2, 0, .null), [131]),
  (35, (.iload_n 1, 36, 1, 0, 0, .null), []),
  (36, (.new 18, 39, 4, 3, 0, .null), [103, 104, 74]),
  (39, (.dup, 40, 0, 0, 0, .null), []),
  (40, (.invokespecial 24, 43, 35, 1, 1, .null), [106, 74]),
  (43, (.aastore, 44, 0, 0, 0, .null), []),
  (44, (.iinc 1 1, 47, 1, 0, 0, .int 1), []),
  (47, (.goto (-22), 50, 25, 0, 0, .null), []),
  (50, (.return_, 51, 0, 0, 0, .null), [])]
def rx_tb_32 : List (Nat × rx_I × List Nat) := rx_tb_32_0
def rx_tb_33_0 : List (Nat × rx_I × List Nat) := [(0, (.iconst 0, 1, 0, 0, 0, .int 0), []),
  (1, (.istore_n 2, 2, 2, 0, 0, .null), []),
  (2, (.iload_n 2, 3, 2, 0, 0, .null), []),
  (3, (.iconst 4, 4, 0, 0, 0, .int 4), []),
  (4, (.if_icmp .ge 28, 7, 32, 0, 0, .null), []),
  (7, (.aload_n 0, 8, 0, 0, 0, .null), []),
  (8, (.getfield 20, 11, 3, 2, 0, .null), [131]),
  (11, (.aload_n 0, 12, 0, 0, 0, .null), []),
  (12, (.getfield 15, 15, 3, 1, 0, .null), [130]),
  (15, (.iconst 4, 16, 0, 0, 0, .int 4), []),
  (16, (.imul, 17, 0, 0, 0, .null), []),
  (17, (.iload_n 2, 18, 2, 0, 0, .null), []),
  (18, (.iadd, 19, 0, 0, 0, .null), []),
  (19, (.aaload, 20, 0, 0, 0, .null), []),
  (20, (.aload_n 1, 21, 1, 0, 0, .null), []),
  (21, (.iload_n 2, 22, 2, 0, 0, .null), []),
  (22, (.aaload, 23, 0, 0, 0, .null), []),
  (23, (.invokevirtual 25, 26, 37, 2, 0, .null), [337, 338, 339, 74]),
  (26, (.iinc 2 1, 29, 2, 0, 0, .int 1), []),
  (29, (.goto (-27), 32, 2, 0, 0, .null), []),
  (32, (.aload_n 0, 33, 0, 0, 0, .null), []),
  (33, (.aload_n 0, 34, 0, 0, 0, .null), []),
  (34, (.getfield 15, 37, 3, 1, 0, .null), [130]),
  (37, (.iconst 1, 38, 0, 0, 0, .int 1), []),
  (38, (.iadd, 39, 0, 0, 0, .null), []),
  (39, (.iconst 5, 40, 0, 0, 0, .int 5), []),
  (40, (.irem, 41, 0, 0, 0, .null), []),
  (41, (.putfield 15, 44, 3, 1, 0, .null), [130]),
  (44, (.aload_n 0, 45, 0, 0, 0, .null), []),
  (45, (.aload_n 0, 46, 0, 0, 0, .null), []),
  (46, (.getfield 9, 49, 3, 0, 0, .null), [128]),
  (49, (.iconst 1, 50, 0, 0, 0, .int 1), []),
  (50, (.iadd, 51, 0, 0, 0, .null), []),
  (51, (.iconst 5, 52, 0, 0, 0, .int 5), []),
  (52, (.invokestatic 29, 55, 0, 0, 7, .null), [344, 345, 82]),
  (55, (.putfield 9, 58, 3, 0, 0, .null), [128]),
  (58, (.return_, 59, 0, 0, 0, .null), [])]
def rx_tb_33 : List (Nat × rx_I × List Nat) := rx_tb_33_0
def rx_tb_34_0 : List (Nat × rx_I × List Nat) := [(0, (.aload_n 0, 1, 0, 0, 0, .null), []),
  (1, (.aload_n 0, 2, 0, 0, 0, .null), []),
  (2, (.getfield 15, 5, 3, 1, 0, .null), [130]),
  (5, (.iconst 5, 6, 0, 0, 0, .int 5), []),
  (6, (.iadd, 7, 0, 0, 0, .null), []),
  (7, (.iconst 1, 8, 0, 0, 0, .int 1), []),
  (8, (.isub, 9, 0, 0, 0, .null), []),
  (9, (.iconst 5, 10, 0, 0, 0, .int 5), []),
  (10, (.irem, 11, 0, 0, 0, .null), []),
  (11, (.putfield 15, 14, 3, 1, 0, .null), [130]),
  (14, (.aload_n 0, 15, 0, 0, 0, .null), []),
  (15, (.dup, 16, 0, 0, 0, .null), []),
  (16, (.getfield 9, 19, 3, 0, 0, .null), [128]),
  (19, (.iconst 1, 20, 0, 0, 0, .int 1), []),
  (20, (.isub, 21, 0, 0, 0, .null), []),
  (21, (.putfield 9, 24, 3, 0, 0, .null), [128]),
  (24, (.iconst 0, 25, 0, 0, 0, .int 0), []),
  (25, (.istore_n 2, 26, 2, 0, 0, .null), []),
  (26, (.iload_n 2, 27, 2, 0, 0, .null), []),
  (27, (.iconst 4, 28, 0, 0, 0, .int 4), []),
  (28, (.if_icmp .ge 28, 31, 56, 0, 0, .null), []),
  (31, (.aload_n 1, 32, 1, 0, 0, .null), []),
  (32, (.iload_n 2, 33, 2, 0, 0, .null), []),
  (33, (.aaload, 34, 0, 0, 0, .null), []),
  (34, (.aload_n 0, 35, 0, 0, 0, .null), []),
  (35, (.getfield 20, 38, 3, 2, 0, .null), [131]),
  (38, (.aload_n 0, 39, 0, 0, 0, .null), []),
  (39, (.getfield 15, 42, 3, 1, 0, .null), [130]),
  (42, (.iconst 4, 43, 0, 0, 0, .int 4), []),
  (43, (.imul, 44, 0, 0, 0, .null), []),
  (44, (.iload_n 2, 45, 2, 0, 0, .null), []),
  (45, (.iadd, 46, 0, 0, 0, .null), []),
  (46, (.aaload, 47, 0, 0, 0, .null), []),
  (47, (.invokevirtual 25, 50, 37, 2, 0, .null), [337, 338, 339, 74]),
  (50, (.iinc 2 1, 53, 2, 0, 0, .int 1), []),
  (53, (.goto (-27), 56, 26, 0, 0, .null), []),
  (56, (.return_, 57, 0, 0, 0, .null), [])]
def rx_tb_34 : List (Nat × rx_I × List Nat) := rx_tb_34_0
def rx_tb_35_0 : List (Nat × rx_I × List Nat) := [(0, (.aload_n 0, 1, 0, 0, 0, .null), []),
  (1, (.invokespecial 3, 4, 0, 0, 8, .null), [108, 91]),
  (4, (.aload_n 0, 5, 0, 0, 0, .null), []),
  (5, (.iconst 1, 6, 0, 0, 0, .int 1), []),
  (6, (.putfield 9, 9, 4, 0, 0, .null), [109]),
  (9, (.aload_n 0, 10, 0, 0, 0, .null), []),
  (10, (.iconst 0, 11, 0, 0, 0, .int 0), []),
  (11, (.putfield 15, 14, 4, 1, 0, .null), [115]),
  (14, (.aload_n 0, 15, 0, 0, 0, .null), []),
  (15, (.bipush 40, 17, 0, 0, 0, .int 40), []),
  (17, (.newarray .int, 19, 0, 0, 0, .null), [127]),
  (19, (.putfield 18, 22, 4, 2, 2, .null), [119]),
  (22, (.return_, 23, 0, 0, 0, .null), [])]
def rx_tb_35 : List (Nat × rx_I × List Nat) := rx_tb_35_0
def rx_tb_36_0 : List (Nat × rx_I × List Nat) := [(0, (.aload_n 0, 1, 0, 0, 0, .null), []),
  (1, (.iload_n 1, 2, 1, 0, 0, .null), []),
  (2, (.putfield 9, 5, 4, 0, 0, .null), [109]),
  (5, (.aload_n 0, 6, 0, 0, 0, .null), []),
  (6, (.iconst 0, 7, 0, 0, 0, .int 0), []),
  (7, (.putfield 15, 10, 4, 1, 0, .null), [115]),
  (10, (.aload_n 0, 11, 0, 0, 0, .null), []),
  (11, (.getfield 18, 14, 4, 2, 0, .null), [119]),
  (14, (.iconst 0, 15, 0, 0, 0, .int 0), []),
  (15, (.invokestatic 22, 18, 169, 2, 0, .null), [351, 352, 83]),
  (18, (.return_, 19, 0, 0, 0, .null), [])]
def rx_tb_36 : List (Nat × rx_I × List Nat) := rx_tb_36_0
def rx_tb_37_0 : List (Nat × rx_I × List Nat) := [(0, (.aload_n 0, 1, 0, 0, 0, .null), []),
  (1, (.aload_n 1, 2, 1, 0, 0, .null), []),
  (2, (.getfield 9, 5, 4, 0, 0, .null), [109]),
  (5, (.putfield 9, 8, 4, 0, 0, .null), [109]),
  (8, (.aload_n 0, 9, 0, 0, 0, .null), []),
  (9, (.aload_n 1, 10, 1, 0, 0, .null), []),
  (10, (.getfield 15, 13, 4, 1, 0, .null), [115]),
  (13, (.putfield 15, 16, 4, 1, 0, .null), [115]),
  (16, (.aload_n 1, 17, 1, 0, 0, .null), []),
  (17, (.getfield 18, 20, 4, 2, 0, .null), [119]),
  (20, (.iconst 0, 21, 0, 0, 0, .int 0), []),
  (21, (.aload_n 0, 22, 0, 0, 0, .null), []),
  (22, (.getfield 18, 25, 4, 2, 0, .null), [119]),
  (25, (.iconst 0, 26, 0, 0, 0, .int 0), []),
  (26, (.bipush 40, 28, 0, 0, 0, .int 40), []),
  (28, (.invokestatic 28, 31, 0, 0, 9, .null), [341, 343, 342, 81]),
  (31, (.return_, 32, 0, 0, 0, .null), [])]
def rx_tb_37 : List (Nat × rx_I × List Nat) := rx_tb_37_0
def rx_tb_38_0 : List (Nat × rx_I × List Nat) := [(0, (.aload_n 0, 1, 0, 0, 0, .null), []),
  (1, (.getfield 18, 4, 4, 2, 0, .null), [119]),
  (4, (.iload_n 1, 5, 1, 0, 0, .null), []),
  (5, (.iconst 5, 6, 0, 0, 0, .int 5), []),
  (6, (.imul, 7, 0, 0, 0, .null), []),
  (7, (.iload_n 2, 8, 2, 0, 0, .null), []),
  (8, (.iadd, 9, 0, 0, 0, .null), []),
  (9, (.iaload, 10, 0, 0, 0, .null), []),
  (10, (.ireturn, 11, 0, 0, 0, .null), [])]
def rx_tb_38 : List (Nat × rx_I × List Nat) := rx_tb_38_0
def rx_tb_39_0 : List (Nat × rx_I × List Nat) := [(0, (.aload_n 0, 1, 0, 0, 0, .null), []),
  (1, (.iload_n 1, 2, 1, 0, 0, .null), []),
  (2, (.iload_n 2, 3, 2, 0, 0, .null), []),
  (3, (.invokevirtual 34, 6, 38, 3, 0, .null), [373, 374, 375, 74]),
  (6, (.iload_n 3, 7, 3, 0, 0, .null), []),
  (7, (.invokestatic 38, 10, 103, 2, 1, .null), [378, 72]),
  (10, (.ireturn, 11, 0, 0, 1, .null), [])]
def rx_tb_39 : List (Nat × rx_I × List Nat) := rx_tb_39_0
def rx_tb_40_0 : List (Nat × rx_I × List Nat) := [(0, (.aload_n 0, 1, 0, 0, 0, .null), []),
  (1, (.iload_n 1, 2, 1, 0, 0, .null), []),
  (2, (.iload_n 2, 3, 2, 0, 0, .null), []),
  (3, (.aload_n 0, 4, 0, 0, 0, .null), []),
  (4, (.iload_n 1, 5, 1, 0, 0, .null), []),
  (5, (.iload_n 2, 6, 2, 0, 0, .null), []),
  (6, (.invokevirtual 34, 9, 38, 3, 0, .null), [373, 374, 375, 74]),
  (9, (.iconst 1, 10, 0, 0, 0, .int 1), []),
  (10, (.iload_n 3, 11, 3, 0, 0, .null), []),
  (11, (.ishl, 12, 0, 0, 0, .null), []),
  (12, (.ior, 13, 0, 0, 0, .null), []),
  (13, (.invokevirtual 42, 16, 48, 4, 0, .null), [384, 386, 4, 74]),
  (16, (.return_, 17, 0, 0, 0, .null), [])]
def rx_tb_40 : List (Nat × rx_I × List Nat) := rx_tb_40_0
def rx_tb_41_0 : List (Nat × rx_I × List Nat) := [(0, (.aload_n 0, 1, 0, 0, 0, .null), []),
  (1, (.iload_n 1, 2, 1, 0, 0, .null), []),
  (2, (.iload_n 2, 3, 2, 0, 0, .null), []),
  (3, (.aload_n 0, 4, 0, 0, 0, .null), []),
  (4, (.iload_n 1, 5, 1, 0, 0, .null), []),
  (5, (.iload_n 2, 6, 2, 0, 0, .null), []),
  (6, (.invokevirtual 34, 9, 38, 3, 0, .null), [373, 374, 375, 74]),
  (9, (.iconst 1, 10, 0, 0, 0, .int 1), []),
  (10, (.iload_n 3, 11, 3, 0, 0, .null), []),
  (11, (.ishl, 12, 0, 0, 0, .null), []),
  (12, (.iconst (-1), 13, 0, 0, 0, .int (-1)), []),
  (13, (.ixor, 14, 0, 0, 0, .null), []),
  (14, (.iand, 15, 0, 0, 0, .null), []),
  (15, (.invokevirtual 42, 18, 48, 4, 0, .null), [384, 386, 4, 74]),
  (18, (.return_, 19, 0, 0, 0, .null), [])]
def rx_tb_41 : List (Nat × rx_I × List Nat) := rx_tb_41_0
def rx_tb_42_0 : List (Nat × rx_I × List Nat) := [(0, (.iload_n 1, 1, 1, 0, 0, .null), []),
  (1, (.iload_n 2, 2, 2, 0, 0, .null), []),
  (2, (.if_icmp .ne 4, 5, 6, 0, 0, .null), []),
  (5, (.return_, 6, 0, 0, 0, .null), []),
  (6, (.iconst 0, 7, 0, 0, 0, .int 0), []),
  (7, (.istore_n 3, 8, 3, 0, 0, .null), []),
  (8, (.iload_n 3, 9, 3, 0, 0, .null), []),
  (9, (.aload_n 0, 10, 0, 0, 0, .null), []),
  (10, (.getfield 9, 13, 4, 0, 0, .null), [109]),
  (13, (.if_icmp .ge 35, 16, 48, 0, 0, .null), []),
  (16, (.aload_n 0, 17, 0, 0, 0, .null), []),
  (17, (.iload_n 3, 18, 3, 0, 0, .null), []),
  (18, (.iload_n 2, 19, 2, 0, 0, .null), []),
  (19, (.aload_n 0, 20, 0, 0, 0, .null), []),
  (20, (.iload_n 3, 21, 3, 0, 0, .null), []),
  (21, (.iload_n 2, 22, 2, 0, 0, .null), []),
  (22, (.invokevirtual 34, 25, 38, 3, 0, .null), [373, 374, 375, 74]),
  (25, (.aload_n 0, 26, 0, 0, 0, .null), []),
  (26, (.iload_n 3, 27, 3, 0, 0, .null), []),
  (27, (.iload_n 1, 28, 1, 0, 0, .null), []),
  (28, (.invokevirtual 34, 31, 38, 3, 0, .null), [373, 374, 375, 74]),
  (31, (.ior, 32, 0, 0, 0, .null), []),
  (32, (.invokevirtual 42, 35, 48, 4, 0, .null), [384, 386, 4, 74]),
  (35, (.aload_n 0, 36, 0, 0, 0, .null), []),
  (36, (.iload_n 3, 37, 3, 0, 0, .null), []),
  (37, (.iload_n 1, 38, 1, 0, 0, .null), []),
  (38, (.iconst 0, 39, 0, 0, 0, .int 0), []),
  (39, (.invokevirtual 42, 42, 48, 4, 0, .null), [384, 386, 4, 74]),
  (42, (.iinc 3 1, 45, 3, 0, 0, .int 1), []),
  (45, (.goto (-37), 48, 8, 0, 0, .null), []),
  (48, (.return_, 49, 0, 0, 0, .null), [])]
def rx_tb_42 : List (Nat × rx_I × List Nat) := rx_tb_42_0
def rx_tb_43_0 : List (Nat × rx_I × List Nat) := [(0, (.iconst 0, 1, 0, 0, 0, .int 0), []),
  (1, (.istore_n 2, 2, 2, 0, 0, .null), []),
  (2, (.iconst 0, 3, 0, 0, 0, .int 0), []),
  (3, (.istore_n 3, 4, 3, 0, 0, .null), []),
  (4, (.iload_n 3, 5, 3, 0, 0, .null), []),
  (5, (.aload_n 0, 6, 0, 0, 0, .null), []),
  (6, (.getfield 9, 9, 4, 0, 0, .null), [109]),
  (9, (.if_icmp .ge 21, 12, 30, 0, 0, .null), []),
  (12, (.iload_n 2, 13, 2, 0, 0, .null), []),
  (13, (.aload_n 0, 14, 0, 0, 0, .null), []),
  (14, (.iload_n 3, 15, 3, 0, 0, .null), []),
  (15, (.iload_n 1, 16, 1, 0, 0, .null), []),
  (16, (.invokevirtual 34, 19, 38, 3, 0, .null), [373, 374, 375, 74]),
  (19, (.invokestatic 46, 22, 168, 1, 0, .null), [388, 389, 84]),
  (22, (.iadd, 23, 0, 0, 0, .null), []),
  (23, (.istore_n 2, 24, 2, 0, 0, .null), []),
  (24, (.iinc 3 1, 27, 3, 0, 0, .int 1), []),
  (27, (.goto (-23), 30, 4, 0, 0, .null), []),
  (30, (.iload_n 2, 31, 2, 0, 0, .null), []),
  (31, (.ireturn, 32, 0, 0, 0, .null), [])]
def rx_tb_43 : List (Nat × rx_I × List Nat) := rx_tb_43_0
def rx_tb_44_0 : List (Nat × rx_I × List Nat) := [(0, (.iconst 0, 1, 0, 0, 0, .int 0), []),
  (1, (.istore_n 1, 2, 1, 0, 0, .null), []),
  (2, (.iconst 0, 3, 0, 0, 0, .int 0), []),
  (3, (.istore_n 2, 4, 2, 0, 0, .null), []),
  (4, (.iload_n 2, 5, 2, 0, 0, .null), []),
  (5, (.aload_n 0, 6, 0, 0, 0, .null), []),
  (6, (.getfield 9, 9, 4, 0, 0, .null), [109]),
  (9, (.if_icmp .ge 17, 12, 26, 0, 0, .null), []),
  (12, (.iload_n 1, 13, 1, 0, 0, .null), []),
  (13, (.aload_n 0, 14, 0, 0, 0, .null), []),
  (14, (.iload_n 2, 15, 2, 0, 0, .null), []),
  (15, (.invokevirtual 52, 18, 45, 2, 0, .null), [521, 522, 523, 74]),
  (18, (.ior, 19, 0, 0, 0, .null), []),
  (19, (.istore_n 1, 20, 1, 0, 0, .null), []),
  (20, (.iinc 2 1, 23, 2, 0, 0, .int 1), []),
  (23, (.goto (-19), 26, 4, 0, 0, .null), []),
  (26, (.iload_n 1, 27, 1, 0, 0, .null), []),
  (27, (.ireturn, 28, 0, 0, 0, .null), [])]
def rx_tb_44 : List (Nat × rx_I × List Nat) := rx_tb_44_0
def rx_tb_45_0 : List (Nat × rx_I × List Nat) := [(0, (.iconst 0, 1, 0, 0, 0, .int 0), []),
  (1, (.istore_n 2, 2, 2, 0, 0, .null), []),
  (2, (.iconst 0, 3, 0, 0, 0, .int 0), []),
  (3, (.istore_n 3, 4, 3, 0, 0, .null), []),
  (4, (.iload_n 3, 5, 3, 0, 0, .null), []),
  (5, (.iconst 4, 6, 0, 0, 0, .int 4), []),
  (6, (.if_icmp .ge 24, 9, 30, 0, 0, .null), []),
  (9, (.aload_n 0, 10, 0, 0, 0, .null), []),
  (10, (.iload_n 1, 11, 1, 0, 0, .null), []),
  (11, (.iload_n 3, 12, 3, 0, 0, .null), []),
  (12, (.invokevirtual 34, 15, 38, 3, 0, .null), [373, 374, 375, 74]),
  (15, (.ifCond .eq 9, 18, 24, 0, 0, .null), []),
  (18, (.iload_n 2, 19, 2, 0, 0, .null), []),
  (19, (.iconst 1, 20, 0, 0, 0, .int 1), []),
  (20, (.iload_n 3, 21, 3, 0, 0, .null), []),
  (21, (.ishl, 22, 0, 0, 0, .null), []),
  (22, (.ior, 23, 0, 0, 0, .null), []),
  (23, (.istore_n 2, 24, 2, 0, 0, .null), []),
  (24, (.iinc 3 1, 27, 3, 0, 0, .int 1), []),
  (27, (.goto (-23), 30, 4, 0, 0, .null), []),
  (30, (.iload_n 2, 31, 2, 0, 0, .null), []),
  (31, (.ireturn, 32, 0, 0, 0, .null), [])]
def rx_tb_45 : List (Nat × rx_I × List Nat) := rx_tb_45_0
def rx_tb_46_0 : List (Nat × rx_I × List Nat) := [(0, (.iconst 1, 1, 0, 0, 0, .int 1), []),
  (1, (.istore_n 1, 2, 1, 0, 0, .null), []),
  (2, (.iconst 0, 3, 0, 0, 0, .int 0), []),
  (3, (.istore_n 2, 4, 2, 0, 0, .null), []),
  (4, (.iload_n 2, 5, 2, 0, 0, .null), []),
  (5, (.aload_n 0, 6, 0, 0, 0, .null), []),
  (6, (.getfield 9, 9, 4, 0, 0, .null), [109]),
  (9, (.if_icmp .ge 27, 12, 36, 0, 0, .null), []),
  (12, (.iload_n 1, 13, 1, 0, 0, .null), []),
  (13, (.aload_n 0, 14, 0, 0, 0, .null), []),
  (14, (.iload_n 1, 15, 1, 0, 0, .null), []),
  (15, (.invokevirtual 55, 18, 47, 2, 0, .null), [490, 492, 14, 74]),
  (18, (.ior, 19, 0, 0, 0, .null), []),
  (19, (.istore_n 3, 20, 3, 0, 0, .null), []),
  (20, (.iload_n 3, 21, 3, 0, 0, .null), []),
  (21, (.iload_n 1, 22, 1, 0, 0, .null), []),
  (22, (.if_icmp .ne 6, 25, 28, 0, 0, .null), []),
  (25, (.goto 11, 28, 36, 0, 0, .null), []),
  (28, (.iload_n 3, 29, 3, 0, 0, .null), []),
  (29, (.istore_n 1, 30, 1, 0, 0, .null), []),
  (30, (.iinc 2 1, 33, 2, 0, 0, .int 1), []),
  (33, (.goto (-29), 36, 4, 0, 0, .null), []),
  (36, (.iload_n 1, 37, 1, 0, 0, .null), []),
  (37, (.ireturn, 38, 0, 0, 0, .null), [])]
def rx_tb_46 : List (Nat × rx_I × List Nat) := rx_tb_46_0
def rx_tb_47_0 : List (Nat × rx_I × List Nat) := [(0, (.iconst 0, 1, 0, 0, 0, .int 0), []),
  (1, (.istore_n 2, 2, 2, 0, 0, .null), []),
  (2, (.iconst 0, 3, 0, 0, 0, .int 0), []),
  (3, (.istore_n 3, 4, 3, 0, 0, .null), []),
  (4, (.iload_n 3, 5, 3, 0, 0, .null), []),
  (5, (.aload_n 0, 6, 0, 0, 0, .null), []),
  (6, (.getfield 9, 9, 4, 0, 0, .null), [109]),
  (9, (.if_icmp .ge 42, 12, 51, 0, 0, .null), []),
  (12, (.iload_n 1, 13, 1, 0, 0, .null), []),
  (13, (.iload_n 3, 14, 3, 0, 0, .null), []),
  (14, (.invokestatic 38, 17, 103, 2, 1, .null), [378, 72]),
  (17, (.ifCond .eq 28, 20, 45, 0, 0, .null), []),
  (20, (.iconst 0, 21, 0, 0, 0, .int 0), []),
  (21, (.istore 4, 23, 4, 0, 0, .null), []),
  (23, (.iload 4, 25, 4, 0, 0, .null), []),
  (25, (.iconst 5, 26, 0, 0, 0, .int 5), []),
  (26, (.if_icmp .ge 19, 29, 45, 0, 0, .null), []),
  (29, (.iload_n 2, 30, 2, 0, 0, .null), []),
  (30, (.aload_n 0, 31, 0, 0, 0, .null), []),
  (31, (.iload_n 3, 32, 3, 0, 0, .null), []),
  (32, (.iload 4, 34, 4, 0, 0, .null), []),
  (34, (.invokevirtual 34, 37, 38, 3, 0, .null), [373, 374, 375, 74]),
  (37, (.ior, 38, 0, 0, 0, .null), []),
  (38, (.istore_n 2, 39, 2, 0, 0, .null), []),
  (39, (.iinc 4 1, 42, 4, 0, 0, .int 1), []),
  (42, (.goto (-19), 45, 23, 0, 0, .null), []),
  (45, (.iinc 3 1, 48, 3, 0, 0, .int 1), []),
  (48, (.goto (-44), 51, 4, 0, 0, .null), []),
  (51, (.iload_n 2, 52, 2, 0, 0, .null), []),
  (52, (.ireturn, 53, 0, 0, 0, .null), [])]
def rx_tb_47 : List (Nat × rx_I × List Nat) := rx_tb_47_0
def rx_tb_48_0 : List (Nat × rx_I × List Nat) := [(0, (.aload_n 0, 1, 0, 0, 0, .null), []),
  (1, (.dup, 2, 0, 0, 0, .null), []),
  (2, (.getfield 15, 5, 4, 1, 0, .null), [115]),
  (5, (.iload_n 3, 6, 3, 0, 0, .null), []),
  (6, (.invokestatic 46, 9, 168, 1, 0, .null), [388, 389, 84]),
  (9, (.aload_n 0, 10, 0, 0, 0, .null), []),
  (10, (.iload_n 1, 11, 1, 0, 0, .null), []),
  (11, (.iload_n 2, 12, 2, 0, 0, .null), []),
  (12, (.invokevirtual 34, 15, 38, 3, 0, .null), [373, 374, 375, 74]),
  (15, (.invokestatic 46, 18, 168, 1, 0, .null), [388, 389, 84]),
  (18, (.isub, 19, 0, 0, 0, .null), []),
  (19, (.iadd, 20, 0, 0, 0, .null), []),
  (20, (.putfield 15, 23, 4, 1, 0, .null), [115]),
  (23, (.aload_n 0, 24, 0, 0, 0, .null), []),
  (24, (.getfield 18, 27, 4, 2, 0, .null), [119]),
  (27, (.iload_n 1, 28, 1, 0, 0, .null), []),
  (28, (.iconst 5, 29, 0, 0, 0, .int 5), []),
  (29, (.imul, 30, 0, 0, 0, .null), []),
  (30, (.iload_n 2, 31, 2, 0, 0, .null), []),
  (31, (.iadd, 32, 0, 0, 0, .null), []),
  (32, (.iload_n 3, 33, 3, 0, 0, .null), []),
  (33, (.iastore, 34, 0, 0, 0, .null), []),
  (34, (.return_, 35, 0, 0, 0, .null), [])]
def rx_tb_48 : List (Nat × rx_I × List Nat) := rx_tb_48_0
def rx_tb_49_0 : List (Nat × rx_I × List Nat) := [(0, (.aload_n 0, 1, 0, 0, 0, .null), []),
  (1, (.invokespecial 3, 4, 0, 0, 8, .null), [179, 91]),
  (4, (.aload_n 0, 5, 0, 0, 0, .null), []),
  (5, (.iconst 3, 6, 0, 0, 0, .int 3), []),
  (6, (.newarray .int, 8, 0, 0, 0, .null), [127]),
  (8, (.putfield 9, 11, 5, 0, 2, .null), [180]),
  (11, (.aload_n 0, 12, 0, 0, 0, .null), []),
  (12, (.iconst 3, 13, 0, 0, 0, .int 3), []),
  (13, (.newarray .int, 15, 0, 0, 0, .null), [127]),
  (15, (.putfield 15, 18, 5, 1, 2, .null), [182]),
  (18, (.aload_n 0, 19, 0, 0, 0, .null), []),
  (19, (.sipush 2048, 22, 0, 0, 0, .int 2048), []),
  (22, (.newarray .int, 24, 0, 0, 0, .null), [127]),
  (24, (.putfield 18, 27, 5, 2, 2, .null), [183]),
  (27, (.aload_n 0, 28, 0, 0, 0, .null), []),
  (28, (.bipush 64, 30, 0, 0, 0, .int 64), []),
  (30, (.newarray .int, 32, 0, 0, 0, .null), [127]),
  (32, (.putfield 21, 35, 5, 3, 2, .null), [184]),
  (35, (.aload_n 0, 36, 0, 0, 0, .null), []),
  (36, (.bipush 64, 38, 0, 0, 0, .int 64), []),
  (38, (.newarray .int, 40, 0, 0, 0, .null), [127]),
  (40, (.putfield 24, 43, 5, 4, 2, .null), [185]),
  (43, (.aload_n 0, 44, 0, 0, 0, .null), []),
  (44, (.bipush 64, 46, 0, 0, 0, .int 64), []),
  (46, (.newarray .byte, 48, 1, 0, 0, .null), [173]),
  (48, (.putfield 27, 51, 5, 5, 2, .null), [186]),
  (51, (.aload_n 0, 52, 0, 0, 0, .null), []),
  (52, (.iconst 0, 53, 0, 0, 0, .int 0), []),
  (53, (.putfield 31, 56, 5, 6, 0, .null), [187]),
  (56, (.return_, 57, 0, 0, 0, .null), [])]
def rx_tb_49 : List (Nat × rx_I × List Nat) := rx_tb_49_0
def rx_tb_50_0 : List (Nat × rx_I × List Nat) := [(0, (.aload_n 0, 1, 0, 0, 0, .null), []),
  (1, (.invokevirtual 35, 4, 54, 1, 0, .null), [658, 660, 28, 76]),
  (4, (.aload_n 0, 5, 0, 0, 0, .null), []),
  (5, (.aload_n 1, 6, 1, 0, 0, .null), []),
  (6, (.invokevirtual 38, 9, 14, 1, 0, .null), [663, 627, 628, 79]),
  (9, (.sipush 256, 12, 0, 0, 0, .int 256), []),
  (12, (.imul, 13, 0, 0, 0, .null), []),
  (13, (.aload_n 2, 14, 2, 0, 0, .null), []),
  (14, (.invokevirtual 38, 17, 14, 1, 0, .null), [663, 627, 628, 79]),
  (17, (.iadd, 18, 0, 0, 0, .null), []),
  (18, (.iconst (-1), 19, 0, 0, 0, .int (-1)), []),
  (19, (.iconst 0, 20, 0, 0, 0, .int 0), []),
  (20, (.invokevirtual 44, 23, 55, 4, 0, .null), [664, 666, 29, 76]),
  (23, (.iconst 0, 24, 0, 0, 0, .int 0), []),
  (24, (.istore 4, 26, 4, 0, 0, .null), []),
  (26, (.iload 4, 28, 4, 0, 0, .null), []),
  (28, (.aload_n 0, 29, 0, 0, 0, .null), []),
  (29, (.getfield 31, 32, 5, 6, 0, .null), [187]),
  (32, (.if_icmp .ge 119, 35, 151, 0, 0, .null), []),
  (35, (.iload 4, 37, 4, 0, 0, .null), []),
  (37, (.ldc 48, 39, 0, 0, 0, .int 65536), [668]),
  (39, (.if_icmp .ge 112, 42, 151, 0, 0, .null), []),
  (42, (.aload_n 0, 43, 0, 0, 0, .null), []),
  (43, (.getfield 21, 46, 5, 3, 0, .null), [184]),
  (46, (.iload 4, 48, 4, 0, 0, .null), []),
  (48, (.iaload, 49, 0, 0, 0, .null), []),
  (49, (.sipush 256, 52, 0, 0, 0, .int 256), []),
  (52, (.idiv, 53, 0, 0, 0, .null), []),
  (53, (.istore 5, 55, 5, 0, 0, .null), []),
  (55, (.aload_n 0, 56, 0, 0, 0, .null), []),
  (56, (.getfield 21, 59, 5, 3, 0, .null), [184]),
  (59, (.iload 4, 61, 4, 0, 0, .null), []),
  (61, (.iaload, 62, 0, 0, 0, .null), []),
  (62, (.sipush 256, 65, 0, 0, 0, .int 256), []),
  (65, (.irem, 66, 0, 0, 0, .null), []),
  (66, (.istore 6, 68, 6, 0, 0, .null), []),
  (68, (.aload_n 0, 69, 0, 0, 0, .null), []),
  (69, (.iload 4, 71, 4, 0, 0, .null), []),
  (71, (.aload_n 1, 72, 1, 0, 0, .null), []),
  (72, (.aload_n 2, 73, 2, 0, 0, .null), []),
  (73, (.iload 5, 75, 5, 0, 0, .null), []),
  (75, (.iload 6, 77, 6, 0, 0, .null), []),
  (77, (.invokestatic 49, 80, 58, 4, 0, .null), [694, 695, 76]),
  (80, (.invokevirtual 53, 83, 57, 3, 0, .null), [702, 704, 31, 76]),
  (83, (.aload_n 0, 84, 0, 0, 0, .null), []),
  (84, (.iload_n 3, 85, 3, 0, 0, .null), []),
  (85, (.invokevirtual 57, 88, 51, 2, 0, .null), [706, 707, 708, 76]),
  (88, (.ifCond .eq 4, 91, 92, 0, 0, .null), []),
  (91, (.return_, 92, 0, 0, 0, .null), []),
  (92, (.iconst 0, 93, 0, 0, 0, .int 0), [])]
def rx_tb_50_1 : List (Nat × rx_I × List Nat) := [(93, (.istore 7, 95, 7, 0, 0, .null), []),
  (95, (.iload 7, 97, 7, 0, 0, .null), []),
  (97, (.iconst 4, 98, 0, 0, 0, .int 4), []),
  (98, (.if_icmp .ge 47, 101, 145, 0, 0, .null), []),
  (101, (.aload_n 1, 102, 1, 0, 0, .null), []),
  (102, (.iload 5, 104, 5, 0, 0, .null), []),
  (104, (.iload 7, 106, 7, 0, 0, .null), []),
  (106, (.invokevirtual 61, 109, 15, 3, 0, .null), [710, 631, 632, 79]),
  (109, (.istore 8, 111, 8, 0, 0, .null), []),
  (111, (.iload 8, 113, 8, 0, 0, .null), []),
  (113, (.ifCond .eq 26, 116, 139, 0, 0, .null), []),
  (116, (.aload_n 0, 117, 0, 0, 0, .null), []),
  (117, (.iload 8, 119, 8, 0, 0, .null), []),
  (119, (.sipush 256, 122, 0, 0, 0, .int 256), []),
  (122, (.imul, 123, 0, 0, 0, .null), []),
  (123, (.aload_n 2, 124, 2, 0, 0, .null), []),
  (124, (.iload 6, 126, 6, 0, 0, .null), []),
  (126, (.iload 7, 128, 7, 0, 0, .null), []),
  (128, (.invokevirtual 61, 131, 15, 3, 0, .null), [710, 631, 632, 79]),
  (131, (.iadd, 132, 0, 0, 0, .null), []),
  (132, (.iload 4, 134, 4, 0, 0, .null), []),
  (134, (.iload 7, 136, 7, 0, 0, .null), []),
  (136, (.invokevirtual 44, 139, 55, 4, 0, .null), [664, 666, 29, 76]),
  (139, (.iinc 7 1, 142, 7, 0, 0, .int 1), []),
  (142, (.goto (-47), 145, 95, 0, 0, .null), []),
  (145, (.iinc 4 1, 148, 4, 0, 0, .int 1), []),
  (148, (.goto (-122), 151, 26, 0, 0, .null), []),
  (151, (.return_, 152, 0, 0, 0, .null), [])]
def rx_tb_50 : List (Nat × rx_I × List Nat) := rx_tb_50_0 ++ rx_tb_50_1
def rx_tb_51_0 : List (Nat × rx_I × List Nat) := [(0, (.aload_n 0, 1, 0, 0, 0, .null), []),
  (1, (.getfield 15, 4, 5, 1, 0, .null), [182]),
  (4, (.iload_n 1, 5, 1, 0, 0, .null), []),
  (5, (.iaload, 6, 0, 0, 0, .null), []),
  (6, (.iconst (-1), 7, 0, 0, 0, .int (-1)), []),
  (7, (.if_icmp .eq 7, 10, 14, 0, 0, .null), []),
  (10, (.iconst 1, 11, 0, 0, 0, .int 1), []),
  (11, (.goto 4, 14, 15, 0, 0, .null), []),
  (14, (.iconst 0, 15, 0, 0, 0, .int 0), []),
  (15, (.ireturn, 16, 0, 0, 1, .null), [])]
def rx_tb_51 : List (Nat × rx_I × List Nat) := rx_tb_51_0
def rx_tb_52_0 : List (Nat × rx_I × List Nat) := [(0, (.iconst 0, 1, 0, 0, 0, .int 0), []),
  (1, (.istore_n 2, 2, 2, 0, 0, .null), []),
  (2, (.aload_n 0, 3, 0, 0, 0, .null), []),
  (3, (.getfield 15, 6, 5, 1, 0, .null), [182]),
  (6, (.iload_n 1, 7, 1, 0, 0, .null), []),
  (7, (.iaload, 8, 0, 0, 0, .null), []),
  (8, (.istore_n 3, 9, 3, 0, 0, .null), []),
  (9, (.iload_n 3, 10, 3, 0, 0, .null), []),
  (10, (.ifCond .le 22, 13, 32, 0, 0, .null), []),
  (13, (.iload_n 2, 14, 2, 0, 0, .null), []),
  (14, (.ldc 48, 16, 0, 0, 0, .int 65536), [668]),
  (16, (.if_icmp .ge 16, 19, 32, 0, 0, .null), []),
  (19, (.iinc 2 1, 22, 2, 0, 0, .int 1), []),
  (22, (.aload_n 0, 23, 0, 0, 0, .null), []),
  (23, (.getfield 24, 26, 5, 4, 0, .null), [185]),
  (26, (.iload_n 3, 27, 3, 0, 0, .null), []),
  (27, (.iaload, 28, 0, 0, 0, .null), []),
  (28, (.istore_n 3, 29, 3, 0, 0, .null), []),
  (29, (.goto (-20), 32, 9, 0, 0, .null), []),
  (32, (.iload_n 2, 33, 2, 0, 0, .null), []),
  (33, (.ireturn, 34, 0, 0, 0, .null), [])]
def rx_tb_52 : List (Nat × rx_I × List Nat) := rx_tb_52_0
def rx_tb_53_0 : List (Nat × rx_I × List Nat) := [(0, (.aload_n 0, 1, 0, 0, 0, .null), []),
  (1, (.getfield 15, 4, 5, 1, 0, .null), [182]),
  (4, (.iload_n 1, 5, 1, 0, 0, .null), []),
  (5, (.iaload, 6, 0, 0, 0, .null), []),
  (6, (.istore_n 3, 7, 3, 0, 0, .null), []),
  (7, (.iconst 0, 8, 0, 0, 0, .int 0), []),
  (8, (.istore 4, 10, 4, 0, 0, .null), []),
  (10, (.iload 4, 12, 4, 0, 0, .null), []),
  (12, (.iload_n 2, 13, 2, 0, 0, .null), []),
  (13, (.if_icmp .ge 20, 16, 33, 0, 0, .null), []),
  (16, (.iload_n 3, 17, 3, 0, 0, .null), []),
  (17, (.ifCond .le 16, 20, 33, 0, 0, .null), []),
  (20, (.aload_n 0, 21, 0, 0, 0, .null), []),
  (21, (.getfield 24, 24, 5, 4, 0, .null), [185]),
  (24, (.iload_n 3, 25, 3, 0, 0, .null), []),
  (25, (.iaload, 26, 0, 0, 0, .null), []),
  (26, (.istore_n 3, 27, 3, 0, 0, .null), []),
  (27, (.iinc 4 1, 30, 4, 0, 0, .int 1), []),
  (30, (.goto (-20), 33, 10, 0, 0, .null), []),
  (33, (.iload_n 3, 34, 3, 0, 0, .null), []),
  (34, (.ifCond .le 12, 37, 46, 0, 0, .null), []),
  (37, (.aload_n 0, 38, 0, 0, 0, .null), []),
  (38, (.getfield 27, 41, 5, 5, 0, .null), [186]),
  (41, (.iload_n 3, 42, 3, 0, 0, .null), []),
  (42, (.baload, 43, 0, 0, 0, .null), []),
  (43, (.goto 5, 46, 48, 0, 0, .null), []),
  (46, (.bipush (-5), 48, 0, 0, 0, .int (-5)), []),
  (48, (.ireturn, 49, 0, 0, 0, .null), [])]
def rx_tb_53 : List (Nat × rx_I × List Nat) := rx_tb_53_0
def rx_tb_54_0 : List (Nat × rx_I × List Nat) := [(0, (.iconst 0, 1, 0, 0, 0, .int 0), []),
  (1, (.istore_n 1, 2, 1, 0, 0, .null), []),
  (2, (.iload_n 1, 3, 1, 0, 0, .null), []),
  (3, (.aload_n 0, 4, 0, 0, 0, .null), []),
  (4, (.getfield 31, 7, 5, 6, 0, .null), [187]),
  (7, (.if_icmp .ge 24, 10, 31, 0, 0, .null), []),
  (10, (.aload_n 0, 11, 0, 0, 0, .null), []),
  (11, (.getfield 18, 14, 5, 2, 0, .null), [183]),
  (14, (.aload_n 0, 15, 0, 0, 0, .null), []),
  (15, (.getfield 21, 18, 5, 3, 0, .null), [184]),
  (18, (.iload_n 1, 19, 1, 0, 0, .null), []),
  (19, (.iaload, 20, 0, 0, 0, .null), []),
  (20, (.bipush 32, 22, 0, 0, 0, .int 32), []),
  (22, (.idiv, 23, 0, 0, 0, .null), []),
  (23, (.iconst 0, 24, 0, 0, 0, .int 0), []),
  (24, (.iastore, 25, 0, 0, 0, .null), []),
  (25, (.iinc 1 1, 28, 1, 0, 0, .int 1), []),
  (28, (.goto (-26), 31, 2, 0, 0, .null), []),
  (31, (.aload_n 0, 32, 0, 0, 0, .null), []),
  (32, (.iconst 0, 33, 0, 0, 0, .int 0), []),
  (33, (.putfield 31, 36, 5, 6, 0, .null), [187]),
  (36, (.aload_n 0, 37, 0, 0, 0, .null), []),
  (37, (.getfield 15, 40, 5, 1, 0, .null), [182]),
  (40, (.iconst (-1), 41, 0, 0, 0, .int (-1)), []),
  (41, (.invokestatic 65, 44, 169, 2, 0, .null), [662, 352, 83]),
  (44, (.return_, 45, 0, 0, 0, .null), [])]
def rx_tb_54 : List (Nat × rx_I × List Nat) := rx_tb_54_0
def rx_tb_55_0 : List (Nat × rx_I × List Nat) := [(0, (.iconst 1, 1, 0, 0, 0, .int 1), []),
  (1, (.iload_n 1, 2, 1, 0, 0, .null), []),
  (2, (.bipush 32, 4, 0, 0, 0, .int 32), []),
  (4, (.irem, 5, 0, 0, 0, .null), []),
  (5, (.ishl, 6, 0, 0, 0, .null), []),
  (6, (.istore 4, 8, 4, 0, 0, .null), []),
  (8, (.aload_n 0, 9, 0, 0, 0, .null), []),
  (9, (.getfield 18, 12, 5, 2, 0, .null), [183]),
  (12, (.iload_n 1, 13, 1, 0, 0, .null), []),
  (13, (.bipush 32, 15, 0, 0, 0, .int 32), []),
  (15, (.idiv, 16, 0, 0, 0, .null), []),
  (16, (.iaload, 17, 0, 0, 0, .null), []),
  (17, (.iload 4, 19, 4, 0, 0, .null), []),
  (19, (.iand, 20, 0, 0, 0, .null), []),
  (20, (.ifCond .ne 12, 23, 32, 0, 0, .null), []),
  (23, (.aload_n 0, 24, 0, 0, 0, .null), []),
  (24, (.getfield 31, 27, 5, 6, 0, .null), [187]),
  (27, (.ldc 48, 29, 0, 0, 0, .int 65536), [668]),
  (29, (.if_icmp .lt 4, 32, 33, 0, 0, .null), []),
  (32, (.return_, 33, 0, 0, 0, .null), []),
  (33, (.aload_n 0, 34, 0, 0, 0, .null), []),
  (34, (.getfield 31, 37, 5, 6, 0, .null), [187]),
  (37, (.aload_n 0, 38, 0, 0, 0, .null), []),
  (38, (.getfield 21, 41, 5, 3, 0, .null), [184]),
  (41, (.arraylength, 42, 0, 0, 0, .null), []),
  (42, (.if_icmp .ne 7, 45, 49, 0, 0, .null), []),
  (45, (.aload_n 0, 46, 0, 0, 0, .null), []),
  (46, (.invokevirtual 71, 49, 56, 1, 0, .null), [669, 671, 30, 76]),
  (49, (.aload_n 0, 50, 0, 0, 0, .null), []),
  (50, (.getfield 18, 53, 5, 2, 0, .null), [183]),
  (53, (.iload_n 1, 54, 1, 0, 0, .null), []),
  (54, (.bipush 32, 56, 0, 0, 0, .int 32), []),
  (56, (.idiv, 57, 0, 0, 0, .null), []),
  (57, (.dup2, 58, 0, 0, 0, .null), []),
  (58, (.iaload, 59, 0, 0, 0, .null), []),
  (59, (.iload 4, 61, 4, 0, 0, .null), []),
  (61, (.ior, 62, 0, 0, 0, .null), []),
  (62, (.iastore, 63, 0, 0, 0, .null), []),
  (63, (.aload_n 0, 64, 0, 0, 0, .null), []),
  (64, (.getfield 21, 67, 5, 3, 0, .null), [184]),
  (67, (.aload_n 0, 68, 0, 0, 0, .null), []),
  (68, (.getfield 31, 71, 5, 6, 0, .null), [187]),
  (71, (.iload_n 1, 72, 1, 0, 0, .null), []),
  (72, (.iastore, 73, 0, 0, 0, .null), []),
  (73, (.aload_n 0, 74, 0, 0, 0, .null), []),
  (74, (.getfield 24, 77, 5, 4, 0, .null), [185]),
  (77, (.aload_n 0, 78, 0, 0, 0, .null), []),
  (78, (.getfield 31, 81, 5, 6, 0, .null), [187]),
  (81, (.iload_n 2, 82, 2, 0, 0, .null), []),
  (82, (.iastore, 83, 0, 0, 0, .null), [])]
def rx_tb_55_1 : List (Nat × rx_I × List Nat) := [(83, (.aload_n 0, 84, 0, 0, 0, .null), []),
  (84, (.getfield 27, 87, 5, 5, 0, .null), [186]),
  (87, (.aload_n 0, 88, 0, 0, 0, .null), []),
  (88, (.getfield 31, 91, 5, 6, 0, .null), [187]),
  (91, (.iload_n 3, 92, 3, 0, 0, .null), []),
  (92, (.i2b, 93, 0, 0, 0, .null), []),
  (93, (.bastore, 94, 0, 0, 0, .null), []),
  (94, (.aload_n 0, 95, 0, 0, 0, .null), []),
  (95, (.dup, 96, 0, 0, 0, .null), []),
  (96, (.getfield 31, 99, 5, 6, 0, .null), [187]),
  (99, (.iconst 1, 100, 0, 0, 0, .int 1), []),
  (100, (.iadd, 101, 0, 0, 0, .null), []),
  (101, (.putfield 31, 104, 5, 6, 0, .null), [187]),
  (104, (.return_, 105, 0, 0, 0, .null), [])]
def rx_tb_55 : List (Nat × rx_I × List Nat) := rx_tb_55_0 ++ rx_tb_55_1
def rx_tb_56_0 : List (Nat × rx_I × List Nat) := [(0, (.iconst 2, 1, 0, 0, 0, .int 2), []),
  (1, (.aload_n 0, 2, 0, 0, 0, .null), []),
  (2, (.getfield 31, 5, 5, 6, 0, .null), [187]),
  (5, (.imul, 6, 0, 0, 0, .null), []),
  (6, (.ldc 48, 8, 0, 0, 0, .int 65536), [668]),
  (8, (.invokestatic 74, 11, 0, 0, 7, .null), [673, 345, 82]),
  (11, (.istore_n 1, 12, 1, 0, 0, .null), []),
  (12, (.aload_n 0, 13, 0, 0, 0, .null), []),
  (13, (.aload_n 0, 14, 0, 0, 0, .null), []),
  (14, (.getfield 21, 17, 5, 3, 0, .null), [184]),
  (17, (.iload_n 1, 18, 1, 0, 0, .null), []),
  (18, (.invokestatic 79, 21, 171, 2, 0, .null), [674, 675, 83]),
  (21, (.putfield 21, 24, 5, 3, 2, .null), [184]),
  (24, (.aload_n 0, 25, 0, 0, 0, .null), []),
  (25, (.aload_n 0, 26, 0, 0, 0, .null), []),
  (26, (.getfield 24, 29, 5, 4, 0, .null), [185]),
  (29, (.iload_n 1, 30, 1, 0, 0, .null), []),
  (30, (.invokestatic 79, 33, 171, 2, 0, .null), [674, 675, 83]),
  (33, (.putfield 24, 36, 5, 4, 2, .null), [185]),
  (36, (.aload_n 0, 37, 0, 0, 0, .null), []),
  (37, (.aload_n 0, 38, 0, 0, 0, .null), []),
  (38, (.getfield 27, 41, 5, 5, 0, .null), [186]),
  (41, (.iload_n 1, 42, 1, 0, 0, .null), []),
  (42, (.invokestatic 83, 45, 170, 2, 0, .null), [686, 687, 83]),
  (45, (.putfield 27, 48, 5, 5, 2, .null), [186]),
  (48, (.return_, 49, 0, 0, 0, .null), [])]
def rx_tb_56 : List (Nat × rx_I × List Nat) := rx_tb_56_0
def rx_tb_57_0 : List (Nat × rx_I × List Nat) := [(0, (.iload_n 2, 1, 2, 0, 0, .null), []),
  (1, (.istore_n 3, 2, 3, 0, 0, .null), []),
  (2, (.iload_n 3, 3, 3, 0, 0, .null), []),
  (3, (.iconst 3, 4, 0, 0, 0, .int 3), []),
  (4, (.if_icmp .ge 33, 7, 37, 0, 0, .null), []),
  (7, (.aload_n 0, 8, 0, 0, 0, .null), []),
  (8, (.getfield 15, 11, 5, 1, 0, .null), [182]),
  (11, (.iload_n 3, 12, 3, 0, 0, .null), []),
  (12, (.iaload, 13, 0, 0, 0, .null), []),
  (13, (.iconst (-1), 14, 0, 0, 0, .int (-1)), []),
  (14, (.if_icmp .ne 17, 17, 31, 0, 0, .null), []),
  (17, (.aload_n 0, 18, 0, 0, 0, .null), []),
  (18, (.getfield 15, 21, 5, 1, 0, .null), [182]),
  (21, (.iload_n 3, 22, 3, 0, 0, .null), []),
  (22, (.iload_n 1, 23, 1, 0, 0, .null), []),
  (23, (.iastore, 24, 0, 0, 0, .null), []),
  (24, (.aload_n 0, 25, 0, 0, 0, .null), []),
  (25, (.getfield 9, 28, 5, 0, 0, .null), [180]),
  (28, (.iload_n 3, 29, 3, 0, 0, .null), []),
  (29, (.iload_n 2, 30, 2, 0, 0, .null), []),
  (30, (.iastore, 31, 0, 0, 0, .null), []),
  (31, (.iinc 3 1, 34, 3, 0, 0, .int 1), []),
  (34, (.goto (-32), 37, 2, 0, 0, .null), []),
  (37, (.return_, 38, 0, 0, 0, .null), [])]
def rx_tb_57 : List (Nat × rx_I × List Nat) := rx_tb_57_0
def rx_tb_58_0 : List (Nat × rx_I × List Nat) := [(0, (.iload_n 3, 1, 3, 0, 0, .null), []),
  (1, (.ifCond .ne 5, 4, 6, 0, 0, .null), []),
  (4, (.iconst 0, 5, 0, 0, 0, .int 0), []),
  (5, (.ireturn, 6, 0, 0, 0, .null), []),
  (6, (.aload_n 0, 7, 0, 0, 0, .null), []),
  (7, (.iload_n 2, 8, 2, 0, 0, .null), []),
  (8, (.aload_n 1, 9, 1, 0, 0, .null), []),
  (9, (.iload_n 3, 10, 3, 0, 0, .null), []),
  (10, (.invokevirtual 86, 13, 16, 4, 0, .null), [697, 698, 699, 79]),
  (13, (.ifCond .ne 5, 16, 18, 0, 0, .null), []),
  (16, (.iconst 1, 17, 0, 0, 0, .int 1), []),
  (17, (.ireturn, 18, 0, 0, 0, .null), []),
  (18, (.aload_n 0, 19, 0, 0, 0, .null), []),
  (19, (.iload_n 2, 20, 2, 0, 0, .null), []),
  (20, (.invokevirtual 90, 23, 17, 2, 0, .null), [701, 644, 645, 79]),
  (23, (.ifCond .eq 13, 26, 36, 0, 0, .null), []),
  (26, (.aload_n 1, 27, 1, 0, 0, .null), []),
  (27, (.iload_n 3, 28, 3, 0, 0, .null), []),
  (28, (.invokevirtual 90, 31, 17, 2, 0, .null), [701, 644, 645, 79]),
  (31, (.ifCond .ne 5, 34, 36, 0, 0, .null), []),
  (34, (.iconst 2, 35, 0, 0, 0, .int 2), []),
  (35, (.ireturn, 36, 0, 0, 0, .null), []),
  (36, (.iconst 3, 37, 0, 0, 0, .int 3), []),
  (37, (.ireturn, 38, 0, 0, 0, .null), [])]
def rx_tb_58 : List (Nat × rx_I × List Nat) := rx_tb_58_0
def rx_tb_59_0 : List (Nat × rx_I × List Nat) := [(0, (.aload_n 0, 1, 0, 0, 0, .null), []),
  (1, (.invokespecial 3, 4, 0, 0, 8, .null), [144, 91]),
  (4, (.aload_n 0, 5, 0, 0, 0, .null), []),
  (5, (.iconst 0, 6, 0, 0, 0, .int 0), []),
  (6, (.putfield 9, 9, 6, 0, 0, .null), [145]),
  (9, (.aload_n 0, 10, 0, 0, 0, .null), []),
  (10, (.iconst 0, 11, 0, 0, 0, .int 0), []),
  (11, (.putfield 15, 14, 6, 1, 0, .null), [147]),
  (14, (.aload_n 0, 15, 0, 0, 0, .null), []),
  (15, (.bipush 20, 17, 0, 0, 0, .int 20), []),
  (17, (.newarray .int, 19, 0, 0, 0, .null), [127]),
  (19, (.putfield 18, 22, 6, 2, 2, .null), [149]),
  (22, (.aload_n 0, 23, 0, 0, 0, .null), []),
  (23, (.bipush 100, 25, 0, 0, 0, .int 100), []),
  (25, (.newarray .byte, 27, 1, 0, 0, .null), [173]),
  (27, (.putfield 22, 30, 6, 3, 2, .null), [151]),
  (30, (.aload_n 0, 31, 0, 0, 0, .null), []),
  (31, (.iconst 0, 32, 0, 0, 0, .int 0), []),
  (32, (.putfield 26, 35, 6, 4, 0, .null), [152]),
  (35, (.aload_n 0, 36, 0, 0, 0, .null), []),
  (36, (.iconst 0, 37, 0, 0, 0, .int 0), []),
  (37, (.putfield 29, 40, 6, 5, 0, .null), [153]),
  (40, (.aload_n 0, 41, 0, 0, 0, .null), []),
  (41, (.iconst 0, 42, 0, 0, 0, .int 0), []),
  (42, (.putfield 32, 45, 6, 6, 0, .null), [154]),
  (45, (.aload_n 0, 46, 0, 0, 0, .null), []),
  (46, (.iconst 0, 47, 0, 0, 0, .int 0), []),
  (47, (.putfield 35, 50, 6, 7, 0, .null), [155]),
  (50, (.return_, 51, 0, 0, 0, .null), [])]
def rx_tb_59 : List (Nat × rx_I × List Nat) := rx_tb_59_0
def rx_tb_60_0 : List (Nat × rx_I × List Nat) := [(0, (.aload_n 0, 1, 0, 0, 0, .null), []),
  (1, (.getfield 9, 4, 6, 0, 0, .null), [145]),
  (4, (.bipush 100, 6, 0, 0, 0, .int 100), []),
  (6, (.if_icmp .ge 24, 9, 30, 0, 0, .null), []),
  (9, (.aload_n 0, 10, 0, 0, 0, .null), []),
  (10, (.getfield 22, 13, 6, 3, 0, .null), [151]),
  (13, (.aload_n 0, 14, 0, 0, 0, .null), []),
  (14, (.getfield 9, 17, 6, 0, 0, .null), [145]),
  (17, (.iload_n 1, 18, 1, 0, 0, .null), []),
  (18, (.i2b, 19, 0, 0, 0, .null), []),
  (19, (.bastore, 20, 0, 0, 0, .null), []),
  (20, (.aload_n 0, 21, 0, 0, 0, .null), []),
  (21, (.dup, 22, 0, 0, 0, .null), []),
  (22, (.getfield 9, 25, 6, 0, 0, .null), [145]),
  (25, (.iconst 1, 26, 0, 0, 0, .int 1), []),
  (26, (.iadd, 27, 0, 0, 0, .null), []),
  (27, (.putfield 9, 30, 6, 0, 0, .null), [145]),
  (30, (.return_, 31, 0, 0, 0, .null), [])]
def rx_tb_60 : List (Nat × rx_I × List Nat) := rx_tb_60_0
def rx_tb_61_0 : List (Nat × rx_I × List Nat) := [(0, (.aload_n 0, 1, 0, 0, 0, .null), []),
  (1, (.iconst 0, 2, 0, 0, 0, .int 0), []),
  (2, (.putfield 15, 5, 6, 1, 0, .null), [147]),
  (5, (.iconst 0, 6, 0, 0, 0, .int 0), []),
  (6, (.istore_n 1, 7, 1, 0, 0, .null), []),
  (7, (.iload_n 1, 8, 1, 0, 0, .null), []),
  (8, (.aload_n 0, 9, 0, 0, 0, .null), []),
  (9, (.getfield 9, 12, 6, 0, 0, .null), [145]),
  (12, (.if_icmp .ge 68, 15, 80, 0, 0, .null), []),
  (15, (.aload_n 0, 16, 0, 0, 0, .null), []),
  (16, (.getfield 22, 19, 6, 3, 0, .null), [151]),
  (19, (.iload_n 1, 20, 1, 0, 0, .null), []),
  (20, (.baload, 21, 0, 0, 0, .null), []),
  (21, (.bipush 32, 23, 0, 0, 0, .int 32), []),
  (23, (.if_icmp .eq 51, 26, 74, 0, 0, .null), []),
  (26, (.aload_n 0, 27, 0, 0, 0, .null), []),
  (27, (.getfield 22, 30, 6, 3, 0, .null), [151]),
  (30, (.iload_n 1, 31, 1, 0, 0, .null), []),
  (31, (.baload, 32, 0, 0, 0, .null), []),
  (32, (.bipush 97, 34, 0, 0, 0, .int 97), []),
  (34, (.isub, 35, 0, 0, 0, .null), []),
  (35, (.istore_n 2, 36, 2, 0, 0, .null), []),
  (36, (.iload_n 2, 37, 2, 0, 0, .null), []),
  (37, (.invokestatic 38, 40, 100, 1, 1, .null), [419, 72]),
  (40, (.ifCond .eq 12, 43, 52, 0, 0, .null), []),
  (43, (.aload_n 0, 44, 0, 0, 0, .null), []),
  (44, (.getfield 15, 47, 6, 1, 0, .null), [147]),
  (47, (.bipush 20, 49, 0, 0, 0, .int 20), []),
  (49, (.if_icmp .lt 5, 52, 54, 0, 0, .null), []),
  (52, (.iload_n 1, 53, 1, 0, 0, .null), []),
  (53, (.ireturn, 54, 0, 0, 0, .null), []),
  (54, (.aload_n 0, 55, 0, 0, 0, .null), []),
  (55, (.getfield 18, 58, 6, 2, 0, .null), [149]),
  (58, (.aload_n 0, 59, 0, 0, 0, .null), []),
  (59, (.getfield 15, 62, 6, 1, 0, .null), [147]),
  (62, (.iload_n 2, 63, 2, 0, 0, .null), []),
  (63, (.iastore, 64, 0, 0, 0, .null), []),
  (64, (.aload_n 0, 65, 0, 0, 0, .null), []),
  (65, (.dup, 66, 0, 0, 0, .null), []),
  (66, (.getfield 15, 69, 6, 1, 0, .null), [147]),
  (69, (.iconst 1, 70, 0, 0, 0, .int 1), []),
  (70, (.iadd, 71, 0, 0, 0, .null), []),
  (71, (.putfield 15, 74, 6, 1, 0, .null), [147]),
  (74, (.iinc 1 1, 77, 1, 0, 0, .int 1), []),
  (77, (.goto (-70), 80, 7, 0, 0, .null), []),
  (80, (.iconst (-1), 81, 0, 0, 0, .int (-1)), []),
  (81, (.ireturn, 82, 0, 0, 0, .null), [])]
def rx_tb_61 : List (Nat × rx_I × List Nat) := rx_tb_61_0
def rx_tb_62_0 : List (Nat × rx_I × List Nat) := [(0, (.iconst 0, 1, 0, 0, 0, .int 0), []),
  (1, (.istore_n 2, 2, 2, 0, 0, .null), []),
  (2, (.aload_n 0, 3, 0, 0, 0, .null), []),
  (3, (.iconst 0, 4, 0, 0, 0, .int 0), []),
  (4, (.putfield 26, 7, 6, 4, 0, .null), [152]),
  (7, (.iconst 0, 8, 0, 0, 0, .int 0), []),
  (8, (.istore_n 3, 9, 3, 0, 0, .null), []),
  (9, (.iload_n 3, 10, 3, 0, 0, .null), []),
  (10, (.aload_n 0, 11, 0, 0, 0, .null), []),
  (11, (.getfield 9, 14, 6, 0, 0, .null), [145]),
  (14, (.if_icmp .ge 39, 17, 53, 0, 0, .null), []),
  (17, (.aload_n 0, 18, 0, 0, 0, .null), []),
  (18, (.getfield 22, 21, 6, 3, 0, .null), [151]),
  (21, (.iload_n 3, 22, 3, 0, 0, .null), []),
  (22, (.baload, 23, 0, 0, 0, .null), []),
  (23, (.bipush 32, 25, 0, 0, 0, .int 32), []),
  (25, (.if_icmp .eq 22, 28, 47, 0, 0, .null), []),
  (28, (.aload_n 0, 29, 0, 0, 0, .null), []),
  (29, (.iload_n 3, 30, 3, 0, 0, .null), []),
  (30, (.aload_n 1, 31, 1, 0, 0, .null), []),
  (31, (.invokevirtual 42, 34, 63, 3, 0, .null), [596, 598, 24, 75]),
  (34, (.istore 4, 36, 4, 0, 0, .null), []),
  (36, (.iload 4, 38, 4, 0, 0, .null), []),
  (38, (.iconst (-1), 39, 0, 0, 0, .int (-1)), []),
  (39, (.if_icmp .eq 6, 42, 45, 0, 0, .null), []),
  (42, (.iload 4, 44, 4, 0, 0, .null), []),
  (44, (.ireturn, 45, 0, 0, 0, .null), []),
  (45, (.iconst 1, 46, 0, 0, 0, .int 1), []),
  (46, (.istore_n 2, 47, 2, 0, 0, .null), []),
  (47, (.iinc 3 1, 50, 3, 0, 0, .int 1), []),
  (50, (.goto (-41), 53, 9, 0, 0, .null), []),
  (53, (.iload_n 2, 54, 2, 0, 0, .null), []),
  (54, (.ifCond .eq 14, 57, 68, 0, 0, .null), []),
  (57, (.aload_n 0, 58, 0, 0, 0, .null), []),
  (58, (.getfield 26, 61, 6, 4, 0, .null), [152]),
  (61, (.ifCond .ne 7, 64, 68, 0, 0, .null), []),
  (64, (.iconst (-1), 65, 0, 0, 0, .int (-1)), []),
  (65, (.goto 7, 68, 72, 0, 0, .null), []),
  (68, (.aload_n 0, 69, 0, 0, 0, .null), []),
  (69, (.getfield 9, 72, 6, 0, 0, .null), [145]),
  (72, (.ireturn, 73, 0, 0, 0, .null), [])]
def rx_tb_62 : List (Nat × rx_I × List Nat) := rx_tb_62_0
def rx_tb_63_0 : List (Nat × rx_I × List Nat) := [(0, (.aload_n 0, 1, 0, 0, 0, .null), []),
  (1, (.getfield 22, 4, 6, 3, 0, .null), [151]),
  (4, (.iload_n 1, 5, 1, 0, 0, .null), []),
  (5, (.baload, 6, 0, 0, 0, .null), []),
  (6, (.istore_n 3, 7, 3, 0, 0, .null), []),
  (7, (.aload_n 0, 8, 0, 0, 0, .null), []),
  (8, (.getfield 26, 11, 6, 4, 0, .null), [152]),
  (11, (.tableswitch 57 0 2 #[25, 36, 46], 36, 0, 0, 0, .null), []),
  (36, (.aload_n 0, 37, 0, 0, 0, .null), []),
  (37, (.iload_n 1, 38, 1, 0, 0, .null), []),
  (38, (.iload_n 3, 39, 3, 0, 0, .null), []),
  (39, (.bipush 48, 41, 0, 0, 0, .int 48), []),
  (41, (.isub, 42, 0, 0, 0, .null), []),
  (42, (.aload_n 2, 43, 2, 0, 0, .null), []),
  (43, (.invokevirtual 46, 46, 64, 4, 0, .null), [600, 602, 25, 75]),
  (46, (.ireturn, 47, 0, 0, 0, .null), []),
  (47, (.aload_n 0, 48, 0, 0, 0, .null), []),
  (48, (.iload_n 1, 49, 1, 0, 0, .null), []),
  (49, (.iload_n 3, 50, 3, 0, 0, .null), []),
  (50, (.invokestatic 50, 53, 65, 1, 0, .null), [604, 605, 75]),
  (53, (.invokevirtual 54, 56, 66, 3, 0, .null), [608, 610, 26, 75]),
  (56, (.ireturn, 57, 0, 0, 0, .null), []),
  (57, (.aload_n 0, 58, 0, 0, 0, .null), []),
  (58, (.iload_n 1, 59, 1, 0, 0, .null), []),
  (59, (.iload_n 3, 60, 3, 0, 0, .null), []),
  (60, (.bipush 48, 62, 0, 0, 0, .int 48), []),
  (62, (.isub, 63, 0, 0, 0, .null), []),
  (63, (.aload_n 2, 64, 2, 0, 0, .null), []),
  (64, (.invokevirtual 58, 67, 67, 4, 0, .null), [612, 614, 27, 75]),
  (67, (.ireturn, 68, 0, 0, 0, .null), []),
  (68, (.aload_n 0, 69, 0, 0, 0, .null), []),
  (69, (.iconst 0, 70, 0, 0, 0, .int 0), []),
  (70, (.putfield 26, 73, 6, 4, 0, .null), [152]),
  (73, (.iload_n 3, 74, 3, 0, 0, .null), []),
  (74, (.bipush 59, 76, 0, 0, 0, .int 59), []),
  (76, (.if_icmp .ne 7, 79, 83, 0, 0, .null), []),
  (79, (.iconst (-1), 80, 0, 0, 0, .int (-1)), []),
  (80, (.goto 4, 83, 84, 0, 0, .null), []),
  (83, (.iload_n 1, 84, 1, 0, 0, .null), []),
  (84, (.ireturn, 85, 0, 0, 0, .null), [])]
def rx_tb_63 : List (Nat × rx_I × List Nat) := rx_tb_63_0
def rx_tb_64_0 : List (Nat × rx_I × List Nat) := [(0, (.iload_n 2, 1, 2, 0, 0, .null), []),
  (1, (.ifCond .lt 20, 4, 21, 0, 0, .null), []),
  (4, (.iload_n 2, 5, 2, 0, 0, .null), []),
  (5, (.aload_n 3, 6, 3, 0, 0, .null), []),
  (6, (.getfield 61, 9, 4, 0, 0, .null), [114]),
  (9, (.if_icmp .ge 12, 12, 21, 0, 0, .null), []),
  (12, (.aload_n 3, 13, 3, 0, 0, .null), []),
  (13, (.getfield 66, 16, 4, 1, 0, .null), [117]),
  (16, (.bipush 24, 18, 0, 0, 0, .int 24), []),
  (18, (.if_icmp .lt 5, 21, 23, 0, 0, .null), []),
  (21, (.iload_n 1, 22, 1, 0, 0, .null), []),
  (22, (.ireturn, 23, 0, 0, 0, .null), []),
  (23, (.aload_n 0, 24, 0, 0, 0, .null), []),
  (24, (.iload_n 1, 25, 1, 0, 0, .null), []),
  (25, (.putfield 29, 28, 6, 5, 0, .null), [153]),
  (28, (.aload_n 0, 29, 0, 0, 0, .null), []),
  (29, (.iload_n 2, 30, 2, 0, 0, .null), []),
  (30, (.putfield 32, 33, 6, 6, 0, .null), [154]),
  (33, (.aload_n 0, 34, 0, 0, 0, .null), []),
  (34, (.iconst 1, 35, 0, 0, 0, .int 1), []),
  (35, (.putfield 26, 38, 6, 4, 0, .null), [152]),
  (38, (.iconst (-1), 39, 0, 0, 0, .int (-1)), []),
  (39, (.ireturn, 40, 0, 0, 0, .null), [])]
def rx_tb_64 : List (Nat × rx_I × List Nat) := rx_tb_64_0
def rx_tb_65_0 : List (Nat × rx_I × List Nat) := [(0, (.iload_n 0, 1, 0, 0, 0, .null), []),
  (1, (.bipush 105, 3, 0, 0, 0, .int 105), []),
  (3, (.if_icmp .ne 5, 6, 8, 0, 0, .null), []),
  (6, (.iconst 4, 7, 0, 0, 0, .int 4), []),
  (7, (.ireturn, 8, 0, 0, 0, .null), []),
  (8, (.iload_n 0, 9, 0, 0, 0, .null), []),
  (9, (.bipush 97, 11, 0, 0, 0, .int 97), []),
  (11, (.isub, 12, 0, 0, 0, .null), []),
  (12, (.invokestatic 38, 15, 100, 1, 1, .null), [419, 72]),
  (15, (.ifCond .eq 10, 18, 25, 0, 0, .null), []),
  (18, (.iload_n 0, 19, 0, 0, 0, .null), []),
  (19, (.bipush 97, 21, 0, 0, 0, .int 97), []),
  (21, (.isub, 22, 0, 0, 0, .null), []),
  (22, (.goto 4, 25, 26, 0, 0, .null), []),
  (25, (.iconst (-1), 26, 0, 0, 0, .int (-1)), []),
  (26, (.ireturn, 27, 0, 0, 0, .null), [])]
def rx_tb_65 : List (Nat × rx_I × List Nat) := rx_tb_65_0
def rx_tb_66_0 : List (Nat × rx_I × List Nat) := [(0, (.iload_n 2, 1, 2, 0, 0, .null), []),
  (1, (.iconst (-1), 2, 0, 0, 0, .int (-1)), []),
  (2, (.if_icmp .ne 5, 5, 7, 0, 0, .null), []),
  (5, (.iload_n 1, 6, 1, 0, 0, .null), []),
  (6, (.ireturn, 7, 0, 0, 0, .null), []),
  (7, (.aload_n 0, 8, 0, 0, 0, .null), []),
  (8, (.iload_n 2, 9, 2, 0, 0, .null), []),
  (9, (.putfield 35, 12, 6, 7, 0, .null), [155]),
  (12, (.aload_n 0, 13, 0, 0, 0, .null), []),
  (13, (.iconst 2, 14, 0, 0, 0, .int 2), []),
  (14, (.putfield 26, 17, 6, 4, 0, .null), [152]),
  (17, (.iconst (-1), 18, 0, 0, 0, .int (-1)), []),
  (18, (.ireturn, 19, 0, 0, 0, .null), [])]
def rx_tb_66 : List (Nat × rx_I × List Nat) := rx_tb_66_0
def rx_tb_67_0 : List (Nat × rx_I × List Nat) := [(0, (.iload_n 2, 1, 2, 0, 0, .null), []),
  (1, (.ifCond .lt 11, 4, 12, 0, 0, .null), []),
  (4, (.iload_n 2, 5, 2, 0, 0, .null), []),
  (5, (.aload_n 3, 6, 3, 0, 0, .null), []),
  (6, (.getfield 61, 9, 4, 0, 0, .null), [114]),
  (9, (.if_icmp .lt 5, 12, 14, 0, 0, .null), []),
  (12, (.iload_n 1, 13, 1, 0, 0, .null), []),
  (13, (.ireturn, 14, 0, 0, 0, .null), []),
  (14, (.aload_n 3, 15, 3, 0, 0, .null), []),
  (15, (.aload_n 0, 16, 0, 0, 0, .null), []),
  (16, (.getfield 32, 19, 6, 6, 0, .null), [154]),
  (19, (.aload_n 0, 20, 0, 0, 0, .null), []),
  (20, (.getfield 35, 23, 6, 7, 0, .null), [155]),
  (23, (.iload_n 2, 24, 2, 0, 0, .null), []),
  (24, (.invokevirtual 69, 27, 39, 4, 0, .null), [616, 370, 371, 74]),
  (27, (.ifCond .eq 8, 30, 35, 0, 0, .null), []),
  (30, (.aload_n 0, 31, 0, 0, 0, .null), []),
  (31, (.getfield 29, 34, 6, 5, 0, .null), [153]),
  (34, (.ireturn, 35, 0, 0, 0, .null), []),
  (35, (.aload_n 3, 36, 3, 0, 0, .null), []),
  (36, (.aload_n 0, 37, 0, 0, 0, .null), []),
  (37, (.getfield 32, 40, 6, 6, 0, .null), [154]),
  (40, (.aload_n 0, 41, 0, 0, 0, .null), []),
  (41, (.getfield 35, 44, 6, 7, 0, .null), [155]),
  (44, (.iload_n 2, 45, 2, 0, 0, .null), []),
  (45, (.invokevirtual 73, 48, 40, 4, 0, .null), [617, 381, 382, 74]),
  (48, (.aload_n 0, 49, 0, 0, 0, .null), []),
  (49, (.iconst 3, 50, 0, 0, 0, .int 3), []),
  (50, (.putfield 26, 53, 6, 4, 0, .null), [152]),
  (53, (.iconst (-1), 54, 0, 0, 0, .int (-1)), []),
  (54, (.ireturn, 55, 0, 0, 0, .null), [])]
def rx_tb_67 : List (Nat × rx_I × List Nat) := rx_tb_67_0
def rx_tb_68_0 : List (Nat × rx_I × List Nat) := [(0, (.aload_n 0, 1, 0, 0, 0, .null), []),
  (1, (.invokespecial 1, 4, 0, 0, 8, .null), [90, 91]),
  (4, (.aload_n 0, 5, 0, 0, 0, .null), []),
  (5, (.iconst 4, 6, 0, 0, 0, .int 4), []),
  (6, (.anewarray 9, 9, 2, 0, 0, .null), [93]),
  (9, (.putfield 11, 12, 7, 0, 2, .null), [284]),
  (12, (.aload_n 0, 13, 0, 0, 0, .null), []),
  (13, (.iconst 4, 14, 0, 0, 0, .int 4), []),
  (14, (.anewarray 15, 17, 3, 0, 0, .null), [95]),
  (17, (.putfield 17, 20, 7, 1, 2, .null), [285]),
  (20, (.aload_n 0, 21, 0, 0, 0, .null), []),
  (21, (.new 21, 24, 3, 3, 0, .null), [97, 98, 73]),
  (24, (.dup, 25, 0, 0, 0, .null), []),
  (25, (.invokespecial 23, 28, 32, 1, 0, .null), [99, 100, 73]),
  (28, (.putfield 24, 31, 7, 2, 2, .null), [286]),
  (31, (.aload_n 0, 32, 0, 0, 0, .null), []),
  (32, (.new 28, 35, 6, 8, 0, .null), [139, 140, 75]),
  (35, (.dup, 36, 0, 0, 0, .null), []),
  (36, (.invokespecial 30, 39, 59, 1, 1, .null), [142, 75]),
  (39, (.putfield 31, 42, 7, 3, 2, .null), [287]),
  (42, (.aload_n 0, 43, 0, 0, 0, .null), []),
  (43, (.new 35, 46, 5, 7, 0, .null), [174, 175, 76]),
  (46, (.dup, 47, 0, 0, 0, .null), []),
  (47, (.invokespecial 37, 50, 49, 1, 1, .null), [177, 76]),
  (50, (.putfield 38, 53, 7, 4, 2, .null), [288]),
  (53, (.aload_n 0, 54, 0, 0, 0, .null), []),
  (54, (.new 42, 57, 0, 6, 0, .null), [203, 204, 77]),
  (57, (.dup, 58, 0, 0, 0, .null), []),
  (58, (.invokespecial 44, 61, 0, 1, 1, .null), [206, 77]),
  (61, (.putfield 45, 64, 7, 5, 2, .null), [289]),
  (64, (.aload_n 0, 65, 0, 0, 0, .null), []),
  (65, (.new 49, 68, 2, 4, 0, .null), [228, 229, 78]),
  (68, (.dup, 69, 0, 0, 0, .null), []),
  (69, (.invokespecial 51, 72, 26, 1, 1, .null), [231, 78]),
  (72, (.putfield 52, 75, 7, 6, 2, .null), [290]),
  (75, (.aload_n 0, 76, 0, 0, 0, .null), []),
  (76, (.new 9, 79, 4, 3, 0, .null), [93, 104, 74]),
  (79, (.dup, 80, 0, 0, 0, .null), []),
  (80, (.invokespecial 56, 83, 35, 1, 1, .null), [106, 74]),
  (83, (.putfield 57, 86, 7, 7, 2, .null), [291]),
  (86, (.aload_n 0, 87, 0, 0, 0, .null), []),
  (87, (.iconst 0, 88, 0, 0, 0, .int 0), []),
  (88, (.putfield 61, 91, 7, 8, 0, .null), [292]),
  (91, (.aload_n 0, 92, 0, 0, 0, .null), []),
  (92, (.iconst 0, 93, 0, 0, 0, .int 0), []),
  (93, (.putfield 65, 96, 7, 9, 0, .null), [293]),
  (96, (.aload_n 0, 97, 0, 0, 0, .null), []),
  (97, (.iconst 0, 98, 0, 0, 0, .int 0), []),
  (98, (.putfield 68, 101, 7, 10, 0, .null), [294]),
  (101, (.iconst 0, 102, 0, 0, 0, .int 0), [])]
def rx_tb_68_1 : List (Nat × rx_I × List Nat) := [(102, (.istore_n 1, 103, 1, 0, 0, .null), []),
  (103, (.iload_n 1, 104, 1, 0, 0, .null), []),
  (104, (.iconst 4, 105, 0, 0, 0, .int 4), []),
  (105, (.if_icmp .ge 35, 108, 140, 0, 0, .null), []),
  (108, (.aload_n 0, 109, 0, 0, 0, .null), []),
  (109, (.getfield 11, 112, 7, 0, 0, .null), [284]),
  (112, (.iload_n 1, 113, 1, 0, 0, .null), []),
  (113, (.new 9, 116, 4, 3, 0, .null), [93, 104, 74]),
  (116, (.dup, 117, 0, 0, 0, .null), []),
  (117, (.invokespecial 56, 120, 35, 1, 1, .null), [106, 74]),
  (120, (.aastore, 121, 0, 0, 0, .null), []),
  (121, (.aload_n 0, 122, 0, 0, 0, .null), []),
  (122, (.getfield 17, 125, 7, 1, 0, .null), [285]),
  (125, (.iload_n 1, 126, 1, 0, 0, .null), []),
  (126, (.new 15, 129, 1, 9, 0, .null), [95, 248, 79]),
  (129, (.dup, 130, 0, 0, 0, .null), []),
  (130, (.invokespecial 71, 133, 12, 1, 1, .null), [250, 79]),
  (133, (.aastore, 134, 0, 0, 0, .null), []),
  (134, (.iinc 1 1, 137, 1, 0, 0, .int 1), []),
  (137, (.goto (-34), 140, 103, 0, 0, .null), []),
  (140, (.return_, 141, 0, 0, 0, .null), [])]
def rx_tb_68 : List (Nat × rx_I × List Nat) := rx_tb_68_0 ++ rx_tb_68_1
def rx_tb_69_0 : List (Nat × rx_I × List Nat) := [(0, (.iload_n 1, 1, 1, 0, 0, .null), []),
  (1, (.invokestatic 72, 4, 99, 1, 0, .null), [322, 323, 72]),
  (4, (.ifCond .eq 14, 7, 18, 0, 0, .null), []),
  (7, (.iload_n 2, 8, 2, 0, 0, .null), []),
  (8, (.iconst 1, 9, 0, 0, 0, .int 1), []),
  (9, (.if_icmp .lt 9, 12, 18, 0, 0, .null), []),
  (12, (.iload_n 2, 13, 2, 0, 0, .null), []),
  (13, (.bipush 8, 15, 0, 0, 0, .int 8), []),
  (15, (.if_icmp .le 10, 18, 25, 0, 0, .null), []),
  (18, (.aload_n 0, 19, 0, 0, 0, .null), []),
  (19, (.bipush (-2), 21, 0, 0, 0, .int (-2)), []),
  (21, (.invokevirtual 76, 24, 95, 2, 0, .null), [325, 327, 0, 72]),
  (24, (.ireturn, 25, 0, 0, 0, .null), []),
  (25, (.aload_n 0, 26, 0, 0, 0, .null), []),
  (26, (.getfield 11, 29, 7, 0, 0, .null), [284]),
  (29, (.iload_n 1, 30, 1, 0, 0, .null), []),
  (30, (.aaload, 31, 0, 0, 0, .null), []),
  (31, (.getfield 80, 34, 4, 0, 0, .null), [111]),
  (34, (.istore_n 3, 35, 3, 0, 0, .null), []),
  (35, (.aload_n 0, 36, 0, 0, 0, .null), []),
  (36, (.iload_n 1, 37, 1, 0, 0, .null), []),
  (37, (.invokevirtual 83, 40, 93, 2, 0, .null), [329, 331, 1, 72]),
  (40, (.aload_n 0, 41, 0, 0, 0, .null), []),
  (41, (.getfield 11, 44, 7, 0, 0, .null), [284]),
  (44, (.iload_n 1, 45, 1, 0, 0, .null), []),
  (45, (.aaload, 46, 0, 0, 0, .null), []),
  (46, (.iload_n 2, 47, 2, 0, 0, .null), []),
  (47, (.invokevirtual 87, 50, 36, 2, 0, .null), [347, 348, 349, 74]),
  (50, (.iload_n 3, 51, 3, 0, 0, .null), []),
  (51, (.ireturn, 52, 0, 0, 0, .null), [])]
def rx_tb_69 : List (Nat × rx_I × List Nat) := rx_tb_69_0
def rx_tb_70_0 : List (Nat × rx_I × List Nat) := [(0, (.aload_n 0, 1, 0, 0, 0, .null), []),
  (1, (.iload_n 1, 2, 1, 0, 0, .null), []),
  (2, (.iload_n 2, 3, 2, 0, 0, .null), []),
  (3, (.iload_n 3, 4, 3, 0, 0, .null), []),
  (4, (.iload 4, 6, 4, 0, 0, .null), []),
  (6, (.invokevirtual 90, 9, 97, 5, 0, .null), [358, 360, 2, 72]),
  (9, (.ifCond .ne 10, 12, 19, 0, 0, .null), []),
  (12, (.aload_n 0, 13, 0, 0, 0, .null), []),
  (13, (.bipush (-2), 15, 0, 0, 0, .int (-2)), []),
  (15, (.invokevirtual 76, 18, 95, 2, 0, .null), [325, 327, 0, 72]),
  (18, (.ireturn, 19, 0, 0, 0, .null), []),
  (19, (.aload_n 0, 20, 0, 0, 0, .null), []),
  (20, (.getfield 11, 23, 7, 0, 0, .null), [284]),
  (23, (.iload_n 1, 24, 1, 0, 0, .null), []),
  (24, (.aaload, 25, 0, 0, 0, .null), []),
  (25, (.iload_n 2, 26, 2, 0, 0, .null), []),
  (26, (.iload_n 3, 27, 3, 0, 0, .null), []),
  (27, (.iload 4, 29, 4, 0, 0, .null), []),
  (29, (.invokevirtual 94, 32, 39, 4, 0, .null), [369, 370, 371, 74]),
  (32, (.ifCond .eq 10, 35, 42, 0, 0, .null), []),
  (35, (.aload_n 0, 36, 0, 0, 0, .null), []),
  (36, (.bipush (-3), 38, 0, 0, 0, .int (-3)), []),
  (38, (.invokevirtual 76, 41, 95, 2, 0, .null), [325, 327, 0, 72]),
  (41, (.ireturn, 42, 0, 0, 0, .null), []),
  (42, (.aload_n 0, 43, 0, 0, 0, .null), []),
  (43, (.getfield 11, 46, 7, 0, 0, .null), [284]),
  (46, (.iload_n 1, 47, 1, 0, 0, .null), []),
  (47, (.aaload, 48, 0, 0, 0, .null), []),
  (48, (.getfield 98, 51, 4, 1, 0, .null), [116]),
  (51, (.bipush 24, 53, 0, 0, 0, .int 24), []),
  (53, (.if_icmp .lt 10, 56, 63, 0, 0, .null), []),
  (56, (.aload_n 0, 57, 0, 0, 0, .null), []),
  (57, (.bipush (-4), 59, 0, 0, 0, .int (-4)), []),
  (59, (.invokevirtual 76, 62, 95, 2, 0, .null), [325, 327, 0, 72]),
  (62, (.ireturn, 63, 0, 0, 0, .null), []),
  (63, (.aload_n 0, 64, 0, 0, 0, .null), []),
  (64, (.iload_n 1, 65, 1, 0, 0, .null), []),
  (65, (.invokevirtual 83, 68, 93, 2, 0, .null), [329, 331, 1, 72]),
  (68, (.aload_n 0, 69, 0, 0, 0, .null), []),
  (69, (.getfield 11, 72, 7, 0, 0, .null), [284]),
  (72, (.iload_n 1, 73, 1, 0, 0, .null), []),
  (73, (.aaload, 74, 0, 0, 0, .null), []),
  (74, (.iload_n 2, 75, 2, 0, 0, .null), []),
  (75, (.iload_n 3, 76, 3, 0, 0, .null), []),
  (76, (.iload 4, 78, 4, 0, 0, .null), []),
  (78, (.invokevirtual 101, 81, 40, 4, 0, .null), [380, 381, 382, 74]),
  (81, (.aload_n 0, 82, 0, 0, 0, .null), []),
  (82, (.getfield 11, 85, 7, 0, 0, .null), [284]),
  (85, (.iload_n 1, 86, 1, 0, 0, .null), []),
  (86, (.aaload, 87, 0, 0, 0, .null), [])]
def rx_tb_70_1 : List (Nat × rx_I × List Nat) := [(87, (.getfield 98, 90, 4, 1, 0, .null), [116]),
  (90, (.ireturn, 91, 0, 0, 0, .null), [])]
def rx_tb_70 : List (Nat × rx_I × List Nat) := rx_tb_70_0 ++ rx_tb_70_1
def rx_tb_71_0 : List (Nat × rx_I × List Nat) := [(0, (.aload_n 0, 1, 0, 0, 0, .null), []),
  (1, (.iload_n 1, 2, 1, 0, 0, .null), []),
  (2, (.iload_n 2, 3, 2, 0, 0, .null), []),
  (3, (.iload_n 3, 4, 3, 0, 0, .null), []),
  (4, (.iload 4, 6, 4, 0, 0, .null), []),
  (6, (.invokevirtual 90, 9, 97, 5, 0, .null), [358, 360, 2, 72]),
  (9, (.ifCond .ne 10, 12, 19, 0, 0, .null), []),
  (12, (.aload_n 0, 13, 0, 0, 0, .null), []),
  (13, (.bipush (-2), 15, 0, 0, 0, .int (-2)), []),
  (15, (.invokevirtual 76, 18, 95, 2, 0, .null), [325, 327, 0, 72]),
  (18, (.ireturn, 19, 0, 0, 0, .null), []),
  (19, (.aload_n 0, 20, 0, 0, 0, .null), []),
  (20, (.getfield 11, 23, 7, 0, 0, .null), [284]),
  (23, (.iload_n 1, 24, 1, 0, 0, .null), []),
  (24, (.aaload, 25, 0, 0, 0, .null), []),
  (25, (.iload_n 2, 26, 2, 0, 0, .null), []),
  (26, (.iload_n 3, 27, 3, 0, 0, .null), []),
  (27, (.iload 4, 29, 4, 0, 0, .null), []),
  (29, (.invokevirtual 94, 32, 39, 4, 0, .null), [369, 370, 371, 74]),
  (32, (.ifCond .ne 10, 35, 42, 0, 0, .null), []),
  (35, (.aload_n 0, 36, 0, 0, 0, .null), []),
  (36, (.bipush (-3), 38, 0, 0, 0, .int (-3)), []),
  (38, (.invokevirtual 76, 41, 95, 2, 0, .null), [325, 327, 0, 72]),
  (41, (.ireturn, 42, 0, 0, 0, .null), []),
  (42, (.aload_n 0, 43, 0, 0, 0, .null), []),
  (43, (.iload_n 1, 44, 1, 0, 0, .null), []),
  (44, (.invokevirtual 83, 47, 93, 2, 0, .null), [329, 331, 1, 72]),
  (47, (.aload_n 0, 48, 0, 0, 0, .null), []),
  (48, (.getfield 11, 51, 7, 0, 0, .null), [284]),
  (51, (.iload_n 1, 52, 1, 0, 0, .null), []),
  (52, (.aaload, 53, 0, 0, 0, .null), []),
  (53, (.iload_n 2, 54, 2, 0, 0, .null), []),
  (54, (.iload_n 3, 55, 3, 0, 0, .null), []),
  (55, (.iload 4, 57, 4, 0, 0, .null), []),
  (57, (.invokevirtual 105, 60, 41, 4, 0, .null), [398, 399, 400, 74]),
  (60, (.aload_n 0, 61, 0, 0, 0, .null), []),
  (61, (.getfield 11, 64, 7, 0, 0, .null), [284]),
  (64, (.iload_n 1, 65, 1, 0, 0, .null), []),
  (65, (.aaload, 66, 0, 0, 0, .null), []),
  (66, (.getfield 98, 69, 4, 1, 0, .null), [116]),
  (69, (.ireturn, 70, 0, 0, 0, .null), [])]
def rx_tb_71 : List (Nat × rx_I × List Nat) := rx_tb_71_0
def rx_tb_72_0 : List (Nat × rx_I × List Nat) := [(0, (.iload_n 1, 1, 1, 0, 0, .null), []),
  (1, (.invokestatic 72, 4, 99, 1, 0, .null), [322, 323, 72]),
  (4, (.ifCond .eq 10, 7, 14, 0, 0, .null), []),
  (7, (.iload_n 2, 8, 2, 0, 0, .null), []),
  (8, (.invokestatic 108, 11, 102, 1, 0, .null), [406, 407, 72]),
  (11, (.ifCond .ne 10, 14, 21, 0, 0, .null), []),
  (14, (.aload_n 0, 15, 0, 0, 0, .null), []),
  (15, (.bipush (-2), 17, 0, 0, 0, .int (-2)), []),
  (17, (.invokevirtual 76, 20, 95, 2, 0, .null), [325, 327, 0, 72]),
  (20, (.ireturn, 21, 0, 0, 0, .null), []),
  (21, (.aload_n 0, 22, 0, 0, 0, .null), []),
  (22, (.iload_n 1, 23, 1, 0, 0, .null), []),
  (23, (.invokevirtual 83, 26, 93, 2, 0, .null), [329, 331, 1, 72]),
  (26, (.iconst 0, 27, 0, 0, 0, .int 0), []),
  (27, (.istore_n 3, 28, 3, 0, 0, .null), []),
  (28, (.iload_n 3, 29, 3, 0, 0, .null), []),
  (29, (.iconst 4, 30, 0, 0, 0, .int 4), []),
  (30, (.if_icmp .ge 28, 33, 58, 0, 0, .null), []),
  (33, (.iload_n 2, 34, 2, 0, 0, .null), []),
  (34, (.iload_n 3, 35, 3, 0, 0, .null), []),
  (35, (.invokestatic 111, 38, 103, 2, 0, .null), [409, 378, 72]),
  (38, (.ifCond .eq 14, 41, 52, 0, 0, .null), []),
  (41, (.aload_n 0, 42, 0, 0, 0, .null), []),
  (42, (.getfield 11, 45, 7, 0, 0, .null), [284]),
  (45, (.iload_n 1, 46, 1, 0, 0, .null), []),
  (46, (.aaload, 47, 0, 0, 0, .null), []),
  (47, (.iload_n 3, 48, 3, 0, 0, .null), []),
  (48, (.iconst 4, 49, 0, 0, 0, .int 4), []),
  (49, (.invokevirtual 115, 52, 42, 3, 0, .null), [410, 411, 412, 74]),
  (52, (.iinc 3 1, 55, 3, 0, 0, .int 1), []),
  (55, (.goto (-27), 58, 28, 0, 0, .null), []),
  (58, (.aload_n 0, 59, 0, 0, 0, .null), []),
  (59, (.getfield 11, 62, 7, 0, 0, .null), [284]),
  (62, (.iload_n 1, 63, 1, 0, 0, .null), []),
  (63, (.aaload, 64, 0, 0, 0, .null), []),
  (64, (.getfield 98, 67, 4, 1, 0, .null), [116]),
  (67, (.ireturn, 68, 0, 0, 0, .null), [])]
def rx_tb_72 : List (Nat × rx_I × List Nat) := rx_tb_72_0
def rx_tb_73_0 : List (Nat × rx_I × List Nat) := [(0, (.iload_n 1, 1, 1, 0, 0, .null), []),
  (1, (.invokestatic 72, 4, 99, 1, 0, .null), [322, 323, 72]),
  (4, (.ifCond .eq 17, 7, 21, 0, 0, .null), []),
  (7, (.iload_n 2, 8, 2, 0, 0, .null), []),
  (8, (.invokestatic 119, 11, 100, 1, 0, .null), [418, 419, 72]),
  (11, (.ifCond .eq 10, 14, 21, 0, 0, .null), []),
  (14, (.iload_n 3, 15, 3, 0, 0, .null), []),
  (15, (.invokestatic 119, 18, 100, 1, 0, .null), [418, 419, 72]),
  (18, (.ifCond .ne 10, 21, 28, 0, 0, .null), []),
  (21, (.aload_n 0, 22, 0, 0, 0, .null), []),
  (22, (.bipush (-2), 24, 0, 0, 0, .int (-2)), []),
  (24, (.invokevirtual 76, 27, 95, 2, 0, .null), [325, 327, 0, 72]),
  (27, (.ireturn, 28, 0, 0, 0, .null), []),
  (28, (.aload_n 0, 29, 0, 0, 0, .null), []),
  (29, (.iload_n 1, 30, 1, 0, 0, .null), []),
  (30, (.invokevirtual 83, 33, 93, 2, 0, .null), [329, 331, 1, 72]),
  (33, (.aload_n 0, 34, 0, 0, 0, .null), []),
  (34, (.getfield 11, 37, 7, 0, 0, .null), [284]),
  (37, (.iload_n 1, 38, 1, 0, 0, .null), []),
  (38, (.aaload, 39, 0, 0, 0, .null), []),
  (39, (.iload_n 2, 40, 2, 0, 0, .null), []),
  (40, (.iload_n 3, 41, 3, 0, 0, .null), []),
  (41, (.invokevirtual 115, 44, 42, 3, 0, .null), [410, 411, 412, 74]),
  (44, (.aload_n 0, 45, 0, 0, 0, .null), []),
  (45, (.getfield 11, 48, 7, 0, 0, .null), [284]),
  (48, (.iload_n 1, 49, 1, 0, 0, .null), []),
  (49, (.aaload, 50, 0, 0, 0, .null), []),
  (50, (.getfield 98, 53, 4, 1, 0, .null), [116]),
  (53, (.ireturn, 54, 0, 0, 0, .null), [])]
def rx_tb_73 : List (Nat × rx_I × List Nat) := rx_tb_73_0
def rx_tb_74_0 : List (Nat × rx_I × List Nat) := [(0, (.iload_n 1, 1, 1, 0, 0, .null), []),
  (1, (.invokestatic 72, 4, 99, 1, 0, .null), [322, 323, 72]),
  (4, (.ifCond .eq 25, 7, 29, 0, 0, .null), []),
  (7, (.iload_n 2, 8, 2, 0, 0, .null), []),
  (8, (.invokestatic 72, 11, 99, 1, 0, .null), [322, 323, 72]),
  (11, (.ifCond .eq 18, 14, 29, 0, 0, .null), []),
  (14, (.iload_n 3, 15, 3, 0, 0, .null), []),
  (15, (.invokestatic 108, 18, 102, 1, 0, .null), [406, 407, 72]),
  (18, (.ifCond .eq 11, 21, 29, 0, 0, .null), []),
  (21, (.iload 4, 23, 4, 0, 0, .null), []),
  (23, (.invokestatic 72, 26, 99, 1, 0, .null), [322, 323, 72]),
  (26, (.ifCond .ne 10, 29, 36, 0, 0, .null), []),
  (29, (.aload_n 0, 30, 0, 0, 0, .null), []),
  (30, (.bipush (-2), 32, 0, 0, 0, .int (-2)), []),
  (32, (.invokevirtual 76, 35, 95, 2, 0, .null), [325, 327, 0, 72]),
  (35, (.ireturn, 36, 0, 0, 0, .null), []),
  (36, (.aload_n 0, 37, 0, 0, 0, .null), []),
  (37, (.getfield 52, 40, 7, 6, 0, .null), [290]),
  (40, (.aload_n 0, 41, 0, 0, 0, .null), []),
  (41, (.getfield 11, 44, 7, 0, 0, .null), [284]),
  (44, (.iload_n 1, 45, 1, 0, 0, .null), []),
  (45, (.aaload, 46, 0, 0, 0, .null), []),
  (46, (.aload_n 0, 47, 0, 0, 0, .null), []),
  (47, (.getfield 11, 50, 7, 0, 0, .null), [284]),
  (50, (.iload_n 2, 51, 2, 0, 0, .null), []),
  (51, (.aaload, 52, 0, 0, 0, .null), []),
  (52, (.iload_n 3, 53, 3, 0, 0, .null), []),
  (53, (.aload_n 0, 54, 0, 0, 0, .null), []),
  (54, (.getfield 57, 57, 7, 7, 0, .null), [291]),
  (57, (.invokevirtual 122, 60, 27, 5, 0, .null), [425, 426, 427, 78]),
  (60, (.ifCond .ne 10, 63, 70, 0, 0, .null), []),
  (63, (.aload_n 0, 64, 0, 0, 0, .null), []),
  (64, (.bipush (-4), 66, 0, 0, 0, .int (-4)), []),
  (66, (.invokevirtual 76, 69, 95, 2, 0, .null), [325, 327, 0, 72]),
  (69, (.ireturn, 70, 0, 0, 0, .null), []),
  (70, (.aload_n 0, 71, 0, 0, 0, .null), []),
  (71, (.iload 4, 73, 4, 0, 0, .null), []),
  (73, (.invokevirtual 83, 76, 93, 2, 0, .null), [329, 331, 1, 72]),
  (76, (.aload_n 0, 77, 0, 0, 0, .null), []),
  (77, (.getfield 11, 80, 7, 0, 0, .null), [284]),
  (80, (.iload 4, 82, 4, 0, 0, .null), []),
  (82, (.aaload, 83, 0, 0, 0, .null), []),
  (83, (.aload_n 0, 84, 0, 0, 0, .null), []),
  (84, (.getfield 57, 87, 7, 7, 0, .null), [291]),
  (87, (.invokevirtual 126, 90, 37, 2, 0, .null), [451, 338, 339, 74]),
  (90, (.aload_n 0, 91, 0, 0, 0, .null), []),
  (91, (.getfield 11, 94, 7, 0, 0, .null), [284]),
  (94, (.iload 4, 96, 4, 0, 0, .null), []),
  (96, (.aaload, 97, 0, 0, 0, .null), []),
  (97, (.getfield 80, 100, 4, 0, 0, .null), [111])]
def rx_tb_74_1 : List (Nat × rx_I × List Nat) := [(100, (.ireturn, 101, 0, 0, 0, .null), [])]
def rx_tb_74 : List (Nat × rx_I × List Nat) := rx_tb_74_0 ++ rx_tb_74_1
def rx_tb_75_0 : List (Nat × rx_I × List Nat) := [(0, (.iload_n 1, 1, 1, 0, 0, .null), []),
  (1, (.invokestatic 72, 4, 99, 1, 0, .null), [322, 323, 72]),
  (4, (.ifCond .ne 10, 7, 14, 0, 0, .null), []),
  (7, (.aload_n 0, 8, 0, 0, 0, .null), []),
  (8, (.bipush (-2), 10, 0, 0, 0, .int (-2)), []),
  (10, (.invokevirtual 76, 13, 95, 2, 0, .null), [325, 327, 0, 72]),
  (13, (.ireturn, 14, 0, 0, 0, .null), []),
  (14, (.aload_n 0, 15, 0, 0, 0, .null), []),
  (15, (.iload_n 1, 16, 1, 0, 0, .null), []),
  (16, (.invokevirtual 83, 19, 93, 2, 0, .null), [329, 331, 1, 72]),
  (19, (.aload_n 0, 20, 0, 0, 0, .null), []),
  (20, (.getfield 45, 23, 7, 5, 0, .null), [289]),
  (23, (.aload_n 0, 24, 0, 0, 0, .null), []),
  (24, (.getfield 11, 27, 7, 0, 0, .null), [284]),
  (27, (.iload_n 1, 28, 1, 0, 0, .null), []),
  (28, (.aaload, 29, 0, 0, 0, .null), []),
  (29, (.invokevirtual 130, 32, 1, 2, 0, .null), [456, 457, 458, 77]),
  (32, (.aload_n 0, 33, 0, 0, 0, .null), []),
  (33, (.getfield 45, 36, 7, 5, 0, .null), [289]),
  (36, (.aload_n 0, 37, 0, 0, 0, .null), []),
  (37, (.getfield 11, 40, 7, 0, 0, .null), [284]),
  (40, (.iload_n 1, 41, 1, 0, 0, .null), []),
  (41, (.aaload, 42, 0, 0, 0, .null), []),
  (42, (.aload_n 0, 43, 0, 0, 0, .null), []),
  (43, (.getfield 57, 46, 7, 7, 0, .null), [291]),
  (46, (.invokevirtual 133, 49, 4, 3, 0, .null), [482, 483, 484, 77]),
  (49, (.aload_n 0, 50, 0, 0, 0, .null), []),
  (50, (.getfield 11, 53, 7, 0, 0, .null), [284]),
  (53, (.iload_n 1, 54, 1, 0, 0, .null), []),
  (54, (.aaload, 55, 0, 0, 0, .null), []),
  (55, (.aload_n 0, 56, 0, 0, 0, .null), []),
  (56, (.getfield 57, 59, 7, 7, 0, .null), [291]),
  (59, (.invokevirtual 126, 62, 37, 2, 0, .null), [451, 338, 339, 74]),
  (62, (.aload_n 0, 63, 0, 0, 0, .null), []),
  (63, (.getfield 11, 66, 7, 0, 0, .null), [284]),
  (66, (.iload_n 1, 67, 1, 0, 0, .null), []),
  (67, (.aaload, 68, 0, 0, 0, .null), []),
  (68, (.getfield 80, 71, 4, 0, 0, .null), [111]),
  (71, (.ireturn, 72, 0, 0, 0, .null), [])]
def rx_tb_75 : List (Nat × rx_I × List Nat) := rx_tb_75_0
def rx_tb_76_0 : List (Nat × rx_I × List Nat) := [(0, (.iload_n 1, 1, 1, 0, 0, .null), []),
  (1, (.invokestatic 72, 4, 99, 1, 0, .null), [322, 323, 72]),
  (4, (.ifCond .eq 12, 7, 16, 0, 0, .null), []),
  (7, (.iload_n 2, 8, 2, 0, 0, .null), []),
  (8, (.ifCond .lt 8, 11, 16, 0, 0, .null), []),
  (11, (.iload_n 2, 12, 2, 0, 0, .null), []),
  (12, (.iconst 5, 13, 0, 0, 0, .int 5), []),
  (13, (.if_icmp .le 10, 16, 23, 0, 0, .null), []),
  (16, (.aload_n 0, 17, 0, 0, 0, .null), []),
  (17, (.bipush (-2), 19, 0, 0, 0, .int (-2)), []),
  (19, (.invokevirtual 76, 22, 95, 2, 0, .null), [325, 327, 0, 72]),
  (22, (.ireturn, 23, 0, 0, 0, .null), []),
  (23, (.aload_n 0, 24, 0, 0, 0, .null), []),
  (24, (.iload_n 1, 25, 1, 0, 0, .null), []),
  (25, (.iload_n 2, 26, 2, 0, 0, .null), []),
  (26, (.invokevirtual 137, 29, 92, 3, 0, .null), [509, 511, 17, 72]),
  (29, (.ireturn, 30, 0, 0, 0, .null), [])]
def rx_tb_76 : List (Nat × rx_I × List Nat) := rx_tb_76_0
def rx_tb_77_0 : List (Nat × rx_I × List Nat) := [(0, (.aload_n 0, 1, 0, 0, 0, .null), []),
  (1, (.iload_n 1, 2, 1, 0, 0, .null), []),
  (2, (.iload_n 2, 3, 2, 0, 0, .null), []),
  (3, (.invokevirtual 141, 6, 96, 3, 0, .null), [362, 364, 3, 72]),
  (6, (.ifCond .eq 10, 9, 16, 0, 0, .null), []),
  (9, (.iload_n 3, 10, 3, 0, 0, .null), []),
  (10, (.invokestatic 144, 13, 101, 1, 0, .null), [366, 367, 72]),
  (13, (.ifCond .ne 10, 16, 23, 0, 0, .null), []),
  (16, (.aload_n 0, 17, 0, 0, 0, .null), []),
  (17, (.bipush (-2), 19, 0, 0, 0, .int (-2)), []),
  (19, (.invokevirtual 76, 22, 95, 2, 0, .null), [325, 327, 0, 72]),
  (22, (.ireturn, 23, 0, 0, 0, .null), []),
  (23, (.aload_n 0, 24, 0, 0, 0, .null), []),
  (24, (.getfield 11, 27, 7, 0, 0, .null), [284]),
  (27, (.iload_n 1, 28, 1, 0, 0, .null), []),
  (28, (.aaload, 29, 0, 0, 0, .null), []),
  (29, (.iload_n 2, 30, 2, 0, 0, .null), []),
  (30, (.iload_n 3, 31, 3, 0, 0, .null), []),
  (31, (.invokevirtual 147, 34, 38, 3, 0, .null), [563, 374, 375, 74]),
  (34, (.ireturn, 35, 0, 0, 0, .null), [])]
def rx_tb_77 : List (Nat × rx_I × List Nat) := rx_tb_77_0
def rx_tb_78_0 : List (Nat × rx_I × List Nat) := [(0, (.aload_n 0, 1, 0, 0, 0, .null), []),
  (1, (.iload_n 1, 2, 1, 0, 0, .null), []),
  (2, (.iload_n 2, 3, 2, 0, 0, .null), []),
  (3, (.invokevirtual 141, 6, 96, 3, 0, .null), [362, 364, 3, 72]),
  (6, (.ifCond .eq 13, 9, 19, 0, 0, .null), []),
  (9, (.aload_n 0, 10, 0, 0, 0, .null), []),
  (10, (.iload_n 3, 11, 3, 0, 0, .null), []),
  (11, (.iload 4, 13, 4, 0, 0, .null), []),
  (13, (.invokevirtual 141, 16, 96, 3, 0, .null), [362, 364, 3, 72]),
  (16, (.ifCond .ne 10, 19, 26, 0, 0, .null), []),
  (19, (.aload_n 0, 20, 0, 0, 0, .null), []),
  (20, (.bipush (-2), 22, 0, 0, 0, .int (-2)), []),
  (22, (.invokevirtual 76, 25, 95, 2, 0, .null), [325, 327, 0, 72]),
  (25, (.ireturn, 26, 0, 0, 0, .null), []),
  (26, (.aload_n 0, 27, 0, 0, 0, .null), []),
  (27, (.getfield 45, 30, 7, 5, 0, .null), [289]),
  (30, (.aload_n 0, 31, 0, 0, 0, .null), []),
  (31, (.getfield 11, 34, 7, 0, 0, .null), [284]),
  (34, (.iload_n 1, 35, 1, 0, 0, .null), []),
  (35, (.aaload, 36, 0, 0, 0, .null), []),
  (36, (.aload_n 0, 37, 0, 0, 0, .null), []),
  (37, (.getfield 11, 40, 7, 0, 0, .null), [284]),
  (40, (.iload_n 3, 41, 3, 0, 0, .null), []),
  (41, (.aaload, 42, 0, 0, 0, .null), []),
  (42, (.invokevirtual 150, 45, 2, 3, 0, .null), [568, 569, 570, 77]),
  (45, (.aload_n 0, 46, 0, 0, 0, .null), []),
  (46, (.getfield 45, 49, 7, 5, 0, .null), [289]),
  (49, (.iload_n 2, 50, 2, 0, 0, .null), []),
  (50, (.iload 4, 52, 4, 0, 0, .null), []),
  (52, (.invokevirtual 153, 55, 3, 3, 0, .null), [572, 573, 574, 77]),
  (55, (.ifCond .eq 7, 58, 62, 0, 0, .null), []),
  (58, (.iconst 1, 59, 0, 0, 0, .int 1), []),
  (59, (.goto 4, 62, 63, 0, 0, .null), []),
  (62, (.iconst 0, 63, 0, 0, 0, .int 0), []),
  (63, (.ireturn, 64, 0, 0, 0, .null), [])]
def rx_tb_78 : List (Nat × rx_I × List Nat) := rx_tb_78_0
def rx_tb_79_0 : List (Nat × rx_I × List Nat) := [(0, (.iload_n 1, 1, 1, 0, 0, .null), []),
  (1, (.ifCond .lt 9, 4, 10, 0, 0, .null), []),
  (4, (.iload_n 1, 5, 1, 0, 0, .null), []),
  (5, (.bipush 127, 7, 0, 0, 0, .int 127), []),
  (7, (.if_icmp .le 10, 10, 17, 0, 0, .null), []),
  (10, (.aload_n 0, 11, 0, 0, 0, .null), []),
  (11, (.bipush (-2), 13, 0, 0, 0, .int (-2)), []),
  (13, (.invokevirtual 76, 16, 95, 2, 0, .null), [325, 327, 0, 72]),
  (16, (.ireturn, 17, 0, 0, 0, .null), []),
  (17, (.aload_n 0, 18, 0, 0, 0, .null), []),
  (18, (.getfield 31, 21, 7, 3, 0, .null), [287]),
  (21, (.getfield 156, 24, 6, 0, 0, .null), [146]),
  (24, (.bipush 100, 26, 0, 0, 0, .int 100), []),
  (26, (.if_icmp .lt 10, 29, 36, 0, 0, .null), []),
  (29, (.aload_n 0, 30, 0, 0, 0, .null), []),
  (30, (.bipush (-4), 32, 0, 0, 0, .int (-4)), []),
  (32, (.invokevirtual 76, 35, 95, 2, 0, .null), [325, 327, 0, 72]),
  (35, (.ireturn, 36, 0, 0, 0, .null), []),
  (36, (.aload_n 0, 37, 0, 0, 0, .null), []),
  (37, (.getfield 31, 40, 7, 3, 0, .null), [287]),
  (40, (.iload_n 1, 41, 1, 0, 0, .null), []),
  (41, (.invokevirtual 159, 44, 60, 2, 0, .null), [580, 581, 582, 75]),
  (44, (.aload_n 0, 45, 0, 0, 0, .null), []),
  (45, (.getfield 31, 48, 7, 3, 0, .null), [287]),
  (48, (.getfield 156, 51, 6, 0, 0, .null), [146]),
  (51, (.ireturn, 52, 0, 0, 0, .null), [])]
def rx_tb_79 : List (Nat × rx_I × List Nat) := rx_tb_79_0
def rx_tb_80_0 : List (Nat × rx_I × List Nat) := [(0, (.aload_n 0, 1, 0, 0, 0, .null), []),
  (1, (.getfield 31, 4, 7, 3, 0, .null), [287]),
  (4, (.getfield 156, 7, 6, 0, 0, .null), [146]),
  (7, (.istore_n 1, 8, 1, 0, 0, .null), []),
  (8, (.aload_n 0, 9, 0, 0, 0, .null), []),
  (9, (.getfield 31, 12, 7, 3, 0, .null), [287]),
  (12, (.iconst 0, 13, 0, 0, 0, .int 0), []),
  (13, (.putfield 156, 16, 6, 0, 0, .null), [146]),
  (16, (.iload_n 1, 17, 1, 0, 0, .null), []),
  (17, (.ireturn, 18, 0, 0, 0, .null), [])]
def rx_tb_80 : List (Nat × rx_I × List Nat) := rx_tb_80_0
def rx_tb_81_0 : List (Nat × rx_I × List Nat) := [(0, (.iload_n 1, 1, 1, 0, 0, .null), []),
  (1, (.invokestatic 72, 4, 99, 1, 0, .null), [322, 323, 72]),
  (4, (.ifCond .ne 10, 7, 14, 0, 0, .null), []),
  (7, (.aload_n 0, 8, 0, 0, 0, .null), []),
  (8, (.bipush (-2), 10, 0, 0, 0, .int (-2)), []),
  (10, (.invokevirtual 76, 13, 95, 2, 0, .null), [325, 327, 0, 72]),
  (13, (.ireturn, 14, 0, 0, 0, .null), []),
  (14, (.aload_n 0, 15, 0, 0, 0, .null), []),
  (15, (.getfield 57, 18, 7, 7, 0, .null), [291]),
  (18, (.aload_n 0, 19, 0, 0, 0, .null), []),
  (19, (.getfield 11, 22, 7, 0, 0, .null), [284]),
  (22, (.iload_n 1, 23, 1, 0, 0, .null), []),
  (23, (.aaload, 24, 0, 0, 0, .null), []),
  (24, (.invokevirtual 126, 27, 37, 2, 0, .null), [451, 338, 339, 74]),
  (27, (.aload_n 0, 28, 0, 0, 0, .null), []),
  (28, (.getfield 31, 31, 7, 3, 0, .null), [287]),
  (31, (.aload_n 0, 32, 0, 0, 0, .null), []),
  (32, (.getfield 57, 35, 7, 7, 0, .null), [291]),
  (35, (.invokevirtual 162, 38, 62, 2, 0, .null), [592, 593, 594, 75]),
  (38, (.istore_n 2, 39, 2, 0, 0, .null), []),
  (39, (.iload_n 2, 40, 2, 0, 0, .null), []),
  (40, (.iconst (-1), 41, 0, 0, 0, .int (-1)), []),
  (41, (.if_icmp .eq 8, 44, 49, 0, 0, .null), []),
  (44, (.bipush (-10), 46, 0, 0, 0, .int (-10)), []),
  (46, (.iload_n 2, 47, 2, 0, 0, .null), []),
  (47, (.isub, 48, 0, 0, 0, .null), []),
  (48, (.ireturn, 49, 0, 0, 0, .null), []),
  (49, (.aload_n 0, 50, 0, 0, 0, .null), []),
  (50, (.getfield 57, 53, 7, 7, 0, .null), [291]),
  (53, (.getfield 98, 56, 4, 1, 0, .null), [116]),
  (56, (.aload_n 0, 57, 0, 0, 0, .null), []),
  (57, (.getfield 11, 60, 7, 0, 0, .null), [284]),
  (60, (.iload_n 1, 61, 1, 0, 0, .null), []),
  (61, (.aaload, 62, 0, 0, 0, .null), []),
  (62, (.getfield 98, 65, 4, 1, 0, .null), [116]),
  (65, (.isub, 66, 0, 0, 0, .null), []),
  (66, (.istore_n 3, 67, 3, 0, 0, .null), []),
  (67, (.aload_n 0, 68, 0, 0, 0, .null), []),
  (68, (.iload_n 1, 69, 1, 0, 0, .null), []),
  (69, (.invokevirtual 83, 72, 93, 2, 0, .null), [329, 331, 1, 72]),
  (72, (.aload_n 0, 73, 0, 0, 0, .null), []),
  (73, (.getfield 11, 76, 7, 0, 0, .null), [284]),
  (76, (.iload_n 1, 77, 1, 0, 0, .null), []),
  (77, (.aaload, 78, 0, 0, 0, .null), []),
  (78, (.aload_n 0, 79, 0, 0, 0, .null), []),
  (79, (.getfield 57, 82, 7, 7, 0, .null), [291]),
  (82, (.invokevirtual 126, 85, 37, 2, 0, .null), [451, 338, 339, 74]),
  (85, (.iload_n 3, 86, 3, 0, 0, .null), []),
  (86, (.ireturn, 87, 0, 0, 0, .null), [])]
def rx_tb_81 : List (Nat × rx_I × List Nat) := rx_tb_81_0
def rx_tb_82_0 : List (Nat × rx_I × List Nat) := [(0, (.iload_n 1, 1, 1, 0, 0, .null), []),
  (1, (.invokestatic 72, 4, 99, 1, 0, .null), [322, 323, 72]),
  (4, (.ifCond .eq 12, 7, 16, 0, 0, .null), []),
  (7, (.iload_n 2, 8, 2, 0, 0, .null), []),
  (8, (.ifCond .lt 8, 11, 16, 0, 0, .null), []),
  (11, (.iload_n 2, 12, 2, 0, 0, .null), []),
  (12, (.iconst 3, 13, 0, 0, 0, .int 3), []),
  (13, (.if_icmp .le 10, 16, 23, 0, 0, .null), []),
  (16, (.aload_n 0, 17, 0, 0, 0, .null), []),
  (17, (.bipush (-2), 19, 0, 0, 0, .int (-2)), []),
  (19, (.invokevirtual 76, 22, 95, 2, 0, .null), [325, 327, 0, 72]),
  (22, (.ireturn, 23, 0, 0, 0, .null), []),
  (23, (.aload_n 0, 24, 0, 0, 0, .null), []),
  (24, (.getfield 31, 27, 7, 3, 0, .null), [287]),
  (27, (.invokevirtual 166, 30, 61, 1, 0, .null), [622, 623, 624, 75]),
  (30, (.istore_n 3, 31, 3, 0, 0, .null), []),
  (31, (.iload_n 3, 32, 3, 0, 0, .null), []),
  (32, (.iconst (-1), 33, 0, 0, 0, .int (-1)), []),
  (33, (.if_icmp .eq 8, 36, 41, 0, 0, .null), []),
  (36, (.bipush (-10), 38, 0, 0, 0, .int (-10)), []),
  (38, (.iload_n 3, 39, 3, 0, 0, .null), []),
  (39, (.isub, 40, 0, 0, 0, .null), []),
  (40, (.ireturn, 41, 0, 0, 0, .null), []),
  (41, (.aload_n 0, 42, 0, 0, 0, .null), []),
  (42, (.iload_n 1, 43, 1, 0, 0, .null), []),
  (43, (.invokevirtual 170, 46, 94, 2, 0, .null), [525, 527, 18, 72]),
  (46, (.astore 4, 48, 4, 0, 0, .null), []),
  (48, (.aload 4, 50, 4, 0, 0, .null), []),
  (50, (.invokevirtual 174, 53, 14, 1, 0, .null), [626, 627, 628, 79]),
  (53, (.istore 5, 55, 5, 0, 0, .null), []),
  (55, (.iconst 0, 56, 0, 0, 0, .int 0), []),
  (56, (.istore 6, 58, 6, 0, 0, .null), []),
  (58, (.iload 6, 60, 6, 0, 0, .null), []),
  (60, (.aload_n 0, 61, 0, 0, 0, .null), []),
  (61, (.getfield 31, 64, 7, 3, 0, .null), [287]),
  (64, (.getfield 177, 67, 6, 1, 0, .null), [148]),
  (67, (.if_icmp .ge 28, 70, 95, 0, 0, .null), []),
  (70, (.aload 4, 72, 4, 0, 0, .null), []),
  (72, (.iload 5, 74, 5, 0, 0, .null), []),
  (74, (.aload_n 0, 75, 0, 0, 0, .null), []),
  (75, (.getfield 31, 78, 7, 3, 0, .null), [287]),
  (78, (.getfield 180, 81, 6, 2, 0, .null), [150]),
  (81, (.iload 6, 83, 6, 0, 0, .null), []),
  (83, (.iaload, 84, 0, 0, 0, .null), []),
  (84, (.invokevirtual 184, 87, 15, 3, 0, .null), [630, 631, 632, 79]),
  (87, (.istore 5, 89, 5, 0, 0, .null), []),
  (89, (.iinc 6 1, 92, 6, 0, 0, .int 1), []),
  (92, (.goto (-34), 95, 58, 0, 0, .null), []),
  (95, (.iload_n 2, 96, 2, 0, 0, .null), []),
  (96, (.ifCond .ne 6, 99, 102, 0, 0, .null), [])]
def rx_tb_82_1 : List (Nat × rx_I × List Nat) := [(99, (.iload 5, 101, 5, 0, 0, .null), []),
  (101, (.ireturn, 102, 0, 0, 0, .null), []),
  (102, (.iload_n 2, 103, 2, 0, 0, .null), []),
  (103, (.iconst 1, 104, 0, 0, 0, .int 1), []),
  (104, (.if_icmp .ne 11, 107, 115, 0, 0, .null), []),
  (107, (.aload 4, 109, 4, 0, 0, .null), []),
  (109, (.iload 5, 111, 5, 0, 0, .null), []),
  (111, (.invokevirtual 187, 114, 18, 2, 0, .null), [634, 635, 636, 79]),
  (114, (.ireturn, 115, 0, 0, 0, .null), []),
  (115, (.iload_n 2, 116, 2, 0, 0, .null), []),
  (116, (.iconst 2, 117, 0, 0, 0, .int 2), []),
  (117, (.if_icmp .ne 11, 120, 128, 0, 0, .null), []),
  (120, (.aload 4, 122, 4, 0, 0, .null), []),
  (122, (.iload 5, 124, 5, 0, 0, .null), []),
  (124, (.invokevirtual 190, 127, 19, 2, 0, .null), [638, 639, 640, 79]),
  (127, (.ireturn, 128, 0, 0, 0, .null), []),
  (128, (.aload 4, 130, 4, 0, 0, .null), []),
  (130, (.iload 5, 132, 5, 0, 0, .null), []),
  (132, (.invokevirtual 193, 135, 17, 2, 0, .null), [643, 644, 645, 79]),
  (135, (.ifCond .eq 7, 138, 142, 0, 0, .null), []),
  (138, (.iconst 1, 139, 0, 0, 0, .int 1), []),
  (139, (.goto 4, 142, 143, 0, 0, .null), []),
  (142, (.iconst 0, 143, 0, 0, 0, .int 0), []),
  (143, (.ireturn, 144, 0, 0, 0, .null), [])]
def rx_tb_82 : List (Nat × rx_I × List Nat) := rx_tb_82_0 ++ rx_tb_82_1
def rx_tb_83_0 : List (Nat × rx_I × List Nat) := [(0, (.iload_n 1, 1, 1, 0, 0, .null), []),
  (1, (.iload_n 2, 2, 2, 0, 0, .null), []),
  (2, (.iload_n 3, 3, 3, 0, 0, .null), []),
  (3, (.invokestatic 196, 6, 98, 3, 0, .null), [651, 652, 72]),
  (6, (.ifCond .ne 10, 9, 16, 0, 0, .null), []),
  (9, (.aload_n 0, 10, 0, 0, 0, .null), []),
  (10, (.bipush (-2), 12, 0, 0, 0, .int (-2)), []),
  (12, (.invokevirtual 76, 15, 95, 2, 0, .null), [325, 327, 0, 72]),
  (15, (.ireturn, 16, 0, 0, 0, .null), []),
  (16, (.aload_n 0, 17, 0, 0, 0, .null), []),
  (17, (.getfield 38, 20, 7, 4, 0, .null), [288]),
  (20, (.aload_n 0, 21, 0, 0, 0, .null), []),
  (21, (.iload_n 1, 22, 1, 0, 0, .null), []),
  (22, (.invokevirtual 170, 25, 94, 2, 0, .null), [525, 527, 18, 72]),
  (25, (.aload_n 0, 26, 0, 0, 0, .null), []),
  (26, (.iload_n 2, 27, 2, 0, 0, .null), []),
  (27, (.invokevirtual 170, 30, 94, 2, 0, .null), [525, 527, 18, 72]),
  (30, (.iload_n 3, 31, 3, 0, 0, .null), []),
  (31, (.invokevirtual 199, 34, 50, 4, 0, .null), [654, 655, 656, 76]),
  (34, (.aload_n 0, 35, 0, 0, 0, .null), []),
  (35, (.getfield 38, 38, 7, 4, 0, .null), [288]),
  (38, (.iload_n 3, 39, 3, 0, 0, .null), []),
  (39, (.invokevirtual 203, 42, 51, 2, 0, .null), [711, 707, 708, 76]),
  (42, (.ifCond .eq 7, 45, 49, 0, 0, .null), []),
  (45, (.iconst 0, 46, 0, 0, 0, .int 0), []),
  (46, (.goto 4, 49, 50, 0, 0, .null), []),
  (49, (.iconst 1, 50, 0, 0, 0, .int 1), []),
  (50, (.ireturn, 51, 0, 0, 0, .null), [])]
def rx_tb_83 : List (Nat × rx_I × List Nat) := rx_tb_83_0
def rx_tb_84_0 : List (Nat × rx_I × List Nat) := [(0, (.iload_n 1, 1, 1, 0, 0, .null), []),
  (1, (.iload_n 2, 2, 2, 0, 0, .null), []),
  (2, (.iload_n 3, 3, 3, 0, 0, .null), []),
  (3, (.invokestatic 196, 6, 98, 3, 0, .null), [651, 652, 72]),
  (6, (.ifCond .eq 9, 9, 15, 0, 0, .null), []),
  (9, (.iload 4, 11, 4, 0, 0, .null), []),
  (11, (.iconst (-1), 12, 0, 0, 0, .int (-1)), []),
  (12, (.if_icmp .ge 10, 15, 22, 0, 0, .null), []),
  (15, (.aload_n 0, 16, 0, 0, 0, .null), []),
  (16, (.bipush (-2), 18, 0, 0, 0, .int (-2)), []),
  (18, (.invokevirtual 76, 21, 95, 2, 0, .null), [325, 327, 0, 72]),
  (21, (.ireturn, 22, 0, 0, 0, .null), []),
  (22, (.aload_n 0, 23, 0, 0, 0, .null), []),
  (23, (.getfield 38, 26, 7, 4, 0, .null), [288]),
  (26, (.aload_n 0, 27, 0, 0, 0, .null), []),
  (27, (.iload_n 1, 28, 1, 0, 0, .null), []),
  (28, (.invokevirtual 170, 31, 94, 2, 0, .null), [525, 527, 18, 72]),
  (31, (.aload_n 0, 32, 0, 0, 0, .null), []),
  (32, (.iload_n 2, 33, 2, 0, 0, .null), []),
  (33, (.invokevirtual 170, 36, 94, 2, 0, .null), [525, 527, 18, 72]),
  (36, (.iload_n 3, 37, 3, 0, 0, .null), []),
  (37, (.invokevirtual 199, 40, 50, 4, 0, .null), [654, 655, 656, 76]),
  (40, (.aload_n 0, 41, 0, 0, 0, .null), []),
  (41, (.getfield 38, 44, 7, 4, 0, .null), [288]),
  (44, (.iload_n 3, 45, 3, 0, 0, .null), []),
  (45, (.invokevirtual 203, 48, 51, 2, 0, .null), [711, 707, 708, 76]),
  (48, (.ifCond .ne 10, 51, 58, 0, 0, .null), []),
  (51, (.aload_n 0, 52, 0, 0, 0, .null), []),
  (52, (.bipush (-3), 54, 0, 0, 0, .int (-3)), []),
  (54, (.invokevirtual 76, 57, 95, 2, 0, .null), [325, 327, 0, 72]),
  (57, (.ireturn, 58, 0, 0, 0, .null), []),
  (58, (.aload_n 0, 59, 0, 0, 0, .null), []),
  (59, (.getfield 38, 62, 7, 4, 0, .null), [288]),
  (62, (.iload_n 3, 63, 3, 0, 0, .null), []),
  (63, (.invokevirtual 206, 66, 52, 2, 0, .null), [716, 717, 718, 76]),
  (66, (.istore 5, 68, 5, 0, 0, .null), []),
  (68, (.iload 4, 70, 4, 0, 0, .null), []),
  (70, (.iconst (-1), 71, 0, 0, 0, .int (-1)), []),
  (71, (.if_icmp .ne 6, 74, 77, 0, 0, .null), []),
  (74, (.iload 5, 76, 5, 0, 0, .null), []),
  (76, (.ireturn, 77, 0, 0, 0, .null), []),
  (77, (.iload 4, 79, 4, 0, 0, .null), []),
  (79, (.iload 5, 81, 5, 0, 0, .null), []),
  (81, (.if_icmp .lt 6, 84, 87, 0, 0, .null), []),
  (84, (.bipush (-5), 86, 0, 0, 0, .int (-5)), []),
  (86, (.ireturn, 87, 0, 0, 0, .null), []),
  (87, (.aload_n 0, 88, 0, 0, 0, .null), []),
  (88, (.getfield 38, 91, 7, 4, 0, .null), [288]),
  (91, (.iload_n 3, 92, 3, 0, 0, .null), []),
  (92, (.iload 5, 94, 5, 0, 0, .null), [])]
def rx_tb_84_1 : List (Nat × rx_I × List Nat) := [(94, (.iconst 1, 95, 0, 0, 0, .int 1), []),
  (95, (.isub, 96, 0, 0, 0, .null), []),
  (96, (.iload 4, 98, 4, 0, 0, .null), []),
  (98, (.isub, 99, 0, 0, 0, .null), []),
  (99, (.invokevirtual 208, 102, 53, 3, 0, .null), [720, 721, 722, 76]),
  (102, (.ireturn, 103, 0, 0, 0, .null), [])]
def rx_tb_84 : List (Nat × rx_I × List Nat) := rx_tb_84_0 ++ rx_tb_84_1
def rx_tb_85_0 : List (Nat × rx_I × List Nat) := [(0, (.iload_n 1, 1, 1, 0, 0, .null), []),
  (1, (.iload_n 2, 2, 2, 0, 0, .null), []),
  (2, (.iload_n 3, 3, 3, 0, 0, .null), []),
  (3, (.invokestatic 196, 6, 98, 3, 0, .null), [651, 652, 72]),
  (6, (.ifCond .ne 10, 9, 16, 0, 0, .null), []),
  (9, (.aload_n 0, 10, 0, 0, 0, .null), []),
  (10, (.bipush (-2), 12, 0, 0, 0, .int (-2)), []),
  (12, (.invokevirtual 76, 15, 95, 2, 0, .null), [325, 327, 0, 72]),
  (15, (.ireturn, 16, 0, 0, 0, .null), []),
  (16, (.aload_n 0, 17, 0, 0, 0, .null), []),
  (17, (.getfield 38, 20, 7, 4, 0, .null), [288]),
  (20, (.aload_n 0, 21, 0, 0, 0, .null), []),
  (21, (.iload_n 1, 22, 1, 0, 0, .null), []),
  (22, (.invokevirtual 170, 25, 94, 2, 0, .null), [525, 527, 18, 72]),
  (25, (.aload_n 0, 26, 0, 0, 0, .null), []),
  (26, (.iload_n 2, 27, 2, 0, 0, .null), []),
  (27, (.invokevirtual 170, 30, 94, 2, 0, .null), [525, 527, 18, 72]),
  (30, (.iload_n 3, 31, 3, 0, 0, .null), []),
  (31, (.invokevirtual 199, 34, 50, 4, 0, .null), [654, 655, 656, 76]),
  (34, (.aload_n 0, 35, 0, 0, 0, .null), []),
  (35, (.getfield 38, 38, 7, 4, 0, .null), [288]),
  (38, (.iload_n 3, 39, 3, 0, 0, .null), []),
  (39, (.invokevirtual 203, 42, 51, 2, 0, .null), [711, 707, 708, 76]),
  (42, (.ifCond .ne 10, 45, 52, 0, 0, .null), []),
  (45, (.aload_n 0, 46, 0, 0, 0, .null), []),
  (46, (.bipush (-3), 48, 0, 0, 0, .int (-3)), []),
  (48, (.invokevirtual 76, 51, 95, 2, 0, .null), [325, 327, 0, 72]),
  (51, (.ireturn, 52, 0, 0, 0, .null), []),
  (52, (.aload_n 0, 53, 0, 0, 0, .null), []),
  (53, (.getfield 38, 56, 7, 4, 0, .null), [288]),
  (56, (.getfield 211, 59, 5, 0, 0, .null), [181]),
  (59, (.iload_n 3, 60, 3, 0, 0, .null), []),
  (60, (.iaload, 61, 0, 0, 0, .null), []),
  (61, (.ireturn, 62, 0, 0, 0, .null), [])]
def rx_tb_85 : List (Nat × rx_I × List Nat) := rx_tb_85_0
def rx_tb_86_0 : List (Nat × rx_I × List Nat) := [(0, (.aload_n 0, 1, 0, 0, 0, .null), []),
  (1, (.getfield 24, 4, 7, 2, 0, .null), [286]),
  (4, (.getfield 214, 7, 3, 0, 0, .null), [129]),
  (7, (.ifCond .ne 10, 10, 17, 0, 0, .null), []),
  (10, (.aload_n 0, 11, 0, 0, 0, .null), []),
  (11, (.bipush (-3), 13, 0, 0, 0, .int (-3)), []),
  (13, (.invokevirtual 76, 16, 95, 2, 0, .null), [325, 327, 0, 72]),
  (16, (.ireturn, 17, 0, 0, 0, .null), []),
  (17, (.aload_n 0, 18, 0, 0, 0, .null), []),
  (18, (.getfield 24, 21, 7, 2, 0, .null), [286]),
  (21, (.aload_n 0, 22, 0, 0, 0, .null), []),
  (22, (.getfield 11, 25, 7, 0, 0, .null), [284]),
  (25, (.invokevirtual 215, 28, 34, 2, 0, .null), [732, 733, 734, 73]),
  (28, (.iconst 0, 29, 0, 0, 0, .int 0), []),
  (29, (.istore_n 1, 30, 1, 0, 0, .null), []),
  (30, (.iload_n 1, 31, 1, 0, 0, .null), []),
  (31, (.iconst 4, 32, 0, 0, 0, .int 4), []),
  (32, (.if_icmp .ge 19, 35, 51, 0, 0, .null), []),
  (35, (.aload_n 0, 36, 0, 0, 0, .null), []),
  (36, (.getfield 17, 39, 7, 1, 0, .null), [285]),
  (39, (.iload_n 1, 40, 1, 0, 0, .null), []),
  (40, (.aaload, 41, 0, 0, 0, .null), []),
  (41, (.iconst 0, 42, 0, 0, 0, .int 0), []),
  (42, (.putfield 219, 45, 1, 0, 1, .null), [254]),
  (45, (.iinc 1 1, 48, 1, 0, 0, .int 1), []),
  (48, (.goto (-18), 51, 30, 0, 0, .null), []),
  (51, (.aload_n 0, 52, 0, 0, 0, .null), []),
  (52, (.getfield 24, 55, 7, 2, 0, .null), [286]),
  (55, (.getfield 214, 58, 3, 0, 0, .null), [129]),
  (58, (.ireturn, 59, 0, 0, 0, .null), [])]
def rx_tb_86 : List (Nat × rx_I × List Nat) := rx_tb_86_0
def rx_tb_87_0 : List (Nat × rx_I × List Nat) := [(0, (.iload_n 1, 1, 1, 0, 0, .null), []),
  (1, (.ifCond .lt 8, 4, 9, 0, 0, .null), []),
  (4, (.iload_n 1, 5, 1, 0, 0, .null), []),
  (5, (.iconst 4, 6, 0, 0, 0, .int 4), []),
  (6, (.if_icmp .le 10, 9, 16, 0, 0, .null), []),
  (9, (.aload_n 0, 10, 0, 0, 0, .null), []),
  (10, (.bipush (-2), 12, 0, 0, 0, .int (-2)), []),
  (12, (.invokevirtual 76, 15, 95, 2, 0, .null), [325, 327, 0, 72]),
  (15, (.ireturn, 16, 0, 0, 0, .null), []),
  (16, (.aload_n 0, 17, 0, 0, 0, .null), []),
  (17, (.iload_n 1, 18, 1, 0, 0, .null), []),
  (18, (.invokevirtual 223, 21, 91, 2, 0, .null), [740, 742, 32, 72]),
  (21, (.ireturn, 22, 0, 0, 0, .null), [])]
def rx_tb_87 : List (Nat × rx_I × List Nat) := rx_tb_87_0
def rx_tb_88_0 : List (Nat × rx_I × List Nat) := [(0, (.ldc2_w 226, 3, 0, 0, 0, .long 2617), [748]),
  (3, (.lstore_n 1, 4, 1, 0, 0, .null), []),
  (4, (.iconst 0, 5, 0, 0, 0, .int 0), []),
  (5, (.istore_n 3, 6, 3, 0, 0, .null), []),
  (6, (.iload_n 3, 7, 3, 0, 0, .null), []),
  (7, (.iconst 4, 8, 0, 0, 0, .int 4), []),
  (8, (.if_icmp .gt 22, 11, 30, 0, 0, .null), []),
  (11, (.ldc2_w 228, 14, 0, 0, 0, .long 31), [749]),
  (14, (.lload_n 1, 15, 1, 0, 0, .null), []),
  (15, (.lmul, 16, 0, 0, 0, .null), []),
  (16, (.aload_n 0, 17, 0, 0, 0, .null), []),
  (17, (.iload_n 3, 18, 3, 0, 0, .null), []),
  (18, (.invokevirtual 223, 21, 91, 2, 0, .null), [740, 742, 32, 72]),
  (21, (.i2l, 22, 0, 0, 0, .null), []),
  (22, (.ladd, 23, 0, 0, 0, .null), []),
  (23, (.lstore_n 1, 24, 1, 0, 0, .null), []),
  (24, (.iinc 3 1, 27, 3, 0, 0, .int 1), []),
  (27, (.goto (-21), 30, 6, 0, 0, .null), []),
  (30, (.iconst 0, 31, 0, 0, 0, .int 0), []),
  (31, (.istore_n 3, 32, 3, 0, 0, .null), []),
  (32, (.iload_n 3, 33, 3, 0, 0, .null), []),
  (33, (.iconst 4, 34, 0, 0, 0, .int 4), []),
  (34, (.if_icmp .ge 16, 37, 50, 0, 0, .null), []),
  (37, (.aload_n 0, 38, 0, 0, 0, .null), []),
  (38, (.lload_n 1, 39, 1, 0, 0, .null), []),
  (39, (.iload_n 3, 40, 3, 0, 0, .null), []),
  (40, (.invokevirtual 230, 43, 89, 3, 0, .null), [750, 752, 33, 72]),
  (43, (.lstore_n 1, 44, 1, 0, 0, .null), []),
  (44, (.iinc 3 1, 47, 3, 0, 0, .int 1), []),
  (47, (.goto (-15), 50, 32, 0, 0, .null), []),
  (50, (.iconst 0, 51, 0, 0, 0, .int 0), []),
  (51, (.istore_n 3, 52, 3, 0, 0, .null), []),
  (52, (.iload_n 3, 53, 3, 0, 0, .null), []),
  (53, (.iconst 4, 54, 0, 0, 0, .int 4), []),
  (54, (.if_icmp .ge 39, 57, 93, 0, 0, .null), []),
  (57, (.iconst 0, 58, 0, 0, 0, .int 0), []),
  (58, (.istore 4, 60, 4, 0, 0, .null), []),
  (60, (.iload 4, 62, 4, 0, 0, .null), []),
  (62, (.iconst 4, 63, 0, 0, 0, .int 4), []),
  (63, (.if_icmp .ge 24, 66, 87, 0, 0, .null), []),
  (66, (.iload_n 3, 67, 3, 0, 0, .null), []),
  (67, (.iload 4, 69, 4, 0, 0, .null), []),
  (69, (.if_icmp .eq 12, 72, 81, 0, 0, .null), []),
  (72, (.aload_n 0, 73, 0, 0, 0, .null), []),
  (73, (.lload_n 1, 74, 1, 0, 0, .null), []),
  (74, (.iload_n 3, 75, 3, 0, 0, .null), []),
  (75, (.iload 4, 77, 4, 0, 0, .null), []),
  (77, (.invokevirtual 234, 80, 90, 4, 0, .null), [754, 756, 34, 72]),
  (80, (.lstore_n 1, 81, 1, 0, 0, .null), []),
  (81, (.iinc 4 1, 84, 4, 0, 0, .int 1), [])]
def rx_tb_88_1 : List (Nat × rx_I × List Nat) := [(84, (.goto (-24), 87, 60, 0, 0, .null), []),
  (87, (.iinc 3 1, 90, 3, 0, 0, .int 1), []),
  (90, (.goto (-38), 93, 52, 0, 0, .null), []),
  (93, (.lload_n 1, 94, 1, 0, 0, .null), []),
  (94, (.lreturn, 95, 0, 0, 0, .null), [])]
def rx_tb_88 : List (Nat × rx_I × List Nat) := rx_tb_88_0 ++ rx_tb_88_1
def rx_tb_89_0 : List (Nat × rx_I × List Nat) := [(0, (.lload_n 1, 1, 1, 0, 0, .null), []),
  (1, (.lstore 4, 3, 4, 0, 0, .null), []),
  (3, (.iconst 0, 4, 0, 0, 0, .int 0), []),
  (4, (.istore 6, 6, 6, 0, 0, .null), []),
  (6, (.iload 6, 8, 6, 0, 0, .null), []),
  (8, (.iconst 5, 9, 0, 0, 0, .int 5), []),
  (9, (.if_icmp .gt 26, 12, 35, 0, 0, .null), []),
  (12, (.ldc2_w 228, 15, 0, 0, 0, .long 31), [749]),
  (15, (.lload 4, 17, 4, 0, 0, .null), []),
  (17, (.lmul, 18, 0, 0, 0, .null), []),
  (18, (.aload_n 0, 19, 0, 0, 0, .null), []),
  (19, (.iload_n 3, 20, 3, 0, 0, .null), []),
  (20, (.iload 6, 22, 6, 0, 0, .null), []),
  (22, (.invokevirtual 137, 25, 92, 3, 0, .null), [509, 511, 17, 72]),
  (25, (.i2l, 26, 0, 0, 0, .null), []),
  (26, (.ladd, 27, 0, 0, 0, .null), []),
  (27, (.lstore 4, 29, 4, 0, 0, .null), []),
  (29, (.iinc 6 1, 32, 6, 0, 0, .int 1), []),
  (32, (.goto (-26), 35, 6, 0, 0, .null), []),
  (35, (.iconst 0, 36, 0, 0, 0, .int 0), []),
  (36, (.istore 6, 38, 6, 0, 0, .null), []),
  (38, (.iload 6, 40, 6, 0, 0, .null), []),
  (40, (.aload_n 0, 41, 0, 0, 0, .null), []),
  (41, (.getfield 11, 44, 7, 0, 0, .null), [284]),
  (44, (.iload_n 3, 45, 3, 0, 0, .null), []),
  (45, (.aaload, 46, 0, 0, 0, .null), []),
  (46, (.getfield 80, 49, 4, 0, 0, .null), [111]),
  (49, (.if_icmp .ge 47, 52, 96, 0, 0, .null), []),
  (52, (.iconst 0, 53, 0, 0, 0, .int 0), []),
  (53, (.istore 7, 55, 7, 0, 0, .null), []),
  (55, (.iload 7, 57, 7, 0, 0, .null), []),
  (57, (.iconst 5, 58, 0, 0, 0, .int 5), []),
  (58, (.if_icmp .ge 32, 61, 90, 0, 0, .null), []),
  (61, (.ldc2_w 228, 64, 0, 0, 0, .long 31), [749]),
  (64, (.lload 4, 66, 4, 0, 0, .null), []),
  (66, (.lmul, 67, 0, 0, 0, .null), []),
  (67, (.aload_n 0, 68, 0, 0, 0, .null), []),
  (68, (.getfield 11, 71, 7, 0, 0, .null), [284]),
  (71, (.iload_n 3, 72, 3, 0, 0, .null), []),
  (72, (.aaload, 73, 0, 0, 0, .null), []),
  (73, (.iload 6, 75, 6, 0, 0, .null), []),
  (75, (.iload 7, 77, 7, 0, 0, .null), []),
  (77, (.invokevirtual 147, 80, 38, 3, 0, .null), [563, 374, 375, 74]),
  (80, (.i2l, 81, 0, 0, 0, .null), []),
  (81, (.ladd, 82, 0, 0, 0, .null), []),
  (82, (.lstore 4, 84, 4, 0, 0, .null), []),
  (84, (.iinc 7 1, 87, 7, 0, 0, .int 1), []),
  (87, (.goto (-32), 90, 55, 0, 0, .null), []),
  (90, (.iinc 6 1, 93, 6, 0, 0, .int 1), []),
  (93, (.goto (-55), 96, 38, 0, 0, .null), [])]
def rx_tb_89_1 : List (Nat × rx_I × List Nat) := [(96, (.lload 4, 98, 4, 0, 0, .null), []),
  (98, (.lreturn, 99, 0, 0, 0, .null), [])]
def rx_tb_89 : List (Nat × rx_I × List Nat) := rx_tb_89_0 ++ rx_tb_89_1
def rx_tb_90_0 : List (Nat × rx_I × List Nat) := [(0, (.lload_n 1, 1, 1, 0, 0, .null), []),
  (1, (.lstore 5, 3, 5, 0, 0, .null), []),
  (3, (.aload_n 0, 4, 0, 0, 0, .null), []),
  (4, (.getfield 38, 7, 7, 4, 0, .null), [288]),
  (7, (.aload_n 0, 8, 0, 0, 0, .null), []),
  (8, (.iload_n 3, 9, 3, 0, 0, .null), []),
  (9, (.invokevirtual 170, 12, 94, 2, 0, .null), [525, 527, 18, 72]),
  (12, (.aload_n 0, 13, 0, 0, 0, .null), []),
  (13, (.iload 4, 15, 4, 0, 0, .null), []),
  (15, (.invokevirtual 170, 18, 94, 2, 0, .null), [525, 527, 18, 72]),
  (18, (.iconst 0, 19, 0, 0, 0, .int 0), []),
  (19, (.invokevirtual 199, 22, 50, 4, 0, .null), [654, 655, 656, 76]),
  (22, (.iconst 0, 23, 0, 0, 0, .int 0), []),
  (23, (.istore 7, 25, 7, 0, 0, .null), []),
  (25, (.iload 7, 27, 7, 0, 0, .null), []),
  (27, (.iconst 3, 28, 0, 0, 0, .int 3), []),
  (28, (.if_icmp .ge 36, 31, 64, 0, 0, .null), []),
  (31, (.ldc2_w 228, 34, 0, 0, 0, .long 31), [749]),
  (34, (.lload 5, 36, 5, 0, 0, .null), []),
  (36, (.lmul, 37, 0, 0, 0, .null), []),
  (37, (.aload_n 0, 38, 0, 0, 0, .null), []),
  (38, (.getfield 38, 41, 7, 4, 0, .null), [288]),
  (41, (.iload 7, 43, 7, 0, 0, .null), []),
  (43, (.invokevirtual 203, 46, 51, 2, 0, .null), [711, 707, 708, 76]),
  (46, (.ifCond .eq 7, 49, 53, 0, 0, .null), []),
  (49, (.iconst 0, 50, 0, 0, 0, .int 0), []),
  (50, (.goto 4, 53, 54, 0, 0, .null), []),
  (53, (.iconst 1, 54, 0, 0, 0, .int 1), []),
  (54, (.i2l, 55, 0, 0, 0, .null), []),
  (55, (.ladd, 56, 0, 0, 0, .null), []),
  (56, (.lstore 5, 58, 5, 0, 0, .null), []),
  (58, (.iinc 7 1, 61, 7, 0, 0, .int 1), []),
  (61, (.goto (-36), 64, 25, 0, 0, .null), []),
  (64, (.aload_n 0, 65, 0, 0, 0, .null), []),
  (65, (.getfield 45, 68, 7, 5, 0, .null), [289]),
  (68, (.aload_n 0, 69, 0, 0, 0, .null), []),
  (69, (.getfield 11, 72, 7, 0, 0, .null), [284]),
  (72, (.iload_n 3, 73, 3, 0, 0, .null), []),
  (73, (.aaload, 74, 0, 0, 0, .null), []),
  (74, (.aload_n 0, 75, 0, 0, 0, .null), []),
  (75, (.getfield 11, 78, 7, 0, 0, .null), [284]),
  (78, (.iload 4, 80, 4, 0, 0, .null), []),
  (80, (.aaload, 81, 0, 0, 0, .null), []),
  (81, (.invokevirtual 150, 84, 2, 3, 0, .null), [568, 569, 570, 77]),
  (84, (.ldc2_w 228, 87, 0, 0, 0, .long 31), [749]),
  (87, (.lload 5, 89, 5, 0, 0, .null), []),
  (89, (.lmul, 90, 0, 0, 0, .null), []),
  (90, (.aload_n 0, 91, 0, 0, 0, .null), []),
  (91, (.getfield 45, 94, 7, 5, 0, .null), [289]),
  (94, (.iconst 0, 95, 0, 0, 0, .int 0), [])]
def rx_tb_90_1 : List (Nat × rx_I × List Nat) := [(95, (.iconst 0, 96, 0, 0, 0, .int 0), []),
  (96, (.invokevirtual 153, 99, 3, 3, 0, .null), [572, 573, 574, 77]),
  (99, (.ifCond .eq 7, 102, 106, 0, 0, .null), []),
  (102, (.iconst 1, 103, 0, 0, 0, .int 1), []),
  (103, (.goto 4, 106, 107, 0, 0, .null), []),
  (106, (.iconst 0, 107, 0, 0, 0, .int 0), []),
  (107, (.i2l, 108, 0, 0, 0, .null), []),
  (108, (.ladd, 109, 0, 0, 0, .null), []),
  (109, (.lreturn, 110, 0, 0, 0, .null), [])]
def rx_tb_90 : List (Nat × rx_I × List Nat) := rx_tb_90_0 ++ rx_tb_90_1
def rx_tb_91_0 : List (Nat × rx_I × List Nat) := [(0, (.iload_n 1, 1, 1, 0, 0, .null), []),
  (1, (.tableswitch 54 0 3 #[31, 36, 41, 46], 32, 0, 0, 0, .null), []),
  (32, (.aload_n 0, 33, 0, 0, 0, .null), []),
  (33, (.getfield 61, 36, 7, 8, 0, .null), [292]),
  (36, (.ireturn, 37, 0, 0, 0, .null), []),
  (37, (.aload_n 0, 38, 0, 0, 0, .null), []),
  (38, (.getfield 65, 41, 7, 9, 0, .null), [293]),
  (41, (.ireturn, 42, 0, 0, 0, .null), []),
  (42, (.aload_n 0, 43, 0, 0, 0, .null), []),
  (43, (.getfield 68, 46, 7, 10, 0, .null), [294]),
  (46, (.ireturn, 47, 0, 0, 0, .null), []),
  (47, (.aload_n 0, 48, 0, 0, 0, .null), []),
  (48, (.getfield 31, 51, 7, 3, 0, .null), [287]),
  (51, (.getfield 156, 54, 6, 0, 0, .null), [146]),
  (54, (.ireturn, 55, 0, 0, 0, .null), []),
  (55, (.aload_n 0, 56, 0, 0, 0, .null), []),
  (56, (.getfield 24, 59, 7, 2, 0, .null), [286]),
  (59, (.getfield 214, 62, 3, 0, 0, .null), [129]),
  (62, (.ireturn, 63, 0, 0, 0, .null), [])]
def rx_tb_91 : List (Nat × rx_I × List Nat) := rx_tb_91_0
def rx_tb_92_0 : List (Nat × rx_I × List Nat) := [(0, (.iload_n 2, 1, 2, 0, 0, .null), []),
  (1, (.tableswitch 85 0 4 #[35, 45, 55, 66, 76], 36, 0, 0, 0, .null), []),
  (36, (.aload_n 0, 37, 0, 0, 0, .null), []),
  (37, (.getfield 11, 40, 7, 0, 0, .null), [284]),
  (40, (.iload_n 1, 41, 1, 0, 0, .null), []),
  (41, (.aaload, 42, 0, 0, 0, .null), []),
  (42, (.getfield 80, 45, 4, 0, 0, .null), [111]),
  (45, (.ireturn, 46, 0, 0, 0, .null), []),
  (46, (.aload_n 0, 47, 0, 0, 0, .null), []),
  (47, (.getfield 11, 50, 7, 0, 0, .null), [284]),
  (50, (.iload_n 1, 51, 1, 0, 0, .null), []),
  (51, (.aaload, 52, 0, 0, 0, .null), []),
  (52, (.getfield 98, 55, 4, 1, 0, .null), [116]),
  (55, (.ireturn, 56, 0, 0, 0, .null), []),
  (56, (.aload_n 0, 57, 0, 0, 0, .null), []),
  (57, (.getfield 11, 60, 7, 0, 0, .null), [284]),
  (60, (.iload_n 1, 61, 1, 0, 0, .null), []),
  (61, (.aaload, 62, 0, 0, 0, .null), []),
  (62, (.iconst 4, 63, 0, 0, 0, .int 4), []),
  (63, (.invokevirtual 238, 66, 43, 2, 0, .null), [513, 514, 515, 74]),
  (66, (.ireturn, 67, 0, 0, 0, .null), []),
  (67, (.aload_n 0, 68, 0, 0, 0, .null), []),
  (68, (.getfield 11, 71, 7, 0, 0, .null), [284]),
  (71, (.iload_n 1, 72, 1, 0, 0, .null), []),
  (72, (.aaload, 73, 0, 0, 0, .null), []),
  (73, (.invokevirtual 241, 76, 44, 1, 0, .null), [517, 518, 519, 74]),
  (76, (.ireturn, 77, 0, 0, 0, .null), []),
  (77, (.aload_n 0, 78, 0, 0, 0, .null), []),
  (78, (.iload_n 1, 79, 1, 0, 0, .null), []),
  (79, (.invokevirtual 170, 82, 94, 2, 0, .null), [525, 527, 18, 72]),
  (82, (.getfield 244, 85, 1, 1, 0, .null), [256]),
  (85, (.ireturn, 86, 0, 0, 0, .null), []),
  (86, (.aload_n 0, 87, 0, 0, 0, .null), []),
  (87, (.iload_n 1, 88, 1, 0, 0, .null), []),
  (88, (.invokevirtual 170, 91, 94, 2, 0, .null), [525, 527, 18, 72]),
  (91, (.getfield 247, 94, 1, 2, 0, .null), [258]),
  (94, (.ireturn, 95, 0, 0, 0, .null), [])]
def rx_tb_92 : List (Nat × rx_I × List Nat) := rx_tb_92_0
def rx_tb_93_0 : List (Nat × rx_I × List Nat) := [(0, (.aload_n 0, 1, 0, 0, 0, .null), []),
  (1, (.getfield 24, 4, 7, 2, 0, .null), [286]),
  (4, (.aload_n 0, 5, 0, 0, 0, .null), []),
  (5, (.getfield 11, 8, 7, 0, 0, .null), [284]),
  (8, (.invokevirtual 250, 11, 33, 2, 0, .null), [333, 334, 335, 73]),
  (11, (.aload_n 0, 12, 0, 0, 0, .null), []),
  (12, (.getfield 17, 15, 7, 1, 0, .null), [285]),
  (15, (.iload_n 1, 16, 1, 0, 0, .null), []),
  (16, (.aaload, 17, 0, 0, 0, .null), []),
  (17, (.iconst 0, 18, 0, 0, 0, .int 0), []),
  (18, (.putfield 219, 21, 1, 0, 1, .null), [254]),
  (21, (.return_, 22, 0, 0, 0, .null), [])]
def rx_tb_93 : List (Nat × rx_I × List Nat) := rx_tb_93_0
def rx_tb_94_0 : List (Nat × rx_I × List Nat) := [(0, (.aload_n 0, 1, 0, 0, 0, .null), []),
  (1, (.getfield 17, 4, 7, 1, 0, .null), [285]),
  (4, (.iload_n 1, 5, 1, 0, 0, .null), []),
  (5, (.aaload, 6, 0, 0, 0, .null), []),
  (6, (.getfield 219, 9, 1, 0, 0, .null), [254]),
  (9, (.ifCond .ne 18, 12, 27, 0, 0, .null), []),
  (12, (.aload_n 0, 13, 0, 0, 0, .null), []),
  (13, (.getfield 17, 16, 7, 1, 0, .null), [285]),
  (16, (.iload_n 1, 17, 1, 0, 0, .null), []),
  (17, (.aaload, 18, 0, 0, 0, .null), []),
  (18, (.aload_n 0, 19, 0, 0, 0, .null), []),
  (19, (.getfield 11, 22, 7, 0, 0, .null), [284]),
  (22, (.iload_n 1, 23, 1, 0, 0, .null), []),
  (23, (.aaload, 24, 0, 0, 0, .null), []),
  (24, (.invokevirtual 253, 27, 13, 2, 0, .null), [529, 530, 531, 79]),
  (27, (.aload_n 0, 28, 0, 0, 0, .null), []),
  (28, (.getfield 17, 31, 7, 1, 0, .null), [285]),
  (31, (.iload_n 1, 32, 1, 0, 0, .null), []),
  (32, (.aaload, 33, 0, 0, 0, .null), []),
  (33, (.areturn, 34, 0, 0, 0, .null), [])]
def rx_tb_94 : List (Nat × rx_I × List Nat) := rx_tb_94_0
def rx_tb_95_0 : List (Nat × rx_I × List Nat) := [(0, (.iload_n 1, 1, 1, 0, 0, .null), []),
  (1, (.bipush (-2), 3, 0, 0, 0, .int (-2)), []),
  (3, (.if_icmp .ne 16, 6, 19, 0, 0, .null), []),
  (6, (.aload_n 0, 7, 0, 0, 0, .null), []),
  (7, (.dup, 8, 0, 0, 0, .null), []),
  (8, (.getfield 61, 11, 7, 8, 0, .null), [292]),
  (11, (.iconst 1, 12, 0, 0, 0, .int 1), []),
  (12, (.iadd, 13, 0, 0, 0, .null), []),
  (13, (.putfield 61, 16, 7, 8, 0, .null), [292]),
  (16, (.goto 32, 19, 48, 0, 0, .null), []),
  (19, (.iload_n 1, 20, 1, 0, 0, .null), []),
  (20, (.bipush (-3), 22, 0, 0, 0, .int (-3)), []),
  (22, (.if_icmp .ne 16, 25, 38, 0, 0, .null), []),
  (25, (.aload_n 0, 26, 0, 0, 0, .null), []),
  (26, (.dup, 27, 0, 0, 0, .null), []),
  (27, (.getfield 65, 30, 7, 9, 0, .null), [293]),
  (30, (.iconst 1, 31, 0, 0, 0, .int 1), []),
  (31, (.iadd, 32, 0, 0, 0, .null), []),
  (32, (.putfield 65, 35, 7, 9, 0, .null), [293]),
  (35, (.goto 13, 38, 48, 0, 0, .null), []),
  (38, (.aload_n 0, 39, 0, 0, 0, .null), []),
  (39, (.dup, 40, 0, 0, 0, .null), []),
  (40, (.getfield 68, 43, 7, 10, 0, .null), [294]),
  (43, (.iconst 1, 44, 0, 0, 0, .int 1), []),
  (44, (.iadd, 45, 0, 0, 0, .null), []),
  (45, (.putfield 68, 48, 7, 10, 0, .null), [294]),
  (48, (.iload_n 1, 49, 1, 0, 0, .null), []),
  (49, (.ireturn, 50, 0, 0, 0, .null), [])]
def rx_tb_95 : List (Nat × rx_I × List Nat) := rx_tb_95_0
def rx_tb_96_0 : List (Nat × rx_I × List Nat) := [(0, (.iload_n 1, 1, 1, 0, 0, .null), []),
  (1, (.invokestatic 72, 4, 99, 1, 0, .null), [322, 323, 72]),
  (4, (.ifCond .eq 24, 7, 28, 0, 0, .null), []),
  (7, (.iload_n 2, 8, 2, 0, 0, .null), []),
  (8, (.ifCond .lt 20, 11, 28, 0, 0, .null), []),
  (11, (.iload_n 2, 12, 2, 0, 0, .null), []),
  (12, (.aload_n 0, 13, 0, 0, 0, .null), []),
  (13, (.getfield 11, 16, 7, 0, 0, .null), [284]),
  (16, (.iload_n 1, 17, 1, 0, 0, .null), []),
  (17, (.aaload, 18, 0, 0, 0, .null), []),
  (18, (.getfield 80, 21, 4, 0, 0, .null), [111]),
  (21, (.if_icmp .ge 7, 24, 28, 0, 0, .null), []),
  (24, (.iconst 1, 25, 0, 0, 0, .int 1), []),
  (25, (.goto 4, 28, 29, 0, 0, .null), []),
  (28, (.iconst 0, 29, 0, 0, 0, .int 0), []),
  (29, (.ireturn, 30, 0, 0, 1, .null), [])]
def rx_tb_96 : List (Nat × rx_I × List Nat) := rx_tb_96_0
def rx_tb_97_0 : List (Nat × rx_I × List Nat) := [(0, (.aload_n 0, 1, 0, 0, 0, .null), []),
  (1, (.iload_n 1, 2, 1, 0, 0, .null), []),
  (2, (.iload_n 2, 3, 2, 0, 0, .null), []),
  (3, (.invokevirtual 141, 6, 96, 3, 0, .null), [362, 364, 3, 72]),
  (6, (.ifCond .eq 24, 9, 30, 0, 0, .null), []),
  (9, (.iload_n 3, 10, 3, 0, 0, .null), []),
  (10, (.invokestatic 144, 13, 101, 1, 0, .null), [366, 367, 72]),
  (13, (.ifCond .eq 17, 16, 30, 0, 0, .null), []),
  (16, (.aload_n 0, 17, 0, 0, 0, .null), []),
  (17, (.iload_n 1, 18, 1, 0, 0, .null), []),
  (18, (.iload 4, 20, 4, 0, 0, .null), []),
  (20, (.invokevirtual 141, 23, 96, 3, 0, .null), [362, 364, 3, 72]),
  (23, (.ifCond .eq 7, 26, 30, 0, 0, .null), []),
  (26, (.iconst 1, 27, 0, 0, 0, .int 1), []),
  (27, (.goto 4, 30, 31, 0, 0, .null), []),
  (30, (.iconst 0, 31, 0, 0, 0, .int 0), []),
  (31, (.ireturn, 32, 0, 0, 1, .null), [])]
def rx_tb_97 : List (Nat × rx_I × List Nat) := rx_tb_97_0
def rx_tb_98_0 : List (Nat × rx_I × List Nat) := [(0, (.iload_n 0, 1, 0, 0, 0, .null), []),
  (1, (.invokestatic 72, 4, 99, 1, 0, .null), [322, 323, 72]),
  (4, (.ifCond .eq 23, 7, 27, 0, 0, .null), []),
  (7, (.iload_n 1, 8, 1, 0, 0, .null), []),
  (8, (.invokestatic 72, 11, 99, 1, 0, .null), [322, 323, 72]),
  (11, (.ifCond .eq 16, 14, 27, 0, 0, .null), []),
  (14, (.iload_n 2, 15, 2, 0, 0, .null), []),
  (15, (.ifCond .lt 12, 18, 27, 0, 0, .null), []),
  (18, (.iload_n 2, 19, 2, 0, 0, .null), []),
  (19, (.iconst 3, 20, 0, 0, 0, .int 3), []),
  (20, (.if_icmp .ge 7, 23, 27, 0, 0, .null), []),
  (23, (.iconst 1, 24, 0, 0, 0, .int 1), []),
  (24, (.goto 4, 27, 28, 0, 0, .null), []),
  (27, (.iconst 0, 28, 0, 0, 0, .int 0), []),
  (28, (.ireturn, 29, 0, 0, 1, .null), [])]
def rx_tb_98 : List (Nat × rx_I × List Nat) := rx_tb_98_0
def rx_tb_99_0 : List (Nat × rx_I × List Nat) := [(0, (.iload_n 0, 1, 0, 0, 0, .null), []),
  (1, (.ifCond .lt 12, 4, 13, 0, 0, .null), []),
  (4, (.iload_n 0, 5, 0, 0, 0, .null), []),
  (5, (.iconst 4, 6, 0, 0, 0, .int 4), []),
  (6, (.if_icmp .ge 7, 9, 13, 0, 0, .null), []),
  (9, (.iconst 1, 10, 0, 0, 0, .int 1), []),
  (10, (.goto 4, 13, 14, 0, 0, .null), []),
  (13, (.iconst 0, 14, 0, 0, 0, .int 0), []),
  (14, (.ireturn, 15, 0, 0, 1, .null), [])]
def rx_tb_99 : List (Nat × rx_I × List Nat) := rx_tb_99_0
def rx_tb_100_0 : List (Nat × rx_I × List Nat) := [(0, (.iload_n 0, 1, 0, 0, 0, .null), []),
  (1, (.ifCond .lt 12, 4, 13, 0, 0, .null), []),
  (4, (.iload_n 0, 5, 0, 0, 0, .null), []),
  (5, (.iconst 4, 6, 0, 0, 0, .int 4), []),
  (6, (.if_icmp .ge 7, 9, 13, 0, 0, .null), []),
  (9, (.iconst 1, 10, 0, 0, 0, .int 1), []),
  (10, (.goto 4, 13, 14, 0, 0, .null), []),
  (13, (.iconst 0, 14, 0, 0, 0, .int 0), []),
  (14, (.ireturn, 15, 0, 0, 1, .null), [])]
def rx_tb_100 : List (Nat × rx_I × List Nat) := rx_tb_100_0
def rx_tb_101_0 : List (Nat × rx_I × List Nat) := [(0, (.iload_n 0, 1, 0, 0, 0, .null), []),
  (1, (.ifCond .lt 12, 4, 13, 0, 0, .null), []),
  (4, (.iload_n 0, 5, 0, 0, 0, .null), []),
  (5, (.iconst 5, 6, 0, 0, 0, .int 5), []),
  (6, (.if_icmp .ge 7, 9, 13, 0, 0, .null), []),
  (9, (.iconst 1, 10, 0, 0, 0, .int 1), []),
  (10, (.goto 4, 13, 14, 0, 0, .null), []),
  (13, (.iconst 0, 14, 0, 0, 0, .int 0), []),
  (14, (.ireturn, 15, 0, 0, 1, .null), [])]
def rx_tb_101 : List (Nat × rx_I × List Nat) := rx_tb_101_0
def rx_tb_102_0 : List (Nat × rx_I × List Nat) := [(0, (.iload_n 0, 1, 0, 0, 0, .null), []),
  (1, (.ifCond .lt 13, 4, 14, 0, 0, .null), []),
  (4, (.iload_n 0, 5, 0, 0, 0, .null), []),
  (5, (.bipush 16, 7, 0, 0, 0, .int 16), []),
  (7, (.if_icmp .ge 7, 10, 14, 0, 0, .null), []),
  (10, (.iconst 1, 11, 0, 0, 0, .int 1), []),
  (11, (.goto 4, 14, 15, 0, 0, .null), []),
  (14, (.iconst 0, 15, 0, 0, 0, .int 0), []),
  (15, (.ireturn, 16, 0, 0, 1, .null), [])]
def rx_tb_102 : List (Nat × rx_I × List Nat) := rx_tb_102_0
def rx_tb_103_0 : List (Nat × rx_I × List Nat) := [(0, (.iload_n 0, 1, 0, 0, 0, .null), []),
  (1, (.iload_n 1, 2, 1, 0, 0, .null), []),
  (2, (.ishr, 3, 0, 0, 0, .null), []),
  (3, (.iconst 1, 4, 0, 0, 0, .int 1), []),
  (4, (.iand, 5, 0, 0, 0, .null), []),
  (5, (.ifCond .eq 7, 8, 12, 0, 0, .null), []),
  (8, (.iconst 1, 9, 0, 0, 0, .int 1), []),
  (9, (.goto 4, 12, 13, 0, 0, .null), []),
  (12, (.iconst 0, 13, 0, 0, 0, .int 0), []),
  (13, (.ireturn, 14, 0, 0, 1, .null), [])]
def rx_tb_103 : List (Nat × rx_I × List Nat) := rx_tb_103_0
def rx_tb_104_0 : List (Nat × rx_I × List Nat) := [(0, (.aload_n 0, 1, 0, 0, 0, .null), []),
  (1, (.invokespecial 1, 4, 0, 0, 8, .null), [763, 91]),
  (4, (.aload_n 0, 5, 0, 0, 0, .null), []),
  (5, (.sipush 164, 8, 0, 0, 0, .int 164), []),
  (8, (.newarray .int, 10, 0, 0, 0, .null), [127]),
  (10, (.putfield 7, 13, 8, 0, 2, .null), [765]),
  (13, (.aload_n 0, 14, 0, 0, 0, .null), []),
  (14, (.sipush 164, 17, 0, 0, 0, .int 164), []),
  (17, (.newarray .int, 19, 0, 0, 0, .null), [127]),
  (19, (.putfield 13, 22, 8, 1, 2, .null), [766]),
  (22, (.aload_n 0, 23, 0, 0, 0, .null), []),
  (23, (.sipush 820, 26, 0, 0, 0, .int 820), []),
  (26, (.newarray .int, 28, 0, 0, 0, .null), [127]),
  (28, (.putfield 16, 31, 8, 2, 2, .null), [767]),
  (31, (.aload_n 0, 32, 0, 0, 0, .null), []),
  (32, (.iconst 3, 33, 0, 0, 0, .int 3), []),
  (33, (.newarray .int, 35, 0, 0, 0, .null), [127]),
  (35, (.putfield 19, 38, 8, 4, 2, .null), [769]),
  (38, (.aload_n 0, 39, 0, 0, 0, .null), []),
  (39, (.bipush 100, 41, 0, 0, 0, .int 100), []),
  (41, (.newarray .int, 43, 0, 0, 0, .null), [127]),
  (43, (.putfield 22, 46, 8, 5, 2, .null), [770]),
  (46, (.aload_n 0, 47, 0, 0, 0, .null), []),
  (47, (.bipush 41, 49, 0, 0, 0, .int 41), []),
  (49, (.newarray .int, 51, 0, 0, 0, .null), [127]),
  (51, (.putfield 25, 54, 8, 7, 2, .null), [772]),
  (54, (.aload_n 0, 55, 0, 0, 0, .null), []),
  (55, (.bipush 8, 57, 0, 0, 0, .int 8), []),
  (57, (.newarray .int, 59, 0, 0, 0, .null), [127]),
  (59, (.putfield 28, 62, 8, 8, 2, .null), [773]),
  (62, (.aload_n 0, 63, 0, 0, 0, .null), []),
  (63, (.bipush 16, 65, 0, 0, 0, .int 16), []),
  (65, (.newarray .int, 67, 0, 0, 0, .null), [127]),
  (67, (.putfield 31, 70, 8, 9, 2, .null), [774]),
  (70, (.aload_n 0, 71, 0, 0, 0, .null), []),
  (71, (.ldc 34, 73, 0, 0, 0, .int 65536), [764]),
  (73, (.newarray .int, 75, 0, 0, 0, .null), [127]),
  (75, (.putfield 35, 78, 8, 11, 2, .null), [776]),
  (78, (.aload_n 0, 79, 0, 0, 0, .null), []),
  (79, (.ldc 34, 81, 0, 0, 0, .int 65536), [764]),
  (81, (.newarray .int, 83, 0, 0, 0, .null), [127]),
  (83, (.putfield 38, 86, 8, 12, 2, .null), [777]),
  (86, (.aload_n 0, 87, 0, 0, 0, .null), []),
  (87, (.sipush 2048, 90, 0, 0, 0, .int 2048), []),
  (90, (.newarray .int, 92, 0, 0, 0, .null), [127]),
  (92, (.putfield 41, 95, 8, 13, 2, .null), [778]),
  (95, (.iconst 0, 96, 0, 0, 0, .int 0), []),
  (96, (.istore_n 1, 97, 1, 0, 0, .null), []),
  (97, (.iload_n 1, 98, 1, 0, 0, .null), []),
  (98, (.iconst 4, 99, 0, 0, 0, .int 4), [])]
def rx_tb_104_1 : List (Nat × rx_I × List Nat) := [(99, (.if_icmp .ge 19, 102, 118, 0, 0, .null), []),
  (102, (.aload_n 0, 103, 0, 0, 0, .null), []),
  (103, (.getfield 7, 106, 8, 0, 0, .null), [765]),
  (106, (.bipush 41, 108, 0, 0, 0, .int 41), []),
  (108, (.iload_n 1, 109, 1, 0, 0, .null), []),
  (109, (.imul, 110, 0, 0, 0, .null), []),
  (110, (.iconst 1, 111, 0, 0, 0, .int 1), []),
  (111, (.iastore, 112, 0, 0, 0, .null), []),
  (112, (.iinc 1 1, 115, 1, 0, 0, .int 1), []),
  (115, (.goto (-18), 118, 97, 0, 0, .null), []),
  (118, (.return_, 119, 0, 0, 0, .null), [])]
def rx_tb_104 : List (Nat × rx_I × List Nat) := rx_tb_104_0 ++ rx_tb_104_1
def rx_tb_105_0 : List (Nat × rx_I × List Nat) := [(0, (.iload_n 0, 1, 0, 0, 0, .null), []),
  (1, (.iload_n 1, 2, 1, 0, 0, .null), []),
  (2, (.if_icmp .lt 12, 5, 14, 0, 0, .null), []),
  (5, (.iload_n 0, 6, 0, 0, 0, .null), []),
  (6, (.iload_n 2, 7, 2, 0, 0, .null), []),
  (7, (.if_icmp .gt 7, 10, 14, 0, 0, .null), []),
  (10, (.iconst 1, 11, 0, 0, 0, .int 1), []),
  (11, (.goto 4, 14, 15, 0, 0, .null), []),
  (14, (.iconst 0, 15, 0, 0, 0, .int 0), []),
  (15, (.ireturn, 16, 0, 0, 1, .null), [])]
def rx_tb_105 : List (Nat × rx_I × List Nat) := rx_tb_105_0
def rx_tb_106_0 : List (Nat × rx_I × List Nat) := [(0, (.iload_n 0, 1, 0, 0, 0, .null), []),
  (1, (.iload_n 1, 2, 1, 0, 0, .null), []),
  (2, (.ishr, 3, 0, 0, 0, .null), []),
  (3, (.iconst 1, 4, 0, 0, 0, .int 1), []),
  (4, (.iand, 5, 0, 0, 0, .null), []),
  (5, (.iconst 1, 6, 0, 0, 0, .int 1), []),
  (6, (.if_icmp .ne 7, 9, 13, 0, 0, .null), []),
  (9, (.iconst 1, 10, 0, 0, 0, .int 1), []),
  (10, (.goto 4, 13, 14, 0, 0, .null), []),
  (13, (.iconst 0, 14, 0, 0, 0, .int 0), []),
  (14, (.ireturn, 15, 0, 0, 1, .null), [])]
def rx_tb_106 : List (Nat × rx_I × List Nat) := rx_tb_106_0
def rx_tb_107_0 : List (Nat × rx_I × List Nat) := [(0, (.iconst 0, 1, 0, 0, 0, .int 0), []),
  (1, (.istore_n 1, 2, 1, 0, 0, .null), []),
  (2, (.iconst 0, 3, 0, 0, 0, .int 0), []),
  (3, (.istore_n 2, 4, 2, 0, 0, .null), []),
  (4, (.iload_n 2, 5, 2, 0, 0, .null), []),
  (5, (.bipush 8, 7, 0, 0, 0, .int 8), []),
  (7, (.if_icmp .ge 17, 10, 24, 0, 0, .null), []),
  (10, (.iload_n 1, 11, 1, 0, 0, .null), []),
  (11, (.iload_n 0, 12, 0, 0, 0, .null), []),
  (12, (.iload_n 2, 13, 2, 0, 0, .null), []),
  (13, (.ishr, 14, 0, 0, 0, .null), []),
  (14, (.iconst 1, 15, 0, 0, 0, .int 1), []),
  (15, (.iand, 16, 0, 0, 0, .null), []),
  (16, (.iadd, 17, 0, 0, 0, .null), []),
  (17, (.istore_n 1, 18, 1, 0, 0, .null), []),
  (18, (.iinc 2 1, 21, 2, 0, 0, .int 1), []),
  (21, (.goto (-17), 24, 4, 0, 0, .null), []),
  (24, (.iload_n 1, 25, 1, 0, 0, .null), []),
  (25, (.ireturn, 26, 0, 0, 0, .null), [])]
def rx_tb_107 : List (Nat × rx_I × List Nat) := rx_tb_107_0
def rx_tb_108_0 : List (Nat × rx_I × List Nat) := [(0, (.aload_n 0, 1, 0, 0, 0, .null), []),
  (1, (.getfield 19, 4, 8, 4, 0, .null), [769]),
  (4, (.bipush (-2), 6, 0, 0, 0, .int (-2)), []),
  (6, (.iload_n 1, 7, 1, 0, 0, .null), []),
  (7, (.isub, 8, 0, 0, 0, .null), []),
  (8, (.dup2, 9, 0, 0, 0, .null), []),
  (9, (.iaload, 10, 0, 0, 0, .null), []),
  (10, (.iconst 1, 11, 0, 0, 0, .int 1), []),
  (11, (.iadd, 12, 0, 0, 0, .null), []),
  (12, (.iastore, 13, 0, 0, 0, .null), []),
  (13, (.iload_n 1, 14, 1, 0, 0, .null), []),
  (14, (.ireturn, 15, 0, 0, 0, .null), [])]
def rx_tb_108 : List (Nat × rx_I × List Nat) := rx_tb_108_0
def rx_tb_109_0 : List (Nat × rx_I × List Nat) := [(0, (.iload_n 0, 1, 0, 0, 0, .null), []),
  (1, (.iconst 0, 2, 0, 0, 0, .int 0), []),
  (2, (.iconst 3, 3, 0, 0, 0, .int 3), []),
  (3, (.invokestatic 44, 6, 105, 3, 0, .null), [829, 830, 80]),
  (6, (.ireturn, 7, 0, 0, 1, .null), [])]
def rx_tb_109 : List (Nat × rx_I × List Nat) := rx_tb_109_0
def rx_tb_110_0 : List (Nat × rx_I × List Nat) := [(0, (.aload_n 0, 1, 0, 0, 0, .null), []),
  (1, (.getfield 7, 4, 8, 0, 0, .null), [765]),
  (4, (.bipush 41, 6, 0, 0, 0, .int 41), []),
  (6, (.iload_n 1, 7, 1, 0, 0, .null), []),
  (7, (.imul, 8, 0, 0, 0, .null), []),
  (8, (.iaload, 9, 0, 0, 0, .null), []),
  (9, (.ireturn, 10, 0, 0, 0, .null), [])]
def rx_tb_110 : List (Nat × rx_I × List Nat) := rx_tb_110_0
def rx_tb_111_0 : List (Nat × rx_I × List Nat) := [(0, (.iload_n 1, 1, 1, 0, 0, .null), []),
  (1, (.invokestatic 48, 4, 109, 1, 0, .null), [826, 827, 80]),
  (4, (.ifCond .eq 22, 7, 26, 0, 0, .null), []),
  (7, (.iload_n 2, 8, 2, 0, 0, .null), []),
  (8, (.iconst 0, 9, 0, 0, 0, .int 0), []),
  (9, (.aload_n 0, 10, 0, 0, 0, .null), []),
  (10, (.iload_n 1, 11, 1, 0, 0, .null), []),
  (11, (.invokevirtual 52, 14, 110, 2, 0, .null), [836, 838, 37, 80]),
  (14, (.iconst 1, 15, 0, 0, 0, .int 1), []),
  (15, (.isub, 16, 0, 0, 0, .null), []),
  (16, (.invokestatic 44, 19, 105, 3, 0, .null), [829, 830, 80]),
  (19, (.ifCond .eq 7, 22, 26, 0, 0, .null), []),
  (22, (.iconst 1, 23, 0, 0, 0, .int 1), []),
  (23, (.goto 4, 26, 27, 0, 0, .null), []),
  (26, (.iconst 0, 27, 0, 0, 0, .int 0), []),
  (27, (.ireturn, 28, 0, 0, 1, .null), [])]
def rx_tb_111 : List (Nat × rx_I × List Nat) := rx_tb_111_0
def rx_tb_112_0 : List (Nat × rx_I × List Nat) := [(0, (.bipush 41, 2, 0, 0, 0, .int 41), []),
  (2, (.iload_n 0, 3, 0, 0, 0, .null), []),
  (3, (.imul, 4, 0, 0, 0, .null), []),
  (4, (.iconst 1, 5, 0, 0, 0, .int 1), []),
  (5, (.iadd, 6, 0, 0, 0, .null), []),
  (6, (.iconst 5, 7, 0, 0, 0, .int 5), []),
  (7, (.iload_n 1, 8, 1, 0, 0, .null), []),
  (8, (.imul, 9, 0, 0, 0, .null), []),
  (9, (.iadd, 10, 0, 0, 0, .null), []),
  (10, (.iload_n 2, 11, 2, 0, 0, .null), []),
  (11, (.iadd, 12, 0, 0, 0, .null), []),
  (12, (.ireturn, 13, 0, 0, 0, .null), [])]
def rx_tb_112 : List (Nat × rx_I × List Nat) := rx_tb_112_0
def rx_tb_113_0 : List (Nat × rx_I × List Nat) := [(0, (.aload_n 0, 1, 0, 0, 0, .null), []),
  (1, (.getfield 7, 4, 8, 0, 0, .null), [765]),
  (4, (.iload_n 1, 5, 1, 0, 0, .null), []),
  (5, (.iload_n 2, 6, 2, 0, 0, .null), []),
  (6, (.iload_n 3, 7, 3, 0, 0, .null), []),
  (7, (.invokestatic 56, 10, 112, 3, 0, .null), [856, 857, 80]),
  (10, (.iaload, 11, 0, 0, 0, .null), []),
  (11, (.ireturn, 12, 0, 0, 0, .null), [])]
def rx_tb_113 : List (Nat × rx_I × List Nat) := rx_tb_113_0
def rx_tb_114_0 : List (Nat × rx_I × List Nat) := [(0, (.aload_n 0, 1, 0, 0, 0, .null), []),
  (1, (.getfield 60, 4, 8, 3, 0, .null), [768]),
  (4, (.iconst 5, 5, 0, 0, 0, .int 5), []),
  (5, (.if_icmp .ne 44, 8, 49, 0, 0, .null), []),
  (8, (.iconst 0, 9, 0, 0, 0, .int 0), []),
  (9, (.istore_n 1, 10, 1, 0, 0, .null), []),
  (10, (.iload_n 1, 11, 1, 0, 0, .null), []),
  (11, (.sipush 656, 14, 0, 0, 0, .int 656), []),
  (14, (.if_icmp .ge 25, 17, 39, 0, 0, .null), []),
  (17, (.aload_n 0, 18, 0, 0, 0, .null), []),
  (18, (.getfield 16, 21, 8, 2, 0, .null), [767]),
  (21, (.iload_n 1, 22, 1, 0, 0, .null), []),
  (22, (.aload_n 0, 23, 0, 0, 0, .null), []),
  (23, (.getfield 16, 26, 8, 2, 0, .null), [767]),
  (26, (.iload_n 1, 27, 1, 0, 0, .null), []),
  (27, (.sipush 164, 30, 0, 0, 0, .int 164), []),
  (30, (.iadd, 31, 0, 0, 0, .null), []),
  (31, (.iaload, 32, 0, 0, 0, .null), []),
  (32, (.iastore, 33, 0, 0, 0, .null), []),
  (33, (.iinc 1 1, 36, 1, 0, 0, .int 1), []),
  (36, (.goto (-26), 39, 10, 0, 0, .null), []),
  (39, (.aload_n 0, 40, 0, 0, 0, .null), []),
  (40, (.dup, 41, 0, 0, 0, .null), []),
  (41, (.getfield 60, 44, 8, 3, 0, .null), [768]),
  (44, (.iconst 1, 45, 0, 0, 0, .int 1), []),
  (45, (.isub, 46, 0, 0, 0, .null), []),
  (46, (.putfield 60, 49, 8, 3, 0, .null), [768]),
  (49, (.iconst 0, 50, 0, 0, 0, .int 0), []),
  (50, (.istore_n 1, 51, 1, 0, 0, .null), []),
  (51, (.iload_n 1, 52, 1, 0, 0, .null), []),
  (52, (.sipush 164, 55, 0, 0, 0, .int 164), []),
  (55, (.if_icmp .ge 30, 58, 85, 0, 0, .null), []),
  (58, (.aload_n 0, 59, 0, 0, 0, .null), []),
  (59, (.getfield 16, 62, 8, 2, 0, .null), [767]),
  (62, (.sipush 164, 65, 0, 0, 0, .int 164), []),
  (65, (.aload_n 0, 66, 0, 0, 0, .null), []),
  (66, (.getfield 60, 69, 8, 3, 0, .null), [768]),
  (69, (.imul, 70, 0, 0, 0, .null), []),
  (70, (.iload_n 1, 71, 1, 0, 0, .null), []),
  (71, (.iadd, 72, 0, 0, 0, .null), []),
  (72, (.aload_n 0, 73, 0, 0, 0, .null), []),
  (73, (.getfield 7, 76, 8, 0, 0, .null), [765]),
  (76, (.iload_n 1, 77, 1, 0, 0, .null), []),
  (77, (.iaload, 78, 0, 0, 0, .null), []),
  (78, (.iastore, 79, 0, 0, 0, .null), []),
  (79, (.iinc 1 1, 82, 1, 0, 0, .int 1), []),
  (82, (.goto (-31), 85, 51, 0, 0, .null), []),
  (85, (.aload_n 0, 86, 0, 0, 0, .null), []),
  (86, (.dup, 87, 0, 0, 0, .null), []),
  (87, (.getfield 60, 90, 8, 3, 0, .null), [768])]
def rx_tb_114_1 : List (Nat × rx_I × List Nat) := [(90, (.iconst 1, 91, 0, 0, 0, .int 1), []),
  (91, (.iadd, 92, 0, 0, 0, .null), []),
  (92, (.putfield 60, 95, 8, 3, 0, .null), [768]),
  (95, (.return_, 96, 0, 0, 0, .null), [])]
def rx_tb_114 : List (Nat × rx_I × List Nat) := rx_tb_114_0 ++ rx_tb_114_1
def rx_tb_115_0 : List (Nat × rx_I × List Nat) := [(0, (.aload_n 0, 1, 0, 0, 0, .null), []),
  (1, (.getfield 60, 4, 8, 3, 0, .null), [768]),
  (4, (.ifCond .ne 10, 7, 14, 0, 0, .null), []),
  (7, (.aload_n 0, 8, 0, 0, 0, .null), []),
  (8, (.bipush (-3), 10, 0, 0, 0, .int (-3)), []),
  (10, (.invokevirtual 64, 13, 108, 2, 0, .null), [818, 820, 35, 80]),
  (13, (.ireturn, 14, 0, 0, 0, .null), []),
  (14, (.aload_n 0, 15, 0, 0, 0, .null), []),
  (15, (.dup, 16, 0, 0, 0, .null), []),
  (16, (.getfield 60, 19, 8, 3, 0, .null), [768]),
  (19, (.iconst 1, 20, 0, 0, 0, .int 1), []),
  (20, (.isub, 21, 0, 0, 0, .null), []),
  (21, (.putfield 60, 24, 8, 3, 0, .null), [768]),
  (24, (.iconst 0, 25, 0, 0, 0, .int 0), []),
  (25, (.istore_n 1, 26, 1, 0, 0, .null), []),
  (26, (.iload_n 1, 27, 1, 0, 0, .null), []),
  (27, (.sipush 164, 30, 0, 0, 0, .int 164), []),
  (30, (.if_icmp .ge 30, 33, 60, 0, 0, .null), []),
  (33, (.aload_n 0, 34, 0, 0, 0, .null), []),
  (34, (.getfield 7, 37, 8, 0, 0, .null), [765]),
  (37, (.iload_n 1, 38, 1, 0, 0, .null), []),
  (38, (.aload_n 0, 39, 0, 0, 0, .null), []),
  (39, (.getfield 16, 42, 8, 2, 0, .null), [767]),
  (42, (.sipush 164, 45, 0, 0, 0, .int 164), []),
  (45, (.aload_n 0, 46, 0, 0, 0, .null), []),
  (46, (.getfield 60, 49, 8, 3, 0, .null), [768]),
  (49, (.imul, 50, 0, 0, 0, .null), []),
  (50, (.iload_n 1, 51, 1, 0, 0, .null), []),
  (51, (.iadd, 52, 0, 0, 0, .null), []),
  (52, (.iaload, 53, 0, 0, 0, .null), []),
  (53, (.iastore, 54, 0, 0, 0, .null), []),
  (54, (.iinc 1 1, 57, 1, 0, 0, .int 1), []),
  (57, (.goto (-31), 60, 26, 0, 0, .null), []),
  (60, (.aload_n 0, 61, 0, 0, 0, .null), []),
  (61, (.getfield 60, 64, 8, 3, 0, .null), [768]),
  (64, (.ireturn, 65, 0, 0, 0, .null), [])]
def rx_tb_115 : List (Nat × rx_I × List Nat) := rx_tb_115_0
def rx_tb_116_0 : List (Nat × rx_I × List Nat) := [(0, (.iconst 0, 1, 0, 0, 0, .int 0), []),
  (1, (.istore_n 2, 2, 2, 0, 0, .null), []),
  (2, (.iconst 1, 3, 0, 0, 0, .int 1), []),
  (3, (.istore_n 3, 4, 3, 0, 0, .null), []),
  (4, (.iload_n 3, 5, 3, 0, 0, .null), []),
  (5, (.bipush 41, 7, 0, 0, 0, .int 41), []),
  (7, (.if_icmp .ge 26, 10, 33, 0, 0, .null), []),
  (10, (.iload_n 2, 11, 2, 0, 0, .null), []),
  (11, (.aload_n 0, 12, 0, 0, 0, .null), []),
  (12, (.getfield 7, 15, 8, 0, 0, .null), [765]),
  (15, (.bipush 41, 17, 0, 0, 0, .int 41), []),
  (17, (.iload_n 1, 18, 1, 0, 0, .null), []),
  (18, (.imul, 19, 0, 0, 0, .null), []),
  (19, (.iload_n 3, 20, 3, 0, 0, .null), []),
  (20, (.iadd, 21, 0, 0, 0, .null), []),
  (21, (.iaload, 22, 0, 0, 0, .null), []),
  (22, (.invokestatic 67, 25, 107, 1, 0, .null), [866, 867, 80]),
  (25, (.iadd, 26, 0, 0, 0, .null), []),
  (26, (.istore_n 2, 27, 2, 0, 0, .null), []),
  (27, (.iinc 3 1, 30, 3, 0, 0, .int 1), []),
  (30, (.goto (-26), 33, 4, 0, 0, .null), []),
  (33, (.iload_n 2, 34, 2, 0, 0, .null), []),
  (34, (.ireturn, 35, 0, 0, 0, .null), [])]
def rx_tb_116 : List (Nat × rx_I × List Nat) := rx_tb_116_0
def rx_tb_117_0 : List (Nat × rx_I × List Nat) := [(0, (.iload_n 1, 1, 1, 0, 0, .null), []),
  (1, (.invokestatic 48, 4, 109, 1, 0, .null), [826, 827, 80]),
  (4, (.ifCond .eq 13, 7, 17, 0, 0, .null), []),
  (7, (.iload_n 2, 8, 2, 0, 0, .null), []),
  (8, (.iconst 1, 9, 0, 0, 0, .int 1), []),
  (9, (.bipush 8, 11, 0, 0, 0, .int 8), []),
  (11, (.invokestatic 44, 14, 105, 3, 0, .null), [829, 830, 80]),
  (14, (.ifCond .ne 10, 17, 24, 0, 0, .null), []),
  (17, (.aload_n 0, 18, 0, 0, 0, .null), []),
  (18, (.bipush (-2), 20, 0, 0, 0, .int (-2)), []),
  (20, (.invokevirtual 64, 23, 108, 2, 0, .null), [818, 820, 35, 80]),
  (23, (.ireturn, 24, 0, 0, 0, .null), []),
  (24, (.aload_n 0, 25, 0, 0, 0, .null), []),
  (25, (.invokevirtual 70, 28, 114, 1, 0, .null), [832, 834, 36, 80]),
  (28, (.aload_n 0, 29, 0, 0, 0, .null), []),
  (29, (.iload_n 1, 30, 1, 0, 0, .null), []),
  (30, (.invokevirtual 52, 33, 110, 2, 0, .null), [836, 838, 37, 80]),
  (33, (.istore_n 3, 34, 3, 0, 0, .null), []),
  (34, (.iconst 1, 35, 0, 0, 0, .int 1), []),
  (35, (.istore 4, 37, 4, 0, 0, .null), []),
  (37, (.iload 4, 39, 4, 0, 0, .null), []),
  (39, (.bipush 41, 41, 0, 0, 0, .int 41), []),
  (41, (.if_icmp .ge 22, 44, 63, 0, 0, .null), []),
  (44, (.aload_n 0, 45, 0, 0, 0, .null), []),
  (45, (.getfield 7, 48, 8, 0, 0, .null), [765]),
  (48, (.bipush 41, 50, 0, 0, 0, .int 41), []),
  (50, (.iload_n 1, 51, 1, 0, 0, .null), []),
  (51, (.imul, 52, 0, 0, 0, .null), []),
  (52, (.iload 4, 54, 4, 0, 0, .null), []),
  (54, (.iadd, 55, 0, 0, 0, .null), []),
  (55, (.iconst 0, 56, 0, 0, 0, .int 0), []),
  (56, (.iastore, 57, 0, 0, 0, .null), []),
  (57, (.iinc 4 1, 60, 4, 0, 0, .int 1), []),
  (60, (.goto (-23), 63, 37, 0, 0, .null), []),
  (63, (.aload_n 0, 64, 0, 0, 0, .null), []),
  (64, (.getfield 7, 67, 8, 0, 0, .null), [765]),
  (67, (.bipush 41, 69, 0, 0, 0, .int 41), []),
  (69, (.iload_n 1, 70, 1, 0, 0, .null), []),
  (70, (.imul, 71, 0, 0, 0, .null), []),
  (71, (.iload_n 2, 72, 2, 0, 0, .null), []),
  (72, (.iastore, 73, 0, 0, 0, .null), []),
  (73, (.iload_n 3, 74, 3, 0, 0, .null), []),
  (74, (.ireturn, 75, 0, 0, 0, .null), [])]
def rx_tb_117 : List (Nat × rx_I × List Nat) := rx_tb_117_0
def rx_tb_118_0 : List (Nat × rx_I × List Nat) := [(0, (.aload_n 0, 1, 0, 0, 0, .null), []),
  (1, (.iload_n 1, 2, 1, 0, 0, .null), []),
  (2, (.iload_n 2, 3, 2, 0, 0, .null), []),
  (3, (.invokevirtual 73, 6, 111, 3, 0, .null), [848, 850, 39, 80]),
  (6, (.ifCond .eq 26, 9, 32, 0, 0, .null), []),
  (9, (.aload_n 0, 10, 0, 0, 0, .null), []),
  (10, (.iload_n 1, 11, 1, 0, 0, .null), []),
  (11, (.iload 4, 13, 4, 0, 0, .null), []),
  (13, (.invokevirtual 73, 16, 111, 3, 0, .null), [848, 850, 39, 80]),
  (16, (.ifCond .eq 16, 19, 32, 0, 0, .null), []),
  (19, (.iload_n 3, 20, 3, 0, 0, .null), []),
  (20, (.iconst 0, 21, 0, 0, 0, .int 0), []),
  (21, (.iconst 4, 22, 0, 0, 0, .int 4), []),
  (22, (.invokestatic 44, 25, 105, 3, 0, .null), [829, 830, 80]),
  (25, (.ifCond .eq 7, 28, 32, 0, 0, .null), []),
  (28, (.iconst 1, 29, 0, 0, 0, .int 1), []),
  (29, (.goto 4, 32, 33, 0, 0, .null), []),
  (32, (.iconst 0, 33, 0, 0, 0, .int 0), []),
  (33, (.ireturn, 34, 0, 0, 1, .null), [])]
def rx_tb_118 : List (Nat × rx_I × List Nat) := rx_tb_118_0
def rx_tb_119_0 : List (Nat × rx_I × List Nat) := [(0, (.aload_n 0, 1, 0, 0, 0, .null), []),
  (1, (.iload_n 1, 2, 1, 0, 0, .null), []),
  (2, (.iload_n 2, 3, 2, 0, 0, .null), []),
  (3, (.iload_n 3, 4, 3, 0, 0, .null), []),
  (4, (.iload 4, 6, 4, 0, 0, .null), []),
  (6, (.invokevirtual 77, 9, 118, 5, 0, .null), [844, 846, 38, 80]),
  (9, (.ifCond .ne 10, 12, 19, 0, 0, .null), []),
  (12, (.aload_n 0, 13, 0, 0, 0, .null), []),
  (13, (.bipush (-2), 15, 0, 0, 0, .int (-2)), []),
  (15, (.invokevirtual 64, 18, 108, 2, 0, .null), [818, 820, 35, 80]),
  (18, (.ireturn, 19, 0, 0, 0, .null), []),
  (19, (.aload_n 0, 20, 0, 0, 0, .null), []),
  (20, (.iload_n 1, 21, 1, 0, 0, .null), []),
  (21, (.iload_n 2, 22, 2, 0, 0, .null), []),
  (22, (.iload_n 3, 23, 3, 0, 0, .null), []),
  (23, (.invokevirtual 81, 26, 113, 4, 0, .null), [852, 854, 40, 80]),
  (26, (.iload 4, 28, 4, 0, 0, .null), []),
  (28, (.invokestatic 84, 31, 106, 2, 0, .null), [859, 860, 80]),
  (31, (.ifCond .eq 10, 34, 41, 0, 0, .null), []),
  (34, (.aload_n 0, 35, 0, 0, 0, .null), []),
  (35, (.bipush (-3), 37, 0, 0, 0, .int (-3)), []),
  (37, (.invokevirtual 64, 40, 108, 2, 0, .null), [818, 820, 35, 80]),
  (40, (.ireturn, 41, 0, 0, 0, .null), []),
  (41, (.aload_n 0, 42, 0, 0, 0, .null), []),
  (42, (.iload_n 1, 43, 1, 0, 0, .null), []),
  (43, (.invokevirtual 87, 46, 116, 2, 0, .null), [862, 864, 41, 80]),
  (46, (.bipush 24, 48, 0, 0, 0, .int 24), []),
  (48, (.if_icmp .ne 10, 51, 58, 0, 0, .null), []),
  (51, (.aload_n 0, 52, 0, 0, 0, .null), []),
  (52, (.bipush (-4), 54, 0, 0, 0, .int (-4)), []),
  (54, (.invokevirtual 64, 57, 108, 2, 0, .null), [818, 820, 35, 80]),
  (57, (.ireturn, 58, 0, 0, 0, .null), []),
  (58, (.aload_n 0, 59, 0, 0, 0, .null), []),
  (59, (.invokevirtual 70, 62, 114, 1, 0, .null), [832, 834, 36, 80]),
  (62, (.aload_n 0, 63, 0, 0, 0, .null), []),
  (63, (.getfield 7, 66, 8, 0, 0, .null), [765]),
  (66, (.iload_n 1, 67, 1, 0, 0, .null), []),
  (67, (.iload_n 2, 68, 2, 0, 0, .null), []),
  (68, (.iload_n 3, 69, 3, 0, 0, .null), []),
  (69, (.invokestatic 56, 72, 112, 3, 0, .null), [856, 857, 80]),
  (72, (.dup2, 73, 0, 0, 0, .null), []),
  (73, (.iaload, 74, 0, 0, 0, .null), []),
  (74, (.iconst 1, 75, 0, 0, 0, .int 1), []),
  (75, (.iload 4, 77, 4, 0, 0, .null), []),
  (77, (.ishl, 78, 0, 0, 0, .null), []),
  (78, (.ior, 79, 0, 0, 0, .null), []),
  (79, (.iastore, 80, 0, 0, 0, .null), []),
  (80, (.aload_n 0, 81, 0, 0, 0, .null), []),
  (81, (.iload_n 1, 82, 1, 0, 0, .null), []),
  (82, (.invokevirtual 87, 85, 116, 2, 0, .null), [862, 864, 41, 80])]
def rx_tb_119_1 : List (Nat × rx_I × List Nat) := [(85, (.ireturn, 86, 0, 0, 0, .null), [])]
def rx_tb_119 : List (Nat × rx_I × List Nat) := rx_tb_119_0 ++ rx_tb_119_1
def rx_tb_120_0 : List (Nat × rx_I × List Nat) := [(0, (.aload_n 0, 1, 0, 0, 0, .null), []),
  (1, (.iload_n 1, 2, 1, 0, 0, .null), []),
  (2, (.iload_n 2, 3, 2, 0, 0, .null), []),
  (3, (.iload_n 3, 4, 3, 0, 0, .null), []),
  (4, (.iload 4, 6, 4, 0, 0, .null), []),
  (6, (.invokevirtual 77, 9, 118, 5, 0, .null), [844, 846, 38, 80]),
  (9, (.ifCond .ne 10, 12, 19, 0, 0, .null), []),
  (12, (.aload_n 0, 13, 0, 0, 0, .null), []),
  (13, (.bipush (-2), 15, 0, 0, 0, .int (-2)), []),
  (15, (.invokevirtual 64, 18, 108, 2, 0, .null), [818, 820, 35, 80]),
  (18, (.ireturn, 19, 0, 0, 0, .null), []),
  (19, (.aload_n 0, 20, 0, 0, 0, .null), []),
  (20, (.iload_n 1, 21, 1, 0, 0, .null), []),
  (21, (.iload_n 2, 22, 2, 0, 0, .null), []),
  (22, (.iload_n 3, 23, 3, 0, 0, .null), []),
  (23, (.invokevirtual 81, 26, 113, 4, 0, .null), [852, 854, 40, 80]),
  (26, (.iload 4, 28, 4, 0, 0, .null), []),
  (28, (.invokestatic 84, 31, 106, 2, 0, .null), [859, 860, 80]),
  (31, (.ifCond .ne 10, 34, 41, 0, 0, .null), []),
  (34, (.aload_n 0, 35, 0, 0, 0, .null), []),
  (35, (.bipush (-3), 37, 0, 0, 0, .int (-3)), []),
  (37, (.invokevirtual 64, 40, 108, 2, 0, .null), [818, 820, 35, 80]),
  (40, (.ireturn, 41, 0, 0, 0, .null), []),
  (41, (.aload_n 0, 42, 0, 0, 0, .null), []),
  (42, (.invokevirtual 70, 45, 114, 1, 0, .null), [832, 834, 36, 80]),
  (45, (.aload_n 0, 46, 0, 0, 0, .null), []),
  (46, (.getfield 7, 49, 8, 0, 0, .null), [765]),
  (49, (.iload_n 1, 50, 1, 0, 0, .null), []),
  (50, (.iload_n 2, 51, 2, 0, 0, .null), []),
  (51, (.iload_n 3, 52, 3, 0, 0, .null), []),
  (52, (.invokestatic 56, 55, 112, 3, 0, .null), [856, 857, 80]),
  (55, (.dup2, 56, 0, 0, 0, .null), []),
  (56, (.iaload, 57, 0, 0, 0, .null), []),
  (57, (.iconst 1, 58, 0, 0, 0, .int 1), []),
  (58, (.iload 4, 60, 4, 0, 0, .null), []),
  (60, (.ishl, 61, 0, 0, 0, .null), []),
  (61, (.iconst (-1), 62, 0, 0, 0, .int (-1)), []),
  (62, (.ixor, 63, 0, 0, 0, .null), []),
  (63, (.iand, 64, 0, 0, 0, .null), []),
  (64, (.iastore, 65, 0, 0, 0, .null), []),
  (65, (.aload_n 0, 66, 0, 0, 0, .null), []),
  (66, (.iload_n 1, 67, 1, 0, 0, .null), []),
  (67, (.invokevirtual 87, 70, 116, 2, 0, .null), [862, 864, 41, 80]),
  (70, (.ireturn, 71, 0, 0, 0, .null), [])]
def rx_tb_120 : List (Nat × rx_I × List Nat) := rx_tb_120_0
def rx_tb_121_0 : List (Nat × rx_I × List Nat) := [(0, (.iconst 0, 1, 0, 0, 0, .int 0), []),
  (1, (.istore 4, 3, 4, 0, 0, .null), []),
  (3, (.iload 4, 5, 4, 0, 0, .null), []),
  (5, (.aload_n 0, 6, 0, 0, 0, .null), []),
  (6, (.iload_n 1, 7, 1, 0, 0, .null), []),
  (7, (.invokevirtual 52, 10, 110, 2, 0, .null), [836, 838, 37, 80]),
  (10, (.if_icmp .ge 50, 13, 60, 0, 0, .null), []),
  (13, (.iload_n 2, 14, 2, 0, 0, .null), []),
  (14, (.iload_n 3, 15, 3, 0, 0, .null), []),
  (15, (.if_icmp .eq 45, 18, 60, 0, 0, .null), []),
  (18, (.aload_n 0, 19, 0, 0, 0, .null), []),
  (19, (.getfield 7, 22, 8, 0, 0, .null), [765]),
  (22, (.iload_n 1, 23, 1, 0, 0, .null), []),
  (23, (.iload 4, 25, 4, 0, 0, .null), []),
  (25, (.iload_n 3, 26, 3, 0, 0, .null), []),
  (26, (.invokestatic 56, 29, 112, 3, 0, .null), [856, 857, 80]),
  (29, (.dup2, 30, 0, 0, 0, .null), []),
  (30, (.iaload, 31, 0, 0, 0, .null), []),
  (31, (.aload_n 0, 32, 0, 0, 0, .null), []),
  (32, (.iload_n 1, 33, 1, 0, 0, .null), []),
  (33, (.iload 4, 35, 4, 0, 0, .null), []),
  (35, (.iload_n 2, 36, 2, 0, 0, .null), []),
  (36, (.invokevirtual 81, 39, 113, 4, 0, .null), [852, 854, 40, 80]),
  (39, (.ior, 40, 0, 0, 0, .null), []),
  (40, (.iastore, 41, 0, 0, 0, .null), []),
  (41, (.aload_n 0, 42, 0, 0, 0, .null), []),
  (42, (.getfield 7, 45, 8, 0, 0, .null), [765]),
  (45, (.iload_n 1, 46, 1, 0, 0, .null), []),
  (46, (.iload 4, 48, 4, 0, 0, .null), []),
  (48, (.iload_n 2, 49, 2, 0, 0, .null), []),
  (49, (.invokestatic 56, 52, 112, 3, 0, .null), [856, 857, 80]),
  (52, (.iconst 0, 53, 0, 0, 0, .int 0), []),
  (53, (.iastore, 54, 0, 0, 0, .null), []),
  (54, (.iinc 4 1, 57, 4, 0, 0, .int 1), []),
  (57, (.goto (-54), 60, 3, 0, 0, .null), []),
  (60, (.return_, 61, 0, 0, 0, .null), [])]
def rx_tb_121 : List (Nat × rx_I × List Nat) := rx_tb_121_0
def rx_tb_122_0 : List (Nat × rx_I × List Nat) := [(0, (.iload_n 1, 1, 1, 0, 0, .null), []),
  (1, (.invokestatic 48, 4, 109, 1, 0, .null), [826, 827, 80]),
  (4, (.ifCond .eq 13, 7, 17, 0, 0, .null), []),
  (7, (.iload_n 2, 8, 2, 0, 0, .null), []),
  (8, (.iconst 0, 9, 0, 0, 0, .int 0), []),
  (9, (.bipush 15, 11, 0, 0, 0, .int 15), []),
  (11, (.invokestatic 44, 14, 105, 3, 0, .null), [829, 830, 80]),
  (14, (.ifCond .ne 10, 17, 24, 0, 0, .null), []),
  (17, (.aload_n 0, 18, 0, 0, 0, .null), []),
  (18, (.bipush (-2), 20, 0, 0, 0, .int (-2)), []),
  (20, (.invokevirtual 64, 23, 108, 2, 0, .null), [818, 820, 35, 80]),
  (23, (.ireturn, 24, 0, 0, 0, .null), []),
  (24, (.aload_n 0, 25, 0, 0, 0, .null), []),
  (25, (.invokevirtual 70, 28, 114, 1, 0, .null), [832, 834, 36, 80]),
  (28, (.iconst 0, 29, 0, 0, 0, .int 0), []),
  (29, (.istore_n 3, 30, 3, 0, 0, .null), []),
  (30, (.iload_n 3, 31, 3, 0, 0, .null), []),
  (31, (.iconst 4, 32, 0, 0, 0, .int 4), []),
  (32, (.if_icmp .ge 24, 35, 56, 0, 0, .null), []),
  (35, (.iload_n 2, 36, 2, 0, 0, .null), []),
  (36, (.iload_n 3, 37, 3, 0, 0, .null), []),
  (37, (.invokestatic 84, 40, 106, 2, 0, .null), [859, 860, 80]),
  (40, (.ifCond .eq 10, 43, 50, 0, 0, .null), []),
  (43, (.aload_n 0, 44, 0, 0, 0, .null), []),
  (44, (.iload_n 1, 45, 1, 0, 0, .null), []),
  (45, (.iload_n 3, 46, 3, 0, 0, .null), []),
  (46, (.iconst 4, 47, 0, 0, 0, .int 4), []),
  (47, (.invokevirtual 90, 50, 121, 4, 0, .null), [877, 879, 42, 80]),
  (50, (.iinc 3 1, 53, 3, 0, 0, .int 1), []),
  (53, (.goto (-23), 56, 30, 0, 0, .null), []),
  (56, (.aload_n 0, 57, 0, 0, 0, .null), []),
  (57, (.iload_n 1, 58, 1, 0, 0, .null), []),
  (58, (.invokevirtual 87, 61, 116, 2, 0, .null), [862, 864, 41, 80]),
  (61, (.ireturn, 62, 0, 0, 0, .null), [])]
def rx_tb_122 : List (Nat × rx_I × List Nat) := rx_tb_122_0
def rx_tb_123_0 : List (Nat × rx_I × List Nat) := [(0, (.iload_n 1, 1, 1, 0, 0, .null), []),
  (1, (.invokestatic 48, 4, 109, 1, 0, .null), [826, 827, 80]),
  (4, (.ifCond .eq 21, 7, 25, 0, 0, .null), []),
  (7, (.iload_n 2, 8, 2, 0, 0, .null), []),
  (8, (.iconst 0, 9, 0, 0, 0, .int 0), []),
  (9, (.iconst 3, 10, 0, 0, 0, .int 3), []),
  (10, (.invokestatic 44, 13, 105, 3, 0, .null), [829, 830, 80]),
  (13, (.ifCond .eq 12, 16, 25, 0, 0, .null), []),
  (16, (.iload_n 3, 17, 3, 0, 0, .null), []),
  (17, (.iconst 0, 18, 0, 0, 0, .int 0), []),
  (18, (.iconst 3, 19, 0, 0, 0, .int 3), []),
  (19, (.invokestatic 44, 22, 105, 3, 0, .null), [829, 830, 80]),
  (22, (.ifCond .ne 10, 25, 32, 0, 0, .null), []),
  (25, (.aload_n 0, 26, 0, 0, 0, .null), []),
  (26, (.bipush (-2), 28, 0, 0, 0, .int (-2)), []),
  (28, (.invokevirtual 64, 31, 108, 2, 0, .null), [818, 820, 35, 80]),
  (31, (.ireturn, 32, 0, 0, 0, .null), []),
  (32, (.aload_n 0, 33, 0, 0, 0, .null), []),
  (33, (.invokevirtual 70, 36, 114, 1, 0, .null), [832, 834, 36, 80]),
  (36, (.aload_n 0, 37, 0, 0, 0, .null), []),
  (37, (.iload_n 1, 38, 1, 0, 0, .null), []),
  (38, (.iload_n 2, 39, 2, 0, 0, .null), []),
  (39, (.iload_n 3, 40, 3, 0, 0, .null), []),
  (40, (.invokevirtual 90, 43, 121, 4, 0, .null), [877, 879, 42, 80]),
  (43, (.aload_n 0, 44, 0, 0, 0, .null), []),
  (44, (.iload_n 1, 45, 1, 0, 0, .null), []),
  (45, (.invokevirtual 87, 48, 116, 2, 0, .null), [862, 864, 41, 80]),
  (48, (.ireturn, 49, 0, 0, 0, .null), [])]
def rx_tb_123 : List (Nat × rx_I × List Nat) := rx_tb_123_0
def rx_tb_124_0 : List (Nat × rx_I × List Nat) := [(0, (.iconst 0, 1, 0, 0, 0, .int 0), []),
  (1, (.istore_n 3, 2, 3, 0, 0, .null), []),
  (2, (.iload_n 3, 3, 3, 0, 0, .null), []),
  (3, (.aload_n 0, 4, 0, 0, 0, .null), []),
  (4, (.getfield 25, 7, 8, 7, 0, .null), [772]),
  (7, (.iconst 0, 8, 0, 0, 0, .int 0), []),
  (8, (.iaload, 9, 0, 0, 0, .null), []),
  (9, (.if_icmp .ge 26, 12, 35, 0, 0, .null), []),
  (12, (.aload_n 0, 13, 0, 0, 0, .null), []),
  (13, (.getfield 28, 16, 8, 8, 0, .null), [773]),
  (16, (.iload_n 3, 17, 3, 0, 0, .null), []),
  (17, (.iaload, 18, 0, 0, 0, .null), []),
  (18, (.bipush 8, 20, 0, 0, 0, .int 8), []),
  (20, (.iload_n 1, 21, 1, 0, 0, .null), []),
  (21, (.imul, 22, 0, 0, 0, .null), []),
  (22, (.iload_n 2, 23, 2, 0, 0, .null), []),
  (23, (.iadd, 24, 0, 0, 0, .null), []),
  (24, (.if_icmp .ne 5, 27, 29, 0, 0, .null), []),
  (27, (.iload_n 3, 28, 3, 0, 0, .null), []),
  (28, (.ireturn, 29, 0, 0, 0, .null), []),
  (29, (.iinc 3 1, 32, 3, 0, 0, .int 1), []),
  (32, (.goto (-30), 35, 2, 0, 0, .null), []),
  (35, (.aload_n 0, 36, 0, 0, 0, .null), []),
  (36, (.getfield 25, 39, 8, 7, 0, .null), [772]),
  (39, (.iconst 0, 40, 0, 0, 0, .int 0), []),
  (40, (.iaload, 41, 0, 0, 0, .null), []),
  (41, (.bipush 8, 43, 0, 0, 0, .int 8), []),
  (43, (.if_icmp .ne 5, 46, 48, 0, 0, .null), []),
  (46, (.iconst (-1), 47, 0, 0, 0, .int (-1)), []),
  (47, (.ireturn, 48, 0, 0, 0, .null), []),
  (48, (.aload_n 0, 49, 0, 0, 0, .null), []),
  (49, (.getfield 28, 52, 8, 8, 0, .null), [773]),
  (52, (.aload_n 0, 53, 0, 0, 0, .null), []),
  (53, (.getfield 25, 56, 8, 7, 0, .null), [772]),
  (56, (.iconst 0, 57, 0, 0, 0, .int 0), []),
  (57, (.iaload, 58, 0, 0, 0, .null), []),
  (58, (.bipush 8, 60, 0, 0, 0, .int 8), []),
  (60, (.iload_n 1, 61, 1, 0, 0, .null), []),
  (61, (.imul, 62, 0, 0, 0, .null), []),
  (62, (.iload_n 2, 63, 2, 0, 0, .null), []),
  (63, (.iadd, 64, 0, 0, 0, .null), []),
  (64, (.iastore, 65, 0, 0, 0, .null), []),
  (65, (.aload_n 0, 66, 0, 0, 0, .null), []),
  (66, (.getfield 25, 69, 8, 7, 0, .null), [772]),
  (69, (.iconst 0, 70, 0, 0, 0, .int 0), []),
  (70, (.dup2, 71, 0, 0, 0, .null), []),
  (71, (.iaload, 72, 0, 0, 0, .null), []),
  (72, (.iconst 1, 73, 0, 0, 0, .int 1), []),
  (73, (.iadd, 74, 0, 0, 0, .null), []),
  (74, (.iastore, 75, 0, 0, 0, .null), [])]
def rx_tb_124_1 : List (Nat × rx_I × List Nat) := [(75, (.aload_n 0, 76, 0, 0, 0, .null), []),
  (76, (.getfield 25, 79, 8, 7, 0, .null), [772]),
  (79, (.iconst 0, 80, 0, 0, 0, .int 0), []),
  (80, (.iaload, 81, 0, 0, 0, .null), []),
  (81, (.iconst 1, 82, 0, 0, 0, .int 1), []),
  (82, (.isub, 83, 0, 0, 0, .null), []),
  (83, (.ireturn, 84, 0, 0, 0, .null), [])]
def rx_tb_124 : List (Nat × rx_I × List Nat) := rx_tb_124_0 ++ rx_tb_124_1
def rx_tb_125_0 : List (Nat × rx_I × List Nat) := [(0, (.iconst 1, 1, 0, 0, 0, .int 1), []),
  (1, (.istore 5, 3, 5, 0, 0, .null), []),
  (3, (.iconst 0, 4, 0, 0, 0, .int 0), []),
  (4, (.istore 6, 6, 6, 0, 0, .null), []),
  (6, (.iload 6, 8, 6, 0, 0, .null), []),
  (8, (.bipush 8, 10, 0, 0, 0, .int 8), []),
  (10, (.if_icmp .ge 111, 13, 121, 0, 0, .null), []),
  (13, (.iconst 0, 14, 0, 0, 0, .int 0), []),
  (14, (.istore 7, 16, 7, 0, 0, .null), []),
  (16, (.iload 7, 18, 7, 0, 0, .null), []),
  (18, (.bipush 8, 20, 0, 0, 0, .int 8), []),
  (20, (.if_icmp .ge 95, 23, 115, 0, 0, .null), []),
  (23, (.iload_n 3, 24, 3, 0, 0, .null), []),
  (24, (.iload 6, 26, 6, 0, 0, .null), []),
  (26, (.invokestatic 84, 29, 106, 2, 0, .null), [859, 860, 80]),
  (29, (.ifCond .eq 86, 32, 115, 0, 0, .null), []),
  (32, (.iload 4, 34, 4, 0, 0, .null), []),
  (34, (.iload 7, 36, 7, 0, 0, .null), []),
  (36, (.invokestatic 84, 39, 106, 2, 0, .null), [859, 860, 80]),
  (39, (.ifCond .eq 14, 42, 53, 0, 0, .null), []),
  (42, (.aload_n 0, 43, 0, 0, 0, .null), []),
  (43, (.iload 6, 45, 6, 0, 0, .null), []),
  (45, (.iload 7, 47, 7, 0, 0, .null), []),
  (47, (.invokevirtual 94, 50, 124, 3, 0, .null), [893, 895, 44, 80]),
  (50, (.goto 4, 53, 54, 0, 0, .null), []),
  (53, (.iconst 0, 54, 0, 0, 0, .int 0), []),
  (54, (.istore 8, 56, 8, 0, 0, .null), []),
  (56, (.iload 5, 58, 5, 0, 0, .null), []),
  (58, (.ifCond .eq 13, 61, 71, 0, 0, .null), []),
  (61, (.iload 8, 63, 8, 0, 0, .null), []),
  (63, (.iconst (-1), 64, 0, 0, 0, .int (-1)), []),
  (64, (.if_icmp .eq 7, 67, 71, 0, 0, .null), []),
  (67, (.iconst 1, 68, 0, 0, 0, .int 1), []),
  (68, (.goto 4, 71, 72, 0, 0, .null), []),
  (71, (.iconst 0, 72, 0, 0, 0, .int 0), []),
  (72, (.istore 5, 74, 5, 0, 0, .null), []),
  (74, (.iload 4, 76, 4, 0, 0, .null), []),
  (76, (.iload 7, 78, 7, 0, 0, .null), []),
  (78, (.invokestatic 84, 81, 106, 2, 0, .null), [859, 860, 80]),
  (81, (.ifCond .eq 28, 84, 109, 0, 0, .null), []),
  (84, (.iload 8, 86, 8, 0, 0, .null), []),
  (86, (.iconst (-1), 87, 0, 0, 0, .int (-1)), []),
  (87, (.if_icmp .eq 22, 90, 109, 0, 0, .null), []),
  (90, (.aload_n 0, 91, 0, 0, 0, .null), []),
  (91, (.getfield 25, 94, 8, 7, 0, .null), [772]),
  (94, (.iconst 1, 95, 0, 0, 0, .int 1), []),
  (95, (.iconst 5, 96, 0, 0, 0, .int 5), []),
  (96, (.iload_n 1, 97, 1, 0, 0, .null), []),
  (97, (.imul, 98, 0, 0, 0, .null), []),
  (98, (.iadd, 99, 0, 0, 0, .null), [])]
def rx_tb_125_1 : List (Nat × rx_I × List Nat) := [(99, (.iload_n 2, 100, 2, 0, 0, .null), []),
  (100, (.iadd, 101, 0, 0, 0, .null), []),
  (101, (.dup2, 102, 0, 0, 0, .null), []),
  (102, (.iaload, 103, 0, 0, 0, .null), []),
  (103, (.iconst 1, 104, 0, 0, 0, .int 1), []),
  (104, (.iload 8, 106, 8, 0, 0, .null), []),
  (106, (.ishl, 107, 0, 0, 0, .null), []),
  (107, (.ior, 108, 0, 0, 0, .null), []),
  (108, (.iastore, 109, 0, 0, 0, .null), []),
  (109, (.iinc 7 1, 112, 7, 0, 0, .int 1), []),
  (112, (.goto (-96), 115, 16, 0, 0, .null), []),
  (115, (.iinc 6 1, 118, 6, 0, 0, .int 1), []),
  (118, (.goto (-112), 121, 6, 0, 0, .null), []),
  (121, (.iload 5, 123, 5, 0, 0, .null), []),
  (123, (.ireturn, 124, 0, 0, 1, .null), [])]
def rx_tb_125 : List (Nat × rx_I × List Nat) := rx_tb_125_0 ++ rx_tb_125_1
def rx_tb_126_0 : List (Nat × rx_I × List Nat) := [(0, (.iconst 0, 1, 0, 0, 0, .int 0), []),
  (1, (.istore 4, 3, 4, 0, 0, .null), []),
  (3, (.iload 4, 5, 4, 0, 0, .null), []),
  (5, (.bipush 41, 7, 0, 0, 0, .int 41), []),
  (7, (.if_icmp .ge 17, 10, 24, 0, 0, .null), []),
  (10, (.aload_n 0, 11, 0, 0, 0, .null), []),
  (11, (.getfield 25, 14, 8, 7, 0, .null), [772]),
  (14, (.iload 4, 16, 4, 0, 0, .null), []),
  (16, (.iconst 0, 17, 0, 0, 0, .int 0), []),
  (17, (.iastore, 18, 0, 0, 0, .null), []),
  (18, (.iinc 4 1, 21, 4, 0, 0, .int 1), []),
  (21, (.goto (-18), 24, 3, 0, 0, .null), []),
  (24, (.aload_n 0, 25, 0, 0, 0, .null), []),
  (25, (.iconst 0, 26, 0, 0, 0, .int 0), []),
  (26, (.iconst 0, 27, 0, 0, 0, .int 0), []),
  (27, (.invokevirtual 94, 30, 124, 3, 0, .null), [893, 895, 44, 80]),
  (30, (.pop, 31, 0, 0, 0, .null), []),
  (31, (.iconst 1, 32, 0, 0, 0, .int 1), []),
  (32, (.istore 4, 34, 4, 0, 0, .null), []),
  (34, (.iconst 0, 35, 0, 0, 0, .int 0), []),
  (35, (.istore 5, 37, 5, 0, 0, .null), []),
  (37, (.iload 5, 39, 5, 0, 0, .null), []),
  (39, (.aload_n 0, 40, 0, 0, 0, .null), []),
  (40, (.getfield 25, 43, 8, 7, 0, .null), [772]),
  (43, (.iconst 0, 44, 0, 0, 0, .int 0), []),
  (44, (.iaload, 45, 0, 0, 0, .null), []),
  (45, (.if_icmp .ge 159, 48, 204, 0, 0, .null), []),
  (48, (.iload 4, 50, 4, 0, 0, .null), []),
  (50, (.ifCond .eq 154, 53, 204, 0, 0, .null), []),
  (53, (.aload_n 0, 54, 0, 0, 0, .null), []),
  (54, (.getfield 28, 57, 8, 8, 0, .null), [773]),
  (57, (.iload 5, 59, 5, 0, 0, .null), []),
  (59, (.iaload, 60, 0, 0, 0, .null), []),
  (60, (.bipush 8, 62, 0, 0, 0, .int 8), []),
  (62, (.idiv, 63, 0, 0, 0, .null), []),
  (63, (.istore 6, 65, 6, 0, 0, .null), []),
  (65, (.aload_n 0, 66, 0, 0, 0, .null), []),
  (66, (.getfield 28, 69, 8, 8, 0, .null), [773]),
  (69, (.iload 5, 71, 5, 0, 0, .null), []),
  (71, (.iaload, 72, 0, 0, 0, .null), []),
  (72, (.bipush 8, 74, 0, 0, 0, .int 8), []),
  (74, (.irem, 75, 0, 0, 0, .null), []),
  (75, (.istore 7, 77, 7, 0, 0, .null), []),
  (77, (.iconst 0, 78, 0, 0, 0, .int 0), []),
  (78, (.istore 8, 80, 8, 0, 0, .null), []),
  (80, (.iload 8, 82, 8, 0, 0, .null), []),
  (82, (.iconst 4, 83, 0, 0, 0, .int 4), []),
  (83, (.if_icmp .gt 115, 86, 198, 0, 0, .null), []),
  (86, (.iload 4, 88, 4, 0, 0, .null), []),
  (88, (.ifCond .eq 110, 91, 198, 0, 0, .null), [])]
def rx_tb_126_1 : List (Nat × rx_I × List Nat) := [(91, (.iload 8, 93, 8, 0, 0, .null), []),
  (93, (.iconst 4, 94, 0, 0, 0, .int 4), []),
  (94, (.if_icmp .ge 43, 97, 137, 0, 0, .null), []),
  (97, (.iload_n 3, 98, 3, 0, 0, .null), []),
  (98, (.iload 8, 100, 8, 0, 0, .null), []),
  (100, (.invokestatic 84, 103, 106, 2, 0, .null), [859, 860, 80]),
  (103, (.ifCond .eq 34, 106, 137, 0, 0, .null), []),
  (106, (.aload_n 0, 107, 0, 0, 0, .null), []),
  (107, (.iload 5, 109, 5, 0, 0, .null), []),
  (109, (.iload 8, 111, 8, 0, 0, .null), []),
  (111, (.aload_n 0, 112, 0, 0, 0, .null), []),
  (112, (.iload_n 1, 113, 1, 0, 0, .null), []),
  (113, (.iload 6, 115, 6, 0, 0, .null), []),
  (115, (.iload 8, 117, 8, 0, 0, .null), []),
  (117, (.invokevirtual 81, 120, 113, 4, 0, .null), [852, 854, 40, 80]),
  (120, (.aload_n 0, 121, 0, 0, 0, .null), []),
  (121, (.iload_n 2, 122, 2, 0, 0, .null), []),
  (122, (.iload 7, 124, 7, 0, 0, .null), []),
  (124, (.iload 8, 126, 8, 0, 0, .null), []),
  (126, (.invokevirtual 81, 129, 113, 4, 0, .null), [852, 854, 40, 80]),
  (129, (.invokevirtual 98, 132, 125, 5, 0, .null), [897, 899, 45, 80]),
  (132, (.istore 4, 134, 4, 0, 0, .null), []),
  (134, (.goto 58, 137, 192, 0, 0, .null), []),
  (137, (.aload_n 0, 138, 0, 0, 0, .null), []),
  (138, (.iload 5, 140, 5, 0, 0, .null), []),
  (140, (.iload 8, 142, 8, 0, 0, .null), []),
  (142, (.aload_n 0, 143, 0, 0, 0, .null), []),
  (143, (.iload_n 1, 144, 1, 0, 0, .null), []),
  (144, (.iload 6, 146, 6, 0, 0, .null), []),
  (146, (.iload 8, 148, 8, 0, 0, .null), []),
  (148, (.invokevirtual 81, 151, 113, 4, 0, .null), [852, 854, 40, 80]),
  (151, (.iconst 1, 152, 0, 0, 0, .int 1), []),
  (152, (.iload 7, 154, 7, 0, 0, .null), []),
  (154, (.ishl, 155, 0, 0, 0, .null), []),
  (155, (.invokevirtual 98, 158, 125, 5, 0, .null), [897, 899, 45, 80]),
  (158, (.ifCond .eq 31, 161, 189, 0, 0, .null), []),
  (161, (.aload_n 0, 162, 0, 0, 0, .null), []),
  (162, (.iload 5, 164, 5, 0, 0, .null), []),
  (164, (.iload 8, 166, 8, 0, 0, .null), []),
  (166, (.iconst 1, 167, 0, 0, 0, .int 1), []),
  (167, (.iload 6, 169, 6, 0, 0, .null), []),
  (169, (.ishl, 170, 0, 0, 0, .null), []),
  (170, (.aload_n 0, 171, 0, 0, 0, .null), []),
  (171, (.iload_n 2, 172, 2, 0, 0, .null), []),
  (172, (.iload 7, 174, 7, 0, 0, .null), []),
  (174, (.iload 8, 176, 8, 0, 0, .null), []),
  (176, (.invokevirtual 81, 179, 113, 4, 0, .null), [852, 854, 40, 80]),
  (179, (.invokevirtual 98, 182, 125, 5, 0, .null), [897, 899, 45, 80]),
  (182, (.ifCond .eq 7, 185, 189, 0, 0, .null), []),
  (185, (.iconst 1, 186, 0, 0, 0, .int 1), [])]
def rx_tb_126_2 : List (Nat × rx_I × List Nat) := [(186, (.goto 4, 189, 190, 0, 0, .null), []),
  (189, (.iconst 0, 190, 0, 0, 0, .int 0), []),
  (190, (.istore 4, 192, 4, 0, 0, .null), []),
  (192, (.iinc 8 1, 195, 8, 0, 0, .int 1), []),
  (195, (.goto (-115), 198, 80, 0, 0, .null), []),
  (198, (.iinc 5 1, 201, 5, 0, 0, .int 1), []),
  (201, (.goto (-164), 204, 37, 0, 0, .null), []),
  (204, (.iconst 0, 205, 0, 0, 0, .int 0), []),
  (205, (.istore 5, 207, 5, 0, 0, .null), []),
  (207, (.iconst 1, 208, 0, 0, 0, .int 1), []),
  (208, (.istore 6, 210, 6, 0, 0, .null), []),
  (210, (.iload 6, 212, 6, 0, 0, .null), []),
  (212, (.bipush 41, 214, 0, 0, 0, .int 41), []),
  (214, (.if_icmp .ge 24, 217, 238, 0, 0, .null), []),
  (217, (.iload 5, 219, 5, 0, 0, .null), []),
  (219, (.aload_n 0, 220, 0, 0, 0, .null), []),
  (220, (.getfield 25, 223, 8, 7, 0, .null), [772]),
  (223, (.iload 6, 225, 6, 0, 0, .null), []),
  (225, (.iaload, 226, 0, 0, 0, .null), []),
  (226, (.invokestatic 67, 229, 107, 1, 0, .null), [866, 867, 80]),
  (229, (.iadd, 230, 0, 0, 0, .null), []),
  (230, (.istore 5, 232, 5, 0, 0, .null), []),
  (232, (.iinc 6 1, 235, 6, 0, 0, .int 1), []),
  (235, (.goto (-25), 238, 210, 0, 0, .null), []),
  (238, (.iload 4, 240, 4, 0, 0, .null), []),
  (240, (.ifCond .eq 14, 243, 254, 0, 0, .null), []),
  (243, (.iload 5, 245, 5, 0, 0, .null), []),
  (245, (.bipush 24, 247, 0, 0, 0, .int 24), []),
  (247, (.if_icmp .gt 7, 250, 254, 0, 0, .null), []),
  (250, (.iconst 1, 251, 0, 0, 0, .int 1), []),
  (251, (.goto 4, 254, 255, 0, 0, .null), []),
  (254, (.iconst 0, 255, 0, 0, 0, .int 0), []),
  (255, (.ireturn, 256, 0, 0, 1, .null), [])]
def rx_tb_126 : List (Nat × rx_I × List Nat) := rx_tb_126_0 ++ rx_tb_126_1 ++ rx_tb_126_2
def rx_tb_127_0 : List (Nat × rx_I × List Nat) := [(0, (.iconst 0, 1, 0, 0, 0, .int 0), []),
  (1, (.istore_n 2, 2, 2, 0, 0, .null), []),
  (2, (.iload_n 2, 3, 2, 0, 0, .null), []),
  (3, (.bipush 41, 5, 0, 0, 0, .int 41), []),
  (5, (.if_icmp .ge 26, 8, 31, 0, 0, .null), []),
  (8, (.aload_n 0, 9, 0, 0, 0, .null), []),
  (9, (.getfield 7, 12, 8, 0, 0, .null), [765]),
  (12, (.bipush 41, 14, 0, 0, 0, .int 41), []),
  (14, (.iload_n 1, 15, 1, 0, 0, .null), []),
  (15, (.imul, 16, 0, 0, 0, .null), []),
  (16, (.iload_n 2, 17, 2, 0, 0, .null), []),
  (17, (.iadd, 18, 0, 0, 0, .null), []),
  (18, (.aload_n 0, 19, 0, 0, 0, .null), []),
  (19, (.getfield 25, 22, 8, 7, 0, .null), [772]),
  (22, (.iload_n 2, 23, 2, 0, 0, .null), []),
  (23, (.iaload, 24, 0, 0, 0, .null), []),
  (24, (.iastore, 25, 0, 0, 0, .null), []),
  (25, (.iinc 2 1, 28, 2, 0, 0, .int 1), []),
  (28, (.goto (-26), 31, 2, 0, 0, .null), []),
  (31, (.return_, 32, 0, 0, 0, .null), [])]
def rx_tb_127 : List (Nat × rx_I × List Nat) := rx_tb_127_0
def rx_tb_128_0 : List (Nat × rx_I × List Nat) := [(0, (.iload_n 1, 1, 1, 0, 0, .null), []),
  (1, (.invokestatic 48, 4, 109, 1, 0, .null), [826, 827, 80]),
  (4, (.ifCond .eq 28, 7, 32, 0, 0, .null), []),
  (7, (.iload_n 2, 8, 2, 0, 0, .null), []),
  (8, (.invokestatic 48, 11, 109, 1, 0, .null), [826, 827, 80]),
  (11, (.ifCond .eq 21, 14, 32, 0, 0, .null), []),
  (14, (.iload_n 3, 15, 3, 0, 0, .null), []),
  (15, (.iconst 0, 16, 0, 0, 0, .int 0), []),
  (16, (.bipush 15, 18, 0, 0, 0, .int 15), []),
  (18, (.invokestatic 44, 21, 105, 3, 0, .null), [829, 830, 80]),
  (21, (.ifCond .eq 11, 24, 32, 0, 0, .null), []),
  (24, (.iload 4, 26, 4, 0, 0, .null), []),
  (26, (.invokestatic 48, 29, 109, 1, 0, .null), [826, 827, 80]),
  (29, (.ifCond .ne 10, 32, 39, 0, 0, .null), []),
  (32, (.aload_n 0, 33, 0, 0, 0, .null), []),
  (33, (.bipush (-2), 35, 0, 0, 0, .int (-2)), []),
  (35, (.invokevirtual 64, 38, 108, 2, 0, .null), [818, 820, 35, 80]),
  (38, (.ireturn, 39, 0, 0, 0, .null), []),
  (39, (.aload_n 0, 40, 0, 0, 0, .null), []),
  (40, (.iload_n 1, 41, 1, 0, 0, .null), []),
  (41, (.iload_n 2, 42, 2, 0, 0, .null), []),
  (42, (.iload_n 3, 43, 3, 0, 0, .null), []),
  (43, (.invokevirtual 101, 46, 126, 4, 0, .null), [889, 891, 43, 80]),
  (46, (.ifCond .ne 10, 49, 56, 0, 0, .null), []),
  (49, (.aload_n 0, 50, 0, 0, 0, .null), []),
  (50, (.bipush (-4), 52, 0, 0, 0, .int (-4)), []),
  (52, (.invokevirtual 64, 55, 108, 2, 0, .null), [818, 820, 35, 80]),
  (55, (.ireturn, 56, 0, 0, 0, .null), []),
  (56, (.aload_n 0, 57, 0, 0, 0, .null), []),
  (57, (.invokevirtual 70, 60, 114, 1, 0, .null), [832, 834, 36, 80]),
  (60, (.aload_n 0, 61, 0, 0, 0, .null), []),
  (61, (.iload 4, 63, 4, 0, 0, .null), []),
  (63, (.invokevirtual 104, 66, 127, 2, 0, .null), [901, 903, 46, 80]),
  (66, (.aload_n 0, 67, 0, 0, 0, .null), []),
  (67, (.getfield 25, 70, 8, 7, 0, .null), [772]),
  (70, (.iconst 0, 71, 0, 0, 0, .int 0), []),
  (71, (.iaload, 72, 0, 0, 0, .null), []),
  (72, (.ireturn, 73, 0, 0, 0, .null), [])]
def rx_tb_128 : List (Nat × rx_I × List Nat) := rx_tb_128_0
def rx_tb_129_0 : List (Nat × rx_I × List Nat) := [(0, (.aload_n 0, 1, 0, 0, 0, .null), []),
  (1, (.iload_n 3, 2, 3, 0, 0, .null), []),
  (2, (.bipush 8, 4, 0, 0, 0, .int 8), []),
  (4, (.if_icmp .ge 7, 7, 11, 0, 0, .null), []),
  (7, (.iload_n 1, 8, 1, 0, 0, .null), []),
  (8, (.goto 4, 11, 12, 0, 0, .null), []),
  (11, (.iload_n 2, 12, 2, 0, 0, .null), []),
  (12, (.iload_n 3, 13, 3, 0, 0, .null), []),
  (13, (.bipush 8, 15, 0, 0, 0, .int 8), []),
  (15, (.irem, 16, 0, 0, 0, .null), []),
  (16, (.iload 5, 18, 5, 0, 0, .null), []),
  (18, (.invokevirtual 81, 21, 113, 4, 0, .null), [852, 854, 40, 80]),
  (21, (.istore 6, 23, 6, 0, 0, .null), []),
  (23, (.aload_n 0, 24, 0, 0, 0, .null), []),
  (24, (.iload 4, 26, 4, 0, 0, .null), []),
  (26, (.bipush 8, 28, 0, 0, 0, .int 8), []),
  (28, (.if_icmp .ge 7, 31, 35, 0, 0, .null), []),
  (31, (.iload_n 1, 32, 1, 0, 0, .null), []),
  (32, (.goto 4, 35, 36, 0, 0, .null), []),
  (35, (.iload_n 2, 36, 2, 0, 0, .null), []),
  (36, (.iload 4, 38, 4, 0, 0, .null), []),
  (38, (.bipush 8, 40, 0, 0, 0, .int 8), []),
  (40, (.irem, 41, 0, 0, 0, .null), []),
  (41, (.iload 5, 43, 5, 0, 0, .null), []),
  (43, (.invokevirtual 81, 46, 113, 4, 0, .null), [852, 854, 40, 80]),
  (46, (.istore 7, 48, 7, 0, 0, .null), []),
  (48, (.iconst 0, 49, 0, 0, 0, .int 0), []),
  (49, (.istore 8, 51, 8, 0, 0, .null), []),
  (51, (.iload 8, 53, 8, 0, 0, .null), []),
  (53, (.bipush 8, 55, 0, 0, 0, .int 8), []),
  (55, (.if_icmp .ge 69, 58, 124, 0, 0, .null), []),
  (58, (.aload_n 0, 59, 0, 0, 0, .null), []),
  (59, (.getfield 31, 62, 8, 9, 0, .null), [774]),
  (62, (.iload 8, 64, 8, 0, 0, .null), []),
  (64, (.iload_n 3, 65, 3, 0, 0, .null), []),
  (65, (.bipush 8, 67, 0, 0, 0, .int 8), []),
  (67, (.if_icmp .ge 7, 70, 74, 0, 0, .null), []),
  (70, (.iconst 0, 71, 0, 0, 0, .int 0), []),
  (71, (.goto 5, 74, 76, 0, 0, .null), []),
  (74, (.bipush 8, 76, 0, 0, 0, .int 8), []),
  (76, (.iadd, 77, 0, 0, 0, .null), []),
  (77, (.iaload, 78, 0, 0, 0, .null), []),
  (78, (.iload 4, 80, 4, 0, 0, .null), []),
  (80, (.bipush 8, 82, 0, 0, 0, .int 8), []),
  (82, (.if_icmp .ge 7, 85, 89, 0, 0, .null), []),
  (85, (.iconst 0, 86, 0, 0, 0, .int 0), []),
  (86, (.goto 5, 89, 91, 0, 0, .null), []),
  (89, (.bipush 8, 91, 0, 0, 0, .int 8), []),
  (91, (.ishr, 92, 0, 0, 0, .null), []),
  (92, (.istore 9, 94, 9, 0, 0, .null), [])]
def rx_tb_129_1 : List (Nat × rx_I × List Nat) := [(94, (.iload 6, 96, 6, 0, 0, .null), []),
  (96, (.iload 8, 98, 8, 0, 0, .null), []),
  (98, (.invokestatic 84, 101, 106, 2, 0, .null), [859, 860, 80]),
  (101, (.ifCond .eq 17, 104, 118, 0, 0, .null), []),
  (104, (.iload 7, 106, 7, 0, 0, .null), []),
  (106, (.iload 9, 108, 9, 0, 0, .null), []),
  (108, (.iand, 109, 0, 0, 0, .null), []),
  (109, (.sipush 255, 112, 0, 0, 0, .int 255), []),
  (112, (.iand, 113, 0, 0, 0, .null), []),
  (113, (.ifCond .ne 5, 116, 118, 0, 0, .null), []),
  (116, (.iconst 0, 117, 0, 0, 0, .int 0), []),
  (117, (.ireturn, 118, 0, 0, 1, .null), []),
  (118, (.iinc 8 1, 121, 8, 0, 0, .int 1), []),
  (121, (.goto (-70), 124, 51, 0, 0, .null), []),
  (124, (.iconst 1, 125, 0, 0, 0, .int 1), []),
  (125, (.ireturn, 126, 0, 0, 1, .null), [])]
def rx_tb_129 : List (Nat × rx_I × List Nat) := rx_tb_129_0 ++ rx_tb_129_1
def rx_tb_130_0 : List (Nat × rx_I × List Nat) := [(0, (.iload_n 3, 1, 3, 0, 0, .null), []),
  (1, (.bipush 8, 3, 0, 0, 0, .int 8), []),
  (3, (.irem, 4, 0, 0, 0, .null), []),
  (4, (.aload_n 0, 5, 0, 0, 0, .null), []),
  (5, (.iload_n 3, 6, 3, 0, 0, .null), []),
  (6, (.bipush 8, 8, 0, 0, 0, .int 8), []),
  (8, (.if_icmp .ge 7, 11, 15, 0, 0, .null), []),
  (11, (.iload_n 1, 12, 1, 0, 0, .null), []),
  (12, (.goto 4, 15, 16, 0, 0, .null), []),
  (15, (.iload_n 2, 16, 2, 0, 0, .null), []),
  (16, (.invokevirtual 52, 19, 110, 2, 0, .null), [836, 838, 37, 80]),
  (19, (.if_icmp .ge 7, 22, 26, 0, 0, .null), []),
  (22, (.iconst 1, 23, 0, 0, 0, .int 1), []),
  (23, (.goto 4, 26, 27, 0, 0, .null), []),
  (26, (.iconst 0, 27, 0, 0, 0, .int 0), []),
  (27, (.ireturn, 28, 0, 0, 1, .null), [])]
def rx_tb_130 : List (Nat × rx_I × List Nat) := rx_tb_130_0
def rx_tb_131_0 : List (Nat × rx_I × List Nat) := [(0, (.iconst 0, 1, 0, 0, 0, .int 0), []),
  (1, (.istore_n 3, 2, 3, 0, 0, .null), []),
  (2, (.iload_n 3, 3, 3, 0, 0, .null), []),
  (3, (.bipush 16, 5, 0, 0, 0, .int 16), []),
  (5, (.if_icmp .ge 70, 8, 75, 0, 0, .null), []),
  (8, (.aload_n 0, 9, 0, 0, 0, .null), []),
  (9, (.getfield 31, 12, 8, 9, 0, .null), [774]),
  (12, (.iload_n 3, 13, 3, 0, 0, .null), []),
  (13, (.iconst 0, 14, 0, 0, 0, .int 0), []),
  (14, (.iastore, 15, 0, 0, 0, .null), []),
  (15, (.iconst 0, 16, 0, 0, 0, .int 0), []),
  (16, (.istore 4, 18, 4, 0, 0, .null), []),
  (18, (.iload 4, 20, 4, 0, 0, .null), []),
  (20, (.bipush 16, 22, 0, 0, 0, .int 16), []),
  (22, (.if_icmp .ge 47, 25, 69, 0, 0, .null), []),
  (25, (.aload_n 0, 26, 0, 0, 0, .null), []),
  (26, (.getfield 31, 29, 8, 9, 0, .null), [774]),
  (29, (.iload_n 3, 30, 3, 0, 0, .null), []),
  (30, (.dup2, 31, 0, 0, 0, .null), []),
  (31, (.iaload, 32, 0, 0, 0, .null), []),
  (32, (.aload_n 0, 33, 0, 0, 0, .null), []),
  (33, (.iload_n 1, 34, 1, 0, 0, .null), []),
  (34, (.iload_n 2, 35, 2, 0, 0, .null), []),
  (35, (.iload_n 3, 36, 3, 0, 0, .null), []),
  (36, (.invokevirtual 108, 39, 130, 4, 0, .null), [913, 915, 48, 80]),
  (39, (.ifCond .eq 21, 42, 60, 0, 0, .null), []),
  (42, (.aload_n 0, 43, 0, 0, 0, .null), []),
  (43, (.iload_n 1, 44, 1, 0, 0, .null), []),
  (44, (.iload_n 2, 45, 2, 0, 0, .null), []),
  (45, (.iload 4, 47, 4, 0, 0, .null), []),
  (47, (.invokevirtual 108, 50, 130, 4, 0, .null), [913, 915, 48, 80]),
  (50, (.ifCond .eq 10, 53, 60, 0, 0, .null), []),
  (53, (.iconst 1, 54, 0, 0, 0, .int 1), []),
  (54, (.iload 4, 56, 4, 0, 0, .null), []),
  (56, (.ishl, 57, 0, 0, 0, .null), []),
  (57, (.goto 4, 60, 61, 0, 0, .null), []),
  (60, (.iconst 0, 61, 0, 0, 0, .int 0), []),
  (61, (.ior, 62, 0, 0, 0, .null), []),
  (62, (.iastore, 63, 0, 0, 0, .null), []),
  (63, (.iinc 4 1, 66, 4, 0, 0, .int 1), []),
  (66, (.goto (-48), 69, 18, 0, 0, .null), []),
  (69, (.iinc 3 1, 72, 3, 0, 0, .int 1), []),
  (72, (.goto (-70), 75, 2, 0, 0, .null), []),
  (75, (.iconst 1, 76, 0, 0, 0, .int 1), []),
  (76, (.istore_n 3, 77, 3, 0, 0, .null), []),
  (77, (.iload_n 3, 78, 3, 0, 0, .null), []),
  (78, (.ifCond .eq 164, 81, 242, 0, 0, .null), []),
  (81, (.iconst 0, 82, 0, 0, 0, .int 0), []),
  (82, (.istore_n 3, 83, 3, 0, 0, .null), []),
  (83, (.iconst 0, 84, 0, 0, 0, .int 0), [])]
def rx_tb_131_1 : List (Nat × rx_I × List Nat) := [(84, (.istore 4, 86, 4, 0, 0, .null), []),
  (86, (.iload 4, 88, 4, 0, 0, .null), []),
  (88, (.sipush 256, 91, 0, 0, 0, .int 256), []),
  (91, (.if_icmp .ge 148, 94, 239, 0, 0, .null), []),
  (94, (.iload 4, 96, 4, 0, 0, .null), []),
  (96, (.bipush 16, 98, 0, 0, 0, .int 16), []),
  (98, (.idiv, 99, 0, 0, 0, .null), []),
  (99, (.istore 5, 101, 5, 0, 0, .null), []),
  (101, (.iload 4, 103, 4, 0, 0, .null), []),
  (103, (.bipush 16, 105, 0, 0, 0, .int 16), []),
  (105, (.irem, 106, 0, 0, 0, .null), []),
  (106, (.istore 6, 108, 6, 0, 0, .null), []),
  (108, (.aload_n 0, 109, 0, 0, 0, .null), []),
  (109, (.getfield 31, 112, 8, 9, 0, .null), [774]),
  (112, (.iload 5, 114, 5, 0, 0, .null), []),
  (114, (.iaload, 115, 0, 0, 0, .null), []),
  (115, (.iload 6, 117, 6, 0, 0, .null), []),
  (117, (.invokestatic 84, 120, 106, 2, 0, .null), [859, 860, 80]),
  (120, (.istore 7, 122, 7, 0, 0, .null), []),
  (122, (.iconst 0, 123, 0, 0, 0, .int 0), []),
  (123, (.istore 8, 125, 8, 0, 0, .null), []),
  (125, (.iload 8, 127, 8, 0, 0, .null), []),
  (127, (.iconst 4, 128, 0, 0, 0, .int 4), []),
  (128, (.if_icmp .gt 51, 131, 179, 0, 0, .null), []),
  (131, (.iload 7, 133, 7, 0, 0, .null), []),
  (133, (.ifCond .eq 46, 136, 179, 0, 0, .null), []),
  (136, (.aload_n 0, 137, 0, 0, 0, .null), []),
  (137, (.iload_n 1, 138, 1, 0, 0, .null), []),
  (138, (.iload_n 2, 139, 2, 0, 0, .null), []),
  (139, (.iload 5, 141, 5, 0, 0, .null), []),
  (141, (.iload 6, 143, 6, 0, 0, .null), []),
  (143, (.iload 8, 145, 8, 0, 0, .null), []),
  (145, (.invokevirtual 111, 148, 129, 6, 0, .null), [917, 919, 49, 80]),
  (148, (.ifCond .eq 22, 151, 170, 0, 0, .null), []),
  (151, (.aload_n 0, 152, 0, 0, 0, .null), []),
  (152, (.iload_n 1, 153, 1, 0, 0, .null), []),
  (153, (.iload_n 2, 154, 2, 0, 0, .null), []),
  (154, (.iload 6, 156, 6, 0, 0, .null), []),
  (156, (.iload 5, 158, 5, 0, 0, .null), []),
  (158, (.iload 8, 160, 8, 0, 0, .null), []),
  (160, (.invokevirtual 111, 163, 129, 6, 0, .null), [917, 919, 49, 80]),
  (163, (.ifCond .eq 7, 166, 170, 0, 0, .null), []),
  (166, (.iconst 1, 167, 0, 0, 0, .int 1), []),
  (167, (.goto 4, 170, 171, 0, 0, .null), []),
  (170, (.iconst 0, 171, 0, 0, 0, .int 0), []),
  (171, (.istore 7, 173, 7, 0, 0, .null), []),
  (173, (.iinc 8 1, 176, 8, 0, 0, .int 1), []),
  (176, (.goto (-51), 179, 125, 0, 0, .null), []),
  (179, (.aload_n 0, 180, 0, 0, 0, .null), []),
  (180, (.getfield 31, 183, 8, 9, 0, .null), [774])]
def rx_tb_131_2 : List (Nat × rx_I × List Nat) := [(183, (.iload 5, 185, 5, 0, 0, .null), []),
  (185, (.iaload, 186, 0, 0, 0, .null), []),
  (186, (.iload 6, 188, 6, 0, 0, .null), []),
  (188, (.invokestatic 84, 191, 106, 2, 0, .null), [859, 860, 80]),
  (191, (.ifCond .eq 42, 194, 233, 0, 0, .null), []),
  (194, (.iload 7, 196, 7, 0, 0, .null), []),
  (196, (.ifCond .ne 37, 199, 233, 0, 0, .null), []),
  (199, (.aload_n 0, 200, 0, 0, 0, .null), []),
  (200, (.getfield 31, 203, 8, 9, 0, .null), [774]),
  (203, (.iload 5, 205, 5, 0, 0, .null), []),
  (205, (.dup2, 206, 0, 0, 0, .null), []),
  (206, (.iaload, 207, 0, 0, 0, .null), []),
  (207, (.iconst 1, 208, 0, 0, 0, .int 1), []),
  (208, (.iload 6, 210, 6, 0, 0, .null), []),
  (210, (.ishl, 211, 0, 0, 0, .null), []),
  (211, (.iconst (-1), 212, 0, 0, 0, .int (-1)), []),
  (212, (.ixor, 213, 0, 0, 0, .null), []),
  (213, (.iand, 214, 0, 0, 0, .null), []),
  (214, (.iastore, 215, 0, 0, 0, .null), []),
  (215, (.aload_n 0, 216, 0, 0, 0, .null), []),
  (216, (.getfield 31, 219, 8, 9, 0, .null), [774]),
  (219, (.iload 6, 221, 6, 0, 0, .null), []),
  (221, (.dup2, 222, 0, 0, 0, .null), []),
  (222, (.iaload, 223, 0, 0, 0, .null), []),
  (223, (.iconst 1, 224, 0, 0, 0, .int 1), []),
  (224, (.iload 5, 226, 5, 0, 0, .null), []),
  (226, (.ishl, 227, 0, 0, 0, .null), []),
  (227, (.iconst (-1), 228, 0, 0, 0, .int (-1)), []),
  (228, (.ixor, 229, 0, 0, 0, .null), []),
  (229, (.iand, 230, 0, 0, 0, .null), []),
  (230, (.iastore, 231, 0, 0, 0, .null), []),
  (231, (.iconst 1, 232, 0, 0, 0, .int 1), []),
  (232, (.istore_n 3, 233, 3, 0, 0, .null), []),
  (233, (.iinc 4 1, 236, 4, 0, 0, .int 1), []),
  (236, (.goto (-150), 239, 86, 0, 0, .null), []),
  (239, (.goto (-162), 242, 77, 0, 0, .null), []),
  (242, (.return_, 243, 0, 0, 0, .null), [])]
def rx_tb_131 : List (Nat × rx_I × List Nat) := rx_tb_131_0 ++ rx_tb_131_1 ++ rx_tb_131_2
def rx_tb_132_0 : List (Nat × rx_I × List Nat) := [(0, (.iconst 1, 1, 0, 0, 0, .int 1), []),
  (1, (.istore_n 2, 2, 2, 0, 0, .null), []),
  (2, (.iconst 1, 3, 0, 0, 0, .int 1), []),
  (3, (.istore_n 3, 4, 3, 0, 0, .null), []),
  (4, (.iload_n 3, 5, 3, 0, 0, .null), []),
  (5, (.ifCond .eq 73, 8, 78, 0, 0, .null), []),
  (8, (.iload_n 2, 9, 2, 0, 0, .null), []),
  (9, (.istore 4, 11, 4, 0, 0, .null), []),
  (11, (.iconst 0, 12, 0, 0, 0, .int 0), []),
  (12, (.istore 5, 14, 5, 0, 0, .null), []),
  (14, (.iload 5, 16, 5, 0, 0, .null), []),
  (16, (.bipush 40, 18, 0, 0, 0, .int 40), []),
  (18, (.if_icmp .ge 42, 21, 60, 0, 0, .null), []),
  (21, (.iload 4, 23, 4, 0, 0, .null), []),
  (23, (.iload_n 2, 24, 2, 0, 0, .null), []),
  (24, (.iload 5, 26, 5, 0, 0, .null), []),
  (26, (.iconst 5, 27, 0, 0, 0, .int 5), []),
  (27, (.idiv, 28, 0, 0, 0, .null), []),
  (28, (.invokestatic 84, 31, 106, 2, 0, .null), [859, 860, 80]),
  (31, (.ifCond .eq 19, 34, 50, 0, 0, .null), []),
  (34, (.aload_n 0, 35, 0, 0, 0, .null), []),
  (35, (.iload_n 1, 36, 1, 0, 0, .null), []),
  (36, (.iload 5, 38, 5, 0, 0, .null), []),
  (38, (.iconst 5, 39, 0, 0, 0, .int 5), []),
  (39, (.idiv, 40, 0, 0, 0, .null), []),
  (40, (.iload 5, 42, 5, 0, 0, .null), []),
  (42, (.iconst 5, 43, 0, 0, 0, .int 5), []),
  (43, (.irem, 44, 0, 0, 0, .null), []),
  (44, (.invokevirtual 81, 47, 113, 4, 0, .null), [852, 854, 40, 80]),
  (47, (.goto 4, 50, 51, 0, 0, .null), []),
  (50, (.iconst 0, 51, 0, 0, 0, .int 0), []),
  (51, (.ior, 52, 0, 0, 0, .null), []),
  (52, (.istore 4, 54, 4, 0, 0, .null), []),
  (54, (.iinc 5 1, 57, 5, 0, 0, .int 1), []),
  (57, (.goto (-43), 60, 14, 0, 0, .null), []),
  (60, (.iload 4, 62, 4, 0, 0, .null), []),
  (62, (.iload_n 2, 63, 2, 0, 0, .null), []),
  (63, (.if_icmp .eq 7, 66, 70, 0, 0, .null), []),
  (66, (.iconst 1, 67, 0, 0, 0, .int 1), []),
  (67, (.goto 4, 70, 71, 0, 0, .null), []),
  (70, (.iconst 0, 71, 0, 0, 0, .int 0), []),
  (71, (.istore_n 3, 72, 3, 0, 0, .null), []),
  (72, (.iload 4, 74, 4, 0, 0, .null), []),
  (74, (.istore_n 2, 75, 2, 0, 0, .null), []),
  (75, (.goto (-71), 78, 4, 0, 0, .null), []),
  (78, (.iload_n 2, 79, 2, 0, 0, .null), []),
  (79, (.ireturn, 80, 0, 0, 0, .null), [])]
def rx_tb_132 : List (Nat × rx_I × List Nat) := rx_tb_132_0
def rx_tb_133_0 : List (Nat × rx_I × List Nat) := [(0, (.iconst 0, 1, 0, 0, 0, .int 0), []),
  (1, (.istore_n 1, 2, 1, 0, 0, .null), []),
  (2, (.iload_n 0, 3, 0, 0, 0, .null), []),
  (3, (.iload_n 1, 4, 1, 0, 0, .null), []),
  (4, (.invokestatic 84, 7, 106, 2, 0, .null), [859, 860, 80]),
  (7, (.ifCond .ne 9, 10, 16, 0, 0, .null), []),
  (10, (.iinc 1 1, 13, 1, 0, 0, .int 1), []),
  (13, (.goto (-11), 16, 2, 0, 0, .null), []),
  (16, (.iload_n 1, 17, 1, 0, 0, .null), []),
  (17, (.ireturn, 18, 0, 0, 0, .null), [])]
def rx_tb_133 : List (Nat × rx_I × List Nat) := rx_tb_133_0
def rx_tb_134_0 : List (Nat × rx_I × List Nat) := [(0, (.iload_n 1, 1, 1, 0, 0, .null), []),
  (1, (.invokestatic 48, 4, 109, 1, 0, .null), [826, 827, 80]),
  (4, (.ifCond .ne 10, 7, 14, 0, 0, .null), []),
  (7, (.aload_n 0, 8, 0, 0, 0, .null), []),
  (8, (.bipush (-2), 10, 0, 0, 0, .int (-2)), []),
  (10, (.invokevirtual 64, 13, 108, 2, 0, .null), [818, 820, 35, 80]),
  (13, (.ireturn, 14, 0, 0, 0, .null), []),
  (14, (.aload_n 0, 15, 0, 0, 0, .null), []),
  (15, (.invokevirtual 70, 18, 114, 1, 0, .null), [832, 834, 36, 80]),
  (18, (.aload_n 0, 19, 0, 0, 0, .null), []),
  (19, (.iload_n 1, 20, 1, 0, 0, .null), []),
  (20, (.iload_n 1, 21, 1, 0, 0, .null), []),
  (21, (.invokevirtual 115, 24, 131, 3, 0, .null), [909, 911, 47, 80]),
  (24, (.aload_n 0, 25, 0, 0, 0, .null), []),
  (25, (.iload_n 1, 26, 1, 0, 0, .null), []),
  (26, (.invokevirtual 119, 29, 132, 2, 0, .null), [921, 923, 50, 80]),
  (29, (.istore_n 2, 30, 2, 0, 0, .null), []),
  (30, (.iconst 0, 31, 0, 0, 0, .int 0), []),
  (31, (.istore_n 3, 32, 3, 0, 0, .null), []),
  (32, (.iconst 0, 33, 0, 0, 0, .int 0), []),
  (33, (.istore 4, 35, 4, 0, 0, .null), []),
  (35, (.iload 4, 37, 4, 0, 0, .null), []),
  (37, (.aload_n 0, 38, 0, 0, 0, .null), []),
  (38, (.iload_n 1, 39, 1, 0, 0, .null), []),
  (39, (.invokevirtual 52, 42, 110, 2, 0, .null), [836, 838, 37, 80]),
  (42, (.if_icmp .ge 46, 45, 88, 0, 0, .null), []),
  (45, (.iload_n 3, 46, 3, 0, 0, .null), []),
  (46, (.iload_n 2, 47, 2, 0, 0, .null), []),
  (47, (.iload 4, 49, 4, 0, 0, .null), []),
  (49, (.invokestatic 84, 52, 106, 2, 0, .null), [859, 860, 80]),
  (52, (.ifCond .eq 27, 55, 79, 0, 0, .null), []),
  (55, (.aload_n 0, 56, 0, 0, 0, .null), []),
  (56, (.getfield 31, 59, 8, 9, 0, .null), [774]),
  (59, (.iload 4, 61, 4, 0, 0, .null), []),
  (61, (.iaload, 62, 0, 0, 0, .null), []),
  (62, (.iload_n 2, 63, 2, 0, 0, .null), []),
  (63, (.iand, 64, 0, 0, 0, .null), []),
  (64, (.invokestatic 122, 67, 133, 1, 0, .null), [925, 926, 80]),
  (67, (.iload 4, 69, 4, 0, 0, .null), []),
  (69, (.if_icmp .ne 10, 72, 79, 0, 0, .null), []),
  (72, (.iconst 1, 73, 0, 0, 0, .int 1), []),
  (73, (.iload 4, 75, 4, 0, 0, .null), []),
  (75, (.ishl, 76, 0, 0, 0, .null), []),
  (76, (.goto 4, 79, 80, 0, 0, .null), []),
  (79, (.iconst 0, 80, 0, 0, 0, .int 0), []),
  (80, (.ior, 81, 0, 0, 0, .null), []),
  (81, (.istore_n 3, 82, 3, 0, 0, .null), []),
  (82, (.iinc 4 1, 85, 4, 0, 0, .int 1), []),
  (85, (.goto (-50), 88, 35, 0, 0, .null), []),
  (88, (.iconst 0, 89, 0, 0, 0, .int 0), [])]
def rx_tb_134_1 : List (Nat × rx_I × List Nat) := [(89, (.istore 4, 91, 4, 0, 0, .null), []),
  (91, (.iload 4, 93, 4, 0, 0, .null), []),
  (93, (.bipush 41, 95, 0, 0, 0, .int 41), []),
  (95, (.if_icmp .ge 17, 98, 112, 0, 0, .null), []),
  (98, (.aload_n 0, 99, 0, 0, 0, .null), []),
  (99, (.getfield 25, 102, 8, 7, 0, .null), [772]),
  (102, (.iload 4, 104, 4, 0, 0, .null), []),
  (104, (.iconst 0, 105, 0, 0, 0, .int 0), []),
  (105, (.iastore, 106, 0, 0, 0, .null), []),
  (106, (.iinc 4 1, 109, 4, 0, 0, .int 1), []),
  (109, (.goto (-18), 112, 91, 0, 0, .null), []),
  (112, (.iconst 0, 113, 0, 0, 0, .int 0), []),
  (113, (.istore 4, 115, 4, 0, 0, .null), []),
  (115, (.iload 4, 117, 4, 0, 0, .null), []),
  (117, (.aload_n 0, 118, 0, 0, 0, .null), []),
  (118, (.iload_n 1, 119, 1, 0, 0, .null), []),
  (119, (.invokevirtual 52, 122, 110, 2, 0, .null), [836, 838, 37, 80]),
  (122, (.if_icmp .ge 76, 125, 198, 0, 0, .null), []),
  (125, (.iload_n 3, 126, 3, 0, 0, .null), []),
  (126, (.iload 4, 128, 4, 0, 0, .null), []),
  (128, (.invokestatic 84, 131, 106, 2, 0, .null), [859, 860, 80]),
  (131, (.ifCond .eq 61, 134, 192, 0, 0, .null), []),
  (134, (.iconst 0, 135, 0, 0, 0, .int 0), []),
  (135, (.istore 5, 137, 5, 0, 0, .null), []),
  (137, (.iload 5, 139, 5, 0, 0, .null), []),
  (139, (.iconst 4, 140, 0, 0, 0, .int 4), []),
  (140, (.if_icmp .gt 42, 143, 182, 0, 0, .null), []),
  (143, (.aload_n 0, 144, 0, 0, 0, .null), []),
  (144, (.getfield 25, 147, 8, 7, 0, .null), [772]),
  (147, (.iconst 1, 148, 0, 0, 0, .int 1), []),
  (148, (.iconst 5, 149, 0, 0, 0, .int 5), []),
  (149, (.aload_n 0, 150, 0, 0, 0, .null), []),
  (150, (.getfield 25, 153, 8, 7, 0, .null), [772]),
  (153, (.iconst 0, 154, 0, 0, 0, .int 0), []),
  (154, (.iaload, 155, 0, 0, 0, .null), []),
  (155, (.imul, 156, 0, 0, 0, .null), []),
  (156, (.iadd, 157, 0, 0, 0, .null), []),
  (157, (.iload 5, 159, 5, 0, 0, .null), []),
  (159, (.iadd, 160, 0, 0, 0, .null), []),
  (160, (.aload_n 0, 161, 0, 0, 0, .null), []),
  (161, (.aload_n 0, 162, 0, 0, 0, .null), []),
  (162, (.iload_n 1, 163, 1, 0, 0, .null), []),
  (163, (.iload 4, 165, 4, 0, 0, .null), []),
  (165, (.iload 5, 167, 5, 0, 0, .null), []),
  (167, (.invokevirtual 81, 170, 113, 4, 0, .null), [852, 854, 40, 80]),
  (170, (.iload_n 2, 171, 2, 0, 0, .null), []),
  (171, (.iload_n 3, 172, 3, 0, 0, .null), []),
  (172, (.invokevirtual 125, 175, 135, 4, 0, .null), [928, 930, 51, 80]),
  (175, (.iastore, 176, 0, 0, 0, .null), []),
  (176, (.iinc 5 1, 179, 5, 0, 0, .int 1), [])]
def rx_tb_134_2 : List (Nat × rx_I × List Nat) := [(179, (.goto (-42), 182, 137, 0, 0, .null), []),
  (182, (.aload_n 0, 183, 0, 0, 0, .null), []),
  (183, (.getfield 25, 186, 8, 7, 0, .null), [772]),
  (186, (.iconst 0, 187, 0, 0, 0, .int 0), []),
  (187, (.dup2, 188, 0, 0, 0, .null), []),
  (188, (.iaload, 189, 0, 0, 0, .null), []),
  (189, (.iconst 1, 190, 0, 0, 0, .int 1), []),
  (190, (.iadd, 191, 0, 0, 0, .null), []),
  (191, (.iastore, 192, 0, 0, 0, .null), []),
  (192, (.iinc 4 1, 195, 4, 0, 0, .int 1), []),
  (195, (.goto (-80), 198, 115, 0, 0, .null), []),
  (198, (.aload_n 0, 199, 0, 0, 0, .null), []),
  (199, (.iload_n 1, 200, 1, 0, 0, .null), []),
  (200, (.invokevirtual 104, 203, 127, 2, 0, .null), [901, 903, 46, 80]),
  (203, (.aload_n 0, 204, 0, 0, 0, .null), []),
  (204, (.getfield 25, 207, 8, 7, 0, .null), [772]),
  (207, (.iconst 0, 208, 0, 0, 0, .int 0), []),
  (208, (.iaload, 209, 0, 0, 0, .null), []),
  (209, (.ireturn, 210, 0, 0, 0, .null), [])]
def rx_tb_134 : List (Nat × rx_I × List Nat) := rx_tb_134_0 ++ rx_tb_134_1 ++ rx_tb_134_2
def rx_tb_135_0 : List (Nat × rx_I × List Nat) := [(0, (.iconst 0, 1, 0, 0, 0, .int 0), []),
  (1, (.istore 4, 3, 4, 0, 0, .null), []),
  (3, (.iconst 0, 4, 0, 0, 0, .int 0), []),
  (4, (.istore 5, 6, 5, 0, 0, .null), []),
  (6, (.iload 5, 8, 5, 0, 0, .null), []),
  (8, (.bipush 8, 10, 0, 0, 0, .int 8), []),
  (10, (.if_icmp .ge 50, 13, 60, 0, 0, .null), []),
  (13, (.iload_n 1, 14, 1, 0, 0, .null), []),
  (14, (.iload 5, 16, 5, 0, 0, .null), []),
  (16, (.invokestatic 84, 19, 106, 2, 0, .null), [859, 860, 80]),
  (19, (.ifCond .eq 35, 22, 54, 0, 0, .null), []),
  (22, (.aload_n 0, 23, 0, 0, 0, .null), []),
  (23, (.getfield 31, 26, 8, 9, 0, .null), [774]),
  (26, (.iload 5, 28, 5, 0, 0, .null), []),
  (28, (.iaload, 29, 0, 0, 0, .null), []),
  (29, (.iload_n 2, 30, 2, 0, 0, .null), []),
  (30, (.iand, 31, 0, 0, 0, .null), []),
  (31, (.invokestatic 122, 34, 133, 1, 0, .null), [925, 926, 80]),
  (34, (.istore 6, 36, 6, 0, 0, .null), []),
  (36, (.iload 4, 38, 4, 0, 0, .null), []),
  (38, (.iconst 1, 39, 0, 0, 0, .int 1), []),
  (39, (.iload_n 3, 40, 3, 0, 0, .null), []),
  (40, (.iconst 1, 41, 0, 0, 0, .int 1), []),
  (41, (.iload 6, 43, 6, 0, 0, .null), []),
  (43, (.ishl, 44, 0, 0, 0, .null), []),
  (44, (.iconst 1, 45, 0, 0, 0, .int 1), []),
  (45, (.isub, 46, 0, 0, 0, .null), []),
  (46, (.iand, 47, 0, 0, 0, .null), []),
  (47, (.invokestatic 67, 50, 107, 1, 0, .null), [866, 867, 80]),
  (50, (.ishl, 51, 0, 0, 0, .null), []),
  (51, (.ior, 52, 0, 0, 0, .null), []),
  (52, (.istore 4, 54, 4, 0, 0, .null), []),
  (54, (.iinc 5 1, 57, 5, 0, 0, .int 1), []),
  (57, (.goto (-51), 60, 6, 0, 0, .null), []),
  (60, (.iload 4, 62, 4, 0, 0, .null), []),
  (62, (.ireturn, 63, 0, 0, 0, .null), [])]
def rx_tb_135 : List (Nat × rx_I × List Nat) := rx_tb_135_0
def rx_tb_136_0 : List (Nat × rx_I × List Nat) := [(0, (.aload_n 0, 1, 0, 0, 0, .null), []),
  (1, (.iload_n 1, 2, 1, 0, 0, .null), []),
  (2, (.iload_n 2, 3, 2, 0, 0, .null), []),
  (3, (.invokevirtual 73, 6, 111, 3, 0, .null), [848, 850, 39, 80]),
  (6, (.ifCond .eq 13, 9, 19, 0, 0, .null), []),
  (9, (.aload_n 0, 10, 0, 0, 0, .null), []),
  (10, (.iload_n 3, 11, 3, 0, 0, .null), []),
  (11, (.iload 4, 13, 4, 0, 0, .null), []),
  (13, (.invokevirtual 73, 16, 111, 3, 0, .null), [848, 850, 39, 80]),
  (16, (.ifCond .ne 10, 19, 26, 0, 0, .null), []),
  (19, (.aload_n 0, 20, 0, 0, 0, .null), []),
  (20, (.bipush (-2), 22, 0, 0, 0, .int (-2)), []),
  (22, (.invokevirtual 64, 25, 108, 2, 0, .null), [818, 820, 35, 80]),
  (25, (.ireturn, 26, 0, 0, 0, .null), []),
  (26, (.aload_n 0, 27, 0, 0, 0, .null), []),
  (27, (.iload_n 1, 28, 1, 0, 0, .null), []),
  (28, (.iload_n 3, 29, 3, 0, 0, .null), []),
  (29, (.invokevirtual 115, 32, 131, 3, 0, .null), [909, 911, 47, 80]),
  (32, (.aload_n 0, 33, 0, 0, 0, .null), []),
  (33, (.getfield 31, 36, 8, 9, 0, .null), [774]),
  (36, (.iload_n 2, 37, 2, 0, 0, .null), []),
  (37, (.iaload, 38, 0, 0, 0, .null), []),
  (38, (.bipush 8, 40, 0, 0, 0, .int 8), []),
  (40, (.iload 4, 42, 4, 0, 0, .null), []),
  (42, (.iadd, 43, 0, 0, 0, .null), []),
  (43, (.ishr, 44, 0, 0, 0, .null), []),
  (44, (.iconst 1, 45, 0, 0, 0, .int 1), []),
  (45, (.iand, 46, 0, 0, 0, .null), []),
  (46, (.ireturn, 47, 0, 0, 0, .null), [])]
def rx_tb_136 : List (Nat × rx_I × List Nat) := rx_tb_136_0
def rx_tb_137_0 : List (Nat × rx_I × List Nat) := [(0, (.iload_n 2, 1, 2, 0, 0, .null), []),
  (1, (.istore_n 3, 2, 3, 0, 0, .null), []),
  (2, (.iconst 1, 3, 0, 0, 0, .int 1), []),
  (3, (.istore 4, 5, 4, 0, 0, .null), []),
  (5, (.iload 4, 7, 4, 0, 0, .null), []),
  (7, (.ifCond .eq 33, 10, 40, 0, 0, .null), []),
  (10, (.iload_n 3, 11, 3, 0, 0, .null), []),
  (11, (.aload_n 0, 12, 0, 0, 0, .null), []),
  (12, (.iload_n 1, 13, 1, 0, 0, .null), []),
  (13, (.iload_n 3, 14, 3, 0, 0, .null), []),
  (14, (.iconst 4, 15, 0, 0, 0, .int 4), []),
  (15, (.invokevirtual 128, 18, 138, 4, 0, .null), [1000, 1002, 62, 80]),
  (18, (.ior, 19, 0, 0, 0, .null), []),
  (19, (.istore 5, 21, 5, 0, 0, .null), []),
  (21, (.iload 5, 23, 5, 0, 0, .null), []),
  (23, (.iload_n 3, 24, 3, 0, 0, .null), []),
  (24, (.if_icmp .eq 7, 27, 31, 0, 0, .null), []),
  (27, (.iconst 1, 28, 0, 0, 0, .int 1), []),
  (28, (.goto 4, 31, 32, 0, 0, .null), []),
  (31, (.iconst 0, 32, 0, 0, 0, .int 0), []),
  (32, (.istore 4, 34, 4, 0, 0, .null), []),
  (34, (.iload 5, 36, 5, 0, 0, .null), []),
  (36, (.istore_n 3, 37, 3, 0, 0, .null), []),
  (37, (.goto (-32), 40, 5, 0, 0, .null), []),
  (40, (.iload_n 3, 41, 3, 0, 0, .null), []),
  (41, (.ireturn, 42, 0, 0, 0, .null), [])]
def rx_tb_137 : List (Nat × rx_I × List Nat) := rx_tb_137_0
def rx_tb_138_0 : List (Nat × rx_I × List Nat) := [(0, (.iconst 0, 1, 0, 0, 0, .int 0), []),
  (1, (.istore 4, 3, 4, 0, 0, .null), []),
  (3, (.iconst 0, 4, 0, 0, 0, .int 0), []),
  (4, (.istore 5, 6, 5, 0, 0, .null), []),
  (6, (.iload 5, 8, 5, 0, 0, .null), []),
  (8, (.bipush 8, 10, 0, 0, 0, .int 8), []),
  (10, (.if_icmp .ge 35, 13, 45, 0, 0, .null), []),
  (13, (.iload 4, 15, 4, 0, 0, .null), []),
  (15, (.iload_n 2, 16, 2, 0, 0, .null), []),
  (16, (.iload 5, 18, 5, 0, 0, .null), []),
  (18, (.invokestatic 84, 21, 106, 2, 0, .null), [859, 860, 80]),
  (21, (.ifCond .eq 14, 24, 35, 0, 0, .null), []),
  (24, (.aload_n 0, 25, 0, 0, 0, .null), []),
  (25, (.iload_n 1, 26, 1, 0, 0, .null), []),
  (26, (.iload 5, 28, 5, 0, 0, .null), []),
  (28, (.iload_n 3, 29, 3, 0, 0, .null), []),
  (29, (.invokevirtual 81, 32, 113, 4, 0, .null), [852, 854, 40, 80]),
  (32, (.goto 4, 35, 36, 0, 0, .null), []),
  (35, (.iconst 0, 36, 0, 0, 0, .int 0), []),
  (36, (.ior, 37, 0, 0, 0, .null), []),
  (37, (.istore 4, 39, 4, 0, 0, .null), []),
  (39, (.iinc 5 1, 42, 5, 0, 0, .int 1), []),
  (42, (.goto (-36), 45, 6, 0, 0, .null), []),
  (45, (.iload 4, 47, 4, 0, 0, .null), []),
  (47, (.ireturn, 48, 0, 0, 0, .null), [])]
def rx_tb_138 : List (Nat × rx_I × List Nat) := rx_tb_138_0
def rx_tb_139_0 : List (Nat × rx_I × List Nat) := [(0, (.iconst 0, 1, 0, 0, 0, .int 0), []),
  (1, (.istore_n 3, 2, 3, 0, 0, .null), []),
  (2, (.iconst 0, 3, 0, 0, 0, .int 0), []),
  (3, (.istore 4, 5, 4, 0, 0, .null), []),
  (5, (.iload 4, 7, 4, 0, 0, .null), []),
  (7, (.iconst 4, 8, 0, 0, 0, .int 4), []),
  (8, (.if_icmp .ge 31, 11, 39, 0, 0, .null), []),
  (11, (.iload_n 3, 12, 3, 0, 0, .null), []),
  (12, (.aload_n 0, 13, 0, 0, 0, .null), []),
  (13, (.iload_n 1, 14, 1, 0, 0, .null), []),
  (14, (.iload_n 2, 15, 2, 0, 0, .null), []),
  (15, (.iload 4, 17, 4, 0, 0, .null), []),
  (17, (.invokevirtual 81, 20, 113, 4, 0, .null), [852, 854, 40, 80]),
  (20, (.ifCond .eq 10, 23, 30, 0, 0, .null), []),
  (23, (.iconst 1, 24, 0, 0, 0, .int 1), []),
  (24, (.iload 4, 26, 4, 0, 0, .null), []),
  (26, (.ishl, 27, 0, 0, 0, .null), []),
  (27, (.goto 4, 30, 31, 0, 0, .null), []),
  (30, (.iconst 0, 31, 0, 0, 0, .int 0), []),
  (31, (.ior, 32, 0, 0, 0, .null), []),
  (32, (.istore_n 3, 33, 3, 0, 0, .null), []),
  (33, (.iinc 4 1, 36, 4, 0, 0, .int 1), []),
  (36, (.goto (-31), 39, 5, 0, 0, .null), []),
  (39, (.iload_n 3, 40, 3, 0, 0, .null), []),
  (40, (.ireturn, 41, 0, 0, 0, .null), [])]
def rx_tb_139 : List (Nat × rx_I × List Nat) := rx_tb_139_0
def rx_tb_140_0 : List (Nat × rx_I × List Nat) := [(0, (.iconst 0, 1, 0, 0, 0, .int 0), []),
  (1, (.istore_n 2, 2, 2, 0, 0, .null), []),
  (2, (.iconst 0, 3, 0, 0, 0, .int 0), []),
  (3, (.istore_n 3, 4, 3, 0, 0, .null), []),
  (4, (.iload_n 3, 5, 3, 0, 0, .null), []),
  (5, (.aload_n 0, 6, 0, 0, 0, .null), []),
  (6, (.iload_n 1, 7, 1, 0, 0, .null), []),
  (7, (.invokevirtual 52, 10, 110, 2, 0, .null), [836, 838, 37, 80]),
  (10, (.if_icmp .ge 29, 13, 39, 0, 0, .null), []),
  (13, (.iload_n 2, 14, 2, 0, 0, .null), []),
  (14, (.aload_n 0, 15, 0, 0, 0, .null), []),
  (15, (.iload_n 1, 16, 1, 0, 0, .null), []),
  (16, (.iload_n 3, 17, 3, 0, 0, .null), []),
  (17, (.iconst 4, 18, 0, 0, 0, .int 4), []),
  (18, (.invokevirtual 81, 21, 113, 4, 0, .null), [852, 854, 40, 80]),
  (21, (.ifCond .ne 9, 24, 30, 0, 0, .null), []),
  (24, (.iconst 1, 25, 0, 0, 0, .int 1), []),
  (25, (.iload_n 3, 26, 3, 0, 0, .null), []),
  (26, (.ishl, 27, 0, 0, 0, .null), []),
  (27, (.goto 4, 30, 31, 0, 0, .null), []),
  (30, (.iconst 0, 31, 0, 0, 0, .int 0), []),
  (31, (.ior, 32, 0, 0, 0, .null), []),
  (32, (.istore_n 2, 33, 2, 0, 0, .null), []),
  (33, (.iinc 3 1, 36, 3, 0, 0, .int 1), []),
  (36, (.goto (-32), 39, 4, 0, 0, .null), []),
  (39, (.iload_n 2, 40, 2, 0, 0, .null), []),
  (40, (.ireturn, 41, 0, 0, 0, .null), [])]
def rx_tb_140 : List (Nat × rx_I × List Nat) := rx_tb_140_0
def rx_tb_141_0 : List (Nat × rx_I × List Nat) := [(0, (.iconst 1, 1, 0, 0, 0, .int 1), []),
  (1, (.aload_n 0, 2, 0, 0, 0, .null), []),
  (2, (.iload_n 1, 3, 1, 0, 0, .null), []),
  (3, (.invokevirtual 52, 6, 110, 2, 0, .null), [836, 838, 37, 80]),
  (6, (.ishl, 7, 0, 0, 0, .null), []),
  (7, (.iconst 1, 8, 0, 0, 0, .int 1), []),
  (8, (.isub, 9, 0, 0, 0, .null), []),
  (9, (.istore_n 2, 10, 2, 0, 0, .null), []),
  (10, (.iconst 1, 11, 0, 0, 0, .int 1), []),
  (11, (.istore_n 3, 12, 3, 0, 0, .null), []),
  (12, (.iload_n 3, 13, 3, 0, 0, .null), []),
  (13, (.ifCond .eq 78, 16, 91, 0, 0, .null), []),
  (16, (.iconst 0, 17, 0, 0, 0, .int 0), []),
  (17, (.istore 4, 19, 4, 0, 0, .null), []),
  (19, (.iconst 0, 20, 0, 0, 0, .int 0), []),
  (20, (.istore 5, 22, 5, 0, 0, .null), []),
  (22, (.iload 5, 24, 5, 0, 0, .null), []),
  (24, (.aload_n 0, 25, 0, 0, 0, .null), []),
  (25, (.iload_n 1, 26, 1, 0, 0, .null), []),
  (26, (.invokevirtual 52, 29, 110, 2, 0, .null), [836, 838, 37, 80]),
  (29, (.if_icmp .ge 44, 32, 73, 0, 0, .null), []),
  (32, (.iload 4, 34, 4, 0, 0, .null), []),
  (34, (.iload_n 2, 35, 2, 0, 0, .null), []),
  (35, (.iload 5, 37, 5, 0, 0, .null), []),
  (37, (.invokestatic 84, 40, 106, 2, 0, .null), [859, 860, 80]),
  (40, (.ifCond .eq 23, 43, 63, 0, 0, .null), []),
  (43, (.aload_n 0, 44, 0, 0, 0, .null), []),
  (44, (.iload_n 1, 45, 1, 0, 0, .null), []),
  (45, (.iload 5, 47, 5, 0, 0, .null), []),
  (47, (.iconst 4, 48, 0, 0, 0, .int 4), []),
  (48, (.invokevirtual 81, 51, 113, 4, 0, .null), [852, 854, 40, 80]),
  (51, (.iload_n 2, 52, 2, 0, 0, .null), []),
  (52, (.iand, 53, 0, 0, 0, .null), []),
  (53, (.ifCond .eq 10, 56, 63, 0, 0, .null), []),
  (56, (.iconst 1, 57, 0, 0, 0, .int 1), []),
  (57, (.iload 5, 59, 5, 0, 0, .null), []),
  (59, (.ishl, 60, 0, 0, 0, .null), []),
  (60, (.goto 4, 63, 64, 0, 0, .null), []),
  (63, (.iconst 0, 64, 0, 0, 0, .int 0), []),
  (64, (.ior, 65, 0, 0, 0, .null), []),
  (65, (.istore 4, 67, 4, 0, 0, .null), []),
  (67, (.iinc 5 1, 70, 5, 0, 0, .int 1), []),
  (70, (.goto (-48), 73, 22, 0, 0, .null), []),
  (73, (.iload 4, 75, 4, 0, 0, .null), []),
  (75, (.iload_n 2, 76, 2, 0, 0, .null), []),
  (76, (.if_icmp .eq 7, 79, 83, 0, 0, .null), []),
  (79, (.iconst 1, 80, 0, 0, 0, .int 1), []),
  (80, (.goto 4, 83, 84, 0, 0, .null), []),
  (83, (.iconst 0, 84, 0, 0, 0, .int 0), []),
  (84, (.istore_n 3, 85, 3, 0, 0, .null), [])]
def rx_tb_141_1 : List (Nat × rx_I × List Nat) := [(85, (.iload 4, 87, 4, 0, 0, .null), []),
  (87, (.istore_n 2, 88, 2, 0, 0, .null), []),
  (88, (.goto (-76), 91, 12, 0, 0, .null), []),
  (91, (.iload_n 2, 92, 2, 0, 0, .null), []),
  (92, (.ireturn, 93, 0, 0, 0, .null), [])]
def rx_tb_141 : List (Nat × rx_I × List Nat) := rx_tb_141_0 ++ rx_tb_141_1
def rx_tb_142_0 : List (Nat × rx_I × List Nat) := [(0, (.iconst 0, 1, 0, 0, 0, .int 0), []),
  (1, (.istore_n 3, 2, 3, 0, 0, .null), []),
  (2, (.iconst 0, 3, 0, 0, 0, .int 0), []),
  (3, (.istore 4, 5, 4, 0, 0, .null), []),
  (5, (.iconst 0, 6, 0, 0, 0, .int 0), []),
  (6, (.istore 5, 8, 5, 0, 0, .null), []),
  (8, (.iload 5, 10, 5, 0, 0, .null), []),
  (10, (.aload_n 0, 11, 0, 0, 0, .null), []),
  (11, (.iload_n 1, 12, 1, 0, 0, .null), []),
  (12, (.invokevirtual 52, 15, 110, 2, 0, .null), [836, 838, 37, 80]),
  (15, (.if_icmp .ge 35, 18, 50, 0, 0, .null), []),
  (18, (.iload_n 3, 19, 3, 0, 0, .null), []),
  (19, (.aload_n 0, 20, 0, 0, 0, .null), []),
  (20, (.iload_n 1, 21, 1, 0, 0, .null), []),
  (21, (.iload 5, 23, 5, 0, 0, .null), []),
  (23, (.iconst 4, 24, 0, 0, 0, .int 4), []),
  (24, (.invokevirtual 81, 27, 113, 4, 0, .null), [852, 854, 40, 80]),
  (27, (.invokestatic 67, 30, 107, 1, 0, .null), [866, 867, 80]),
  (30, (.iadd, 31, 0, 0, 0, .null), []),
  (31, (.istore_n 3, 32, 3, 0, 0, .null), []),
  (32, (.iload 4, 34, 4, 0, 0, .null), []),
  (34, (.aload_n 0, 35, 0, 0, 0, .null), []),
  (35, (.iload_n 1, 36, 1, 0, 0, .null), []),
  (36, (.iload 5, 38, 5, 0, 0, .null), []),
  (38, (.invokevirtual 131, 41, 139, 3, 0, .null), [944, 946, 53, 80]),
  (41, (.ior, 42, 0, 0, 0, .null), []),
  (42, (.istore 4, 44, 4, 0, 0, .null), []),
  (44, (.iinc 5 1, 47, 5, 0, 0, .int 1), []),
  (47, (.goto (-39), 50, 8, 0, 0, .null), []),
  (50, (.iload_n 2, 51, 2, 0, 0, .null), []),
  (51, (.tableswitch 56 0 4 #[33, 39, 45, 47, 50], 84, 0, 0, 0, .null), []),
  (84, (.aload_n 0, 85, 0, 0, 0, .null), []),
  (85, (.iload_n 1, 86, 1, 0, 0, .null), []),
  (86, (.invokevirtual 52, 89, 110, 2, 0, .null), [836, 838, 37, 80]),
  (89, (.ireturn, 90, 0, 0, 0, .null), []),
  (90, (.aload_n 0, 91, 0, 0, 0, .null), []),
  (91, (.iload_n 1, 92, 1, 0, 0, .null), []),
  (92, (.invokevirtual 87, 95, 116, 2, 0, .null), [862, 864, 41, 80]),
  (95, (.ireturn, 96, 0, 0, 0, .null), []),
  (96, (.iload_n 3, 97, 3, 0, 0, .null), []),
  (97, (.ireturn, 98, 0, 0, 0, .null), []),
  (98, (.iload 4, 100, 4, 0, 0, .null), []),
  (100, (.ireturn, 101, 0, 0, 0, .null), []),
  (101, (.aload_n 0, 102, 0, 0, 0, .null), []),
  (102, (.iload_n 1, 103, 1, 0, 0, .null), []),
  (103, (.invokevirtual 134, 106, 140, 2, 0, .null), [948, 950, 54, 80]),
  (106, (.ireturn, 107, 0, 0, 0, .null), []),
  (107, (.aload_n 0, 108, 0, 0, 0, .null), []),
  (108, (.iload_n 1, 109, 1, 0, 0, .null), []),
  (109, (.invokevirtual 137, 112, 141, 2, 0, .null), [952, 954, 55, 80])]
def rx_tb_142_1 : List (Nat × rx_I × List Nat) := [(112, (.ireturn, 113, 0, 0, 0, .null), [])]
def rx_tb_142 : List (Nat × rx_I × List Nat) := rx_tb_142_0 ++ rx_tb_142_1
def rx_tb_143_0 : List (Nat × rx_I × List Nat) := [(0, (.iload_n 1, 1, 1, 0, 0, .null), []),
  (1, (.invokestatic 48, 4, 109, 1, 0, .null), [826, 827, 80]),
  (4, (.ifCond .eq 21, 7, 25, 0, 0, .null), []),
  (7, (.iload_n 2, 8, 2, 0, 0, .null), []),
  (8, (.iconst 0, 9, 0, 0, 0, .int 0), []),
  (9, (.iconst 5, 10, 0, 0, 0, .int 5), []),
  (10, (.invokestatic 44, 13, 105, 3, 0, .null), [829, 830, 80]),
  (13, (.ifCond .eq 12, 16, 25, 0, 0, .null), []),
  (16, (.aload_n 0, 17, 0, 0, 0, .null), []),
  (17, (.iload_n 1, 18, 1, 0, 0, .null), []),
  (18, (.iload_n 2, 19, 2, 0, 0, .null), []),
  (19, (.invokevirtual 140, 22, 142, 3, 0, .null), [940, 942, 52, 80]),
  (22, (.goto 9, 25, 31, 0, 0, .null), []),
  (25, (.aload_n 0, 26, 0, 0, 0, .null), []),
  (26, (.bipush (-2), 28, 0, 0, 0, .int (-2)), []),
  (28, (.invokevirtual 64, 31, 108, 2, 0, .null), [818, 820, 35, 80]),
  (31, (.ireturn, 32, 0, 0, 0, .null), [])]
def rx_tb_143 : List (Nat × rx_I × List Nat) := rx_tb_143_0
def rx_tb_144_0 : List (Nat × rx_I × List Nat) := [(0, (.aload_n 0, 1, 0, 0, 0, .null), []),
  (1, (.iload_n 1, 2, 1, 0, 0, .null), []),
  (2, (.iload_n 2, 3, 2, 0, 0, .null), []),
  (3, (.invokevirtual 73, 6, 111, 3, 0, .null), [848, 850, 39, 80]),
  (6, (.ifCond .eq 22, 9, 28, 0, 0, .null), []),
  (9, (.iload_n 3, 10, 3, 0, 0, .null), []),
  (10, (.iconst 0, 11, 0, 0, 0, .int 0), []),
  (11, (.iconst 4, 12, 0, 0, 0, .int 4), []),
  (12, (.invokestatic 44, 15, 105, 3, 0, .null), [829, 830, 80]),
  (15, (.ifCond .eq 13, 18, 28, 0, 0, .null), []),
  (18, (.aload_n 0, 19, 0, 0, 0, .null), []),
  (19, (.iload_n 1, 20, 1, 0, 0, .null), []),
  (20, (.iload_n 2, 21, 2, 0, 0, .null), []),
  (21, (.iload_n 3, 22, 3, 0, 0, .null), []),
  (22, (.invokevirtual 81, 25, 113, 4, 0, .null), [852, 854, 40, 80]),
  (25, (.goto 9, 28, 34, 0, 0, .null), []),
  (28, (.aload_n 0, 29, 0, 0, 0, .null), []),
  (29, (.bipush (-2), 31, 0, 0, 0, .int (-2)), []),
  (31, (.invokevirtual 64, 34, 108, 2, 0, .null), [818, 820, 35, 80]),
  (34, (.ireturn, 35, 0, 0, 0, .null), [])]
def rx_tb_144 : List (Nat × rx_I × List Nat) := rx_tb_144_0
def rx_tb_145_0 : List (Nat × rx_I × List Nat) := [(0, (.iload_n 1, 1, 1, 0, 0, .null), []),
  (1, (.iconst 0, 2, 0, 0, 0, .int 0), []),
  (2, (.bipush 127, 4, 0, 0, 0, .int 127), []),
  (4, (.invokestatic 44, 7, 105, 3, 0, .null), [829, 830, 80]),
  (7, (.ifCond .ne 10, 10, 17, 0, 0, .null), []),
  (10, (.aload_n 0, 11, 0, 0, 0, .null), []),
  (11, (.bipush (-2), 13, 0, 0, 0, .int (-2)), []),
  (13, (.invokevirtual 64, 16, 108, 2, 0, .null), [818, 820, 35, 80]),
  (16, (.ireturn, 17, 0, 0, 0, .null), []),
  (17, (.aload_n 0, 18, 0, 0, 0, .null), []),
  (18, (.getfield 143, 21, 8, 6, 0, .null), [771]),
  (21, (.bipush 100, 23, 0, 0, 0, .int 100), []),
  (23, (.if_icmp .ne 10, 26, 33, 0, 0, .null), []),
  (26, (.aload_n 0, 27, 0, 0, 0, .null), []),
  (27, (.bipush (-4), 29, 0, 0, 0, .int (-4)), []),
  (29, (.invokevirtual 64, 32, 108, 2, 0, .null), [818, 820, 35, 80]),
  (32, (.ireturn, 33, 0, 0, 0, .null), []),
  (33, (.aload_n 0, 34, 0, 0, 0, .null), []),
  (34, (.getfield 22, 37, 8, 5, 0, .null), [770]),
  (37, (.aload_n 0, 38, 0, 0, 0, .null), []),
  (38, (.getfield 143, 41, 8, 6, 0, .null), [771]),
  (41, (.iload_n 1, 42, 1, 0, 0, .null), []),
  (42, (.iastore, 43, 0, 0, 0, .null), []),
  (43, (.aload_n 0, 44, 0, 0, 0, .null), []),
  (44, (.dup, 45, 0, 0, 0, .null), []),
  (45, (.getfield 143, 48, 8, 6, 0, .null), [771]),
  (48, (.iconst 1, 49, 0, 0, 0, .int 1), []),
  (49, (.iadd, 50, 0, 0, 0, .null), []),
  (50, (.putfield 143, 53, 8, 6, 0, .null), [771]),
  (53, (.aload_n 0, 54, 0, 0, 0, .null), []),
  (54, (.getfield 143, 57, 8, 6, 0, .null), [771]),
  (57, (.ireturn, 58, 0, 0, 0, .null), [])]
def rx_tb_145 : List (Nat × rx_I × List Nat) := rx_tb_145_0
def rx_tb_146_0 : List (Nat × rx_I × List Nat) := [(0, (.aload_n 0, 1, 0, 0, 0, .null), []),
  (1, (.getfield 143, 4, 8, 6, 0, .null), [771]),
  (4, (.istore_n 1, 5, 1, 0, 0, .null), []),
  (5, (.aload_n 0, 6, 0, 0, 0, .null), []),
  (6, (.iconst 0, 7, 0, 0, 0, .int 0), []),
  (7, (.putfield 143, 10, 8, 6, 0, .null), [771]),
  (10, (.iload_n 1, 11, 1, 0, 0, .null), []),
  (11, (.ireturn, 12, 0, 0, 0, .null), [])]
def rx_tb_146 : List (Nat × rx_I × List Nat) := rx_tb_146_0
def rx_tb_147_0 : List (Nat × rx_I × List Nat) := [(0, (.aload_n 0, 1, 0, 0, 0, .null), []),
  (1, (.getfield 146, 4, 8, 10, 0, .null), [775]),
  (4, (.aload_n 0, 5, 0, 0, 0, .null), []),
  (5, (.getfield 143, 8, 8, 6, 0, .null), [771]),
  (8, (.if_icmp .ge 30, 11, 38, 0, 0, .null), []),
  (11, (.aload_n 0, 12, 0, 0, 0, .null), []),
  (12, (.getfield 22, 15, 8, 5, 0, .null), [770]),
  (15, (.aload_n 0, 16, 0, 0, 0, .null), []),
  (16, (.getfield 146, 19, 8, 10, 0, .null), [775]),
  (19, (.iaload, 20, 0, 0, 0, .null), []),
  (20, (.bipush 32, 22, 0, 0, 0, .int 32), []),
  (22, (.if_icmp .ne 16, 25, 38, 0, 0, .null), []),
  (25, (.aload_n 0, 26, 0, 0, 0, .null), []),
  (26, (.dup, 27, 0, 0, 0, .null), []),
  (27, (.getfield 146, 30, 8, 10, 0, .null), [775]),
  (30, (.iconst 1, 31, 0, 0, 0, .int 1), []),
  (31, (.iadd, 32, 0, 0, 0, .null), []),
  (32, (.putfield 146, 35, 8, 10, 0, .null), [775]),
  (35, (.goto (-35), 38, 0, 0, 0, .null), []),
  (38, (.aload_n 0, 39, 0, 0, 0, .null), []),
  (39, (.getfield 146, 42, 8, 10, 0, .null), [775]),
  (42, (.aload_n 0, 43, 0, 0, 0, .null), []),
  (43, (.getfield 143, 46, 8, 6, 0, .null), [771]),
  (46, (.if_icmp .ge 15, 49, 61, 0, 0, .null), []),
  (49, (.aload_n 0, 50, 0, 0, 0, .null), []),
  (50, (.getfield 22, 53, 8, 5, 0, .null), [770]),
  (53, (.aload_n 0, 54, 0, 0, 0, .null), []),
  (54, (.getfield 146, 57, 8, 10, 0, .null), [775]),
  (57, (.iaload, 58, 0, 0, 0, .null), []),
  (58, (.goto 4, 61, 62, 0, 0, .null), []),
  (61, (.iconst (-1), 62, 0, 0, 0, .int (-1)), []),
  (62, (.ireturn, 63, 0, 0, 0, .null), [])]
def rx_tb_147 : List (Nat × rx_I × List Nat) := rx_tb_147_0
def rx_tb_148_0 : List (Nat × rx_I × List Nat) := [(0, (.aload_n 0, 1, 0, 0, 0, .null), []),
  (1, (.invokevirtual 149, 4, 147, 1, 0, .null), [976, 978, 57, 80]),
  (4, (.bipush 48, 6, 0, 0, 0, .int 48), []),
  (6, (.isub, 7, 0, 0, 0, .null), []),
  (7, (.istore_n 2, 8, 2, 0, 0, .null), []),
  (8, (.aload_n 0, 9, 0, 0, 0, .null), []),
  (9, (.dup, 10, 0, 0, 0, .null), []),
  (10, (.getfield 146, 13, 8, 10, 0, .null), [775]),
  (13, (.aload_n 0, 14, 0, 0, 0, .null), []),
  (14, (.iload_n 1, 15, 1, 0, 0, .null), []),
  (15, (.iload_n 2, 16, 2, 0, 0, .null), []),
  (16, (.invokevirtual 73, 19, 111, 3, 0, .null), [848, 850, 39, 80]),
  (19, (.ifCond .eq 7, 22, 26, 0, 0, .null), []),
  (22, (.iconst 1, 23, 0, 0, 0, .int 1), []),
  (23, (.goto 4, 26, 27, 0, 0, .null), []),
  (26, (.iconst 0, 27, 0, 0, 0, .int 0), []),
  (27, (.iadd, 28, 0, 0, 0, .null), []),
  (28, (.putfield 146, 31, 8, 10, 0, .null), [775]),
  (31, (.aload_n 0, 32, 0, 0, 0, .null), []),
  (32, (.iload_n 1, 33, 1, 0, 0, .null), []),
  (33, (.iload_n 2, 34, 2, 0, 0, .null), []),
  (34, (.invokevirtual 73, 37, 111, 3, 0, .null), [848, 850, 39, 80]),
  (37, (.ifCond .eq 7, 40, 44, 0, 0, .null), []),
  (40, (.iload_n 2, 41, 2, 0, 0, .null), []),
  (41, (.goto 4, 44, 45, 0, 0, .null), []),
  (44, (.iconst (-1), 45, 0, 0, 0, .int (-1)), []),
  (45, (.ireturn, 46, 0, 0, 0, .null), [])]
def rx_tb_148 : List (Nat × rx_I × List Nat) := rx_tb_148_0
def rx_tb_149_0 : List (Nat × rx_I × List Nat) := [(0, (.aload_n 0, 1, 0, 0, 0, .null), []),
  (1, (.invokevirtual 149, 4, 147, 1, 0, .null), [976, 978, 57, 80]),
  (4, (.pop, 5, 0, 0, 0, .null), []),
  (5, (.aload_n 0, 6, 0, 0, 0, .null), []),
  (6, (.getfield 146, 9, 8, 10, 0, .null), [775]),
  (9, (.istore_n 2, 10, 2, 0, 0, .null), []),
  (10, (.aload_n 0, 11, 0, 0, 0, .null), []),
  (11, (.iload_n 1, 12, 1, 0, 0, .null), []),
  (12, (.invokevirtual 87, 15, 116, 2, 0, .null), [862, 864, 41, 80]),
  (15, (.bipush 24, 17, 0, 0, 0, .int 24), []),
  (17, (.if_icmp .ne 5, 20, 22, 0, 0, .null), []),
  (20, (.iconst 0, 21, 0, 0, 0, .int 0), []),
  (21, (.ireturn, 22, 0, 0, 1, .null), []),
  (22, (.aload_n 0, 23, 0, 0, 0, .null), []),
  (23, (.iload_n 1, 24, 1, 0, 0, .null), []),
  (24, (.invokevirtual 153, 27, 148, 2, 0, .null), [980, 982, 58, 80]),
  (27, (.istore_n 3, 28, 3, 0, 0, .null), []),
  (28, (.iload_n 3, 29, 3, 0, 0, .null), []),
  (29, (.iconst (-1), 30, 0, 0, 0, .int (-1)), []),
  (30, (.if_icmp .ne 5, 33, 35, 0, 0, .null), []),
  (33, (.iconst 0, 34, 0, 0, 0, .int 0), []),
  (34, (.ireturn, 35, 0, 0, 1, .null), []),
  (35, (.aload_n 0, 36, 0, 0, 0, .null), []),
  (36, (.invokevirtual 149, 39, 147, 1, 0, .null), [976, 978, 57, 80]),
  (39, (.istore 4, 41, 4, 0, 0, .null), []),
  (41, (.iload 4, 43, 4, 0, 0, .null), []),
  (43, (.bipush 105, 45, 0, 0, 0, .int 105), []),
  (45, (.if_icmp .ne 7, 48, 52, 0, 0, .null), []),
  (48, (.iconst 4, 49, 0, 0, 0, .int 4), []),
  (49, (.goto 8, 52, 57, 0, 0, .null), []),
  (52, (.iload 4, 54, 4, 0, 0, .null), []),
  (54, (.bipush 97, 56, 0, 0, 0, .int 97), []),
  (56, (.isub, 57, 0, 0, 0, .null), []),
  (57, (.istore 5, 59, 5, 0, 0, .null), []),
  (59, (.iload 4, 61, 4, 0, 0, .null), []),
  (61, (.bipush 105, 63, 0, 0, 0, .int 105), []),
  (63, (.if_icmp .eq 15, 66, 78, 0, 0, .null), []),
  (66, (.iload 5, 68, 5, 0, 0, .null), []),
  (68, (.iconst 0, 69, 0, 0, 0, .int 0), []),
  (69, (.iconst 3, 70, 0, 0, 0, .int 3), []),
  (70, (.invokestatic 44, 73, 105, 3, 0, .null), [829, 830, 80]),
  (73, (.ifCond .ne 5, 76, 78, 0, 0, .null), []),
  (76, (.iconst 0, 77, 0, 0, 0, .int 0), []),
  (77, (.ireturn, 78, 0, 0, 1, .null), []),
  (78, (.aload_n 0, 79, 0, 0, 0, .null), []),
  (79, (.dup, 80, 0, 0, 0, .null), []),
  (80, (.getfield 146, 83, 8, 10, 0, .null), [775]),
  (83, (.iconst 1, 84, 0, 0, 0, .int 1), []),
  (84, (.iadd, 85, 0, 0, 0, .null), []),
  (85, (.putfield 146, 88, 8, 10, 0, .null), [775])]
def rx_tb_149_1 : List (Nat × rx_I × List Nat) := [(88, (.aload_n 0, 89, 0, 0, 0, .null), []),
  (89, (.iload_n 1, 90, 1, 0, 0, .null), []),
  (90, (.invokevirtual 153, 93, 148, 2, 0, .null), [980, 982, 58, 80]),
  (93, (.istore 6, 95, 6, 0, 0, .null), []),
  (95, (.iload 6, 97, 6, 0, 0, .null), []),
  (97, (.iconst (-1), 98, 0, 0, 0, .int (-1)), []),
  (98, (.if_icmp .ne 5, 101, 103, 0, 0, .null), []),
  (101, (.iconst 0, 102, 0, 0, 0, .int 0), []),
  (102, (.ireturn, 103, 0, 0, 1, .null), []),
  (103, (.aload_n 0, 104, 0, 0, 0, .null), []),
  (104, (.iload_n 1, 105, 1, 0, 0, .null), []),
  (105, (.iload_n 3, 106, 3, 0, 0, .null), []),
  (106, (.iload 5, 108, 5, 0, 0, .null), []),
  (108, (.invokevirtual 81, 111, 113, 4, 0, .null), [852, 854, 40, 80]),
  (111, (.iload 6, 113, 6, 0, 0, .null), []),
  (113, (.invokestatic 84, 116, 106, 2, 0, .null), [859, 860, 80]),
  (116, (.ifCond .eq 10, 119, 126, 0, 0, .null), []),
  (119, (.aload_n 0, 120, 0, 0, 0, .null), []),
  (120, (.iload_n 2, 121, 2, 0, 0, .null), []),
  (121, (.putfield 146, 124, 8, 10, 0, .null), [775]),
  (124, (.iconst 0, 125, 0, 0, 0, .int 0), []),
  (125, (.ireturn, 126, 0, 0, 1, .null), []),
  (126, (.aload_n 0, 127, 0, 0, 0, .null), []),
  (127, (.invokevirtual 149, 130, 147, 1, 0, .null), [976, 978, 57, 80]),
  (130, (.bipush 59, 132, 0, 0, 0, .int 59), []),
  (132, (.if_icmp .eq 5, 135, 137, 0, 0, .null), []),
  (135, (.iconst 0, 136, 0, 0, 0, .int 0), []),
  (136, (.ireturn, 137, 0, 0, 1, .null), []),
  (137, (.aload_n 0, 138, 0, 0, 0, .null), []),
  (138, (.dup, 139, 0, 0, 0, .null), []),
  (139, (.getfield 146, 142, 8, 10, 0, .null), [775]),
  (142, (.iconst 1, 143, 0, 0, 0, .int 1), []),
  (143, (.iadd, 144, 0, 0, 0, .null), []),
  (144, (.putfield 146, 147, 8, 10, 0, .null), [775]),
  (147, (.aload_n 0, 148, 0, 0, 0, .null), []),
  (148, (.getfield 7, 151, 8, 0, 0, .null), [765]),
  (151, (.iload_n 1, 152, 1, 0, 0, .null), []),
  (152, (.iload_n 3, 153, 3, 0, 0, .null), []),
  (153, (.iload 5, 155, 5, 0, 0, .null), []),
  (155, (.invokestatic 56, 158, 112, 3, 0, .null), [856, 857, 80]),
  (158, (.dup2, 159, 0, 0, 0, .null), []),
  (159, (.iaload, 160, 0, 0, 0, .null), []),
  (160, (.iconst 1, 161, 0, 0, 0, .int 1), []),
  (161, (.iload 6, 163, 6, 0, 0, .null), []),
  (163, (.ishl, 164, 0, 0, 0, .null), []),
  (164, (.ior, 165, 0, 0, 0, .null), []),
  (165, (.iastore, 166, 0, 0, 0, .null), []),
  (166, (.iconst 1, 167, 0, 0, 0, .int 1), []),
  (167, (.ireturn, 168, 0, 0, 1, .null), [])]
def rx_tb_149 : List (Nat × rx_I × List Nat) := rx_tb_149_0 ++ rx_tb_149_1
def rx_tb_150_0 : List (Nat × rx_I × List Nat) := [(0, (.iconst 0, 1, 0, 0, 0, .int 0), []),
  (1, (.istore_n 1, 2, 1, 0, 0, .null), []),
  (2, (.iload_n 1, 3, 1, 0, 0, .null), []),
  (3, (.sipush 164, 6, 0, 0, 0, .int 164), []),
  (6, (.if_icmp .ge 35, 9, 41, 0, 0, .null), []),
  (9, (.aload_n 0, 10, 0, 0, 0, .null), []),
  (10, (.getfield 7, 13, 8, 0, 0, .null), [765]),
  (13, (.iload_n 1, 14, 1, 0, 0, .null), []),
  (14, (.iaload, 15, 0, 0, 0, .null), []),
  (15, (.istore_n 2, 16, 2, 0, 0, .null), []),
  (16, (.aload_n 0, 17, 0, 0, 0, .null), []),
  (17, (.getfield 7, 20, 8, 0, 0, .null), [765]),
  (20, (.iload_n 1, 21, 1, 0, 0, .null), []),
  (21, (.aload_n 0, 22, 0, 0, 0, .null), []),
  (22, (.getfield 13, 25, 8, 1, 0, .null), [766]),
  (25, (.iload_n 1, 26, 1, 0, 0, .null), []),
  (26, (.iaload, 27, 0, 0, 0, .null), []),
  (27, (.iastore, 28, 0, 0, 0, .null), []),
  (28, (.aload_n 0, 29, 0, 0, 0, .null), []),
  (29, (.getfield 13, 32, 8, 1, 0, .null), [766]),
  (32, (.iload_n 1, 33, 1, 0, 0, .null), []),
  (33, (.iload_n 2, 34, 2, 0, 0, .null), []),
  (34, (.iastore, 35, 0, 0, 0, .null), []),
  (35, (.iinc 1 1, 38, 1, 0, 0, .int 1), []),
  (38, (.goto (-36), 41, 2, 0, 0, .null), []),
  (41, (.return_, 42, 0, 0, 0, .null), [])]
def rx_tb_150 : List (Nat × rx_I × List Nat) := rx_tb_150_0
def rx_tb_151_0 : List (Nat × rx_I × List Nat) := [(0, (.iload_n 1, 1, 1, 0, 0, .null), []),
  (1, (.invokestatic 48, 4, 109, 1, 0, .null), [826, 827, 80]),
  (4, (.ifCond .ne 10, 7, 14, 0, 0, .null), []),
  (7, (.aload_n 0, 8, 0, 0, 0, .null), []),
  (8, (.bipush (-2), 10, 0, 0, 0, .int (-2)), []),
  (10, (.invokevirtual 64, 13, 108, 2, 0, .null), [818, 820, 35, 80]),
  (13, (.ireturn, 14, 0, 0, 0, .null), []),
  (14, (.iconst 0, 15, 0, 0, 0, .int 0), []),
  (15, (.istore_n 2, 16, 2, 0, 0, .null), []),
  (16, (.iload_n 2, 17, 2, 0, 0, .null), []),
  (17, (.sipush 164, 20, 0, 0, 0, .int 164), []),
  (20, (.if_icmp .ge 21, 23, 41, 0, 0, .null), []),
  (23, (.aload_n 0, 24, 0, 0, 0, .null), []),
  (24, (.getfield 13, 27, 8, 1, 0, .null), [766]),
  (27, (.iload_n 2, 28, 2, 0, 0, .null), []),
  (28, (.aload_n 0, 29, 0, 0, 0, .null), []),
  (29, (.getfield 7, 32, 8, 0, 0, .null), [765]),
  (32, (.iload_n 2, 33, 2, 0, 0, .null), []),
  (33, (.iaload, 34, 0, 0, 0, .null), []),
  (34, (.iastore, 35, 0, 0, 0, .null), []),
  (35, (.iinc 2 1, 38, 2, 0, 0, .int 1), []),
  (38, (.goto (-22), 41, 16, 0, 0, .null), []),
  (41, (.aload_n 0, 42, 0, 0, 0, .null), []),
  (42, (.iconst 0, 43, 0, 0, 0, .int 0), []),
  (43, (.putfield 146, 46, 8, 10, 0, .null), [775]),
  (46, (.iconst 0, 47, 0, 0, 0, .int 0), []),
  (47, (.istore_n 2, 48, 2, 0, 0, .null), []),
  (48, (.iconst 0, 49, 0, 0, 0, .int 0), []),
  (49, (.istore_n 3, 50, 3, 0, 0, .null), []),
  (50, (.aload_n 0, 51, 0, 0, 0, .null), []),
  (51, (.iload_n 1, 52, 1, 0, 0, .null), []),
  (52, (.invokevirtual 156, 55, 149, 2, 0, .null), [972, 974, 56, 80]),
  (55, (.istore 4, 57, 4, 0, 0, .null), []),
  (57, (.iload 4, 59, 4, 0, 0, .null), []),
  (59, (.ifCond .eq 42, 62, 101, 0, 0, .null), []),
  (62, (.iinc 2 1, 65, 2, 0, 0, .int 1), []),
  (65, (.aload_n 0, 66, 0, 0, 0, .null), []),
  (66, (.invokevirtual 149, 69, 147, 1, 0, .null), [976, 978, 57, 80]),
  (69, (.iconst (-1), 70, 0, 0, 0, .int (-1)), []),
  (70, (.if_icmp .ne 7, 73, 77, 0, 0, .null), []),
  (73, (.iconst 1, 74, 0, 0, 0, .int 1), []),
  (74, (.goto 4, 77, 78, 0, 0, .null), []),
  (77, (.iconst 0, 78, 0, 0, 0, .int 0), []),
  (78, (.istore_n 3, 79, 3, 0, 0, .null), []),
  (79, (.iload_n 3, 80, 3, 0, 0, .null), []),
  (80, (.ifCond .ne 15, 83, 95, 0, 0, .null), []),
  (83, (.aload_n 0, 84, 0, 0, 0, .null), []),
  (84, (.iload_n 1, 85, 1, 0, 0, .null), []),
  (85, (.invokevirtual 156, 88, 149, 2, 0, .null), [972, 974, 56, 80]),
  (88, (.ifCond .eq 7, 91, 95, 0, 0, .null), [])]
def rx_tb_151_1 : List (Nat × rx_I × List Nat) := [(91, (.iconst 1, 92, 0, 0, 0, .int 1), []),
  (92, (.goto 4, 95, 96, 0, 0, .null), []),
  (95, (.iconst 0, 96, 0, 0, 0, .int 0), []),
  (96, (.istore 4, 98, 4, 0, 0, .null), []),
  (98, (.goto (-41), 101, 57, 0, 0, .null), []),
  (101, (.aload_n 0, 102, 0, 0, 0, .null), []),
  (102, (.invokevirtual 159, 105, 150, 1, 0, .null), [984, 986, 59, 80]),
  (105, (.iload_n 3, 106, 3, 0, 0, .null), []),
  (106, (.ifCond .ne 11, 109, 117, 0, 0, .null), []),
  (109, (.bipush (-10), 111, 0, 0, 0, .int (-10)), []),
  (111, (.aload_n 0, 112, 0, 0, 0, .null), []),
  (112, (.getfield 146, 115, 8, 10, 0, .null), [775]),
  (115, (.isub, 116, 0, 0, 0, .null), []),
  (116, (.ireturn, 117, 0, 0, 0, .null), []),
  (117, (.aload_n 0, 118, 0, 0, 0, .null), []),
  (118, (.invokevirtual 70, 121, 114, 1, 0, .null), [832, 834, 36, 80]),
  (121, (.aload_n 0, 122, 0, 0, 0, .null), []),
  (122, (.invokevirtual 159, 125, 150, 1, 0, .null), [984, 986, 59, 80]),
  (125, (.iload_n 2, 126, 2, 0, 0, .null), []),
  (126, (.ireturn, 127, 0, 0, 0, .null), [])]
def rx_tb_151 : List (Nat × rx_I × List Nat) := rx_tb_151_0 ++ rx_tb_151_1
def rx_tb_152_0 : List (Nat × rx_I × List Nat) := [(0, (.aload_n 0, 1, 0, 0, 0, .null), []),
  (1, (.iload_n 1, 2, 1, 0, 0, .null), []),
  (2, (.iconst 1, 3, 0, 0, 0, .int 1), []),
  (3, (.invokevirtual 162, 6, 137, 3, 0, .null), [996, 998, 61, 80]),
  (6, (.istore_n 2, 7, 2, 0, 0, .null), []),
  (7, (.iconst 0, 8, 0, 0, 0, .int 0), []),
  (8, (.istore_n 3, 9, 3, 0, 0, .null), []),
  (9, (.aload_n 0, 10, 0, 0, 0, .null), []),
  (10, (.iconst 0, 11, 0, 0, 0, .int 0), []),
  (11, (.putfield 146, 14, 8, 10, 0, .null), [775]),
  (14, (.aload_n 0, 15, 0, 0, 0, .null), []),
  (15, (.invokevirtual 149, 18, 147, 1, 0, .null), [976, 978, 57, 80]),
  (18, (.iconst (-1), 19, 0, 0, 0, .int (-1)), []),
  (19, (.if_icmp .eq 60, 22, 79, 0, 0, .null), []),
  (22, (.aload_n 0, 23, 0, 0, 0, .null), []),
  (23, (.invokevirtual 149, 26, 147, 1, 0, .null), [976, 978, 57, 80]),
  (26, (.bipush 97, 28, 0, 0, 0, .int 97), []),
  (28, (.isub, 29, 0, 0, 0, .null), []),
  (29, (.istore 4, 31, 4, 0, 0, .null), []),
  (31, (.iload 4, 33, 4, 0, 0, .null), []),
  (33, (.iconst 0, 34, 0, 0, 0, .int 0), []),
  (34, (.iconst 3, 35, 0, 0, 0, .int 3), []),
  (35, (.invokestatic 44, 38, 105, 3, 0, .null), [829, 830, 80]),
  (38, (.ifCond .eq 9, 41, 47, 0, 0, .null), []),
  (41, (.iload_n 3, 42, 3, 0, 0, .null), []),
  (42, (.bipush 20, 44, 0, 0, 0, .int 20), []),
  (44, (.if_icmp .ne 5, 47, 49, 0, 0, .null), []),
  (47, (.iconst (-1), 48, 0, 0, 0, .int (-1)), []),
  (48, (.ireturn, 49, 0, 0, 0, .null), []),
  (49, (.aload_n 0, 50, 0, 0, 0, .null), []),
  (50, (.iload_n 1, 51, 1, 0, 0, .null), []),
  (51, (.aload_n 0, 52, 0, 0, 0, .null), []),
  (52, (.iload_n 1, 53, 1, 0, 0, .null), []),
  (53, (.iload_n 2, 54, 2, 0, 0, .null), []),
  (54, (.iload 4, 56, 4, 0, 0, .null), []),
  (56, (.invokevirtual 128, 59, 138, 4, 0, .null), [1000, 1002, 62, 80]),
  (59, (.invokevirtual 162, 62, 137, 3, 0, .null), [996, 998, 61, 80]),
  (62, (.istore_n 2, 63, 2, 0, 0, .null), []),
  (63, (.iinc 3 1, 66, 3, 0, 0, .int 1), []),
  (66, (.aload_n 0, 67, 0, 0, 0, .null), []),
  (67, (.dup, 68, 0, 0, 0, .null), []),
  (68, (.getfield 146, 71, 8, 10, 0, .null), [775]),
  (71, (.iconst 1, 72, 0, 0, 0, .int 1), []),
  (72, (.iadd, 73, 0, 0, 0, .null), []),
  (73, (.putfield 146, 76, 8, 10, 0, .null), [775]),
  (76, (.goto (-62), 79, 14, 0, 0, .null), []),
  (79, (.iload_n 2, 80, 2, 0, 0, .null), []),
  (80, (.ireturn, 81, 0, 0, 0, .null), [])]
def rx_tb_152 : List (Nat × rx_I × List Nat) := rx_tb_152_0
def rx_tb_153_0 : List (Nat × rx_I × List Nat) := [(0, (.iconst (-1), 1, 0, 0, 0, .int (-1)), []),
  (1, (.istore_n 3, 2, 3, 0, 0, .null), []),
  (2, (.iconst 0, 3, 0, 0, 0, .int 0), []),
  (3, (.istore 4, 5, 4, 0, 0, .null), []),
  (5, (.iload 4, 7, 4, 0, 0, .null), []),
  (7, (.aload_n 0, 8, 0, 0, 0, .null), []),
  (8, (.iload_n 1, 9, 1, 0, 0, .null), []),
  (9, (.invokevirtual 52, 12, 110, 2, 0, .null), [836, 838, 37, 80]),
  (12, (.if_icmp .ge 54, 15, 66, 0, 0, .null), []),
  (15, (.aload_n 0, 16, 0, 0, 0, .null), []),
  (16, (.iload_n 1, 17, 1, 0, 0, .null), []),
  (17, (.iload 4, 19, 4, 0, 0, .null), []),
  (19, (.invokevirtual 131, 22, 139, 3, 0, .null), [944, 946, 53, 80]),
  (22, (.invokestatic 67, 25, 107, 1, 0, .null), [866, 867, 80]),
  (25, (.istore 5, 27, 5, 0, 0, .null), []),
  (27, (.iload_n 2, 28, 2, 0, 0, .null), []),
  (28, (.aload_n 0, 29, 0, 0, 0, .null), []),
  (29, (.iload_n 1, 30, 1, 0, 0, .null), []),
  (30, (.invokevirtual 134, 33, 140, 2, 0, .null), [948, 950, 54, 80]),
  (33, (.iand, 34, 0, 0, 0, .null), []),
  (34, (.iload 4, 36, 4, 0, 0, .null), []),
  (36, (.invokestatic 84, 39, 106, 2, 0, .null), [859, 860, 80]),
  (39, (.ifCond .eq 19, 42, 58, 0, 0, .null), []),
  (42, (.iload_n 3, 43, 3, 0, 0, .null), []),
  (43, (.iconst (-1), 44, 0, 0, 0, .int (-1)), []),
  (44, (.if_icmp .eq 9, 47, 53, 0, 0, .null), []),
  (47, (.iload 5, 49, 5, 0, 0, .null), []),
  (49, (.iload_n 3, 50, 3, 0, 0, .null), []),
  (50, (.if_icmp .ge 8, 53, 58, 0, 0, .null), []),
  (53, (.iload 5, 55, 5, 0, 0, .null), []),
  (55, (.goto 4, 58, 59, 0, 0, .null), []),
  (58, (.iload_n 3, 59, 3, 0, 0, .null), []),
  (59, (.istore_n 3, 60, 3, 0, 0, .null), []),
  (60, (.iinc 4 1, 63, 4, 0, 0, .int 1), []),
  (63, (.goto (-58), 66, 5, 0, 0, .null), []),
  (66, (.iload_n 3, 67, 3, 0, 0, .null), []),
  (67, (.ireturn, 68, 0, 0, 0, .null), [])]
def rx_tb_153 : List (Nat × rx_I × List Nat) := rx_tb_153_0
def rx_tb_154_0 : List (Nat × rx_I × List Nat) := [(0, (.iconst 0, 1, 0, 0, 0, .int 0), []),
  (1, (.istore_n 3, 2, 3, 0, 0, .null), []),
  (2, (.iconst 0, 3, 0, 0, 0, .int 0), []),
  (3, (.istore 4, 5, 4, 0, 0, .null), []),
  (5, (.iload 4, 7, 4, 0, 0, .null), []),
  (7, (.aload_n 0, 8, 0, 0, 0, .null), []),
  (8, (.iload_n 1, 9, 1, 0, 0, .null), []),
  (9, (.invokevirtual 52, 12, 110, 2, 0, .null), [836, 838, 37, 80]),
  (12, (.if_icmp .ge 32, 15, 44, 0, 0, .null), []),
  (15, (.iload_n 3, 16, 3, 0, 0, .null), []),
  (16, (.iload_n 2, 17, 2, 0, 0, .null), []),
  (17, (.iload 4, 19, 4, 0, 0, .null), []),
  (19, (.invokestatic 84, 22, 106, 2, 0, .null), [859, 860, 80]),
  (22, (.ifCond .eq 13, 25, 35, 0, 0, .null), []),
  (25, (.aload_n 0, 26, 0, 0, 0, .null), []),
  (26, (.iload_n 1, 27, 1, 0, 0, .null), []),
  (27, (.iload 4, 29, 4, 0, 0, .null), []),
  (29, (.invokevirtual 131, 32, 139, 3, 0, .null), [944, 946, 53, 80]),
  (32, (.goto 4, 35, 36, 0, 0, .null), []),
  (35, (.iconst 0, 36, 0, 0, 0, .int 0), []),
  (36, (.ior, 37, 0, 0, 0, .null), []),
  (37, (.istore_n 3, 38, 3, 0, 0, .null), []),
  (38, (.iinc 4 1, 41, 4, 0, 0, .int 1), []),
  (41, (.goto (-36), 44, 5, 0, 0, .null), []),
  (44, (.iload_n 3, 45, 3, 0, 0, .null), []),
  (45, (.ireturn, 46, 0, 0, 0, .null), [])]
def rx_tb_154 : List (Nat × rx_I × List Nat) := rx_tb_154_0
def rx_tb_155_0 : List (Nat × rx_I × List Nat) := [(0, (.iload_n 1, 1, 1, 0, 0, .null), []),
  (1, (.invokestatic 48, 4, 109, 1, 0, .null), [826, 827, 80]),
  (4, (.ifCond .eq 12, 7, 16, 0, 0, .null), []),
  (7, (.iload_n 2, 8, 2, 0, 0, .null), []),
  (8, (.iconst 0, 9, 0, 0, 0, .int 0), []),
  (9, (.iconst 3, 10, 0, 0, 0, .int 3), []),
  (10, (.invokestatic 44, 13, 105, 3, 0, .null), [829, 830, 80]),
  (13, (.ifCond .ne 10, 16, 23, 0, 0, .null), []),
  (16, (.aload_n 0, 17, 0, 0, 0, .null), []),
  (17, (.bipush (-2), 19, 0, 0, 0, .int (-2)), []),
  (19, (.invokevirtual 64, 22, 108, 2, 0, .null), [818, 820, 35, 80]),
  (22, (.ireturn, 23, 0, 0, 0, .null), []),
  (23, (.aload_n 0, 24, 0, 0, 0, .null), []),
  (24, (.iload_n 1, 25, 1, 0, 0, .null), []),
  (25, (.invokevirtual 165, 28, 152, 2, 0, .null), [992, 994, 60, 80]),
  (28, (.istore_n 3, 29, 3, 0, 0, .null), []),
  (29, (.iload_n 3, 30, 3, 0, 0, .null), []),
  (30, (.iconst (-1), 31, 0, 0, 0, .int (-1)), []),
  (31, (.if_icmp .ne 11, 34, 42, 0, 0, .null), []),
  (34, (.bipush (-10), 36, 0, 0, 0, .int (-10)), []),
  (36, (.aload_n 0, 37, 0, 0, 0, .null), []),
  (37, (.getfield 146, 40, 8, 10, 0, .null), [775]),
  (40, (.isub, 41, 0, 0, 0, .null), []),
  (41, (.ireturn, 42, 0, 0, 0, .null), []),
  (42, (.iload_n 2, 43, 2, 0, 0, .null), []),
  (43, (.ifCond .ne 7, 46, 50, 0, 0, .null), []),
  (46, (.iload_n 3, 47, 3, 0, 0, .null), []),
  (47, (.goto 46, 50, 93, 0, 0, .null), []),
  (50, (.iload_n 2, 51, 2, 0, 0, .null), []),
  (51, (.iconst 1, 52, 0, 0, 0, .int 1), []),
  (52, (.if_icmp .ne 12, 55, 64, 0, 0, .null), []),
  (55, (.aload_n 0, 56, 0, 0, 0, .null), []),
  (56, (.iload_n 1, 57, 1, 0, 0, .null), []),
  (57, (.iload_n 3, 58, 3, 0, 0, .null), []),
  (58, (.invokevirtual 168, 61, 154, 3, 0, .null), [1004, 1006, 63, 80]),
  (61, (.goto 32, 64, 93, 0, 0, .null), []),
  (64, (.iload_n 2, 65, 2, 0, 0, .null), []),
  (65, (.iconst 2, 66, 0, 0, 0, .int 2), []),
  (66, (.if_icmp .ne 12, 69, 78, 0, 0, .null), []),
  (69, (.aload_n 0, 70, 0, 0, 0, .null), []),
  (70, (.iload_n 1, 71, 1, 0, 0, .null), []),
  (71, (.iload_n 3, 72, 3, 0, 0, .null), []),
  (72, (.invokevirtual 171, 75, 153, 3, 0, .null), [1008, 1010, 64, 80]),
  (75, (.goto 18, 78, 93, 0, 0, .null), []),
  (78, (.iload_n 3, 79, 3, 0, 0, .null), []),
  (79, (.aload_n 0, 80, 0, 0, 0, .null), []),
  (80, (.iload_n 1, 81, 1, 0, 0, .null), []),
  (81, (.invokevirtual 137, 84, 141, 2, 0, .null), [952, 954, 55, 80]),
  (84, (.iand, 85, 0, 0, 0, .null), []),
  (85, (.ifCond .eq 7, 88, 92, 0, 0, .null), [])]
def rx_tb_155_1 : List (Nat × rx_I × List Nat) := [(88, (.iconst 1, 89, 0, 0, 0, .int 1), []),
  (89, (.goto 4, 92, 93, 0, 0, .null), []),
  (92, (.iconst 0, 93, 0, 0, 0, .int 0), []),
  (93, (.ireturn, 94, 0, 0, 0, .null), [])]
def rx_tb_155 : List (Nat × rx_I × List Nat) := rx_tb_155_0 ++ rx_tb_155_1
def rx_tb_156_0 : List (Nat × rx_I × List Nat) := [(0, (.iload 5, 2, 5, 0, 0, .null), []),
  (2, (.ifCond .ne 5, 5, 7, 0, 0, .null), []),
  (5, (.iconst 0, 6, 0, 0, 0, .int 0), []),
  (6, (.ireturn, 7, 0, 0, 0, .null), []),
  (7, (.iconst 0, 8, 0, 0, 0, .int 0), []),
  (8, (.istore 6, 10, 6, 0, 0, .null), []),
  (10, (.iload 6, 12, 6, 0, 0, .null), []),
  (12, (.aload_n 0, 13, 0, 0, 0, .null), []),
  (13, (.iload_n 1, 14, 1, 0, 0, .null), []),
  (14, (.invokevirtual 52, 17, 110, 2, 0, .null), [836, 838, 37, 80]),
  (17, (.if_icmp .ge 110, 20, 127, 0, 0, .null), []),
  (20, (.iload_n 3, 21, 3, 0, 0, .null), []),
  (21, (.ifCond .le 106, 24, 127, 0, 0, .null), []),
  (24, (.iload 4, 26, 4, 0, 0, .null), []),
  (26, (.aload_n 0, 27, 0, 0, 0, .null), []),
  (27, (.iload_n 1, 28, 1, 0, 0, .null), []),
  (28, (.invokevirtual 134, 31, 140, 2, 0, .null), [948, 950, 54, 80]),
  (31, (.iand, 32, 0, 0, 0, .null), []),
  (32, (.iload 6, 34, 6, 0, 0, .null), []),
  (34, (.invokestatic 84, 37, 106, 2, 0, .null), [859, 860, 80]),
  (37, (.ifCond .ne 7, 40, 44, 0, 0, .null), []),
  (40, (.iconst 1, 41, 0, 0, 0, .int 1), []),
  (41, (.goto 4, 44, 45, 0, 0, .null), []),
  (44, (.iconst 0, 45, 0, 0, 0, .int 0), []),
  (45, (.istore 7, 47, 7, 0, 0, .null), []),
  (47, (.iconst 0, 48, 0, 0, 0, .int 0), []),
  (48, (.istore 8, 50, 8, 0, 0, .null), []),
  (50, (.iload 8, 52, 8, 0, 0, .null), []),
  (52, (.aload_n 0, 53, 0, 0, 0, .null), []),
  (53, (.iload_n 2, 54, 2, 0, 0, .null), []),
  (54, (.invokevirtual 52, 57, 110, 2, 0, .null), [836, 838, 37, 80]),
  (57, (.if_icmp .ge 57, 60, 114, 0, 0, .null), []),
  (60, (.iload 7, 62, 7, 0, 0, .null), []),
  (62, (.ifCond .ne 39, 65, 101, 0, 0, .null), []),
  (65, (.iload 5, 67, 5, 0, 0, .null), []),
  (67, (.aload_n 0, 68, 0, 0, 0, .null), []),
  (68, (.iload_n 2, 69, 2, 0, 0, .null), []),
  (69, (.invokevirtual 134, 72, 140, 2, 0, .null), [948, 950, 54, 80]),
  (72, (.iand, 73, 0, 0, 0, .null), []),
  (73, (.iload 8, 75, 8, 0, 0, .null), []),
  (75, (.invokestatic 84, 78, 106, 2, 0, .null), [859, 860, 80]),
  (78, (.ifCond .eq 27, 81, 105, 0, 0, .null), []),
  (81, (.aload_n 0, 82, 0, 0, 0, .null), []),
  (82, (.iload_n 2, 83, 2, 0, 0, .null), []),
  (83, (.iload 8, 85, 8, 0, 0, .null), []),
  (85, (.invokevirtual 131, 88, 139, 3, 0, .null), [944, 946, 53, 80]),
  (88, (.aload_n 0, 89, 0, 0, 0, .null), []),
  (89, (.iload_n 1, 90, 1, 0, 0, .null), []),
  (90, (.iload 6, 92, 6, 0, 0, .null), []),
  (92, (.invokevirtual 131, 95, 139, 3, 0, .null), [944, 946, 53, 80])]
def rx_tb_156_1 : List (Nat × rx_I × List Nat) := [(95, (.iconst (-1), 96, 0, 0, 0, .int (-1)), []),
  (96, (.ixor, 97, 0, 0, 0, .null), []),
  (97, (.iand, 98, 0, 0, 0, .null), []),
  (98, (.ifCond .ne 7, 101, 105, 0, 0, .null), []),
  (101, (.iconst 1, 102, 0, 0, 0, .int 1), []),
  (102, (.goto 4, 105, 106, 0, 0, .null), []),
  (105, (.iconst 0, 106, 0, 0, 0, .int 0), []),
  (106, (.istore 7, 108, 7, 0, 0, .null), []),
  (108, (.iinc 8 1, 111, 8, 0, 0, .int 1), []),
  (111, (.goto (-61), 114, 50, 0, 0, .null), []),
  (114, (.iload 7, 116, 7, 0, 0, .null), []),
  (116, (.ifCond .ne 5, 119, 121, 0, 0, .null), []),
  (119, (.iconst 1, 120, 0, 0, 0, .int 1), []),
  (120, (.ireturn, 121, 0, 0, 0, .null), []),
  (121, (.iinc 6 1, 124, 6, 0, 0, .int 1), []),
  (124, (.goto (-114), 127, 10, 0, 0, .null), []),
  (127, (.iload_n 3, 128, 3, 0, 0, .null), []),
  (128, (.iconst 2, 129, 0, 0, 0, .int 2), []),
  (129, (.if_icmp .ne 29, 132, 158, 0, 0, .null), []),
  (132, (.iload 4, 134, 4, 0, 0, .null), []),
  (134, (.aload_n 0, 135, 0, 0, 0, .null), []),
  (135, (.iload_n 1, 136, 1, 0, 0, .null), []),
  (136, (.invokevirtual 137, 139, 141, 2, 0, .null), [952, 954, 55, 80]),
  (139, (.iand, 140, 0, 0, 0, .null), []),
  (140, (.ifCond .eq 18, 143, 158, 0, 0, .null), []),
  (143, (.iload 5, 145, 5, 0, 0, .null), []),
  (145, (.aload_n 0, 146, 0, 0, 0, .null), []),
  (146, (.iload_n 2, 147, 2, 0, 0, .null), []),
  (147, (.invokevirtual 137, 150, 141, 2, 0, .null), [952, 954, 55, 80]),
  (150, (.iand, 151, 0, 0, 0, .null), []),
  (151, (.ifCond .ne 7, 154, 158, 0, 0, .null), []),
  (154, (.iconst 2, 155, 0, 0, 0, .int 2), []),
  (155, (.goto 4, 158, 159, 0, 0, .null), []),
  (158, (.iconst (-1), 159, 0, 0, 0, .int (-1)), []),
  (159, (.ireturn, 160, 0, 0, 0, .null), [])]
def rx_tb_156 : List (Nat × rx_I × List Nat) := rx_tb_156_0 ++ rx_tb_156_1
def rx_tb_157_0 : List (Nat × rx_I × List Nat) := [(0, (.iload_n 1, 1, 1, 0, 0, .null), []),
  (1, (.bipush 8, 3, 0, 0, 0, .int 8), []),
  (3, (.ishr, 4, 0, 0, 0, .null), []),
  (4, (.ifCond .eq 72, 7, 76, 0, 0, .null), []),
  (7, (.aload_n 0, 8, 0, 0, 0, .null), []),
  (8, (.getfield 41, 11, 8, 13, 0, .null), [778]),
  (11, (.iload_n 1, 12, 1, 0, 0, .null), []),
  (12, (.iconst 5, 13, 0, 0, 0, .int 5), []),
  (13, (.ishr, 14, 0, 0, 0, .null), []),
  (14, (.iaload, 15, 0, 0, 0, .null), []),
  (15, (.iload_n 1, 16, 1, 0, 0, .null), []),
  (16, (.bipush 31, 18, 0, 0, 0, .int 31), []),
  (18, (.iand, 19, 0, 0, 0, .null), []),
  (19, (.invokestatic 84, 22, 106, 2, 0, .null), [859, 860, 80]),
  (22, (.ifCond .ne 54, 25, 76, 0, 0, .null), []),
  (25, (.aload_n 0, 26, 0, 0, 0, .null), []),
  (26, (.getfield 41, 29, 8, 13, 0, .null), [778]),
  (29, (.iload_n 1, 30, 1, 0, 0, .null), []),
  (30, (.iconst 5, 31, 0, 0, 0, .int 5), []),
  (31, (.ishr, 32, 0, 0, 0, .null), []),
  (32, (.dup2, 33, 0, 0, 0, .null), []),
  (33, (.iaload, 34, 0, 0, 0, .null), []),
  (34, (.iconst 1, 35, 0, 0, 0, .int 1), []),
  (35, (.iload_n 1, 36, 1, 0, 0, .null), []),
  (36, (.bipush 31, 38, 0, 0, 0, .int 31), []),
  (38, (.iand, 39, 0, 0, 0, .null), []),
  (39, (.ishl, 40, 0, 0, 0, .null), []),
  (40, (.ior, 41, 0, 0, 0, .null), []),
  (41, (.iastore, 42, 0, 0, 0, .null), []),
  (42, (.aload_n 0, 43, 0, 0, 0, .null), []),
  (43, (.getfield 35, 46, 8, 11, 0, .null), [776]),
  (46, (.aload_n 0, 47, 0, 0, 0, .null), []),
  (47, (.getfield 174, 50, 8, 14, 0, .null), [779]),
  (50, (.iload_n 1, 51, 1, 0, 0, .null), []),
  (51, (.iastore, 52, 0, 0, 0, .null), []),
  (52, (.aload_n 0, 53, 0, 0, 0, .null), []),
  (53, (.getfield 38, 56, 8, 12, 0, .null), [777]),
  (56, (.aload_n 0, 57, 0, 0, 0, .null), []),
  (57, (.getfield 174, 60, 8, 14, 0, .null), [779]),
  (60, (.iconst 4, 61, 0, 0, 0, .int 4), []),
  (61, (.iload_n 2, 62, 2, 0, 0, .null), []),
  (62, (.imul, 63, 0, 0, 0, .null), []),
  (63, (.iload_n 3, 64, 3, 0, 0, .null), []),
  (64, (.iadd, 65, 0, 0, 0, .null), []),
  (65, (.iastore, 66, 0, 0, 0, .null), []),
  (66, (.aload_n 0, 67, 0, 0, 0, .null), []),
  (67, (.dup, 68, 0, 0, 0, .null), []),
  (68, (.getfield 174, 71, 8, 14, 0, .null), [779]),
  (71, (.iconst 1, 72, 0, 0, 0, .int 1), []),
  (72, (.iadd, 73, 0, 0, 0, .null), [])]
def rx_tb_157_1 : List (Nat × rx_I × List Nat) := [(73, (.putfield 174, 76, 8, 14, 0, .null), [779]),
  (76, (.return_, 77, 0, 0, 0, .null), [])]
def rx_tb_157 : List (Nat × rx_I × List Nat) := rx_tb_157_0 ++ rx_tb_157_1
def rx_tb_158_0 : List (Nat × rx_I × List Nat) := [(0, (.iconst 0, 1, 0, 0, 0, .int 0), []),
  (1, (.istore 4, 3, 4, 0, 0, .null), []),
  (3, (.iload 4, 5, 4, 0, 0, .null), []),
  (5, (.sipush 2048, 8, 0, 0, 0, .int 2048), []),
  (8, (.if_icmp .ge 17, 11, 25, 0, 0, .null), []),
  (11, (.aload_n 0, 12, 0, 0, 0, .null), []),
  (12, (.getfield 41, 15, 8, 13, 0, .null), [778]),
  (15, (.iload 4, 17, 4, 0, 0, .null), []),
  (17, (.iconst 0, 18, 0, 0, 0, .int 0), []),
  (18, (.iastore, 19, 0, 0, 0, .null), []),
  (19, (.iinc 4 1, 22, 4, 0, 0, .int 1), []),
  (22, (.goto (-19), 25, 3, 0, 0, .null), []),
  (25, (.aload_n 0, 26, 0, 0, 0, .null), []),
  (26, (.iconst 0, 27, 0, 0, 0, .int 0), []),
  (27, (.putfield 174, 30, 8, 14, 0, .null), [779]),
  (30, (.aload_n 0, 31, 0, 0, 0, .null), []),
  (31, (.aload_n 0, 32, 0, 0, 0, .null), []),
  (32, (.iload_n 1, 33, 1, 0, 0, .null), []),
  (33, (.iconst 1, 34, 0, 0, 0, .int 1), []),
  (34, (.invokevirtual 162, 37, 137, 3, 0, .null), [996, 998, 61, 80]),
  (37, (.bipush 8, 39, 0, 0, 0, .int 8), []),
  (39, (.ishl, 40, 0, 0, 0, .null), []),
  (40, (.aload_n 0, 41, 0, 0, 0, .null), []),
  (41, (.iload_n 2, 42, 2, 0, 0, .null), []),
  (42, (.iconst 1, 43, 0, 0, 0, .int 1), []),
  (43, (.invokevirtual 162, 46, 137, 3, 0, .null), [996, 998, 61, 80]),
  (46, (.ior, 47, 0, 0, 0, .null), []),
  (47, (.iconst 0, 48, 0, 0, 0, .int 0), []),
  (48, (.iconst 0, 49, 0, 0, 0, .int 0), []),
  (49, (.invokevirtual 177, 52, 157, 4, 0, .null), [1023, 1025, 66, 80]),
  (52, (.iconst 0, 53, 0, 0, 0, .int 0), []),
  (53, (.istore 4, 55, 4, 0, 0, .null), []),
  (55, (.iload 4, 57, 4, 0, 0, .null), []),
  (57, (.aload_n 0, 58, 0, 0, 0, .null), []),
  (58, (.getfield 174, 61, 8, 14, 0, .null), [779]),
  (61, (.if_icmp .ge 107, 64, 168, 0, 0, .null), []),
  (64, (.aload_n 0, 65, 0, 0, 0, .null), []),
  (65, (.getfield 35, 68, 8, 11, 0, .null), [776]),
  (68, (.iload 4, 70, 4, 0, 0, .null), []),
  (70, (.iaload, 71, 0, 0, 0, .null), []),
  (71, (.bipush 8, 73, 0, 0, 0, .int 8), []),
  (73, (.ishr, 74, 0, 0, 0, .null), []),
  (74, (.istore 5, 76, 5, 0, 0, .null), []),
  (76, (.aload_n 0, 77, 0, 0, 0, .null), []),
  (77, (.getfield 35, 80, 8, 11, 0, .null), [776]),
  (80, (.iload 4, 82, 4, 0, 0, .null), []),
  (82, (.iaload, 83, 0, 0, 0, .null), []),
  (83, (.sipush 255, 86, 0, 0, 0, .int 255), []),
  (86, (.iand, 87, 0, 0, 0, .null), []),
  (87, (.istore 6, 89, 6, 0, 0, .null), [])]
def rx_tb_158_1 : List (Nat × rx_I × List Nat) := [(89, (.aload_n 0, 90, 0, 0, 0, .null), []),
  (90, (.iload_n 1, 91, 1, 0, 0, .null), []),
  (91, (.iload_n 2, 92, 2, 0, 0, .null), []),
  (92, (.iload_n 3, 93, 3, 0, 0, .null), []),
  (93, (.iload 5, 95, 5, 0, 0, .null), []),
  (95, (.iload 6, 97, 6, 0, 0, .null), []),
  (97, (.invokevirtual 180, 100, 156, 6, 0, .null), [1027, 1029, 67, 80]),
  (100, (.iconst (-1), 101, 0, 0, 0, .int (-1)), []),
  (101, (.if_icmp .eq 6, 104, 107, 0, 0, .null), []),
  (104, (.iload 4, 106, 4, 0, 0, .null), []),
  (106, (.ireturn, 107, 0, 0, 0, .null), []),
  (107, (.iconst 0, 108, 0, 0, 0, .int 0), []),
  (108, (.istore 7, 110, 7, 0, 0, .null), []),
  (110, (.iload 7, 112, 7, 0, 0, .null), []),
  (112, (.iconst 4, 113, 0, 0, 0, .int 4), []),
  (113, (.if_icmp .ge 49, 116, 162, 0, 0, .null), []),
  (116, (.aload_n 0, 117, 0, 0, 0, .null), []),
  (117, (.aload_n 0, 118, 0, 0, 0, .null), []),
  (118, (.iload_n 1, 119, 1, 0, 0, .null), []),
  (119, (.aload_n 0, 120, 0, 0, 0, .null), []),
  (120, (.iload_n 1, 121, 1, 0, 0, .null), []),
  (121, (.iload 5, 123, 5, 0, 0, .null), []),
  (123, (.iload 7, 125, 7, 0, 0, .null), []),
  (125, (.invokevirtual 128, 128, 138, 4, 0, .null), [1000, 1002, 62, 80]),
  (128, (.invokevirtual 162, 131, 137, 3, 0, .null), [996, 998, 61, 80]),
  (131, (.bipush 8, 133, 0, 0, 0, .int 8), []),
  (133, (.ishl, 134, 0, 0, 0, .null), []),
  (134, (.aload_n 0, 135, 0, 0, 0, .null), []),
  (135, (.iload_n 2, 136, 2, 0, 0, .null), []),
  (136, (.aload_n 0, 137, 0, 0, 0, .null), []),
  (137, (.iload_n 2, 138, 2, 0, 0, .null), []),
  (138, (.iload 6, 140, 6, 0, 0, .null), []),
  (140, (.iload 7, 142, 7, 0, 0, .null), []),
  (142, (.invokevirtual 128, 145, 138, 4, 0, .null), [1000, 1002, 62, 80]),
  (145, (.invokevirtual 162, 148, 137, 3, 0, .null), [996, 998, 61, 80]),
  (148, (.ior, 149, 0, 0, 0, .null), []),
  (149, (.iload 4, 151, 4, 0, 0, .null), []),
  (151, (.iload 7, 153, 7, 0, 0, .null), []),
  (153, (.invokevirtual 177, 156, 157, 4, 0, .null), [1023, 1025, 66, 80]),
  (156, (.iinc 7 1, 159, 7, 0, 0, .int 1), []),
  (159, (.goto (-49), 162, 110, 0, 0, .null), []),
  (162, (.iinc 4 1, 165, 4, 0, 0, .int 1), []),
  (165, (.goto (-110), 168, 55, 0, 0, .null), []),
  (168, (.iconst (-1), 169, 0, 0, 0, .int (-1)), []),
  (169, (.ireturn, 170, 0, 0, 0, .null), [])]
def rx_tb_158 : List (Nat × rx_I × List Nat) := rx_tb_158_0 ++ rx_tb_158_1
def rx_tb_159_0 : List (Nat × rx_I × List Nat) := [(0, (.iload_n 0, 1, 0, 0, 0, .null), []),
  (1, (.invokestatic 48, 4, 109, 1, 0, .null), [826, 827, 80]),
  (4, (.ifCond .eq 23, 7, 27, 0, 0, .null), []),
  (7, (.iload_n 1, 8, 1, 0, 0, .null), []),
  (8, (.invokestatic 48, 11, 109, 1, 0, .null), [826, 827, 80]),
  (11, (.ifCond .eq 16, 14, 27, 0, 0, .null), []),
  (14, (.iload_n 2, 15, 2, 0, 0, .null), []),
  (15, (.iconst 0, 16, 0, 0, 0, .int 0), []),
  (16, (.iconst 2, 17, 0, 0, 0, .int 2), []),
  (17, (.invokestatic 44, 20, 105, 3, 0, .null), [829, 830, 80]),
  (20, (.ifCond .eq 7, 23, 27, 0, 0, .null), []),
  (23, (.iconst 1, 24, 0, 0, 0, .int 1), []),
  (24, (.goto 4, 27, 28, 0, 0, .null), []),
  (27, (.iconst 0, 28, 0, 0, 0, .int 0), []),
  (28, (.ireturn, 29, 0, 0, 1, .null), [])]
def rx_tb_159 : List (Nat × rx_I × List Nat) := rx_tb_159_0
def rx_tb_160_0 : List (Nat × rx_I × List Nat) := [(0, (.iload_n 1, 1, 1, 0, 0, .null), []),
  (1, (.iload_n 2, 2, 2, 0, 0, .null), []),
  (2, (.iload_n 3, 3, 3, 0, 0, .null), []),
  (3, (.invokestatic 184, 6, 159, 3, 0, .null), [1016, 1017, 80]),
  (6, (.ifCond .ne 10, 9, 16, 0, 0, .null), []),
  (9, (.aload_n 0, 10, 0, 0, 0, .null), []),
  (10, (.bipush (-2), 12, 0, 0, 0, .int (-2)), []),
  (12, (.invokevirtual 64, 15, 108, 2, 0, .null), [818, 820, 35, 80]),
  (15, (.ireturn, 16, 0, 0, 0, .null), []),
  (16, (.aload_n 0, 17, 0, 0, 0, .null), []),
  (17, (.iload_n 1, 18, 1, 0, 0, .null), []),
  (18, (.iload_n 2, 19, 2, 0, 0, .null), []),
  (19, (.iload_n 3, 20, 3, 0, 0, .null), []),
  (20, (.invokevirtual 187, 23, 158, 4, 0, .null), [1019, 1021, 65, 80]),
  (23, (.iconst (-1), 24, 0, 0, 0, .int (-1)), []),
  (24, (.if_icmp .ne 7, 27, 31, 0, 0, .null), []),
  (27, (.iconst 1, 28, 0, 0, 0, .int 1), []),
  (28, (.goto 4, 31, 32, 0, 0, .null), []),
  (31, (.iconst 0, 32, 0, 0, 0, .int 0), []),
  (32, (.ireturn, 33, 0, 0, 0, .null), [])]
def rx_tb_160 : List (Nat × rx_I × List Nat) := rx_tb_160_0
def rx_tb_161_0 : List (Nat × rx_I × List Nat) := [(0, (.iload_n 1, 1, 1, 0, 0, .null), []),
  (1, (.iload_n 2, 2, 2, 0, 0, .null), []),
  (2, (.iload_n 3, 3, 3, 0, 0, .null), []),
  (3, (.invokestatic 184, 6, 159, 3, 0, .null), [1016, 1017, 80]),
  (6, (.ifCond .eq 9, 9, 15, 0, 0, .null), []),
  (9, (.iload 4, 11, 4, 0, 0, .null), []),
  (11, (.iconst (-1), 12, 0, 0, 0, .int (-1)), []),
  (12, (.if_icmp .ge 10, 15, 22, 0, 0, .null), []),
  (15, (.aload_n 0, 16, 0, 0, 0, .null), []),
  (16, (.bipush (-2), 18, 0, 0, 0, .int (-2)), []),
  (18, (.invokevirtual 64, 21, 108, 2, 0, .null), [818, 820, 35, 80]),
  (21, (.ireturn, 22, 0, 0, 0, .null), []),
  (22, (.aload_n 0, 23, 0, 0, 0, .null), []),
  (23, (.iload_n 1, 24, 1, 0, 0, .null), []),
  (24, (.iload_n 2, 25, 2, 0, 0, .null), []),
  (25, (.iload_n 3, 26, 3, 0, 0, .null), []),
  (26, (.invokevirtual 187, 29, 158, 4, 0, .null), [1019, 1021, 65, 80]),
  (29, (.istore 5, 31, 5, 0, 0, .null), []),
  (31, (.iload 5, 33, 5, 0, 0, .null), []),
  (33, (.iconst (-1), 34, 0, 0, 0, .int (-1)), []),
  (34, (.if_icmp .ne 10, 37, 44, 0, 0, .null), []),
  (37, (.aload_n 0, 38, 0, 0, 0, .null), []),
  (38, (.bipush (-3), 40, 0, 0, 0, .int (-3)), []),
  (40, (.invokevirtual 64, 43, 108, 2, 0, .null), [818, 820, 35, 80]),
  (43, (.ireturn, 44, 0, 0, 0, .null), []),
  (44, (.iconst 0, 45, 0, 0, 0, .int 0), []),
  (45, (.istore 6, 47, 6, 0, 0, .null), []),
  (47, (.iload 5, 49, 5, 0, 0, .null), []),
  (49, (.istore 7, 51, 7, 0, 0, .null), []),
  (51, (.iload 7, 53, 7, 0, 0, .null), []),
  (53, (.ifCond .le 20, 56, 73, 0, 0, .null), []),
  (56, (.iinc 6 1, 59, 6, 0, 0, .int 1), []),
  (59, (.aload_n 0, 60, 0, 0, 0, .null), []),
  (60, (.getfield 38, 63, 8, 12, 0, .null), [777]),
  (63, (.iload 7, 65, 7, 0, 0, .null), []),
  (65, (.iaload, 66, 0, 0, 0, .null), []),
  (66, (.iconst 4, 67, 0, 0, 0, .int 4), []),
  (67, (.idiv, 68, 0, 0, 0, .null), []),
  (68, (.istore 7, 70, 7, 0, 0, .null), []),
  (70, (.goto (-19), 73, 51, 0, 0, .null), []),
  (73, (.iload 4, 75, 4, 0, 0, .null), []),
  (75, (.iconst (-1), 76, 0, 0, 0, .int (-1)), []),
  (76, (.if_icmp .eq 10, 79, 86, 0, 0, .null), []),
  (79, (.iload 4, 81, 4, 0, 0, .null), []),
  (81, (.iload 6, 83, 6, 0, 0, .null), []),
  (83, (.if_icmp .lt 17, 86, 100, 0, 0, .null), []),
  (86, (.iload 4, 88, 4, 0, 0, .null), []),
  (88, (.iconst (-1), 89, 0, 0, 0, .int (-1)), []),
  (89, (.if_icmp .ne 8, 92, 97, 0, 0, .null), []),
  (92, (.iload 6, 94, 6, 0, 0, .null), [])]
def rx_tb_161_1 : List (Nat × rx_I × List Nat) := [(94, (.goto 5, 97, 99, 0, 0, .null), []),
  (97, (.bipush (-5), 99, 0, 0, 0, .int (-5)), []),
  (99, (.ireturn, 100, 0, 0, 0, .null), []),
  (100, (.iload 5, 102, 5, 0, 0, .null), []),
  (102, (.istore 7, 104, 7, 0, 0, .null), []),
  (104, (.iload 6, 106, 6, 0, 0, .null), []),
  (106, (.iconst 1, 107, 0, 0, 0, .int 1), []),
  (107, (.isub, 108, 0, 0, 0, .null), []),
  (108, (.istore 8, 110, 8, 0, 0, .null), []),
  (110, (.iload 8, 112, 8, 0, 0, .null), []),
  (112, (.iload 4, 114, 4, 0, 0, .null), []),
  (114, (.if_icmp .le 20, 117, 134, 0, 0, .null), []),
  (117, (.aload_n 0, 118, 0, 0, 0, .null), []),
  (118, (.getfield 38, 121, 8, 12, 0, .null), [777]),
  (121, (.iload 7, 123, 7, 0, 0, .null), []),
  (123, (.iaload, 124, 0, 0, 0, .null), []),
  (124, (.iconst 4, 125, 0, 0, 0, .int 4), []),
  (125, (.idiv, 126, 0, 0, 0, .null), []),
  (126, (.istore 7, 128, 7, 0, 0, .null), []),
  (128, (.iinc 8 (-1), 131, 8, 0, 0, .int (-1)), []),
  (131, (.goto (-21), 134, 110, 0, 0, .null), []),
  (134, (.aload_n 0, 135, 0, 0, 0, .null), []),
  (135, (.getfield 38, 138, 8, 12, 0, .null), [777]),
  (138, (.iload 7, 140, 7, 0, 0, .null), []),
  (140, (.iaload, 141, 0, 0, 0, .null), []),
  (141, (.iconst 4, 142, 0, 0, 0, .int 4), []),
  (142, (.irem, 143, 0, 0, 0, .null), []),
  (143, (.ireturn, 144, 0, 0, 0, .null), [])]
def rx_tb_161 : List (Nat × rx_I × List Nat) := rx_tb_161_0 ++ rx_tb_161_1
def rx_tb_162_0 : List (Nat × rx_I × List Nat) := [(0, (.iload_n 1, 1, 1, 0, 0, .null), []),
  (1, (.iload_n 2, 2, 2, 0, 0, .null), []),
  (2, (.iload_n 3, 3, 3, 0, 0, .null), []),
  (3, (.invokestatic 184, 6, 159, 3, 0, .null), [1016, 1017, 80]),
  (6, (.ifCond .ne 10, 9, 16, 0, 0, .null), []),
  (9, (.aload_n 0, 10, 0, 0, 0, .null), []),
  (10, (.bipush (-2), 12, 0, 0, 0, .int (-2)), []),
  (12, (.invokevirtual 64, 15, 108, 2, 0, .null), [818, 820, 35, 80]),
  (15, (.ireturn, 16, 0, 0, 0, .null), []),
  (16, (.aload_n 0, 17, 0, 0, 0, .null), []),
  (17, (.iload_n 1, 18, 1, 0, 0, .null), []),
  (18, (.iload_n 2, 19, 2, 0, 0, .null), []),
  (19, (.iload_n 3, 20, 3, 0, 0, .null), []),
  (20, (.invokevirtual 187, 23, 158, 4, 0, .null), [1019, 1021, 65, 80]),
  (23, (.istore 4, 25, 4, 0, 0, .null), []),
  (25, (.iload 4, 27, 4, 0, 0, .null), []),
  (27, (.iconst (-1), 28, 0, 0, 0, .int (-1)), []),
  (28, (.if_icmp .ne 12, 31, 40, 0, 0, .null), []),
  (31, (.aload_n 0, 32, 0, 0, 0, .null), []),
  (32, (.bipush (-3), 34, 0, 0, 0, .int (-3)), []),
  (34, (.invokevirtual 64, 37, 108, 2, 0, .null), [818, 820, 35, 80]),
  (37, (.goto 31, 40, 68, 0, 0, .null), []),
  (40, (.aload_n 0, 41, 0, 0, 0, .null), []),
  (41, (.iload_n 1, 42, 1, 0, 0, .null), []),
  (42, (.iload_n 2, 43, 2, 0, 0, .null), []),
  (43, (.iload_n 3, 44, 3, 0, 0, .null), []),
  (44, (.aload_n 0, 45, 0, 0, 0, .null), []),
  (45, (.getfield 35, 48, 8, 11, 0, .null), [776]),
  (48, (.iload 4, 50, 4, 0, 0, .null), []),
  (50, (.iaload, 51, 0, 0, 0, .null), []),
  (51, (.bipush 8, 53, 0, 0, 0, .int 8), []),
  (53, (.ishr, 54, 0, 0, 0, .null), []),
  (54, (.aload_n 0, 55, 0, 0, 0, .null), []),
  (55, (.getfield 35, 58, 8, 11, 0, .null), [776]),
  (58, (.iload 4, 60, 4, 0, 0, .null), []),
  (60, (.iaload, 61, 0, 0, 0, .null), []),
  (61, (.sipush 255, 64, 0, 0, 0, .int 255), []),
  (64, (.iand, 65, 0, 0, 0, .null), []),
  (65, (.invokevirtual 180, 68, 156, 6, 0, .null), [1027, 1029, 67, 80]),
  (68, (.ireturn, 69, 0, 0, 0, .null), [])]
def rx_tb_162 : List (Nat × rx_I × List Nat) := rx_tb_162_0
def rx_tb_163_0 : List (Nat × rx_I × List Nat) := [(0, (.iload_n 1, 1, 1, 0, 0, .null), []),
  (1, (.iconst 3, 2, 0, 0, 0, .int 3), []),
  (2, (.if_icmp .ge 12, 5, 14, 0, 0, .null), []),
  (5, (.aload_n 0, 6, 0, 0, 0, .null), []),
  (6, (.getfield 19, 9, 8, 4, 0, .null), [769]),
  (9, (.iload_n 1, 10, 1, 0, 0, .null), []),
  (10, (.iaload, 11, 0, 0, 0, .null), []),
  (11, (.goto 19, 14, 30, 0, 0, .null), []),
  (14, (.iload_n 1, 15, 1, 0, 0, .null), []),
  (15, (.iconst 3, 16, 0, 0, 0, .int 3), []),
  (16, (.if_icmp .ne 10, 19, 26, 0, 0, .null), []),
  (19, (.aload_n 0, 20, 0, 0, 0, .null), []),
  (20, (.getfield 143, 23, 8, 6, 0, .null), [771]),
  (23, (.goto 7, 26, 30, 0, 0, .null), []),
  (26, (.aload_n 0, 27, 0, 0, 0, .null), []),
  (27, (.getfield 60, 30, 8, 3, 0, .null), [768]),
  (30, (.ireturn, 31, 0, 0, 0, .null), [])]
def rx_tb_163 : List (Nat × rx_I × List Nat) := rx_tb_163_0
def rx_tb_164_0 : List (Nat × rx_I × List Nat) := [(0, (.iload_n 1, 1, 1, 0, 0, .null), []),
  (1, (.iconst 0, 2, 0, 0, 0, .int 0), []),
  (2, (.iconst 4, 3, 0, 0, 0, .int 4), []),
  (3, (.invokestatic 44, 6, 105, 3, 0, .null), [829, 830, 80]),
  (6, (.ifCond .eq 11, 9, 17, 0, 0, .null), []),
  (9, (.aload_n 0, 10, 0, 0, 0, .null), []),
  (10, (.iload_n 1, 11, 1, 0, 0, .null), []),
  (11, (.invokevirtual 190, 14, 163, 2, 0, .null), [1043, 1045, 68, 80]),
  (14, (.goto 9, 17, 23, 0, 0, .null), []),
  (17, (.aload_n 0, 18, 0, 0, 0, .null), []),
  (18, (.bipush (-2), 20, 0, 0, 0, .int (-2)), []),
  (20, (.invokevirtual 64, 23, 108, 2, 0, .null), [818, 820, 35, 80]),
  (23, (.ireturn, 24, 0, 0, 0, .null), [])]
def rx_tb_164 : List (Nat × rx_I × List Nat) := rx_tb_164_0
def rx_tb_165_0 : List (Nat × rx_I × List Nat) := [(0, (.aload_n 0, 1, 0, 0, 0, .null), []),
  (1, (.ldc2_w 193, 4, 0, 0, 0, .long 31), [1056]),
  (4, (.aload_n 0, 5, 0, 0, 0, .null), []),
  (5, (.getfield 195, 8, 8, 15, 0, .null), [780]),
  (8, (.lmul, 9, 0, 0, 0, .null), []),
  (9, (.iload_n 1, 10, 1, 0, 0, .null), []),
  (10, (.i2l, 11, 0, 0, 0, .null), []),
  (11, (.ladd, 12, 0, 0, 0, .null), []),
  (12, (.putfield 195, 15, 8, 15, 3, .null), [780]),
  (15, (.return_, 16, 0, 0, 0, .null), [])]
def rx_tb_165 : List (Nat × rx_I × List Nat) := rx_tb_165_0
def rx_tb_166_0 : List (Nat × rx_I × List Nat) := [(0, (.iconst 0, 1, 0, 0, 0, .int 0), []),
  (1, (.istore_n 2, 2, 2, 0, 0, .null), []),
  (2, (.iload_n 2, 3, 2, 0, 0, .null), []),
  (3, (.bipush 6, 5, 0, 0, 0, .int 6), []),
  (5, (.if_icmp .ge 19, 8, 24, 0, 0, .null), []),
  (8, (.aload_n 0, 9, 0, 0, 0, .null), []),
  (9, (.aload_n 0, 10, 0, 0, 0, .null), []),
  (10, (.iload_n 1, 11, 1, 0, 0, .null), []),
  (11, (.iload_n 2, 12, 2, 0, 0, .null), []),
  (12, (.invokevirtual 140, 15, 142, 3, 0, .null), [940, 942, 52, 80]),
  (15, (.invokevirtual 199, 18, 165, 2, 0, .null), [1052, 1054, 69, 80]),
  (18, (.iinc 2 1, 21, 2, 0, 0, .int 1), []),
  (21, (.goto (-19), 24, 2, 0, 0, .null), []),
  (24, (.iconst 0, 25, 0, 0, 0, .int 0), []),
  (25, (.istore_n 2, 26, 2, 0, 0, .null), []),
  (26, (.iload_n 2, 27, 2, 0, 0, .null), []),
  (27, (.iconst 5, 28, 0, 0, 0, .int 5), []),
  (28, (.aload_n 0, 29, 0, 0, 0, .null), []),
  (29, (.iload_n 1, 30, 1, 0, 0, .null), []),
  (30, (.invokevirtual 52, 33, 110, 2, 0, .null), [836, 838, 37, 80]),
  (33, (.imul, 34, 0, 0, 0, .null), []),
  (34, (.if_icmp .ge 24, 37, 58, 0, 0, .null), []),
  (37, (.aload_n 0, 38, 0, 0, 0, .null), []),
  (38, (.aload_n 0, 39, 0, 0, 0, .null), []),
  (39, (.iload_n 1, 40, 1, 0, 0, .null), []),
  (40, (.iload_n 2, 41, 2, 0, 0, .null), []),
  (41, (.iconst 5, 42, 0, 0, 0, .int 5), []),
  (42, (.idiv, 43, 0, 0, 0, .null), []),
  (43, (.iload_n 2, 44, 2, 0, 0, .null), []),
  (44, (.iconst 5, 45, 0, 0, 0, .int 5), []),
  (45, (.irem, 46, 0, 0, 0, .null), []),
  (46, (.invokevirtual 81, 49, 113, 4, 0, .null), [852, 854, 40, 80]),
  (49, (.invokevirtual 199, 52, 165, 2, 0, .null), [1052, 1054, 69, 80]),
  (52, (.iinc 2 1, 55, 2, 0, 0, .int 1), []),
  (55, (.goto (-29), 58, 26, 0, 0, .null), []),
  (58, (.return_, 59, 0, 0, 0, .null), [])]
def rx_tb_166 : List (Nat × rx_I × List Nat) := rx_tb_166_0
def rx_tb_167_0 : List (Nat × rx_I × List Nat) := [(0, (.aload_n 0, 1, 0, 0, 0, .null), []),
  (1, (.ldc2_w 202, 4, 0, 0, 0, .long 2617), [1051]),
  (4, (.putfield 195, 7, 8, 15, 3, .null), [780]),
  (7, (.iconst 0, 8, 0, 0, 0, .int 0), []),
  (8, (.istore_n 1, 9, 1, 0, 0, .null), []),
  (9, (.iload_n 1, 10, 1, 0, 0, .null), []),
  (10, (.iconst 5, 11, 0, 0, 0, .int 5), []),
  (11, (.if_icmp .ge 18, 14, 29, 0, 0, .null), []),
  (14, (.aload_n 0, 15, 0, 0, 0, .null), []),
  (15, (.aload_n 0, 16, 0, 0, 0, .null), []),
  (16, (.iload_n 1, 17, 1, 0, 0, .null), []),
  (17, (.invokevirtual 190, 20, 163, 2, 0, .null), [1043, 1045, 68, 80]),
  (20, (.invokevirtual 199, 23, 165, 2, 0, .null), [1052, 1054, 69, 80]),
  (23, (.iinc 1 1, 26, 1, 0, 0, .int 1), []),
  (26, (.goto (-17), 29, 9, 0, 0, .null), []),
  (29, (.iconst 0, 30, 0, 0, 0, .int 0), []),
  (30, (.istore_n 1, 31, 1, 0, 0, .null), []),
  (31, (.iload_n 1, 32, 1, 0, 0, .null), []),
  (32, (.iconst 4, 33, 0, 0, 0, .int 4), []),
  (33, (.if_icmp .ge 14, 36, 47, 0, 0, .null), []),
  (36, (.aload_n 0, 37, 0, 0, 0, .null), []),
  (37, (.iload_n 1, 38, 1, 0, 0, .null), []),
  (38, (.invokevirtual 204, 41, 166, 2, 0, .null), [1057, 1059, 70, 80]),
  (41, (.iinc 1 1, 44, 1, 0, 0, .int 1), []),
  (44, (.goto (-13), 47, 31, 0, 0, .null), []),
  (47, (.iconst 0, 48, 0, 0, 0, .int 0), []),
  (48, (.istore_n 1, 49, 1, 0, 0, .null), []),
  (49, (.iload_n 1, 50, 1, 0, 0, .null), []),
  (50, (.bipush 16, 52, 0, 0, 0, .int 16), []),
  (52, (.if_icmp .ge 79, 55, 131, 0, 0, .null), []),
  (55, (.iload_n 1, 56, 1, 0, 0, .null), []),
  (56, (.iconst 4, 57, 0, 0, 0, .int 4), []),
  (57, (.idiv, 58, 0, 0, 0, .null), []),
  (58, (.istore_n 2, 59, 2, 0, 0, .null), []),
  (59, (.iload_n 1, 60, 1, 0, 0, .null), []),
  (60, (.iconst 4, 61, 0, 0, 0, .int 4), []),
  (61, (.irem, 62, 0, 0, 0, .null), []),
  (62, (.istore_n 3, 63, 3, 0, 0, .null), []),
  (63, (.iload_n 2, 64, 2, 0, 0, .null), []),
  (64, (.iload_n 3, 65, 3, 0, 0, .null), []),
  (65, (.if_icmp .eq 60, 68, 125, 0, 0, .null), []),
  (68, (.iconst 0, 69, 0, 0, 0, .int 0), []),
  (69, (.istore 4, 71, 4, 0, 0, .null), []),
  (71, (.iload 4, 73, 4, 0, 0, .null), []),
  (73, (.iconst 3, 74, 0, 0, 0, .int 3), []),
  (74, (.if_icmp .ge 30, 77, 104, 0, 0, .null), []),
  (77, (.aload_n 0, 78, 0, 0, 0, .null), []),
  (78, (.aload_n 0, 79, 0, 0, 0, .null), []),
  (79, (.iload_n 2, 80, 2, 0, 0, .null), []),
  (80, (.iload_n 3, 81, 3, 0, 0, .null), [])]
def rx_tb_167_1 : List (Nat × rx_I × List Nat) := [(81, (.iload 4, 83, 4, 0, 0, .null), []),
  (83, (.invokevirtual 187, 86, 158, 4, 0, .null), [1019, 1021, 65, 80]),
  (86, (.iconst (-1), 87, 0, 0, 0, .int (-1)), []),
  (87, (.if_icmp .ne 7, 90, 94, 0, 0, .null), []),
  (90, (.iconst 1, 91, 0, 0, 0, .int 1), []),
  (91, (.goto 4, 94, 95, 0, 0, .null), []),
  (94, (.iconst 0, 95, 0, 0, 0, .int 0), []),
  (95, (.invokevirtual 199, 98, 165, 2, 0, .null), [1052, 1054, 69, 80]),
  (98, (.iinc 4 1, 101, 4, 0, 0, .int 1), []),
  (101, (.goto (-30), 104, 71, 0, 0, .null), []),
  (104, (.aload_n 0, 105, 0, 0, 0, .null), []),
  (105, (.iload_n 2, 106, 2, 0, 0, .null), []),
  (106, (.iload_n 3, 107, 3, 0, 0, .null), []),
  (107, (.invokevirtual 115, 110, 131, 3, 0, .null), [909, 911, 47, 80]),
  (110, (.aload_n 0, 111, 0, 0, 0, .null), []),
  (111, (.aload_n 0, 112, 0, 0, 0, .null), []),
  (112, (.getfield 31, 115, 8, 9, 0, .null), [774]),
  (115, (.iconst 0, 116, 0, 0, 0, .int 0), []),
  (116, (.iaload, 117, 0, 0, 0, .null), []),
  (117, (.bipush 8, 119, 0, 0, 0, .int 8), []),
  (119, (.ishr, 120, 0, 0, 0, .null), []),
  (120, (.iconst 1, 121, 0, 0, 0, .int 1), []),
  (121, (.iand, 122, 0, 0, 0, .null), []),
  (122, (.invokevirtual 199, 125, 165, 2, 0, .null), [1052, 1054, 69, 80]),
  (125, (.iinc 1 1, 128, 1, 0, 0, .int 1), []),
  (128, (.goto (-79), 131, 49, 0, 0, .null), []),
  (131, (.aload_n 0, 132, 0, 0, 0, .null), []),
  (132, (.getfield 195, 135, 8, 15, 0, .null), [780]),
  (135, (.lreturn, 136, 0, 0, 0, .null), [])]
def rx_tb_167 : List (Nat × rx_I × List Nat) := rx_tb_167_0 ++ rx_tb_167_1
def rx_tb_168_0 : List (Nat × rx_I × List Nat) := [(0, (.iload_n 0, 1, 0, 0, 0, .null), []),
  (1, (.iload_n 0, 2, 0, 0, 0, .null), []),
  (2, (.iconst 1, 3, 0, 0, 0, .int 1), []),
  (3, (.iushr, 4, 0, 0, 0, .null), []),
  (4, (.ldc_w 265, 7, 0, 0, 0, .int 1431655765), [391]),
  (7, (.iand, 8, 0, 0, 0, .null), []),
  (8, (.isub, 9, 0, 0, 0, .null), []),
  (9, (.istore_n 0, 10, 0, 0, 0, .null), []),
  (10, (.iload_n 0, 11, 0, 0, 0, .null), []),
  (11, (.ldc_w 266, 14, 0, 0, 0, .int 858993459), [392]),
  (14, (.iand, 15, 0, 0, 0, .null), []),
  (15, (.iload_n 0, 16, 0, 0, 0, .null), []),
  (16, (.iconst 2, 17, 0, 0, 0, .int 2), []),
  (17, (.iushr, 18, 0, 0, 0, .null), []),
  (18, (.ldc_w 266, 21, 0, 0, 0, .int 858993459), [392]),
  (21, (.iand, 22, 0, 0, 0, .null), []),
  (22, (.iadd, 23, 0, 0, 0, .null), []),
  (23, (.istore_n 0, 24, 0, 0, 0, .null), []),
  (24, (.iload_n 0, 25, 0, 0, 0, .null), []),
  (25, (.iload_n 0, 26, 0, 0, 0, .null), []),
  (26, (.iconst 4, 27, 0, 0, 0, .int 4), []),
  (27, (.iushr, 28, 0, 0, 0, .null), []),
  (28, (.iadd, 29, 0, 0, 0, .null), []),
  (29, (.ldc_w 267, 32, 0, 0, 0, .int 252645135), [393]),
  (32, (.iand, 33, 0, 0, 0, .null), []),
  (33, (.istore_n 0, 34, 0, 0, 0, .null), []),
  (34, (.iload_n 0, 35, 0, 0, 0, .null), []),
  (35, (.iload_n 0, 36, 0, 0, 0, .null), []),
  (36, (.bipush 8, 38, 0, 0, 0, .int 8), []),
  (38, (.iushr, 39, 0, 0, 0, .null), []),
  (39, (.iadd, 40, 0, 0, 0, .null), []),
  (40, (.istore_n 0, 41, 0, 0, 0, .null), []),
  (41, (.iload_n 0, 42, 0, 0, 0, .null), []),
  (42, (.iload_n 0, 43, 0, 0, 0, .null), []),
  (43, (.bipush 16, 45, 0, 0, 0, .int 16), []),
  (45, (.iushr, 46, 0, 0, 0, .null), []),
  (46, (.iadd, 47, 0, 0, 0, .null), []),
  (47, (.istore_n 0, 48, 0, 0, 0, .null), []),
  (48, (.iload_n 0, 49, 0, 0, 0, .null), []),
  (49, (.bipush 63, 51, 0, 0, 0, .int 63), []),
  (51, (.iand, 52, 0, 0, 0, .null), []),
  (52, (.ireturn, 53, 0, 0, 0, .null), [])]
def rx_tb_168 : List (Nat × rx_I × List Nat) := rx_tb_168_0
def rx_tb_169_0 : List (Nat × rx_I × List Nat) := [(0, (.iconst 0, 1, 0, 0, 0, .int 0), []),
  (1, (.istore_n 2, 2, 2, 0, 0, .null), []),
  (2, (.aload_n 0, 3, 0, 0, 0, .null), []),
  (3, (.arraylength, 4, 0, 0, 0, .null), []),
  (4, (.istore_n 3, 5, 3, 0, 0, .null), []),
  (5, (.iload_n 2, 6, 2, 0, 0, .null), []),
  (6, (.iload_n 3, 7, 3, 0, 0, .null), []),
  (7, (.if_icmp .ge 13, 10, 20, 0, 0, .null), []),
  (10, (.aload_n 0, 11, 0, 0, 0, .null), []),
  (11, (.iload_n 2, 12, 2, 0, 0, .null), []),
  (12, (.iload_n 1, 13, 1, 0, 0, .null), []),
  (13, (.iastore, 14, 0, 0, 0, .null), []),
  (14, (.iinc 2 1, 17, 2, 0, 0, .int 1), []),
  (17, (.goto (-12), 20, 5, 0, 0, .null), []),
  (20, (.return_, 21, 0, 0, 0, .null), [])]
def rx_tb_169 : List (Nat × rx_I × List Nat) := rx_tb_169_0
def rx_tb_170_0 : List (Nat × rx_I × List Nat) := [(0, (.iload_n 1, 1, 1, 0, 0, .null), []),
  (1, (.aload_n 0, 2, 0, 0, 0, .null), []),
  (2, (.arraylength, 3, 0, 0, 0, .null), []),
  (3, (.if_icmp .ne 11, 6, 14, 0, 0, .null), []),
  (6, (.aload_n 0, 7, 0, 0, 0, .null), []),
  (13, (.areturn, 14, 0, 0, 0, .null), []),
  (14, (.iload_n 1, 15, 1, 0, 0, .null), []),
  (15, (.newarray .byte, 17, 1, 0, 0, .null), [173]),
  (17, (.astore_n 2, 18, 2, 0, 0, .null), []),
  (18, (.aload_n 0, 19, 0, 0, 0, .null), []),
  (19, (.iconst 0, 20, 0, 0, 0, .int 0), []),
  (20, (.aload_n 2, 21, 2, 0, 0, .null), []),
  (21, (.iconst 0, 22, 0, 0, 0, .int 0), []),
  (22, (.aload_n 0, 23, 0, 0, 0, .null), []),
  (23, (.arraylength, 24, 0, 0, 0, .null), []),
  (24, (.iload_n 1, 25, 1, 0, 0, .null), []),
  (25, (.invokestatic 304, 28, 0, 0, 7, .null), [684, 345, 82]),
  (28, (.invokestatic 150, 31, 0, 0, 9, .null), [685, 343, 342, 81]),
  (31, (.aload_n 2, 32, 2, 0, 0, .null), []),
  (32, (.areturn, 33, 0, 0, 0, .null), [])]
def rx_tb_170 : List (Nat × rx_I × List Nat) := rx_tb_170_0
def rx_tb_171_0 : List (Nat × rx_I × List Nat) := [(0, (.iload_n 1, 1, 1, 0, 0, .null), []),
  (1, (.aload_n 0, 2, 0, 0, 0, .null), []),
  (2, (.arraylength, 3, 0, 0, 0, .null), []),
  (3, (.if_icmp .ne 11, 6, 14, 0, 0, .null), []),
  (6, (.aload_n 0, 7, 0, 0, 0, .null), []),
  (13, (.areturn, 14, 0, 0, 0, .null), []),
  (14, (.iload_n 1, 15, 1, 0, 0, .null), []),
  (15, (.newarray .int, 17, 0, 0, 0, .null), [127]),
  (17, (.astore_n 2, 18, 2, 0, 0, .null), []),
  (18, (.aload_n 0, 19, 0, 0, 0, .null), []),
  (19, (.iconst 0, 20, 0, 0, 0, .int 0), []),
  (20, (.aload_n 2, 21, 2, 0, 0, .null), []),
  (21, (.iconst 0, 22, 0, 0, 0, .int 0), []),
  (22, (.aload_n 0, 23, 0, 0, 0, .null), []),
  (23, (.arraylength, 24, 0, 0, 0, .null), []),
  (24, (.iload_n 1, 25, 1, 0, 0, .null), []),
  (25, (.invokestatic 304, 28, 0, 0, 7, .null), [684, 345, 82]),
  (28, (.invokestatic 150, 31, 0, 0, 9, .null), [685, 343, 342, 81]),
  (31, (.aload_n 2, 32, 2, 0, 0, .null), []),
  (32, (.areturn, 33, 0, 0, 0, .null), [])]
def rx_tb_171 : List (Nat × rx_I × List Nat) := rx_tb_171_0
def rx_tb_172_0 : List (Nat × rx_I × List Nat) := [(0, (.new 7, 3, 7, 11, 0, .null), [85, 86, 72]),
  (3, (.dup, 4, 0, 0, 0, .null), []),
  (4, (.invokespecial 9, 7, 68, 1, 0, .null), [87, 88, 72]),
  (7, (.astore_n 1, 8, 1, 0, 0, .null), []),
  (8, (.new 10, 11, 8, 16, 0, .null), [758, 759, 80]),
  (11, (.dup, 12, 0, 0, 0, .null), []),
  (12, (.invokespecial 12, 15, 104, 1, 0, .null), [760, 761, 80]),
  (15, (.astore_n 2, 16, 2, 0, 0, .null), []),
  (16, (.iconst 0, 17, 0, 0, 0, .int 0), []),
  (17, (.istore_n 3, 18, 3, 0, 0, .null), []),
  (18, (.iload_n 3, 19, 3, 0, 0, .null), []),
  (19, (.aload_n 0, 20, 0, 0, 0, .null), []),
  (20, (.arraylength, 21, 0, 0, 0, .null), []),
  (21, (.iconst 5, 22, 0, 0, 0, .int 5), []),
  (22, (.isub, 23, 0, 0, 0, .null), []),
  (23, (.if_icmp .gt 812, 26, 835, 0, 0, .null), []),
  (26, (.aload_n 0, 27, 0, 0, 0, .null), []),
  (27, (.iload_n 3, 28, 3, 0, 0, .null), []),
  (28, (.iaload, 29, 0, 0, 0, .null), []),
  (29, (.bipush 31, 31, 0, 0, 0, .int 31), []),
  (31, (.iand, 32, 0, 0, 0, .null), []),
  (32, (.tableswitch 797 0 19 #[96, 129, 182, 235, 268, 311, 364, 387, 420, 463, 516, 539, 552, 575, 608, 651, 704, 747, 760, 783], 128, 0, 0, 0, .null), []),
  (128, (.aload_n 1, 129, 1, 0, 0, .null), []),
  (129, (.aload_n 0, 130, 0, 0, 0, .null), []),
  (130, (.iload_n 3, 131, 3, 0, 0, .null), []),
  (131, (.iconst 1, 132, 0, 0, 0, .int 1), []),
  (132, (.iadd, 133, 0, 0, 0, .null), []),
  (133, (.iaload, 134, 0, 0, 0, .null), []),
  (134, (.aload_n 0, 135, 0, 0, 0, .null), []),
  (135, (.iload_n 3, 136, 3, 0, 0, .null), []),
  (136, (.iconst 2, 137, 0, 0, 0, .int 2), []),
  (137, (.iadd, 138, 0, 0, 0, .null), []),
  (138, (.iaload, 139, 0, 0, 0, .null), []),
  (139, (.invokevirtual 13, 142, 69, 3, 0, .null), [318, 319, 320, 72]),
  (142, (.aload_n 2, 143, 2, 0, 0, .null), []),
  (143, (.aload_n 0, 144, 0, 0, 0, .null), []),
  (144, (.iload_n 3, 145, 3, 0, 0, .null), []),
  (145, (.iconst 1, 146, 0, 0, 0, .int 1), []),
  (146, (.iadd, 147, 0, 0, 0, .null), []),
  (147, (.iaload, 148, 0, 0, 0, .null), []),
  (148, (.aload_n 0, 149, 0, 0, 0, .null), []),
  (149, (.iload_n 3, 150, 3, 0, 0, .null), []),
  (150, (.iconst 2, 151, 0, 0, 0, .int 2), []),
  (151, (.iadd, 152, 0, 0, 0, .null), []),
  (152, (.iaload, 153, 0, 0, 0, .null), []),
  (153, (.invokevirtual 17, 156, 117, 3, 0, .null), [822, 823, 824, 80]),
  (156, (.if_icmp .eq 673, 159, 829, 0, 0, .null), []),
  (159, (.iconst 0, 160, 0, 0, 0, .int 0), []),
  (160, (.ireturn, 161, 0, 0, 1, .null), []),
  (161, (.aload_n 1, 162, 1, 0, 0, .null), [])]
def rx_tb_172_1 : List (Nat × rx_I × List Nat) := [(162, (.aload_n 0, 163, 0, 0, 0, .null), []),
  (163, (.iload_n 3, 164, 3, 0, 0, .null), []),
  (164, (.iconst 1, 165, 0, 0, 0, .int 1), []),
  (165, (.iadd, 166, 0, 0, 0, .null), []),
  (166, (.iaload, 167, 0, 0, 0, .null), []),
  (167, (.aload_n 0, 168, 0, 0, 0, .null), []),
  (168, (.iload_n 3, 169, 3, 0, 0, .null), []),
  (169, (.iconst 2, 170, 0, 0, 0, .int 2), []),
  (170, (.iadd, 171, 0, 0, 0, .null), []),
  (171, (.iaload, 172, 0, 0, 0, .null), []),
  (172, (.aload_n 0, 173, 0, 0, 0, .null), []),
  (173, (.iload_n 3, 174, 3, 0, 0, .null), []),
  (174, (.iconst 3, 175, 0, 0, 0, .int 3), []),
  (175, (.iadd, 176, 0, 0, 0, .null), []),
  (176, (.iaload, 177, 0, 0, 0, .null), []),
  (177, (.aload_n 0, 178, 0, 0, 0, .null), []),
  (178, (.iload_n 3, 179, 3, 0, 0, .null), []),
  (179, (.iconst 4, 180, 0, 0, 0, .int 4), []),
  (180, (.iadd, 181, 0, 0, 0, .null), []),
  (181, (.iaload, 182, 0, 0, 0, .null), []),
  (182, (.invokevirtual 18, 185, 70, 5, 0, .null), [354, 355, 356, 72]),
  (185, (.aload_n 2, 186, 2, 0, 0, .null), []),
  (186, (.aload_n 0, 187, 0, 0, 0, .null), []),
  (187, (.iload_n 3, 188, 3, 0, 0, .null), []),
  (188, (.iconst 1, 189, 0, 0, 0, .int 1), []),
  (189, (.iadd, 190, 0, 0, 0, .null), []),
  (190, (.iaload, 191, 0, 0, 0, .null), []),
  (191, (.aload_n 0, 192, 0, 0, 0, .null), []),
  (192, (.iload_n 3, 193, 3, 0, 0, .null), []),
  (193, (.iconst 2, 194, 0, 0, 0, .int 2), []),
  (194, (.iadd, 195, 0, 0, 0, .null), []),
  (195, (.iaload, 196, 0, 0, 0, .null), []),
  (196, (.aload_n 0, 197, 0, 0, 0, .null), []),
  (197, (.iload_n 3, 198, 3, 0, 0, .null), []),
  (198, (.iconst 3, 199, 0, 0, 0, .int 3), []),
  (199, (.iadd, 200, 0, 0, 0, .null), []),
  (200, (.iaload, 201, 0, 0, 0, .null), []),
  (201, (.aload_n 0, 202, 0, 0, 0, .null), []),
  (202, (.iload_n 3, 203, 3, 0, 0, .null), []),
  (203, (.iconst 4, 204, 0, 0, 0, .int 4), []),
  (204, (.iadd, 205, 0, 0, 0, .null), []),
  (205, (.iaload, 206, 0, 0, 0, .null), []),
  (206, (.invokevirtual 22, 209, 119, 5, 0, .null), [840, 841, 842, 80]),
  (209, (.if_icmp .eq 620, 212, 829, 0, 0, .null), []),
  (212, (.iconst 0, 213, 0, 0, 0, .int 0), []),
  (213, (.ireturn, 214, 0, 0, 1, .null), []),
  (214, (.aload_n 1, 215, 1, 0, 0, .null), []),
  (215, (.aload_n 0, 216, 0, 0, 0, .null), []),
  (216, (.iload_n 3, 217, 3, 0, 0, .null), []),
  (217, (.iconst 1, 218, 0, 0, 0, .int 1), [])]
def rx_tb_172_2 : List (Nat × rx_I × List Nat) := [(218, (.iadd, 219, 0, 0, 0, .null), []),
  (219, (.iaload, 220, 0, 0, 0, .null), []),
  (220, (.aload_n 0, 221, 0, 0, 0, .null), []),
  (221, (.iload_n 3, 222, 3, 0, 0, .null), []),
  (222, (.iconst 2, 223, 0, 0, 0, .int 2), []),
  (223, (.iadd, 224, 0, 0, 0, .null), []),
  (224, (.iaload, 225, 0, 0, 0, .null), []),
  (225, (.aload_n 0, 226, 0, 0, 0, .null), []),
  (226, (.iload_n 3, 227, 3, 0, 0, .null), []),
  (227, (.iconst 3, 228, 0, 0, 0, .int 3), []),
  (228, (.iadd, 229, 0, 0, 0, .null), []),
  (229, (.iaload, 230, 0, 0, 0, .null), []),
  (230, (.aload_n 0, 231, 0, 0, 0, .null), []),
  (231, (.iload_n 3, 232, 3, 0, 0, .null), []),
  (232, (.iconst 4, 233, 0, 0, 0, .int 4), []),
  (233, (.iadd, 234, 0, 0, 0, .null), []),
  (234, (.iaload, 235, 0, 0, 0, .null), []),
  (235, (.invokevirtual 23, 238, 71, 5, 0, .null), [394, 395, 396, 72]),
  (238, (.aload_n 2, 239, 2, 0, 0, .null), []),
  (239, (.aload_n 0, 240, 0, 0, 0, .null), []),
  (240, (.iload_n 3, 241, 3, 0, 0, .null), []),
  (241, (.iconst 1, 242, 0, 0, 0, .int 1), []),
  (242, (.iadd, 243, 0, 0, 0, .null), []),
  (243, (.iaload, 244, 0, 0, 0, .null), []),
  (244, (.aload_n 0, 245, 0, 0, 0, .null), []),
  (245, (.iload_n 3, 246, 3, 0, 0, .null), []),
  (246, (.iconst 2, 247, 0, 0, 0, .int 2), []),
  (247, (.iadd, 248, 0, 0, 0, .null), []),
  (248, (.iaload, 249, 0, 0, 0, .null), []),
  (249, (.aload_n 0, 250, 0, 0, 0, .null), []),
  (250, (.iload_n 3, 251, 3, 0, 0, .null), []),
  (251, (.iconst 3, 252, 0, 0, 0, .int 3), []),
  (252, (.iadd, 253, 0, 0, 0, .null), []),
  (253, (.iaload, 254, 0, 0, 0, .null), []),
  (254, (.aload_n 0, 255, 0, 0, 0, .null), []),
  (255, (.iload_n 3, 256, 3, 0, 0, .null), []),
  (256, (.iconst 4, 257, 0, 0, 0, .int 4), []),
  (257, (.iadd, 258, 0, 0, 0, .null), []),
  (258, (.iaload, 259, 0, 0, 0, .null), []),
  (259, (.invokevirtual 26, 262, 120, 5, 0, .null), [869, 870, 871, 80]),
  (262, (.if_icmp .eq 567, 265, 829, 0, 0, .null), []),
  (265, (.iconst 0, 266, 0, 0, 0, .int 0), []),
  (266, (.ireturn, 267, 0, 0, 1, .null), []),
  (267, (.aload_n 1, 268, 1, 0, 0, .null), []),
  (268, (.aload_n 0, 269, 0, 0, 0, .null), []),
  (269, (.iload_n 3, 270, 3, 0, 0, .null), []),
  (270, (.iconst 1, 271, 0, 0, 0, .int 1), []),
  (271, (.iadd, 272, 0, 0, 0, .null), []),
  (272, (.iaload, 273, 0, 0, 0, .null), []),
  (273, (.aload_n 0, 274, 0, 0, 0, .null), [])]
def rx_tb_172_3 : List (Nat × rx_I × List Nat) := [(274, (.iload_n 3, 275, 3, 0, 0, .null), []),
  (275, (.iconst 2, 276, 0, 0, 0, .int 2), []),
  (276, (.iadd, 277, 0, 0, 0, .null), []),
  (277, (.iaload, 278, 0, 0, 0, .null), []),
  (278, (.invokevirtual 27, 281, 72, 3, 0, .null), [402, 403, 404, 72]),
  (281, (.aload_n 2, 282, 2, 0, 0, .null), []),
  (282, (.aload_n 0, 283, 0, 0, 0, .null), []),
  (283, (.iload_n 3, 284, 3, 0, 0, .null), []),
  (284, (.iconst 1, 285, 0, 0, 0, .int 1), []),
  (285, (.iadd, 286, 0, 0, 0, .null), []),
  (286, (.iaload, 287, 0, 0, 0, .null), []),
  (287, (.aload_n 0, 288, 0, 0, 0, .null), []),
  (288, (.iload_n 3, 289, 3, 0, 0, .null), []),
  (289, (.iconst 2, 290, 0, 0, 0, .int 2), []),
  (290, (.iadd, 291, 0, 0, 0, .null), []),
  (291, (.iaload, 292, 0, 0, 0, .null), []),
  (292, (.invokevirtual 30, 295, 122, 3, 0, .null), [873, 874, 875, 80]),
  (295, (.if_icmp .eq 534, 298, 829, 0, 0, .null), []),
  (298, (.iconst 0, 299, 0, 0, 0, .int 0), []),
  (299, (.ireturn, 300, 0, 0, 1, .null), []),
  (300, (.aload_n 1, 301, 1, 0, 0, .null), []),
  (301, (.aload_n 0, 302, 0, 0, 0, .null), []),
  (302, (.iload_n 3, 303, 3, 0, 0, .null), []),
  (303, (.iconst 1, 304, 0, 0, 0, .int 1), []),
  (304, (.iadd, 305, 0, 0, 0, .null), []),
  (305, (.iaload, 306, 0, 0, 0, .null), []),
  (306, (.aload_n 0, 307, 0, 0, 0, .null), []),
  (307, (.iload_n 3, 308, 3, 0, 0, .null), []),
  (308, (.iconst 2, 309, 0, 0, 0, .int 2), []),
  (309, (.iadd, 310, 0, 0, 0, .null), []),
  (310, (.iaload, 311, 0, 0, 0, .null), []),
  (311, (.aload_n 0, 312, 0, 0, 0, .null), []),
  (312, (.iload_n 3, 313, 3, 0, 0, .null), []),
  (313, (.iconst 3, 314, 0, 0, 0, .int 3), []),
  (314, (.iadd, 315, 0, 0, 0, .null), []),
  (315, (.iaload, 316, 0, 0, 0, .null), []),
  (316, (.invokevirtual 31, 319, 73, 4, 0, .null), [414, 415, 416, 72]),
  (319, (.aload_n 2, 320, 2, 0, 0, .null), []),
  (320, (.aload_n 0, 321, 0, 0, 0, .null), []),
  (321, (.iload_n 3, 322, 3, 0, 0, .null), []),
  (322, (.iconst 1, 323, 0, 0, 0, .int 1), []),
  (323, (.iadd, 324, 0, 0, 0, .null), []),
  (324, (.iaload, 325, 0, 0, 0, .null), []),
  (325, (.aload_n 0, 326, 0, 0, 0, .null), []),
  (326, (.iload_n 3, 327, 3, 0, 0, .null), []),
  (327, (.iconst 2, 328, 0, 0, 0, .int 2), []),
  (328, (.iadd, 329, 0, 0, 0, .null), []),
  (329, (.iaload, 330, 0, 0, 0, .null), []),
  (330, (.aload_n 0, 331, 0, 0, 0, .null), []),
  (331, (.iload_n 3, 332, 3, 0, 0, .null), [])]
def rx_tb_172_4 : List (Nat × rx_I × List Nat) := [(332, (.iconst 3, 333, 0, 0, 0, .int 3), []),
  (333, (.iadd, 334, 0, 0, 0, .null), []),
  (334, (.iaload, 335, 0, 0, 0, .null), []),
  (335, (.invokevirtual 35, 338, 123, 4, 0, .null), [881, 882, 883, 80]),
  (338, (.if_icmp .eq 491, 341, 829, 0, 0, .null), []),
  (341, (.iconst 0, 342, 0, 0, 0, .int 0), []),
  (342, (.ireturn, 343, 0, 0, 1, .null), []),
  (343, (.aload_n 1, 344, 1, 0, 0, .null), []),
  (344, (.aload_n 0, 345, 0, 0, 0, .null), []),
  (345, (.iload_n 3, 346, 3, 0, 0, .null), []),
  (346, (.iconst 1, 347, 0, 0, 0, .int 1), []),
  (347, (.iadd, 348, 0, 0, 0, .null), []),
  (348, (.iaload, 349, 0, 0, 0, .null), []),
  (349, (.aload_n 0, 350, 0, 0, 0, .null), []),
  (350, (.iload_n 3, 351, 3, 0, 0, .null), []),
  (351, (.iconst 2, 352, 0, 0, 0, .int 2), []),
  (352, (.iadd, 353, 0, 0, 0, .null), []),
  (353, (.iaload, 354, 0, 0, 0, .null), []),
  (354, (.aload_n 0, 355, 0, 0, 0, .null), []),
  (355, (.iload_n 3, 356, 3, 0, 0, .null), []),
  (356, (.iconst 3, 357, 0, 0, 0, .int 3), []),
  (357, (.iadd, 358, 0, 0, 0, .null), []),
  (358, (.iaload, 359, 0, 0, 0, .null), []),
  (359, (.aload_n 0, 360, 0, 0, 0, .null), []),
  (360, (.iload_n 3, 361, 3, 0, 0, .null), []),
  (361, (.iconst 4, 362, 0, 0, 0, .int 4), []),
  (362, (.iadd, 363, 0, 0, 0, .null), []),
  (363, (.iaload, 364, 0, 0, 0, .null), []),
  (364, (.invokevirtual 36, 367, 74, 5, 0, .null), [421, 422, 423, 72]),
  (367, (.aload_n 2, 368, 2, 0, 0, .null), []),
  (368, (.aload_n 0, 369, 0, 0, 0, .null), []),
  (369, (.iload_n 3, 370, 3, 0, 0, .null), []),
  (370, (.iconst 1, 371, 0, 0, 0, .int 1), []),
  (371, (.iadd, 372, 0, 0, 0, .null), []),
  (372, (.iaload, 373, 0, 0, 0, .null), []),
  (373, (.aload_n 0, 374, 0, 0, 0, .null), []),
  (374, (.iload_n 3, 375, 3, 0, 0, .null), []),
  (375, (.iconst 2, 376, 0, 0, 0, .int 2), []),
  (376, (.iadd, 377, 0, 0, 0, .null), []),
  (377, (.iaload, 378, 0, 0, 0, .null), []),
  (378, (.aload_n 0, 379, 0, 0, 0, .null), []),
  (379, (.iload_n 3, 380, 3, 0, 0, .null), []),
  (380, (.iconst 3, 381, 0, 0, 0, .int 3), []),
  (381, (.iadd, 382, 0, 0, 0, .null), []),
  (382, (.iaload, 383, 0, 0, 0, .null), []),
  (383, (.aload_n 0, 384, 0, 0, 0, .null), []),
  (384, (.iload_n 3, 385, 3, 0, 0, .null), []),
  (385, (.iconst 4, 386, 0, 0, 0, .int 4), []),
  (386, (.iadd, 387, 0, 0, 0, .null), []),
  (387, (.iaload, 388, 0, 0, 0, .null), [])]
def rx_tb_172_5 : List (Nat × rx_I × List Nat) := [(388, (.invokevirtual 39, 391, 128, 5, 0, .null), [885, 886, 887, 80]),
  (391, (.if_icmp .eq 438, 394, 829, 0, 0, .null), []),
  (394, (.iconst 0, 395, 0, 0, 0, .int 0), []),
  (395, (.ireturn, 396, 0, 0, 1, .null), []),
  (396, (.aload_n 1, 397, 1, 0, 0, .null), []),
  (397, (.aload_n 0, 398, 0, 0, 0, .null), []),
  (398, (.iload_n 3, 399, 3, 0, 0, .null), []),
  (399, (.iconst 1, 400, 0, 0, 0, .int 1), []),
  (400, (.iadd, 401, 0, 0, 0, .null), []),
  (401, (.iaload, 402, 0, 0, 0, .null), []),
  (402, (.invokevirtual 40, 405, 75, 2, 0, .null), [452, 453, 454, 72]),
  (405, (.aload_n 2, 406, 2, 0, 0, .null), []),
  (406, (.aload_n 0, 407, 0, 0, 0, .null), []),
  (407, (.iload_n 3, 408, 3, 0, 0, .null), []),
  (408, (.iconst 1, 409, 0, 0, 0, .int 1), []),
  (409, (.iadd, 410, 0, 0, 0, .null), []),
  (410, (.iaload, 411, 0, 0, 0, .null), []),
  (411, (.invokevirtual 44, 414, 134, 2, 0, .null), [905, 906, 907, 80]),
  (414, (.if_icmp .eq 415, 417, 829, 0, 0, .null), []),
  (417, (.iconst 0, 418, 0, 0, 0, .int 0), []),
  (418, (.ireturn, 419, 0, 0, 1, .null), []),
  (419, (.aload_n 1, 420, 1, 0, 0, .null), []),
  (420, (.aload_n 0, 421, 0, 0, 0, .null), []),
  (421, (.iload_n 3, 422, 3, 0, 0, .null), []),
  (422, (.iconst 1, 423, 0, 0, 0, .int 1), []),
  (423, (.iadd, 424, 0, 0, 0, .null), []),
  (424, (.iaload, 425, 0, 0, 0, .null), []),
  (425, (.aload_n 0, 426, 0, 0, 0, .null), []),
  (426, (.iload_n 3, 427, 3, 0, 0, .null), []),
  (427, (.iconst 2, 428, 0, 0, 0, .int 2), []),
  (428, (.iadd, 429, 0, 0, 0, .null), []),
  (429, (.iaload, 430, 0, 0, 0, .null), []),
  (430, (.invokevirtual 45, 433, 76, 3, 0, .null), [505, 506, 507, 72]),
  (433, (.aload_n 2, 434, 2, 0, 0, .null), []),
  (434, (.aload_n 0, 435, 0, 0, 0, .null), []),
  (435, (.iload_n 3, 436, 3, 0, 0, .null), []),
  (436, (.iconst 1, 437, 0, 0, 0, .int 1), []),
  (437, (.iadd, 438, 0, 0, 0, .null), []),
  (438, (.iaload, 439, 0, 0, 0, .null), []),
  (439, (.aload_n 0, 440, 0, 0, 0, .null), []),
  (440, (.iload_n 3, 441, 3, 0, 0, .null), []),
  (441, (.iconst 2, 442, 0, 0, 0, .int 2), []),
  (442, (.iadd, 443, 0, 0, 0, .null), []),
  (443, (.iaload, 444, 0, 0, 0, .null), []),
  (444, (.invokevirtual 48, 447, 143, 3, 0, .null), [936, 937, 938, 80]),
  (447, (.if_icmp .eq 382, 450, 829, 0, 0, .null), []),
  (450, (.iconst 0, 451, 0, 0, 0, .int 0), []),
  (451, (.ireturn, 452, 0, 0, 1, .null), []),
  (452, (.aload_n 1, 453, 1, 0, 0, .null), []),
  (453, (.aload_n 0, 454, 0, 0, 0, .null), [])]
def rx_tb_172_6 : List (Nat × rx_I × List Nat) := [(454, (.iload_n 3, 455, 3, 0, 0, .null), []),
  (455, (.iconst 1, 456, 0, 0, 0, .int 1), []),
  (456, (.iadd, 457, 0, 0, 0, .null), []),
  (457, (.iaload, 458, 0, 0, 0, .null), []),
  (458, (.aload_n 0, 459, 0, 0, 0, .null), []),
  (459, (.iload_n 3, 460, 3, 0, 0, .null), []),
  (460, (.iconst 2, 461, 0, 0, 0, .int 2), []),
  (461, (.iadd, 462, 0, 0, 0, .null), []),
  (462, (.iaload, 463, 0, 0, 0, .null), []),
  (463, (.aload_n 0, 464, 0, 0, 0, .null), []),
  (464, (.iload_n 3, 465, 3, 0, 0, .null), []),
  (465, (.iconst 3, 466, 0, 0, 0, .int 3), []),
  (466, (.iadd, 467, 0, 0, 0, .null), []),
  (467, (.iaload, 468, 0, 0, 0, .null), []),
  (468, (.invokevirtual 49, 471, 77, 4, 0, .null), [559, 560, 561, 72]),
  (471, (.aload_n 2, 472, 2, 0, 0, .null), []),
  (472, (.aload_n 0, 473, 0, 0, 0, .null), []),
  (473, (.iload_n 3, 474, 3, 0, 0, .null), []),
  (474, (.iconst 1, 475, 0, 0, 0, .int 1), []),
  (475, (.iadd, 476, 0, 0, 0, .null), []),
  (476, (.iaload, 477, 0, 0, 0, .null), []),
  (477, (.aload_n 0, 478, 0, 0, 0, .null), []),
  (478, (.iload_n 3, 479, 3, 0, 0, .null), []),
  (479, (.iconst 2, 480, 0, 0, 0, .int 2), []),
  (480, (.iadd, 481, 0, 0, 0, .null), []),
  (481, (.iaload, 482, 0, 0, 0, .null), []),
  (482, (.aload_n 0, 483, 0, 0, 0, .null), []),
  (483, (.iload_n 3, 484, 3, 0, 0, .null), []),
  (484, (.iconst 3, 485, 0, 0, 0, .int 3), []),
  (485, (.iadd, 486, 0, 0, 0, .null), []),
  (486, (.iaload, 487, 0, 0, 0, .null), []),
  (487, (.invokevirtual 52, 490, 144, 4, 0, .null), [956, 957, 958, 80]),
  (490, (.if_icmp .eq 339, 493, 829, 0, 0, .null), []),
  (493, (.iconst 0, 494, 0, 0, 0, .int 0), []),
  (494, (.ireturn, 495, 0, 0, 1, .null), []),
  (495, (.aload_n 1, 496, 1, 0, 0, .null), []),
  (496, (.aload_n 0, 497, 0, 0, 0, .null), []),
  (497, (.iload_n 3, 498, 3, 0, 0, .null), []),
  (498, (.iconst 1, 499, 0, 0, 0, .int 1), []),
  (499, (.iadd, 500, 0, 0, 0, .null), []),
  (500, (.iaload, 501, 0, 0, 0, .null), []),
  (501, (.aload_n 0, 502, 0, 0, 0, .null), []),
  (502, (.iload_n 3, 503, 3, 0, 0, .null), []),
  (503, (.iconst 2, 504, 0, 0, 0, .int 2), []),
  (504, (.iadd, 505, 0, 0, 0, .null), []),
  (505, (.iaload, 506, 0, 0, 0, .null), []),
  (506, (.aload_n 0, 507, 0, 0, 0, .null), []),
  (507, (.iload_n 3, 508, 3, 0, 0, .null), []),
  (508, (.iconst 3, 509, 0, 0, 0, .int 3), []),
  (509, (.iadd, 510, 0, 0, 0, .null), [])]
def rx_tb_172_7 : List (Nat × rx_I × List Nat) := [(510, (.iaload, 511, 0, 0, 0, .null), []),
  (511, (.aload_n 0, 512, 0, 0, 0, .null), []),
  (512, (.iload_n 3, 513, 3, 0, 0, .null), []),
  (513, (.iconst 4, 514, 0, 0, 0, .int 4), []),
  (514, (.iadd, 515, 0, 0, 0, .null), []),
  (515, (.iaload, 516, 0, 0, 0, .null), []),
  (516, (.invokevirtual 53, 519, 78, 5, 0, .null), [564, 565, 566, 72]),
  (519, (.aload_n 2, 520, 2, 0, 0, .null), []),
  (520, (.aload_n 0, 521, 0, 0, 0, .null), []),
  (521, (.iload_n 3, 522, 3, 0, 0, .null), []),
  (522, (.iconst 1, 523, 0, 0, 0, .int 1), []),
  (523, (.iadd, 524, 0, 0, 0, .null), []),
  (524, (.iaload, 525, 0, 0, 0, .null), []),
  (525, (.aload_n 0, 526, 0, 0, 0, .null), []),
  (526, (.iload_n 3, 527, 3, 0, 0, .null), []),
  (527, (.iconst 2, 528, 0, 0, 0, .int 2), []),
  (528, (.iadd, 529, 0, 0, 0, .null), []),
  (529, (.iaload, 530, 0, 0, 0, .null), []),
  (530, (.aload_n 0, 531, 0, 0, 0, .null), []),
  (531, (.iload_n 3, 532, 3, 0, 0, .null), []),
  (532, (.iconst 3, 533, 0, 0, 0, .int 3), []),
  (533, (.iadd, 534, 0, 0, 0, .null), []),
  (534, (.iaload, 535, 0, 0, 0, .null), []),
  (535, (.aload_n 0, 536, 0, 0, 0, .null), []),
  (536, (.iload_n 3, 537, 3, 0, 0, .null), []),
  (537, (.iconst 4, 538, 0, 0, 0, .int 4), []),
  (538, (.iadd, 539, 0, 0, 0, .null), []),
  (539, (.iaload, 540, 0, 0, 0, .null), []),
  (540, (.invokevirtual 56, 543, 136, 5, 0, .null), [932, 933, 934, 80]),
  (543, (.if_icmp .eq 286, 546, 829, 0, 0, .null), []),
  (546, (.iconst 0, 547, 0, 0, 0, .int 0), []),
  (547, (.ireturn, 548, 0, 0, 1, .null), []),
  (548, (.aload_n 1, 549, 1, 0, 0, .null), []),
  (549, (.aload_n 0, 550, 0, 0, 0, .null), []),
  (550, (.iload_n 3, 551, 3, 0, 0, .null), []),
  (551, (.iconst 1, 552, 0, 0, 0, .int 1), []),
  (552, (.iadd, 553, 0, 0, 0, .null), []),
  (553, (.iaload, 554, 0, 0, 0, .null), []),
  (554, (.invokevirtual 57, 557, 79, 2, 0, .null), [576, 577, 578, 72]),
  (557, (.aload_n 2, 558, 2, 0, 0, .null), []),
  (558, (.aload_n 0, 559, 0, 0, 0, .null), []),
  (559, (.iload_n 3, 560, 3, 0, 0, .null), []),
  (560, (.iconst 1, 561, 0, 0, 0, .int 1), []),
  (561, (.iadd, 562, 0, 0, 0, .null), []),
  (562, (.iaload, 563, 0, 0, 0, .null), []),
  (563, (.invokevirtual 60, 566, 145, 2, 0, .null), [960, 961, 962, 80]),
  (566, (.if_icmp .eq 263, 569, 829, 0, 0, .null), []),
  (569, (.iconst 0, 570, 0, 0, 0, .int 0), []),
  (570, (.ireturn, 571, 0, 0, 1, .null), []),
  (571, (.aload_n 1, 572, 1, 0, 0, .null), [])]
def rx_tb_172_8 : List (Nat × rx_I × List Nat) := [(572, (.invokevirtual 61, 575, 80, 1, 0, .null), [584, 585, 586, 72]),
  (575, (.aload_n 2, 576, 2, 0, 0, .null), []),
  (576, (.invokevirtual 65, 579, 146, 1, 0, .null), [964, 965, 966, 80]),
  (579, (.if_icmp .eq 250, 582, 829, 0, 0, .null), []),
  (582, (.iconst 0, 583, 0, 0, 0, .int 0), []),
  (583, (.ireturn, 584, 0, 0, 1, .null), []),
  (584, (.aload_n 1, 585, 1, 0, 0, .null), []),
  (585, (.aload_n 0, 586, 0, 0, 0, .null), []),
  (586, (.iload_n 3, 587, 3, 0, 0, .null), []),
  (587, (.iconst 1, 588, 0, 0, 0, .int 1), []),
  (588, (.iadd, 589, 0, 0, 0, .null), []),
  (589, (.iaload, 590, 0, 0, 0, .null), []),
  (590, (.invokevirtual 66, 593, 81, 2, 0, .null), [588, 589, 590, 72]),
  (593, (.aload_n 2, 594, 2, 0, 0, .null), []),
  (594, (.aload_n 0, 595, 0, 0, 0, .null), []),
  (595, (.iload_n 3, 596, 3, 0, 0, .null), []),
  (596, (.iconst 1, 597, 0, 0, 0, .int 1), []),
  (597, (.iadd, 598, 0, 0, 0, .null), []),
  (598, (.iaload, 599, 0, 0, 0, .null), []),
  (599, (.invokevirtual 69, 602, 151, 2, 0, .null), [968, 969, 970, 80]),
  (602, (.if_icmp .eq 227, 605, 829, 0, 0, .null), []),
  (605, (.iconst 0, 606, 0, 0, 0, .int 0), []),
  (606, (.ireturn, 607, 0, 0, 1, .null), []),
  (607, (.aload_n 1, 608, 1, 0, 0, .null), []),
  (608, (.aload_n 0, 609, 0, 0, 0, .null), []),
  (609, (.iload_n 3, 610, 3, 0, 0, .null), []),
  (610, (.iconst 1, 611, 0, 0, 0, .int 1), []),
  (611, (.iadd, 612, 0, 0, 0, .null), []),
  (612, (.iaload, 613, 0, 0, 0, .null), []),
  (613, (.aload_n 0, 614, 0, 0, 0, .null), []),
  (614, (.iload_n 3, 615, 3, 0, 0, .null), []),
  (615, (.iconst 2, 616, 0, 0, 0, .int 2), []),
  (616, (.iadd, 617, 0, 0, 0, .null), []),
  (617, (.iaload, 618, 0, 0, 0, .null), []),
  (618, (.invokevirtual 70, 621, 82, 3, 0, .null), [618, 619, 620, 72]),
  (621, (.aload_n 2, 622, 2, 0, 0, .null), []),
  (622, (.aload_n 0, 623, 0, 0, 0, .null), []),
  (623, (.iload_n 3, 624, 3, 0, 0, .null), []),
  (624, (.iconst 1, 625, 0, 0, 0, .int 1), []),
  (625, (.iadd, 626, 0, 0, 0, .null), []),
  (626, (.iaload, 627, 0, 0, 0, .null), []),
  (627, (.aload_n 0, 628, 0, 0, 0, .null), []),
  (628, (.iload_n 3, 629, 3, 0, 0, .null), []),
  (629, (.iconst 2, 630, 0, 0, 0, .int 2), []),
  (630, (.iadd, 631, 0, 0, 0, .null), []),
  (631, (.iaload, 632, 0, 0, 0, .null), []),
  (632, (.invokevirtual 73, 635, 155, 3, 0, .null), [988, 989, 990, 80]),
  (635, (.if_icmp .eq 194, 638, 829, 0, 0, .null), []),
  (638, (.iconst 0, 639, 0, 0, 0, .int 0), []),
  (639, (.ireturn, 640, 0, 0, 1, .null), [])]
def rx_tb_172_9 : List (Nat × rx_I × List Nat) := [(640, (.aload_n 1, 641, 1, 0, 0, .null), []),
  (641, (.aload_n 0, 642, 0, 0, 0, .null), []),
  (642, (.iload_n 3, 643, 3, 0, 0, .null), []),
  (643, (.iconst 1, 644, 0, 0, 0, .int 1), []),
  (644, (.iadd, 645, 0, 0, 0, .null), []),
  (645, (.iaload, 646, 0, 0, 0, .null), []),
  (646, (.aload_n 0, 647, 0, 0, 0, .null), []),
  (647, (.iload_n 3, 648, 3, 0, 0, .null), []),
  (648, (.iconst 2, 649, 0, 0, 0, .int 2), []),
  (649, (.iadd, 650, 0, 0, 0, .null), []),
  (650, (.iaload, 651, 0, 0, 0, .null), []),
  (651, (.aload_n 0, 652, 0, 0, 0, .null), []),
  (652, (.iload_n 3, 653, 3, 0, 0, .null), []),
  (653, (.iconst 3, 654, 0, 0, 0, .int 3), []),
  (654, (.iadd, 655, 0, 0, 0, .null), []),
  (655, (.iaload, 656, 0, 0, 0, .null), []),
  (656, (.invokevirtual 74, 659, 83, 4, 0, .null), [647, 648, 649, 72]),
  (659, (.aload_n 2, 660, 2, 0, 0, .null), []),
  (660, (.aload_n 0, 661, 0, 0, 0, .null), []),
  (661, (.iload_n 3, 662, 3, 0, 0, .null), []),
  (662, (.iconst 1, 663, 0, 0, 0, .int 1), []),
  (663, (.iadd, 664, 0, 0, 0, .null), []),
  (664, (.iaload, 665, 0, 0, 0, .null), []),
  (665, (.aload_n 0, 666, 0, 0, 0, .null), []),
  (666, (.iload_n 3, 667, 3, 0, 0, .null), []),
  (667, (.iconst 2, 668, 0, 0, 0, .int 2), []),
  (668, (.iadd, 669, 0, 0, 0, .null), []),
  (669, (.iaload, 670, 0, 0, 0, .null), []),
  (670, (.aload_n 0, 671, 0, 0, 0, .null), []),
  (671, (.iload_n 3, 672, 3, 0, 0, .null), []),
  (672, (.iconst 3, 673, 0, 0, 0, .int 3), []),
  (673, (.iadd, 674, 0, 0, 0, .null), []),
  (674, (.iaload, 675, 0, 0, 0, .null), []),
  (675, (.invokevirtual 77, 678, 160, 4, 0, .null), [1012, 1013, 1014, 80]),
  (678, (.if_icmp .eq 151, 681, 829, 0, 0, .null), []),
  (681, (.iconst 0, 682, 0, 0, 0, .int 0), []),
  (682, (.ireturn, 683, 0, 0, 1, .null), []),
  (683, (.aload_n 1, 684, 1, 0, 0, .null), []),
  (684, (.aload_n 0, 685, 0, 0, 0, .null), []),
  (685, (.iload_n 3, 686, 3, 0, 0, .null), []),
  (686, (.iconst 1, 687, 0, 0, 0, .int 1), []),
  (687, (.iadd, 688, 0, 0, 0, .null), []),
  (688, (.iaload, 689, 0, 0, 0, .null), []),
  (689, (.aload_n 0, 690, 0, 0, 0, .null), []),
  (690, (.iload_n 3, 691, 3, 0, 0, .null), []),
  (691, (.iconst 2, 692, 0, 0, 0, .int 2), []),
  (692, (.iadd, 693, 0, 0, 0, .null), []),
  (693, (.iaload, 694, 0, 0, 0, .null), []),
  (694, (.aload_n 0, 695, 0, 0, 0, .null), []),
  (695, (.iload_n 3, 696, 3, 0, 0, .null), [])]
def rx_tb_172_10 : List (Nat × rx_I × List Nat) := [(696, (.iconst 3, 697, 0, 0, 0, .int 3), []),
  (697, (.iadd, 698, 0, 0, 0, .null), []),
  (698, (.iaload, 699, 0, 0, 0, .null), []),
  (699, (.aload_n 0, 700, 0, 0, 0, .null), []),
  (700, (.iload_n 3, 701, 3, 0, 0, .null), []),
  (701, (.iconst 4, 702, 0, 0, 0, .int 4), []),
  (702, (.iadd, 703, 0, 0, 0, .null), []),
  (703, (.iaload, 704, 0, 0, 0, .null), []),
  (704, (.invokevirtual 78, 707, 84, 5, 0, .null), [712, 713, 714, 72]),
  (707, (.aload_n 2, 708, 2, 0, 0, .null), []),
  (708, (.aload_n 0, 709, 0, 0, 0, .null), []),
  (709, (.iload_n 3, 710, 3, 0, 0, .null), []),
  (710, (.iconst 1, 711, 0, 0, 0, .int 1), []),
  (711, (.iadd, 712, 0, 0, 0, .null), []),
  (712, (.iaload, 713, 0, 0, 0, .null), []),
  (713, (.aload_n 0, 714, 0, 0, 0, .null), []),
  (714, (.iload_n 3, 715, 3, 0, 0, .null), []),
  (715, (.iconst 2, 716, 0, 0, 0, .int 2), []),
  (716, (.iadd, 717, 0, 0, 0, .null), []),
  (717, (.iaload, 718, 0, 0, 0, .null), []),
  (718, (.aload_n 0, 719, 0, 0, 0, .null), []),
  (719, (.iload_n 3, 720, 3, 0, 0, .null), []),
  (720, (.iconst 3, 721, 0, 0, 0, .int 3), []),
  (721, (.iadd, 722, 0, 0, 0, .null), []),
  (722, (.iaload, 723, 0, 0, 0, .null), []),
  (723, (.aload_n 0, 724, 0, 0, 0, .null), []),
  (724, (.iload_n 3, 725, 3, 0, 0, .null), []),
  (725, (.iconst 4, 726, 0, 0, 0, .int 4), []),
  (726, (.iadd, 727, 0, 0, 0, .null), []),
  (727, (.iaload, 728, 0, 0, 0, .null), []),
  (728, (.invokevirtual 81, 731, 161, 5, 0, .null), [1031, 1032, 1033, 80]),
  (731, (.if_icmp .eq 98, 734, 829, 0, 0, .null), []),
  (734, (.iconst 0, 735, 0, 0, 0, .int 0), []),
  (735, (.ireturn, 736, 0, 0, 1, .null), []),
  (736, (.aload_n 1, 737, 1, 0, 0, .null), []),
  (737, (.aload_n 0, 738, 0, 0, 0, .null), []),
  (738, (.iload_n 3, 739, 3, 0, 0, .null), []),
  (739, (.iconst 1, 740, 0, 0, 0, .int 1), []),
  (740, (.iadd, 741, 0, 0, 0, .null), []),
  (741, (.iaload, 742, 0, 0, 0, .null), []),
  (742, (.aload_n 0, 743, 0, 0, 0, .null), []),
  (743, (.iload_n 3, 744, 3, 0, 0, .null), []),
  (744, (.iconst 2, 745, 0, 0, 0, .int 2), []),
  (745, (.iadd, 746, 0, 0, 0, .null), []),
  (746, (.iaload, 747, 0, 0, 0, .null), []),
  (747, (.aload_n 0, 748, 0, 0, 0, .null), []),
  (748, (.iload_n 3, 749, 3, 0, 0, .null), []),
  (749, (.iconst 3, 750, 0, 0, 0, .int 3), []),
  (750, (.iadd, 751, 0, 0, 0, .null), []),
  (751, (.iaload, 752, 0, 0, 0, .null), [])]
def rx_tb_172_11 : List (Nat × rx_I × List Nat) := [(752, (.invokevirtual 82, 755, 85, 4, 0, .null), [724, 725, 726, 72]),
  (755, (.aload_n 2, 756, 2, 0, 0, .null), []),
  (756, (.aload_n 0, 757, 0, 0, 0, .null), []),
  (757, (.iload_n 3, 758, 3, 0, 0, .null), []),
  (758, (.iconst 1, 759, 0, 0, 0, .int 1), []),
  (759, (.iadd, 760, 0, 0, 0, .null), []),
  (760, (.iaload, 761, 0, 0, 0, .null), []),
  (761, (.aload_n 0, 762, 0, 0, 0, .null), []),
  (762, (.iload_n 3, 763, 3, 0, 0, .null), []),
  (763, (.iconst 2, 764, 0, 0, 0, .int 2), []),
  (764, (.iadd, 765, 0, 0, 0, .null), []),
  (765, (.iaload, 766, 0, 0, 0, .null), []),
  (766, (.aload_n 0, 767, 0, 0, 0, .null), []),
  (767, (.iload_n 3, 768, 3, 0, 0, .null), []),
  (768, (.iconst 3, 769, 0, 0, 0, .int 3), []),
  (769, (.iadd, 770, 0, 0, 0, .null), []),
  (770, (.iaload, 771, 0, 0, 0, .null), []),
  (771, (.invokevirtual 85, 774, 162, 4, 0, .null), [1035, 1036, 1037, 80]),
  (774, (.if_icmp .eq 55, 777, 829, 0, 0, .null), []),
  (777, (.iconst 0, 778, 0, 0, 0, .int 0), []),
  (778, (.ireturn, 779, 0, 0, 1, .null), []),
  (779, (.aload_n 1, 780, 1, 0, 0, .null), []),
  (780, (.invokevirtual 86, 783, 86, 1, 0, .null), [728, 729, 730, 72]),
  (783, (.aload_n 2, 784, 2, 0, 0, .null), []),
  (784, (.invokevirtual 89, 787, 115, 1, 0, .null), [814, 815, 816, 80]),
  (787, (.if_icmp .eq 42, 790, 829, 0, 0, .null), []),
  (790, (.iconst 0, 791, 0, 0, 0, .int 0), []),
  (791, (.ireturn, 792, 0, 0, 1, .null), []),
  (792, (.aload_n 1, 793, 1, 0, 0, .null), []),
  (793, (.aload_n 0, 794, 0, 0, 0, .null), []),
  (794, (.iload_n 3, 795, 3, 0, 0, .null), []),
  (795, (.iconst 1, 796, 0, 0, 0, .int 1), []),
  (796, (.iadd, 797, 0, 0, 0, .null), []),
  (797, (.iaload, 798, 0, 0, 0, .null), []),
  (798, (.invokevirtual 90, 801, 87, 2, 0, .null), [736, 737, 738, 72]),
  (801, (.aload_n 2, 802, 2, 0, 0, .null), []),
  (802, (.aload_n 0, 803, 0, 0, 0, .null), []),
  (803, (.iload_n 3, 804, 3, 0, 0, .null), []),
  (804, (.iconst 1, 805, 0, 0, 0, .int 1), []),
  (805, (.iadd, 806, 0, 0, 0, .null), []),
  (806, (.iaload, 807, 0, 0, 0, .null), []),
  (807, (.invokevirtual 93, 810, 164, 2, 0, .null), [1039, 1040, 1041, 80]),
  (810, (.if_icmp .eq 19, 813, 829, 0, 0, .null), []),
  (813, (.iconst 0, 814, 0, 0, 0, .int 0), []),
  (814, (.ireturn, 815, 0, 0, 1, .null), []),
  (815, (.aload_n 1, 816, 1, 0, 0, .null), []),
  (816, (.invokevirtual 94, 819, 88, 1, 0, .null), [744, 745, 746, 72]),
  (819, (.aload_n 2, 820, 2, 0, 0, .null), []),
  (820, (.invokevirtual 98, 823, 167, 1, 0, .null), [1047, 1048, 1049, 80]),
  (823, (.lcmp, 824, 0, 0, 0, .null), [])]
def rx_tb_172_12 : List (Nat × rx_I × List Nat) := [(824, (.ifCond .eq 5, 827, 829, 0, 0, .null), []),
  (827, (.iconst 0, 828, 0, 0, 0, .int 0), []),
  (828, (.ireturn, 829, 0, 0, 1, .null), []),
  (829, (.iinc 3 5, 832, 3, 0, 0, .int 5), []),
  (832, (.goto (-814), 835, 18, 0, 0, .null), []),
  (835, (.iconst 1, 836, 0, 0, 0, .int 1), []),
  (836, (.ireturn, 837, 0, 0, 1, .null), [])]
def rx_tb_172 : List (Nat × rx_I × List Nat) := rx_tb_172_0 ++ rx_tb_172_1 ++ rx_tb_172_2 ++ rx_tb_172_3 ++ rx_tb_172_4 ++ rx_tb_172_5 ++ rx_tb_172_6 ++ rx_tb_172_7 ++ rx_tb_172_8 ++ rx_tb_172_9 ++ rx_tb_172_10 ++ rx_tb_172_11 ++ rx_tb_172_12
def rx_tbs : List (List (Nat × rx_I × List Nat)) := [rx_tb_0, rx_tb_1, rx_tb_2, rx_tb_3, rx_tb_4, rx_tb_5, rx_tb_6, rx_tb_7, rx_tb_8, rx_tb_9, rx_tb_10, rx_tb_11, rx_tb_12, rx_tb_13, rx_tb_14, rx_tb_15, rx_tb_16, rx_tb_17, rx_tb_18, rx_tb_19, rx_tb_20, rx_tb_21, rx_tb_22, rx_tb_23, rx_tb_24, rx_tb_25, rx_tb_26, rx_tb_27, rx_tb_28, rx_tb_29, rx_tb_30, rx_tb_31, rx_tb_32, rx_tb_33, rx_tb_34, rx_tb_35, rx_tb_36, rx_tb_37, rx_tb_38, rx_tb_39, rx_tb_40, rx_tb_41, rx_tb_42, rx_tb_43, rx_tb_44, rx_tb_45, rx_tb_46, rx_tb_47, rx_tb_48, rx_tb_49, rx_tb_50, rx_tb_51, rx_tb_52, rx_tb_53, rx_tb_54, rx_tb_55, rx_tb_56, rx_tb_57, rx_tb_58, rx_tb_59, rx_tb_60, rx_tb_61, rx_tb_62, rx_tb_63, rx_tb_64, rx_tb_65, rx_tb_66, rx_tb_67, rx_tb_68, rx_tb_69, rx_tb_70, rx_tb_71, rx_tb_72, rx_tb_73, rx_tb_74, rx_tb_75, rx_tb_76, rx_tb_77, rx_tb_78, rx_tb_79, rx_tb_80, rx_tb_81, rx_tb_82, rx_tb_83, rx_tb_84, rx_tb_85, rx_tb_86, rx_tb_87, rx_tb_88, rx_tb_89, rx_tb_90, rx_tb_91, rx_tb_92, rx_tb_93, rx_tb_94, rx_tb_95, rx_tb_96, rx_tb_97, rx_tb_98, rx_tb_99, rx_tb_100, rx_tb_101, rx_tb_102, rx_tb_103, rx_tb_104, rx_tb_105, rx_tb_106, rx_tb_107, rx_tb_108, rx_tb_109, rx_tb_110, rx_tb_111, rx_tb_112, rx_tb_113, rx_tb_114, rx_tb_115, rx_tb_116, rx_tb_117, rx_tb_118, rx_tb_119, rx_tb_120, rx_tb_121, rx_tb_122, rx_tb_123, rx_tb_124, rx_tb_125, rx_tb_126, rx_tb_127, rx_tb_128, rx_tb_129, rx_tb_130, rx_tb_131, rx_tb_132, rx_tb_133, rx_tb_134, rx_tb_135, rx_tb_136, rx_tb_137, rx_tb_138, rx_tb_139, rx_tb_140, rx_tb_141, rx_tb_142, rx_tb_143, rx_tb_144, rx_tb_145, rx_tb_146, rx_tb_147, rx_tb_148, rx_tb_149, rx_tb_150, rx_tb_151, rx_tb_152, rx_tb_153, rx_tb_154, rx_tb_155, rx_tb_156, rx_tb_157, rx_tb_158, rx_tb_159, rx_tb_160, rx_tb_161, rx_tb_162, rx_tb_163, rx_tb_164, rx_tb_165, rx_tb_166, rx_tb_167, rx_tb_168, rx_tb_169, rx_tb_170, rx_tb_171, rx_tb_172]
def rx_it (mi pc : Nat) : Option rx_I := ((rx_tbs.getD mi []).lookup pc).map (fun q => q.1)
def rx_need (mi : Nat) (i : rx_I) : List Cond := match i with
  | (.ldc x, _, _, _, _, .int v) => [.constant (rx_y mi).cls x v]
  | (.ldc_w x, _, _, _, _, .int v) => [.constant (rx_y mi).cls x v]
  | (.ldc2_w x, _, _, _, _, .long v) => [.constantLong (rx_y mi).cls x v]
  | (.getfield x, _, a, b, _, _) => [.fieldLink (rx_y mi).cls x (rx_T a b).1 (rx_T a b).2.1 (rx_T a b).2.2.1]
  | (.putfield x, _, a, b, _, _) => [.fieldLink (rx_y mi).cls x (rx_T a b).1 (rx_T a b).2.1 (rx_T a b).2.2.1]
  | (.new x, _, a, _, _, _) => [.classLink (rx_y mi).cls x (rx_Rn a), .instantiable (rx_Rn a) (rx_N a), .initialized (rx_Rn a)]
  | (.newarray t, _, _, _, _, _) => [.arrayClass (newarray.typeOf t)]
  | (.anewarray x, _, a, _, _, _) => [.classLink (rx_y mi).cls x (rx_Rn (rx_tc a))]
  | (.invokespecial x, _, a, _, k, _) => if k = 8 then [.methodLink (rx_y mi).cls x objectInit, .instanceMethod objectInit] else (if k = 0 then [.methodLink (rx_y mi).cls x (rx_y a)] else []) ++ [.instanceMethod (rx_y a), .initialized (rx_y a).cls]
  | (.invokestatic x, _, a, _, k, _) => if k = 9 then [.methodLink (rx_y mi).cls x arraycopyName, .native arraycopyName, .static arraycopyName, .initialized "java/lang/System"] else if k = 7 then [.methodLink (rx_y mi).cls x Lib.Math.min.name, .static Lib.Math.min.name, .initialized "java/lang/Math"] else (if k = 0 then [.methodLink (rx_y mi).cls x (rx_y a)] else []) ++ [.static (rx_y a), .initialized (rx_y a).cls]
  | (.invokevirtual x, _, a, _, _, _) => [.methodLink (rx_y mi).cls x (rx_y a), .instanceMethod (rx_y a), .selects (rx_y a).cls (rx_y a) (rx_y a), .initialized (rx_y a).cls]
  | _ => []
def rx_tk : FieldType → Nat
  | .int => 0
  | .boolean => 1
  | .object _ => 2
  | .array _ => 2
  | .long => 3
  | _ => 7
def rx_cok (mi a b n : Nat) : Bool := decide (a < 173) && decide (rx_fr a + 1 ≤ rx_fr mi) && decide (8 + (rx_ml a + 11) + rx_lo a ≤ rx_lo mi) && decide (b = rx_np a + n)
def rx_shape (mi pc : Nat) (i : rx_I) : Bool := match i with
  | (.iconst n, nx, _, _, _, v) => decide (nx = pc + 1) && decide (v = .int (Int32.ofInt n))
  | (.bipush n, nx, _, _, _, v) => decide (nx = pc + 2) && decide (v = .int (Int8.ofInt n).toInt32)
  | (.sipush n, nx, _, _, _, v) => decide (nx = pc + 3) && decide (v = .int (Int16.ofInt n).toInt32)
  | (.ldc _, nx, _, _, _, .int _) => decide (nx = pc + 2)
  | (.ldc_w _, nx, _, _, _, .int _) => decide (nx = pc + 3)
  | (.ldc2_w _, nx, _, _, _, .long _) => decide (nx = pc + 3)
  | (.iload_n j, nx, a, _, _, _) => decide (nx = pc + 1) && decide ((j : Nat) = a)
  | (.aload_n j, nx, a, _, _, _) => decide (nx = pc + 1) && decide ((j : Nat) = a)
  | (.lload_n j, nx, a, _, _, _) => decide (nx = pc + 1) && decide ((j : Nat) = a)
  | (.istore_n j, nx, a, _, _, _) => decide (nx = pc + 1) && decide ((j : Nat) = a)
  | (.astore_n j, nx, a, _, _, _) => decide (nx = pc + 1) && decide ((j : Nat) = a)
  | (.lstore_n j, nx, a, _, _, _) => decide (nx = pc + 1) && decide ((j : Nat) = a)
  | (.iload j, nx, a, _, _, _) => decide (nx = pc + 2) && decide (j = a)
  | (.aload j, nx, a, _, _, _) => decide (nx = pc + 2) && decide (j = a)
  | (.lload j, nx, a, _, _, _) => decide (nx = pc + 2) && decide (j = a)
  | (.istore j, nx, a, _, _, _) => decide (nx = pc + 2) && decide (j = a)
  | (.astore j, nx, a, _, _, _) => decide (nx = pc + 2) && decide (j = a)
  | (.lstore j, nx, a, _, _, _) => decide (nx = pc + 2) && decide (j = a)
  | (.iinc j n, nx, a, _, _, v) => decide (nx = pc + 3) && decide (j = a) && decide (v = .int (Int32.ofInt n))
  | (.goto off, _, a, _, _, _) => decide ((pc : Int) + off = (a : Int))
  | (.ifCond _ off, nx, a, _, _, _) => decide (nx = pc + 3) && decide ((pc : Int) + off = (a : Int))
  | (.if_icmp _ off, nx, a, _, _, _) => decide (nx = pc + 3) && decide ((pc : Int) + off = (a : Int))
  | (.tableswitch d lo hi offs, _, _, _, _, _) => decide (0 ≤ (pc : Int) + d) && offs.toList.all (fun o => decide (0 ≤ (pc : Int) + o)) && decide (hi - lo < (offs.size : Int)) && decide (0 ≤ lo)
  | (.getfield _, nx, a, b, _, _) => decide (nx = pc + 3) && decide (a < 9) && decide (b < rx_N a)
  | (.putfield _, nx, a, b, k, _) => decide (nx = pc + 3) && decide (a < 9) && decide (b < rx_N a) && decide (rx_tk (rx_ty a b) = k) && (decide ((rx_T a b).2.2.2 = false) || (decide ((rx_y mi).name = "<init>") && decide ((rx_T a b).1 = (rx_y mi).cls)))
  | (.new _, nx, a, b, _, _) => decide (nx = pc + 3) && decide (a < 9) && decide (b = rx_N a)
  | (.newarray t, nx, a, _, _, _) => decide (nx = pc + 2) && (decide (t = .int ∧ a = 0) || decide (t = .byte ∧ a = 1))
  | (.anewarray _, nx, a, _, _, _) => decide (nx = pc + 3) && decide (a = 2 ∨ a = 3)
  | (.invokespecial x, nx, a, b, k, _) => decide (nx = pc + 3) && (if k = 8 then decide (1 ≤ rx_fr mi) && decide (20 ≤ rx_lo mi) else rx_cok mi a b 1 && decide ((rx_y a).name = "<init>") && decide (rx_rt a = none) && (decide (k = 0) || decide (Cond.methodLinkNest (rx_y mi).cls x (rx_y a) "BesideWalk" ∈ rx_nest)))
  | (.invokestatic x, nx, a, b, k, _) => decide (nx = pc + 3) && (if k = 9 then decide (1 ≤ rx_fr mi) && decide (26 ≤ rx_lo mi) else if k = 7 then decide (1 ≤ rx_fr mi) && decide (21 ≤ rx_lo mi) else rx_cok mi a b 0 && (decide (k = 0) || decide (Cond.methodLinkNest (rx_y mi).cls x (rx_y a) "BesideWalk" ∈ rx_nest)))
  | (.invokevirtual _, nx, a, b, _, _) => decide (nx = pc + 3) && rx_cok mi a b 1 && decide (rx_cn a < 9) && decide ((rx_y a).cls = rx_Rn (rx_cn a))
  | (.ireturn, nx, _, _, k, _) => decide (nx = pc + 1) && (decide (k = 0 ∧ rx_rt mi = some .int) || decide (k = 1 ∧ rx_rt mi = some .boolean))
  | (.lreturn, nx, _, _, _, _) => decide (nx = pc + 1) && decide (rx_rt mi = some .long)
  | (.areturn, nx, _, _, _, _) => decide (nx = pc + 1) && (match rx_rt mi with
    | some (.object _) => true
    | some (.array _) => true
    | _ => false)
  | (.return_, nx, _, _, _, _) => decide (nx = pc + 1) && decide (rx_rt mi = none)
  | (_, nx, _, _, _, _) => decide (nx = pc + 1)
/-- what is checked of a row of a method's table -/
def rx_okI (mi : Nat) (q : Nat × rx_I × List Nat) : Bool :=
  decide (decode (rx_cc mi) q.1 = .ok (q.2.1.1, q.2.1.2.1 - q.1)) && rx_shape mi q.1 q.2.1 && decide (rx_need mi q.2.1 = q.2.2.filterMap (fun j => lw_tbl[j]?)) && (rx_need mi q.2.1).all goodWord
/-- what is checked of a method -/
def rx_okM (mi : Nat) : Bool := plainName (rx_y mi).cls && decide ((rx_y mi).cls ≠ "java/lang/invoke/MethodHandle") && decide ((rx_y mi).cls ≠ "java/lang/invoke/VarHandle") && decide ((parseMethodDescriptor (rx_y mi).desc).map (fun d => d.parameters.length) = some (rx_np mi))
end
section
theorem rx_ck_0_0 : rx_tb_0_0.all (rx_okI 0) = true := by decide +kernel
theorem rx_ck_1_0 : rx_tb_1_0.all (rx_okI 1) = true := by decide +kernel
theorem rx_ck_2_0 : rx_tb_2_0.all (rx_okI 2) = true := by decide +kernel
theorem rx_ck_3_0 : rx_tb_3_0.all (rx_okI 3) = true := by decide +kernel
theorem rx_ck_4_0 : rx_tb_4_0.all (rx_okI 4) = true := by decide +kernel
theorem rx_ck_4_1 : rx_tb_4_1.all (rx_okI 4) = true := by decide +kernel
theorem rx_ck_5_0 : rx_tb_5_0.all (rx_okI 5) = true := by decide +kernel
theorem rx_ck_6_0 : rx_tb_6_0.all (rx_okI 6) = true := by decide +kernel
theorem rx_ck_7_0 : rx_tb_7_0.all (rx_okI 7) = true := by decide +kernel
theorem rx_ck_8_0 : rx_tb_8_0.all (rx_okI 8) = true := by decide +kernel
theorem rx_ck_9_0 : rx_tb_9_0.all (rx_okI 9) = true := by decide +kernel
theorem rx_ck_10_0 : rx_tb_10_0.all (rx_okI 10) = true := by decide +kernel
theorem rx_ck_11_0 : rx_tb_11_0.all (rx_okI 11) = true := by decide +kernel
theorem rx_ck_12_0 : rx_tb_12_0.all (rx_okI 12) = true := by decide +kernel
theorem rx_ck_13_0 : rx_tb_13_0.all (rx_okI 13) = true := by decide +kernel
theorem rx_ck_14_0 : rx_tb_14_0.all (rx_okI 14) = true := by decide +kernel
theorem rx_ck_15_0 : rx_tb_15_0.all (rx_okI 15) = true := by decide +kernel
theorem rx_ck_16_0 : rx_tb_16_0.all (rx_okI 16) = true := by decide +kernel
theorem rx_ck_17_0 : rx_tb_17_0.all (rx_okI 17) = true := by decide +kernel
theorem rx_ck_18_0 : rx_tb_18_0.all (rx_okI 18) = true := by decide +kernel
theorem rx_ck_19_0 : rx_tb_19_0.all (rx_okI 19) = true := by decide +kernel
theorem rx_ck_20_0 : rx_tb_20_0.all (rx_okI 20) = true := by decide +kernel
theorem rx_ck_21_0 : rx_tb_21_0.all (rx_okI 21) = true := by decide +kernel
theorem rx_ck_21_1 : rx_tb_21_1.all (rx_okI 21) = true := by decide +kernel
theorem rx_ck_22_0 : rx_tb_22_0.all (rx_okI 22) = true := by decide +kernel
theorem rx_ck_22_1 : rx_tb_22_1.all (rx_okI 22) = true := by decide +kernel
theorem rx_ck_23_0 : rx_tb_23_0.all (rx_okI 23) = true := by decide +kernel
theorem rx_ck_24_0 : rx_tb_24_0.all (rx_okI 24) = true := by decide +kernel
theorem rx_ck_25_0 : rx_tb_25_0.all (rx_okI 25) = true := by decide +kernel
theorem rx_ck_25_1 : rx_tb_25_1.all (rx_okI 25) = true := by decide +kernel
theorem rx_ck_26_0 : rx_tb_26_0.all (rx_okI 26) = true := by decide +kernel
theorem rx_ck_27_0 : rx_tb_27_0.all (rx_okI 27) = true := by decide +kernel
theorem rx_ck_27_1 : rx_tb_27_1.all (rx_okI 27) = true := by decide +kernel
theorem rx_ck_28_0 : rx_tb_28_0.all (rx_okI 28) = true := by decide +kernel
theorem rx_ck_28_1 : rx_tb_28_1.all (rx_okI 28) = true := by decide +kernel
theorem rx_ck_29_0 : rx_tb_29_0.all (rx_okI 29) = true := by decide +kernel
theorem rx_ck_29_1 : rx_tb_29_1.all (rx_okI 29) = true := by decide +kernel
theorem rx_ck_30_0 : rx_tb_30_0.all (rx_okI 30) = true := by decide +kernel
theorem rx_ck_31_0 : rx_tb_31_0.all (rx_okI 31) = true := by decide +kernel
theorem rx_ck_32_0 : rx_tb_32_0.all (rx_okI 32) = true := by decide +kernel
theorem rx_ck_33_0 : rx_tb_33_0.all (rx_okI 33) = true := by decide +kernel
theorem rx_ck_34_0 : rx_tb_34_0.all (rx_okI 34) = true := by decide +kernel
theorem rx_ck_35_0 : rx_tb_35_0.all (rx_okI 35) = true := by decide +kernel
theorem rx_ck_36_0 : rx_tb_36_0.all (rx_okI 36) = true := by decide +kernel
theorem rx_ck_37_0 : rx_tb_37_0.all (rx_okI 37) = true := by decide +kernel
theorem rx_ck_38_0 : rx_tb_38_0.all (rx_okI 38) = true := by decide +kernel
theorem rx_ck_39_0 : rx_tb_39_0.all (rx_okI 39) = true := by decide +kernel
theorem rx_ck_40_0 : rx_tb_40_0.all (rx_okI 40) = true := by decide +kernel
theorem rx_ck_41_0 : rx_tb_41_0.all (rx_okI 41) = true := by decide +kernel
theorem rx_ck_42_0 : rx_tb_42_0.all (rx_okI 42) = true := by decide +kernel
theorem rx_ck_43_0 : rx_tb_43_0.all (rx_okI 43) = true := by decide +kernel
theorem rx_ck_44_0 : rx_tb_44_0.all (rx_okI 44) = true := by decide +kernel
theorem rx_ck_45_0 : rx_tb_45_0.all (rx_okI 45) = true := by decide +kernel
theorem rx_ck_46_0 : rx_tb_46_0.all (rx_okI 46) = true := by decide +kernel
theorem rx_ck_47_0 : rx_tb_47_0.all (rx_okI 47) = true := by decide +kernel
theorem rx_ck_48_0 : rx_tb_48_0.all (rx_okI 48) = true := by decide +kernel
theorem rx_ck_49_0 : rx_tb_49_0.all (rx_okI 49) = true := by decide +kernel
theorem rx_ck_50_0 : rx_tb_50_0.all (rx_okI 50) = true := by decide +kernel
theorem rx_ck_50_1 : rx_tb_50_1.all (rx_okI 50) = true := by decide +kernel
theorem rx_ck_51_0 : rx_tb_51_0.all (rx_okI 51) = true := by decide +kernel
theorem rx_ck_52_0 : rx_tb_52_0.all (rx_okI 52) = true := by decide +kernel
theorem rx_ck_53_0 : rx_tb_53_0.all (rx_okI 53) = true := by decide +kernel
theorem rx_ck_54_0 : rx_tb_54_0.all (rx_okI 54) = true := by decide +kernel
theorem rx_ck_55_0 : rx_tb_55_0.all (rx_okI 55) = true := by decide +kernel
theorem rx_ck_55_1 : rx_tb_55_1.all (rx_okI 55) = true := by decide +kernel
theorem rx_ck_56_0 : rx_tb_56_0.all (rx_okI 56) = true := by decide +kernel
theorem rx_ck_57_0 : rx_tb_57_0.all (rx_okI 57) = true := by decide +kernel
theorem rx_ck_58_0 : rx_tb_58_0.all (rx_okI 58) = true := by decide +kernel
theorem rx_ck_59_0 : rx_tb_59_0.all (rx_okI 59) = true := by decide +kernel
theorem rx_ck_60_0 : rx_tb_60_0.all (rx_okI 60) = true := by decide +kernel
theorem rx_ck_61_0 : rx_tb_61_0.all (rx_okI 61) = true := by decide +kernel
theorem rx_ck_62_0 : rx_tb_62_0.all (rx_okI 62) = true := by decide +kernel
theorem rx_ck_63_0 : rx_tb_63_0.all (rx_okI 63) = true := by decide +kernel
theorem rx_ck_64_0 : rx_tb_64_0.all (rx_okI 64) = true := by decide +kernel
theorem rx_ck_65_0 : rx_tb_65_0.all (rx_okI 65) = true := by decide +kernel
theorem rx_ck_66_0 : rx_tb_66_0.all (rx_okI 66) = true := by decide +kernel
theorem rx_ck_67_0 : rx_tb_67_0.all (rx_okI 67) = true := by decide +kernel
theorem rx_ck_68_0 : rx_tb_68_0.all (rx_okI 68) = true := by decide +kernel
theorem rx_ck_68_1 : rx_tb_68_1.all (rx_okI 68) = true := by decide +kernel
theorem rx_ck_69_0 : rx_tb_69_0.all (rx_okI 69) = true := by decide +kernel
theorem rx_ck_70_0 : rx_tb_70_0.all (rx_okI 70) = true := by decide +kernel
theorem rx_ck_70_1 : rx_tb_70_1.all (rx_okI 70) = true := by decide +kernel
theorem rx_ck_71_0 : rx_tb_71_0.all (rx_okI 71) = true := by decide +kernel
theorem rx_ck_72_0 : rx_tb_72_0.all (rx_okI 72) = true := by decide +kernel
theorem rx_ck_73_0 : rx_tb_73_0.all (rx_okI 73) = true := by decide +kernel
theorem rx_ck_74_0 : rx_tb_74_0.all (rx_okI 74) = true := by decide +kernel
theorem rx_ck_74_1 : rx_tb_74_1.all (rx_okI 74) = true := by decide +kernel
theorem rx_ck_75_0 : rx_tb_75_0.all (rx_okI 75) = true := by decide +kernel
theorem rx_ck_76_0 : rx_tb_76_0.all (rx_okI 76) = true := by decide +kernel
theorem rx_ck_77_0 : rx_tb_77_0.all (rx_okI 77) = true := by decide +kernel
theorem rx_ck_78_0 : rx_tb_78_0.all (rx_okI 78) = true := by decide +kernel
theorem rx_ck_79_0 : rx_tb_79_0.all (rx_okI 79) = true := by decide +kernel
theorem rx_ck_80_0 : rx_tb_80_0.all (rx_okI 80) = true := by decide +kernel
theorem rx_ck_81_0 : rx_tb_81_0.all (rx_okI 81) = true := by decide +kernel
theorem rx_ck_82_0 : rx_tb_82_0.all (rx_okI 82) = true := by decide +kernel
theorem rx_ck_82_1 : rx_tb_82_1.all (rx_okI 82) = true := by decide +kernel
theorem rx_ck_83_0 : rx_tb_83_0.all (rx_okI 83) = true := by decide +kernel
theorem rx_ck_84_0 : rx_tb_84_0.all (rx_okI 84) = true := by decide +kernel
theorem rx_ck_84_1 : rx_tb_84_1.all (rx_okI 84) = true := by decide +kernel
theorem rx_ck_85_0 : rx_tb_85_0.all (rx_okI 85) = true := by decide +kernel
theorem rx_ck_86_0 : rx_tb_86_0.all (rx_okI 86) = true := by decide +kernel
theorem rx_ck_87_0 : rx_tb_87_0.all (rx_okI 87) = true := by decide +kernel
theorem rx_ck_88_0 : rx_tb_88_0.all (rx_okI 88) = true := by decide +kernel
theorem rx_ck_88_1 : rx_tb_88_1.all (rx_okI 88) = true := by decide +kernel
theorem rx_ck_89_0 : rx_tb_89_0.all (rx_okI 89) = true := by decide +kernel
theorem rx_ck_89_1 : rx_tb_89_1.all (rx_okI 89) = true := by decide +kernel
theorem rx_ck_90_0 : rx_tb_90_0.all (rx_okI 90) = true := by decide +kernel
theorem rx_ck_90_1 : rx_tb_90_1.all (rx_okI 90) = true := by decide +kernel
theorem rx_ck_91_0 : rx_tb_91_0.all (rx_okI 91) = true := by decide +kernel
theorem rx_ck_92_0 : rx_tb_92_0.all (rx_okI 92) = true := by decide +kernel
theorem rx_ck_93_0 : rx_tb_93_0.all (rx_okI 93) = true := by decide +kernel
theorem rx_ck_94_0 : rx_tb_94_0.all (rx_okI 94) = true := by decide +kernel
theorem rx_ck_95_0 : rx_tb_95_0.all (rx_okI 95) = true := by decide +kernel
theorem rx_ck_96_0 : rx_tb_96_0.all (rx_okI 96) = true := by decide +kernel
theorem rx_ck_97_0 : rx_tb_97_0.all (rx_okI 97) = true := by decide +kernel
theorem rx_ck_98_0 : rx_tb_98_0.all (rx_okI 98) = true := by decide +kernel
theorem rx_ck_99_0 : rx_tb_99_0.all (rx_okI 99) = true := by decide +kernel
theorem rx_ck_100_0 : rx_tb_100_0.all (rx_okI 100) = true := by decide +kernel
theorem rx_ck_101_0 : rx_tb_101_0.all (rx_okI 101) = true := by decide +kernel
theorem rx_ck_102_0 : rx_tb_102_0.all (rx_okI 102) = true := by decide +kernel
theorem rx_ck_103_0 : rx_tb_103_0.all (rx_okI 103) = true := by decide +kernel
theorem rx_ck_104_0 : rx_tb_104_0.all (rx_okI 104) = true := by decide +kernel
theorem rx_ck_104_1 : rx_tb_104_1.all (rx_okI 104) = true := by decide +kernel
theorem rx_ck_105_0 : rx_tb_105_0.all (rx_okI 105) = true := by decide +kernel
theorem rx_ck_106_0 : rx_tb_106_0.all (rx_okI 106) = true := by decide +kernel
theorem rx_ck_107_0 : rx_tb_107_0.all (rx_okI 107) = true := by decide +kernel
theorem rx_ck_108_0 : rx_tb_108_0.all (rx_okI 108) = true := by decide +kernel
theorem rx_ck_109_0 : rx_tb_109_0.all (rx_okI 109) = true := by decide +kernel
theorem rx_ck_110_0 : rx_tb_110_0.all (rx_okI 110) = true := by decide +kernel
theorem rx_ck_111_0 : rx_tb_111_0.all (rx_okI 111) = true := by decide +kernel
theorem rx_ck_112_0 : rx_tb_112_0.all (rx_okI 112) = true := by decide +kernel
theorem rx_ck_113_0 : rx_tb_113_0.all (rx_okI 113) = true := by decide +kernel
theorem rx_ck_114_0 : rx_tb_114_0.all (rx_okI 114) = true := by decide +kernel
theorem rx_ck_114_1 : rx_tb_114_1.all (rx_okI 114) = true := by decide +kernel
theorem rx_ck_115_0 : rx_tb_115_0.all (rx_okI 115) = true := by decide +kernel
theorem rx_ck_116_0 : rx_tb_116_0.all (rx_okI 116) = true := by decide +kernel
theorem rx_ck_117_0 : rx_tb_117_0.all (rx_okI 117) = true := by decide +kernel
theorem rx_ck_118_0 : rx_tb_118_0.all (rx_okI 118) = true := by decide +kernel
theorem rx_ck_119_0 : rx_tb_119_0.all (rx_okI 119) = true := by decide +kernel
theorem rx_ck_119_1 : rx_tb_119_1.all (rx_okI 119) = true := by decide +kernel
theorem rx_ck_120_0 : rx_tb_120_0.all (rx_okI 120) = true := by decide +kernel
theorem rx_ck_121_0 : rx_tb_121_0.all (rx_okI 121) = true := by decide +kernel
theorem rx_ck_122_0 : rx_tb_122_0.all (rx_okI 122) = true := by decide +kernel
theorem rx_ck_123_0 : rx_tb_123_0.all (rx_okI 123) = true := by decide +kernel
theorem rx_ck_124_0 : rx_tb_124_0.all (rx_okI 124) = true := by decide +kernel
theorem rx_ck_124_1 : rx_tb_124_1.all (rx_okI 124) = true := by decide +kernel
theorem rx_ck_125_0 : rx_tb_125_0.all (rx_okI 125) = true := by decide +kernel
theorem rx_ck_125_1 : rx_tb_125_1.all (rx_okI 125) = true := by decide +kernel
theorem rx_ck_126_0 : rx_tb_126_0.all (rx_okI 126) = true := by decide +kernel
theorem rx_ck_126_1 : rx_tb_126_1.all (rx_okI 126) = true := by decide +kernel
theorem rx_ck_126_2 : rx_tb_126_2.all (rx_okI 126) = true := by decide +kernel
theorem rx_ck_127_0 : rx_tb_127_0.all (rx_okI 127) = true := by decide +kernel
theorem rx_ck_128_0 : rx_tb_128_0.all (rx_okI 128) = true := by decide +kernel
theorem rx_ck_129_0 : rx_tb_129_0.all (rx_okI 129) = true := by decide +kernel
theorem rx_ck_129_1 : rx_tb_129_1.all (rx_okI 129) = true := by decide +kernel
theorem rx_ck_130_0 : rx_tb_130_0.all (rx_okI 130) = true := by decide +kernel
theorem rx_ck_131_0 : rx_tb_131_0.all (rx_okI 131) = true := by decide +kernel
theorem rx_ck_131_1 : rx_tb_131_1.all (rx_okI 131) = true := by decide +kernel
theorem rx_ck_131_2 : rx_tb_131_2.all (rx_okI 131) = true := by decide +kernel
theorem rx_ck_132_0 : rx_tb_132_0.all (rx_okI 132) = true := by decide +kernel
theorem rx_ck_133_0 : rx_tb_133_0.all (rx_okI 133) = true := by decide +kernel
theorem rx_ck_134_0 : rx_tb_134_0.all (rx_okI 134) = true := by decide +kernel
theorem rx_ck_134_1 : rx_tb_134_1.all (rx_okI 134) = true := by decide +kernel
theorem rx_ck_134_2 : rx_tb_134_2.all (rx_okI 134) = true := by decide +kernel
theorem rx_ck_135_0 : rx_tb_135_0.all (rx_okI 135) = true := by decide +kernel
theorem rx_ck_136_0 : rx_tb_136_0.all (rx_okI 136) = true := by decide +kernel
theorem rx_ck_137_0 : rx_tb_137_0.all (rx_okI 137) = true := by decide +kernel
theorem rx_ck_138_0 : rx_tb_138_0.all (rx_okI 138) = true := by decide +kernel
theorem rx_ck_139_0 : rx_tb_139_0.all (rx_okI 139) = true := by decide +kernel
theorem rx_ck_140_0 : rx_tb_140_0.all (rx_okI 140) = true := by decide +kernel
theorem rx_ck_141_0 : rx_tb_141_0.all (rx_okI 141) = true := by decide +kernel
theorem rx_ck_141_1 : rx_tb_141_1.all (rx_okI 141) = true := by decide +kernel
theorem rx_ck_142_0 : rx_tb_142_0.all (rx_okI 142) = true := by decide +kernel
theorem rx_ck_142_1 : rx_tb_142_1.all (rx_okI 142) = true := by decide +kernel
theorem rx_ck_143_0 : rx_tb_143_0.all (rx_okI 143) = true := by decide +kernel
theorem rx_ck_144_0 : rx_tb_144_0.all (rx_okI 144) = true := by decide +kernel
theorem rx_ck_145_0 : rx_tb_145_0.all (rx_okI 145) = true := by decide +kernel
theorem rx_ck_146_0 : rx_tb_146_0.all (rx_okI 146) = true := by decide +kernel
theorem rx_ck_147_0 : rx_tb_147_0.all (rx_okI 147) = true := by decide +kernel
theorem rx_ck_148_0 : rx_tb_148_0.all (rx_okI 148) = true := by decide +kernel
theorem rx_ck_149_0 : rx_tb_149_0.all (rx_okI 149) = true := by decide +kernel
theorem rx_ck_149_1 : rx_tb_149_1.all (rx_okI 149) = true := by decide +kernel
theorem rx_ck_150_0 : rx_tb_150_0.all (rx_okI 150) = true := by decide +kernel
theorem rx_ck_151_0 : rx_tb_151_0.all (rx_okI 151) = true := by decide +kernel
theorem rx_ck_151_1 : rx_tb_151_1.all (rx_okI 151) = true := by decide +kernel
theorem rx_ck_152_0 : rx_tb_152_0.all (rx_okI 152) = true := by decide +kernel
theorem rx_ck_153_0 : rx_tb_153_0.all (rx_okI 153) = true := by decide +kernel
theorem rx_ck_154_0 : rx_tb_154_0.all (rx_okI 154) = true := by decide +kernel
theorem rx_ck_155_0 : rx_tb_155_0.all (rx_okI 155) = true := by decide +kernel
theorem rx_ck_155_1 : rx_tb_155_1.all (rx_okI 155) = true := by decide +kernel
theorem rx_ck_156_0 : rx_tb_156_0.all (rx_okI 156) = true := by decide +kernel
theorem rx_ck_156_1 : rx_tb_156_1.all (rx_okI 156) = true := by decide +kernel
theorem rx_ck_157_0 : rx_tb_157_0.all (rx_okI 157) = true := by decide +kernel
theorem rx_ck_157_1 : rx_tb_157_1.all (rx_okI 157) = true := by decide +kernel
theorem rx_ck_158_0 : rx_tb_158_0.all (rx_okI 158) = true := by decide +kernel
theorem rx_ck_158_1 : rx_tb_158_1.all (rx_okI 158) = true := by decide +kernel
theorem rx_ck_159_0 : rx_tb_159_0.all (rx_okI 159) = true := by decide +kernel
theorem rx_ck_160_0 : rx_tb_160_0.all (rx_okI 160) = true := by decide +kernel
theorem rx_ck_161_0 : rx_tb_161_0.all (rx_okI 161) = true := by decide +kernel
theorem rx_ck_161_1 : rx_tb_161_1.all (rx_okI 161) = true := by decide +kernel
theorem rx_ck_162_0 : rx_tb_162_0.all (rx_okI 162) = true := by decide +kernel
theorem rx_ck_163_0 : rx_tb_163_0.all (rx_okI 163) = true := by decide +kernel
theorem rx_ck_164_0 : rx_tb_164_0.all (rx_okI 164) = true := by decide +kernel
theorem rx_ck_165_0 : rx_tb_165_0.all (rx_okI 165) = true := by decide +kernel
theorem rx_ck_166_0 : rx_tb_166_0.all (rx_okI 166) = true := by decide +kernel
theorem rx_ck_167_0 : rx_tb_167_0.all (rx_okI 167) = true := by decide +kernel
theorem rx_ck_167_1 : rx_tb_167_1.all (rx_okI 167) = true := by decide +kernel
theorem rx_ck_168_0 : rx_tb_168_0.all (rx_okI 168) = true := by decide +kernel
theorem rx_ck_169_0 : rx_tb_169_0.all (rx_okI 169) = true := by decide +kernel
theorem rx_ck_170_0 : rx_tb_170_0.all (rx_okI 170) = true := by decide +kernel
theorem rx_ck_171_0 : rx_tb_171_0.all (rx_okI 171) = true := by decide +kernel
theorem rx_ck_172_0 : rx_tb_172_0.all (rx_okI 172) = true := by decide +kernel
theorem rx_ck_172_1 : rx_tb_172_1.all (rx_okI 172) = true := by decide +kernel
theorem rx_ck_172_2 : rx_tb_172_2.all (rx_okI 172) = true := by decide +kernel
theorem rx_ck_172_3 : rx_tb_172_3.all (rx_okI 172) = true := by decide +kernel
theorem rx_ck_172_4 : rx_tb_172_4.all (rx_okI 172) = true := by decide +kernel
theorem rx_ck_172_5 : rx_tb_172_5.all (rx_okI 172) = true := by decide +kernel
theorem rx_ck_172_6 : rx_tb_172_6.all (rx_okI 172) = true := by decide +kernel
theorem rx_ck_172_7 : rx_tb_172_7.all (rx_okI 172) = true := by decide +kernel
theorem rx_ck_172_8 : rx_tb_172_8.all (rx_okI 172) = true := by decide +kernel
theorem rx_ck_172_9 : rx_tb_172_9.all (rx_okI 172) = true := by decide +kernel
theorem rx_ck_172_10 : rx_tb_172_10.all (rx_okI 172) = true := by decide +kernel
theorem rx_ck_172_11 : rx_tb_172_11.all (rx_okI 172) = true := by decide +kernel
theorem rx_ck_172_12 : rx_tb_172_12.all (rx_okI 172) = true := by decide +kernel
end
section
/-! ===== what the interpreter does, as the least relation that the instructions close ===== -/
def rx_xp : List Value → List Value
  | [] => []
  | v :: t => (match v with
    | .long x => [.long x, .null]
    | .double x => [.double x, .null]
    | w => [w]) ++ rx_xp t
def rx_en (a : Nat) (As : List Value) : List Value := rx_xp As ++ List.replicate (rx_ml a - (rx_xp As).length) .null
def rx_op (i : rx_I) (K : Nat → List Value → List Value → rx_H → Prop) (C : Nat → List Value → rx_H → (Option Value → rx_H → Prop) → Prop) (E : Option Value → rx_H → Prop) (pc : Nat) (ls st : List Value) (h : rx_H) : Prop :=
  match rx_res rx_cn i pc ls st h with
  | none => False
  | some (.inl (pc', ls', st', h')) => K pc' ls' st' h'
  | some (.inr (.inl (a, As, rest, nx))) => C a As h (fun r h' => K nx ls (r.toList ++ rest) h')
  | some (.inr (.inr v)) => E v h
theorem rx_op_mono {i : rx_I} {K K' : Nat → List Value → List Value → rx_H → Prop} {C C' : Nat → List Value → rx_H → (Option Value → rx_H → Prop) → Prop} {E E' : Option Value → rx_H → Prop} {pc : Nat} {ls st : List Value} {h : rx_H}
    (hK : ∀ a b c d, K a b c d → K' a b c d) (hC : ∀ a As h k k', (∀ r h', k r h' → k' r h') → C a As h k → C' a As h k') (hE : ∀ r h, E r h → E' r h) : rx_op i K C E pc ls st h → rx_op i K' C' E' pc ls st h := by
  unfold rx_op
  cases rx_res rx_cn i pc ls st h with
  | none => exact id
  | some o =>
    rcases o with ⟨pc', ls', st', h'⟩ | ⟨a, As, rest, nx⟩ | v
    · exact hK _ _ _ _
    · exact hC _ _ _ _ _ (fun r h' => hK _ _ _ _)
    · exact hE _ _
abbrev rx_PT : Type := Nat → Nat → List Value → List Value → rx_H → (Option Value → rx_H → Prop) → Prop
def rx_Cg (P : rx_PT) (a : Nat) (As : List Value) (h : rx_H) (k : Option Value → rx_H → Prop) : Prop := (rx_xp As).length ≤ rx_ml a ∧ ∃ r h', P a 0 (rx_en a As) [] h (fun r' h2 => r' = r ∧ h2 = h') ∧ k r h'
def rx_cl (P : rx_PT) : Prop := ∀ mi pc ls st h Q i, rx_it mi pc = some i → rx_op i (fun pc' ls' st' h' => P mi pc' ls' st' h' Q) (rx_Cg P) Q pc ls st h → P mi pc ls st h Q
def rx_R : rx_PT := fun mi pc ls st h Q => ∀ P : rx_PT, rx_cl P → P mi pc ls st h Q
theorem rx_R_fold : rx_cl rx_R := by
  intro mi pc ls st h Q i hi ho P hP
  refine hP mi pc ls st h Q i hi (rx_op_mono (fun a b c d hk => hk P hP) ?_ (fun _ _ h => h) ho)
  rintro a As h k k' hk ⟨h1, r, h', hr, hk2⟩
  exact ⟨h1, r, h', hr P hP, hk _ _ hk2⟩
theorem rx_R_unfold {mi pc : Nat} {ls st : List Value} {h : rx_H} {Q : Option Value → rx_H → Prop} (hR : rx_R mi pc ls st h Q) : ∃ i, rx_it mi pc = some i ∧ rx_op i (fun pc' ls' st' h' => rx_R mi pc' ls' st' h' Q) (rx_Cg rx_R) Q pc ls st h := by
  refine hR (fun mi pc ls st h Q => ∃ i, rx_it mi pc = some i ∧ rx_op i (fun pc' ls' st' h' => rx_R mi pc' ls' st' h' Q) (rx_Cg rx_R) Q pc ls st h) ?_
  intro mi pc ls st h Q i hi ho
  refine ⟨i, hi, rx_op_mono (fun a b c d hk => ?_) ?_ (fun _ _ h => h) ho⟩
  · obtain ⟨i', h1, h2⟩ := hk
    exact rx_R_fold _ _ _ _ _ _ i' h1 h2
  · rintro a As h k k' hk ⟨h1, r, h', ⟨i', h3, h4⟩, hk2⟩
    exact ⟨h1, r, h', rx_R_fold _ _ _ _ _ _ i' h3 h4, hk _ _ hk2⟩
theorem rx_R_mono {mi pc : Nat} {ls st : List Value} {h : rx_H} {Q Q' : Option Value → rx_H → Prop} (hR : rx_R mi pc ls st h Q) (hQ : ∀ r h, Q r h → Q' r h) : rx_R mi pc ls st h Q' := by
  refine hR (fun mi pc ls st h Q => ∀ Q' : Option Value → rx_H → Prop, (∀ r h, Q r h → Q' r h) → rx_R mi pc ls st h Q') ?_ Q' hQ
  intro mi pc ls st h Q i hi ho Q' hQ
  refine rx_R_fold _ _ _ _ _ _ i hi (rx_op_mono (fun a b c d hk => hk Q' hQ) ?_ hQ ho)
  rintro a As h k k' hk ⟨h1, r, h', hr, hk2⟩
  exact ⟨h1, r, h', hr _ (fun _ _ h => h), hk _ _ hk2⟩
theorem rx_R_exact {mi pc : Nat} {ls st : List Value} {h : rx_H} {Q : Option Value → rx_H → Prop} (hR : rx_R mi pc ls st h Q) : ∃ r h', rx_R mi pc ls st h (fun r' h2 => r' = r ∧ h2 = h') ∧ Q r h' := by
  refine hR (fun mi pc ls st h Q => ∃ r h', rx_R mi pc ls st h (fun r' h2 => r' = r ∧ h2 = h') ∧ Q r h') ?_
  intro mi pc ls st h Q i hi ho
  unfold rx_op at ho
  cases hres : rx_res rx_cn i pc ls st h with
  | none => rw [hres] at ho; exact ho.elim
  | some o =>
    rcases o with ⟨pc', ls', st', h'⟩ | ⟨a, As, rest, nx⟩ | v
    · rw [hres] at ho
      obtain ⟨r, h2, h3, h4⟩ := ho
      exact ⟨r, h2, rx_R_fold _ _ _ _ _ _ i hi (by unfold rx_op; rw [hres]; exact h3), h4⟩
    · rw [hres] at ho
      obtain ⟨hl, r, h', ⟨r0, h0, hr, rfl, rfl⟩, r2, h2, h3, h4⟩ := ho
      exact ⟨r2, h2, rx_R_fold _ _ _ _ _ _ i hi (by unfold rx_op; rw [hres]; exact ⟨hl, r0, h0, hr, h3⟩), h4⟩
    · rw [hres] at ho
      exact ⟨v, h, rx_R_fold _ _ _ _ _ _ i hi (by unfold rx_op; rw [hres]; exact ⟨rfl, rfl⟩), ho⟩
theorem rx_R_det {mi pc : Nat} {ls st : List Value} {h : rx_H} {Q : Option Value → rx_H → Prop} (hR : rx_R mi pc ls st h Q) : ∀ (r : Option Value) (h' : rx_H), rx_R mi pc ls st h (fun r' h2 => r' = r ∧ h2 = h') → Q r h' := by
  refine hR (fun mi pc ls st h Q => ∀ (r : Option Value) (h' : rx_H), rx_R mi pc ls st h (fun r' h2 => r' = r ∧ h2 = h') → Q r h') ?_
  intro mi pc ls st h Q i hi ho r h' h2
  obtain ⟨i2, hi2, ho2⟩ := rx_R_unfold h2
  cases hi.symm.trans hi2
  unfold rx_op at ho ho2
  cases hres : rx_res rx_cn i pc ls st h with
  | none => rw [hres] at ho; exact ho.elim
  | some o =>
    rcases o with ⟨pc', ls', st', h3⟩ | ⟨a, As, rest, nx⟩ | v
    · rw [hres] at ho ho2
      exact ho r h' ho2
    · rw [hres] at ho ho2
      obtain ⟨hl, rc, hc, hr, hk⟩ := ho
      obtain ⟨-, rc2, hc2, hr2, hk2⟩ := ho2
      obtain ⟨rfl, rfl⟩ := hr rc2 hc2 hr2
      exact hk r h' hk2
    · rw [hres] at ho ho2
      obtain ⟨rfl, rfl⟩ := ho2
      exact ho
/-- a call ends, with k -/
def rx_Cl (a : Nat) (As : List Value) (h : rx_H) (k : Option Value → rx_H → Prop) : Prop := rx_Cg rx_R a As h k
theorem rx_Cl_of {a : Nat} {As : List Value} {h : rx_H} {Q : Option Value → rx_H → Prop} (hl : (rx_xp As).length ≤ rx_ml a) (hR : rx_R a 0 (rx_en a As) [] h Q) : rx_Cl a As h Q := by
  obtain ⟨r, h', h1, h2⟩ := rx_R_exact hR
  exact ⟨hl, r, h', h1, h2⟩
theorem rx_Cl_imp {a : Nat} {As : List Value} {h : rx_H} {Q k : Option Value → rx_H → Prop} (hc : rx_Cl a As h Q) (hk : ∀ r h', Q r h' → k r h') : rx_Cl a As h k := by
  obtain ⟨hl, r, h', h1, h2⟩ := hc
  exact ⟨hl, r, h', h1, hk _ _ h2⟩
theorem rx_Cl_eq {a : Nat} {As : List Value} {h : rx_H} {r : Option Value} {h' : rx_H} (hc : rx_Cl a As h (fun r' h2 => r' = r ∧ h2 = h')) (k : Option Value → rx_H → Prop) : rx_Cl a As h k = k r h' := by
  apply propext
  constructor
  · rintro ⟨hl, r2, h2, e1, hk⟩
    obtain ⟨-, r3, h3, e3, rfl, rfl⟩ := hc
    obtain ⟨rfl, rfl⟩ := rx_R_det e1 _ _ e3
    exact hk
  · intro hk
    exact rx_Cl_imp hc (by rintro _ _ ⟨rfl, rfl⟩; exact hk)
def rx_cut : List Nat → Nat → Bool
  | [], _ => false
  | s :: t, p => p == s || rx_cut t p
/-- k instructions from pc on, but not beyond the pcs of S -/
def rx_wp : Nat → List Nat → Nat → Nat → List Value → List Value → rx_H → (Option Value → rx_H → Prop) → Prop
  | 0, _, mi, pc, ls, st, h, Q => rx_R mi pc ls st h Q
  | k + 1, S, mi, pc, ls, st, h, Q => match rx_it mi pc with
    | none => False
    | some i => rx_op i (fun pc' ls' st' h' => bif rx_cut S pc' then rx_R mi pc' ls' st' h' Q else rx_wp k S mi pc' ls' st' h' Q) rx_Cl Q pc ls st h
theorem rx_wp_sound : ∀ (k : Nat) (S : List Nat) (mi pc : Nat) (ls st : List Value) (h : rx_H) (Q : Option Value → rx_H → Prop), rx_wp k S mi pc ls st h Q → rx_R mi pc ls st h Q
  | 0, _, _, _, _, _, _, _, hw => hw
  | k + 1, S, mi, pc, ls, st, h, Q, hw => by
    unfold rx_wp at hw
    cases hi : rx_it mi pc with
    | none => rw [hi] at hw; exact hw.elim
    | some i =>
      rw [hi] at hw
      refine rx_R_fold _ _ _ _ _ _ i hi (rx_op_mono (fun a b c d hk => ?_) (fun a As h k k' hk hc => rx_Cl_imp hc hk) (fun _ _ h => h) hw)
      cases hc : rx_cut S a with
      | true => rw [hc] at hk; exact hk
      | false => rw [hc] at hk; exact rx_wp_sound k S mi a b c d Q hk
def rx_nx (k : Nat) (S : List Nat) (mi pc : Nat) (ls st : List Value) (h : rx_H) (Q : Option Value → rx_H → Prop) : Prop := bif rx_cut S pc then rx_R mi pc ls st h Q else rx_wp k S mi pc ls st h Q
def rx_ow (o : Option rx_I) (k : Nat) (S : List Nat) (mi pc : Nat) (ls st : List Value) (h : rx_H) (Q : Option Value → rx_H → Prop) : Prop := match o with
  | none => False
  | some i => rx_op i (fun pc' ls' st' h' => rx_nx k S mi pc' ls' st' h' Q) rx_Cl Q pc ls st h
theorem rx_wp_succ (k : Nat) (S : List Nat) (mi pc : Nat) (ls st : List Value) (h : rx_H) (Q : Option Value → rx_H → Prop) : rx_wp (k + 1) S mi pc ls st h Q = rx_ow (rx_it mi pc) k S mi pc ls st h Q := rfl
theorem rx_Cl_wp {a : Nat} {As : List Value} {h : rx_H} {Q : Option Value → rx_H → Prop} (k : Nat) (S : List Nat) (hl : (rx_xp As).length ≤ rx_ml a) (hw : rx_wp k S a 0 (rx_en a As) [] h Q) : rx_Cl a As h Q := rx_Cl_of hl (rx_wp_sound _ _ _ _ _ _ _ _ hw)
end
section
/-! ===== the picture of a heap of the machine ===== -/
def rx_ta (b bs i : Nat) : Nat := if i = 0 then b else bs + i
def rx_tv (b bs : Nat) : Value → Value
  | .ref i => .ref (rx_ta b bs i)
  | v => v
def rx_tx (b bs : Nat) (x : (Nat → Int32) ⊕ (Nat → Int64) ⊕ (Nat → UInt32) ⊕ (Nat → UInt64) ⊕ (Nat → Option Nat)) : (Nat → Int32) ⊕ (Nat → Int64) ⊕ (Nat → UInt32) ⊕ (Nat → UInt64) ⊕ (Nat → Option Nat) := match x with
  | .inr (.inr (.inr (.inr f))) => .inr (.inr (.inr (.inr (fun j => (f j).map (rx_ta b bs)))))
  | y => y
def rx_te (dA : Nat → ClassId) (b bs : Nat) (c : rx_C) : va_E := match c with
  | .inl (t, n, x) => .inl (dA t, n, rx_tx b bs x)
  | .inr (c, fs) => .inr (c, fs.map (rx_tv b bs))
def rx_tys (dA : Nat → ClassId) : List (ClassId × FieldType) := [(dA 0, .int), (dA 1, .byte), (dA 2, .object RX4), (dA 3, .object RX1)]
def rx_K (dC : Nat → ClassId) (dI : Nat → Nat → Nat) (dA : Nat → ClassId) (U : State) : Prop := va_K (dC, dI) rx_kinds (rx_tys dA) U ∧ (∀ w ∈ rx_nest, va_Nw w U) ∧ va_AO RX4 U ∧ va_AO RX1 U
def rx_G (dC : Nat → ClassId) (dI : Nat → Nat → Nat) (dA : Nat → ClassId) (b bs L : Nat) (xs : Nat → Int32) (h : rx_H) (H : Heap) : Prop := H.size = bs + h.1 ∧ 0 < h.1 ∧ h.2.2 0 = some (.inl (0, L, .inl xs)) ∧ ∀ (i : Nat) (c : rx_C), 0 < i → h.2.2 i = some c → va_at (dC, dI) rx_kinds (bs + i, rx_te dA b bs c) H
def rx_LS (b bs : Nat) (lsA : Array Slot) (nL : Nat) (ls : List Value) : Prop := lsA.size = nL ∧ lv_wf lsA ∧ ls.length = nL ∧ ∀ (i : Nat) (v : Value), ls[i]? = some v → v ≠ .null → lsA[i]? = some (.val (rx_tv b bs v))
theorem rx_tv_cat (b bs : Nat) (v : Value) : (rx_tv b bs v).category = v.category := by cases v <;> rfl
theorem rx_K_same {dC : Nat → ClassId} {dI : Nat → Nat → Nat} {dA : Nat → ClassId} {u U : State} (h : u.vm = U.vm) (hK : rx_K dC dI dA u) : rx_K dC dI dA U := by
  have ha : u.vm.Alike U.vm := by rw [h]; exact Vm.Alike.refl _
  refine ⟨va_K.moved ha hK.1, fun w hw => va_Nw.same ?_ h (hK.2.1 w hw), va_AO.moved ha hK.2.2.1, va_AO.moved ha hK.2.2.2⟩
  simp only [rx_nest, List.mem_cons, List.not_mem_nil, or_false] at hw
  rcases hw with rfl | rfl | rfl | rfl | rfl | rfl | rfl | rfl | rfl | rfl | rfl | rfl <;> rfl
theorem rx_K_warm {dC : Nat → ClassId} {dI : Nat → Nat → Nat} {dA : Nat → ClassId} {s U : State} (hW : s.WarmedH U.vm) (hK : rx_K dC dI dA s) : rx_K dC dI dA U := by
  refine ⟨va_K.moved hW.alike hK.1, fun w hw => ?_, va_AO.moved hW.alike hK.2.2.1, va_AO.moved hW.alike hK.2.2.2⟩
  have h1 := hK.2.1 w hw
  simp only [rx_nest, List.mem_cons, List.not_mem_nil, or_false] at hw
  rcases hw with rfl | rfl | rfl | rfl | rfl | rfl | rfl | rfl | rfl | rfl | rfl | rfl <;> exact va_Nw.warmM hW h1
theorem rx_G_up {dC : Nat → ClassId} {dI : Nat → Nat → Nat} {dA : Nat → ClassId} {b bs L : Nat} {xs : Nat → Int32} {h : rx_H} {H H1 : Heap} {i : Nat} {c : rx_C} (hG : rx_G dC dI dA b bs L xs h H) (hi : ¬ i = 0) (e : va_at (dC, dI) rx_kinds (bs + i, rx_te dA b bs c) H1) (z : H1.size = H.size) (o : ∀ q : Nat, q ≠ bs + i → H1[q]? = H[q]?) : rx_G dC dI dA b bs L xs (rx_up h i c) H1 := by
  obtain ⟨g1, g2, g3, g4⟩ := hG
  refine ⟨z.trans g1, g2, ?_, fun j d hj hd => ?_⟩
  · show (if 0 = i then some c else h.2.2 0) = _
    rw [if_neg (fun h => hi h.symm)]
    exact g3
  · have hd' : (if j = i then some c else h.2.2 j) = some d := hd
    by_cases hji : j = i
    · rw [if_pos hji] at hd'
      cases hd'
      rw [hji]
      exact e
    · rw [if_neg hji] at hd'
      exact (g4 j d hj hd').kept (o (bs + j) (by omega))
theorem rx_G_nw {dC : Nat → ClassId} {dI : Nat → Nat → Nat} {dA : Nat → ClassId} {b bs L : Nat} {xs : Nat → Int32} {h : rx_H} {H H1 : Heap} {k : Nat} {c : rx_C} (hG : rx_G dC dI dA b bs L xs h H) (e : va_at (dC, dI) rx_kinds (bs + h.1, rx_te dA b bs c) H1) (z : H1.size = bs + h.1 + 1) (o : ∀ q : Nat, q < bs + h.1 → H1[q]? = H[q]?) : rx_G dC dI dA b bs L xs (rx_nw h k c) H1 := by
  obtain ⟨g1, g2, g3, g4⟩ := hG
  refine ⟨z, Nat.succ_pos _, ?_, fun j d hj hd => ?_⟩
  · show (if 0 = h.1 then some c else h.2.2 0) = _
    rw [if_neg (by omega)]
    exact g3
  · have hd' : (if j = h.1 then some c else h.2.2 j) = some d := hd
    by_cases hji : j = h.1
    · rw [if_pos hji] at hd'
      cases hd'
      rw [hji]
      exact e
    · rw [if_neg hji] at hd'
      have h1 := g4 j d hj hd'
      exact h1.kept (o (bs + j) (by have := h1.lt; rw [g1] at this; exact this))
/-- the locals as the kit's list -/
def rx_pr (b bs : Nat) (ls : List Value) : List (Nat × Value) := (List.range ls.length).filterMap (fun i => match (ls[i]? : Option Value) with
  | some .null => none
  | some v => some (i, rx_tv b bs v)
  | none => none)
theorem rx_pr_mem {b bs : Nat} {ls : List Value} {i : Nat} {v : Value} (h : ls[i]? = some v) (hv : v ≠ .null) : (i, rx_tv b bs v) ∈ rx_pr b bs ls := by
  refine List.mem_filterMap.mpr ⟨i, List.mem_range.mpr (List.getElem?_eq_some_iff.mp h).1, ?_⟩
  rw [h]
  cases v <;> first | rfl | exact absurd rfl hv
theorem rx_pr_of {b bs : Nat} {ls : List Value} {q : Nat × Value} (h : q ∈ rx_pr b bs ls) : ∃ v, ls[q.1]? = some v ∧ v ≠ .null ∧ q.2 = rx_tv b bs v := by
  obtain ⟨i, -, h2⟩ := List.mem_filterMap.mp h
  cases hv : ls[i]? with
  | none => rw [hv] at h2; cases h2
  | some v =>
    rw [hv] at h2
    cases v <;> first | (cases h2; exact ⟨_, hv, by simp, rfl⟩) | cases h2
theorem rx_LS_has {b bs : Nat} {lsA : Array Slot} {nL : Nat} {ls : List Value} (h : rx_LS b bs lsA nL ls) : lv_has lsA nL (rx_pr b bs ls) := by
  refine ⟨h.1, h.2.1, fun q hq => ?_⟩
  obtain ⟨v, h1, h2, h3⟩ := rx_pr_of hq
  rw [h3]
  exact h.2.2.2 _ _ h1 h2
theorem rx_nl_cat {ls : List Value} {a j : Nat} {v : Value} (hn : rx_nl ls a = true) (hj : ls[j]? = some v) (e : j + 1 = a) : ¬ v.category = 2 := by
  subst e
  have h1 : (match ls[j]? with
    | some (.long _) => false
    | some (.double _) => false
    | _ => true) = true := hn
  rw [hj] at h1
  cases v with
  | long x => cases h1
  | double x => cases h1
  | _ => simp [Value.category]
theorem rx_LS_set {b bs : Nat} {lsA lsA' : Array Slot} {nL a : Nat} {ls : List Value} {v : Value} (h : rx_LS b bs lsA nL ls) (hn : rx_nl ls a = true)
    (h' : lv_has lsA' nL ((a, rx_tv b bs v) :: (rx_pr b bs ls).filter (fun q => !(q.1 == a) && !(q.1 + 1 == a && q.2.category == 2)))) : rx_LS b bs lsA' nL (ls.set a v) := by
  refine ⟨h'.1, h'.2.1, by rw [List.length_set]; exact h.2.2.1, fun j w hj hw => ?_⟩
  by_cases hja : j = a
  · subst hja
    have hl : j < ls.length := by
      have := (List.getElem?_eq_some_iff.mp hj).1
      rwa [List.length_set] at this
    rw [List.getElem?_set_self hl] at hj
    cases hj
    exact h'.2.2 _ List.mem_cons_self
  · rw [List.getElem?_set_ne (Ne.symm hja)] at hj
    refine h'.2.2 (j, rx_tv b bs w) (List.mem_cons_of_mem _ (List.mem_filter.mpr ⟨rx_pr_mem hj hw, ?_⟩))
    simp only [Bool.and_eq_true, Bool.not_eq_true', beq_eq_false_iff_ne, ne_eq, Bool.and_eq_false_iff]
    refine ⟨hja, ?_⟩
    by_cases e : j + 1 = a
    · exact Or.inr (by rw [rx_tv_cat]; exact rx_nl_cat hn hj e)
    · exact Or.inl e
theorem rx_LS_set2 {b bs : Nat} {lsA lsA' : Array Slot} {nL a : Nat} {ls : List Value} {x : Int64} (h : rx_LS b bs lsA nL ls) (hn : rx_nl ls a = true)
    (h' : lv_has lsA' nL ((a, Value.long x) :: (rx_pr b bs ls).filter (fun q => !(q.1 == a) && (!(q.1 == a + 1) && !(q.1 + 1 == a && q.2.category == 2))))) : rx_LS b bs lsA' nL ((ls.set a (.long x)).set (a + 1) .null) := by
  refine ⟨h'.1, h'.2.1, by rw [List.length_set, List.length_set]; exact h.2.2.1, fun j w hj hw => ?_⟩
  by_cases hj1 : j = a + 1
  · subst hj1
    have hl : a + 1 < (ls.set a (.long x)).length := by
      have := (List.getElem?_eq_some_iff.mp hj).1
      rwa [List.length_set] at this
    rw [List.getElem?_set_self hl] at hj
    cases hj
    exact absurd rfl hw
  · rw [List.getElem?_set_ne (Ne.symm hj1)] at hj
    by_cases hja : j = a
    · subst hja
      have hl : j < ls.length := by
        have := (List.getElem?_eq_some_iff.mp hj).1
        rwa [List.length_set] at this
      rw [List.getElem?_set_self hl] at hj
      cases hj
      exact h'.2.2 _ List.mem_cons_self
    · rw [List.getElem?_set_ne (Ne.symm hja)] at hj
      refine h'.2.2 (j, rx_tv b bs w) (List.mem_cons_of_mem _ (List.mem_filter.mpr ⟨rx_pr_mem hj hw, ?_⟩))
      simp only [Bool.and_eq_true, Bool.not_eq_true', beq_eq_false_iff_ne, ne_eq, Bool.and_eq_false_iff]
      refine ⟨hja, hj1, ?_⟩
      by_cases e : j + 1 = a
      · exact Or.inr (by rw [rx_tv_cat]; exact rx_nl_cat hn hj e)
      · exact Or.inl e
theorem rx_xp_len (b bs : Nat) : ∀ As : List Value, (lg_sl (As.map (rx_tv b bs))).length = (rx_xp As).length
  | [] => rfl
  | v :: t => by
    have ih := rx_xp_len b bs t
    have e : lg_sl ((v :: t).map (rx_tv b bs)) = (if (rx_tv b bs v).category = 2 then [.val (rx_tv b bs v), .second] else [.val (rx_tv b bs v)]) ++ lg_sl (t.map (rx_tv b bs)) := by simp [lg_sl]
    rw [e, List.length_append, ih]
    cases v <;> simp [rx_xp, rx_tv, Value.category] <;> omega
theorem rx_xp_at (b bs : Nat) : ∀ (As : List Value) (i : Nat) (v : Value), (rx_xp As)[i]? = some v → v ≠ .null → (lg_sl (As.map (rx_tv b bs)))[i]? = some (.val (rx_tv b bs v))
  | [], i, v, h, _ => by simp [rx_xp] at h
  | w :: t, i, v, h, hv => by
    have ih := rx_xp_at b bs t
    have e : lg_sl ((w :: t).map (rx_tv b bs)) = (if (rx_tv b bs w).category = 2 then [.val (rx_tv b bs w), .second] else [.val (rx_tv b bs w)]) ++ lg_sl (t.map (rx_tv b bs)) := by simp [lg_sl]
    rw [e]
    cases w with
    | long x =>
      have h1 : ([Value.long x, .null] ++ rx_xp t)[i]? = some v := h
      show ([Slot.val (.long x), .second] ++ lg_sl (t.map (rx_tv b bs)))[i]? = _
      rcases i with _ | _ | i
      · cases h1; rfl
      · cases h1; exact absurd rfl hv
      · exact ih i v h1 hv
    | double x =>
      have h1 : ([Value.double x, .null] ++ rx_xp t)[i]? = some v := h
      show ([Slot.val (.double x), .second] ++ lg_sl (t.map (rx_tv b bs)))[i]? = _
      rcases i with _ | _ | i
      · cases h1; rfl
      · cases h1; exact absurd rfl hv
      · exact ih i v h1 hv
    | int x =>
      have h1 : ([Value.int x] ++ rx_xp t)[i]? = some v := h
      show ([Slot.val (.int x)] ++ lg_sl (t.map (rx_tv b bs)))[i]? = _
      rcases i with _ | i
      · cases h1; rfl
      · exact ih i v h1 hv
    | float x =>
      have h1 : ([Value.float x] ++ rx_xp t)[i]? = some v := h
      show ([Slot.val (.float x)] ++ lg_sl (t.map (rx_tv b bs)))[i]? = _
      rcases i with _ | i
      · cases h1; rfl
      · exact ih i v h1 hv
    | null =>
      have h1 : ([Value.null] ++ rx_xp t)[i]? = some v := h
      show ([Slot.val .null] ++ lg_sl (t.map (rx_tv b bs)))[i]? = _
      rcases i with _ | i
      · cases h1; rfl
      · exact ih i v h1 hv
    | ref x =>
      have h1 : ([Value.ref x] ++ rx_xp t)[i]? = some v := h
      show ([Slot.val (.ref (rx_ta b bs x))] ++ lg_sl (t.map (rx_tv b bs)))[i]? = _
      rcases i with _ | i
      · cases h1; rfl
      · exact ih i v h1 hv
    | retAddr x =>
      have h1 : ([Value.retAddr x] ++ rx_xp t)[i]? = some v := h
      show ([Slot.val (.retAddr x)] ++ lg_sl (t.map (rx_tv b bs)))[i]? = _
      rcases i with _ | i
      · cases h1; rfl
      · exact ih i v h1 hv
theorem rx_LS_entry (b bs a : Nat) (As : List Value) (hl : (rx_xp As).length ≤ rx_ml a) : rx_LS b bs ((lg_sl (As.map (rx_tv b bs)) ++ List.replicate (rx_ml a - (lg_sl (As.map (rx_tv b bs))).length) Slot.unset).toArray) (rx_ml a) (rx_en a As) := by
  have hl' : (lg_sl (As.map (rx_tv b bs))).length ≤ rx_ml a := by rw [rx_xp_len]; exact hl
  have h := lv_entry (As.map (rx_tv b bs)) hl'
  refine ⟨h.1, h.2.1, by simp [rx_en]; omega, fun i v hi hv => ?_⟩
  rw [List.getElem?_toArray]
  unfold rx_en at hi
  by_cases hil : i < (rx_xp As).length
  · rw [List.getElem?_append_left hil] at hi
    rw [List.getElem?_append_left (by rw [rx_xp_len]; exact hil)]
    exact rx_xp_at b bs As i v hi hv
  · rw [List.getElem?_append_right (by omega)] at hi
    have := List.mem_of_getElem? hi
    exact absurd (List.eq_of_mem_replicate this) hv
end
section
/-! ===== a frame's fixed facts, its moving ones, and what is to be shown of an instruction ===== -/
def rx_Fx (dC : Nat → ClassId) (dI : Nat → Nat → Nat) (dA : Nat → ClassId) (b bs L : Nat) (xs : Nat → Int32) (mi : Nat) (p : Program) (R : Room) (s : State) (m : MethodId) (args : Array Value) (meth : Method) (c : Code) : Prop :=
  p.tables.exec = Jvm.exec ∧ c.code = rx_cc mi ∧ c.maxLocals = rx_ml mi ∧ s.vm.findClass (rx_y mi).cls = some m.cls ∧ (∀ w ∈ rx_g, w.before args s = true) ∧ rx_K dC dI dA s ∧ va_X b L xs s s.heap ∧ b ≤ bs ∧ rx_fr mi ≤ R.frames ∧ rx_lo mi ≤ R.locals ∧ meth.name = (rx_y mi).name
def rx_Dy (dC : Nat → ClassId) (dI : Nat → Nat → Nat) (dA : Nat → ClassId) (b bs L : Nat) (xs : Nat → Int32) (mi : Nat) (s : State) (H : Heap) (locs : List Loc) (lsA : Array Slot) (ls : List Value) (h : rx_H) : Prop :=
  rx_G dC dI dA b bs L xs h H ∧ (∀ q : Nat, q ≤ bs → H[q]? = s.heap[q]?) ∧ (∀ q ∈ locs, bs < q.base) ∧ rx_LS b bs lsA (rx_ml mi) ls
def rx_rdec (mi pc : Nat) (r : Option Value) : Prop := match r with
  | some (.int x) => decode (rx_cc mi) pc = .ok (.ireturn, 1) ∧ (rx_rt mi = some .int ∨ (rx_rt mi = some .boolean ∧ (x = 0 ∨ x = 1)))
  | some (.long _) => decode (rx_cc mi) pc = .ok (.lreturn, 1) ∧ rx_rt mi = some .long
  | some (.ref _) => decode (rx_cc mi) pc = .ok (.areturn, 1) ∧ ((∃ n, rx_rt mi = some (.object n)) ∨ ∃ t, rx_rt mi = some (.array t))
  | none => decode (rx_cc mi) pc = .ok (.return_, 1) ∧ rx_rt mi = none
  | _ => False
def rx_P (l : Launch) (dC : Nat → ClassId) (dI : Nat → Nat → Nat) (dA : Nat → ClassId) (b bs L : Nat) (xs : Nat → Int32) : rx_PT := fun mi pc ls st h Q =>
  (∃ r h', Q r h' ∧ h.1 ≤ h'.1 ∧ h.2.1 ≤ h'.2.1) ∧
  ∀ (p : Program) (e : Env) (R : Room) (s : State) (m : MethodId) (args : Array Value) (below : List Frame) (meth : Method) (c : Code) (H : Heap) (locs : List Loc) (lsA : Array Slot) (cells slots n0 m0 : Nat) (Z : State → Prop),
    rx_Fx dC dI dA b bs L xs mi p R s m args meth c → rx_Dy dC dI dA b bs L xs mi s H locs lsA ls h → cells + n0 = h.1 → slots + m0 = h.2.1 →
    (∀ r h', Q r h' → h'.1 ≤ n0 + R.cells ∧ h'.2.1 ≤ m0 + R.slots) →
    (∀ (r : Option Value) (h' : rx_H) (H1 : Heap) (locs1 : List Loc) (pc1 : Nat) (ls1 : Array Slot), Q r h' → rx_G dC dI dA b bs L xs h' H1 → (∀ q : Nat, q ≤ bs → H1[q]? = s.heap[q]?) → (∀ q ∈ locs1, bs < q.base) → n0 ≤ h'.1 → m0 ≤ h'.2.1 → rx_rdec mi pc1 r →
      W p l e R s m args below meth c H1 locs1 (h'.1 - n0) (h'.2.1 - m0) Z (F0 m pc1 ls1 (r.toList.map (rx_tv b bs)))) →
    W p l e R s m args below meth c H locs cells slots Z (F0 m pc lsA (st.map (rx_tv b bs)))
section RXN
variable {l : Launch} {dC : Nat → ClassId} {dI : Nat → Nat → Nat} {dA : Nat → ClassId} {b bs L : Nat} {xs : Nat → Int32} {mi pc pc' : Nat} {ls ls' st st' : List Value} {h h' : rx_H} {Q : Option Value → rx_H → Prop}
theorem rx_P_nx (hm : h.1 ≤ h'.1 ∧ h.2.1 ≤ h'.2.1)
    (hs : ∀ (p : Program) (e : Env) (R : Room) (s : State) (m : MethodId) (args : Array Value) (below : List Frame) (meth : Method) (c : Code) (H : Heap) (locs : List Loc) (lsA : Array Slot) (cells slots : Nat) (Z : State → Prop),
      rx_Fx dC dI dA b bs L xs mi p R s m args meth c → rx_Dy dC dI dA b bs L xs mi s H locs lsA ls h → cells + (h'.1 - h.1) ≤ R.cells → slots + (h'.2.1 - h.2.1) ≤ R.slots →
      (∀ (H1 : Heap) (locs1 : List Loc) (lsA1 : Array Slot), rx_Dy dC dI dA b bs L xs mi s H1 locs1 lsA1 ls' h' → W p l e R s m args below meth c H1 locs1 (cells + (h'.1 - h.1)) (slots + (h'.2.1 - h.2.1)) Z (F0 m pc' lsA1 (st'.map (rx_tv b bs)))) →
      W p l e R s m args below meth c H locs cells slots Z (F0 m pc lsA (st.map (rx_tv b bs))))
    (hk : rx_P l dC dI dA b bs L xs mi pc' ls' st' h' Q) : rx_P l dC dI dA b bs L xs mi pc ls st h Q := by
  obtain ⟨⟨r, h2, hq, m1, m2⟩, hk⟩ := hk
  refine ⟨⟨r, h2, hq, Nat.le_trans hm.1 m1, Nat.le_trans hm.2 m2⟩, ?_⟩
  intro p e R s m args below meth c H locs lsA cells slots n0 m0 Z hF hD hc hsl hroom hend
  have hr := hroom r h2 hq
  refine hs p e R s m args below meth c H locs lsA cells slots Z hF hD (by omega) (by omega) (fun H1 locs1 lsA1 hD1 => ?_)
  exact hk p e R s m args below meth c H1 locs1 lsA1 _ _ n0 m0 Z hF hD1 (by omega) (by omega) hroom hend
/-- an instruction that leaves the heap -/
theorem rx_P_ls
    (hs : ∀ (p : Program) (e : Env) (R : Room) (s : State) (m : MethodId) (args : Array Value) (below : List Frame) (meth : Method) (c : Code) (H : Heap) (locs : List Loc) (lsA : Array Slot) (cells slots : Nat) (Z : State → Prop),
      rx_Fx dC dI dA b bs L xs mi p R s m args meth c → rx_Dy dC dI dA b bs L xs mi s H locs lsA ls h →
      (∀ lsA1 : Array Slot, rx_LS b bs lsA1 (rx_ml mi) ls' → W p l e R s m args below meth c H locs cells slots Z (F0 m pc' lsA1 (st'.map (rx_tv b bs)))) →
      W p l e R s m args below meth c H locs cells slots Z (F0 m pc lsA (st.map (rx_tv b bs))))
    (hk : rx_P l dC dI dA b bs L xs mi pc' ls' st' h Q) : rx_P l dC dI dA b bs L xs mi pc ls st h Q := by
  refine rx_P_nx ⟨Nat.le_refl _, Nat.le_refl _⟩ ?_ hk
  intro p e R s m args below meth c H locs lsA cells slots Z hF hD hc hsl hW
  refine hs p e R s m args below meth c H locs lsA cells slots Z hF hD (fun lsA1 hL => ?_)
  have := hW H locs lsA1 ⟨hD.1, hD.2.1, hD.2.2.1, hL⟩
  simpa using this
theorem rx_P_st
    (hs : ∀ (p : Program) (e : Env) (R : Room) (s : State) (m : MethodId) (args : Array Value) (below : List Frame) (meth : Method) (c : Code) (H : Heap) (locs : List Loc) (lsA : Array Slot) (cells slots : Nat) (Z : State → Prop),
      rx_Fx dC dI dA b bs L xs mi p R s m args meth c → rx_Dy dC dI dA b bs L xs mi s H locs lsA ls h →
      W p l e R s m args below meth c H locs cells slots Z (F0 m pc' lsA (st'.map (rx_tv b bs))) →
      W p l e R s m args below meth c H locs cells slots Z (F0 m pc lsA (st.map (rx_tv b bs))))
    (hk : rx_P l dC dI dA b bs L xs mi pc' ls st' h Q) : rx_P l dC dI dA b bs L xs mi pc ls st h Q :=
  rx_P_ls (fun p e R s m args below meth c H locs lsA cells slots Z hF hD hW => hs p e R s m args below meth c H locs lsA cells slots Z hF hD (hW lsA hD.2.2.2)) hk
/-- one that writes one cell -/
theorem rx_P_wr {i : Nat} {cl : rx_C} (hi : ¬ i = 0)
    (hs : ∀ (p : Program) (e : Env) (R : Room) (s : State) (m : MethodId) (args : Array Value) (below : List Frame) (meth : Method) (c : Code) (H : Heap) (locs : List Loc) (lsA : Array Slot) (cells slots : Nat) (Z : State → Prop),
      rx_Fx dC dI dA b bs L xs mi p R s m args meth c → rx_Dy dC dI dA b bs L xs mi s H locs lsA ls h →
      (∀ (H1 : Heap) (locs1 : List Loc), va_at (dC, dI) rx_kinds (bs + i, rx_te dA b bs cl) H1 → H1.size = H.size → (∀ q : Nat, q ≠ bs + i → H1[q]? = H[q]?) → (∀ q ∈ locs1, q ∈ locs ∨ q.base = bs + i) → W p l e R s m args below meth c H1 locs1 cells slots Z (F0 m pc' lsA (st'.map (rx_tv b bs)))) →
      W p l e R s m args below meth c H locs cells slots Z (F0 m pc lsA (st.map (rx_tv b bs))))
    (hk : rx_P l dC dI dA b bs L xs mi pc' ls st' (rx_up h i cl) Q) : rx_P l dC dI dA b bs L xs mi pc ls st h Q := by
  refine rx_P_nx (h' := rx_up h i cl) ⟨Nat.le_refl _, Nat.le_refl _⟩ ?_ hk
  intro p e R s m args below meth c H locs lsA cells slots Z hF hD hc hsl hW
  refine hs p e R s m args below meth c H locs lsA cells slots Z hF hD (fun H1 locs1 e1 e2 e3 e4 => ?_)
  have := hW H1 locs1 lsA ⟨rx_G_up hD.1 hi e1 e2 e3, fun q hq => (e3 q (by omega)).trans (hD.2.1 q hq), fun q hq => ?_, hD.2.2.2⟩
  · simpa [rx_up] using this
  · rcases e4 q hq with h1 | h1
    · exact hD.2.2.1 q h1
    · rw [h1]; omega
/-- one that makes a cell of n slots -/
theorem rx_P_mk {n : Nat} {cl : rx_C}
    (hs : ∀ (p : Program) (e : Env) (R : Room) (s : State) (m : MethodId) (args : Array Value) (below : List Frame) (meth : Method) (c : Code) (H : Heap) (locs : List Loc) (lsA : Array Slot) (cells slots : Nat) (Z : State → Prop),
      rx_Fx dC dI dA b bs L xs mi p R s m args meth c → rx_Dy dC dI dA b bs L xs mi s H locs lsA ls h → cells + 1 ≤ R.cells → slots + n ≤ R.slots →
      (∀ H1 : Heap, va_at (dC, dI) rx_kinds (H.size, rx_te dA b bs cl) H1 → H1.size = H.size + 1 → (∀ q : Nat, q < H.size → H1[q]? = H[q]?) → W p l e R s m args below meth c H1 locs (cells + 1) (slots + n) Z (F0 m pc' lsA (.ref H.size :: st'.map (rx_tv b bs)))) →
      W p l e R s m args below meth c H locs cells slots Z (F0 m pc lsA (st.map (rx_tv b bs))))
    (hk : rx_P l dC dI dA b bs L xs mi pc' ls (.ref h.1 :: st') (rx_nw h n cl) Q) : rx_P l dC dI dA b bs L xs mi pc ls st h Q := by
  refine rx_P_nx (h' := rx_nw h n cl) ⟨Nat.le_succ _, Nat.le_add_right _ _⟩ ?_ hk
  intro p e R s m args below meth c H locs lsA cells slots Z hF hD hc hsl hW
  have c1 : (rx_nw h n cl).1 - h.1 = 1 := by simp [rx_nw]
  have c2 : (rx_nw h n cl).2.1 - h.2.1 = n := by simp [rx_nw]
  rw [c1] at hc hW
  rw [c2] at hsl hW
  have hz : H.size = bs + h.1 := hD.1.1
  refine hs p e R s m args below meth c H locs lsA cells slots Z hF hD hc hsl (fun H1 e1 e2 e3 => ?_)
  have := hW H1 locs lsA ⟨rx_G_nw hD.1 (by rw [← hz]; exact e1) (by rw [← hz]; exact e2) (by rw [← hz]; exact e3), fun q hq => (e3 q (by have := hD.1.2.1; omega)).trans (hD.2.1 q hq), hD.2.2.1, hD.2.2.2⟩
  have hne : ¬ h.1 = 0 := by have := hD.1.2.1; omega
  have e9 : (List.map (rx_tv b bs) (.ref h.1 :: st')) = .ref H.size :: st'.map (rx_tv b bs) := by
    rw [List.map_cons]
    show Value.ref (rx_ta b bs h.1) :: _ = _
    rw [rx_ta, if_neg hne, hz]
  rw [e9] at this
  exact this
/-- a cell of the picture, at its address -/
theorem rx_Dy_at {s : State} {H : Heap} {locs : List Loc} {lsA : Array Slot} (hD : rx_Dy dC dI dA b bs L xs mi s H locs lsA ls h) {i : Nat} {c : rx_C} (hi : ¬ i = 0) (hr : rx_rd h i = some c) : va_P (dC, dI) rx_kinds [(bs + i, rx_te dA b bs c)] H := by
  intro k q hk
  rcases k with _ | k
  · cases hk
    exact hD.1.2.2.2 i c (by omega) hr
  · simp at hk
end RXN
theorem rx_lk : ∀ (t : List (Nat × rx_I × List Nat)) (pc : Nat) (q : rx_I × List Nat), t.lookup pc = some q → (pc, q) ∈ t
  | [], _, _, h => by simp at h
  | (a, r) :: t, pc, q, h => by
    rw [List.lookup_cons] at h
    cases hb : pc == a with
    | true =>
      rw [hb] at h
      have e : pc = a := by simpa using hb
      cases h
      rw [e]
      exact List.mem_cons_self
    | false =>
      rw [hb] at h
      exact List.mem_cons_of_mem _ (rx_lk t pc q h)
theorem rx_g_in {mi : Nat} {i : rx_I} {ps : List Nat} (h1 : rx_need mi i = ps.filterMap (fun j => lw_tbl[j]?)) (h2 : (rx_need mi i).all goodWord = true) : ∀ w ∈ rx_need mi i, w ∈ rx_g := by
  intro w hw
  refine List.mem_filter.mpr ⟨?_, List.all_eq_true.mp h2 w hw⟩
  rw [h1] at hw
  obtain ⟨j, -, hj⟩ := List.mem_filterMap.mp hw
  exact List.mem_of_getElem? hj
end
section
theorem rx_ly_0 : u_ws RX0 TX0 6 = [215, 217, 219, 221, 223, 225].filterMap (fun j => lw_tbl[j]?) ∧ (u_ws RX0 TX0 6).all goodWord = true := by decide +kernel
theorem rx_ly_1 : u_ws RX1 TX1 9 = [265, 267, 269, 271, 273, 275, 277, 279, 281].filterMap (fun j => lw_tbl[j]?) ∧ (u_ws RX1 TX1 9).all goodWord = true := by decide +kernel
theorem rx_ly_2 : u_ws RX2 TX2 4 = [238, 240, 242, 244].filterMap (fun j => lw_tbl[j]?) ∧ (u_ws RX2 TX2 4).all goodWord = true := by decide +kernel
theorem rx_ly_3 : u_ws RX3 TX3 3 = [132, 134, 136].filterMap (fun j => lw_tbl[j]?) ∧ (u_ws RX3 TX3 3).all goodWord = true := by decide +kernel
theorem rx_ly_4 : u_ws RX4 TX4 3 = [120, 122, 124].filterMap (fun j => lw_tbl[j]?) ∧ (u_ws RX4 TX4 3).all goodWord = true := by decide +kernel
theorem rx_ly_5 : u_ws RX5 TX5 7 = [188, 190, 192, 194, 196, 198, 200].filterMap (fun j => lw_tbl[j]?) ∧ (u_ws RX5 TX5 7).all goodWord = true := by decide +kernel
theorem rx_ly_6 : u_ws RX6 TX6 8 = [156, 158, 160, 162, 164, 166, 168, 170].filterMap (fun j => lw_tbl[j]?) ∧ (u_ws RX6 TX6 8).all goodWord = true := by decide +kernel
theorem rx_ly_7 : u_ws RX7 TX7 11 = [295, 297, 299, 301, 303, 305, 307, 309, 311, 313, 315].filterMap (fun j => lw_tbl[j]?) ∧ (u_ws RX7 TX7 11).all goodWord = true := by decide +kernel
theorem rx_ly_8 : u_ws RX8 TX8 16 = [781, 783, 785, 787, 789, 791, 793, 795, 797, 799, 801, 803, 805, 807, 809, 811].filterMap (fun j => lw_tbl[j]?) ∧ (u_ws RX8 TX8 16).all goodWord = true := by decide +kernel
theorem rx_lays_of {C : String} {T : u_T} {N : Nat} {ps : List Nat} (h : u_ws C T N = ps.filterMap (fun j => lw_tbl[j]?) ∧ (u_ws C T N).all goodWord = true) : ∀ w ∈ u_ws C T N, w ∈ rx_g := by
  intro w hw
  refine List.mem_filter.mpr ⟨?_, List.all_eq_true.mp h.2 w hw⟩
  rw [h.1] at hw
  obtain ⟨j, -, hj⟩ := List.mem_filterMap.mp hw
  exact List.mem_of_getElem? hj
theorem rx_lays (a : Nat) (h : a < 9) : ∀ w ∈ u_ws (rx_Rn a) (rx_T a) (rx_N a), w ∈ rx_g := by
  rcases a with _ | _ | _ | _ | _ | _ | _ | _ | _ | a
  · exact rx_lays_of rx_ly_0
  · exact rx_lays_of rx_ly_1
  · exact rx_lays_of rx_ly_2
  · exact rx_lays_of rx_ly_3
  · exact rx_lays_of rx_ly_4
  · exact rx_lays_of rx_ly_5
  · exact rx_lays_of rx_ly_6
  · exact rx_lays_of rx_ly_7
  · exact rx_lays_of rx_ly_8
  · omega
set_option maxRecDepth 20000 in
theorem rx_cd_0 : lw_tbl[207]? = some (Cond.code (rx_y 0) (rx_cc 0) (rx_ml 0) (rx_rt 0)) := rfl
set_option maxRecDepth 20000 in
theorem rx_cd_1 : lw_tbl[459]? = some (Cond.code (rx_y 1) (rx_cc 1) (rx_ml 1) (rx_rt 1)) := rfl
set_option maxRecDepth 20000 in
theorem rx_cd_2 : lw_tbl[571]? = some (Cond.code (rx_y 2) (rx_cc 2) (rx_ml 2) (rx_rt 2)) := rfl
set_option maxRecDepth 20000 in
theorem rx_cd_3 : lw_tbl[575]? = some (Cond.code (rx_y 3) (rx_cc 3) (rx_ml 3) (rx_rt 3)) := rfl
set_option maxRecDepth 20000 in
theorem rx_cd_4 : lw_tbl[485]? = some (Cond.code (rx_y 4) (rx_cc 4) (rx_ml 4) (rx_rt 4)) := rfl
set_option maxRecDepth 20000 in
theorem rx_cd_5 : lw_tbl[502]? = some (Cond.code (rx_y 5) (rx_cc 5) (rx_ml 5) (rx_rt 5)) := rfl
set_option maxRecDepth 20000 in
theorem rx_cd_6 : lw_tbl[497]? = some (Cond.code (rx_y 6) (rx_cc 6) (rx_ml 6) (rx_rt 6)) := rfl
set_option maxRecDepth 20000 in
theorem rx_cd_7 : lw_tbl[463]? = some (Cond.code (rx_y 7) (rx_cc 7) (rx_ml 7) (rx_rt 7)) := rfl
set_option maxRecDepth 20000 in
theorem rx_cd_8 : lw_tbl[468]? = some (Cond.code (rx_y 8) (rx_cc 8) (rx_ml 8) (rx_rt 8)) := rfl
set_option maxRecDepth 20000 in
theorem rx_cd_9 : lw_tbl[472]? = some (Cond.code (rx_y 9) (rx_cc 9) (rx_ml 9) (rx_rt 9)) := rfl
set_option maxRecDepth 20000 in
theorem rx_cd_10 : lw_tbl[477]? = some (Cond.code (rx_y 10) (rx_cc 10) (rx_ml 10) (rx_rt 10)) := rfl
set_option maxRecDepth 20000 in
theorem rx_cd_11 : lw_tbl[481]? = some (Cond.code (rx_y 11) (rx_cc 11) (rx_ml 11) (rx_rt 11)) := rfl
set_option maxRecDepth 20000 in
theorem rx_cd_12 : lw_tbl[251]? = some (Cond.code (rx_y 12) (rx_cc 12) (rx_ml 12) (rx_rt 12)) := rfl
set_option maxRecDepth 20000 in
theorem rx_cd_13 : lw_tbl[532]? = some (Cond.code (rx_y 13) (rx_cc 13) (rx_ml 13) (rx_rt 13)) := rfl
set_option maxRecDepth 20000 in
theorem rx_cd_14 : lw_tbl[629]? = some (Cond.code (rx_y 14) (rx_cc 14) (rx_ml 14) (rx_rt 14)) := rfl
set_option maxRecDepth 20000 in
theorem rx_cd_15 : lw_tbl[633]? = some (Cond.code (rx_y 15) (rx_cc 15) (rx_ml 15) (rx_rt 15)) := rfl
set_option maxRecDepth 20000 in
theorem rx_cd_16 : lw_tbl[700]? = some (Cond.code (rx_y 16) (rx_cc 16) (rx_ml 16) (rx_rt 16)) := rfl
set_option maxRecDepth 20000 in
theorem rx_cd_17 : lw_tbl[646]? = some (Cond.code (rx_y 17) (rx_cc 17) (rx_ml 17) (rx_rt 17)) := rfl
set_option maxRecDepth 20000 in
theorem rx_cd_18 : lw_tbl[637]? = some (Cond.code (rx_y 18) (rx_cc 18) (rx_ml 18) (rx_rt 18)) := rfl
set_option maxRecDepth 20000 in
theorem rx_cd_19 : lw_tbl[641]? = some (Cond.code (rx_y 19) (rx_cc 19) (rx_ml 19) (rx_rt 19)) := rfl
set_option maxRecDepth 20000 in
theorem rx_cd_20 : lw_tbl[538]? = some (Cond.code (rx_y 20) (rx_cc 20) (rx_ml 20) (rx_rt 20)) := rfl
set_option maxRecDepth 20000 in
theorem rx_cd_21 : lw_tbl[542]? = some (Cond.code (rx_y 21) (rx_cc 21) (rx_ml 21) (rx_rt 21)) := rfl
set_option maxRecDepth 20000 in
theorem rx_cd_22 : lw_tbl[547]? = some (Cond.code (rx_y 22) (rx_cc 22) (rx_ml 22) (rx_rt 22)) := rfl
set_option maxRecDepth 20000 in
theorem rx_cd_23 : lw_tbl[551]? = some (Cond.code (rx_y 23) (rx_cc 23) (rx_ml 23) (rx_rt 23)) := rfl
set_option maxRecDepth 20000 in
theorem rx_cd_24 : lw_tbl[554]? = some (Cond.code (rx_y 24) (rx_cc 24) (rx_ml 24) (rx_rt 24)) := rfl
set_option maxRecDepth 20000 in
theorem rx_cd_25 : lw_tbl[558]? = some (Cond.code (rx_y 25) (rx_cc 25) (rx_ml 25) (rx_rt 25)) := rfl
set_option maxRecDepth 20000 in
theorem rx_cd_26 : lw_tbl[232]? = some (Cond.code (rx_y 26) (rx_cc 26) (rx_ml 26) (rx_rt 26)) := rfl
set_option maxRecDepth 20000 in
theorem rx_cd_27 : lw_tbl[428]? = some (Cond.code (rx_y 27) (rx_cc 27) (rx_ml 27) (rx_rt 27)) := rfl
set_option maxRecDepth 20000 in
theorem rx_cd_28 : lw_tbl[439]? = some (Cond.code (rx_y 28) (rx_cc 28) (rx_ml 28) (rx_rt 28)) := rfl
set_option maxRecDepth 20000 in
theorem rx_cd_29 : lw_tbl[449]? = some (Cond.code (rx_y 29) (rx_cc 29) (rx_ml 29) (rx_rt 29)) := rfl
set_option maxRecDepth 20000 in
theorem rx_cd_30 : lw_tbl[434]? = some (Cond.code (rx_y 30) (rx_cc 30) (rx_ml 30) (rx_rt 30)) := rfl
set_option maxRecDepth 20000 in
theorem rx_cd_31 : lw_tbl[444]? = some (Cond.code (rx_y 31) (rx_cc 31) (rx_ml 31) (rx_rt 31)) := rfl
set_option maxRecDepth 20000 in
theorem rx_cd_32 : lw_tbl[101]? = some (Cond.code (rx_y 32) (rx_cc 32) (rx_ml 32) (rx_rt 32)) := rfl
set_option maxRecDepth 20000 in
theorem rx_cd_33 : lw_tbl[336]? = some (Cond.code (rx_y 33) (rx_cc 33) (rx_ml 33) (rx_rt 33)) := rfl
set_option maxRecDepth 20000 in
theorem rx_cd_34 : lw_tbl[735]? = some (Cond.code (rx_y 34) (rx_cc 34) (rx_ml 34) (rx_rt 34)) := rfl
set_option maxRecDepth 20000 in
theorem rx_cd_35 : lw_tbl[107]? = some (Cond.code (rx_y 35) (rx_cc 35) (rx_ml 35) (rx_rt 35)) := rfl
set_option maxRecDepth 20000 in
theorem rx_cd_36 : lw_tbl[350]? = some (Cond.code (rx_y 36) (rx_cc 36) (rx_ml 36) (rx_rt 36)) := rfl
set_option maxRecDepth 20000 in
theorem rx_cd_37 : lw_tbl[340]? = some (Cond.code (rx_y 37) (rx_cc 37) (rx_ml 37) (rx_rt 37)) := rfl
set_option maxRecDepth 20000 in
theorem rx_cd_38 : lw_tbl[376]? = some (Cond.code (rx_y 38) (rx_cc 38) (rx_ml 38) (rx_rt 38)) := rfl
set_option maxRecDepth 20000 in
theorem rx_cd_39 : lw_tbl[372]? = some (Cond.code (rx_y 39) (rx_cc 39) (rx_ml 39) (rx_rt 39)) := rfl
set_option maxRecDepth 20000 in
theorem rx_cd_40 : lw_tbl[383]? = some (Cond.code (rx_y 40) (rx_cc 40) (rx_ml 40) (rx_rt 40)) := rfl
set_option maxRecDepth 20000 in
theorem rx_cd_41 : lw_tbl[401]? = some (Cond.code (rx_y 41) (rx_cc 41) (rx_ml 41) (rx_rt 41)) := rfl
set_option maxRecDepth 20000 in
theorem rx_cd_42 : lw_tbl[413]? = some (Cond.code (rx_y 42) (rx_cc 42) (rx_ml 42) (rx_rt 42)) := rfl
set_option maxRecDepth 20000 in
theorem rx_cd_43 : lw_tbl[516]? = some (Cond.code (rx_y 43) (rx_cc 43) (rx_ml 43) (rx_rt 43)) := rfl
set_option maxRecDepth 20000 in
theorem rx_cd_44 : lw_tbl[520]? = some (Cond.code (rx_y 44) (rx_cc 44) (rx_ml 44) (rx_rt 44)) := rfl
set_option maxRecDepth 20000 in
theorem rx_cd_45 : lw_tbl[524]? = some (Cond.code (rx_y 45) (rx_cc 45) (rx_ml 45) (rx_rt 45)) := rfl
set_option maxRecDepth 20000 in
theorem rx_cd_46 : lw_tbl[489]? = some (Cond.code (rx_y 46) (rx_cc 46) (rx_ml 46) (rx_rt 46)) := rfl
set_option maxRecDepth 20000 in
theorem rx_cd_47 : lw_tbl[493]? = some (Cond.code (rx_y 47) (rx_cc 47) (rx_ml 47) (rx_rt 47)) := rfl
set_option maxRecDepth 20000 in
theorem rx_cd_48 : lw_tbl[387]? = some (Cond.code (rx_y 48) (rx_cc 48) (rx_ml 48) (rx_rt 48)) := rfl
set_option maxRecDepth 20000 in
theorem rx_cd_49 : lw_tbl[178]? = some (Cond.code (rx_y 49) (rx_cc 49) (rx_ml 49) (rx_rt 49)) := rfl
set_option maxRecDepth 20000 in
theorem rx_cd_50 : lw_tbl[657]? = some (Cond.code (rx_y 50) (rx_cc 50) (rx_ml 50) (rx_rt 50)) := rfl
set_option maxRecDepth 20000 in
theorem rx_cd_51 : lw_tbl[709]? = some (Cond.code (rx_y 51) (rx_cc 51) (rx_ml 51) (rx_rt 51)) := rfl
set_option maxRecDepth 20000 in
theorem rx_cd_52 : lw_tbl[719]? = some (Cond.code (rx_y 52) (rx_cc 52) (rx_ml 52) (rx_rt 52)) := rfl
set_option maxRecDepth 20000 in
theorem rx_cd_53 : lw_tbl[723]? = some (Cond.code (rx_y 53) (rx_cc 53) (rx_ml 53) (rx_rt 53)) := rfl
set_option maxRecDepth 20000 in
theorem rx_cd_54 : lw_tbl[661]? = some (Cond.code (rx_y 54) (rx_cc 54) (rx_ml 54) (rx_rt 54)) := rfl
set_option maxRecDepth 20000 in
theorem rx_cd_55 : lw_tbl[667]? = some (Cond.code (rx_y 55) (rx_cc 55) (rx_ml 55) (rx_rt 55)) := rfl
set_option maxRecDepth 20000 in
theorem rx_cd_56 : lw_tbl[672]? = some (Cond.code (rx_y 56) (rx_cc 56) (rx_ml 56) (rx_rt 56)) := rfl
set_option maxRecDepth 20000 in
theorem rx_cd_57 : lw_tbl[705]? = some (Cond.code (rx_y 57) (rx_cc 57) (rx_ml 57) (rx_rt 57)) := rfl
set_option maxRecDepth 20000 in
theorem rx_cd_58 : lw_tbl[696]? = some (Cond.code (rx_y 58) (rx_cc 58) (rx_ml 58) (rx_rt 58)) := rfl
set_option maxRecDepth 20000 in
theorem rx_cd_59 : lw_tbl[143]? = some (Cond.code (rx_y 59) (rx_cc 59) (rx_ml 59) (rx_rt 59)) := rfl
set_option maxRecDepth 20000 in
theorem rx_cd_60 : lw_tbl[583]? = some (Cond.code (rx_y 60) (rx_cc 60) (rx_ml 60) (rx_rt 60)) := rfl
set_option maxRecDepth 20000 in
theorem rx_cd_61 : lw_tbl[625]? = some (Cond.code (rx_y 61) (rx_cc 61) (rx_ml 61) (rx_rt 61)) := rfl
set_option maxRecDepth 20000 in
theorem rx_cd_62 : lw_tbl[595]? = some (Cond.code (rx_y 62) (rx_cc 62) (rx_ml 62) (rx_rt 62)) := rfl
set_option maxRecDepth 20000 in
theorem rx_cd_63 : lw_tbl[599]? = some (Cond.code (rx_y 63) (rx_cc 63) (rx_ml 63) (rx_rt 63)) := rfl
set_option maxRecDepth 20000 in
theorem rx_cd_64 : lw_tbl[603]? = some (Cond.code (rx_y 64) (rx_cc 64) (rx_ml 64) (rx_rt 64)) := rfl
set_option maxRecDepth 20000 in
theorem rx_cd_65 : lw_tbl[606]? = some (Cond.code (rx_y 65) (rx_cc 65) (rx_ml 65) (rx_rt 65)) := rfl
set_option maxRecDepth 20000 in
theorem rx_cd_66 : lw_tbl[611]? = some (Cond.code (rx_y 66) (rx_cc 66) (rx_ml 66) (rx_rt 66)) := rfl
set_option maxRecDepth 20000 in
theorem rx_cd_67 : lw_tbl[615]? = some (Cond.code (rx_y 67) (rx_cc 67) (rx_ml 67) (rx_rt 67)) := rfl
set_option maxRecDepth 20000 in
theorem rx_cd_68 : lw_tbl[89]? = some (Cond.code (rx_y 68) (rx_cc 68) (rx_ml 68) (rx_rt 68)) := rfl
set_option maxRecDepth 20000 in
theorem rx_cd_69 : lw_tbl[321]? = some (Cond.code (rx_y 69) (rx_cc 69) (rx_ml 69) (rx_rt 69)) := rfl
set_option maxRecDepth 20000 in
theorem rx_cd_70 : lw_tbl[357]? = some (Cond.code (rx_y 70) (rx_cc 70) (rx_ml 70) (rx_rt 70)) := rfl
set_option maxRecDepth 20000 in
theorem rx_cd_71 : lw_tbl[397]? = some (Cond.code (rx_y 71) (rx_cc 71) (rx_ml 71) (rx_rt 71)) := rfl
set_option maxRecDepth 20000 in
theorem rx_cd_72 : lw_tbl[405]? = some (Cond.code (rx_y 72) (rx_cc 72) (rx_ml 72) (rx_rt 72)) := rfl
set_option maxRecDepth 20000 in
theorem rx_cd_73 : lw_tbl[417]? = some (Cond.code (rx_y 73) (rx_cc 73) (rx_ml 73) (rx_rt 73)) := rfl
set_option maxRecDepth 20000 in
theorem rx_cd_74 : lw_tbl[424]? = some (Cond.code (rx_y 74) (rx_cc 74) (rx_ml 74) (rx_rt 74)) := rfl
set_option maxRecDepth 20000 in
theorem rx_cd_75 : lw_tbl[455]? = some (Cond.code (rx_y 75) (rx_cc 75) (rx_ml 75) (rx_rt 75)) := rfl
set_option maxRecDepth 20000 in
theorem rx_cd_76 : lw_tbl[508]? = some (Cond.code (rx_y 76) (rx_cc 76) (rx_ml 76) (rx_rt 76)) := rfl
set_option maxRecDepth 20000 in
theorem rx_cd_77 : lw_tbl[562]? = some (Cond.code (rx_y 77) (rx_cc 77) (rx_ml 77) (rx_rt 77)) := rfl
set_option maxRecDepth 20000 in
theorem rx_cd_78 : lw_tbl[567]? = some (Cond.code (rx_y 78) (rx_cc 78) (rx_ml 78) (rx_rt 78)) := rfl
set_option maxRecDepth 20000 in
theorem rx_cd_79 : lw_tbl[579]? = some (Cond.code (rx_y 79) (rx_cc 79) (rx_ml 79) (rx_rt 79)) := rfl
set_option maxRecDepth 20000 in
theorem rx_cd_80 : lw_tbl[587]? = some (Cond.code (rx_y 80) (rx_cc 80) (rx_ml 80) (rx_rt 80)) := rfl
set_option maxRecDepth 20000 in
theorem rx_cd_81 : lw_tbl[591]? = some (Cond.code (rx_y 81) (rx_cc 81) (rx_ml 81) (rx_rt 81)) := rfl
set_option maxRecDepth 20000 in
theorem rx_cd_82 : lw_tbl[621]? = some (Cond.code (rx_y 82) (rx_cc 82) (rx_ml 82) (rx_rt 82)) := rfl
set_option maxRecDepth 20000 in
theorem rx_cd_83 : lw_tbl[650]? = some (Cond.code (rx_y 83) (rx_cc 83) (rx_ml 83) (rx_rt 83)) := rfl
set_option maxRecDepth 20000 in
theorem rx_cd_84 : lw_tbl[715]? = some (Cond.code (rx_y 84) (rx_cc 84) (rx_ml 84) (rx_rt 84)) := rfl
set_option maxRecDepth 20000 in
theorem rx_cd_85 : lw_tbl[727]? = some (Cond.code (rx_y 85) (rx_cc 85) (rx_ml 85) (rx_rt 85)) := rfl
set_option maxRecDepth 20000 in
theorem rx_cd_86 : lw_tbl[731]? = some (Cond.code (rx_y 86) (rx_cc 86) (rx_ml 86) (rx_rt 86)) := rfl
set_option maxRecDepth 20000 in
theorem rx_cd_87 : lw_tbl[739]? = some (Cond.code (rx_y 87) (rx_cc 87) (rx_ml 87) (rx_rt 87)) := rfl
set_option maxRecDepth 20000 in
theorem rx_cd_88 : lw_tbl[747]? = some (Cond.code (rx_y 88) (rx_cc 88) (rx_ml 88) (rx_rt 88)) := rfl
set_option maxRecDepth 20000 in
theorem rx_cd_89 : lw_tbl[753]? = some (Cond.code (rx_y 89) (rx_cc 89) (rx_ml 89) (rx_rt 89)) := rfl
set_option maxRecDepth 20000 in
theorem rx_cd_90 : lw_tbl[757]? = some (Cond.code (rx_y 90) (rx_cc 90) (rx_ml 90) (rx_rt 90)) := rfl
set_option maxRecDepth 20000 in
theorem rx_cd_91 : lw_tbl[743]? = some (Cond.code (rx_y 91) (rx_cc 91) (rx_ml 91) (rx_rt 91)) := rfl
set_option maxRecDepth 20000 in
theorem rx_cd_92 : lw_tbl[512]? = some (Cond.code (rx_y 92) (rx_cc 92) (rx_ml 92) (rx_rt 92)) := rfl
set_option maxRecDepth 20000 in
theorem rx_cd_93 : lw_tbl[332]? = some (Cond.code (rx_y 93) (rx_cc 93) (rx_ml 93) (rx_rt 93)) := rfl
set_option maxRecDepth 20000 in
theorem rx_cd_94 : lw_tbl[528]? = some (Cond.code (rx_y 94) (rx_cc 94) (rx_ml 94) (rx_rt 94)) := rfl
set_option maxRecDepth 20000 in
theorem rx_cd_95 : lw_tbl[328]? = some (Cond.code (rx_y 95) (rx_cc 95) (rx_ml 95) (rx_rt 95)) := rfl
set_option maxRecDepth 20000 in
theorem rx_cd_96 : lw_tbl[365]? = some (Cond.code (rx_y 96) (rx_cc 96) (rx_ml 96) (rx_rt 96)) := rfl
set_option maxRecDepth 20000 in
theorem rx_cd_97 : lw_tbl[361]? = some (Cond.code (rx_y 97) (rx_cc 97) (rx_ml 97) (rx_rt 97)) := rfl
set_option maxRecDepth 20000 in
theorem rx_cd_98 : lw_tbl[653]? = some (Cond.code (rx_y 98) (rx_cc 98) (rx_ml 98) (rx_rt 98)) := rfl
set_option maxRecDepth 20000 in
theorem rx_cd_99 : lw_tbl[324]? = some (Cond.code (rx_y 99) (rx_cc 99) (rx_ml 99) (rx_rt 99)) := rfl
set_option maxRecDepth 20000 in
theorem rx_cd_100 : lw_tbl[420]? = some (Cond.code (rx_y 100) (rx_cc 100) (rx_ml 100) (rx_rt 100)) := rfl
set_option maxRecDepth 20000 in
theorem rx_cd_101 : lw_tbl[368]? = some (Cond.code (rx_y 101) (rx_cc 101) (rx_ml 101) (rx_rt 101)) := rfl
set_option maxRecDepth 20000 in
theorem rx_cd_102 : lw_tbl[408]? = some (Cond.code (rx_y 102) (rx_cc 102) (rx_ml 102) (rx_rt 102)) := rfl
set_option maxRecDepth 20000 in
theorem rx_cd_103 : lw_tbl[379]? = some (Cond.code (rx_y 103) (rx_cc 103) (rx_ml 103) (rx_rt 103)) := rfl
set_option maxRecDepth 20000 in
theorem rx_cd_104 : lw_tbl[762]? = some (Cond.code (rx_y 104) (rx_cc 104) (rx_ml 104) (rx_rt 104)) := rfl
set_option maxRecDepth 20000 in
theorem rx_cd_105 : lw_tbl[831]? = some (Cond.code (rx_y 105) (rx_cc 105) (rx_ml 105) (rx_rt 105)) := rfl
set_option maxRecDepth 20000 in
theorem rx_cd_106 : lw_tbl[861]? = some (Cond.code (rx_y 106) (rx_cc 106) (rx_ml 106) (rx_rt 106)) := rfl
set_option maxRecDepth 20000 in
theorem rx_cd_107 : lw_tbl[868]? = some (Cond.code (rx_y 107) (rx_cc 107) (rx_ml 107) (rx_rt 107)) := rfl
set_option maxRecDepth 20000 in
theorem rx_cd_108 : lw_tbl[821]? = some (Cond.code (rx_y 108) (rx_cc 108) (rx_ml 108) (rx_rt 108)) := rfl
set_option maxRecDepth 20000 in
theorem rx_cd_109 : lw_tbl[828]? = some (Cond.code (rx_y 109) (rx_cc 109) (rx_ml 109) (rx_rt 109)) := rfl
set_option maxRecDepth 20000 in
theorem rx_cd_110 : lw_tbl[839]? = some (Cond.code (rx_y 110) (rx_cc 110) (rx_ml 110) (rx_rt 110)) := rfl
set_option maxRecDepth 20000 in
theorem rx_cd_111 : lw_tbl[851]? = some (Cond.code (rx_y 111) (rx_cc 111) (rx_ml 111) (rx_rt 111)) := rfl
set_option maxRecDepth 20000 in
theorem rx_cd_112 : lw_tbl[858]? = some (Cond.code (rx_y 112) (rx_cc 112) (rx_ml 112) (rx_rt 112)) := rfl
set_option maxRecDepth 20000 in
theorem rx_cd_113 : lw_tbl[855]? = some (Cond.code (rx_y 113) (rx_cc 113) (rx_ml 113) (rx_rt 113)) := rfl
set_option maxRecDepth 20000 in
theorem rx_cd_114 : lw_tbl[835]? = some (Cond.code (rx_y 114) (rx_cc 114) (rx_ml 114) (rx_rt 114)) := rfl
set_option maxRecDepth 20000 in
theorem rx_cd_115 : lw_tbl[817]? = some (Cond.code (rx_y 115) (rx_cc 115) (rx_ml 115) (rx_rt 115)) := rfl
set_option maxRecDepth 20000 in
theorem rx_cd_116 : lw_tbl[865]? = some (Cond.code (rx_y 116) (rx_cc 116) (rx_ml 116) (rx_rt 116)) := rfl
set_option maxRecDepth 20000 in
theorem rx_cd_117 : lw_tbl[825]? = some (Cond.code (rx_y 117) (rx_cc 117) (rx_ml 117) (rx_rt 117)) := rfl
set_option maxRecDepth 20000 in
theorem rx_cd_118 : lw_tbl[847]? = some (Cond.code (rx_y 118) (rx_cc 118) (rx_ml 118) (rx_rt 118)) := rfl
set_option maxRecDepth 20000 in
theorem rx_cd_119 : lw_tbl[843]? = some (Cond.code (rx_y 119) (rx_cc 119) (rx_ml 119) (rx_rt 119)) := rfl
set_option maxRecDepth 20000 in
theorem rx_cd_120 : lw_tbl[872]? = some (Cond.code (rx_y 120) (rx_cc 120) (rx_ml 120) (rx_rt 120)) := rfl
set_option maxRecDepth 20000 in
theorem rx_cd_121 : lw_tbl[880]? = some (Cond.code (rx_y 121) (rx_cc 121) (rx_ml 121) (rx_rt 121)) := rfl
set_option maxRecDepth 20000 in
theorem rx_cd_122 : lw_tbl[876]? = some (Cond.code (rx_y 122) (rx_cc 122) (rx_ml 122) (rx_rt 122)) := rfl
set_option maxRecDepth 20000 in
theorem rx_cd_123 : lw_tbl[884]? = some (Cond.code (rx_y 123) (rx_cc 123) (rx_ml 123) (rx_rt 123)) := rfl
set_option maxRecDepth 20000 in
theorem rx_cd_124 : lw_tbl[896]? = some (Cond.code (rx_y 124) (rx_cc 124) (rx_ml 124) (rx_rt 124)) := rfl
set_option maxRecDepth 20000 in
theorem rx_cd_125 : lw_tbl[900]? = some (Cond.code (rx_y 125) (rx_cc 125) (rx_ml 125) (rx_rt 125)) := rfl
set_option maxRecDepth 20000 in
theorem rx_cd_126 : lw_tbl[892]? = some (Cond.code (rx_y 126) (rx_cc 126) (rx_ml 126) (rx_rt 126)) := rfl
set_option maxRecDepth 20000 in
theorem rx_cd_127 : lw_tbl[904]? = some (Cond.code (rx_y 127) (rx_cc 127) (rx_ml 127) (rx_rt 127)) := rfl
set_option maxRecDepth 20000 in
theorem rx_cd_128 : lw_tbl[888]? = some (Cond.code (rx_y 128) (rx_cc 128) (rx_ml 128) (rx_rt 128)) := rfl
set_option maxRecDepth 20000 in
theorem rx_cd_129 : lw_tbl[920]? = some (Cond.code (rx_y 129) (rx_cc 129) (rx_ml 129) (rx_rt 129)) := rfl
set_option maxRecDepth 20000 in
theorem rx_cd_130 : lw_tbl[916]? = some (Cond.code (rx_y 130) (rx_cc 130) (rx_ml 130) (rx_rt 130)) := rfl
set_option maxRecDepth 20000 in
theorem rx_cd_131 : lw_tbl[912]? = some (Cond.code (rx_y 131) (rx_cc 131) (rx_ml 131) (rx_rt 131)) := rfl
set_option maxRecDepth 20000 in
theorem rx_cd_132 : lw_tbl[924]? = some (Cond.code (rx_y 132) (rx_cc 132) (rx_ml 132) (rx_rt 132)) := rfl
set_option maxRecDepth 20000 in
theorem rx_cd_133 : lw_tbl[927]? = some (Cond.code (rx_y 133) (rx_cc 133) (rx_ml 133) (rx_rt 133)) := rfl
set_option maxRecDepth 20000 in
theorem rx_cd_134 : lw_tbl[908]? = some (Cond.code (rx_y 134) (rx_cc 134) (rx_ml 134) (rx_rt 134)) := rfl
set_option maxRecDepth 20000 in
theorem rx_cd_135 : lw_tbl[931]? = some (Cond.code (rx_y 135) (rx_cc 135) (rx_ml 135) (rx_rt 135)) := rfl
set_option maxRecDepth 20000 in
theorem rx_cd_136 : lw_tbl[935]? = some (Cond.code (rx_y 136) (rx_cc 136) (rx_ml 136) (rx_rt 136)) := rfl
set_option maxRecDepth 20000 in
theorem rx_cd_137 : lw_tbl[999]? = some (Cond.code (rx_y 137) (rx_cc 137) (rx_ml 137) (rx_rt 137)) := rfl
set_option maxRecDepth 20000 in
theorem rx_cd_138 : lw_tbl[1003]? = some (Cond.code (rx_y 138) (rx_cc 138) (rx_ml 138) (rx_rt 138)) := rfl
set_option maxRecDepth 20000 in
theorem rx_cd_139 : lw_tbl[947]? = some (Cond.code (rx_y 139) (rx_cc 139) (rx_ml 139) (rx_rt 139)) := rfl
set_option maxRecDepth 20000 in
theorem rx_cd_140 : lw_tbl[951]? = some (Cond.code (rx_y 140) (rx_cc 140) (rx_ml 140) (rx_rt 140)) := rfl
set_option maxRecDepth 20000 in
theorem rx_cd_141 : lw_tbl[955]? = some (Cond.code (rx_y 141) (rx_cc 141) (rx_ml 141) (rx_rt 141)) := rfl
set_option maxRecDepth 20000 in
theorem rx_cd_142 : lw_tbl[943]? = some (Cond.code (rx_y 142) (rx_cc 142) (rx_ml 142) (rx_rt 142)) := rfl
set_option maxRecDepth 20000 in
theorem rx_cd_143 : lw_tbl[939]? = some (Cond.code (rx_y 143) (rx_cc 143) (rx_ml 143) (rx_rt 143)) := rfl
set_option maxRecDepth 20000 in
theorem rx_cd_144 : lw_tbl[959]? = some (Cond.code (rx_y 144) (rx_cc 144) (rx_ml 144) (rx_rt 144)) := rfl
set_option maxRecDepth 20000 in
theorem rx_cd_145 : lw_tbl[963]? = some (Cond.code (rx_y 145) (rx_cc 145) (rx_ml 145) (rx_rt 145)) := rfl
set_option maxRecDepth 20000 in
theorem rx_cd_146 : lw_tbl[967]? = some (Cond.code (rx_y 146) (rx_cc 146) (rx_ml 146) (rx_rt 146)) := rfl
set_option maxRecDepth 20000 in
theorem rx_cd_147 : lw_tbl[979]? = some (Cond.code (rx_y 147) (rx_cc 147) (rx_ml 147) (rx_rt 147)) := rfl
set_option maxRecDepth 20000 in
theorem rx_cd_148 : lw_tbl[983]? = some (Cond.code (rx_y 148) (rx_cc 148) (rx_ml 148) (rx_rt 148)) := rfl
set_option maxRecDepth 20000 in
theorem rx_cd_149 : lw_tbl[975]? = some (Cond.code (rx_y 149) (rx_cc 149) (rx_ml 149) (rx_rt 149)) := rfl
set_option maxRecDepth 20000 in
theorem rx_cd_150 : lw_tbl[987]? = some (Cond.code (rx_y 150) (rx_cc 150) (rx_ml 150) (rx_rt 150)) := rfl
set_option maxRecDepth 20000 in
theorem rx_cd_151 : lw_tbl[971]? = some (Cond.code (rx_y 151) (rx_cc 151) (rx_ml 151) (rx_rt 151)) := rfl
set_option maxRecDepth 20000 in
theorem rx_cd_152 : lw_tbl[995]? = some (Cond.code (rx_y 152) (rx_cc 152) (rx_ml 152) (rx_rt 152)) := rfl
set_option maxRecDepth 20000 in
theorem rx_cd_153 : lw_tbl[1011]? = some (Cond.code (rx_y 153) (rx_cc 153) (rx_ml 153) (rx_rt 153)) := rfl
set_option maxRecDepth 20000 in
theorem rx_cd_154 : lw_tbl[1007]? = some (Cond.code (rx_y 154) (rx_cc 154) (rx_ml 154) (rx_rt 154)) := rfl
set_option maxRecDepth 20000 in
theorem rx_cd_155 : lw_tbl[991]? = some (Cond.code (rx_y 155) (rx_cc 155) (rx_ml 155) (rx_rt 155)) := rfl
set_option maxRecDepth 20000 in
theorem rx_cd_156 : lw_tbl[1030]? = some (Cond.code (rx_y 156) (rx_cc 156) (rx_ml 156) (rx_rt 156)) := rfl
set_option maxRecDepth 20000 in
theorem rx_cd_157 : lw_tbl[1026]? = some (Cond.code (rx_y 157) (rx_cc 157) (rx_ml 157) (rx_rt 157)) := rfl
set_option maxRecDepth 20000 in
theorem rx_cd_158 : lw_tbl[1022]? = some (Cond.code (rx_y 158) (rx_cc 158) (rx_ml 158) (rx_rt 158)) := rfl
set_option maxRecDepth 20000 in
theorem rx_cd_159 : lw_tbl[1018]? = some (Cond.code (rx_y 159) (rx_cc 159) (rx_ml 159) (rx_rt 159)) := rfl
set_option maxRecDepth 20000 in
theorem rx_cd_160 : lw_tbl[1015]? = some (Cond.code (rx_y 160) (rx_cc 160) (rx_ml 160) (rx_rt 160)) := rfl
set_option maxRecDepth 20000 in
theorem rx_cd_161 : lw_tbl[1034]? = some (Cond.code (rx_y 161) (rx_cc 161) (rx_ml 161) (rx_rt 161)) := rfl
set_option maxRecDepth 20000 in
theorem rx_cd_162 : lw_tbl[1038]? = some (Cond.code (rx_y 162) (rx_cc 162) (rx_ml 162) (rx_rt 162)) := rfl
set_option maxRecDepth 20000 in
theorem rx_cd_163 : lw_tbl[1046]? = some (Cond.code (rx_y 163) (rx_cc 163) (rx_ml 163) (rx_rt 163)) := rfl
set_option maxRecDepth 20000 in
theorem rx_cd_164 : lw_tbl[1042]? = some (Cond.code (rx_y 164) (rx_cc 164) (rx_ml 164) (rx_rt 164)) := rfl
set_option maxRecDepth 20000 in
theorem rx_cd_165 : lw_tbl[1055]? = some (Cond.code (rx_y 165) (rx_cc 165) (rx_ml 165) (rx_rt 165)) := rfl
set_option maxRecDepth 20000 in
theorem rx_cd_166 : lw_tbl[1060]? = some (Cond.code (rx_y 166) (rx_cc 166) (rx_ml 166) (rx_rt 166)) := rfl
set_option maxRecDepth 20000 in
theorem rx_cd_167 : lw_tbl[1050]? = some (Cond.code (rx_y 167) (rx_cc 167) (rx_ml 167) (rx_rt 167)) := rfl
set_option maxRecDepth 20000 in
theorem rx_cd_168 : lw_tbl[390]? = some (Cond.code (rx_y 168) (rx_cc 168) (rx_ml 168) (rx_rt 168)) := rfl
set_option maxRecDepth 20000 in
theorem rx_cd_169 : lw_tbl[353]? = some (Cond.code (rx_y 169) (rx_cc 169) (rx_ml 169) (rx_rt 169)) := rfl
set_option maxRecDepth 20000 in
theorem rx_cd_170 : lw_tbl[688]? = some (Cond.code (rx_y 170) (rx_cc 170) (rx_ml 170) (rx_rt 170)) := rfl
set_option maxRecDepth 20000 in
theorem rx_cd_171 : lw_tbl[676]? = some (Cond.code (rx_y 171) (rx_cc 171) (rx_ml 171) (rx_rt 171)) := rfl
theorem rx_cd (a : Nat) (h : a < 172) : Cond.code (rx_y a) (rx_cc a) (rx_ml a) (rx_rt a) ∈ lw_tbl := by
  match a, h with
  | 0, _ => exact List.mem_of_getElem? rx_cd_0
  | 1, _ => exact List.mem_of_getElem? rx_cd_1
  | 2, _ => exact List.mem_of_getElem? rx_cd_2
  | 3, _ => exact List.mem_of_getElem? rx_cd_3
  | 4, _ => exact List.mem_of_getElem? rx_cd_4
  | 5, _ => exact List.mem_of_getElem? rx_cd_5
  | 6, _ => exact List.mem_of_getElem? rx_cd_6
  | 7, _ => exact List.mem_of_getElem? rx_cd_7
  | 8, _ => exact List.mem_of_getElem? rx_cd_8
  | 9, _ => exact List.mem_of_getElem? rx_cd_9
  | 10, _ => exact List.mem_of_getElem? rx_cd_10
  | 11, _ => exact List.mem_of_getElem? rx_cd_11
  | 12, _ => exact List.mem_of_getElem? rx_cd_12
  | 13, _ => exact List.mem_of_getElem? rx_cd_13
  | 14, _ => exact List.mem_of_getElem? rx_cd_14
  | 15, _ => exact List.mem_of_getElem? rx_cd_15
  | 16, _ => exact List.mem_of_getElem? rx_cd_16
  | 17, _ => exact List.mem_of_getElem? rx_cd_17
  | 18, _ => exact List.mem_of_getElem? rx_cd_18
  | 19, _ => exact List.mem_of_getElem? rx_cd_19
  | 20, _ => exact List.mem_of_getElem? rx_cd_20
  | 21, _ => exact List.mem_of_getElem? rx_cd_21
  | 22, _ => exact List.mem_of_getElem? rx_cd_22
  | 23, _ => exact List.mem_of_getElem? rx_cd_23
  | 24, _ => exact List.mem_of_getElem? rx_cd_24
  | 25, _ => exact List.mem_of_getElem? rx_cd_25
  | 26, _ => exact List.mem_of_getElem? rx_cd_26
  | 27, _ => exact List.mem_of_getElem? rx_cd_27
  | 28, _ => exact List.mem_of_getElem? rx_cd_28
  | 29, _ => exact List.mem_of_getElem? rx_cd_29
  | 30, _ => exact List.mem_of_getElem? rx_cd_30
  | 31, _ => exact List.mem_of_getElem? rx_cd_31
  | 32, _ => exact List.mem_of_getElem? rx_cd_32
  | 33, _ => exact List.mem_of_getElem? rx_cd_33
  | 34, _ => exact List.mem_of_getElem? rx_cd_34
  | 35, _ => exact List.mem_of_getElem? rx_cd_35
  | 36, _ => exact List.mem_of_getElem? rx_cd_36
  | 37, _ => exact List.mem_of_getElem? rx_cd_37
  | 38, _ => exact List.mem_of_getElem? rx_cd_38
  | 39, _ => exact List.mem_of_getElem? rx_cd_39
  | 40, _ => exact List.mem_of_getElem? rx_cd_40
  | 41, _ => exact List.mem_of_getElem? rx_cd_41
  | 42, _ => exact List.mem_of_getElem? rx_cd_42
  | 43, _ => exact List.mem_of_getElem? rx_cd_43
  | 44, _ => exact List.mem_of_getElem? rx_cd_44
  | 45, _ => exact List.mem_of_getElem? rx_cd_45
  | 46, _ => exact List.mem_of_getElem? rx_cd_46
  | 47, _ => exact List.mem_of_getElem? rx_cd_47
  | 48, _ => exact List.mem_of_getElem? rx_cd_48
  | 49, _ => exact List.mem_of_getElem? rx_cd_49
  | 50, _ => exact List.mem_of_getElem? rx_cd_50
  | 51, _ => exact List.mem_of_getElem? rx_cd_51
  | 52, _ => exact List.mem_of_getElem? rx_cd_52
  | 53, _ => exact List.mem_of_getElem? rx_cd_53
  | 54, _ => exact List.mem_of_getElem? rx_cd_54
  | 55, _ => exact List.mem_of_getElem? rx_cd_55
  | 56, _ => exact List.mem_of_getElem? rx_cd_56
  | 57, _ => exact List.mem_of_getElem? rx_cd_57
  | 58, _ => exact List.mem_of_getElem? rx_cd_58
  | 59, _ => exact List.mem_of_getElem? rx_cd_59
  | 60, _ => exact List.mem_of_getElem? rx_cd_60
  | 61, _ => exact List.mem_of_getElem? rx_cd_61
  | 62, _ => exact List.mem_of_getElem? rx_cd_62
  | 63, _ => exact List.mem_of_getElem? rx_cd_63
  | 64, _ => exact List.mem_of_getElem? rx_cd_64
  | 65, _ => exact List.mem_of_getElem? rx_cd_65
  | 66, _ => exact List.mem_of_getElem? rx_cd_66
  | 67, _ => exact List.mem_of_getElem? rx_cd_67
  | 68, _ => exact List.mem_of_getElem? rx_cd_68
  | 69, _ => exact List.mem_of_getElem? rx_cd_69
  | 70, _ => exact List.mem_of_getElem? rx_cd_70
  | 71, _ => exact List.mem_of_getElem? rx_cd_71
  | 72, _ => exact List.mem_of_getElem? rx_cd_72
  | 73, _ => exact List.mem_of_getElem? rx_cd_73
  | 74, _ => exact List.mem_of_getElem? rx_cd_74
  | 75, _ => exact List.mem_of_getElem? rx_cd_75
  | 76, _ => exact List.mem_of_getElem? rx_cd_76
  | 77, _ => exact List.mem_of_getElem? rx_cd_77
  | 78, _ => exact List.mem_of_getElem? rx_cd_78
  | 79, _ => exact List.mem_of_getElem? rx_cd_79
  | 80, _ => exact List.mem_of_getElem? rx_cd_80
  | 81, _ => exact List.mem_of_getElem? rx_cd_81
  | 82, _ => exact List.mem_of_getElem? rx_cd_82
  | 83, _ => exact List.mem_of_getElem? rx_cd_83
  | 84, _ => exact List.mem_of_getElem? rx_cd_84
  | 85, _ => exact List.mem_of_getElem? rx_cd_85
  | 86, _ => exact List.mem_of_getElem? rx_cd_86
  | 87, _ => exact List.mem_of_getElem? rx_cd_87
  | 88, _ => exact List.mem_of_getElem? rx_cd_88
  | 89, _ => exact List.mem_of_getElem? rx_cd_89
  | 90, _ => exact List.mem_of_getElem? rx_cd_90
  | 91, _ => exact List.mem_of_getElem? rx_cd_91
  | 92, _ => exact List.mem_of_getElem? rx_cd_92
  | 93, _ => exact List.mem_of_getElem? rx_cd_93
  | 94, _ => exact List.mem_of_getElem? rx_cd_94
  | 95, _ => exact List.mem_of_getElem? rx_cd_95
  | 96, _ => exact List.mem_of_getElem? rx_cd_96
  | 97, _ => exact List.mem_of_getElem? rx_cd_97
  | 98, _ => exact List.mem_of_getElem? rx_cd_98
  | 99, _ => exact List.mem_of_getElem? rx_cd_99
  | 100, _ => exact List.mem_of_getElem? rx_cd_100
  | 101, _ => exact List.mem_of_getElem? rx_cd_101
  | 102, _ => exact List.mem_of_getElem? rx_cd_102
  | 103, _ => exact List.mem_of_getElem? rx_cd_103
  | 104, _ => exact List.mem_of_getElem? rx_cd_104
  | 105, _ => exact List.mem_of_getElem? rx_cd_105
  | 106, _ => exact List.mem_of_getElem? rx_cd_106
  | 107, _ => exact List.mem_of_getElem? rx_cd_107
  | 108, _ => exact List.mem_of_getElem? rx_cd_108
  | 109, _ => exact List.mem_of_getElem? rx_cd_109
  | 110, _ => exact List.mem_of_getElem? rx_cd_110
  | 111, _ => exact List.mem_of_getElem? rx_cd_111
  | 112, _ => exact List.mem_of_getElem? rx_cd_112
  | 113, _ => exact List.mem_of_getElem? rx_cd_113
  | 114, _ => exact List.mem_of_getElem? rx_cd_114
  | 115, _ => exact List.mem_of_getElem? rx_cd_115
  | 116, _ => exact List.mem_of_getElem? rx_cd_116
  | 117, _ => exact List.mem_of_getElem? rx_cd_117
  | 118, _ => exact List.mem_of_getElem? rx_cd_118
  | 119, _ => exact List.mem_of_getElem? rx_cd_119
  | 120, _ => exact List.mem_of_getElem? rx_cd_120
  | 121, _ => exact List.mem_of_getElem? rx_cd_121
  | 122, _ => exact List.mem_of_getElem? rx_cd_122
  | 123, _ => exact List.mem_of_getElem? rx_cd_123
  | 124, _ => exact List.mem_of_getElem? rx_cd_124
  | 125, _ => exact List.mem_of_getElem? rx_cd_125
  | 126, _ => exact List.mem_of_getElem? rx_cd_126
  | 127, _ => exact List.mem_of_getElem? rx_cd_127
  | 128, _ => exact List.mem_of_getElem? rx_cd_128
  | 129, _ => exact List.mem_of_getElem? rx_cd_129
  | 130, _ => exact List.mem_of_getElem? rx_cd_130
  | 131, _ => exact List.mem_of_getElem? rx_cd_131
  | 132, _ => exact List.mem_of_getElem? rx_cd_132
  | 133, _ => exact List.mem_of_getElem? rx_cd_133
  | 134, _ => exact List.mem_of_getElem? rx_cd_134
  | 135, _ => exact List.mem_of_getElem? rx_cd_135
  | 136, _ => exact List.mem_of_getElem? rx_cd_136
  | 137, _ => exact List.mem_of_getElem? rx_cd_137
  | 138, _ => exact List.mem_of_getElem? rx_cd_138
  | 139, _ => exact List.mem_of_getElem? rx_cd_139
  | 140, _ => exact List.mem_of_getElem? rx_cd_140
  | 141, _ => exact List.mem_of_getElem? rx_cd_141
  | 142, _ => exact List.mem_of_getElem? rx_cd_142
  | 143, _ => exact List.mem_of_getElem? rx_cd_143
  | 144, _ => exact List.mem_of_getElem? rx_cd_144
  | 145, _ => exact List.mem_of_getElem? rx_cd_145
  | 146, _ => exact List.mem_of_getElem? rx_cd_146
  | 147, _ => exact List.mem_of_getElem? rx_cd_147
  | 148, _ => exact List.mem_of_getElem? rx_cd_148
  | 149, _ => exact List.mem_of_getElem? rx_cd_149
  | 150, _ => exact List.mem_of_getElem? rx_cd_150
  | 151, _ => exact List.mem_of_getElem? rx_cd_151
  | 152, _ => exact List.mem_of_getElem? rx_cd_152
  | 153, _ => exact List.mem_of_getElem? rx_cd_153
  | 154, _ => exact List.mem_of_getElem? rx_cd_154
  | 155, _ => exact List.mem_of_getElem? rx_cd_155
  | 156, _ => exact List.mem_of_getElem? rx_cd_156
  | 157, _ => exact List.mem_of_getElem? rx_cd_157
  | 158, _ => exact List.mem_of_getElem? rx_cd_158
  | 159, _ => exact List.mem_of_getElem? rx_cd_159
  | 160, _ => exact List.mem_of_getElem? rx_cd_160
  | 161, _ => exact List.mem_of_getElem? rx_cd_161
  | 162, _ => exact List.mem_of_getElem? rx_cd_162
  | 163, _ => exact List.mem_of_getElem? rx_cd_163
  | 164, _ => exact List.mem_of_getElem? rx_cd_164
  | 165, _ => exact List.mem_of_getElem? rx_cd_165
  | 166, _ => exact List.mem_of_getElem? rx_cd_166
  | 167, _ => exact List.mem_of_getElem? rx_cd_167
  | 168, _ => exact List.mem_of_getElem? rx_cd_168
  | 169, _ => exact List.mem_of_getElem? rx_cd_169
  | 170, _ => exact List.mem_of_getElem? rx_cd_170
  | 171, _ => exact List.mem_of_getElem? rx_cd_171
  | n + 172, h => exact absurd h (by omega)
theorem rx_mok : (List.range 173).all rx_okM = true := by decide +kernel
theorem rx_ck_0 : rx_tb_0.all (rx_okI 0) = true := rx_ck_0_0
theorem rx_ck_1 : rx_tb_1.all (rx_okI 1) = true := rx_ck_1_0
theorem rx_ck_2 : rx_tb_2.all (rx_okI 2) = true := rx_ck_2_0
theorem rx_ck_3 : rx_tb_3.all (rx_okI 3) = true := rx_ck_3_0
theorem rx_ck_4 : rx_tb_4.all (rx_okI 4) = true := by
  unfold rx_tb_4
  simp only [List.all_append, rx_ck_4_0, rx_ck_4_1, Bool.and_self]
theorem rx_ck_5 : rx_tb_5.all (rx_okI 5) = true := rx_ck_5_0
theorem rx_ck_6 : rx_tb_6.all (rx_okI 6) = true := rx_ck_6_0
theorem rx_ck_7 : rx_tb_7.all (rx_okI 7) = true := rx_ck_7_0
theorem rx_ck_8 : rx_tb_8.all (rx_okI 8) = true := rx_ck_8_0
theorem rx_ck_9 : rx_tb_9.all (rx_okI 9) = true := rx_ck_9_0
theorem rx_ck_10 : rx_tb_10.all (rx_okI 10) = true := rx_ck_10_0
theorem rx_ck_11 : rx_tb_11.all (rx_okI 11) = true := rx_ck_11_0
theorem rx_ck_12 : rx_tb_12.all (rx_okI 12) = true := rx_ck_12_0
theorem rx_ck_13 : rx_tb_13.all (rx_okI 13) = true := rx_ck_13_0
theorem rx_ck_14 : rx_tb_14.all (rx_okI 14) = true := rx_ck_14_0
theorem rx_ck_15 : rx_tb_15.all (rx_okI 15) = true := rx_ck_15_0
theorem rx_ck_16 : rx_tb_16.all (rx_okI 16) = true := rx_ck_16_0
theorem rx_ck_17 : rx_tb_17.all (rx_okI 17) = true := rx_ck_17_0
theorem rx_ck_18 : rx_tb_18.all (rx_okI 18) = true := rx_ck_18_0
theorem rx_ck_19 : rx_tb_19.all (rx_okI 19) = true := rx_ck_19_0
theorem rx_ck_20 : rx_tb_20.all (rx_okI 20) = true := rx_ck_20_0
theorem rx_ck_21 : rx_tb_21.all (rx_okI 21) = true := by
  unfold rx_tb_21
  simp only [List.all_append, rx_ck_21_0, rx_ck_21_1, Bool.and_self]
theorem rx_ck_22 : rx_tb_22.all (rx_okI 22) = true := by
  unfold rx_tb_22
  simp only [List.all_append, rx_ck_22_0, rx_ck_22_1, Bool.and_self]
theorem rx_ck_23 : rx_tb_23.all (rx_okI 23) = true := rx_ck_23_0
theorem rx_ck_24 : rx_tb_24.all (rx_okI 24) = true := rx_ck_24_0
theorem rx_ck_25 : rx_tb_25.all (rx_okI 25) = true := by
  unfold rx_tb_25
  simp only [List.all_append, rx_ck_25_0, rx_ck_25_1, Bool.and_self]
theorem rx_ck_26 : rx_tb_26.all (rx_okI 26) = true := rx_ck_26_0
theorem rx_ck_27 : rx_tb_27.all (rx_okI 27) = true := by
  unfold rx_tb_27
  simp only [List.all_append, rx_ck_27_0, rx_ck_27_1, Bool.and_self]
theorem rx_ck_28 : rx_tb_28.all (rx_okI 28) = true := by
  unfold rx_tb_28
  simp only [List.all_append, rx_ck_28_0, rx_ck_28_1, Bool.and_self]
theorem rx_ck_29 : rx_tb_29.all (rx_okI 29) = true := by
  unfold rx_tb_29
  simp only [List.all_append, rx_ck_29_0, rx_ck_29_1, Bool.and_self]
theorem rx_ck_30 : rx_tb_30.all (rx_okI 30) = true := rx_ck_30_0
theorem rx_ck_31 : rx_tb_31.all (rx_okI 31) = true := rx_ck_31_0
theorem rx_ck_32 : rx_tb_32.all (rx_okI 32) = true := rx_ck_32_0
theorem rx_ck_33 : rx_tb_33.all (rx_okI 33) = true := rx_ck_33_0
theorem rx_ck_34 : rx_tb_34.all (rx_okI 34) = true := rx_ck_34_0
theorem rx_ck_35 : rx_tb_35.all (rx_okI 35) = true := rx_ck_35_0
theorem rx_ck_36 : rx_tb_36.all (rx_okI 36) = true := rx_ck_36_0
theorem rx_ck_37 : rx_tb_37.all (rx_okI 37) = true := rx_ck_37_0
theorem rx_ck_38 : rx_tb_38.all (rx_okI 38) = true := rx_ck_38_0
theorem rx_ck_39 : rx_tb_39.all (rx_okI 39) = true := rx_ck_39_0
theorem rx_ck_40 : rx_tb_40.all (rx_okI 40) = true := rx_ck_40_0
theorem rx_ck_41 : rx_tb_41.all (rx_okI 41) = true := rx_ck_41_0
theorem rx_ck_42 : rx_tb_42.all (rx_okI 42) = true := rx_ck_42_0
theorem rx_ck_43 : rx_tb_43.all (rx_okI 43) = true := rx_ck_43_0
theorem rx_ck_44 : rx_tb_44.all (rx_okI 44) = true := rx_ck_44_0
theorem rx_ck_45 : rx_tb_45.all (rx_okI 45) = true := rx_ck_45_0
theorem rx_ck_46 : rx_tb_46.all (rx_okI 46) = true := rx_ck_46_0
theorem rx_ck_47 : rx_tb_47.all (rx_okI 47) = true := rx_ck_47_0
theorem rx_ck_48 : rx_tb_48.all (rx_okI 48) = true := rx_ck_48_0
theorem rx_ck_49 : rx_tb_49.all (rx_okI 49) = true := rx_ck_49_0
theorem rx_ck_50 : rx_tb_50.all (rx_okI 50) = true := by
  unfold rx_tb_50
  simp only [List.all_append, rx_ck_50_0, rx_ck_50_1, Bool.and_self]
theorem rx_ck_51 : rx_tb_51.all (rx_okI 51) = true := rx_ck_51_0
theorem rx_ck_52 : rx_tb_52.all (rx_okI 52) = true := rx_ck_52_0
theorem rx_ck_53 : rx_tb_53.all (rx_okI 53) = true := rx_ck_53_0
theorem rx_ck_54 : rx_tb_54.all (rx_okI 54) = true := rx_ck_54_0
theorem rx_ck_55 : rx_tb_55.all (rx_okI 55) = true := by
  unfold rx_tb_55
  simp only [List.all_append, rx_ck_55_0, rx_ck_55_1, Bool.and_self]
theorem rx_ck_56 : rx_tb_56.all (rx_okI 56) = true := rx_ck_56_0
theorem rx_ck_57 : rx_tb_57.all (rx_okI 57) = true := rx_ck_57_0
theorem rx_ck_58 : rx_tb_58.all (rx_okI 58) = true := rx_ck_58_0
theorem rx_ck_59 : rx_tb_59.all (rx_okI 59) = true := rx_ck_59_0
theorem rx_ck_60 : rx_tb_60.all (rx_okI 60) = true := rx_ck_60_0
theorem rx_ck_61 : rx_tb_61.all (rx_okI 61) = true := rx_ck_61_0
theorem rx_ck_62 : rx_tb_62.all (rx_okI 62) = true := rx_ck_62_0
theorem rx_ck_63 : rx_tb_63.all (rx_okI 63) = true := rx_ck_63_0
theorem rx_ck_64 : rx_tb_64.all (rx_okI 64) = true := rx_ck_64_0
theorem rx_ck_65 : rx_tb_65.all (rx_okI 65) = true := rx_ck_65_0
theorem rx_ck_66 : rx_tb_66.all (rx_okI 66) = true := rx_ck_66_0
theorem rx_ck_67 : rx_tb_67.all (rx_okI 67) = true := rx_ck_67_0
theorem rx_ck_68 : rx_tb_68.all (rx_okI 68) = true := by
  unfold rx_tb_68
  simp only [List.all_append, rx_ck_68_0, rx_ck_68_1, Bool.and_self]
theorem rx_ck_69 : rx_tb_69.all (rx_okI 69) = true := rx_ck_69_0
theorem rx_ck_70 : rx_tb_70.all (rx_okI 70) = true := by
  unfold rx_tb_70
  simp only [List.all_append, rx_ck_70_0, rx_ck_70_1, Bool.and_self]
theorem rx_ck_71 : rx_tb_71.all (rx_okI 71) = true := rx_ck_71_0
theorem rx_ck_72 : rx_tb_72.all (rx_okI 72) = true := rx_ck_72_0
theorem rx_ck_73 : rx_tb_73.all (rx_okI 73) = true := rx_ck_73_0
theorem rx_ck_74 : rx_tb_74.all (rx_okI 74) = true := by
  unfold rx_tb_74
  simp only [List.all_append, rx_ck_74_0, rx_ck_74_1, Bool.and_self]
theorem rx_ck_75 : rx_tb_75.all (rx_okI 75) = true := rx_ck_75_0
theorem rx_ck_76 : rx_tb_76.all (rx_okI 76) = true := rx_ck_76_0
theorem rx_ck_77 : rx_tb_77.all (rx_okI 77) = true := rx_ck_77_0
theorem rx_ck_78 : rx_tb_78.all (rx_okI 78) = true := rx_ck_78_0
theorem rx_ck_79 : rx_tb_79.all (rx_okI 79) = true := rx_ck_79_0
theorem rx_ck_80 : rx_tb_80.all (rx_okI 80) = true := rx_ck_80_0
theorem rx_ck_81 : rx_tb_81.all (rx_okI 81) = true := rx_ck_81_0
theorem rx_ck_82 : rx_tb_82.all (rx_okI 82) = true := by
  unfold rx_tb_82
  simp only [List.all_append, rx_ck_82_0, rx_ck_82_1, Bool.and_self]
theorem rx_ck_83 : rx_tb_83.all (rx_okI 83) = true := rx_ck_83_0
theorem rx_ck_84 : rx_tb_84.all (rx_okI 84) = true := by
  unfold rx_tb_84
  simp only [List.all_append, rx_ck_84_0, rx_ck_84_1, Bool.and_self]
theorem rx_ck_85 : rx_tb_85.all (rx_okI 85) = true := rx_ck_85_0
theorem rx_ck_86 : rx_tb_86.all (rx_okI 86) = true := rx_ck_86_0
theorem rx_ck_87 : rx_tb_87.all (rx_okI 87) = true := rx_ck_87_0
theorem rx_ck_88 : rx_tb_88.all (rx_okI 88) = true := by
  unfold rx_tb_88
  simp only [List.all_append, rx_ck_88_0, rx_ck_88_1, Bool.and_self]
theorem rx_ck_89 : rx_tb_89.all (rx_okI 89) = true := by
  unfold rx_tb_89
  simp only [List.all_append, rx_ck_89_0, rx_ck_89_1, Bool.and_self]
theorem rx_ck_90 : rx_tb_90.all (rx_okI 90) = true := by
  unfold rx_tb_90
  simp only [List.all_append, rx_ck_90_0, rx_ck_90_1, Bool.and_self]
theorem rx_ck_91 : rx_tb_91.all (rx_okI 91) = true := rx_ck_91_0
theorem rx_ck_92 : rx_tb_92.all (rx_okI 92) = true := rx_ck_92_0
theorem rx_ck_93 : rx_tb_93.all (rx_okI 93) = true := rx_ck_93_0
theorem rx_ck_94 : rx_tb_94.all (rx_okI 94) = true := rx_ck_94_0
theorem rx_ck_95 : rx_tb_95.all (rx_okI 95) = true := rx_ck_95_0
theorem rx_ck_96 : rx_tb_96.all (rx_okI 96) = true := rx_ck_96_0
theorem rx_ck_97 : rx_tb_97.all (rx_okI 97) = true := rx_ck_97_0
theorem rx_ck_98 : rx_tb_98.all (rx_okI 98) = true := rx_ck_98_0
theorem rx_ck_99 : rx_tb_99.all (rx_okI 99) = true := rx_ck_99_0
theorem rx_ck_100 : rx_tb_100.all (rx_okI 100) = true := rx_ck_100_0
theorem rx_ck_101 : rx_tb_101.all (rx_okI 101) = true := rx_ck_101_0
theorem rx_ck_102 : rx_tb_102.all (rx_okI 102) = true := rx_ck_102_0
theorem rx_ck_103 : rx_tb_103.all (rx_okI 103) = true := rx_ck_103_0
theorem rx_ck_104 : rx_tb_104.all (rx_okI 104) = true := by
  unfold rx_tb_104
  simp only [List.all_append, rx_ck_104_0, rx_ck_104_1, Bool.and_self]
theorem rx_ck_105 : rx_tb_105.all (rx_okI 105) = true := rx_ck_105_0
theorem rx_ck_106 : rx_tb_106.all (rx_okI 106) = true := rx_ck_106_0
theorem rx_ck_107 : rx_tb_107.all (rx_okI 107) = true := rx_ck_107_0
theorem rx_ck_108 : rx_tb_108.all (rx_okI 108) = true := rx_ck_108_0
theorem rx_ck_109 : rx_tb_109.all (rx_okI 109) = true := rx_ck_109_0
theorem rx_ck_110 : rx_tb_110.all (rx_okI 110) = true := rx_ck_110_0
theorem rx_ck_111 : rx_tb_111.all (rx_okI 111) = true := rx_ck_111_0
theorem rx_ck_112 : rx_tb_112.all (rx_okI 112) = true := rx_ck_112_0
theorem rx_ck_113 : rx_tb_113.all (rx_okI 113) = true := rx_ck_113_0
theorem rx_ck_114 : rx_tb_114.all (rx_okI 114) = true := by
  unfold rx_tb_114
  simp only [List.all_append, rx_ck_114_0, rx_ck_114_1, Bool.and_self]
theorem rx_ck_115 : rx_tb_115.all (rx_okI 115) = true := rx_ck_115_0
theorem rx_ck_116 : rx_tb_116.all (rx_okI 116) = true := rx_ck_116_0
theorem rx_ck_117 : rx_tb_117.all (rx_okI 117) = true := rx_ck_117_0
theorem rx_ck_118 : rx_tb_118.all (rx_okI 118) = true := rx_ck_118_0
theorem rx_ck_119 : rx_tb_119.all (rx_okI 119) = true := by
  unfold rx_tb_119
  simp only [List.all_append, rx_ck_119_0, rx_ck_119_1, Bool.and_self]
theorem rx_ck_120 : rx_tb_120.all (rx_okI 120) = true := rx_ck_120_0
theorem rx_ck_121 : rx_tb_121.all (rx_okI 121) = true := rx_ck_121_0
theorem rx_ck_122 : rx_tb_122.all (rx_okI 122) = true := rx_ck_122_0
theorem rx_ck_123 : rx_tb_123.all (rx_okI 123) = true := rx_ck_123_0
theorem rx_ck_124 : rx_tb_124.all (rx_okI 124) = true := by
  unfold rx_tb_124
  simp only [List.all_append, rx_ck_124_0, rx_ck_124_1, Bool.and_self]
theorem rx_ck_125 : rx_tb_125.all (rx_okI 125) = true := by
  unfold rx_tb_125
  simp only [List.all_append, rx_ck_125_0, rx_ck_125_1, Bool.and_self]
theorem rx_ck_126 : rx_tb_126.all (rx_okI 126) = true := by
  unfold rx_tb_126
  simp only [List.all_append, rx_ck_126_0, rx_ck_126_1, rx_ck_126_2, Bool.and_self]
theorem rx_ck_127 : rx_tb_127.all (rx_okI 127) = true := rx_ck_127_0
theorem rx_ck_128 : rx_tb_128.all (rx_okI 128) = true := rx_ck_128_0
theorem rx_ck_129 : rx_tb_129.all (rx_okI 129) = true := by
  unfold rx_tb_129
  simp only [List.all_append, rx_ck_129_0, rx_ck_129_1, Bool.and_self]
theorem rx_ck_130 : rx_tb_130.all (rx_okI 130) = true := rx_ck_130_0
theorem rx_ck_131 : rx_tb_131.all (rx_okI 131) = true := by
  unfold rx_tb_131
  simp only [List.all_append, rx_ck_131_0, rx_ck_131_1, rx_ck_131_2, Bool.and_self]
theorem rx_ck_132 : rx_tb_132.all (rx_okI 132) = true := rx_ck_132_0
theorem rx_ck_133 : rx_tb_133.all (rx_okI 133) = true := rx_ck_133_0
theorem rx_ck_134 : rx_tb_134.all (rx_okI 134) = true := by
  unfold rx_tb_134
  simp only [List.all_append, rx_ck_134_0, rx_ck_134_1, rx_ck_134_2, Bool.and_self]
theorem rx_ck_135 : rx_tb_135.all (rx_okI 135) = true := rx_ck_135_0
theorem rx_ck_136 : rx_tb_136.all (rx_okI 136) = true := rx_ck_136_0
theorem rx_ck_137 : rx_tb_137.all (rx_okI 137) = true := rx_ck_137_0
theorem rx_ck_138 : rx_tb_138.all (rx_okI 138) = true := rx_ck_138_0
theorem rx_ck_139 : rx_tb_139.all (rx_okI 139) = true := rx_ck_139_0
theorem rx_ck_140 : rx_tb_140.all (rx_okI 140) = true := rx_ck_140_0
theorem rx_ck_141 : rx_tb_141.all (rx_okI 141) = true := by
  unfold rx_tb_141
  simp only [List.all_append, rx_ck_141_0, rx_ck_141_1, Bool.and_self]
theorem rx_ck_142 : rx_tb_142.all (rx_okI 142) = true := by
  unfold rx_tb_142
  simp only [List.all_append, rx_ck_142_0, rx_ck_142_1, Bool.and_self]
theorem rx_ck_143 : rx_tb_143.all (rx_okI 143) = true := rx_ck_143_0
theorem rx_ck_144 : rx_tb_144.all (rx_okI 144) = true := rx_ck_144_0
theorem rx_ck_145 : rx_tb_145.all (rx_okI 145) = true := rx_ck_145_0
theorem rx_ck_146 : rx_tb_146.all (rx_okI 146) = true := rx_ck_146_0
theorem rx_ck_147 : rx_tb_147.all (rx_okI 147) = true := rx_ck_147_0
theorem rx_ck_148 : rx_tb_148.all (rx_okI 148) = true := rx_ck_148_0
theorem rx_ck_149 : rx_tb_149.all (rx_okI 149) = true := by
  unfold rx_tb_149
  simp only [List.all_append, rx_ck_149_0, rx_ck_149_1, Bool.and_self]
theorem rx_ck_150 : rx_tb_150.all (rx_okI 150) = true := rx_ck_150_0
theorem rx_ck_151 : rx_tb_151.all (rx_okI 151) = true := by
  unfold rx_tb_151
  simp only [List.all_append, rx_ck_151_0, rx_ck_151_1, Bool.and_self]
theorem rx_ck_152 : rx_tb_152.all (rx_okI 152) = true := rx_ck_152_0
theorem rx_ck_153 : rx_tb_153.all (rx_okI 153) = true := rx_ck_153_0
theorem rx_ck_154 : rx_tb_154.all (rx_okI 154) = true := rx_ck_154_0
theorem rx_ck_155 : rx_tb_155.all (rx_okI 155) = true := by
  unfold rx_tb_155
  simp only [List.all_append, rx_ck_155_0, rx_ck_155_1, Bool.and_self]
theorem rx_ck_156 : rx_tb_156.all (rx_okI 156) = true := by
  unfold rx_tb_156
  simp only [List.all_append, rx_ck_156_0, rx_ck_156_1, Bool.and_self]
theorem rx_ck_157 : rx_tb_157.all (rx_okI 157) = true := by
  unfold rx_tb_157
  simp only [List.all_append, rx_ck_157_0, rx_ck_157_1, Bool.and_self]
theorem rx_ck_158 : rx_tb_158.all (rx_okI 158) = true := by
  unfold rx_tb_158
  simp only [List.all_append, rx_ck_158_0, rx_ck_158_1, Bool.and_self]
theorem rx_ck_159 : rx_tb_159.all (rx_okI 159) = true := rx_ck_159_0
theorem rx_ck_160 : rx_tb_160.all (rx_okI 160) = true := rx_ck_160_0
theorem rx_ck_161 : rx_tb_161.all (rx_okI 161) = true := by
  unfold rx_tb_161
  simp only [List.all_append, rx_ck_161_0, rx_ck_161_1, Bool.and_self]
theorem rx_ck_162 : rx_tb_162.all (rx_okI 162) = true := rx_ck_162_0
theorem rx_ck_163 : rx_tb_163.all (rx_okI 163) = true := rx_ck_163_0
theorem rx_ck_164 : rx_tb_164.all (rx_okI 164) = true := rx_ck_164_0
theorem rx_ck_165 : rx_tb_165.all (rx_okI 165) = true := rx_ck_165_0
theorem rx_ck_166 : rx_tb_166.all (rx_okI 166) = true := rx_ck_166_0
theorem rx_ck_167 : rx_tb_167.all (rx_okI 167) = true := by
  unfold rx_tb_167
  simp only [List.all_append, rx_ck_167_0, rx_ck_167_1, Bool.and_self]
theorem rx_ck_168 : rx_tb_168.all (rx_okI 168) = true := rx_ck_168_0
theorem rx_ck_169 : rx_tb_169.all (rx_okI 169) = true := rx_ck_169_0
theorem rx_ck_170 : rx_tb_170.all (rx_okI 170) = true := rx_ck_170_0
theorem rx_ck_171 : rx_tb_171.all (rx_okI 171) = true := rx_ck_171_0
theorem rx_ck_172 : rx_tb_172.all (rx_okI 172) = true := by
  unfold rx_tb_172
  simp only [List.all_append, rx_ck_172_0, rx_ck_172_1, rx_ck_172_2, rx_ck_172_3, rx_ck_172_4, rx_ck_172_5, rx_ck_172_6, rx_ck_172_7, rx_ck_172_8, rx_ck_172_9, rx_ck_172_10, rx_ck_172_11, rx_ck_172_12, Bool.and_self]
theorem rx_ck (a : Nat) (h : a < 173) : (rx_tbs.getD a []).all (rx_okI a) = true := by
  match a, h with
  | 0, _ => exact rx_ck_0
  | 1, _ => exact rx_ck_1
  | 2, _ => exact rx_ck_2
  | 3, _ => exact rx_ck_3
  | 4, _ => exact rx_ck_4
  | 5, _ => exact rx_ck_5
  | 6, _ => exact rx_ck_6
  | 7, _ => exact rx_ck_7
  | 8, _ => exact rx_ck_8
  | 9, _ => exact rx_ck_9
  | 10, _ => exact rx_ck_10
  | 11, _ => exact rx_ck_11
  | 12, _ => exact rx_ck_12
  | 13, _ => exact rx_ck_13
  | 14, _ => exact rx_ck_14
  | 15, _ => exact rx_ck_15
  | 16, _ => exact rx_ck_16
  | 17, _ => exact rx_ck_17
  | 18, _ => exact rx_ck_18
  | 19, _ => exact rx_ck_19
  | 20, _ => exact rx_ck_20
  | 21, _ => exact rx_ck_21
  | 22, _ => exact rx_ck_22
  | 23, _ => exact rx_ck_23
  | 24, _ => exact rx_ck_24
  | 25, _ => exact rx_ck_25
  | 26, _ => exact rx_ck_26
  | 27, _ => exact rx_ck_27
  | 28, _ => exact rx_ck_28
  | 29, _ => exact rx_ck_29
  | 30, _ => exact rx_ck_30
  | 31, _ => exact rx_ck_31
  | 32, _ => exact rx_ck_32
  | 33, _ => exact rx_ck_33
  | 34, _ => exact rx_ck_34
  | 35, _ => exact rx_ck_35
  | 36, _ => exact rx_ck_36
  | 37, _ => exact rx_ck_37
  | 38, _ => exact rx_ck_38
  | 39, _ => exact rx_ck_39
  | 40, _ => exact rx_ck_40
  | 41, _ => exact rx_ck_41
  | 42, _ => exact rx_ck_42
  | 43, _ => exact rx_ck_43
  | 44, _ => exact rx_ck_44
  | 45, _ => exact rx_ck_45
  | 46, _ => exact rx_ck_46
  | 47, _ => exact rx_ck_47
  | 48, _ => exact rx_ck_48
  | 49, _ => exact rx_ck_49
  | 50, _ => exact rx_ck_50
  | 51, _ => exact rx_ck_51
  | 52, _ => exact rx_ck_52
  | 53, _ => exact rx_ck_53
  | 54, _ => exact rx_ck_54
  | 55, _ => exact rx_ck_55
  | 56, _ => exact rx_ck_56
  | 57, _ => exact rx_ck_57
  | 58, _ => exact rx_ck_58
  | 59, _ => exact rx_ck_59
  | 60, _ => exact rx_ck_60
  | 61, _ => exact rx_ck_61
  | 62, _ => exact rx_ck_62
  | 63, _ => exact rx_ck_63
  | 64, _ => exact rx_ck_64
  | 65, _ => exact rx_ck_65
  | 66, _ => exact rx_ck_66
  | 67, _ => exact rx_ck_67
  | 68, _ => exact rx_ck_68
  | 69, _ => exact rx_ck_69
  | 70, _ => exact rx_ck_70
  | 71, _ => exact rx_ck_71
  | 72, _ => exact rx_ck_72
  | 73, _ => exact rx_ck_73
  | 74, _ => exact rx_ck_74
  | 75, _ => exact rx_ck_75
  | 76, _ => exact rx_ck_76
  | 77, _ => exact rx_ck_77
  | 78, _ => exact rx_ck_78
  | 79, _ => exact rx_ck_79
  | 80, _ => exact rx_ck_80
  | 81, _ => exact rx_ck_81
  | 82, _ => exact rx_ck_82
  | 83, _ => exact rx_ck_83
  | 84, _ => exact rx_ck_84
  | 85, _ => exact rx_ck_85
  | 86, _ => exact rx_ck_86
  | 87, _ => exact rx_ck_87
  | 88, _ => exact rx_ck_88
  | 89, _ => exact rx_ck_89
  | 90, _ => exact rx_ck_90
  | 91, _ => exact rx_ck_91
  | 92, _ => exact rx_ck_92
  | 93, _ => exact rx_ck_93
  | 94, _ => exact rx_ck_94
  | 95, _ => exact rx_ck_95
  | 96, _ => exact rx_ck_96
  | 97, _ => exact rx_ck_97
  | 98, _ => exact rx_ck_98
  | 99, _ => exact rx_ck_99
  | 100, _ => exact rx_ck_100
  | 101, _ => exact rx_ck_101
  | 102, _ => exact rx_ck_102
  | 103, _ => exact rx_ck_103
  | 104, _ => exact rx_ck_104
  | 105, _ => exact rx_ck_105
  | 106, _ => exact rx_ck_106
  | 107, _ => exact rx_ck_107
  | 108, _ => exact rx_ck_108
  | 109, _ => exact rx_ck_109
  | 110, _ => exact rx_ck_110
  | 111, _ => exact rx_ck_111
  | 112, _ => exact rx_ck_112
  | 113, _ => exact rx_ck_113
  | 114, _ => exact rx_ck_114
  | 115, _ => exact rx_ck_115
  | 116, _ => exact rx_ck_116
  | 117, _ => exact rx_ck_117
  | 118, _ => exact rx_ck_118
  | 119, _ => exact rx_ck_119
  | 120, _ => exact rx_ck_120
  | 121, _ => exact rx_ck_121
  | 122, _ => exact rx_ck_122
  | 123, _ => exact rx_ck_123
  | 124, _ => exact rx_ck_124
  | 125, _ => exact rx_ck_125
  | 126, _ => exact rx_ck_126
  | 127, _ => exact rx_ck_127
  | 128, _ => exact rx_ck_128
  | 129, _ => exact rx_ck_129
  | 130, _ => exact rx_ck_130
  | 131, _ => exact rx_ck_131
  | 132, _ => exact rx_ck_132
  | 133, _ => exact rx_ck_133
  | 134, _ => exact rx_ck_134
  | 135, _ => exact rx_ck_135
  | 136, _ => exact rx_ck_136
  | 137, _ => exact rx_ck_137
  | 138, _ => exact rx_ck_138
  | 139, _ => exact rx_ck_139
  | 140, _ => exact rx_ck_140
  | 141, _ => exact rx_ck_141
  | 142, _ => exact rx_ck_142
  | 143, _ => exact rx_ck_143
  | 144, _ => exact rx_ck_144
  | 145, _ => exact rx_ck_145
  | 146, _ => exact rx_ck_146
  | 147, _ => exact rx_ck_147
  | 148, _ => exact rx_ck_148
  | 149, _ => exact rx_ck_149
  | 150, _ => exact rx_ck_150
  | 151, _ => exact rx_ck_151
  | 152, _ => exact rx_ck_152
  | 153, _ => exact rx_ck_153
  | 154, _ => exact rx_ck_154
  | 155, _ => exact rx_ck_155
  | 156, _ => exact rx_ck_156
  | 157, _ => exact rx_ck_157
  | 158, _ => exact rx_ck_158
  | 159, _ => exact rx_ck_159
  | 160, _ => exact rx_ck_160
  | 161, _ => exact rx_ck_161
  | 162, _ => exact rx_ck_162
  | 163, _ => exact rx_ck_163
  | 164, _ => exact rx_ck_164
  | 165, _ => exact rx_ck_165
  | 166, _ => exact rx_ck_166
  | 167, _ => exact rx_ck_167
  | 168, _ => exact rx_ck_168
  | 169, _ => exact rx_ck_169
  | 170, _ => exact rx_ck_170
  | 171, _ => exact rx_ck_171
  | 172, _ => exact rx_ck_172
  | n + 173, h => exact absurd h (by omega)
end
section
/-! ===== what an instruction's answer says of its start ===== -/
def rx_dis (o : rx_O) (K : Nat → List Value → List Value → rx_H → Prop) (C : Nat → List Value → rx_H → (Option Value → rx_H → Prop) → Prop) (E : Option Value → rx_H → Prop) (ls : List Value) (h : rx_H) : Prop := match o with
  | .inl (pc', ls', st', h') => K pc' ls' st' h'
  | .inr (.inl (a, As, rest, nx)) => C a As h (fun r h' => K nx ls (r.toList ++ rest) h')
  | .inr (.inr v) => E v h
theorem rx_op_some {i : rx_I} {K : Nat → List Value → List Value → rx_H → Prop} {C : Nat → List Value → rx_H → (Option Value → rx_H → Prop) → Prop} {E : Option Value → rx_H → Prop} {pc : Nat} {ls st : List Value} {h : rx_H} (ho : rx_op i K C E pc ls st h) : ∃ o, rx_res rx_cn i pc ls st h = some o ∧ rx_dis o K C E ls h := by
  unfold rx_op at ho
  cases hr : rx_res rx_cn i pc ls st h with
  | none => rw [hr] at ho; exact ho.elim
  | some o =>
    rw [hr] at ho
    refine ⟨o, rfl, ?_⟩
    rcases o with ⟨pc', ls', st', h'⟩ | ⟨a, As, rest, nx⟩ | v <;> exact ho
section RXV
variable {nx a k ci tg : Nat} {ls st : List Value} {h : rx_H} {o : rx_O} {f : Int32 → Int32 → Int32} {g : Int64 → Int64 → Int64}
theorem rx_b2_inv (e : rx_b2 f nx ls st h = some o) : ∃ x y r, st = .int y :: .int x :: r ∧ o = .inl (nx, ls, .int (f x y) :: r, h) := by
  unfold rx_b2 at e
  split at e
  · next y x r => cases e; exact ⟨x, y, r, rfl, rfl⟩
  · cases e
theorem rx_b2z_inv (e : rx_b2z f nx ls st h = some o) : ∃ x y r, st = .int y :: .int x :: r ∧ ¬ y = 0 ∧ o = .inl (nx, ls, .int (f x y) :: r, h) := by
  unfold rx_b2z at e
  split at e
  · next y x r =>
    split at e
    · cases e
    · next hy => cases e; exact ⟨x, y, r, rfl, hy, rfl⟩
  · cases e
theorem rx_l2_inv (e : rx_l2 g nx ls st h = some o) : ∃ x y r, st = .long y :: .long x :: r ∧ o = .inl (nx, ls, .long (g x y) :: r, h) := by
  unfold rx_l2 at e
  split at e
  · next y x r => cases e; exact ⟨x, y, r, rfl, rfl⟩
  · cases e
theorem rx_ld0 {ov : Option Value} {v : Value} (e : rx_ld 0 ov = some v) : ∃ x, ov = some (.int x) ∧ v = .int x := by
  rcases ov with _ | w
  · cases e
  · cases w <;> first | (cases e; exact ⟨_, rfl, rfl⟩) | cases e
theorem rx_ld2 {ov : Option Value} {v : Value} (e : rx_ld 2 ov = some v) : ∃ x, ov = some (.ref x) ∧ v = .ref x := by
  rcases ov with _ | w
  · cases e
  · cases w <;> first | (cases e; exact ⟨_, rfl, rfl⟩) | cases e
theorem rx_ld3 {ov : Option Value} {v : Value} (e : rx_ld 3 ov = some v) : ∃ x, ov = some (.long x) ∧ v = .long x := by
  rcases ov with _ | w
  · cases e
  · cases w <;> first | (cases e; exact ⟨_, rfl, rfl⟩) | cases e
theorem rx_load_inv (e : rx_load k a nx ls st h = some o) : ∃ v, rx_ld k ls[a]? = some v ∧ o = .inl (nx, ls, v :: st, h) := by
  unfold rx_load at e
  split at e
  · next v hv => cases e; exact ⟨v, hv, rfl⟩
  · cases e
theorem rx_store_inv (e : rx_store k a nx ls st h = some o) : ∃ v w r, st = v :: r ∧ rx_ld k (some v) = some w ∧ a < ls.length ∧ rx_nl ls a = true ∧ o = .inl (nx, ls.set a w, r, h) := by
  unfold rx_store at e
  split at e
  · next v r =>
    split at e
    · next w hw =>
      split at e
      · next hc =>
        cases e
        simp only [Bool.and_eq_true, decide_eq_true_eq] at hc
        exact ⟨v, w, r, rfl, hw, hc.1, hc.2, rfl⟩
      · cases e
    · cases e
  · cases e
theorem rx_lstore_inv (e : rx_lstore a nx ls st h = some o) : ∃ x r, st = .long x :: r ∧ a + 1 < ls.length ∧ rx_nl ls a = true ∧ o = .inl (nx, (ls.set a (.long x)).set (a + 1) .null, r, h) := by
  unfold rx_lstore at e
  split at e
  · next x r =>
    split at e
    · next hc =>
      cases e
      simp only [Bool.and_eq_true, decide_eq_true_eq] at hc
      exact ⟨x, r, rfl, hc.1, hc.2, rfl⟩
    · cases e
  · cases e
theorem rx_iinc_inv {n : Int32} (e : rx_iinc a nx n ls st h = some o) : ∃ x, ls[a]? = some (.int x) ∧ rx_nl ls a = true ∧ o = .inl (nx, ls.set a (.int (x + n)), st, h) := by
  unfold rx_iinc at e
  split at e
  · next x hx =>
    split at e
    · next hc => cases e; exact ⟨x, hx, hc, rfl⟩
    · cases e
  · cases e
theorem rx_get_inv (e : rx_get ci k nx ls st h = some o) : ∃ i r fs v, st = .ref i :: r ∧ ¬ i = 0 ∧ rx_rd h i = some (.inr (ci, fs)) ∧ fs[k]? = some v ∧ o = .inl (nx, ls, v :: r, h) := by
  unfold rx_get at e
  split at e
  · next i r =>
    split at e
    · cases e
    · next hi =>
      split at e
      · next c fs hr =>
        split at e
        · next hc =>
          subst hc
          split at e
          · next v hv => cases e; exact ⟨i, r, fs, v, rfl, hi, hr, hv, rfl⟩
          · cases e
        · cases e
      · cases e
  · cases e
theorem rx_put_inv {kd : Nat} (e : rx_put ci k kd nx ls st h = some o) : ∃ v i r fs, st = v :: .ref i :: r ∧ ¬ i = 0 ∧ rx_rd h i = some (.inr (ci, fs)) ∧ rx_fit kd v = true ∧ k < fs.length ∧ o = .inl (nx, ls, r, rx_up h i (.inr (ci, fs.set k v))) := by
  unfold rx_put at e
  split at e
  · next v i r =>
    split at e
    · cases e
    · next hi =>
      split at e
      · next c fs hr =>
        split at e
        · next hc =>
          subst hc
          split at e
          · next hb =>
            cases e
            simp only [Bool.and_eq_true, decide_eq_true_eq] at hb
            exact ⟨v, i, r, fs, rfl, hi, hr, hb.1, hb.2, rfl⟩
          · cases e
        · cases e
      · cases e
  · cases e
theorem rx_aload_inv (e : rx_aload tg nx ls st h = some o) : ∃ j i r n f, st = .int j :: .ref i :: r ∧ rx_rd h i = some (.inl (tg, n, .inl f)) ∧ vp_in j n ∧ o = .inl (nx, ls, .int (f j.toNatClampNeg) :: r, h) := by
  unfold rx_aload at e
  split at e
  · next j i r =>
    split at e
    · next t n f hr =>
      split at e
      · next ht =>
        subst ht
        split at e
        · cases e
        · next hin => cases e; exact ⟨j, i, r, n, f, rfl, hr, hin, rfl⟩
      · cases e
    · cases e
  · cases e
theorem rx_astore_inv {nar : Int32 → Int32} (e : rx_astore tg nx nar ls st h = some o) : ∃ x j i r n f, st = .int x :: .int j :: .ref i :: r ∧ ¬ i = 0 ∧ rx_rd h i = some (.inl (tg, n, .inl f)) ∧ vp_in j n ∧ o = .inl (nx, ls, r, rx_up h i (.inl (tg, n, .inl (upd f j.toNatClampNeg (nar x))))) := by
  unfold rx_astore at e
  split at e
  · next x j i r =>
    split at e
    · cases e
    · next hi =>
      split at e
      · next t n f hr =>
        split at e
        · next ht =>
          subst ht
          split at e
          · cases e
          · next hin => cases e; exact ⟨x, j, i, r, n, f, rfl, hi, hr, hin, rfl⟩
        · cases e
      · cases e
  · cases e
theorem rx_aaload_inv (e : rx_aaload nx ls st h = some o) : ∃ j i r t n f q, st = .int j :: .ref i :: r ∧ ¬ i = 0 ∧ rx_rd h i = some (.inl (t, n, .inr (.inr (.inr (.inr f))))) ∧ (t = 2 ∨ t = 3) ∧ vp_in j n ∧ f j.toNatClampNeg = some q ∧ o = .inl (nx, ls, .ref q :: r, h) := by
  unfold rx_aaload at e
  split at e
  · next j i r =>
    split at e
    · cases e
    · next hi =>
      split at e
      · next t n f hr =>
        split at e
        · next ht =>
          split at e
          · cases e
          · next hin =>
            split at e
            · next q hq => cases e; exact ⟨j, i, r, t, n, f, q, rfl, hi, hr, ht, hin, hq, rfl⟩
            · cases e
        · cases e
      · cases e
  · cases e
theorem rx_aastore_inv (e : rx_aastore nx ls st h = some o) : ∃ q j i r t n f fs, st = .ref q :: .int j :: .ref i :: r ∧ ¬ i = 0 ∧ ¬ q = 0 ∧ rx_rd h i = some (.inl (t, n, .inr (.inr (.inr (.inr f))))) ∧ (t = 2 ∨ t = 3) ∧ vp_in j n ∧ rx_rd h q = some (.inr (rx_tc t, fs)) ∧ o = .inl (nx, ls, r, rx_up h i (.inl (t, n, .inr (.inr (.inr (.inr (va_up f j.toNatClampNeg (some q)))))))) := by
  unfold rx_aastore at e
  split at e
  · next q j i r =>
    split at e
    · cases e
    · next hi =>
      split at e
      · next t n f hr =>
        split at e
        · next ht =>
          split at e
          · cases e
          · next hin =>
            split at e
            · next c fs hq =>
              split at e
              · next hc =>
                subst hc
                cases e
                exact ⟨q, j, i, r, t, n, f, fs, rfl, fun z => hi (Or.inl z), fun z => hi (Or.inr z), hr, ht, hin, hq, rfl⟩
              · cases e
            · cases e
        · cases e
      · cases e
  · cases e
theorem rx_alen_inv (e : rx_alen nx ls st h = some o) : ∃ i r t n f, st = .ref i :: r ∧ rx_rd h i = some (.inl (t, n, .inl f)) ∧ (t = 0 ∨ (t = 1 ∧ ¬ i = 0)) ∧ o = .inl (nx, ls, .int (Int32.ofNat n) :: r, h) := by
  unfold rx_alen at e
  split at e
  · next i r =>
    split at e
    · next t n f hr =>
      split at e
      · next ht => cases e; exact ⟨i, r, t, n, f, rfl, hr, ht, rfl⟩
      · cases e
    · cases e
  · cases e
theorem rx_newa_inv (e : rx_newa tg nx ls st h = some o) : ∃ n r, st = .int n :: r ∧ ¬ n < 0 ∧ n.toNatClampNeg ≤ 134217728 ∧ o = .inl (nx, ls, .ref h.1 :: r, rx_nw h n.toNatClampNeg (.inl (tg, n.toNatClampNeg, .inl (fun _ => 0)))) := by
  unfold rx_newa at e
  split at e
  · next n r =>
    split at e
    · cases e
    · next hn => cases e; exact ⟨n, r, rfl, fun z => hn (Or.inl z), Nat.not_lt.mp fun z => hn (Or.inr z), rfl⟩
  · cases e
theorem rx_anew_inv (e : rx_anew tg nx ls st h = some o) : ∃ n r, st = .int n :: r ∧ ¬ n < 0 ∧ n.toNatClampNeg ≤ 134217728 ∧ o = .inl (nx, ls, .ref h.1 :: r, rx_nw h n.toNatClampNeg (.inl (tg, n.toNatClampNeg, .inr (.inr (.inr (.inr (fun _ => none))))))) := by
  unfold rx_anew at e
  split at e
  · next n r =>
    split at e
    · cases e
    · next hn => cases e; exact ⟨n, r, rfl, fun z => hn (Or.inl z), Nat.not_lt.mp fun z => hn (Or.inr z), rfl⟩
  · cases e
theorem rx_copy_inv (e : rx_copy nx ls st h = some o) : ∃ n dp d sp i r t n0 n1 f g, st = .int n :: .int dp :: .ref d :: .int sp :: .ref i :: r ∧ ¬ i = 0 ∧ ¬ d = 0 ∧ r.length ≤ 4 ∧ rx_rd h i = some (.inl (t, n0, .inl f)) ∧ rx_rd h d = some (.inl (t, n1, .inl g)) ∧ t ≤ 1 ∧ ¬ sp < 0 ∧ ¬ dp < 0 ∧ ¬ n < 0 ∧ sp.toNatClampNeg + n.toNatClampNeg ≤ n0 ∧ dp.toNatClampNeg + n.toNatClampNeg ≤ n1 ∧ (t = 0 ∨ ∀ j, j < n.toNatClampNeg → fits .byte (.int (f (sp.toNatClampNeg + j))) = true) ∧
    o = .inl (nx, ls, r, rx_up h d (.inl (t, n1, .inl (va_cpy f g sp.toNatClampNeg dp.toNatClampNeg n.toNatClampNeg)))) := by
  unfold rx_copy at e
  split at e
  · next n dp d sp i r =>
    split at e
    · cases e
    · next hi =>
      split at e
      · next t n0 f u n1 g h1 h2 =>
        split at e
        · next hc =>
          obtain ⟨c1, rfl, c3, c4, c5, c6, c7, c8⟩ := hc
          cases e
          exact ⟨n, dp, d, sp, i, r, _, n0, n1, f, g, rfl, fun z => hi (Or.inl z), fun z => hi (Or.inr (Or.inl z)), Nat.not_lt.mp fun z => hi (Or.inr (Or.inr z)), h1, h2, c1, c3, c4, c5, c6, c7, c8, rfl⟩
        · cases e
      · cases e
  · cases e
theorem rx_call_inv {nr kd cn : Nat} (e : rx_call a nr kd cn nx st h = some o) : ∃ As rest, st = As.reverse ++ rest ∧ As.length = nr ∧ rest.length ≤ 4 ∧ o = .inr (.inl (a, As, rest, nx)) ∧ (kd = 0 ∨ (kd = 1 ∧ ∃ i Bs fs, As = .ref i :: Bs ∧ ¬ i = 0 ∧ rx_rd h i = some (.inr (cn, fs))) ∨ (kd = 2 ∧ ∃ i Bs, As = .ref i :: Bs ∧ ¬ i = 0)) := by
  unfold rx_call at e
  split at e
  · next hc =>
    simp only [Bool.and_eq_true, decide_eq_true_eq] at hc
    have e1 : st = ((st.take nr).reverse).reverse ++ st.drop nr := by rw [List.reverse_reverse, List.take_append_drop]
    have e2 : ((st.take nr).reverse).length = nr := by rw [List.length_reverse, List.length_take]; omega
    split at e
    · cases e
      exact ⟨_, _, e1, e2, hc.2, rfl, Or.inl rfl⟩
    · next i Bs hA =>
      split at e
      · cases e
      · next hi =>
        split at e
        · next c fs hr =>
          split at e
          · next hcn =>
            subst hcn
            cases e
            rw [hA] at e1 e2
            exact ⟨_, _, e1, e2, hc.2, rfl, Or.inr (Or.inl ⟨rfl, i, Bs, fs, rfl, hi, hr⟩)⟩
          · cases e
        · cases e
    · next i Bs hA =>
      split at e
      · cases e
      · next hi =>
        cases e
        rw [hA] at e1 e2
        exact ⟨_, _, e1, e2, hc.2, rfl, Or.inr (Or.inr ⟨rfl, i, Bs, rfl, hi⟩)⟩
    · cases e
  · cases e
end RXV
end
section
/-! ===== the rows that write ===== -/
theorem rx_fit_ok {ty : FieldType} {v : Value} {b bs : Nat} (h : rx_fit (rx_tk ty) v = true) : narrow ty (rx_tv b bs v) = rx_tv b bs v ∧ fits ty (rx_tv b bs v) = true := by
  cases ty <;> cases v <;> simp only [rx_tk, rx_fit] at h <;> first | cases h | skip
  all_goals first | exact ⟨rfl, rfl⟩ | skip
  next x =>
    simp only [Bool.or_eq_true, decide_eq_true_eq] at h
    rcases h with rfl | rfl
    · exact ⟨show narrow .boolean (.int 0) = .int 0 by decide +kernel, show fits .boolean (.int 0) = true by decide +kernel⟩
    · exact ⟨show narrow .boolean (.int 1) = .int 1 by decide +kernel, show fits .boolean (.int 1) = true by decide +kernel⟩
theorem rx_and {p q : Bool} (h : (p && q) = true) : p = true ∧ q = true := by simpa using h
theorem rx_ta_pos {b bs i : Nat} (hi : ¬ i = 0) : rx_ta b bs i = bs + i := by rw [rx_ta, if_neg hi]
theorem rx_map_ref {b bs i : Nat} (hi : ¬ i = 0) (r : List Value) : (Value.ref i :: r).map (rx_tv b bs) = .ref (bs + i) :: r.map (rx_tv b bs) := by
  rw [List.map_cons]
  show Value.ref (rx_ta b bs i) :: _ = _
  rw [rx_ta_pos hi]
theorem rx_cats {b bs : Nat} : ∀ r : List Value, ((r.map (rx_tv b bs)).map fun v => v.category).sum ≤ 2 * r.length
  | [] => Nat.le_refl _
  | v :: t => by
    have ih := rx_cats (b := b) (bs := bs) t
    have h1 := lv_cat (rx_tv b bs v)
    simp only [List.map_cons, List.sum_cons, List.length_cons]
    omega
section RXW
variable {p : Program} {l : Launch} {e : Env} {R : Room} {s : State} {m : MethodId} {args : Array Value} {below : List Frame} {meth : Method} {c : Code} {H : Heap} {locs : List Loc} {cells slots : Nat} {Z : State → Prop}
variable {dC : Nat → ClassId} {dI : Nat → Nat → Nat} {dA : Nat → ClassId} {b bs L : Nat} {xs : Nat → Int32} {mi pc : Nat} {ls : List Value} {lsA : Array Slot} {rest : List Value} {h : rx_H}
theorem rx_Wput {ci : Nat} (hlays : ∀ w ∈ u_ws (rx_Rn ci) (rx_T ci) (rx_N ci), w ∈ rx_g) (hF : rx_Fx dC dI dA b bs L xs mi p R s m args meth c) {index i k : Nat} (e2 : ci < 9) (e3 : k < rx_N ci) (hw : Cond.fieldLink (rx_y mi).cls index (rx_T ci k).1 (rx_T ci k).2.1 (rx_T ci k).2.2.1 ∈ rx_g)
    (hfin : (rx_T ci k).2.2.2 = false ∨ ((rx_y mi).name = "<init>" ∧ (rx_T ci k).1 = (rx_y mi).cls)) {v : Value} (hn : narrow (rx_ty ci k) v = v) (hfit : fits (rx_ty ci k) v = true) {fs : List Value} (hP : va_at (dC, dI) rx_kinds (bs + i, .inr (ci, fs)) H) (hl : k < fs.length) (hdg : decode (rx_cc mi) pc = .ok (.putfield index, 3))
    (kk : ∀ (H1 : Heap) (locs1 : List Loc), va_at (dC, dI) rx_kinds (bs + i, .inr (ci, fs.set k v)) H1 → H1.size = H.size → (∀ q : Nat, q ≠ bs + i → H1[q]? = H[q]?) → (∀ q ∈ locs1, q ∈ locs ∨ q.base = bs + i) → W p l e R s m args below meth c H1 locs1 cells slots Z (F0 m (pc + 3) lsA rest)) :
    W p l e R s m args below meth c H locs cells slots Z (F0 m pc lsA (v :: .ref (bs + i) :: rest)) := by
  obtain ⟨hx, hb, -, hown, hts, hK, -, -, -, -, hnm⟩ := hF
  have hc := rx_kinds_at ci e2
  have hty := rx_ty_ok ci e2
  have hap := va_apart (own := (rx_y mi).cls) hts hlays (rx_ty ci) hty (rx_nm_ok ci e2) hK.1 hc
  obtain ⟨r, h1, cell, q1, q2, q3, q4⟩ := hP
  have hr : r = (rx_Rn ci, rx_T ci, rx_N ci) := Option.some.inj (h1.symm.trans hc)
  subst hr
  obtain ⟨hS, hfc, kC, hkC, hkind⟩ := hK.1.1 ci _ hc
  obtain ⟨cf, kf, fi, f, hi, hsl⟩ := hS k e3
  have hst := (u_facts hfc hkC (u_lays hts hlays e3) hi).1
  have hlay := hts _ (hlays _ (u_in_lay e3))
  have hlc : ∀ q ∈ locs ++ [(⟨bs + i, f.slot⟩ : Loc)], q ∈ locs ∨ q.base = bs + i := fun q hq => by
    rcases List.mem_append.mp hq with z | z
    · exact Or.inl z
    · rw [List.mem_singleton.mp z]; exact Or.inr rfl
  unfold u_lay at hlay
  by_cases hf : (rx_T ci k).2.2.2 = false
  · rw [if_neg (by rw [hf]; decide)] at hlay
    have h6 := u_store hfc hkC hkind hlay hi (hty k e3) hn hfit
    refine W.putK hx hb (f := f) ⟨hown, hts _ hw, ⟨_, _, _, hi⟩, hst⟩ (by rw [q2]; exact h6) q1 q3 (by rw [hsl]; exact k2_hasslot (q4 k e3)) rfl rfl hdg fun H' e1 e4 e5 => ?_
    refine kk H' _ ⟨_, hc, t_OB.to (V := updV (vp_V fs) k v) ⟨_, e1, q2, q3, ?_⟩ (fun j _ => vp_updV_set hl v j)⟩ e4 e5 hlc
    rw [hsl]
    exact t_set q4 hap e3 v
  · rcases hfin with z | ⟨z1, z2⟩
    · exact absurd z hf
    · have hf' : (rx_T ci k).2.2.2 = true := by cases hz : (rx_T ci k).2.2.2 with
        | true => rfl
        | false => exact absurd hz hf
      rw [if_pos hf'] at hlay
      have hcf : m.cls = cf := by
        obtain ⟨_, _, c', _, _, _, -, -, hf', -, -, -, hown2, -⟩ := Cond.laysFinal_spec hlay
        have e1 : c' = cf := by have := hi.symm.trans hf'; simp at this; exact this.1.symm
        rw [z2] at hown2
        rw [← e1]; exact Option.some.inj (hown.symm.trans hown2)
      have h6 := u_fits hfc hkC hkind (Or.inr hlay) hi (hty k e3) hn hfit
      refine W.putFinK hx hb hown (hts _ hw) hi hst hcf (hnm.trans z1) (by rw [q2]; exact h6) q1 q3 (by rw [hsl]; exact k2_hasslot (q4 k e3)) rfl rfl hdg fun H' e1 e4 e5 => ?_
      refine kk H' _ ⟨_, hc, t_OB.to (V := updV (vp_V fs) k v) ⟨_, e1, q2, q3, ?_⟩ (fun j _ => vp_updV_set hl v j)⟩ e4 e5 hlc
      rw [hsl]
      exact t_set q4 hap e3 v
theorem rx_upd_cell (cA : ClassId) (n j : Nat) (f : Nat → Int32) (x : Int32) : (vp_cell cA (n, .inl f)).setSlot j (.int x) = vp_cell cA (n, .inl (upd f j x)) := by
  rw [vp_cell_i, vp_cell_i, arrV_store]
  congr 1
  funext q
  by_cases hq : q = j
  · subst hq
    simp [updV, upd]
  · simp [updV, upd, hq]
theorem rx_up_cell (cA : ClassId) (n j : Nat) (f : Nat → Option Nat) (v : Nat) : (vp_cell cA (n, .inr (.inr (.inr (.inr f))))).setSlot j (.ref v) = vp_cell cA (n, .inr (.inr (.inr (.inr (va_up f j (some v)))))) := by
  rw [vp_cell_q, vp_cell_q, arrV_store]
  congr 1
  funext q
  by_cases hq : q = j
  · subst hq
    simp [updV, va_up, va_rf]
  · simp [updV, va_up, hq]
theorem rx_lc {k i : Nat} {bs : Nat} {locs : List Loc} : ∀ q ∈ locs ++ [(⟨bs + i, k⟩ : Loc)], q ∈ locs ∨ q.base = bs + i := fun q hq => by
  rcases List.mem_append.mp hq with z | z
  · exact Or.inl z
  · rw [List.mem_singleton.mp z]; exact Or.inr rfl
theorem rx_tys_at (t : Nat) (ht : t ≤ 1) : (rx_tys dA)[t]? = some (dA t, if t = 0 then .int else .byte) := by
  rcases t with _ | _ | t
  · rfl
  · rfl
  · omega
theorem rx_Wcopy (hF : rx_Fx dC dI dA b bs L xs mi p R s m args meth c) (hsz : lsA.size = rx_ml mi) {index : Nat} (w1 : Cond.methodLink (rx_y mi).cls index arraycopyName ∈ rx_g) (w2 : Cond.native arraycopyName ∈ rx_g) (w3 : Cond.static arraycopyName ∈ rx_g) (w4 : Cond.initialized "java/lang/System" ∈ rx_g)
    {t i d n0 n1 : Nat} {f g : Nat → Int32} (ht : t ≤ 1) (hc0 : H[bs + i]? = some (vp_cell (dA t) (n0, .inl f))) (hc1 : H[bs + d]? = some (vp_cell (dA t) (n1, .inl g)))
    {sp dp n : Int32} (h1 : ¬ sp < 0) (h2 : ¬ dp < 0) (h3 : ¬ n < 0) (h4 : sp.toNatClampNeg + n.toNatClampNeg ≤ n0) (h5 : dp.toNatClampNeg + n.toNatClampNeg ≤ n1) (hfit : t = 0 ∨ ∀ j, j < n.toNatClampNeg → fits .byte (.int (f (sp.toNatClampNeg + j))) = true)
    (hframes : 1 ≤ R.frames) (hlocals : (rest.map fun v => v.category).sum + 18 ≤ R.locals) (hdg : decode (rx_cc mi) pc = .ok (.invokestatic index, 3))
    (kk : ∀ (H1 : Heap) (locs1 : List Loc), H1[bs + d]? = some (vp_cell (dA t) (n1, .inl (va_cpy f g sp.toNatClampNeg dp.toNatClampNeg n.toNatClampNeg))) → H1.size = H.size → (∀ q : Nat, q ≠ bs + d → H1[q]? = H[q]?) → (∀ q ∈ locs1, q ∈ locs ∨ q.base = bs + d) → W p l e R s m args below meth c H1 locs1 cells slots Z (F0 m (pc + 3) lsA rest)) :
    W p l e R s m args below meth c H locs cells slots Z (F0 m pc lsA (.int n :: .int dp :: .ref (bs + d) :: .int sp :: .ref (bs + i) :: rest)) := by
  obtain ⟨hx, hb, hml, hown, hts, hK, -⟩ := hF
  have nn : ∀ z : Int32, ¬ z < 0 → z.toInt = (z.toNatClampNeg : Int) := by
    intro z hz
    have hz0 : (0 : Int) ≤ z.toInt := by
      have := Int32.not_lt.mp hz
      simpa using Int32.le_iff_toInt_le.mp this
    show z.toInt = ((z.toInt.toNat : Nat) : Int)
    omega
  intro T hT X
  have htt := (hK.1.2 t _ (rx_tys_at t ht)).1
  obtain ⟨-, k0, hk0, cm0, hkk0⟩ := htt n0 (fun j => .int (f j))
  obtain ⟨-, k1, hk1, cm1, hkk1⟩ := htt n1 (fun j => .int (g j))
  obtain ⟨vm', X', step⟩ := X.arraycopy hx hown (hts _ w1) (hts _ w2) (hts _ w3) (hts _ w4) (src := bs + i) (dst := bs + d) (cs := vp_cell (dA t) (n0, .inl f)) (cd := vp_cell (dA t) (n1, .inl g)) (srcPos := sp) (destPos := dp) (n := n) (by rw [hT]; exact hc0) (by rw [hT]; exact hc1)
    (fun _ h => by cases h) (fun _ h => by cases h) (fun h => by cases h) (fun h => by cases h) hk0 hk1 hkk0 hkk1 (by rcases t with _ | _ | t <;> first | rfl | decide | omega) h1 h2 h3
    (by rw [nn sp h1, nn n h3]; show ¬ _ > ((arrV (dA t) n0 (fun j => .int (f j))).slots.size : Int); rw [arrV_size]; omega)
    (by rw [nn dp h2, nn n h3]; show ¬ _ > ((arrV (dA t) n1 (fun j => .int (g j))).slots.size : Int); rw [arrV_size]; omega)
    (fun vm₁ _ j hj => by
      have e : (vp_cell (dA t) (n0, .inl f)).slots.getD (sp.toNatClampNeg + j) .null = .int (f (sp.toNatClampNeg + j)) := by
        show (arrV (dA t) n0 (fun j => .int (f j))).slots.getD _ _ = _
        rw [Array.getD_eq_getD_getElem?, arrV_read _ _ (by omega)]
        rfl
      refine ⟨?_, ?_⟩
      · rw [e]
        rcases t with _ | _ | t
        · rfl
        · rcases hfit with z | z
          · omega
          · exact z j hj
        · omega
      · rw [e]
        exact trivial)
    (g := F0 m pc lsA (.int n :: .int dp :: .ref (bs + d) :: .int sp :: .ref (bs + i) :: rest)) rfl (by rw [hml]; exact hsz) (rest := rest) rfl (by rw [hb]; exact hdg) hframes (by
      have e : nativeFrameWords "java/lang/System" "arraycopy" 5 = 7 := by decide +kernel
      rw [e]; show 2 * 0 + _ + _ ≤ _; omega)
  have e1 : copied (vp_cell (dA t) (n0, .inl f)) (vp_cell (dA t) (n1, .inl g)) sp dp n = vp_cell (dA t) (n1, .inl (va_cpy f g sp.toNatClampNeg dp.toNatClampNeg n.toNatClampNeg)) := va_copied (fun z => .int z) (dA t) (dA t) f g h4
  rw [e1] at X' step
  have hl : bs + d < H.size := (Array.getElem?_eq_some_iff.mp hc1).1
  have hheap : ((T.setVm vm').setCell (bs + d) (vp_cell (dA t) (n1, .inl (va_cpy f g sp.toNatClampNeg dp.toNatClampNeg n.toNatClampNeg)))).heap = H.setIfInBounds (bs + d) (vp_cell (dA t) (n1, .inl (va_cpy f g sp.toNatClampNeg dp.toNatClampNeg n.toNatClampNeg))) := by rw [← hT]; rfl
  obtain ⟨t2, a1, b1⟩ := kk _ _ (show (H.setIfInBounds (bs + d) _)[bs + d]? = some _ by simp [Array.getElem?_setIfInBounds, hl]) (by simp) (fun q hq => by simp [Array.getElem?_setIfInBounds, Ne.symm hq]) (fun q hq => by
      rcases List.mem_append.mp hq with h | h
      · exact Or.inl h
      · obtain ⟨z, -, hz⟩ := List.mem_map.mp h
        rw [← hz]
        exact Or.inr rfl) _ hheap X'
  exact ⟨t2, step t2 a1, b1⟩
end RXW
end
section
/-! ===== the interpreter is sound: every instruction ===== -/
theorem rx_ok_of {mi pc : Nat} {i : rx_I} (hi : rx_it mi pc = some i) : mi < 173 ∧ decode (rx_cc mi) pc = .ok (i.1, i.2.1 - pc) ∧ rx_shape mi pc i = true ∧ ∀ w ∈ rx_need mi i, w ∈ rx_g := by
  unfold rx_it at hi
  cases hq : (rx_tbs.getD mi []).lookup pc with
  | none => rw [hq] at hi; cases hi
  | some q =>
    rw [hq] at hi
    have e : q.1 = i := Option.some.inj hi
    by_cases hm : mi < 173
    · have h1 := List.all_eq_true.mp (rx_ck mi hm) _ (rx_lk _ _ _ hq)
      unfold rx_okI at h1
      simp only [Bool.and_eq_true, decide_eq_true_eq] at h1
      rw [e] at h1
      exact ⟨hm, h1.1.1.1, h1.1.1.2, rx_g_in h1.1.2 h1.2⟩
    · have h0 : rx_tbs.getD mi [] = [] := by
        have : rx_tbs.length = 173 := by decide +kernel
        rw [List.getD_eq_getElem?_getD, List.getElem?_eq_none (by omega)]
        rfl
      rw [h0] at hq
      cases hq
def rx_xs (pc : Nat) (i : rx_I) : Bool := match i with
  | (.goto _, nx, _, _, _, _) => decide (nx = pc + 3)
  | (.ldc _, _, _, _, _, v) => (match v with
    | .int _ => true
    | _ => false)
  | (.ldc_w _, _, _, _, _, v) => (match v with
    | .int _ => true
    | _ => false)
  | (.ldc2_w _, _, _, _, _, v) => (match v with
    | .long _ => true
    | _ => false)
  | _ => true
theorem rx_xck : rx_tbs.all (fun t => t.all (fun q => rx_xs q.1 q.2.1)) = true := by decide +kernel
theorem rx_xs_of {mi pc : Nat} {i : rx_I} (hi : rx_it mi pc = some i) : rx_xs pc i = true := by
  unfold rx_it at hi
  cases hq : (rx_tbs.getD mi []).lookup pc with
  | none => rw [hq] at hi; cases hi
  | some q =>
    rw [hq] at hi
    have e : q.1 = i := Option.some.inj hi
    have h1 := rx_lk _ _ _ hq
    by_cases hm : mi < rx_tbs.length
    · have h2 : rx_tbs.getD mi [] ∈ rx_tbs := by
        rw [List.getD_eq_getElem?_getD, List.getElem?_eq_getElem hm]
        exact List.getElem_mem hm
      have h3 := List.all_eq_true.mp (List.all_eq_true.mp rx_xck _ h2) _ h1
      rw [← e]
      exact h3
    · have h0 : rx_tbs.getD mi [] = [] := by rw [List.getD_eq_getElem?_getD, List.getElem?_eq_none (by omega)]; rfl
      rw [h0] at hq
      cases hq
theorem rx_m_of {a : Nat} (h : a < 173) : plainName (rx_y a).cls = true ∧ (rx_y a).cls ≠ "java/lang/invoke/MethodHandle" ∧ (rx_y a).cls ≠ "java/lang/invoke/VarHandle" ∧ (parseMethodDescriptor (rx_y a).desc).map (fun d => d.parameters.length) = some (rx_np a) := by
  have h1 := List.all_eq_true.mp rx_mok a (List.mem_range.mpr h)
  unfold rx_okM at h1
  simp only [Bool.and_eq_true, decide_eq_true_eq] at h1
  exact ⟨h1.1.1.1, h1.1.1.2, h1.1.2, h1.2⟩
def rx_ws (a : Nat) : List Cond := Cond.code (rx_y a) (rx_cc a) (rx_ml a) (rx_rt a) :: rx_g
theorem rx_cd_g {a : Nat} (h : a < 172) : Cond.code (rx_y a) (rx_cc a) (rx_ml a) (rx_rt a) ∈ rx_g := List.mem_filter.mpr ⟨rx_cd a h, rfl⟩
theorem rx_good {a : Nat} (h : a < 172) : GoodIn rx_g (rx_ws a) := by
  intro w hw
  have h1 : w ∈ rx_g := by
    rcases List.mem_cons.mp hw with rfl | z
    · exact rx_cd_g h
    · exact z
  exact ⟨h1, good_of_word (List.mem_filter.mp h1).2⟩
def rx_Pc (dC : Nat → ClassId) (dI : Nat → Nat → Nat) (dA : Nat → ClassId) (b bs L : Nat) (xs : Nat → Int32) (As : List Value) (h : rx_H) : Array Value → State → Prop := va_Pc (As.map (rx_tv b bs)) (fun U => rx_G dC dI dA b bs L xs h U.heap ∧ rx_K dC dI dA U ∧ va_X b L xs U U.heap)
def rx_Qc (dC : Nat → ClassId) (dI : Nat → Nat → Nat) (dA : Nat → ClassId) (b bs L : Nat) (xs : Nat → Int32) (r : Option Value) (h' : rx_H) : Array Value → State → Outcome → State → Prop := fun _ st oc t => oc = .returned (r.map (rx_tv b bs)) ∧ rx_G dC dI dA b bs L xs h' t.heap ∧ ∀ q : Nat, q ≤ bs → t.heap[q]? = st.heap[q]?
section RXM
variable {l : Launch} {dC : Nat → ClassId} {dI : Nat → Nat → Nat} {dA : Nat → ClassId} {b bs L : Nat} {xs : Nat → Int32}
set_option maxHeartbeats 2000000 in
theorem rx_met (hb : b ≤ bs) {a : Nat} (ha : a < 172) {As : List Value} {h h' : rx_H} {r : Option Value} (hl : (rx_xp As).length ≤ rx_ml a) (hP : rx_P l dC dI dA b bs L xs a 0 (rx_en a As) [] h (fun r' h2 => r' = r ∧ h2 = h')) :
    Met l (rx_y a) (rx_ws a) ({ frames := rx_fr a, cells := h'.1 - h.1, slots := h'.2.1 - h.2.1, locals := rx_lo a }) (rx_Pc dC dI dA b bs L xs As h) (rx_Qc dC dI dA b bs L xs r h') (h'.1 - h.1) (h'.2.1 - h.2.1) (fun q => bs < q) := by
  have ha' : a < 173 := by omega
  obtain ⟨⟨r0, h0, ⟨e1, e2⟩, m1, m2⟩, hP⟩ := hP
  rw [e2] at m1 m2
  refine Met.ofW (cc := rx_cc a) (maxL := rx_ml a) (ret := rx_rt a) (rx_m_of ha').1 rfl ?_
  intro p e s m args below meth c s₁ B hml hv
  obtain ⟨rfl, hG, hK, hX⟩ := hv
  have hts := atoms_spec (ws := rx_ws a) B.pre
  have hlocks := B.notSynchronized
  rw [lg_entry_eq]
  have hF : rx_Fx dC dI dA b bs L xs a p ({ frames := rx_fr a, cells := h'.1 - h.1, slots := h'.2.1 - h.2.1, locals := rx_lo a }) s m (As.map (rx_tv b bs)).toArray meth c :=
    ⟨B.exec, B.bytes, hml, findClass_of_methodNamed B.named, fun w hw => hts w (List.mem_cons_of_mem _ hw), hK, hX, hb, Nat.le_refl _, Nat.le_refl _, (name_of_methodNamed B.named B.method).1⟩
  refine hP p e _ s m _ below meth c s.heap [] _ 0 0 h.1 h.2.1 _ hF ⟨hG, fun _ _ => rfl, fun q hq => absurd hq List.not_mem_nil, rx_LS_entry b bs a As hl⟩ (by omega) (by omega) ?_ ?_
  · rintro r' h2 ⟨rfl, rfl⟩
    constructor
    · show h2.1 ≤ h.1 + (h2.1 - h.1); omega
    · show h2.2.1 ≤ h.2.1 + (h2.2.1 - h.2.1); omega
  · rintro r' h2 H1 locs1 pc1 ls1 ⟨rfl, rfl⟩ hG1 hlow hloc n1 n2 hrd
    have hq : ∀ t : State, t.heap = H1 → s.WarmedH t.vm → rx_Qc dC dI dA b bs L xs r' h2 (As.map (rx_tv b bs)).toArray s (.returned (r'.map (rx_tv b bs))) t := fun t ht _ => ⟨rfl, by rw [ht]; exact hG1, fun q hq => by rw [ht]; exact hlow q hq⟩
    rcases r' with _ | v
    · exact W.vret B.exec B.bytes (B.returns.trans hrd.2) hq hloc hrd.1
    · cases v with
      | int x =>
        rcases hrd.2 with z | ⟨z, zz⟩
        · exact W.iret B.exec B.bytes (B.returns.trans z) hq hloc hrd.1
        · refine W.zret B.exec B.bytes (B.returns.trans z) ?_ hq hloc hrd.1
          rcases zz with rfl | rfl <;> decide +kernel
      | long x => exact W.lret B.exec B.bytes (B.returns.trans hrd.2) hq hloc hrd.1
      | ref x =>
        rcases hrd.2 with ⟨n, z⟩ | ⟨n, z⟩
        · exact W.aret B.exec B.bytes (B.returns.trans z) (Or.inl ⟨_, rfl⟩) (Or.inr ⟨_, rfl⟩) hq hloc hrd.1
        · exact W.aret B.exec B.bytes (B.returns.trans z) (Or.inr ⟨_, rfl⟩) (Or.inr ⟨_, rfl⟩) hq hloc hrd.1
      | float x => exact hrd.elim
      | double x => exact hrd.elim
      | null => exact hrd.elim
      | retAddr x => exact hrd.elim
theorem rx_blind {As : List Value} {h : rx_H} : FrameBlind (rx_Pc dC dI dA b bs L xs As h) := by
  intro a U g mk q
  obtain ⟨q0, q1, q2, q3⟩ := q
  exact ⟨q0, q1, rx_K_same (u := U) (U := U.calling g mk a) rfl q2, va_X.moved (u := U) (U := U.calling g mk a) (Vm.Alike.refl U.vm) q3⟩
variable {p : Program} {e : Env} {R : Room} {s : State} {m : MethodId} {args : Array Value} {below : List Frame} {meth : Method} {c : Code} {H : Heap} {locs : List Loc} {cells slots : Nat} {Z : State → Prop} {mi pc : Nat} {ls : List Value} {lsA : Array Slot} {h : rx_H}
theorem rx_pre (hF : rx_Fx dC dI dA b bs L xs mi p R s m args meth c) (hD : rx_Dy dC dI dA b bs L xs mi s H locs lsA ls h) {As : List Value} : ∀ U : State, U.heap = H → s.WarmedH U.vm → rx_Pc dC dI dA b bs L xs As h (As.map (rx_tv b bs)).toArray U := by
  intro U hU hW
  obtain ⟨-, -, -, -, -, hK, hX, hb, -⟩ := hF
  refine ⟨rfl, by rw [hU]; exact hD.1, rx_K_warm hW hK, ?_⟩
  refine va_X.moved hW.alike (hX.kept ?_)
  rw [hU]
  exact hD.2.1 b hb
theorem rx_Wcall {mc ms : Nat} {st0 rest : List Value} {r : Option Value} {h' : rx_H} {arr : Array Value} (hr : va_Run p l e R s m args below meth c H locs cells slots mc ms (F0 m pc lsA st0) rest (rx_Qc dC dI dA b bs L xs r h' arr) (fun q => bs < q)) (hloc : ∀ q ∈ locs, bs < q.base)
    (kk : ∀ (H1 : Heap) (locs1 : List Loc), rx_G dC dI dA b bs L xs h' H1 → (∀ q : Nat, q ≤ bs → H1[q]? = H[q]?) → (∀ q ∈ locs1, bs < q.base) → W p l e R s m args below meth c H1 locs1 (cells + mc) (slots + ms) Z (F0 m (pc + 3) lsA ((r.map (rx_tv b bs)).toList ++ rest))) : W p l e R s m args below meth c H locs cells slots Z (F0 m pc lsA st0) := by
  intro T hT X
  obtain ⟨v, st₀, t, T', L', h0, X', hL, e1, e2, ⟨hv, hG, hlow⟩, st⟩ := hr T hT X
  injection hv with hv
  subst hv
  obtain ⟨t2, a1, b1⟩ := kk T'.heap (locs ++ L') (by rw [e1]; exact hG) (fun q hq => by rw [e1, hlow q hq, h0]) (fun q hq => by
    rcases List.mem_append.mp hq with z | z
    · exact hloc q z
    · exact hL q z) T' rfl X'
  exact ⟨t2, st t2 a1, b1⟩
/-- the call's own facts -/
theorem rx_CB (hF : rx_Fx dC dI dA b bs L xs mi p R s m args meth c) {a n mc ms : Nat} {own : String} {index : Nat} (ha : a < 172) (hfr : rx_fr a + 1 ≤ rx_fr mi) (hlo : 8 + (rx_ml a + 11) + rx_lo a ≤ rx_lo mi) (hn : n = rx_np a) (hini : Cond.initialized (rx_y a).cls ∈ rx_g) (hlink : (Cond.methodLink own index (rx_y a)).before args s = true) :
    CallB R s args own index (rx_y a) (rx_cc a) (rx_ml a) (rx_rt a) (rx_ws a) ({ frames := rx_fr a, cells := mc, slots := ms, locals := rx_lo a }) mc ms n := by
  have ho := rx_m_of (a := a) (by omega)
  obtain ⟨-, -, -, -, hts, -, -, -, r1, r2, -⟩ := hF
  refine ⟨rfl, rfl, Nat.le_trans hfr r1, Nat.le_trans hlo r2, pay_in hts (rx_good ha), List.mem_cons_self, hts _ (rx_cd_g ha), hts _ hini, ⟨ho.2.1, ho.2.2.1⟩, fun sig hs => ?_, hlink⟩
  have h2 := ho.2.2.2
  rw [hs] at h2
  rw [hn]
  exact (Option.some.inj h2).symm
theorem rx_CN (hF : rx_Fx dC dI dA b bs L xs mi p R s m args meth c) {a n mc ms : Nat} {own host : String} {index : Nat} (ha : a < 172) (hfr : rx_fr a + 1 ≤ rx_fr mi) (hlo : 8 + (rx_ml a + 11) + rx_lo a ≤ rx_lo mi) (hn : n = rx_np a) (hini : Cond.initialized (rx_y a).cls ∈ rx_g) (hlink : va_Nw (.methodLinkNest own index (rx_y a) host) s) :
    va_CN R s args own index (rx_y a) host (rx_cc a) (rx_ml a) (rx_rt a) (rx_ws a) ({ frames := rx_fr a, cells := mc, slots := ms, locals := rx_lo a }) mc ms n := by
  have ho := rx_m_of (a := a) (by omega)
  obtain ⟨-, -, -, -, hts, -, -, -, r1, r2, -⟩ := hF
  refine ⟨⟨rfl, rfl, Nat.le_trans hfr r1, Nat.le_trans hlo r2, pay_in hts (rx_good ha), List.mem_cons_self⟩, hts _ (rx_cd_g ha), hts _ hini, ⟨ho.2.1, ho.2.2.1⟩, fun sig hs => ?_, va_Nw.use rfl hlink⟩
  have h2 := ho.2.2.2
  rw [hs] at h2
  rw [hn]
  exact (Option.some.inj h2).symm
theorem rx_room4 {m : MethodId} {pc : Nat} {ls : Array Slot} {st r : List Value} (h : r.length ≤ 4) : 2 * (F0 m pc ls st).monitorRoom + ((r.map (rx_tv b bs)).map fun v => v.category).sum ≤ 8 := lv_room (Nat.le_trans (rx_cats r) (by omega))
end RXM
end
section
section RXC
variable {l : Launch} {dC : Nat → ClassId} {dI : Nat → Nat → Nat} {dA : Nat → ClassId} {b bs L : Nat} {xs : Nat → Int32}
theorem rx_dec {cc : ByteArray} {pc k nx : Nat} {i : Instr} (h : decode cc pc = .ok (i, nx - pc)) (e : nx = pc + k) : decode cc pc = .ok (i, k) := by
  rw [h, e, Nat.add_sub_cancel_left]
theorem rx_fr8 : ∀ mi, mi < 173 → rx_fr mi ≤ 8 := by decide +kernel
theorem rx_cok_of {mi a b' n : Nat} (hm : mi < 173) (h : rx_cok mi a b' n = true) : a < 172 ∧ rx_fr a + 1 ≤ rx_fr mi ∧ 8 + (rx_ml a + 11) + rx_lo a ≤ rx_lo mi ∧ b' = rx_np a + n := by
  unfold rx_cok at h
  simp only [Bool.and_eq_true, decide_eq_true_eq] at h
  obtain ⟨⟨⟨h1, h2⟩, h3⟩, h4⟩ := h
  refine ⟨?_, h2, h3, h4⟩
  by_cases e : a = 172
  · subst e
    have h5 := rx_fr8 mi hm
    have h6 : rx_fr 172 = 8 := by decide +kernel
    omega
  · omega
theorem rx_df_ok (a : Nat) (h : a < 9) : ∀ j, j < rx_N a → defaultValue (rx_ty a j) = vp_V ((rx_df a).map (rx_tv b bs)) j := by
  rcases a with _ | _ | _ | _ | _ | _ | _ | _ | _ | a
  all_goals first | omega | skip
  all_goals (intro j hj; have hj' := hj; revert hj'; simp only [rx_N]; intro hj')
  all_goals (rcases j with _ | _ | _ | _ | _ | _ | _ | _ | _ | _ | _ | _ | _ | _ | _ | _ | j <;> first | rfl | omega)
theorem rx_mincode : Cond.code Lib.Math.min.name Lib.Math.min.code 2 (some .int) ∈ rx_g := List.mem_filter.mpr ⟨List.mem_of_getElem? (i := 346) (by decide +kernel), rfl⟩
theorem rx_obj : Cond.code objectInit ⟨#[0xb1]⟩ 1 none ∈ rx_g := List.mem_filter.mpr ⟨List.mem_of_getElem? (i := 92) (by rfl), rfl⟩
theorem rx_s_iconst {mi pc : Nat} {ls st : List Value} {h : rx_H} {Q : Option Value → rx_H → Prop} {nx a b' k : Nat} {v : Value} {o : rx_O} {n : Int} (hm : mi < 173) (hdec : decode (rx_cc mi) pc = .ok (.iconst n, nx - pc)) (hsh : rx_shape mi pc (.iconst n, nx, a, b', k, v) = true) (hneed : ∀ w ∈ rx_need mi (.iconst n, nx, a, b', k, v), w ∈ rx_g)
    (ho1 : rx_res rx_cn (.iconst n, nx, a, b', k, v) pc ls st h = some o) (ho2 : rx_dis o (fun pc' ls' st' h' => rx_P l dC dI dA b bs L xs mi pc' ls' st' h' Q) (rx_Cg (rx_P l dC dI dA b bs L xs)) Q ls h) : rx_P l dC dI dA b bs L xs mi pc ls st h Q := by
  have h1 : (decide (nx = pc + 1) && decide (v = .int (Int32.ofInt n))) = true := hsh
  simp only [Bool.and_eq_true, decide_eq_true_eq] at h1
  obtain ⟨rfl, rfl⟩ := h1
  cases ho1
  exact rx_P_st (fun p e R s m args below meth c H locs lsA cells slots Z hF hD hW => lv_iconst hF.1 hF.2.1 (rx_dec hdec rfl) rfl hW) ho2
theorem rx_s_bipush {mi pc : Nat} {ls st : List Value} {h : rx_H} {Q : Option Value → rx_H → Prop} {nx a b' k : Nat} {v : Value} {o : rx_O} {n : Int} (hm : mi < 173) (hdec : decode (rx_cc mi) pc = .ok (.bipush n, nx - pc)) (hsh : rx_shape mi pc (.bipush n, nx, a, b', k, v) = true) (hneed : ∀ w ∈ rx_need mi (.bipush n, nx, a, b', k, v), w ∈ rx_g)
    (ho1 : rx_res rx_cn (.bipush n, nx, a, b', k, v) pc ls st h = some o) (ho2 : rx_dis o (fun pc' ls' st' h' => rx_P l dC dI dA b bs L xs mi pc' ls' st' h' Q) (rx_Cg (rx_P l dC dI dA b bs L xs)) Q ls h) : rx_P l dC dI dA b bs L xs mi pc ls st h Q := by
  have h1 : (decide (nx = pc + 2) && decide (v = .int (Int8.ofInt n).toInt32)) = true := hsh
  simp only [Bool.and_eq_true, decide_eq_true_eq] at h1
  obtain ⟨rfl, rfl⟩ := h1
  cases ho1
  exact rx_P_st (fun p e R s m args below meth c H locs lsA cells slots Z hF hD hW => lv_bipush hF.1 hF.2.1 (rx_dec hdec rfl) rfl hW) ho2
theorem rx_s_sipush {mi pc : Nat} {ls st : List Value} {h : rx_H} {Q : Option Value → rx_H → Prop} {nx a b' k : Nat} {v : Value} {o : rx_O} {n : Int} (hm : mi < 173) (hdec : decode (rx_cc mi) pc = .ok (.sipush n, nx - pc)) (hsh : rx_shape mi pc (.sipush n, nx, a, b', k, v) = true) (hneed : ∀ w ∈ rx_need mi (.sipush n, nx, a, b', k, v), w ∈ rx_g)
    (ho1 : rx_res rx_cn (.sipush n, nx, a, b', k, v) pc ls st h = some o) (ho2 : rx_dis o (fun pc' ls' st' h' => rx_P l dC dI dA b bs L xs mi pc' ls' st' h' Q) (rx_Cg (rx_P l dC dI dA b bs L xs)) Q ls h) : rx_P l dC dI dA b bs L xs mi pc ls st h Q := by
  have h1 : (decide (nx = pc + 3) && decide (v = .int (Int16.ofInt n).toInt32)) = true := hsh
  simp only [Bool.and_eq_true, decide_eq_true_eq] at h1
  obtain ⟨rfl, rfl⟩ := h1
  cases ho1
  exact rx_P_st (fun p e R s m args below meth c H locs lsA cells slots Z hF hD hW => lv_sipush hF.1 hF.2.1 (rx_dec hdec rfl) rfl hW) ho2
theorem rx_s_iload_n {mi pc : Nat} {ls st : List Value} {h : rx_H} {Q : Option Value → rx_H → Prop} {nx a b' k : Nat} {v : Value} {o : rx_O} {j : Fin 4} (hm : mi < 173) (hdec : decode (rx_cc mi) pc = .ok (.iload_n j, nx - pc)) (hsh : rx_shape mi pc (.iload_n j, nx, a, b', k, v) = true) (hneed : ∀ w ∈ rx_need mi (.iload_n j, nx, a, b', k, v), w ∈ rx_g)
    (ho1 : rx_res rx_cn (.iload_n j, nx, a, b', k, v) pc ls st h = some o) (ho2 : rx_dis o (fun pc' ls' st' h' => rx_P l dC dI dA b bs L xs mi pc' ls' st' h' Q) (rx_Cg (rx_P l dC dI dA b bs L xs)) Q ls h) : rx_P l dC dI dA b bs L xs mi pc ls st h Q := by
  have h1 : (decide (nx = pc + 1) && decide ((j : Nat) = a)) = true := hsh
  simp only [Bool.and_eq_true, decide_eq_true_eq] at h1
  obtain ⟨rfl, e2⟩ := h1
  obtain ⟨w, h2, rfl⟩ := rx_load_inv ho1
  obtain ⟨y, h3, rfl⟩ := rx_ld0 h2
  refine rx_P_st (fun p e R s m args below meth c H locs lsA cells slots Z hF hD hW => ?_) ho2
  have h4 := hD.2.2.2.2.2.2 a _ h3 (by simp)
  exact lv_iload_n hF.1 hF.2.1 (rx_dec hdec rfl) e2 h4 hW
theorem rx_s_iload {mi pc : Nat} {ls st : List Value} {h : rx_H} {Q : Option Value → rx_H → Prop} {nx a b' k : Nat} {v : Value} {o : rx_O} {j : Nat} (hm : mi < 173) (hdec : decode (rx_cc mi) pc = .ok (.iload j, nx - pc)) (hsh : rx_shape mi pc (.iload j, nx, a, b', k, v) = true) (hneed : ∀ w ∈ rx_need mi (.iload j, nx, a, b', k, v), w ∈ rx_g)
    (ho1 : rx_res rx_cn (.iload j, nx, a, b', k, v) pc ls st h = some o) (ho2 : rx_dis o (fun pc' ls' st' h' => rx_P l dC dI dA b bs L xs mi pc' ls' st' h' Q) (rx_Cg (rx_P l dC dI dA b bs L xs)) Q ls h) : rx_P l dC dI dA b bs L xs mi pc ls st h Q := by
  have h1 : (decide (nx = pc + 2) && decide (j = a)) = true := hsh
  simp only [Bool.and_eq_true, decide_eq_true_eq] at h1
  obtain ⟨rfl, e2⟩ := h1
  obtain ⟨w, h2, rfl⟩ := rx_load_inv ho1
  obtain ⟨y, h3, rfl⟩ := rx_ld0 h2
  refine rx_P_st (fun p e R s m args below meth c H locs lsA cells slots Z hF hD hW => ?_) ho2
  have h4 := hD.2.2.2.2.2.2 a _ h3 (by simp)
  subst e2
  exact lv_iload hF.1 hF.2.1 (rx_dec hdec rfl) h4 hW
theorem rx_s_aload_n {mi pc : Nat} {ls st : List Value} {h : rx_H} {Q : Option Value → rx_H → Prop} {nx a b' k : Nat} {v : Value} {o : rx_O} {j : Fin 4} (hm : mi < 173) (hdec : decode (rx_cc mi) pc = .ok (.aload_n j, nx - pc)) (hsh : rx_shape mi pc (.aload_n j, nx, a, b', k, v) = true) (hneed : ∀ w ∈ rx_need mi (.aload_n j, nx, a, b', k, v), w ∈ rx_g)
    (ho1 : rx_res rx_cn (.aload_n j, nx, a, b', k, v) pc ls st h = some o) (ho2 : rx_dis o (fun pc' ls' st' h' => rx_P l dC dI dA b bs L xs mi pc' ls' st' h' Q) (rx_Cg (rx_P l dC dI dA b bs L xs)) Q ls h) : rx_P l dC dI dA b bs L xs mi pc ls st h Q := by
  have h1 : (decide (nx = pc + 1) && decide ((j : Nat) = a)) = true := hsh
  simp only [Bool.and_eq_true, decide_eq_true_eq] at h1
  obtain ⟨rfl, e2⟩ := h1
  obtain ⟨w, h2, rfl⟩ := rx_load_inv ho1
  obtain ⟨y, h3, rfl⟩ := rx_ld2 h2
  refine rx_P_st (fun p e R s m args below meth c H locs lsA cells slots Z hF hD hW => ?_) ho2
  have h4 := hD.2.2.2.2.2.2 a _ h3 (by simp)
  exact lv_aload_n hF.1 hF.2.1 (rx_dec hdec rfl) e2 h4 hW
theorem rx_s_aload {mi pc : Nat} {ls st : List Value} {h : rx_H} {Q : Option Value → rx_H → Prop} {nx a b' k : Nat} {v : Value} {o : rx_O} {j : Nat} (hm : mi < 173) (hdec : decode (rx_cc mi) pc = .ok (.aload j, nx - pc)) (hsh : rx_shape mi pc (.aload j, nx, a, b', k, v) = true) (hneed : ∀ w ∈ rx_need mi (.aload j, nx, a, b', k, v), w ∈ rx_g)
    (ho1 : rx_res rx_cn (.aload j, nx, a, b', k, v) pc ls st h = some o) (ho2 : rx_dis o (fun pc' ls' st' h' => rx_P l dC dI dA b bs L xs mi pc' ls' st' h' Q) (rx_Cg (rx_P l dC dI dA b bs L xs)) Q ls h) : rx_P l dC dI dA b bs L xs mi pc ls st h Q := by
  have h1 : (decide (nx = pc + 2) && decide (j = a)) = true := hsh
  simp only [Bool.and_eq_true, decide_eq_true_eq] at h1
  obtain ⟨rfl, e2⟩ := h1
  obtain ⟨w, h2, rfl⟩ := rx_load_inv ho1
  obtain ⟨y, h3, rfl⟩ := rx_ld2 h2
  refine rx_P_st (fun p e R s m args below meth c H locs lsA cells slots Z hF hD hW => ?_) ho2
  have h4 := hD.2.2.2.2.2.2 a _ h3 (by simp)
  subst e2
  exact lv_aload hF.1 hF.2.1 (rx_dec hdec rfl) h4 hW
theorem rx_s_lload_n {mi pc : Nat} {ls st : List Value} {h : rx_H} {Q : Option Value → rx_H → Prop} {nx a b' k : Nat} {v : Value} {o : rx_O} {j : Fin 4} (hm : mi < 173) (hdec : decode (rx_cc mi) pc = .ok (.lload_n j, nx - pc)) (hsh : rx_shape mi pc (.lload_n j, nx, a, b', k, v) = true) (hneed : ∀ w ∈ rx_need mi (.lload_n j, nx, a, b', k, v), w ∈ rx_g)
    (ho1 : rx_res rx_cn (.lload_n j, nx, a, b', k, v) pc ls st h = some o) (ho2 : rx_dis o (fun pc' ls' st' h' => rx_P l dC dI dA b bs L xs mi pc' ls' st' h' Q) (rx_Cg (rx_P l dC dI dA b bs L xs)) Q ls h) : rx_P l dC dI dA b bs L xs mi pc ls st h Q := by
  have h1 : (decide (nx = pc + 1) && decide ((j : Nat) = a)) = true := hsh
  simp only [Bool.and_eq_true, decide_eq_true_eq] at h1
  obtain ⟨rfl, e2⟩ := h1
  obtain ⟨w, h2, rfl⟩ := rx_load_inv ho1
  obtain ⟨y, h3, rfl⟩ := rx_ld3 h2
  refine rx_P_st (fun p e R s m args below meth c H locs lsA cells slots Z hF hD hW => ?_) ho2
  have h4 := hD.2.2.2.2.2.2 a _ h3 (by simp)
  exact lv_lload_n hF.1 hF.2.1 (rx_dec hdec rfl) e2 h4 hW
theorem rx_s_lload {mi pc : Nat} {ls st : List Value} {h : rx_H} {Q : Option Value → rx_H → Prop} {nx a b' k : Nat} {v : Value} {o : rx_O} {j : Nat} (hm : mi < 173) (hdec : decode (rx_cc mi) pc = .ok (.lload j, nx - pc)) (hsh : rx_shape mi pc (.lload j, nx, a, b', k, v) = true) (hneed : ∀ w ∈ rx_need mi (.lload j, nx, a, b', k, v), w ∈ rx_g)
    (ho1 : rx_res rx_cn (.lload j, nx, a, b', k, v) pc ls st h = some o) (ho2 : rx_dis o (fun pc' ls' st' h' => rx_P l dC dI dA b bs L xs mi pc' ls' st' h' Q) (rx_Cg (rx_P l dC dI dA b bs L xs)) Q ls h) : rx_P l dC dI dA b bs L xs mi pc ls st h Q := by
  have h1 : (decide (nx = pc + 2) && decide (j = a)) = true := hsh
  simp only [Bool.and_eq_true, decide_eq_true_eq] at h1
  obtain ⟨rfl, e2⟩ := h1
  obtain ⟨w, h2, rfl⟩ := rx_load_inv ho1
  obtain ⟨y, h3, rfl⟩ := rx_ld3 h2
  refine rx_P_st (fun p e R s m args below meth c H locs lsA cells slots Z hF hD hW => ?_) ho2
  have h4 := hD.2.2.2.2.2.2 a _ h3 (by simp)
  subst e2
  exact lv_lload hF.1 hF.2.1 (rx_dec hdec rfl) h4 hW
theorem rx_s_istore_n {mi pc : Nat} {ls st : List Value} {h : rx_H} {Q : Option Value → rx_H → Prop} {nx a b' k : Nat} {v : Value} {o : rx_O} {j : Fin 4} (hm : mi < 173) (hdec : decode (rx_cc mi) pc = .ok (.istore_n j, nx - pc)) (hsh : rx_shape mi pc (.istore_n j, nx, a, b', k, v) = true) (hneed : ∀ w ∈ rx_need mi (.istore_n j, nx, a, b', k, v), w ∈ rx_g)
    (ho1 : rx_res rx_cn (.istore_n j, nx, a, b', k, v) pc ls st h = some o) (ho2 : rx_dis o (fun pc' ls' st' h' => rx_P l dC dI dA b bs L xs mi pc' ls' st' h' Q) (rx_Cg (rx_P l dC dI dA b bs L xs)) Q ls h) : rx_P l dC dI dA b bs L xs mi pc ls st h Q := by
  have h1 : (decide (nx = pc + 1) && decide ((j : Nat) = a)) = true := hsh
  simp only [Bool.and_eq_true, decide_eq_true_eq] at h1
  obtain ⟨rfl, e2⟩ := h1
  obtain ⟨w, w', r, rfl, h2, h3, h4, rfl⟩ := rx_store_inv ho1
  obtain ⟨y, h5, rfl⟩ := rx_ld0 h2
  cases h5
  refine rx_P_ls (fun p e R s m args below meth c H locs lsA cells slots Z hF hD hW => ?_) ho2
  exact lv_istore_n hF.1 hF.2.1 (rx_dec hdec rfl) e2 (rx_LS_has hD.2.2.2) (by rw [← hD.2.2.2.2.2.1]; exact h3) rfl (fun lsA1 h6 => hW lsA1 (rx_LS_set hD.2.2.2 h4 h6))
theorem rx_s_istore {mi pc : Nat} {ls st : List Value} {h : rx_H} {Q : Option Value → rx_H → Prop} {nx a b' k : Nat} {v : Value} {o : rx_O} {j : Nat} (hm : mi < 173) (hdec : decode (rx_cc mi) pc = .ok (.istore j, nx - pc)) (hsh : rx_shape mi pc (.istore j, nx, a, b', k, v) = true) (hneed : ∀ w ∈ rx_need mi (.istore j, nx, a, b', k, v), w ∈ rx_g)
    (ho1 : rx_res rx_cn (.istore j, nx, a, b', k, v) pc ls st h = some o) (ho2 : rx_dis o (fun pc' ls' st' h' => rx_P l dC dI dA b bs L xs mi pc' ls' st' h' Q) (rx_Cg (rx_P l dC dI dA b bs L xs)) Q ls h) : rx_P l dC dI dA b bs L xs mi pc ls st h Q := by
  have h1 : (decide (nx = pc + 2) && decide (j = a)) = true := hsh
  simp only [Bool.and_eq_true, decide_eq_true_eq] at h1
  obtain ⟨rfl, e2⟩ := h1
  obtain ⟨w, w', r, rfl, h2, h3, h4, rfl⟩ := rx_store_inv ho1
  obtain ⟨y, h5, rfl⟩ := rx_ld0 h2
  cases h5
  refine rx_P_ls (fun p e R s m args below meth c H locs lsA cells slots Z hF hD hW => ?_) ho2
  subst e2
  exact lv_istore hF.1 hF.2.1 (rx_dec hdec rfl) (rx_LS_has hD.2.2.2) (by rw [← hD.2.2.2.2.2.1]; exact h3) rfl (fun lsA1 h6 => hW lsA1 (rx_LS_set hD.2.2.2 h4 h6))
theorem rx_s_astore_n {mi pc : Nat} {ls st : List Value} {h : rx_H} {Q : Option Value → rx_H → Prop} {nx a b' k : Nat} {v : Value} {o : rx_O} {j : Fin 4} (hm : mi < 173) (hdec : decode (rx_cc mi) pc = .ok (.astore_n j, nx - pc)) (hsh : rx_shape mi pc (.astore_n j, nx, a, b', k, v) = true) (hneed : ∀ w ∈ rx_need mi (.astore_n j, nx, a, b', k, v), w ∈ rx_g)
    (ho1 : rx_res rx_cn (.astore_n j, nx, a, b', k, v) pc ls st h = some o) (ho2 : rx_dis o (fun pc' ls' st' h' => rx_P l dC dI dA b bs L xs mi pc' ls' st' h' Q) (rx_Cg (rx_P l dC dI dA b bs L xs)) Q ls h) : rx_P l dC dI dA b bs L xs mi pc ls st h Q := by
  have h1 : (decide (nx = pc + 1) && decide ((j : Nat) = a)) = true := hsh
  simp only [Bool.and_eq_true, decide_eq_true_eq] at h1
  obtain ⟨rfl, e2⟩ := h1
  obtain ⟨w, w', r, rfl, h2, h3, h4, rfl⟩ := rx_store_inv ho1
  obtain ⟨y, h5, rfl⟩ := rx_ld2 h2
  cases h5
  refine rx_P_ls (fun p e R s m args below meth c H locs lsA cells slots Z hF hD hW => ?_) ho2
  exact lv_astore_n hF.1 hF.2.1 (rx_dec hdec rfl) e2 (rx_LS_has hD.2.2.2) (by rw [← hD.2.2.2.2.2.1]; exact h3) rfl (fun lsA1 h6 => hW lsA1 (rx_LS_set hD.2.2.2 h4 h6))
theorem rx_s_astore {mi pc : Nat} {ls st : List Value} {h : rx_H} {Q : Option Value → rx_H → Prop} {nx a b' k : Nat} {v : Value} {o : rx_O} {j : Nat} (hm : mi < 173) (hdec : decode (rx_cc mi) pc = .ok (.astore j, nx - pc)) (hsh : rx_shape mi pc (.astore j, nx, a, b', k, v) = true) (hneed : ∀ w ∈ rx_need mi (.astore j, nx, a, b', k, v), w ∈ rx_g)
    (ho1 : rx_res rx_cn (.astore j, nx, a, b', k, v) pc ls st h = some o) (ho2 : rx_dis o (fun pc' ls' st' h' => rx_P l dC dI dA b bs L xs mi pc' ls' st' h' Q) (rx_Cg (rx_P l dC dI dA b bs L xs)) Q ls h) : rx_P l dC dI dA b bs L xs mi pc ls st h Q := by
  have h1 : (decide (nx = pc + 2) && decide (j = a)) = true := hsh
  simp only [Bool.and_eq_true, decide_eq_true_eq] at h1
  obtain ⟨rfl, e2⟩ := h1
  obtain ⟨w, w', r, rfl, h2, h3, h4, rfl⟩ := rx_store_inv ho1
  obtain ⟨y, h5, rfl⟩ := rx_ld2 h2
  cases h5
  refine rx_P_ls (fun p e R s m args below meth c H locs lsA cells slots Z hF hD hW => ?_) ho2
  subst e2
  exact lv_astore hF.1 hF.2.1 (rx_dec hdec rfl) (rx_LS_has hD.2.2.2) (by rw [← hD.2.2.2.2.2.1]; exact h3) rfl (fun lsA1 h6 => hW lsA1 (rx_LS_set hD.2.2.2 h4 h6))
theorem rx_s_lstore_n {mi pc : Nat} {ls st : List Value} {h : rx_H} {Q : Option Value → rx_H → Prop} {nx a b' k : Nat} {v : Value} {o : rx_O} {j : Fin 4} (hm : mi < 173) (hdec : decode (rx_cc mi) pc = .ok (.lstore_n j, nx - pc)) (hsh : rx_shape mi pc (.lstore_n j, nx, a, b', k, v) = true) (hneed : ∀ w ∈ rx_need mi (.lstore_n j, nx, a, b', k, v), w ∈ rx_g)
    (ho1 : rx_res rx_cn (.lstore_n j, nx, a, b', k, v) pc ls st h = some o) (ho2 : rx_dis o (fun pc' ls' st' h' => rx_P l dC dI dA b bs L xs mi pc' ls' st' h' Q) (rx_Cg (rx_P l dC dI dA b bs L xs)) Q ls h) : rx_P l dC dI dA b bs L xs mi pc ls st h Q := by
  have h1 : (decide (nx = pc + 1) && decide ((j : Nat) = a)) = true := hsh
  simp only [Bool.and_eq_true, decide_eq_true_eq] at h1
  obtain ⟨rfl, e2⟩ := h1
  obtain ⟨y, r, rfl, h3, h4, rfl⟩ := rx_lstore_inv ho1
  refine rx_P_ls (fun p e R s m args below meth c H locs lsA cells slots Z hF hD hW => ?_) ho2
  exact lv_lstore_n hF.1 hF.2.1 (rx_dec hdec rfl) e2 (rx_LS_has hD.2.2.2) (by rw [← hD.2.2.2.2.2.1]; exact h3) rfl (fun lsA1 h6 => hW lsA1 (rx_LS_set2 hD.2.2.2 h4 h6))
theorem rx_s_lstore {mi pc : Nat} {ls st : List Value} {h : rx_H} {Q : Option Value → rx_H → Prop} {nx a b' k : Nat} {v : Value} {o : rx_O} {j : Nat} (hm : mi < 173) (hdec : decode (rx_cc mi) pc = .ok (.lstore j, nx - pc)) (hsh : rx_shape mi pc (.lstore j, nx, a, b', k, v) = true) (hneed : ∀ w ∈ rx_need mi (.lstore j, nx, a, b', k, v), w ∈ rx_g)
    (ho1 : rx_res rx_cn (.lstore j, nx, a, b', k, v) pc ls st h = some o) (ho2 : rx_dis o (fun pc' ls' st' h' => rx_P l dC dI dA b bs L xs mi pc' ls' st' h' Q) (rx_Cg (rx_P l dC dI dA b bs L xs)) Q ls h) : rx_P l dC dI dA b bs L xs mi pc ls st h Q := by
  have h1 : (decide (nx = pc + 2) && decide (j = a)) = true := hsh
  simp only [Bool.and_eq_true, decide_eq_true_eq] at h1
  obtain ⟨rfl, e2⟩ := h1
  obtain ⟨y, r, rfl, h3, h4, rfl⟩ := rx_lstore_inv ho1
  refine rx_P_ls (fun p e R s m args below meth c H locs lsA cells slots Z hF hD hW => ?_) ho2
  subst e2
  exact lv_lstore hF.1 hF.2.1 (rx_dec hdec rfl) (rx_LS_has hD.2.2.2) (by rw [← hD.2.2.2.2.2.1]; exact h3) rfl (fun lsA1 h6 => hW lsA1 (rx_LS_set2 hD.2.2.2 h4 h6))
theorem rx_s_iinc {mi pc : Nat} {ls st : List Value} {h : rx_H} {Q : Option Value → rx_H → Prop} {nx a b' k : Nat} {v : Value} {o : rx_O} {j : Nat} {n : Int} (hm : mi < 173) (hdec : decode (rx_cc mi) pc = .ok (.iinc j n, nx - pc)) (hsh : rx_shape mi pc (.iinc j n, nx, a, b', k, v) = true) (hneed : ∀ w ∈ rx_need mi (.iinc j n, nx, a, b', k, v), w ∈ rx_g)
    (ho1 : rx_res rx_cn (.iinc j n, nx, a, b', k, v) pc ls st h = some o) (ho2 : rx_dis o (fun pc' ls' st' h' => rx_P l dC dI dA b bs L xs mi pc' ls' st' h' Q) (rx_Cg (rx_P l dC dI dA b bs L xs)) Q ls h) : rx_P l dC dI dA b bs L xs mi pc ls st h Q := by
  have h1 : (decide (nx = pc + 3) && decide (j = a) && decide (v = .int (Int32.ofInt n))) = true := hsh
  simp only [Bool.and_eq_true, decide_eq_true_eq] at h1
  obtain ⟨⟨rfl, rfl⟩, rfl⟩ := h1
  have e : rx_iinc j (pc + 3) (Int32.ofInt n) ls st h = some o := ho1
  obtain ⟨y, h3, h4, rfl⟩ := rx_iinc_inv e
  refine rx_P_ls (fun p e R s m args below meth c H locs lsA cells slots Z hF hD hW => ?_) ho2
  obtain ⟨q, hq⟩ := List.getElem?_of_mem (rx_pr_mem (b := b) (bs := bs) h3 (by simp))
  exact lv_iinc hF.1 hF.2.1 (rx_dec hdec rfl) (rx_LS_has hD.2.2.2) hq rfl (by rw [← hD.2.2.2.2.2.1]; exact (List.getElem?_eq_some_iff.mp h3).1) rfl (fun lsA1 h6 => hW lsA1 (rx_LS_set (v := .int (y + Int32.ofInt n)) hD.2.2.2 h4 h6))
theorem rx_s_iadd {mi pc : Nat} {ls st : List Value} {h : rx_H} {Q : Option Value → rx_H → Prop} {nx a b' k : Nat} {v : Value} {o : rx_O} (hm : mi < 173) (hdec : decode (rx_cc mi) pc = .ok (.iadd, nx - pc)) (hsh : rx_shape mi pc (.iadd, nx, a, b', k, v) = true) (hneed : ∀ w ∈ rx_need mi (.iadd, nx, a, b', k, v), w ∈ rx_g)
    (ho1 : rx_res rx_cn (.iadd, nx, a, b', k, v) pc ls st h = some o) (ho2 : rx_dis o (fun pc' ls' st' h' => rx_P l dC dI dA b bs L xs mi pc' ls' st' h' Q) (rx_Cg (rx_P l dC dI dA b bs L xs)) Q ls h) : rx_P l dC dI dA b bs L xs mi pc ls st h Q := by
  have h1 : decide (nx = pc + 1) = true := hsh
  simp only [decide_eq_true_eq] at h1
  subst h1
  obtain ⟨x, y, r, rfl, rfl⟩ := rx_b2_inv ho1
  exact rx_P_st (fun p e R s m args below meth c H locs lsA cells slots Z hF hD hW => lv_iadd hF.1 hF.2.1 (rx_dec hdec rfl) hW) ho2
theorem rx_s_isub {mi pc : Nat} {ls st : List Value} {h : rx_H} {Q : Option Value → rx_H → Prop} {nx a b' k : Nat} {v : Value} {o : rx_O} (hm : mi < 173) (hdec : decode (rx_cc mi) pc = .ok (.isub, nx - pc)) (hsh : rx_shape mi pc (.isub, nx, a, b', k, v) = true) (hneed : ∀ w ∈ rx_need mi (.isub, nx, a, b', k, v), w ∈ rx_g)
    (ho1 : rx_res rx_cn (.isub, nx, a, b', k, v) pc ls st h = some o) (ho2 : rx_dis o (fun pc' ls' st' h' => rx_P l dC dI dA b bs L xs mi pc' ls' st' h' Q) (rx_Cg (rx_P l dC dI dA b bs L xs)) Q ls h) : rx_P l dC dI dA b bs L xs mi pc ls st h Q := by
  have h1 : decide (nx = pc + 1) = true := hsh
  simp only [decide_eq_true_eq] at h1
  subst h1
  obtain ⟨x, y, r, rfl, rfl⟩ := rx_b2_inv ho1
  exact rx_P_st (fun p e R s m args below meth c H locs lsA cells slots Z hF hD hW => lv_isub hF.1 hF.2.1 (rx_dec hdec rfl) hW) ho2
theorem rx_s_imul {mi pc : Nat} {ls st : List Value} {h : rx_H} {Q : Option Value → rx_H → Prop} {nx a b' k : Nat} {v : Value} {o : rx_O} (hm : mi < 173) (hdec : decode (rx_cc mi) pc = .ok (.imul, nx - pc)) (hsh : rx_shape mi pc (.imul, nx, a, b', k, v) = true) (hneed : ∀ w ∈ rx_need mi (.imul, nx, a, b', k, v), w ∈ rx_g)
    (ho1 : rx_res rx_cn (.imul, nx, a, b', k, v) pc ls st h = some o) (ho2 : rx_dis o (fun pc' ls' st' h' => rx_P l dC dI dA b bs L xs mi pc' ls' st' h' Q) (rx_Cg (rx_P l dC dI dA b bs L xs)) Q ls h) : rx_P l dC dI dA b bs L xs mi pc ls st h Q := by
  have h1 : decide (nx = pc + 1) = true := hsh
  simp only [decide_eq_true_eq] at h1
  subst h1
  obtain ⟨x, y, r, rfl, rfl⟩ := rx_b2_inv ho1
  exact rx_P_st (fun p e R s m args below meth c H locs lsA cells slots Z hF hD hW => lv_imul hF.1 hF.2.1 (rx_dec hdec rfl) hW) ho2
theorem rx_s_iand {mi pc : Nat} {ls st : List Value} {h : rx_H} {Q : Option Value → rx_H → Prop} {nx a b' k : Nat} {v : Value} {o : rx_O} (hm : mi < 173) (hdec : decode (rx_cc mi) pc = .ok (.iand, nx - pc)) (hsh : rx_shape mi pc (.iand, nx, a, b', k, v) = true) (hneed : ∀ w ∈ rx_need mi (.iand, nx, a, b', k, v), w ∈ rx_g)
    (ho1 : rx_res rx_cn (.iand, nx, a, b', k, v) pc ls st h = some o) (ho2 : rx_dis o (fun pc' ls' st' h' => rx_P l dC dI dA b bs L xs mi pc' ls' st' h' Q) (rx_Cg (rx_P l dC dI dA b bs L xs)) Q ls h) : rx_P l dC dI dA b bs L xs mi pc ls st h Q := by
  have h1 : decide (nx = pc + 1) = true := hsh
  simp only [decide_eq_true_eq] at h1
  subst h1
  obtain ⟨x, y, r, rfl, rfl⟩ := rx_b2_inv ho1
  exact rx_P_st (fun p e R s m args below meth c H locs lsA cells slots Z hF hD hW => lv_iand hF.1 hF.2.1 (rx_dec hdec rfl) hW) ho2
theorem rx_s_ior {mi pc : Nat} {ls st : List Value} {h : rx_H} {Q : Option Value → rx_H → Prop} {nx a b' k : Nat} {v : Value} {o : rx_O} (hm : mi < 173) (hdec : decode (rx_cc mi) pc = .ok (.ior, nx - pc)) (hsh : rx_shape mi pc (.ior, nx, a, b', k, v) = true) (hneed : ∀ w ∈ rx_need mi (.ior, nx, a, b', k, v), w ∈ rx_g)
    (ho1 : rx_res rx_cn (.ior, nx, a, b', k, v) pc ls st h = some o) (ho2 : rx_dis o (fun pc' ls' st' h' => rx_P l dC dI dA b bs L xs mi pc' ls' st' h' Q) (rx_Cg (rx_P l dC dI dA b bs L xs)) Q ls h) : rx_P l dC dI dA b bs L xs mi pc ls st h Q := by
  have h1 : decide (nx = pc + 1) = true := hsh
  simp only [decide_eq_true_eq] at h1
  subst h1
  obtain ⟨x, y, r, rfl, rfl⟩ := rx_b2_inv ho1
  exact rx_P_st (fun p e R s m args below meth c H locs lsA cells slots Z hF hD hW => lv_ior hF.1 hF.2.1 (rx_dec hdec rfl) hW) ho2
theorem rx_s_ixor {mi pc : Nat} {ls st : List Value} {h : rx_H} {Q : Option Value → rx_H → Prop} {nx a b' k : Nat} {v : Value} {o : rx_O} (hm : mi < 173) (hdec : decode (rx_cc mi) pc = .ok (.ixor, nx - pc)) (hsh : rx_shape mi pc (.ixor, nx, a, b', k, v) = true) (hneed : ∀ w ∈ rx_need mi (.ixor, nx, a, b', k, v), w ∈ rx_g)
    (ho1 : rx_res rx_cn (.ixor, nx, a, b', k, v) pc ls st h = some o) (ho2 : rx_dis o (fun pc' ls' st' h' => rx_P l dC dI dA b bs L xs mi pc' ls' st' h' Q) (rx_Cg (rx_P l dC dI dA b bs L xs)) Q ls h) : rx_P l dC dI dA b bs L xs mi pc ls st h Q := by
  have h1 : decide (nx = pc + 1) = true := hsh
  simp only [decide_eq_true_eq] at h1
  subst h1
  obtain ⟨x, y, r, rfl, rfl⟩ := rx_b2_inv ho1
  exact rx_P_st (fun p e R s m args below meth c H locs lsA cells slots Z hF hD hW => lv_ixor hF.1 hF.2.1 (rx_dec hdec rfl) hW) ho2
theorem rx_s_ishl {mi pc : Nat} {ls st : List Value} {h : rx_H} {Q : Option Value → rx_H → Prop} {nx a b' k : Nat} {v : Value} {o : rx_O} (hm : mi < 173) (hdec : decode (rx_cc mi) pc = .ok (.ishl, nx - pc)) (hsh : rx_shape mi pc (.ishl, nx, a, b', k, v) = true) (hneed : ∀ w ∈ rx_need mi (.ishl, nx, a, b', k, v), w ∈ rx_g)
    (ho1 : rx_res rx_cn (.ishl, nx, a, b', k, v) pc ls st h = some o) (ho2 : rx_dis o (fun pc' ls' st' h' => rx_P l dC dI dA b bs L xs mi pc' ls' st' h' Q) (rx_Cg (rx_P l dC dI dA b bs L xs)) Q ls h) : rx_P l dC dI dA b bs L xs mi pc ls st h Q := by
  have h1 : decide (nx = pc + 1) = true := hsh
  simp only [decide_eq_true_eq] at h1
  subst h1
  obtain ⟨x, y, r, rfl, rfl⟩ := rx_b2_inv ho1
  exact rx_P_st (fun p e R s m args below meth c H locs lsA cells slots Z hF hD hW => lv_ishl hF.1 hF.2.1 (rx_dec hdec rfl) hW) ho2
theorem rx_s_ishr {mi pc : Nat} {ls st : List Value} {h : rx_H} {Q : Option Value → rx_H → Prop} {nx a b' k : Nat} {v : Value} {o : rx_O} (hm : mi < 173) (hdec : decode (rx_cc mi) pc = .ok (.ishr, nx - pc)) (hsh : rx_shape mi pc (.ishr, nx, a, b', k, v) = true) (hneed : ∀ w ∈ rx_need mi (.ishr, nx, a, b', k, v), w ∈ rx_g)
    (ho1 : rx_res rx_cn (.ishr, nx, a, b', k, v) pc ls st h = some o) (ho2 : rx_dis o (fun pc' ls' st' h' => rx_P l dC dI dA b bs L xs mi pc' ls' st' h' Q) (rx_Cg (rx_P l dC dI dA b bs L xs)) Q ls h) : rx_P l dC dI dA b bs L xs mi pc ls st h Q := by
  have h1 : decide (nx = pc + 1) = true := hsh
  simp only [decide_eq_true_eq] at h1
  subst h1
  obtain ⟨x, y, r, rfl, rfl⟩ := rx_b2_inv ho1
  exact rx_P_st (fun p e R s m args below meth c H locs lsA cells slots Z hF hD hW => lv_ishr hF.1 hF.2.1 (rx_dec hdec rfl) hW) ho2
theorem rx_s_iushr {mi pc : Nat} {ls st : List Value} {h : rx_H} {Q : Option Value → rx_H → Prop} {nx a b' k : Nat} {v : Value} {o : rx_O} (hm : mi < 173) (hdec : decode (rx_cc mi) pc = .ok (.iushr, nx - pc)) (hsh : rx_shape mi pc (.iushr, nx, a, b', k, v) = true) (hneed : ∀ w ∈ rx_need mi (.iushr, nx, a, b', k, v), w ∈ rx_g)
    (ho1 : rx_res rx_cn (.iushr, nx, a, b', k, v) pc ls st h = some o) (ho2 : rx_dis o (fun pc' ls' st' h' => rx_P l dC dI dA b bs L xs mi pc' ls' st' h' Q) (rx_Cg (rx_P l dC dI dA b bs L xs)) Q ls h) : rx_P l dC dI dA b bs L xs mi pc ls st h Q := by
  have h1 : decide (nx = pc + 1) = true := hsh
  simp only [decide_eq_true_eq] at h1
  subst h1
  obtain ⟨x, y, r, rfl, rfl⟩ := rx_b2_inv ho1
  exact rx_P_st (fun p e R s m args below meth c H locs lsA cells slots Z hF hD hW => lv_iushr hF.1 hF.2.1 (rx_dec hdec rfl) rfl hW) ho2
theorem rx_s_idiv {mi pc : Nat} {ls st : List Value} {h : rx_H} {Q : Option Value → rx_H → Prop} {nx a b' k : Nat} {v : Value} {o : rx_O} (hm : mi < 173) (hdec : decode (rx_cc mi) pc = .ok (.idiv, nx - pc)) (hsh : rx_shape mi pc (.idiv, nx, a, b', k, v) = true) (hneed : ∀ w ∈ rx_need mi (.idiv, nx, a, b', k, v), w ∈ rx_g)
    (ho1 : rx_res rx_cn (.idiv, nx, a, b', k, v) pc ls st h = some o) (ho2 : rx_dis o (fun pc' ls' st' h' => rx_P l dC dI dA b bs L xs mi pc' ls' st' h' Q) (rx_Cg (rx_P l dC dI dA b bs L xs)) Q ls h) : rx_P l dC dI dA b bs L xs mi pc ls st h Q := by
  have h1 : decide (nx = pc + 1) = true := hsh
  simp only [decide_eq_true_eq] at h1
  subst h1
  obtain ⟨x, y, r, rfl, hy, rfl⟩ := rx_b2z_inv ho1
  exact rx_P_st (fun p e R s m args below meth c H locs lsA cells slots Z hF hD hW => lv_idiv hF.1 hF.2.1 (rx_dec hdec rfl) hy hW) ho2
theorem rx_s_irem {mi pc : Nat} {ls st : List Value} {h : rx_H} {Q : Option Value → rx_H → Prop} {nx a b' k : Nat} {v : Value} {o : rx_O} (hm : mi < 173) (hdec : decode (rx_cc mi) pc = .ok (.irem, nx - pc)) (hsh : rx_shape mi pc (.irem, nx, a, b', k, v) = true) (hneed : ∀ w ∈ rx_need mi (.irem, nx, a, b', k, v), w ∈ rx_g)
    (ho1 : rx_res rx_cn (.irem, nx, a, b', k, v) pc ls st h = some o) (ho2 : rx_dis o (fun pc' ls' st' h' => rx_P l dC dI dA b bs L xs mi pc' ls' st' h' Q) (rx_Cg (rx_P l dC dI dA b bs L xs)) Q ls h) : rx_P l dC dI dA b bs L xs mi pc ls st h Q := by
  have h1 : decide (nx = pc + 1) = true := hsh
  simp only [decide_eq_true_eq] at h1
  subst h1
  obtain ⟨x, y, r, rfl, hy, rfl⟩ := rx_b2z_inv ho1
  exact rx_P_st (fun p e R s m args below meth c H locs lsA cells slots Z hF hD hW => lv_irem hF.1 hF.2.1 (rx_dec hdec rfl) hy hW) ho2
theorem rx_s_ladd {mi pc : Nat} {ls st : List Value} {h : rx_H} {Q : Option Value → rx_H → Prop} {nx a b' k : Nat} {v : Value} {o : rx_O} (hm : mi < 173) (hdec : decode (rx_cc mi) pc = .ok (.ladd, nx - pc)) (hsh : rx_shape mi pc (.ladd, nx, a, b', k, v) = true) (hneed : ∀ w ∈ rx_need mi (.ladd, nx, a, b', k, v), w ∈ rx_g)
    (ho1 : rx_res rx_cn (.ladd, nx, a, b', k, v) pc ls st h = some o) (ho2 : rx_dis o (fun pc' ls' st' h' => rx_P l dC dI dA b bs L xs mi pc' ls' st' h' Q) (rx_Cg (rx_P l dC dI dA b bs L xs)) Q ls h) : rx_P l dC dI dA b bs L xs mi pc ls st h Q := by
  have h1 : decide (nx = pc + 1) = true := hsh
  simp only [decide_eq_true_eq] at h1
  subst h1
  obtain ⟨x, y, r, rfl, rfl⟩ := rx_l2_inv ho1
  exact rx_P_st (fun p e R s m args below meth c H locs lsA cells slots Z hF hD hW => lv_ladd hF.1 hF.2.1 (rx_dec hdec rfl) hW) ho2
theorem rx_s_lmul {mi pc : Nat} {ls st : List Value} {h : rx_H} {Q : Option Value → rx_H → Prop} {nx a b' k : Nat} {v : Value} {o : rx_O} (hm : mi < 173) (hdec : decode (rx_cc mi) pc = .ok (.lmul, nx - pc)) (hsh : rx_shape mi pc (.lmul, nx, a, b', k, v) = true) (hneed : ∀ w ∈ rx_need mi (.lmul, nx, a, b', k, v), w ∈ rx_g)
    (ho1 : rx_res rx_cn (.lmul, nx, a, b', k, v) pc ls st h = some o) (ho2 : rx_dis o (fun pc' ls' st' h' => rx_P l dC dI dA b bs L xs mi pc' ls' st' h' Q) (rx_Cg (rx_P l dC dI dA b bs L xs)) Q ls h) : rx_P l dC dI dA b bs L xs mi pc ls st h Q := by
  have h1 : decide (nx = pc + 1) = true := hsh
  simp only [decide_eq_true_eq] at h1
  subst h1
  obtain ⟨x, y, r, rfl, rfl⟩ := rx_l2_inv ho1
  exact rx_P_st (fun p e R s m args below meth c H locs lsA cells slots Z hF hD hW => lv_lmul hF.1 hF.2.1 (rx_dec hdec rfl) hW) ho2
theorem rx_s_ineg {mi pc : Nat} {ls st : List Value} {h : rx_H} {Q : Option Value → rx_H → Prop} {nx a b' k : Nat} {v : Value} {o : rx_O} (hm : mi < 173) (hdec : decode (rx_cc mi) pc = .ok (.ineg, nx - pc)) (hsh : rx_shape mi pc (.ineg, nx, a, b', k, v) = true) (hneed : ∀ w ∈ rx_need mi (.ineg, nx, a, b', k, v), w ∈ rx_g)
    (ho1 : rx_res rx_cn (.ineg, nx, a, b', k, v) pc ls st h = some o) (ho2 : rx_dis o (fun pc' ls' st' h' => rx_P l dC dI dA b bs L xs mi pc' ls' st' h' Q) (rx_Cg (rx_P l dC dI dA b bs L xs)) Q ls h) : rx_P l dC dI dA b bs L xs mi pc ls st h Q := by
  have h1 : decide (nx = pc + 1) = true := hsh
  simp only [decide_eq_true_eq] at h1
  subst h1
  have ho3 : (match (generalizing := false) st with
    | .int x :: r => some (.inl (pc + 1, ls, .int (-x) :: r, h))
    | _ => none : Option rx_O) = some o := ho1
  split at ho3
  · next x r =>
    cases ho3
    exact rx_P_st (fun p e R s m args below meth c H locs lsA cells slots Z hF hD hW => lv_ineg hF.1 hF.2.1 (rx_dec hdec rfl) hW) ho2
  · cases ho3
theorem rx_s_i2l {mi pc : Nat} {ls st : List Value} {h : rx_H} {Q : Option Value → rx_H → Prop} {nx a b' k : Nat} {v : Value} {o : rx_O} (hm : mi < 173) (hdec : decode (rx_cc mi) pc = .ok (.i2l, nx - pc)) (hsh : rx_shape mi pc (.i2l, nx, a, b', k, v) = true) (hneed : ∀ w ∈ rx_need mi (.i2l, nx, a, b', k, v), w ∈ rx_g)
    (ho1 : rx_res rx_cn (.i2l, nx, a, b', k, v) pc ls st h = some o) (ho2 : rx_dis o (fun pc' ls' st' h' => rx_P l dC dI dA b bs L xs mi pc' ls' st' h' Q) (rx_Cg (rx_P l dC dI dA b bs L xs)) Q ls h) : rx_P l dC dI dA b bs L xs mi pc ls st h Q := by
  have h1 : decide (nx = pc + 1) = true := hsh
  simp only [decide_eq_true_eq] at h1
  subst h1
  have ho3 : (match (generalizing := false) st with
    | .int x :: r => some (.inl (pc + 1, ls, .long x.toInt64 :: r, h))
    | _ => none : Option rx_O) = some o := ho1
  split at ho3
  · next x r =>
    cases ho3
    exact rx_P_st (fun p e R s m args below meth c H locs lsA cells slots Z hF hD hW => lv_i2l hF.1 hF.2.1 (rx_dec hdec rfl) rfl hW) ho2
  · cases ho3
theorem rx_s_i2b {mi pc : Nat} {ls st : List Value} {h : rx_H} {Q : Option Value → rx_H → Prop} {nx a b' k : Nat} {v : Value} {o : rx_O} (hm : mi < 173) (hdec : decode (rx_cc mi) pc = .ok (.i2b, nx - pc)) (hsh : rx_shape mi pc (.i2b, nx, a, b', k, v) = true) (hneed : ∀ w ∈ rx_need mi (.i2b, nx, a, b', k, v), w ∈ rx_g)
    (ho1 : rx_res rx_cn (.i2b, nx, a, b', k, v) pc ls st h = some o) (ho2 : rx_dis o (fun pc' ls' st' h' => rx_P l dC dI dA b bs L xs mi pc' ls' st' h' Q) (rx_Cg (rx_P l dC dI dA b bs L xs)) Q ls h) : rx_P l dC dI dA b bs L xs mi pc ls st h Q := by
  have h1 : decide (nx = pc + 1) = true := hsh
  simp only [decide_eq_true_eq] at h1
  subst h1
  have ho3 : (match (generalizing := false) st with
    | .int x :: r => some (.inl (pc + 1, ls, .int x.toInt8.toInt32 :: r, h))
    | _ => none : Option rx_O) = some o := ho1
  split at ho3
  · next x r =>
    cases ho3
    exact rx_P_st (fun p e R s m args below meth c H locs lsA cells slots Z hF hD hW => lv_i2b hF.1 hF.2.1 (rx_dec hdec rfl) rfl hW) ho2
  · cases ho3
theorem rx_s_lcmp {mi pc : Nat} {ls st : List Value} {h : rx_H} {Q : Option Value → rx_H → Prop} {nx a b' k : Nat} {v : Value} {o : rx_O} (hm : mi < 173) (hdec : decode (rx_cc mi) pc = .ok (.lcmp, nx - pc)) (hsh : rx_shape mi pc (.lcmp, nx, a, b', k, v) = true) (hneed : ∀ w ∈ rx_need mi (.lcmp, nx, a, b', k, v), w ∈ rx_g)
    (ho1 : rx_res rx_cn (.lcmp, nx, a, b', k, v) pc ls st h = some o) (ho2 : rx_dis o (fun pc' ls' st' h' => rx_P l dC dI dA b bs L xs mi pc' ls' st' h' Q) (rx_Cg (rx_P l dC dI dA b bs L xs)) Q ls h) : rx_P l dC dI dA b bs L xs mi pc ls st h Q := by
  have h1 : decide (nx = pc + 1) = true := hsh
  simp only [decide_eq_true_eq] at h1
  subst h1
  have ho3 : (match (generalizing := false) st with
    | .long y :: .long x :: r => some (.inl (pc + 1, ls, .int (lg_cmp x y) :: r, h))
    | _ => none : Option rx_O) = some o := ho1
  split at ho3
  · next y x r =>
    cases ho3
    exact rx_P_st (fun p e R s m args below meth c H locs lsA cells slots Z hF hD hW => W.lcmp hF.1 hF.2.1 (rx_dec hdec rfl) hW) ho2
  · cases ho3
theorem rx_s_dup {mi pc : Nat} {ls st : List Value} {h : rx_H} {Q : Option Value → rx_H → Prop} {nx a b' k : Nat} {v : Value} {o : rx_O} (hm : mi < 173) (hdec : decode (rx_cc mi) pc = .ok (.dup, nx - pc)) (hsh : rx_shape mi pc (.dup, nx, a, b', k, v) = true) (hneed : ∀ w ∈ rx_need mi (.dup, nx, a, b', k, v), w ∈ rx_g)
    (ho1 : rx_res rx_cn (.dup, nx, a, b', k, v) pc ls st h = some o) (ho2 : rx_dis o (fun pc' ls' st' h' => rx_P l dC dI dA b bs L xs mi pc' ls' st' h' Q) (rx_Cg (rx_P l dC dI dA b bs L xs)) Q ls h) : rx_P l dC dI dA b bs L xs mi pc ls st h Q := by
  have h1 : decide (nx = pc + 1) = true := hsh
  simp only [decide_eq_true_eq] at h1
  subst h1
  have ho3 : (match (generalizing := false) st with
    | .int x :: r => some (.inl (pc + 1, ls, .int x :: .int x :: r, h))
    | .ref x :: r => some (.inl (pc + 1, ls, .ref x :: .ref x :: r, h))
    | _ => none : Option rx_O) = some o := ho1
  split at ho3
  · next x r =>
    cases ho3
    exact rx_P_st (fun p e R s m args below meth c H locs lsA cells slots Z hF hD hW => lv_dup (va := .int x) hF.1 hF.2.1 (rx_dec hdec rfl) rfl hW) ho2
  · next x r =>
    cases ho3
    exact rx_P_st (fun p e R s m args below meth c H locs lsA cells slots Z hF hD hW => lv_dup (va := .ref (rx_ta b bs x)) hF.1 hF.2.1 (rx_dec hdec rfl) rfl hW) ho2
  · cases ho3
theorem rx_s_pop {mi pc : Nat} {ls st : List Value} {h : rx_H} {Q : Option Value → rx_H → Prop} {nx a b' k : Nat} {v : Value} {o : rx_O} (hm : mi < 173) (hdec : decode (rx_cc mi) pc = .ok (.pop, nx - pc)) (hsh : rx_shape mi pc (.pop, nx, a, b', k, v) = true) (hneed : ∀ w ∈ rx_need mi (.pop, nx, a, b', k, v), w ∈ rx_g)
    (ho1 : rx_res rx_cn (.pop, nx, a, b', k, v) pc ls st h = some o) (ho2 : rx_dis o (fun pc' ls' st' h' => rx_P l dC dI dA b bs L xs mi pc' ls' st' h' Q) (rx_Cg (rx_P l dC dI dA b bs L xs)) Q ls h) : rx_P l dC dI dA b bs L xs mi pc ls st h Q := by
  have h1 : decide (nx = pc + 1) = true := hsh
  simp only [decide_eq_true_eq] at h1
  subst h1
  have ho3 : (match (generalizing := false) st with
    | .int _ :: r => some (.inl (pc + 1, ls, r, h))
    | _ => none : Option rx_O) = some o := ho1
  split at ho3
  · next x r =>
    cases ho3
    exact rx_P_st (fun p e R s m args below meth c H locs lsA cells slots Z hF hD hW => lv_pop (va := .int x) hF.1 hF.2.1 (rx_dec hdec rfl) rfl hW) ho2
  · cases ho3
theorem rx_s_dup2 {mi pc : Nat} {ls st : List Value} {h : rx_H} {Q : Option Value → rx_H → Prop} {nx a b' k : Nat} {v : Value} {o : rx_O} (hm : mi < 173) (hdec : decode (rx_cc mi) pc = .ok (.dup2, nx - pc)) (hsh : rx_shape mi pc (.dup2, nx, a, b', k, v) = true) (hneed : ∀ w ∈ rx_need mi (.dup2, nx, a, b', k, v), w ∈ rx_g)
    (ho1 : rx_res rx_cn (.dup2, nx, a, b', k, v) pc ls st h = some o) (ho2 : rx_dis o (fun pc' ls' st' h' => rx_P l dC dI dA b bs L xs mi pc' ls' st' h' Q) (rx_Cg (rx_P l dC dI dA b bs L xs)) Q ls h) : rx_P l dC dI dA b bs L xs mi pc ls st h Q := by
  have h1 : decide (nx = pc + 1) = true := hsh
  simp only [decide_eq_true_eq] at h1
  subst h1
  have ho3 : (match (generalizing := false) st with
    | .int x :: .ref y :: r => some (.inl (pc + 1, ls, .int x :: .ref y :: .int x :: .ref y :: r, h))
    | _ => none : Option rx_O) = some o := ho1
  split at ho3
  · next x y r =>
    cases ho3
    exact rx_P_st (fun p e R s m args below meth c H locs lsA cells slots Z hF hD hW => lv_dup2_11 (va := .int x) (vb := .ref (rx_ta b bs y)) hF.1 hF.2.1 (rx_dec hdec rfl) rfl rfl hW) ho2
  · cases ho3
theorem rx_s_goto {mi pc : Nat} {ls st : List Value} {h : rx_H} {Q : Option Value → rx_H → Prop} {nx a b' k : Nat} {v : Value} {o : rx_O} {off : Int} (hx : rx_xs pc (.goto off, nx, a, b', k, v) = true) (hm : mi < 173) (hdec : decode (rx_cc mi) pc = .ok (.goto off, nx - pc)) (hsh : rx_shape mi pc (.goto off, nx, a, b', k, v) = true) (hneed : ∀ w ∈ rx_need mi (.goto off, nx, a, b', k, v), w ∈ rx_g)
    (ho1 : rx_res rx_cn (.goto off, nx, a, b', k, v) pc ls st h = some o) (ho2 : rx_dis o (fun pc' ls' st' h' => rx_P l dC dI dA b bs L xs mi pc' ls' st' h' Q) (rx_Cg (rx_P l dC dI dA b bs L xs)) Q ls h) : rx_P l dC dI dA b bs L xs mi pc ls st h Q := by
  have h1 : decide ((pc : Int) + off = (a : Int)) = true := hsh
  simp only [decide_eq_true_eq] at h1
  have h2 : decide (nx = pc + 3) = true := hx
  simp only [decide_eq_true_eq] at h2
  subst h2
  cases ho1
  exact rx_P_st (fun p e R s m args below meth c H locs lsA cells slots Z hF hD hW => lv_goto hF.1 hF.2.1 (rx_dec hdec rfl) h1 hW) ho2
theorem rx_s_ifCond {mi pc : Nat} {ls st : List Value} {h : rx_H} {Q : Option Value → rx_H → Prop} {nx a b' k : Nat} {v : Value} {o : rx_O} {cd : Jvm.ClassFile.Cond} {off : Int} (hm : mi < 173) (hdec : decode (rx_cc mi) pc = .ok (.ifCond cd off, nx - pc)) (hsh : rx_shape mi pc (.ifCond cd off, nx, a, b', k, v) = true) (hneed : ∀ w ∈ rx_need mi (.ifCond cd off, nx, a, b', k, v), w ∈ rx_g)
    (ho1 : rx_res rx_cn (.ifCond cd off, nx, a, b', k, v) pc ls st h = some o) (ho2 : rx_dis o (fun pc' ls' st' h' => rx_P l dC dI dA b bs L xs mi pc' ls' st' h' Q) (rx_Cg (rx_P l dC dI dA b bs L xs)) Q ls h) : rx_P l dC dI dA b bs L xs mi pc ls st h Q := by
  have h1 : (decide (nx = pc + 3) && decide ((pc : Int) + off = (a : Int))) = true := hsh
  simp only [Bool.and_eq_true, decide_eq_true_eq] at h1
  obtain ⟨rfl, e2⟩ := h1
  have ho3 : (match (generalizing := false) st with
    | .int x :: r => rx_br (rx_cmpB cd x 0) a (pc + 3) ls r h
    | _ => none : Option rx_O) = some o := ho1
  split at ho3
  · next x r =>
    unfold rx_br at ho3
    cases hc : rx_cmpB cd x 0 with
    | true =>
      rw [hc] at ho3
      cases ho3
      refine rx_P_st (fun p e R s m args below meth c H locs lsA cells slots Z hF hD hW => ?_) ho2
      cases cd
      · exact lv_if_eq hF.1 hF.2.1 (rx_dec hdec rfl) e2 (fun _ => hW) (fun h9 => absurd (by simpa [rx_cmpB] using hc) h9)
      · exact lv_if_ne hF.1 hF.2.1 (rx_dec hdec rfl) e2 (fun _ => hW) (fun h9 => absurd h9 (by simpa [rx_cmpB] using hc))
      · exact lv_if_lt hF.1 hF.2.1 (rx_dec hdec rfl) e2 (fun _ => hW) (fun h9 => absurd (by simpa [rx_cmpB] using hc) h9)
      · exact lv_if_ge hF.1 hF.2.1 (rx_dec hdec rfl) e2 (fun _ => hW) (fun h9 => absurd (by simpa [rx_cmpB] using hc) h9)
      · exact lv_if_gt hF.1 hF.2.1 (rx_dec hdec rfl) e2 (fun _ => hW) (fun h9 => absurd (by simpa [rx_cmpB] using hc) h9)
      · exact lv_if_le hF.1 hF.2.1 (rx_dec hdec rfl) e2 (fun _ => hW) (fun h9 => absurd (by simpa [rx_cmpB] using hc) h9)
    | false =>
      rw [hc] at ho3
      cases ho3
      refine rx_P_st (fun p e R s m args below meth c H locs lsA cells slots Z hF hD hW => ?_) ho2
      cases cd
      · exact lv_if_eq hF.1 hF.2.1 (rx_dec hdec rfl) e2 (fun h9 => absurd h9 (by simpa [rx_cmpB] using hc)) (fun _ => hW)
      · exact lv_if_ne hF.1 hF.2.1 (rx_dec hdec rfl) e2 (fun h9 => absurd h9 (by simpa [rx_cmpB] using hc)) (fun _ => hW)
      · exact lv_if_lt hF.1 hF.2.1 (rx_dec hdec rfl) e2 (fun h9 => absurd h9 (by simpa [rx_cmpB] using hc)) (fun _ => hW)
      · exact lv_if_ge hF.1 hF.2.1 (rx_dec hdec rfl) e2 (fun h9 => absurd h9 (by simpa [rx_cmpB] using hc)) (fun _ => hW)
      · exact lv_if_gt hF.1 hF.2.1 (rx_dec hdec rfl) e2 (fun h9 => absurd h9 (by simpa [rx_cmpB] using hc)) (fun _ => hW)
      · exact lv_if_le hF.1 hF.2.1 (rx_dec hdec rfl) e2 (fun h9 => absurd h9 (by simpa [rx_cmpB] using hc)) (fun _ => hW)
  · cases ho3
theorem rx_s_if_icmp {mi pc : Nat} {ls st : List Value} {h : rx_H} {Q : Option Value → rx_H → Prop} {nx a b' k : Nat} {v : Value} {o : rx_O} {cd : Jvm.ClassFile.Cond} {off : Int} (hm : mi < 173) (hdec : decode (rx_cc mi) pc = .ok (.if_icmp cd off, nx - pc)) (hsh : rx_shape mi pc (.if_icmp cd off, nx, a, b', k, v) = true) (hneed : ∀ w ∈ rx_need mi (.if_icmp cd off, nx, a, b', k, v), w ∈ rx_g)
    (ho1 : rx_res rx_cn (.if_icmp cd off, nx, a, b', k, v) pc ls st h = some o) (ho2 : rx_dis o (fun pc' ls' st' h' => rx_P l dC dI dA b bs L xs mi pc' ls' st' h' Q) (rx_Cg (rx_P l dC dI dA b bs L xs)) Q ls h) : rx_P l dC dI dA b bs L xs mi pc ls st h Q := by
  have h1 : (decide (nx = pc + 3) && decide ((pc : Int) + off = (a : Int))) = true := hsh
  simp only [Bool.and_eq_true, decide_eq_true_eq] at h1
  obtain ⟨rfl, e2⟩ := h1
  have ho3 : (match (generalizing := false) st with
    | .int y :: .int x :: r => rx_br (rx_cmpB cd x y) a (pc + 3) ls r h
    | _ => none : Option rx_O) = some o := ho1
  split at ho3
  · next y x r =>
    unfold rx_br at ho3
    cases hc : rx_cmpB cd x y with
    | true =>
      rw [hc] at ho3
      cases ho3
      refine rx_P_st (fun p e R s m args below meth c H locs lsA cells slots Z hF hD hW => ?_) ho2
      cases cd
      · exact lv_icmp_eq hF.1 hF.2.1 (rx_dec hdec rfl) e2 (fun _ => hW) (fun h9 => absurd (by simpa [rx_cmpB] using hc) h9)
      · exact lv_icmp_ne hF.1 hF.2.1 (rx_dec hdec rfl) e2 (fun _ => hW) (fun h9 => absurd h9 (by simpa [rx_cmpB] using hc))
      · exact lv_icmp_lt hF.1 hF.2.1 (rx_dec hdec rfl) e2 (fun _ => hW) (fun h9 => absurd (by simpa [rx_cmpB] using hc) h9)
      · exact lv_icmp_ge hF.1 hF.2.1 (rx_dec hdec rfl) e2 (fun _ => hW) (fun h9 => absurd (by simpa [rx_cmpB] using hc) h9)
      · exact lv_icmp_gt hF.1 hF.2.1 (rx_dec hdec rfl) e2 (fun _ => hW) (fun h9 => absurd (by simpa [rx_cmpB] using hc) h9)
      · exact lv_icmp_le hF.1 hF.2.1 (rx_dec hdec rfl) e2 (fun _ => hW) (fun h9 => absurd (by simpa [rx_cmpB] using hc) h9)
    | false =>
      rw [hc] at ho3
      cases ho3
      refine rx_P_st (fun p e R s m args below meth c H locs lsA cells slots Z hF hD hW => ?_) ho2
      cases cd
      · exact lv_icmp_eq hF.1 hF.2.1 (rx_dec hdec rfl) e2 (fun h9 => absurd h9 (by simpa [rx_cmpB] using hc)) (fun _ => hW)
      · exact lv_icmp_ne hF.1 hF.2.1 (rx_dec hdec rfl) e2 (fun h9 => absurd h9 (by simpa [rx_cmpB] using hc)) (fun _ => hW)
      · exact lv_icmp_lt hF.1 hF.2.1 (rx_dec hdec rfl) e2 (fun h9 => absurd h9 (by simpa [rx_cmpB] using hc)) (fun _ => hW)
      · exact lv_icmp_ge hF.1 hF.2.1 (rx_dec hdec rfl) e2 (fun h9 => absurd h9 (by simpa [rx_cmpB] using hc)) (fun _ => hW)
      · exact lv_icmp_gt hF.1 hF.2.1 (rx_dec hdec rfl) e2 (fun h9 => absurd h9 (by simpa [rx_cmpB] using hc)) (fun _ => hW)
      · exact lv_icmp_le hF.1 hF.2.1 (rx_dec hdec rfl) e2 (fun h9 => absurd h9 (by simpa [rx_cmpB] using hc)) (fun _ => hW)
  · cases ho3
theorem rx_s_tableswitch {mi pc : Nat} {ls st : List Value} {h : rx_H} {Q : Option Value → rx_H → Prop} {nx a b' k : Nat} {v : Value} {o : rx_O} {d lo hi : Int} {offs : Array Int} (hm : mi < 173) (hdec : decode (rx_cc mi) pc = .ok (.tableswitch d lo hi offs, nx - pc)) (hsh : rx_shape mi pc (.tableswitch d lo hi offs, nx, a, b', k, v) = true) (hneed : ∀ w ∈ rx_need mi (.tableswitch d lo hi offs, nx, a, b', k, v), w ∈ rx_g)
    (ho1 : rx_res rx_cn (.tableswitch d lo hi offs, nx, a, b', k, v) pc ls st h = some o) (ho2 : rx_dis o (fun pc' ls' st' h' => rx_P l dC dI dA b bs L xs mi pc' ls' st' h' Q) (rx_Cg (rx_P l dC dI dA b bs L xs)) Q ls h) : rx_P l dC dI dA b bs L xs mi pc ls st h Q := by
  have h1 : (decide (0 ≤ (pc : Int) + d) && offs.toList.all (fun o => decide (0 ≤ (pc : Int) + o)) && decide (hi - lo < (offs.size : Int)) && decide (0 ≤ lo)) = true := hsh
  simp only [Bool.and_eq_true, decide_eq_true_eq] at h1
  obtain ⟨⟨⟨e1, e2⟩, e3⟩, e4⟩ := h1
  have ho3 : (match (generalizing := false) st with
    | .int x :: r => some (.inl (rx_sw pc d lo hi offs x, ls, r, h))
    | _ => none : Option rx_O) = some o := ho1
  split at ho3
  · next x r =>
    cases ho3
    refine rx_P_st (fun p e R s m args below meth c H locs lsA cells slots Z hF hD hW => ?_) ho2
    unfold rx_sw at hW
    by_cases hx : x.toInt < lo ∨ hi < x.toInt
    · rw [if_pos hx] at hW
      exact lv_tableOut hF.1 hF.2.1 hdec hx (by unfold rx_tgt; omega) hW
    · rw [if_neg hx] at hW
      have hlt : (x.toInt - lo).toNat < offs.size := by omega
      have hg : offs[(x.toInt - lo).toNat]? = some (offs.getD (x.toInt - lo).toNat d) := by
        rw [Array.getD_eq_getD_getElem?, Array.getElem?_eq_getElem hlt]; rfl
      have hp : 0 ≤ (pc : Int) + offs.getD (x.toInt - lo).toNat d := by
        have := List.all_eq_true.mp e2 (offs.getD (x.toInt - lo).toNat d) (Array.mem_toList_iff.mpr (Array.mem_of_getElem? hg))
        simpa using this
      exact lv_tableIn hF.1 hF.2.1 hdec (fun z => hx (Or.inl z)) (fun z => hx (Or.inr z)) hg (by unfold rx_tgt; omega) hW
  · cases ho3
theorem rx_s_getfield {mi pc : Nat} {ls st : List Value} {h : rx_H} {Q : Option Value → rx_H → Prop} {nx a b' k : Nat} {v : Value} {o : rx_O} {x : Nat} (hm : mi < 173) (hdec : decode (rx_cc mi) pc = .ok (.getfield x, nx - pc)) (hsh : rx_shape mi pc (.getfield x, nx, a, b', k, v) = true) (hneed : ∀ w ∈ rx_need mi (.getfield x, nx, a, b', k, v), w ∈ rx_g)
    (ho1 : rx_res rx_cn (.getfield x, nx, a, b', k, v) pc ls st h = some o) (ho2 : rx_dis o (fun pc' ls' st' h' => rx_P l dC dI dA b bs L xs mi pc' ls' st' h' Q) (rx_Cg (rx_P l dC dI dA b bs L xs)) Q ls h) : rx_P l dC dI dA b bs L xs mi pc ls st h Q := by
  have h1 : (decide (nx = pc + 3) && decide (a < 9) && decide (b' < rx_N a)) = true := hsh
  simp only [Bool.and_eq_true, decide_eq_true_eq] at h1
  obtain ⟨⟨rfl, e2⟩, e3⟩ := h1
  have hw : Cond.fieldLink (rx_y mi).cls x (rx_T a b').1 (rx_T a b').2.1 (rx_T a b').2.2.1 ∈ rx_g := hneed _ List.mem_cons_self
  obtain ⟨i, r, fs, w, rfl, hi, hr, hv, rfl⟩ := rx_get_inv ho1
  refine rx_P_st (fun p e R s m args below meth c H locs lsA cells slots Z hF hD hW => ?_) ho2
  have hP := rx_Dy_at hD hi hr
  rw [rx_map_ref hi]
  exact va_get (D := (dC, dI)) (C := rx_Rn a) (T := rx_T a) (N := rx_N a) (ci := a) (own := (rx_y mi).cls) (ref := (rx_T a b').1) hF.1 hF.2.1 hF.2.2.2.2.1 (rx_lays a e2) hF.2.2.2.1 hF.2.2.2.2.2.1.1 hP 0 rfl (rx_kinds_at a e2) b' e3 (hF.2.2.2.2.1 _ hw) (fun _ h9 => h9) (v := rx_tv b bs w) (by rw [List.getElem?_map, hv]; rfl) (rx_dec hdec rfl) hW
theorem rx_s_putfield {mi pc : Nat} {ls st : List Value} {h : rx_H} {Q : Option Value → rx_H → Prop} {nx a b' k : Nat} {v : Value} {o : rx_O} {x : Nat} (hm : mi < 173) (hdec : decode (rx_cc mi) pc = .ok (.putfield x, nx - pc)) (hsh : rx_shape mi pc (.putfield x, nx, a, b', k, v) = true) (hneed : ∀ w ∈ rx_need mi (.putfield x, nx, a, b', k, v), w ∈ rx_g)
    (ho1 : rx_res rx_cn (.putfield x, nx, a, b', k, v) pc ls st h = some o) (ho2 : rx_dis o (fun pc' ls' st' h' => rx_P l dC dI dA b bs L xs mi pc' ls' st' h' Q) (rx_Cg (rx_P l dC dI dA b bs L xs)) Q ls h) : rx_P l dC dI dA b bs L xs mi pc ls st h Q := by
  have h1 : (decide (nx = pc + 3) && decide (a < 9) && decide (b' < rx_N a) && decide (rx_tk (rx_ty a b') = k) && (decide ((rx_T a b').2.2.2 = false) || (decide ((rx_y mi).name = "<init>") && decide ((rx_T a b').1 = (rx_y mi).cls)))) = true := hsh
  simp only [Bool.and_eq_true, Bool.or_eq_true, decide_eq_true_eq] at h1
  obtain ⟨⟨⟨⟨rfl, e2⟩, e3⟩, rfl⟩, e5⟩ := h1
  have hw : Cond.fieldLink (rx_y mi).cls x (rx_T a b').1 (rx_T a b').2.1 (rx_T a b').2.2.1 ∈ rx_g := hneed _ List.mem_cons_self
  obtain ⟨w, i, r, fs, rfl, hi, hr, hf, hl, rfl⟩ := rx_put_inv ho1
  obtain ⟨f1, f2⟩ := rx_fit_ok (b := b) (bs := bs) hf
  refine rx_P_wr hi (fun p e R s m args below meth c H locs lsA cells slots Z hF hD hW => ?_) ho2
  have hP := hD.1.2.2.2 i _ (Nat.pos_of_ne_zero hi) hr
  have e9 : (w :: .ref i :: r).map (rx_tv b bs) = rx_tv b bs w :: .ref (bs + i) :: r.map (rx_tv b bs) := by rw [List.map_cons, rx_map_ref hi]
  rw [e9]
  refine rx_Wput (rx_lays a e2) hF e2 e3 hw e5 f1 f2 hP (by rw [List.length_map]; exact hl) (rx_dec hdec rfl) (fun H1 locs1 g1 g2 g3 g4 => hW H1 locs1 ?_ g2 g3 g4)
  show va_at (dC, dI) rx_kinds (bs + i, .inr (a, (fs.set b' w).map (rx_tv b bs))) H1
  rw [List.map_set]
  exact g1
theorem rx_s_iaload {mi pc : Nat} {ls st : List Value} {h : rx_H} {Q : Option Value → rx_H → Prop} {nx a b' k : Nat} {v : Value} {o : rx_O} (hm : mi < 173) (hdec : decode (rx_cc mi) pc = .ok (.iaload, nx - pc)) (hsh : rx_shape mi pc (.iaload, nx, a, b', k, v) = true) (hneed : ∀ w ∈ rx_need mi (.iaload, nx, a, b', k, v), w ∈ rx_g)
    (ho1 : rx_res rx_cn (.iaload, nx, a, b', k, v) pc ls st h = some o) (ho2 : rx_dis o (fun pc' ls' st' h' => rx_P l dC dI dA b bs L xs mi pc' ls' st' h' Q) (rx_Cg (rx_P l dC dI dA b bs L xs)) Q ls h) : rx_P l dC dI dA b bs L xs mi pc ls st h Q := by
  have h1 : decide (nx = pc + 1) = true := hsh
  simp only [decide_eq_true_eq] at h1
  subst h1
  obtain ⟨j, i, r, n, f, rfl, hr, hin, rfl⟩ := rx_aload_inv ho1
  refine rx_P_st (fun p e R s m args below meth c H locs lsA cells slots Z hF hD hW => ?_) ho2
  by_cases hi : i = 0
  · subst hi
    have hr0 := hD.1.2.2.1
    cases (show some _ = some _ from hr.symm.trans hr0)
    obtain ⟨scr, q1, q2, q3, q4, q5⟩ := hF.2.2.2.2.2.2.1
    have hlt : j.toNatClampNeg < L := Nat.not_le.mp fun q => hin (Or.inr q)
    exact W.iald (v := .int (xs j.toNatClampNeg)) hF.1 hF.2.1 (by show H[b]? = some scr; rw [hD.2.1 b hF.2.2.2.2.2.2.2.1]; exact q1) q2 q3 (by rw [q4]; exact hin) (q5 _ hlt) rfl rfl (rx_dec hdec rfl) hW
  · have hP := rx_Dy_at hD hi hr
    have e9 : (.int j :: .ref i :: r).map (rx_tv b bs) = .int j :: .ref (bs + i) :: r.map (rx_tv b bs) := by rw [List.map_cons, rx_map_ref hi]; rfl
    rw [e9]
    exact va_iald hF.1 hF.2.1 hF.2.2.2.2.2.1.1 hP 0 0 rfl rfl hin (rx_dec hdec rfl) hW
theorem rx_s_baload {mi pc : Nat} {ls st : List Value} {h : rx_H} {Q : Option Value → rx_H → Prop} {nx a b' k : Nat} {v : Value} {o : rx_O} (hm : mi < 173) (hdec : decode (rx_cc mi) pc = .ok (.baload, nx - pc)) (hsh : rx_shape mi pc (.baload, nx, a, b', k, v) = true) (hneed : ∀ w ∈ rx_need mi (.baload, nx, a, b', k, v), w ∈ rx_g)
    (ho1 : rx_res rx_cn (.baload, nx, a, b', k, v) pc ls st h = some o) (ho2 : rx_dis o (fun pc' ls' st' h' => rx_P l dC dI dA b bs L xs mi pc' ls' st' h' Q) (rx_Cg (rx_P l dC dI dA b bs L xs)) Q ls h) : rx_P l dC dI dA b bs L xs mi pc ls st h Q := by
  have h1 : decide (nx = pc + 1) = true := hsh
  simp only [decide_eq_true_eq] at h1
  subst h1
  have ho3 : (match (generalizing := false) st with
    | .int j :: .ref i :: r => if i = 0 then none else rx_aload 1 (pc + 1) ls (.int j :: .ref i :: r) h
    | _ => none : Option rx_O) = some o := ho1
  split at ho3
  · next j i r =>
    split at ho3
    · cases ho3
    · next hi =>
      obtain ⟨j', i', r', n, f, e0, hr, hin, rfl⟩ := rx_aload_inv ho3
      cases e0
      refine rx_P_st (fun p e R s m args below meth c H locs lsA cells slots Z hF hD hW => ?_) ho2
      have hP := rx_Dy_at hD hi hr
      have e9 : (.int j :: .ref i :: r).map (rx_tv b bs) = .int j :: .ref (bs + i) :: r.map (rx_tv b bs) := by rw [List.map_cons, rx_map_ref hi]; rfl
      rw [e9]
      exact va_bald hF.1 hF.2.1 hF.2.2.2.2.2.1.1 hP 0 1 rfl rfl hin (rx_dec hdec rfl) hW
  · cases ho3
theorem rx_s_iastore {mi pc : Nat} {ls st : List Value} {h : rx_H} {Q : Option Value → rx_H → Prop} {nx a b' k : Nat} {v : Value} {o : rx_O} (hm : mi < 173) (hdec : decode (rx_cc mi) pc = .ok (.iastore, nx - pc)) (hsh : rx_shape mi pc (.iastore, nx, a, b', k, v) = true) (hneed : ∀ w ∈ rx_need mi (.iastore, nx, a, b', k, v), w ∈ rx_g)
    (ho1 : rx_res rx_cn (.iastore, nx, a, b', k, v) pc ls st h = some o) (ho2 : rx_dis o (fun pc' ls' st' h' => rx_P l dC dI dA b bs L xs mi pc' ls' st' h' Q) (rx_Cg (rx_P l dC dI dA b bs L xs)) Q ls h) : rx_P l dC dI dA b bs L xs mi pc ls st h Q := by
  have h1 : decide (nx = pc + 1) = true := hsh
  simp only [decide_eq_true_eq] at h1
  subst h1
  obtain ⟨x, j, i, r, n, f, rfl, hi, hr, hin, rfl⟩ := rx_astore_inv ho1
  refine rx_P_wr hi (fun p e R s m args below meth c H locs lsA cells slots Z hF hD hW => ?_) ho2
  have hP : H[bs + i]? = some (vp_cell (dA 0) (n, .inl f)) := hD.1.2.2.2 i _ (Nat.pos_of_ne_zero hi) hr
  have e9 : (.int x :: .int j :: .ref i :: r).map (rx_tv b bs) = .int x :: .int j :: .ref (bs + i) :: r.map (rx_tv b bs) := by rw [List.map_cons, List.map_cons, rx_map_ref hi]; rfl
  rw [e9]
  refine W.iast hF.1 hF.2.1 hP ((hF.2.2.2.2.2.1.1.2 0 _ rfl).1 n (fun j => .int (f j))) (fun q => by cases q) (by show ¬ (j < 0 ∨ (arrV _ _ _).slots.size ≤ _); rw [arrV_size]; exact hin) rfl rfl (rx_dec hdec rfl) fun H1 g1 g2 g3 => hW H1 _ ?_ g2 g3 rx_lc
  show H1[bs + i]? = some (vp_cell _ _)
  rw [g1]
  exact congrArg some (rx_upd_cell (dA 0) n j.toNatClampNeg f x)
theorem rx_s_bastore {mi pc : Nat} {ls st : List Value} {h : rx_H} {Q : Option Value → rx_H → Prop} {nx a b' k : Nat} {v : Value} {o : rx_O} (hm : mi < 173) (hdec : decode (rx_cc mi) pc = .ok (.bastore, nx - pc)) (hsh : rx_shape mi pc (.bastore, nx, a, b', k, v) = true) (hneed : ∀ w ∈ rx_need mi (.bastore, nx, a, b', k, v), w ∈ rx_g)
    (ho1 : rx_res rx_cn (.bastore, nx, a, b', k, v) pc ls st h = some o) (ho2 : rx_dis o (fun pc' ls' st' h' => rx_P l dC dI dA b bs L xs mi pc' ls' st' h' Q) (rx_Cg (rx_P l dC dI dA b bs L xs)) Q ls h) : rx_P l dC dI dA b bs L xs mi pc ls st h Q := by
  have h1 : decide (nx = pc + 1) = true := hsh
  simp only [decide_eq_true_eq] at h1
  subst h1
  obtain ⟨x, j, i, r, n, f, rfl, hi, hr, hin, rfl⟩ := rx_astore_inv ho1
  refine rx_P_wr hi (fun p e R s m args below meth c H locs lsA cells slots Z hF hD hW => ?_) ho2
  have hP : H[bs + i]? = some (vp_cell (dA 1) (n, .inl f)) := hD.1.2.2.2 i _ (Nat.pos_of_ne_zero hi) hr
  have e9 : (.int x :: .int j :: .ref i :: r).map (rx_tv b bs) = .int x :: .int j :: .ref (bs + i) :: r.map (rx_tv b bs) := by rw [List.map_cons, List.map_cons, rx_map_ref hi]; rfl
  rw [e9]
  refine W.bast hF.1 hF.2.1 hP ((hF.2.2.2.2.2.1.1.2 1 _ rfl).1 n (fun j => .int (f j))) (fun q => by cases q) (by show ¬ (j < 0 ∨ (arrV _ _ _).slots.size ≤ _); rw [arrV_size]; exact hin) rfl rfl (rx_dec hdec rfl) fun H1 g1 g2 g3 => hW H1 _ ?_ g2 g3 rx_lc
  show H1[bs + i]? = some (vp_cell _ _)
  rw [g1]
  exact congrArg some (rx_upd_cell (dA 1) n j.toNatClampNeg f x.toInt8.toInt32)
theorem rx_s_aaload {mi pc : Nat} {ls st : List Value} {h : rx_H} {Q : Option Value → rx_H → Prop} {nx a b' k : Nat} {v : Value} {o : rx_O} (hm : mi < 173) (hdec : decode (rx_cc mi) pc = .ok (.aaload, nx - pc)) (hsh : rx_shape mi pc (.aaload, nx, a, b', k, v) = true) (hneed : ∀ w ∈ rx_need mi (.aaload, nx, a, b', k, v), w ∈ rx_g)
    (ho1 : rx_res rx_cn (.aaload, nx, a, b', k, v) pc ls st h = some o) (ho2 : rx_dis o (fun pc' ls' st' h' => rx_P l dC dI dA b bs L xs mi pc' ls' st' h' Q) (rx_Cg (rx_P l dC dI dA b bs L xs)) Q ls h) : rx_P l dC dI dA b bs L xs mi pc ls st h Q := by
  have h1 : decide (nx = pc + 1) = true := hsh
  simp only [decide_eq_true_eq] at h1
  subst h1
  obtain ⟨j, i, r, t, n, f, q, rfl, hi, hr, ht, hin, hq, rfl⟩ := rx_aaload_inv ho1
  refine rx_P_st (fun p e R s m args below meth c H locs lsA cells slots Z hF hD hW => ?_) ho2
  have hP := rx_Dy_at hD hi hr
  have e9 : (.int j :: .ref i :: r).map (rx_tv b bs) = .int j :: .ref (bs + i) :: r.map (rx_tv b bs) := by rw [List.map_cons, rx_map_ref hi]; rfl
  rw [e9]
  have e8 : va_rf ((f j.toNatClampNeg).map (rx_ta b bs)) = rx_tv b bs (.ref q) := by rw [hq]; rfl
  rcases ht with rfl | rfl
  · refine va_aldq (C := RX4) hF.1 hF.2.1 hF.2.2.2.2.2.1.1 hP 0 2 rfl rfl hin (rx_dec hdec rfl) ?_
    rw [e8]
    exact hW
  · refine va_aldq (C := RX1) hF.1 hF.2.1 hF.2.2.2.2.2.1.1 hP 0 3 rfl rfl hin (rx_dec hdec rfl) ?_
    rw [e8]
    exact hW
theorem rx_s_aastore {mi pc : Nat} {ls st : List Value} {h : rx_H} {Q : Option Value → rx_H → Prop} {nx a b' k : Nat} {v : Value} {o : rx_O} (hm : mi < 173) (hdec : decode (rx_cc mi) pc = .ok (.aastore, nx - pc)) (hsh : rx_shape mi pc (.aastore, nx, a, b', k, v) = true) (hneed : ∀ w ∈ rx_need mi (.aastore, nx, a, b', k, v), w ∈ rx_g)
    (ho1 : rx_res rx_cn (.aastore, nx, a, b', k, v) pc ls st h = some o) (ho2 : rx_dis o (fun pc' ls' st' h' => rx_P l dC dI dA b bs L xs mi pc' ls' st' h' Q) (rx_Cg (rx_P l dC dI dA b bs L xs)) Q ls h) : rx_P l dC dI dA b bs L xs mi pc ls st h Q := by
  have h1 : decide (nx = pc + 1) = true := hsh
  simp only [decide_eq_true_eq] at h1
  subst h1
  obtain ⟨q, j, i, r, t, n, f, fs, rfl, hi, hq0, hr, ht, hin, hq, rfl⟩ := rx_aastore_inv ho1
  refine rx_P_wr hi (fun p e R s m args below meth c H locs lsA cells slots Z hF hD hW => ?_) ho2
  have hP : H[bs + i]? = some (vp_cell (dA t) (n, .inr (.inr (.inr (.inr (fun j => (f j).map (rx_ta b bs))))))) := hD.1.2.2.2 i _ (Nat.pos_of_ne_zero hi) hr
  obtain ⟨r', hr', cellV, g1, g2, g3, -⟩ := hD.1.2.2.2 q _ (Nat.pos_of_ne_zero hq0) hq
  have e9 : (.ref q :: .int j :: .ref i :: r).map (rx_tv b bs) = .ref (bs + q) :: .int j :: .ref (bs + i) :: r.map (rx_tv b bs) := by rw [rx_map_ref hq0, List.map_cons, rx_map_ref hi]; rfl
  rw [e9]
  have hlt : j.toNatClampNeg < n := Nat.not_le.mp fun z => hin (Or.inr z)
  have h0 : ¬ j < 0 := fun z => hin (Or.inl z)
  have key : ∀ (C : String) (T : u_T) (N : Nat), (rx_tys dA)[t]? = some (dA t, .object C) → rx_kinds[rx_tc t]? = some (C, T, N) → W p l e R s m args below meth c H locs cells slots Z (F0 m pc lsA (.ref (bs + q) :: .int j :: .ref (bs + i) :: r.map (rx_tv b bs))) := by
    intro C T N k1 k2
    have hcls := (hF.2.2.2.2.2.1.1.1 (rx_tc t) _ k2).2
    obtain ⟨kA, comp, c1, c2, c3, -⟩ := (hF.2.2.2.2.2.1.1.2 t _ k1).2
    have hcomp : comp = dC (rx_tc t) := Option.some.inj (c3.symm.trans hcls.1)
    subst hcomp
    obtain ⟨kC, hkC, -⟩ := hcls.2
    refine W.aast hF.1 hF.2.1 hP (fun z h => by cases h) (fun h => by cases h) c1 c2 rfl hkC ⟨h0, by show _ < (arrV _ _ _).slots.size; rw [arrV_size]; exact hlt⟩ g1 (fun z h => by rw [g3] at h; cases h) (by rw [g2]; exact hkC) (by rw [g2]; exact va_assign hcls) rfl rfl (rx_dec hdec rfl) fun H1 z1 z2 z3 => hW H1 _ ?_ z2 z3 rx_lc
    show H1[bs + i]? = some (vp_cell (dA t) (n, .inr (.inr (.inr (.inr (fun z => (va_up f j.toNatClampNeg (some q) z).map (rx_ta b bs)))))))
    rw [z1, rx_up_cell]
    have e5 : va_up (fun z => (f z).map (rx_ta b bs)) j.toNatClampNeg (some (bs + q)) = fun z => (va_up f j.toNatClampNeg (some q) z).map (rx_ta b bs) := by
      funext z
      unfold va_up
      by_cases hz : z = j.toNatClampNeg
      · rw [if_pos hz, if_pos hz]
        show some (bs + q) = some (rx_ta b bs q)
        rw [rx_ta_pos hq0]
      · rw [if_neg hz, if_neg hz]
    exact congrArg (fun F => some (vp_cell (dA t) (n, .inr (.inr (.inr (.inr F)))))) e5
  rcases ht with rfl | rfl
  · exact key RX4 TX4 3 rfl rfl
  · exact key RX1 TX1 9 rfl rfl
theorem rx_s_arraylength {mi pc : Nat} {ls st : List Value} {h : rx_H} {Q : Option Value → rx_H → Prop} {nx a b' k : Nat} {v : Value} {o : rx_O} (hm : mi < 173) (hdec : decode (rx_cc mi) pc = .ok (.arraylength, nx - pc)) (hsh : rx_shape mi pc (.arraylength, nx, a, b', k, v) = true) (hneed : ∀ w ∈ rx_need mi (.arraylength, nx, a, b', k, v), w ∈ rx_g)
    (ho1 : rx_res rx_cn (.arraylength, nx, a, b', k, v) pc ls st h = some o) (ho2 : rx_dis o (fun pc' ls' st' h' => rx_P l dC dI dA b bs L xs mi pc' ls' st' h' Q) (rx_Cg (rx_P l dC dI dA b bs L xs)) Q ls h) : rx_P l dC dI dA b bs L xs mi pc ls st h Q := by
  have h1 : decide (nx = pc + 1) = true := hsh
  simp only [decide_eq_true_eq] at h1
  subst h1
  obtain ⟨i, r, t, n, f, rfl, hr, ht, rfl⟩ := rx_alen_inv ho1
  refine rx_P_st (fun p e R s m args below meth c H locs lsA cells slots Z hF hD hW => ?_) ho2
  by_cases hi : i = 0
  · subst hi
    have hr0 := hD.1.2.2.1
    cases (show some _ = some _ from hr.symm.trans hr0)
    obtain ⟨scr, q1, q2, q3, q4, q5⟩ := hF.2.2.2.2.2.2.1
    exact W.alen (n := Int32.ofNat L) hF.1 hF.2.1 (by show H[b]? = some scr; rw [hD.2.1 b hF.2.2.2.2.2.2.2.1]; exact q1) q2 (by rw [q4] <;> rfl) rfl rfl (rx_dec hdec rfl) hW
  · have hP := rx_Dy_at hD hi hr
    rw [rx_map_ref hi]
    rcases ht with rfl | ⟨rfl, -⟩
    · exact va_alen hF.1 hF.2.1 hF.2.2.2.2.2.1.1 hP 0 0 rfl rfl rfl (rx_dec hdec rfl) hW
    · exact va_alen hF.1 hF.2.1 hF.2.2.2.2.2.1.1 hP 0 1 rfl rfl rfl (rx_dec hdec rfl) hW
theorem rx_s_new {mi pc : Nat} {ls st : List Value} {h : rx_H} {Q : Option Value → rx_H → Prop} {nx a b' k : Nat} {v : Value} {o : rx_O} {x : Nat} (hm : mi < 173) (hdec : decode (rx_cc mi) pc = .ok (.new x, nx - pc)) (hsh : rx_shape mi pc (.new x, nx, a, b', k, v) = true) (hneed : ∀ w ∈ rx_need mi (.new x, nx, a, b', k, v), w ∈ rx_g)
    (ho1 : rx_res rx_cn (.new x, nx, a, b', k, v) pc ls st h = some o) (ho2 : rx_dis o (fun pc' ls' st' h' => rx_P l dC dI dA b bs L xs mi pc' ls' st' h' Q) (rx_Cg (rx_P l dC dI dA b bs L xs)) Q ls h) : rx_P l dC dI dA b bs L xs mi pc ls st h Q := by
  have h1 : (decide (nx = pc + 3) && decide (a < 9) && decide (b' = rx_N a)) = true := hsh
  simp only [Bool.and_eq_true, decide_eq_true_eq] at h1
  obtain ⟨⟨rfl, e2⟩, rfl⟩ := h1
  have w1 : Cond.classLink (rx_y mi).cls x (rx_Rn a) ∈ rx_g := hneed _ List.mem_cons_self
  have w2 : Cond.instantiable (rx_Rn a) (rx_N a) ∈ rx_g := hneed _ (List.mem_cons_of_mem _ List.mem_cons_self)
  have w3 : Cond.initialized (rx_Rn a) ∈ rx_g := hneed _ (List.mem_cons_of_mem _ (List.mem_cons_of_mem _ List.mem_cons_self))
  cases ho1
  refine rx_P_mk (fun p e R s m args below meth c H locs lsA cells slots Z hF hD hc hs hW => ?_) ho2
  have hts := hF.2.2.2.2.1
  have hKn := hF.2.2.2.2.2.1.1.1 a _ (rx_kinds_at a e2)
  refine W.newcK hF.1 hF.2.1 hF.2.2.2.1 (hts _ w1) (hts _ w2) (hts _ w3) rfl (rx_dec hdec rfl) hc hs hKn.2.1 rfl fun H1 kC hkC g1 g2 g3 => hW H1 ⟨_, rx_kinds_at a e2, (u_born (rx_ty a) hts (rx_lays a e2) hKn hkC g1 (rx_ty_ok a e2)).to ?_⟩ g2 g3
  intro j hj
  exact rx_df_ok a e2 j hj
theorem rx_s_newarray {mi pc : Nat} {ls st : List Value} {h : rx_H} {Q : Option Value → rx_H → Prop} {nx a b' k : Nat} {v : Value} {o : rx_O} {t : ArrayType} (hm : mi < 173) (hdec : decode (rx_cc mi) pc = .ok (.newarray t, nx - pc)) (hsh : rx_shape mi pc (.newarray t, nx, a, b', k, v) = true) (hneed : ∀ w ∈ rx_need mi (.newarray t, nx, a, b', k, v), w ∈ rx_g)
    (ho1 : rx_res rx_cn (.newarray t, nx, a, b', k, v) pc ls st h = some o) (ho2 : rx_dis o (fun pc' ls' st' h' => rx_P l dC dI dA b bs L xs mi pc' ls' st' h' Q) (rx_Cg (rx_P l dC dI dA b bs L xs)) Q ls h) : rx_P l dC dI dA b bs L xs mi pc ls st h Q := by
  have h1 : (decide (nx = pc + 2) && (decide (t = .int ∧ a = 0) || decide (t = .byte ∧ a = 1))) = true := hsh
  simp only [Bool.and_eq_true, Bool.or_eq_true, decide_eq_true_eq] at h1
  obtain ⟨rfl, e2⟩ := h1
  have w1 : Cond.arrayClass (newarray.typeOf t) ∈ rx_g := hneed _ List.mem_cons_self
  obtain ⟨n, r, rfl, hn, hn2, rfl⟩ := rx_newa_inv ho1
  refine rx_P_mk (fun p e R s m args below meth c H locs lsA cells slots Z hF hD hc hs hW => ?_) ho2
  have hts := hF.2.2.2.2.1
  have hK := hF.2.2.2.2.2.1.1
  rcases e2 with ⟨rfl, rfl⟩ | ⟨rfl, rfl⟩
  · refine va_newaK (atype := .int) hF.1 hF.2.1 (hts _ w1) rfl (rx_dec hdec rfl) rfl hn rfl (by show n.toNatClampNeg * 4 ≤ _; omega) hc hs rfl fun H1 cA g1 g2 g3 g4 g5 => ?_
    have e5 : cA = dA 0 := Option.some.inj (g5.symm.trans (hK.2 0 _ rfl).2)
    subst e5
    exact hW H1 g1 g2 g3
  · refine va_newaK (atype := .byte) hF.1 hF.2.1 (hts _ w1) rfl (rx_dec hdec rfl) rfl hn rfl (by show n.toNatClampNeg * 1 ≤ _; omega) hc hs rfl fun H1 cA g1 g2 g3 g4 g5 => ?_
    have e5 : cA = dA 1 := Option.some.inj (g5.symm.trans (hK.2 1 _ rfl).2)
    subst e5
    exact hW H1 g1 g2 g3
theorem rx_s_anewarray {mi pc : Nat} {ls st : List Value} {h : rx_H} {Q : Option Value → rx_H → Prop} {nx a b' k : Nat} {v : Value} {o : rx_O} {x : Nat} (hm : mi < 173) (hdec : decode (rx_cc mi) pc = .ok (.anewarray x, nx - pc)) (hsh : rx_shape mi pc (.anewarray x, nx, a, b', k, v) = true) (hneed : ∀ w ∈ rx_need mi (.anewarray x, nx, a, b', k, v), w ∈ rx_g)
    (ho1 : rx_res rx_cn (.anewarray x, nx, a, b', k, v) pc ls st h = some o) (ho2 : rx_dis o (fun pc' ls' st' h' => rx_P l dC dI dA b bs L xs mi pc' ls' st' h' Q) (rx_Cg (rx_P l dC dI dA b bs L xs)) Q ls h) : rx_P l dC dI dA b bs L xs mi pc ls st h Q := by
  have h1 : (decide (nx = pc + 3) && decide (a = 2 ∨ a = 3)) = true := hsh
  simp only [Bool.and_eq_true, decide_eq_true_eq] at h1
  obtain ⟨rfl, e2⟩ := h1
  have w1 : Cond.classLink (rx_y mi).cls x (rx_Rn (rx_tc a)) ∈ rx_g := hneed _ List.mem_cons_self
  obtain ⟨n, r, rfl, hn, hn2, rfl⟩ := rx_anew_inv ho1
  refine rx_P_mk (fun p e R s m args below meth c H locs lsA cells slots Z hF hD hc hs hW => ?_) ho2
  have hts := hF.2.2.2.2.1
  have hK := hF.2.2.2.2.2.1
  have key : ∀ C : String, (Cond.classLink (rx_y mi).cls x C).before args s = true → va_AO C s → (rx_tys dA)[a]? = some (dA a, .object C) → W p l e R s m args below meth c H locs cells slots Z (F0 m pc lsA ((.int n :: r).map (rx_tv b bs))) := by
    intro C k1 k2 k3
    refine W.anew hF.1 hF.2.1 hF.2.2.2.1 k1 (va_AO.use k2) rfl (rx_dec hdec rfl) rfl hn (by omega) hc hs fun cA kA comp f1 f2 f3 f4 => ?_
    obtain ⟨_, _, -, -, -, z4⟩ := (hK.1.2 a _ k3).2
    have e5 : cA = dA a := Option.some.inj (f1.symm.trans z4)
    subst e5
    refine hW _ ?_ (by rw [Array.size_push]) (fun q hq => by rw [Array.getElem?_push, if_neg (Nat.ne_of_lt hq)])
    show (H.push _)[H.size]? = some (vp_cell (dA a) (n.toNatClampNeg, .inr (.inr (.inr (.inr (fun _ => none))))))
    rw [Array.getElem?_push_size, arrV_new]
    rfl
  rcases e2 with rfl | rfl
  · exact key RX4 (hts _ w1) hK.2.2.1 rfl
  · exact key RX1 (hts _ w1) hK.2.2.2 rfl
theorem rx_s_ldc {mi pc : Nat} {ls st : List Value} {h : rx_H} {Q : Option Value → rx_H → Prop} {nx a b' k : Nat} {v : Value} {o : rx_O} {x : Nat} (hx : rx_xs pc (.ldc x, nx, a, b', k, v) = true) (hm : mi < 173) (hdec : decode (rx_cc mi) pc = .ok (.ldc x, nx - pc)) (hsh : rx_shape mi pc (.ldc x, nx, a, b', k, v) = true) (hneed : ∀ w ∈ rx_need mi (.ldc x, nx, a, b', k, v), w ∈ rx_g)
    (ho1 : rx_res rx_cn (.ldc x, nx, a, b', k, v) pc ls st h = some o) (ho2 : rx_dis o (fun pc' ls' st' h' => rx_P l dC dI dA b bs L xs mi pc' ls' st' h' Q) (rx_Cg (rx_P l dC dI dA b bs L xs)) Q ls h) : rx_P l dC dI dA b bs L xs mi pc ls st h Q := by
  cases v with
  | int w =>
    have h1 : decide (nx = pc + 2) = true := hsh
    simp only [decide_eq_true_eq] at h1
    subst h1
    have hw : Cond.constant (rx_y mi).cls x w ∈ rx_g := hneed _ List.mem_cons_self
    cases ho1
    exact rx_P_st (fun p e R s m args below meth c H locs lsA cells slots Z hF hD hW => lv_ldc hF.1 hF.2.1 hF.2.2.2.1 (hF.2.2.2.2.1 _ hw) (rx_dec hdec rfl) hW) ho2
  | _ => exact (Bool.false_ne_true hx).elim
theorem rx_s_ldc_w {mi pc : Nat} {ls st : List Value} {h : rx_H} {Q : Option Value → rx_H → Prop} {nx a b' k : Nat} {v : Value} {o : rx_O} {x : Nat} (hx : rx_xs pc (.ldc_w x, nx, a, b', k, v) = true) (hm : mi < 173) (hdec : decode (rx_cc mi) pc = .ok (.ldc_w x, nx - pc)) (hsh : rx_shape mi pc (.ldc_w x, nx, a, b', k, v) = true) (hneed : ∀ w ∈ rx_need mi (.ldc_w x, nx, a, b', k, v), w ∈ rx_g)
    (ho1 : rx_res rx_cn (.ldc_w x, nx, a, b', k, v) pc ls st h = some o) (ho2 : rx_dis o (fun pc' ls' st' h' => rx_P l dC dI dA b bs L xs mi pc' ls' st' h' Q) (rx_Cg (rx_P l dC dI dA b bs L xs)) Q ls h) : rx_P l dC dI dA b bs L xs mi pc ls st h Q := by
  cases v with
  | int w =>
    have h1 : decide (nx = pc + 3) = true := hsh
    simp only [decide_eq_true_eq] at h1
    subst h1
    have hw : Cond.constant (rx_y mi).cls x w ∈ rx_g := hneed _ List.mem_cons_self
    cases ho1
    exact rx_P_st (fun p e R s m args below meth c H locs lsA cells slots Z hF hD hW => lv_ldcw hF.1 hF.2.1 hF.2.2.2.1 (hF.2.2.2.2.1 _ hw) (rx_dec hdec rfl) hW) ho2
  | _ => exact (Bool.false_ne_true hx).elim
theorem rx_s_ldc2_w {mi pc : Nat} {ls st : List Value} {h : rx_H} {Q : Option Value → rx_H → Prop} {nx a b' k : Nat} {v : Value} {o : rx_O} {x : Nat} (hx : rx_xs pc (.ldc2_w x, nx, a, b', k, v) = true) (hm : mi < 173) (hdec : decode (rx_cc mi) pc = .ok (.ldc2_w x, nx - pc)) (hsh : rx_shape mi pc (.ldc2_w x, nx, a, b', k, v) = true) (hneed : ∀ w ∈ rx_need mi (.ldc2_w x, nx, a, b', k, v), w ∈ rx_g)
    (ho1 : rx_res rx_cn (.ldc2_w x, nx, a, b', k, v) pc ls st h = some o) (ho2 : rx_dis o (fun pc' ls' st' h' => rx_P l dC dI dA b bs L xs mi pc' ls' st' h' Q) (rx_Cg (rx_P l dC dI dA b bs L xs)) Q ls h) : rx_P l dC dI dA b bs L xs mi pc ls st h Q := by
  cases v with
  | long w =>
    have h1 : decide (nx = pc + 3) = true := hsh
    simp only [decide_eq_true_eq] at h1
    subst h1
    have hw : Cond.constantLong (rx_y mi).cls x w ∈ rx_g := hneed _ List.mem_cons_self
    cases ho1
    exact rx_P_st (fun p e R s m args below meth c H locs lsA cells slots Z hF hD hW => lv_ldc2 hF.1 hF.2.1 hF.2.2.2.1 (hF.2.2.2.2.1 _ hw) (rx_dec hdec rfl) hW) ho2
  | _ => exact (Bool.false_ne_true hx).elim
theorem rx_s_ireturn {mi pc : Nat} {ls st : List Value} {h : rx_H} {Q : Option Value → rx_H → Prop} {nx a b' k : Nat} {v : Value} {o : rx_O} (hm : mi < 173) (hdec : decode (rx_cc mi) pc = .ok (.ireturn, nx - pc)) (hsh : rx_shape mi pc (.ireturn, nx, a, b', k, v) = true) (hneed : ∀ w ∈ rx_need mi (.ireturn, nx, a, b', k, v), w ∈ rx_g)
    (ho1 : rx_res rx_cn (.ireturn, nx, a, b', k, v) pc ls st h = some o) (ho2 : rx_dis o (fun pc' ls' st' h' => rx_P l dC dI dA b bs L xs mi pc' ls' st' h' Q) (rx_Cg (rx_P l dC dI dA b bs L xs)) Q ls h) : rx_P l dC dI dA b bs L xs mi pc ls st h Q := by
  have h1 : (decide (nx = pc + 1) && (decide (k = 0 ∧ rx_rt mi = some .int) || decide (k = 1 ∧ rx_rt mi = some .boolean))) = true := hsh
  simp only [Bool.and_eq_true, Bool.or_eq_true, decide_eq_true_eq] at h1
  obtain ⟨rfl, e2⟩ := h1
  have ho3 : (match (generalizing := false) st with
    | [.int x] => if decide (k = 0) || decide (x = 0) || decide (x = 1) then some (.inr (.inr (some (.int x)))) else none
    | _ => none : Option rx_O) = some o := ho1
  split at ho3
  · next x =>
    split at ho3
    · next hb =>
      cases ho3
      simp only [Bool.or_eq_true, decide_eq_true_eq] at hb
      refine ⟨⟨_, h, ho2, Nat.le_refl _, Nat.le_refl _⟩, fun p e R s m args below meth c H locs lsA cells slots n0 m0 Z hF hD hc hsl hroom hend => ?_⟩
      have := hend _ h H locs pc lsA ho2 hD.1 hD.2.1 hD.2.2.1 (by omega) (by omega) ⟨rx_dec hdec rfl, by
        rcases e2 with ⟨z1, z2⟩ | ⟨z1, z2⟩
        · exact Or.inl z2
        · rcases hb with (z | z) | z
          · omega
          · exact Or.inr ⟨z2, Or.inl z⟩
          · exact Or.inr ⟨z2, Or.inr z⟩⟩
      rw [show h.1 - n0 = cells by omega, show h.2.1 - m0 = slots by omega] at this
      exact this
    · cases ho3
  · cases ho3
theorem rx_s_lreturn {mi pc : Nat} {ls st : List Value} {h : rx_H} {Q : Option Value → rx_H → Prop} {nx a b' k : Nat} {v : Value} {o : rx_O} (hm : mi < 173) (hdec : decode (rx_cc mi) pc = .ok (.lreturn, nx - pc)) (hsh : rx_shape mi pc (.lreturn, nx, a, b', k, v) = true) (hneed : ∀ w ∈ rx_need mi (.lreturn, nx, a, b', k, v), w ∈ rx_g)
    (ho1 : rx_res rx_cn (.lreturn, nx, a, b', k, v) pc ls st h = some o) (ho2 : rx_dis o (fun pc' ls' st' h' => rx_P l dC dI dA b bs L xs mi pc' ls' st' h' Q) (rx_Cg (rx_P l dC dI dA b bs L xs)) Q ls h) : rx_P l dC dI dA b bs L xs mi pc ls st h Q := by
  have h1 : (decide (nx = pc + 1) && decide (rx_rt mi = some .long)) = true := hsh
  simp only [Bool.and_eq_true, decide_eq_true_eq] at h1
  obtain ⟨rfl, e2⟩ := h1
  have ho3 : (match (generalizing := false) st with
    | [.long x] => some (.inr (.inr (some (.long x))))
    | _ => none : Option rx_O) = some o := ho1
  split at ho3
  · next x =>
    cases ho3
    refine ⟨⟨_, h, ho2, Nat.le_refl _, Nat.le_refl _⟩, fun p e R s m args below meth c H locs lsA cells slots n0 m0 Z hF hD hc hsl hroom hend => ?_⟩
    have := hend _ h H locs pc lsA ho2 hD.1 hD.2.1 hD.2.2.1 (by omega) (by omega) ⟨rx_dec hdec rfl, e2⟩
    rw [show h.1 - n0 = cells by omega, show h.2.1 - m0 = slots by omega] at this
    exact this
  · cases ho3
theorem rx_s_return_ {mi pc : Nat} {ls st : List Value} {h : rx_H} {Q : Option Value → rx_H → Prop} {nx a b' k : Nat} {v : Value} {o : rx_O} (hm : mi < 173) (hdec : decode (rx_cc mi) pc = .ok (.return_, nx - pc)) (hsh : rx_shape mi pc (.return_, nx, a, b', k, v) = true) (hneed : ∀ w ∈ rx_need mi (.return_, nx, a, b', k, v), w ∈ rx_g)
    (ho1 : rx_res rx_cn (.return_, nx, a, b', k, v) pc ls st h = some o) (ho2 : rx_dis o (fun pc' ls' st' h' => rx_P l dC dI dA b bs L xs mi pc' ls' st' h' Q) (rx_Cg (rx_P l dC dI dA b bs L xs)) Q ls h) : rx_P l dC dI dA b bs L xs mi pc ls st h Q := by
  have h1 : (decide (nx = pc + 1) && decide (rx_rt mi = none)) = true := hsh
  simp only [Bool.and_eq_true, decide_eq_true_eq] at h1
  obtain ⟨rfl, e2⟩ := h1
  have ho3 : (match (generalizing := false) st with
    | [] => some (.inr (.inr (none)))
    | _ => none : Option rx_O) = some o := ho1
  split at ho3
  · skip
    cases ho3
    refine ⟨⟨_, h, ho2, Nat.le_refl _, Nat.le_refl _⟩, fun p e R s m args below meth c H locs lsA cells slots n0 m0 Z hF hD hc hsl hroom hend => ?_⟩
    have := hend _ h H locs pc lsA ho2 hD.1 hD.2.1 hD.2.2.1 (by omega) (by omega) ⟨rx_dec hdec rfl, e2⟩
    rw [show h.1 - n0 = cells by omega, show h.2.1 - m0 = slots by omega] at this
    exact this
  · cases ho3
theorem rx_s_areturn {mi pc : Nat} {ls st : List Value} {h : rx_H} {Q : Option Value → rx_H → Prop} {nx a b' k : Nat} {v : Value} {o : rx_O} (hm : mi < 173) (hdec : decode (rx_cc mi) pc = .ok (.areturn, nx - pc)) (hsh : rx_shape mi pc (.areturn, nx, a, b', k, v) = true) (hneed : ∀ w ∈ rx_need mi (.areturn, nx, a, b', k, v), w ∈ rx_g)
    (ho1 : rx_res rx_cn (.areturn, nx, a, b', k, v) pc ls st h = some o) (ho2 : rx_dis o (fun pc' ls' st' h' => rx_P l dC dI dA b bs L xs mi pc' ls' st' h' Q) (rx_Cg (rx_P l dC dI dA b bs L xs)) Q ls h) : rx_P l dC dI dA b bs L xs mi pc ls st h Q := by
  have h1 : (decide (nx = pc + 1) && (match rx_rt mi with
    | some (.object _) => true
    | some (.array _) => true
    | _ => false)) = true := hsh
  simp only [Bool.and_eq_true, decide_eq_true_eq] at h1
  obtain ⟨rfl, e0⟩ := h1
  have e2 : (∃ n, rx_rt mi = some (.object n)) ∨ ∃ t, rx_rt mi = some (.array t) := by
    split at e0
    · next n hn => exact Or.inl ⟨n, hn⟩
    · next n hn => exact Or.inr ⟨n, hn⟩
    · cases e0
  have ho3 : (match (generalizing := false) st with
    | [.ref x] => some (.inr (.inr (some (.ref x))))
    | _ => none : Option rx_O) = some o := ho1
  split at ho3
  · next x =>
    cases ho3
    refine ⟨⟨_, h, ho2, Nat.le_refl _, Nat.le_refl _⟩, fun p e R s m args below meth c H locs lsA cells slots n0 m0 Z hF hD hc hsl hroom hend => ?_⟩
    have := hend _ h H locs pc lsA ho2 hD.1 hD.2.1 hD.2.2.1 (by omega) (by omega) ⟨rx_dec hdec rfl, e2⟩
    rw [show h.1 - n0 = cells by omega, show h.2.1 - m0 = slots by omega] at this
    exact this
  · cases ho3
theorem rx_s_invokestatic {mi pc : Nat} {ls st : List Value} {h : rx_H} {Q : Option Value → rx_H → Prop} {nx a b' k : Nat} {v : Value} {o : rx_O} {x : Nat} (hm : mi < 173) (hdec : decode (rx_cc mi) pc = .ok (.invokestatic x, nx - pc)) (hsh : rx_shape mi pc (.invokestatic x, nx, a, b', k, v) = true) (hneed : ∀ w ∈ rx_need mi (.invokestatic x, nx, a, b', k, v), w ∈ rx_g)
    (ho1 : rx_res rx_cn (.invokestatic x, nx, a, b', k, v) pc ls st h = some o) (ho2 : rx_dis o (fun pc' ls' st' h' => rx_P l dC dI dA b bs L xs mi pc' ls' st' h' Q) (rx_Cg (rx_P l dC dI dA b bs L xs)) Q ls h) : rx_P l dC dI dA b bs L xs mi pc ls st h Q := by
  have h1 : (decide (nx = pc + 3) && (if k = 9 then decide (1 ≤ rx_fr mi) && decide (26 ≤ rx_lo mi) else if k = 7 then decide (1 ≤ rx_fr mi) && decide (21 ≤ rx_lo mi) else rx_cok mi a b' 0 && (decide (k = 0) || decide (Cond.methodLinkNest (rx_y mi).cls x (rx_y a) "BesideWalk" ∈ rx_nest)))) = true := hsh
  obtain ⟨h0, h1x⟩ := rx_and h1
  simp only [decide_eq_true_eq] at h0
  subst h0
  clear h1
  have h1 := h1x
  clear h1x
  have ho3 : (if k = 9 then rx_copy (pc + 3) ls st h else if k = 7 then rx_min (pc + 3) ls st h else rx_call a b' 0 0 (pc + 3) st h) = some o := ho1
  have hnd : ∀ w ∈ (if k = 9 then ([.methodLink (rx_y mi).cls x arraycopyName, .native arraycopyName, .static arraycopyName, .initialized "java/lang/System"] : List Cond) else if k = 7 then [.methodLink (rx_y mi).cls x Lib.Math.min.name, .static Lib.Math.min.name, .initialized "java/lang/Math"] else (if k = 0 then [.methodLink (rx_y mi).cls x (rx_y a)] else []) ++ [.static (rx_y a), .initialized (rx_y a).cls]), w ∈ rx_g := hneed
  by_cases hk9 : k = 9
  · rw [if_pos hk9] at h1 ho3 hnd
    simp only [Bool.and_eq_true, decide_eq_true_eq] at h1
    obtain ⟨n, dp, d, sp, i, r, t, n0, n1, f, g, rfl, hi, hd0, hr4, hr0, hr1, ht, c1, c2, c3, c4, c5, c6, rfl⟩ := rx_copy_inv ho3
    refine rx_P_wr hd0 (fun p e R s m args below meth c H locs lsA cells slots Z hF hD hW => ?_) ho2
    have hP0 : H[bs + i]? = some (vp_cell (dA t) (n0, .inl f)) := hD.1.2.2.2 i _ (Nat.pos_of_ne_zero hi) hr0
    have hP1 : H[bs + d]? = some (vp_cell (dA t) (n1, .inl g)) := hD.1.2.2.2 d _ (Nat.pos_of_ne_zero hd0) hr1
    have e9 : (.int n :: .int dp :: .ref d :: .int sp :: .ref i :: r).map (rx_tv b bs) = .int n :: .int dp :: .ref (bs + d) :: .int sp :: .ref (bs + i) :: r.map (rx_tv b bs) := by
      rw [List.map_cons, List.map_cons, rx_map_ref hd0, List.map_cons, rx_map_ref hi]; rfl
    rw [e9]
    have hcs := rx_cats (b := b) (bs := bs) r
    have hlo := hF.2.2.2.2.2.2.2.2.2.1
    have hfr := hF.2.2.2.2.2.2.2.2.1
    exact rx_Wcopy hF hD.2.2.2.1 (hnd _ (by simp)) (hnd _ (by simp)) (hnd _ (by simp)) (hnd _ (by simp)) ht hP0 hP1 c1 c2 c3 c4 c5 c6 (by omega) (by omega) (rx_dec hdec rfl) (fun H1 locs1 g1 g2 g3 g4 => hW H1 locs1 g1 g2 g3 g4)
  rw [if_neg hk9] at h1 ho3 hnd
  by_cases hk7 : k = 7
  · rw [if_pos hk7] at h1 ho3 hnd
    simp only [Bool.and_eq_true, decide_eq_true_eq] at h1
    unfold rx_min at ho3
    split at ho3
    · next y x' r =>
      split at ho3
      · next hr4 =>
        cases ho3
        refine rx_P_nx (h' := h) ⟨Nat.le_refl _, Nat.le_refl _⟩ (fun p e R s m args below meth c H locs lsA cells slots Z hF hD hcl hsl hW => ?_) ho2
        have hcs := rx_cats (b := b) (bs := bs) r
        have hlo := hF.2.2.2.2.2.2.2.2.2.1
        have hfr := hF.2.2.2.2.2.2.2.2.1
        have hts := hF.2.2.2.2.1
        have hW' := hW H locs lsA hD
        rw [Nat.sub_self, Nat.sub_self, Nat.add_zero, Nat.add_zero] at hW'
        exact va_mmin hF.1 hF.2.1 (hF.2.2.1.trans hD.2.2.2.1.symm) hF.2.2.2.1 (hts _ (hnd _ (by simp))) (hts _ (hnd _ (by simp))) (hts _ (hnd _ (by simp))) (hts _ rx_mincode) (by omega) (by omega) (by omega) (by omega) (rx_dec hdec rfl) hW'
      · cases ho3
    · cases ho3
  rw [if_neg hk7] at h1 ho3 hnd
  obtain ⟨hck, hnk⟩ := rx_and h1
  obtain ⟨ha, hfr, hlo, hnp⟩ := rx_cok_of hm hck
  obtain ⟨As, rest, rfl, hAl, hr4, rfl, hkd⟩ := rx_call_inv ho3
  have w2 : Cond.static (rx_y a) ∈ rx_g := hnd _ (by simp)
  have w3 : Cond.initialized (rx_y a).cls ∈ rx_g := hnd _ (by simp)
  obtain ⟨hl, rc, hc', hPa, hk⟩ := ho2
  have hmet := rx_met (l := l) (b := b) (bs := bs) (dC := dC) (dI := dI) (dA := dA) (L := L) (xs := xs)
  obtain ⟨⟨rq, hq, hQq, q1, q2⟩, hk⟩ := hk
  have hm1 : h.1 ≤ hc'.1 ∧ h.2.1 ≤ hc'.2.1 := by
    obtain ⟨⟨_, _, ⟨rfl, rfl⟩, z1, z2⟩, -⟩ := hPa
    exact ⟨z1, z2⟩
  refine ⟨⟨rq, hq, hQq, Nat.le_trans hm1.1 q1, Nat.le_trans hm1.2 q2⟩, fun p e R s m args below meth c H locs lsA cells slots n0 m0 Z hF hD hcl hsl hroom hend => ?_⟩
  have hrm := hroom rq hq hQq
  have hM := hmet hF.2.2.2.2.2.2.2.1 ha hl hPa
  have hfix : CallFix p m c (rx_cc mi) (rx_ml mi) s args rx_g (rx_y mi).cls := ⟨hF.1, hF.2.1, hF.2.2.1, hF.2.2.2.1, hF.2.2.2.2.1⟩
  have hts := hF.2.2.2.2.1
  have hcont : ∀ (H1 : Heap) (locs1 : List Loc), rx_G dC dI dA b bs L xs hc' H1 → (∀ q : Nat, q ≤ bs → H1[q]? = H[q]?) → (∀ q ∈ locs1, bs < q.base) → W p l e R s m args below meth c H1 locs1 (cells + (hc'.1 - h.1)) (slots + (hc'.2.1 - h.2.1)) Z (F0 m (pc + 3) lsA ((rc.map (rx_tv b bs)).toList ++ rest.map (rx_tv b bs))) := fun H1 locs1 g1 g2 g3 => by
    have := hk p e R s m args below meth c H1 locs1 lsA (cells + (hc'.1 - h.1)) (slots + (hc'.2.1 - h.2.1)) n0 m0 Z hF ⟨g1, fun q hq => (g2 q hq).trans (hD.2.1 q hq), g3, hD.2.2.2⟩ (by omega) (by omega) hroom hend
    have e9 : (rc.toList ++ rest).map (rx_tv b bs) = (rc.map (rx_tv b bs)).toList ++ rest.map (rx_tv b bs) := by cases rc <;> rfl
    rw [e9] at this
    exact this
  have est : (As.reverse ++ rest).map (rx_tv b bs) = (As.map (rx_tv b bs)).reverse ++ rest.map (rx_tv b bs) := by rw [List.map_append, List.map_reverse]
  rw [est]
  by_cases hk0 : k = 0
  · have w1 : Cond.methodLink (rx_y mi).cls x (rx_y a) ∈ rx_g := hnd _ (by simp [hk0])
    exact rx_Wcall (va_runS (As := As.map (rx_tv b bs)) (rest := rest.map (rx_tv b bs)) hfix hM ⟨rx_CB hF ha hfr hlo (n := b') (by omega) w3 (hts _ w1), hts _ w2⟩ ⟨rx_blind, rx_pre hF hD⟩ rfl (by rw [List.length_map]; exact hAl) hD.2.2.2.1 rfl (rx_room4 hr4) (rx_dec hdec rfl) ⟨by omega, by omega⟩) hD.2.2.1 hcont
  · have hn1 : Cond.methodLinkNest (rx_y mi).cls x (rx_y a) "BesideWalk" ∈ rx_nest := by simpa [hk0] using hnk
    exact rx_Wcall (va_runSN (As := As.map (rx_tv b bs)) (rest := rest.map (rx_tv b bs)) hfix hM ⟨rx_CN hF ha hfr hlo (n := b') (by omega) w3 (hF.2.2.2.2.2.1.2.1 _ hn1), hts _ w2, trivial⟩ ⟨rx_blind, rx_pre hF hD⟩ rfl (by rw [List.length_map]; exact hAl) hD.2.2.2.1 rfl (rx_room4 hr4) (rx_dec hdec rfl) ⟨by omega, by omega⟩) hD.2.2.1 hcont
theorem rx_s_invokespecial {mi pc : Nat} {ls st : List Value} {h : rx_H} {Q : Option Value → rx_H → Prop} {nx a b' k : Nat} {v : Value} {o : rx_O} {x : Nat} (hm : mi < 173) (hdec : decode (rx_cc mi) pc = .ok (.invokespecial x, nx - pc)) (hsh : rx_shape mi pc (.invokespecial x, nx, a, b', k, v) = true) (hneed : ∀ w ∈ rx_need mi (.invokespecial x, nx, a, b', k, v), w ∈ rx_g)
    (ho1 : rx_res rx_cn (.invokespecial x, nx, a, b', k, v) pc ls st h = some o) (ho2 : rx_dis o (fun pc' ls' st' h' => rx_P l dC dI dA b bs L xs mi pc' ls' st' h' Q) (rx_Cg (rx_P l dC dI dA b bs L xs)) Q ls h) : rx_P l dC dI dA b bs L xs mi pc ls st h Q := by
  have h1 : (decide (nx = pc + 3) && (if k = 8 then decide (1 ≤ rx_fr mi) && decide (20 ≤ rx_lo mi) else rx_cok mi a b' 1 && decide ((rx_y a).name = "<init>") && decide (rx_rt a = none) && (decide (k = 0) || decide (Cond.methodLinkNest (rx_y mi).cls x (rx_y a) "BesideWalk" ∈ rx_nest)))) = true := hsh
  obtain ⟨h0, h1x⟩ := rx_and h1
  simp only [decide_eq_true_eq] at h0
  subst h0
  clear h1
  have h1 := h1x
  clear h1x
  have ho3 : (if k = 8 then (match (generalizing := false) st with
    | .ref _ :: r => if r.length ≤ 4 then some (.inl (pc + 3, ls, r, h)) else none
    | _ => none) else rx_call a b' 2 0 (pc + 3) st h) = some o := ho1
  have hnd : ∀ w ∈ (if k = 8 then ([.methodLink (rx_y mi).cls x objectInit, .instanceMethod objectInit] : List Cond) else (if k = 0 then [.methodLink (rx_y mi).cls x (rx_y a)] else []) ++ [.instanceMethod (rx_y a), .initialized (rx_y a).cls]), w ∈ rx_g := hneed
  by_cases hk8 : k = 8
  · rw [if_pos hk8] at h1 ho3 hnd
    simp only [Bool.and_eq_true, decide_eq_true_eq] at h1
    split at ho3
    · next i r =>
      split at ho3
      · next hr4 =>
        cases ho3
        refine rx_P_st (fun p e R s m args below meth c H locs lsA cells slots Z hF hD hW => ?_) ho2
        have hcs := rx_cats (b := b) (bs := bs) r
        have hlo := hF.2.2.2.2.2.2.2.2.2.1
        have hfr := hF.2.2.2.2.2.2.2.2.1
        have hts := hF.2.2.2.2.1
        exact W.objInit (a := rx_ta b bs i) (rest := r.map (rx_tv b bs)) hF.1 hF.2.1 hF.2.2.2.1 (hts _ (hnd _ (by simp))) (hts _ (hnd _ (by simp))) (hts _ rx_obj) rfl (by rw [hF.2.2.1]; exact hD.2.2.2.1) rfl (rx_dec hdec rfl) (by omega) (by show 2 * 0 + _ + _ ≤ _; omega) hW
      · cases ho3
    · cases ho3
  rw [if_neg hk8] at h1 ho3 hnd
  obtain ⟨h1a, hnk⟩ := rx_and h1
  obtain ⟨h1b, hrt⟩ := rx_and h1a
  obtain ⟨hck, hnm⟩ := rx_and h1b
  simp only [decide_eq_true_eq] at hrt hnm
  obtain ⟨ha, hfr, hlo, hnp⟩ := rx_cok_of hm hck
  obtain ⟨As, rest, rfl, hAl, hr4, rfl, hkd⟩ := rx_call_inv ho3
  obtain ⟨i, Bs, rfl, hi⟩ : ∃ i Bs, As = .ref i :: Bs ∧ ¬ i = 0 := by
    rcases hkd with z | ⟨z, -⟩ | ⟨-, z⟩
    · cases z
    · cases z
    · exact z
  have w2 : Cond.instanceMethod (rx_y a) ∈ rx_g := hnd _ (by simp)
  have w3 : Cond.initialized (rx_y a).cls ∈ rx_g := hnd _ (by simp)
  obtain ⟨hl, rc, hc', hPa, hk⟩ := ho2
  have hmet := rx_met (l := l) (b := b) (bs := bs) (dC := dC) (dI := dI) (dA := dA) (L := L) (xs := xs)
  obtain ⟨⟨rq, hq, hQq, q1, q2⟩, hk⟩ := hk
  have hm1 : h.1 ≤ hc'.1 ∧ h.2.1 ≤ hc'.2.1 := by
    obtain ⟨⟨_, _, ⟨rfl, rfl⟩, z1, z2⟩, -⟩ := hPa
    exact ⟨z1, z2⟩
  refine ⟨⟨rq, hq, hQq, Nat.le_trans hm1.1 q1, Nat.le_trans hm1.2 q2⟩, fun p e R s m args below meth c H locs lsA cells slots n0 m0 Z hF hD hcl hsl hroom hend => ?_⟩
  have hrm := hroom rq hq hQq
  have hM := hmet hF.2.2.2.2.2.2.2.1 ha hl hPa
  have hfix : CallFix p m c (rx_cc mi) (rx_ml mi) s args rx_g (rx_y mi).cls := ⟨hF.1, hF.2.1, hF.2.2.1, hF.2.2.2.1, hF.2.2.2.2.1⟩
  have hts := hF.2.2.2.2.1
  have hcont : ∀ (H1 : Heap) (locs1 : List Loc), rx_G dC dI dA b bs L xs hc' H1 → (∀ q : Nat, q ≤ bs → H1[q]? = H[q]?) → (∀ q ∈ locs1, bs < q.base) → W p l e R s m args below meth c H1 locs1 (cells + (hc'.1 - h.1)) (slots + (hc'.2.1 - h.2.1)) Z (F0 m (pc + 3) lsA ((rc.map (rx_tv b bs)).toList ++ rest.map (rx_tv b bs))) := fun H1 locs1 g1 g2 g3 => by
    have := hk p e R s m args below meth c H1 locs1 lsA (cells + (hc'.1 - h.1)) (slots + (hc'.2.1 - h.2.1)) n0 m0 Z hF ⟨g1, fun q hq => (g2 q hq).trans (hD.2.1 q hq), g3, hD.2.2.2⟩ (by omega) (by omega) hroom hend
    have e9 : (rc.toList ++ rest).map (rx_tv b bs) = (rc.map (rx_tv b bs)).toList ++ rest.map (rx_tv b bs) := by cases rc <;> rfl
    rw [e9] at this
    exact this
  have est : ((.ref i :: Bs).reverse ++ rest).map (rx_tv b bs) = (Bs.map (rx_tv b bs)).reverse ++ .ref (rx_ta b bs i) :: rest.map (rx_tv b bs) := by
    rw [List.map_append, List.reverse_cons, List.map_append, List.map_reverse]
    simp [rx_tv]
  rw [est]
  have hlB : (Bs.map (rx_tv b bs)).length = rx_np a := by
    rw [List.length_map]
    rw [List.length_cons] at hAl
    omega
  by_cases hk0 : k = 0
  · have w1 : Cond.methodLink (rx_y mi).cls x (rx_y a) ∈ rx_g := hnd _ (by simp [hk0])
    have hcb := rx_CB (mc := hc'.1 - h.1) (ms := hc'.2.1 - h.2.1) hF ha hfr hlo (n := rx_np a) rfl w3 (hts _ w1)
    rw [hrt] at hcb
    exact rx_Wcall (va_runI (b := rx_ta b bs i) (As := Bs.map (rx_tv b bs)) (rest := rest.map (rx_tv b bs)) hfix hM ⟨hcb, hnm, hts _ w2⟩ ⟨rx_blind, rx_pre hF hD⟩ rfl hlB hD.2.2.2.1 rfl (rx_room4 hr4) (rx_dec hdec rfl) ⟨by omega, by omega⟩) hD.2.2.1 hcont
  · have hn1 : Cond.methodLinkNest (rx_y mi).cls x (rx_y a) "BesideWalk" ∈ rx_nest := by simpa [hk0] using hnk
    have hcb := rx_CN (mc := hc'.1 - h.1) (ms := hc'.2.1 - h.2.1) hF ha hfr hlo (n := rx_np a) rfl w3 (hF.2.2.2.2.2.1.2.1 _ hn1)
    rw [hrt] at hcb
    exact rx_Wcall (va_runIN (b := rx_ta b bs i) (As := Bs.map (rx_tv b bs)) (rest := rest.map (rx_tv b bs)) hfix hM ⟨hcb, hnm, hts _ w2⟩ ⟨rx_blind, rx_pre hF hD⟩ rfl hlB hD.2.2.2.1 rfl (rx_room4 hr4) (rx_dec hdec rfl) ⟨by omega, by omega⟩) hD.2.2.1 hcont
theorem rx_s_invokevirtual {mi pc : Nat} {ls st : List Value} {h : rx_H} {Q : Option Value → rx_H → Prop} {nx a b' k : Nat} {v : Value} {o : rx_O} {x : Nat} (hm : mi < 173) (hdec : decode (rx_cc mi) pc = .ok (.invokevirtual x, nx - pc)) (hsh : rx_shape mi pc (.invokevirtual x, nx, a, b', k, v) = true) (hneed : ∀ w ∈ rx_need mi (.invokevirtual x, nx, a, b', k, v), w ∈ rx_g)
    (ho1 : rx_res rx_cn (.invokevirtual x, nx, a, b', k, v) pc ls st h = some o) (ho2 : rx_dis o (fun pc' ls' st' h' => rx_P l dC dI dA b bs L xs mi pc' ls' st' h' Q) (rx_Cg (rx_P l dC dI dA b bs L xs)) Q ls h) : rx_P l dC dI dA b bs L xs mi pc ls st h Q := by
  have h1 : (decide (nx = pc + 3) && rx_cok mi a b' 1 && decide (rx_cn a < 9) && decide ((rx_y a).cls = rx_Rn (rx_cn a))) = true := hsh
  obtain ⟨h1a, hcl2⟩ := rx_and h1
  obtain ⟨h1b, hcn⟩ := rx_and h1a
  obtain ⟨h0, hck⟩ := rx_and h1b
  simp only [decide_eq_true_eq] at h0 hcl2 hcn
  subst h0
  obtain ⟨ha, hfr, hlo, hnp⟩ := rx_cok_of hm hck
  have w1 : Cond.methodLink (rx_y mi).cls x (rx_y a) ∈ rx_g := hneed _ List.mem_cons_self
  have w2 : Cond.instanceMethod (rx_y a) ∈ rx_g := hneed _ (List.mem_cons_of_mem _ List.mem_cons_self)
  have w4 : Cond.selects (rx_y a).cls (rx_y a) (rx_y a) ∈ rx_g := hneed _ (List.mem_cons_of_mem _ (List.mem_cons_of_mem _ List.mem_cons_self))
  have w3 : Cond.initialized (rx_y a).cls ∈ rx_g := hneed _ (List.mem_cons_of_mem _ (List.mem_cons_of_mem _ (List.mem_cons_of_mem _ List.mem_cons_self)))
  obtain ⟨As, rest, rfl, hAl, hr4, rfl, hkd⟩ := rx_call_inv (show rx_call a b' 1 (rx_cn a) (pc + 3) st h = some o from ho1)
  obtain ⟨i, Bs, fs, rfl, hi, hr⟩ : ∃ i Bs fs, As = .ref i :: Bs ∧ ¬ i = 0 ∧ rx_rd h i = some (.inr (rx_cn a, fs)) := by
    rcases hkd with z | ⟨-, z⟩ | ⟨z, -⟩
    · cases z
    · exact z
    · cases z
  obtain ⟨hl, rc, hc', hPa, hk⟩ := ho2
  have hmet := rx_met (l := l) (b := b) (bs := bs) (dC := dC) (dI := dI) (dA := dA) (L := L) (xs := xs)
  obtain ⟨⟨rq, hq, hQq, q1, q2⟩, hk⟩ := hk
  have hm1 : h.1 ≤ hc'.1 ∧ h.2.1 ≤ hc'.2.1 := by
    obtain ⟨⟨_, _, ⟨rfl, rfl⟩, z1, z2⟩, -⟩ := hPa
    exact ⟨z1, z2⟩
  refine ⟨⟨rq, hq, hQq, Nat.le_trans hm1.1 q1, Nat.le_trans hm1.2 q2⟩, fun p e R s m args below meth c H locs lsA cells slots n0 m0 Z hF hD hcl hsl hroom hend => ?_⟩
  have hrm := hroom rq hq hQq
  have hM := hmet hF.2.2.2.2.2.2.2.1 ha hl hPa
  have hfix : CallFix p m c (rx_cc mi) (rx_ml mi) s args rx_g (rx_y mi).cls := ⟨hF.1, hF.2.1, hF.2.2.1, hF.2.2.2.1, hF.2.2.2.2.1⟩
  have hts := hF.2.2.2.2.1
  have hcont : ∀ (H1 : Heap) (locs1 : List Loc), rx_G dC dI dA b bs L xs hc' H1 → (∀ q : Nat, q ≤ bs → H1[q]? = H[q]?) → (∀ q ∈ locs1, bs < q.base) → W p l e R s m args below meth c H1 locs1 (cells + (hc'.1 - h.1)) (slots + (hc'.2.1 - h.2.1)) Z (F0 m (pc + 3) lsA ((rc.map (rx_tv b bs)).toList ++ rest.map (rx_tv b bs))) := fun H1 locs1 g1 g2 g3 => by
    have := hk p e R s m args below meth c H1 locs1 lsA (cells + (hc'.1 - h.1)) (slots + (hc'.2.1 - h.2.1)) n0 m0 Z hF ⟨g1, fun q hq => (g2 q hq).trans (hD.2.1 q hq), g3, hD.2.2.2⟩ (by omega) (by omega) hroom hend
    have e9 : (rc.toList ++ rest).map (rx_tv b bs) = (rc.map (rx_tv b bs)).toList ++ rest.map (rx_tv b bs) := by cases rc <;> rfl
    rw [e9] at this
    exact this
  have est : ((.ref i :: Bs).reverse ++ rest).map (rx_tv b bs) = (Bs.map (rx_tv b bs)).reverse ++ .ref (rx_ta b bs i) :: rest.map (rx_tv b bs) := by
    rw [List.map_append, List.reverse_cons, List.map_append, List.map_reverse]
    simp [rx_tv]
  rw [est]
  have hlB : (Bs.map (rx_tv b bs)).length = rx_np a := by
    rw [List.length_map]
    rw [List.length_cons] at hAl
    omega
  have hrecv : ∃ cellB : Cell, H[rx_ta b bs i]? = some cellB ∧ cellB.vm.isStatics = false ∧ s.vm.findClass (rx_y a).cls = some cellB.cls := by
    rw [rx_ta_pos hi, hcl2]
    exact va_recv hF.2.2.2.2.2.1.1 (rx_Dy_at hD hi hr) (rx_kinds_at _ hcn) (q0 := 0) rfl
  exact rx_Wcall (va_runV (C := (rx_y a).cls) (b := rx_ta b bs i) (As := Bs.map (rx_tv b bs)) (rest := rest.map (rx_tv b bs)) hfix hM ⟨rx_CB hF ha hfr hlo (n := rx_np a) rfl w3 (hts _ w1), hts _ w2, hts _ w4⟩ ⟨rx_blind, hrecv, rx_pre hF hD⟩ rfl hlB hD.2.2.2.1 rfl (rx_room4 hr4) (rx_dec hdec rfl) ⟨by omega, by omega⟩) hD.2.2.1 hcont
end RXC
set_option maxHeartbeats 4000000 in
theorem rx_sound (l : Launch) (dC : Nat → ClassId) (dI : Nat → Nat → Nat) (dA : Nat → ClassId) (b bs L : Nat) (xs : Nat → Int32) : rx_cl (rx_P l dC dI dA b bs L xs) := by
  intro mi pc ls st h Q i hi ho
  obtain ⟨hm, hdec, hsh, hneed⟩ := rx_ok_of hi
  have hx := rx_xs_of hi
  obtain ⟨o, ho1, ho2⟩ := rx_op_some ho
  obtain ⟨ins, nx, a, b', k, v⟩ := i
  cases ins
  case iconst => exact rx_s_iconst hm hdec hsh hneed ho1 ho2
  case bipush => exact rx_s_bipush hm hdec hsh hneed ho1 ho2
  case sipush => exact rx_s_sipush hm hdec hsh hneed ho1 ho2
  case iload_n => exact rx_s_iload_n hm hdec hsh hneed ho1 ho2
  case iload => exact rx_s_iload hm hdec hsh hneed ho1 ho2
  case aload_n => exact rx_s_aload_n hm hdec hsh hneed ho1 ho2
  case aload => exact rx_s_aload hm hdec hsh hneed ho1 ho2
  case lload_n => exact rx_s_lload_n hm hdec hsh hneed ho1 ho2
  case lload => exact rx_s_lload hm hdec hsh hneed ho1 ho2
  case istore_n => exact rx_s_istore_n hm hdec hsh hneed ho1 ho2
  case istore => exact rx_s_istore hm hdec hsh hneed ho1 ho2
  case astore_n => exact rx_s_astore_n hm hdec hsh hneed ho1 ho2
  case astore => exact rx_s_astore hm hdec hsh hneed ho1 ho2
  case lstore_n => exact rx_s_lstore_n hm hdec hsh hneed ho1 ho2
  case lstore => exact rx_s_lstore hm hdec hsh hneed ho1 ho2
  case iinc => exact rx_s_iinc hm hdec hsh hneed ho1 ho2
  case iadd => exact rx_s_iadd hm hdec hsh hneed ho1 ho2
  case isub => exact rx_s_isub hm hdec hsh hneed ho1 ho2
  case imul => exact rx_s_imul hm hdec hsh hneed ho1 ho2
  case iand => exact rx_s_iand hm hdec hsh hneed ho1 ho2
  case ior => exact rx_s_ior hm hdec hsh hneed ho1 ho2
  case ixor => exact rx_s_ixor hm hdec hsh hneed ho1 ho2
  case ishl => exact rx_s_ishl hm hdec hsh hneed ho1 ho2
  case ishr => exact rx_s_ishr hm hdec hsh hneed ho1 ho2
  case iushr => exact rx_s_iushr hm hdec hsh hneed ho1 ho2
  case idiv => exact rx_s_idiv hm hdec hsh hneed ho1 ho2
  case irem => exact rx_s_irem hm hdec hsh hneed ho1 ho2
  case ladd => exact rx_s_ladd hm hdec hsh hneed ho1 ho2
  case lmul => exact rx_s_lmul hm hdec hsh hneed ho1 ho2
  case ineg => exact rx_s_ineg hm hdec hsh hneed ho1 ho2
  case i2l => exact rx_s_i2l hm hdec hsh hneed ho1 ho2
  case i2b => exact rx_s_i2b hm hdec hsh hneed ho1 ho2
  case lcmp => exact rx_s_lcmp hm hdec hsh hneed ho1 ho2
  case dup => exact rx_s_dup hm hdec hsh hneed ho1 ho2
  case pop => exact rx_s_pop hm hdec hsh hneed ho1 ho2
  case dup2 => exact rx_s_dup2 hm hdec hsh hneed ho1 ho2
  case goto => exact rx_s_goto hx hm hdec hsh hneed ho1 ho2
  case ifCond => exact rx_s_ifCond hm hdec hsh hneed ho1 ho2
  case if_icmp => exact rx_s_if_icmp hm hdec hsh hneed ho1 ho2
  case tableswitch => exact rx_s_tableswitch hm hdec hsh hneed ho1 ho2
  case getfield => exact rx_s_getfield hm hdec hsh hneed ho1 ho2
  case putfield => exact rx_s_putfield hm hdec hsh hneed ho1 ho2
  case iaload => exact rx_s_iaload hm hdec hsh hneed ho1 ho2
  case baload => exact rx_s_baload hm hdec hsh hneed ho1 ho2
  case iastore => exact rx_s_iastore hm hdec hsh hneed ho1 ho2
  case bastore => exact rx_s_bastore hm hdec hsh hneed ho1 ho2
  case aaload => exact rx_s_aaload hm hdec hsh hneed ho1 ho2
  case aastore => exact rx_s_aastore hm hdec hsh hneed ho1 ho2
  case arraylength => exact rx_s_arraylength hm hdec hsh hneed ho1 ho2
  case new => exact rx_s_new hm hdec hsh hneed ho1 ho2
  case newarray => exact rx_s_newarray hm hdec hsh hneed ho1 ho2
  case anewarray => exact rx_s_anewarray hm hdec hsh hneed ho1 ho2
  case ldc => exact rx_s_ldc hx hm hdec hsh hneed ho1 ho2
  case ldc_w => exact rx_s_ldc_w hx hm hdec hsh hneed ho1 ho2
  case ldc2_w => exact rx_s_ldc2_w hx hm hdec hsh hneed ho1 ho2
  case ireturn => exact rx_s_ireturn hm hdec hsh hneed ho1 ho2
  case lreturn => exact rx_s_lreturn hm hdec hsh hneed ho1 ho2
  case return_ => exact rx_s_return_ hm hdec hsh hneed ho1 ho2
  case areturn => exact rx_s_areturn hm hdec hsh hneed ho1 ho2
  case invokestatic => exact rx_s_invokestatic hm hdec hsh hneed ho1 ho2
  case invokespecial => exact rx_s_invokespecial hm hdec hsh hneed ho1 ho2
  case invokevirtual => exact rx_s_invokevirtual hm hdec hsh hneed ho1 ho2
  all_goals cases ho1
end
section
/-! ===== one instruction's row, for rewriting ===== -/
def rx_lx (o : Option Value) (f : Value → Prop) : Prop := match o with
  | some w => f w
  | none => False
def rx_fx (o : Option rx_C) (ci : Nat) (f : List Value → Prop) : Prop := match o with
  | some (.inr (c, fs)) => c = ci ∧ f fs
  | _ => False
def rx_ax (o : Option rx_C) (tg : Nat) (f : Nat → (Nat → Int32) → Prop) : Prop := match o with
  | some (.inl (t, n, .inl g)) => t = tg ∧ f n g
  | _ => False
def rx_qx (o : Option rx_C) (f : Nat → Nat → (Nat → Option Nat) → Prop) : Prop := match o with
  | some (.inl (t, n, .inr (.inr (.inr (.inr g))))) => (t = 2 ∨ t = 3) ∧ f t n g
  | _ => False
def rx_ox (o : Option Nat) (f : Nat → Prop) : Prop := match o with
  | some q => f q
  | none => False
def rx_vx (As : List Value) (cn : Nat) (h : rx_H) (P : Prop) : Prop := match As with
  | .ref i :: _ => ¬ i = 0 ∧ rx_fx (rx_rd h i) cn (fun _ => P)
  | _ => False
def rx_ix (As : List Value) (P : Prop) : Prop := match As with
  | .ref i :: _ => ¬ i = 0 ∧ P
  | _ => False
theorem rx_fx_some (c ci : Nat) (fs : List Value) (f : List Value → Prop) : rx_fx (some (.inr (c, fs))) ci f = (c = ci ∧ f fs) := rfl
theorem rx_ax_some (t tg n : Nat) (g : Nat → Int32) (f : Nat → (Nat → Int32) → Prop) : rx_ax (some (.inl (t, n, .inl g))) tg f = (t = tg ∧ f n g) := rfl
theorem rx_qx_some (t n : Nat) (g : Nat → Option Nat) (f : Nat → Nat → (Nat → Option Nat) → Prop) : rx_qx (some (.inl (t, n, .inr (.inr (.inr (.inr g)))))) f = ((t = 2 ∨ t = 3) ∧ f t n g) := rfl
theorem rx_ox_some (q : Nat) (f : Nat → Prop) : rx_ox (some q) f = f q := rfl
theorem rx_lx_some (w : Value) (f : Value → Prop) : rx_lx (some w) f = f w := rfl
theorem rx_vx_ref (i : Nat) (As : List Value) (cn : Nat) (h : rx_H) (P : Prop) : rx_vx (.ref i :: As) cn h P = (¬ i = 0 ∧ rx_fx (rx_rd h i) cn (fun _ => P)) := rfl
theorem rx_ix_ref (i : Nat) (As : List Value) (P : Prop) : rx_ix (.ref i :: As) P = (¬ i = 0 ∧ P) := rfl
theorem rx_ld_0 (x : Int32) : rx_ld 0 (some (.int x)) = some (.int x) := rfl
theorem rx_ld_2 (x : Nat) : rx_ld 2 (some (.ref x)) = some (.ref x) := rfl
theorem rx_ld_3 (x : Int64) : rx_ld 3 (some (.long x)) = some (.long x) := rfl
section RXST
variable (k : Nat) (S : List Nat) (mi pc nx a b kd : Nat) (v : Value) (ls r st : List Value) (h : rx_H) (Q : Option Value → rx_H → Prop)
theorem rx_w_iconst (n : Int) : rx_ow (some (.iconst n, nx, a, b, kd, v)) k S mi pc ls st h Q = (rx_nx k S mi nx ls (v :: st) h Q) := rfl
theorem rx_w_bipush (n : Int) : rx_ow (some (.bipush n, nx, a, b, kd, v)) k S mi pc ls st h Q = (rx_nx k S mi nx ls (v :: st) h Q) := rfl
theorem rx_w_sipush (n : Int) : rx_ow (some (.sipush n, nx, a, b, kd, v)) k S mi pc ls st h Q = (rx_nx k S mi nx ls (v :: st) h Q) := rfl
theorem rx_w_ldc (n : Nat) : rx_ow (some (.ldc n, nx, a, b, kd, v)) k S mi pc ls st h Q = (rx_nx k S mi nx ls (v :: st) h Q) := rfl
theorem rx_w_ldc_w (n : Nat) : rx_ow (some (.ldc_w n, nx, a, b, kd, v)) k S mi pc ls st h Q = (rx_nx k S mi nx ls (v :: st) h Q) := rfl
theorem rx_w_ldc2_w (n : Nat) : rx_ow (some (.ldc2_w n, nx, a, b, kd, v)) k S mi pc ls st h Q = (rx_nx k S mi nx ls (v :: st) h Q) := rfl
theorem rx_w_iload_n (j : Fin 4) : rx_ow (some (.iload_n j, nx, a, b, kd, v)) k S mi pc ls st h Q = (rx_lx (rx_ld 0 ls[a]?) (fun w => rx_nx k S mi nx ls (w :: st) h Q)) := by
  show rx_op _ _ _ _ _ _ _ _ = _
  unfold rx_op
  show (match rx_load 0 a nx ls st h with
    | none => False
    | some (.inl (pc', ls', st', h')) => rx_nx k S mi pc' ls' st' h' Q
    | some (.inr (.inl (a, As, rest, nx))) => rx_Cl a As h (fun r h' => rx_nx k S mi nx ls (r.toList ++ rest) h' Q)
    | some (.inr (.inr v)) => Q v h) = _
  unfold rx_load
  cases rx_ld 0 ls[a]? <;> rfl
theorem rx_w_iload (j : Nat) : rx_ow (some (.iload j, nx, a, b, kd, v)) k S mi pc ls st h Q = (rx_lx (rx_ld 0 ls[a]?) (fun w => rx_nx k S mi nx ls (w :: st) h Q)) := by
  show rx_op _ _ _ _ _ _ _ _ = _
  unfold rx_op
  show (match rx_load 0 a nx ls st h with
    | none => False
    | some (.inl (pc', ls', st', h')) => rx_nx k S mi pc' ls' st' h' Q
    | some (.inr (.inl (a, As, rest, nx))) => rx_Cl a As h (fun r h' => rx_nx k S mi nx ls (r.toList ++ rest) h' Q)
    | some (.inr (.inr v)) => Q v h) = _
  unfold rx_load
  cases rx_ld 0 ls[a]? <;> rfl
theorem rx_w_aload_n (j : Fin 4) : rx_ow (some (.aload_n j, nx, a, b, kd, v)) k S mi pc ls st h Q = (rx_lx (rx_ld 2 ls[a]?) (fun w => rx_nx k S mi nx ls (w :: st) h Q)) := by
  show rx_op _ _ _ _ _ _ _ _ = _
  unfold rx_op
  show (match rx_load 2 a nx ls st h with
    | none => False
    | some (.inl (pc', ls', st', h')) => rx_nx k S mi pc' ls' st' h' Q
    | some (.inr (.inl (a, As, rest, nx))) => rx_Cl a As h (fun r h' => rx_nx k S mi nx ls (r.toList ++ rest) h' Q)
    | some (.inr (.inr v)) => Q v h) = _
  unfold rx_load
  cases rx_ld 2 ls[a]? <;> rfl
theorem rx_w_aload (j : Nat) : rx_ow (some (.aload j, nx, a, b, kd, v)) k S mi pc ls st h Q = (rx_lx (rx_ld 2 ls[a]?) (fun w => rx_nx k S mi nx ls (w :: st) h Q)) := by
  show rx_op _ _ _ _ _ _ _ _ = _
  unfold rx_op
  show (match rx_load 2 a nx ls st h with
    | none => False
    | some (.inl (pc', ls', st', h')) => rx_nx k S mi pc' ls' st' h' Q
    | some (.inr (.inl (a, As, rest, nx))) => rx_Cl a As h (fun r h' => rx_nx k S mi nx ls (r.toList ++ rest) h' Q)
    | some (.inr (.inr v)) => Q v h) = _
  unfold rx_load
  cases rx_ld 2 ls[a]? <;> rfl
theorem rx_w_lload_n (j : Fin 4) : rx_ow (some (.lload_n j, nx, a, b, kd, v)) k S mi pc ls st h Q = (rx_lx (rx_ld 3 ls[a]?) (fun w => rx_nx k S mi nx ls (w :: st) h Q)) := by
  show rx_op _ _ _ _ _ _ _ _ = _
  unfold rx_op
  show (match rx_load 3 a nx ls st h with
    | none => False
    | some (.inl (pc', ls', st', h')) => rx_nx k S mi pc' ls' st' h' Q
    | some (.inr (.inl (a, As, rest, nx))) => rx_Cl a As h (fun r h' => rx_nx k S mi nx ls (r.toList ++ rest) h' Q)
    | some (.inr (.inr v)) => Q v h) = _
  unfold rx_load
  cases rx_ld 3 ls[a]? <;> rfl
theorem rx_w_lload (j : Nat) : rx_ow (some (.lload j, nx, a, b, kd, v)) k S mi pc ls st h Q = (rx_lx (rx_ld 3 ls[a]?) (fun w => rx_nx k S mi nx ls (w :: st) h Q)) := by
  show rx_op _ _ _ _ _ _ _ _ = _
  unfold rx_op
  show (match rx_load 3 a nx ls st h with
    | none => False
    | some (.inl (pc', ls', st', h')) => rx_nx k S mi pc' ls' st' h' Q
    | some (.inr (.inl (a, As, rest, nx))) => rx_Cl a As h (fun r h' => rx_nx k S mi nx ls (r.toList ++ rest) h' Q)
    | some (.inr (.inr v)) => Q v h) = _
  unfold rx_load
  cases rx_ld 3 ls[a]? <;> rfl
theorem rx_w_istore_n (j : Fin 4) (x : Int32) : rx_ow (some (.istore_n j, nx, a, b, kd, v)) k S mi pc ls (.int x :: r) h Q = ((a < ls.length ∧ rx_nl ls a = true) ∧ rx_nx k S mi nx (ls.set a (.int x)) r h Q) := by
  show rx_op _ _ _ _ _ _ _ _ = _
  unfold rx_op
  show (match rx_store 0 a nx ls (.int x :: r) h with
    | none => False
    | some (.inl (pc', ls', st', h')) => rx_nx k S mi pc' ls' st' h' Q
    | some (.inr (.inl (a, As, rest, nx))) => rx_Cl a As h (fun r h' => rx_nx k S mi nx ls (r.toList ++ rest) h' Q)
    | some (.inr (.inr v)) => Q v h) = _
  have e : rx_store 0 a nx ls (.int x :: r) h = if decide (a < ls.length) && rx_nl ls a then some (.inl (nx, ls.set a (.int x), r, h)) else none := rfl
  rw [e]
  by_cases hc : (decide (a < ls.length) && rx_nl ls a) = true
  · rw [if_pos hc]
    simp only [Bool.and_eq_true, decide_eq_true_eq] at hc
    simp only [hc, and_self, true_and]
  · rw [if_neg hc]
    simp only [Bool.and_eq_true, decide_eq_true_eq] at hc
    simp only [hc, false_and]
theorem rx_w_istore (j : Nat) (x : Int32) : rx_ow (some (.istore j, nx, a, b, kd, v)) k S mi pc ls (.int x :: r) h Q = ((a < ls.length ∧ rx_nl ls a = true) ∧ rx_nx k S mi nx (ls.set a (.int x)) r h Q) := by
  show rx_op _ _ _ _ _ _ _ _ = _
  unfold rx_op
  show (match rx_store 0 a nx ls (.int x :: r) h with
    | none => False
    | some (.inl (pc', ls', st', h')) => rx_nx k S mi pc' ls' st' h' Q
    | some (.inr (.inl (a, As, rest, nx))) => rx_Cl a As h (fun r h' => rx_nx k S mi nx ls (r.toList ++ rest) h' Q)
    | some (.inr (.inr v)) => Q v h) = _
  have e : rx_store 0 a nx ls (.int x :: r) h = if decide (a < ls.length) && rx_nl ls a then some (.inl (nx, ls.set a (.int x), r, h)) else none := rfl
  rw [e]
  by_cases hc : (decide (a < ls.length) && rx_nl ls a) = true
  · rw [if_pos hc]
    simp only [Bool.and_eq_true, decide_eq_true_eq] at hc
    simp only [hc, and_self, true_and]
  · rw [if_neg hc]
    simp only [Bool.and_eq_true, decide_eq_true_eq] at hc
    simp only [hc, false_and]
theorem rx_w_astore_n (j : Fin 4) (x : Nat) : rx_ow (some (.astore_n j, nx, a, b, kd, v)) k S mi pc ls (.ref x :: r) h Q = ((a < ls.length ∧ rx_nl ls a = true) ∧ rx_nx k S mi nx (ls.set a (.ref x)) r h Q) := by
  show rx_op _ _ _ _ _ _ _ _ = _
  unfold rx_op
  show (match rx_store 2 a nx ls (.ref x :: r) h with
    | none => False
    | some (.inl (pc', ls', st', h')) => rx_nx k S mi pc' ls' st' h' Q
    | some (.inr (.inl (a, As, rest, nx))) => rx_Cl a As h (fun r h' => rx_nx k S mi nx ls (r.toList ++ rest) h' Q)
    | some (.inr (.inr v)) => Q v h) = _
  have e : rx_store 2 a nx ls (.ref x :: r) h = if decide (a < ls.length) && rx_nl ls a then some (.inl (nx, ls.set a (.ref x), r, h)) else none := rfl
  rw [e]
  by_cases hc : (decide (a < ls.length) && rx_nl ls a) = true
  · rw [if_pos hc]
    simp only [Bool.and_eq_true, decide_eq_true_eq] at hc
    simp only [hc, and_self, true_and]
  · rw [if_neg hc]
    simp only [Bool.and_eq_true, decide_eq_true_eq] at hc
    simp only [hc, false_and]
theorem rx_w_astore (j : Nat) (x : Nat) : rx_ow (some (.astore j, nx, a, b, kd, v)) k S mi pc ls (.ref x :: r) h Q = ((a < ls.length ∧ rx_nl ls a = true) ∧ rx_nx k S mi nx (ls.set a (.ref x)) r h Q) := by
  show rx_op _ _ _ _ _ _ _ _ = _
  unfold rx_op
  show (match rx_store 2 a nx ls (.ref x :: r) h with
    | none => False
    | some (.inl (pc', ls', st', h')) => rx_nx k S mi pc' ls' st' h' Q
    | some (.inr (.inl (a, As, rest, nx))) => rx_Cl a As h (fun r h' => rx_nx k S mi nx ls (r.toList ++ rest) h' Q)
    | some (.inr (.inr v)) => Q v h) = _
  have e : rx_store 2 a nx ls (.ref x :: r) h = if decide (a < ls.length) && rx_nl ls a then some (.inl (nx, ls.set a (.ref x), r, h)) else none := rfl
  rw [e]
  by_cases hc : (decide (a < ls.length) && rx_nl ls a) = true
  · rw [if_pos hc]
    simp only [Bool.and_eq_true, decide_eq_true_eq] at hc
    simp only [hc, and_self, true_and]
  · rw [if_neg hc]
    simp only [Bool.and_eq_true, decide_eq_true_eq] at hc
    simp only [hc, false_and]
theorem rx_w_lstore_n (j : Fin 4) (x : Int64) : rx_ow (some (.lstore_n j, nx, a, b, kd, v)) k S mi pc ls (.long x :: r) h Q = ((a + 1 < ls.length ∧ rx_nl ls a = true) ∧ rx_nx k S mi nx ((ls.set a (.long x)).set (a + 1) .null) r h Q) := by
  show rx_op _ _ _ _ _ _ _ _ = _
  unfold rx_op
  show (match rx_lstore a nx ls (.long x :: r) h with
    | none => False
    | some (.inl (pc', ls', st', h')) => rx_nx k S mi pc' ls' st' h' Q
    | some (.inr (.inl (a, As, rest, nx))) => rx_Cl a As h (fun r h' => rx_nx k S mi nx ls (r.toList ++ rest) h' Q)
    | some (.inr (.inr v)) => Q v h) = _
  have e : rx_lstore a nx ls (.long x :: r) h = if decide (a + 1 < ls.length) && rx_nl ls a then some (.inl (nx, (ls.set a (.long x)).set (a + 1) .null, r, h)) else none := rfl
  rw [e]
  by_cases hc : (decide (a + 1 < ls.length) && rx_nl ls a) = true
  · rw [if_pos hc]
    simp only [Bool.and_eq_true, decide_eq_true_eq] at hc
    simp only [hc, and_self, true_and]
  · rw [if_neg hc]
    simp only [Bool.and_eq_true, decide_eq_true_eq] at hc
    simp only [hc, false_and]
theorem rx_w_lstore (j : Nat) (x : Int64) : rx_ow (some (.lstore j, nx, a, b, kd, v)) k S mi pc ls (.long x :: r) h Q = ((a + 1 < ls.length ∧ rx_nl ls a = true) ∧ rx_nx k S mi nx ((ls.set a (.long x)).set (a + 1) .null) r h Q) := by
  show rx_op _ _ _ _ _ _ _ _ = _
  unfold rx_op
  show (match rx_lstore a nx ls (.long x :: r) h with
    | none => False
    | some (.inl (pc', ls', st', h')) => rx_nx k S mi pc' ls' st' h' Q
    | some (.inr (.inl (a, As, rest, nx))) => rx_Cl a As h (fun r h' => rx_nx k S mi nx ls (r.toList ++ rest) h' Q)
    | some (.inr (.inr v)) => Q v h) = _
  have e : rx_lstore a nx ls (.long x :: r) h = if decide (a + 1 < ls.length) && rx_nl ls a then some (.inl (nx, (ls.set a (.long x)).set (a + 1) .null, r, h)) else none := rfl
  rw [e]
  by_cases hc : (decide (a + 1 < ls.length) && rx_nl ls a) = true
  · rw [if_pos hc]
    simp only [Bool.and_eq_true, decide_eq_true_eq] at hc
    simp only [hc, and_self, true_and]
  · rw [if_neg hc]
    simp only [Bool.and_eq_true, decide_eq_true_eq] at hc
    simp only [hc, false_and]
def rx_cx (o : Option Value) (f : Int32 → Prop) : Prop := match o with
  | some (.int x) => f x
  | _ => False
theorem rx_cx_some (x : Int32) (f : Int32 → Prop) : rx_cx (some (.int x)) f = f x := rfl
theorem rx_w_iinc (j : Nat) (n : Int) (y : Int32) : rx_ow (some (.iinc j n, nx, a, b, kd, .int y)) k S mi pc ls st h Q = (rx_cx ls[a]? (fun x => rx_nl ls a = true ∧ rx_nx k S mi nx (ls.set a (.int (x + y))) st h Q)) := by
  show rx_op _ _ _ _ _ _ _ _ = _
  unfold rx_op
  show (match rx_iinc a nx y ls st h with
    | none => False
    | some (.inl (pc', ls', st', h')) => rx_nx k S mi pc' ls' st' h' Q
    | some (.inr (.inl (a, As, rest, nx))) => rx_Cl a As h (fun r h' => rx_nx k S mi nx ls (r.toList ++ rest) h' Q)
    | some (.inr (.inr v)) => Q v h) = _
  unfold rx_iinc rx_cx
  cases hl : ls[a]? with
  | none => rfl
  | some w =>
    cases w with
    | int x =>
      dsimp only
      cases hn : rx_nl ls a <;> simp
    | _ => rfl
theorem rx_w_iadd (x y : Int32) : rx_ow (some (.iadd, nx, a, b, kd, v)) k S mi pc ls (.int y :: .int x :: r) h Q = (rx_nx k S mi nx ls (.int (x + y) :: r) h Q) := rfl
theorem rx_w_isub (x y : Int32) : rx_ow (some (.isub, nx, a, b, kd, v)) k S mi pc ls (.int y :: .int x :: r) h Q = (rx_nx k S mi nx ls (.int (x - y) :: r) h Q) := rfl
theorem rx_w_imul (x y : Int32) : rx_ow (some (.imul, nx, a, b, kd, v)) k S mi pc ls (.int y :: .int x :: r) h Q = (rx_nx k S mi nx ls (.int (x * y) :: r) h Q) := rfl
theorem rx_w_iand (x y : Int32) : rx_ow (some (.iand, nx, a, b, kd, v)) k S mi pc ls (.int y :: .int x :: r) h Q = (rx_nx k S mi nx ls (.int (x &&& y) :: r) h Q) := rfl
theorem rx_w_ior (x y : Int32) : rx_ow (some (.ior, nx, a, b, kd, v)) k S mi pc ls (.int y :: .int x :: r) h Q = (rx_nx k S mi nx ls (.int (x ||| y) :: r) h Q) := rfl
theorem rx_w_ixor (x y : Int32) : rx_ow (some (.ixor, nx, a, b, kd, v)) k S mi pc ls (.int y :: .int x :: r) h Q = (rx_nx k S mi nx ls (.int (x ^^^ y) :: r) h Q) := rfl
theorem rx_w_ishl (x y : Int32) : rx_ow (some (.ishl, nx, a, b, kd, v)) k S mi pc ls (.int y :: .int x :: r) h Q = (rx_nx k S mi nx ls (.int (x <<< (y &&& 31)) :: r) h Q) := rfl
theorem rx_w_ishr (x y : Int32) : rx_ow (some (.ishr, nx, a, b, kd, v)) k S mi pc ls (.int y :: .int x :: r) h Q = (rx_nx k S mi nx ls (.int (x >>> (y &&& 31)) :: r) h Q) := rfl
theorem rx_w_iushr (x y : Int32) : rx_ow (some (.iushr, nx, a, b, kd, v)) k S mi pc ls (.int y :: .int x :: r) h Q = (rx_nx k S mi nx ls (.int ((x.toUInt32 >>> (y.toUInt32 &&& Int32.toUInt32 31)).toInt32) :: r) h Q) := rfl
theorem rx_w_idiv (x y : Int32) : rx_ow (some (.idiv, nx, a, b, kd, v)) k S mi pc ls (.int y :: .int x :: r) h Q = (¬ y = 0 ∧ rx_nx k S mi nx ls (.int (x / y) :: r) h Q) := by
  show rx_op _ _ _ _ _ _ _ _ = _
  unfold rx_op
  show (match rx_b2z (fun x y => x / y) nx ls (.int y :: .int x :: r) h with
    | none => False
    | some (.inl (pc', ls', st', h')) => rx_nx k S mi pc' ls' st' h' Q
    | some (.inr (.inl (a, As, rest, nx))) => rx_Cl a As h (fun r h' => rx_nx k S mi nx ls (r.toList ++ rest) h' Q)
    | some (.inr (.inr v)) => Q v h) = _
  unfold rx_b2z
  by_cases hy : y = 0
  · simp [hy]
  · simp [hy]
theorem rx_w_irem (x y : Int32) : rx_ow (some (.irem, nx, a, b, kd, v)) k S mi pc ls (.int y :: .int x :: r) h Q = (¬ y = 0 ∧ rx_nx k S mi nx ls (.int (x - x / y * y) :: r) h Q) := by
  show rx_op _ _ _ _ _ _ _ _ = _
  unfold rx_op
  show (match rx_b2z (fun x y => x - x / y * y) nx ls (.int y :: .int x :: r) h with
    | none => False
    | some (.inl (pc', ls', st', h')) => rx_nx k S mi pc' ls' st' h' Q
    | some (.inr (.inl (a, As, rest, nx))) => rx_Cl a As h (fun r h' => rx_nx k S mi nx ls (r.toList ++ rest) h' Q)
    | some (.inr (.inr v)) => Q v h) = _
  unfold rx_b2z
  by_cases hy : y = 0
  · simp [hy]
  · simp [hy]
theorem rx_w_ladd (x y : Int64) : rx_ow (some (.ladd, nx, a, b, kd, v)) k S mi pc ls (.long y :: .long x :: r) h Q = (rx_nx k S mi nx ls (.long (x + y) :: r) h Q) := rfl
theorem rx_w_lmul (x y : Int64) : rx_ow (some (.lmul, nx, a, b, kd, v)) k S mi pc ls (.long y :: .long x :: r) h Q = (rx_nx k S mi nx ls (.long (x * y) :: r) h Q) := rfl
theorem rx_w_ineg (x : Int32) : rx_ow (some (.ineg, nx, a, b, kd, v)) k S mi pc ls (.int x :: r) h Q = (rx_nx k S mi nx ls (.int (-x) :: r) h Q) := rfl
theorem rx_w_i2l (x : Int32) : rx_ow (some (.i2l, nx, a, b, kd, v)) k S mi pc ls (.int x :: r) h Q = (rx_nx k S mi nx ls (.long x.toInt64 :: r) h Q) := rfl
theorem rx_w_i2b (x : Int32) : rx_ow (some (.i2b, nx, a, b, kd, v)) k S mi pc ls (.int x :: r) h Q = (rx_nx k S mi nx ls (.int x.toInt8.toInt32 :: r) h Q) := rfl
theorem rx_w_lcmp (x y : Int64) : rx_ow (some (.lcmp, nx, a, b, kd, v)) k S mi pc ls (.long y :: .long x :: r) h Q = (rx_nx k S mi nx ls (.int (lg_cmp x y) :: r) h Q) := rfl
theorem rx_w_dup_i (x : Int32) : rx_ow (some (.dup, nx, a, b, kd, v)) k S mi pc ls (.int x :: r) h Q = (rx_nx k S mi nx ls (.int x :: .int x :: r) h Q) := rfl
theorem rx_w_dup_r (x : Nat) : rx_ow (some (.dup, nx, a, b, kd, v)) k S mi pc ls (.ref x :: r) h Q = (rx_nx k S mi nx ls (.ref x :: .ref x :: r) h Q) := rfl
theorem rx_w_pop (x : Int32) : rx_ow (some (.pop, nx, a, b, kd, v)) k S mi pc ls (.int x :: r) h Q = (rx_nx k S mi nx ls (r) h Q) := rfl
theorem rx_w_dup2 (x : Int32) (y : Nat) : rx_ow (some (.dup2, nx, a, b, kd, v)) k S mi pc ls (.int x :: .ref y :: r) h Q = (rx_nx k S mi nx ls (.int x :: .ref y :: .int x :: .ref y :: r) h Q) := rfl
theorem rx_w_goto (n : Int) : rx_ow (some (.goto n, nx, a, b, kd, v)) k S mi pc ls st h Q = (rx_nx k S mi a ls st h Q) := rfl
theorem rx_w_icmp_eq (n : Int) (x y : Int32) : rx_ow (some (.if_icmp .eq n, nx, a, b, kd, v)) k S mi pc ls (.int y :: .int x :: r) h Q = (if x = y then rx_nx k S mi a ls r h Q else rx_nx k S mi nx ls r h Q) := by
  show rx_op _ _ _ _ _ _ _ _ = _
  unfold rx_op
  show (match rx_br (rx_cmpB .eq x y) a nx ls r h with
    | none => False
    | some (.inl (pc', ls', st', h')) => rx_nx k S mi pc' ls' st' h' Q
    | some (.inr (.inl (a, As, rest, nx))) => rx_Cl a As h (fun r h' => rx_nx k S mi nx ls (r.toList ++ rest) h' Q)
    | some (.inr (.inr v)) => Q v h) = _
  by_cases hc : x = y <;> simp [rx_br, rx_cmpB, hc]
theorem rx_w_if_eq (n : Int) (x : Int32) : rx_ow (some (.ifCond .eq n, nx, a, b, kd, v)) k S mi pc ls (.int x :: r) h Q = (if x = 0 then rx_nx k S mi a ls r h Q else rx_nx k S mi nx ls r h Q) := by
  show rx_op _ _ _ _ _ _ _ _ = _
  unfold rx_op
  show (match rx_br (rx_cmpB .eq x 0) a nx ls r h with
    | none => False
    | some (.inl (pc', ls', st', h')) => rx_nx k S mi pc' ls' st' h' Q
    | some (.inr (.inl (a, As, rest, nx))) => rx_Cl a As h (fun r h' => rx_nx k S mi nx ls (r.toList ++ rest) h' Q)
    | some (.inr (.inr v)) => Q v h) = _
  by_cases hc : x = 0 <;> simp [rx_br, rx_cmpB, hc]
theorem rx_w_icmp_ne (n : Int) (x y : Int32) : rx_ow (some (.if_icmp .ne n, nx, a, b, kd, v)) k S mi pc ls (.int y :: .int x :: r) h Q = (if x = y then rx_nx k S mi nx ls r h Q else rx_nx k S mi a ls r h Q) := by
  show rx_op _ _ _ _ _ _ _ _ = _
  unfold rx_op
  show (match rx_br (rx_cmpB .ne x y) a nx ls r h with
    | none => False
    | some (.inl (pc', ls', st', h')) => rx_nx k S mi pc' ls' st' h' Q
    | some (.inr (.inl (a, As, rest, nx))) => rx_Cl a As h (fun r h' => rx_nx k S mi nx ls (r.toList ++ rest) h' Q)
    | some (.inr (.inr v)) => Q v h) = _
  by_cases hc : x = y <;> simp [rx_br, rx_cmpB, hc]
theorem rx_w_if_ne (n : Int) (x : Int32) : rx_ow (some (.ifCond .ne n, nx, a, b, kd, v)) k S mi pc ls (.int x :: r) h Q = (if x = 0 then rx_nx k S mi nx ls r h Q else rx_nx k S mi a ls r h Q) := by
  show rx_op _ _ _ _ _ _ _ _ = _
  unfold rx_op
  show (match rx_br (rx_cmpB .ne x 0) a nx ls r h with
    | none => False
    | some (.inl (pc', ls', st', h')) => rx_nx k S mi pc' ls' st' h' Q
    | some (.inr (.inl (a, As, rest, nx))) => rx_Cl a As h (fun r h' => rx_nx k S mi nx ls (r.toList ++ rest) h' Q)
    | some (.inr (.inr v)) => Q v h) = _
  by_cases hc : x = 0 <;> simp [rx_br, rx_cmpB, hc]
theorem rx_w_icmp_lt (n : Int) (x y : Int32) : rx_ow (some (.if_icmp .lt n, nx, a, b, kd, v)) k S mi pc ls (.int y :: .int x :: r) h Q = (if x < y then rx_nx k S mi a ls r h Q else rx_nx k S mi nx ls r h Q) := by
  show rx_op _ _ _ _ _ _ _ _ = _
  unfold rx_op
  show (match rx_br (rx_cmpB .lt x y) a nx ls r h with
    | none => False
    | some (.inl (pc', ls', st', h')) => rx_nx k S mi pc' ls' st' h' Q
    | some (.inr (.inl (a, As, rest, nx))) => rx_Cl a As h (fun r h' => rx_nx k S mi nx ls (r.toList ++ rest) h' Q)
    | some (.inr (.inr v)) => Q v h) = _
  by_cases hc : x < y <;> simp [rx_br, rx_cmpB, hc]
theorem rx_w_if_lt (n : Int) (x : Int32) : rx_ow (some (.ifCond .lt n, nx, a, b, kd, v)) k S mi pc ls (.int x :: r) h Q = (if x < 0 then rx_nx k S mi a ls r h Q else rx_nx k S mi nx ls r h Q) := by
  show rx_op _ _ _ _ _ _ _ _ = _
  unfold rx_op
  show (match rx_br (rx_cmpB .lt x 0) a nx ls r h with
    | none => False
    | some (.inl (pc', ls', st', h')) => rx_nx k S mi pc' ls' st' h' Q
    | some (.inr (.inl (a, As, rest, nx))) => rx_Cl a As h (fun r h' => rx_nx k S mi nx ls (r.toList ++ rest) h' Q)
    | some (.inr (.inr v)) => Q v h) = _
  by_cases hc : x < 0 <;> simp [rx_br, rx_cmpB, hc]
theorem rx_w_icmp_ge (n : Int) (x y : Int32) : rx_ow (some (.if_icmp .ge n, nx, a, b, kd, v)) k S mi pc ls (.int y :: .int x :: r) h Q = (if y ≤ x then rx_nx k S mi a ls r h Q else rx_nx k S mi nx ls r h Q) := by
  show rx_op _ _ _ _ _ _ _ _ = _
  unfold rx_op
  show (match rx_br (rx_cmpB .ge x y) a nx ls r h with
    | none => False
    | some (.inl (pc', ls', st', h')) => rx_nx k S mi pc' ls' st' h' Q
    | some (.inr (.inl (a, As, rest, nx))) => rx_Cl a As h (fun r h' => rx_nx k S mi nx ls (r.toList ++ rest) h' Q)
    | some (.inr (.inr v)) => Q v h) = _
  by_cases hc : y ≤ x <;> simp [rx_br, rx_cmpB, hc]
theorem rx_w_if_ge (n : Int) (x : Int32) : rx_ow (some (.ifCond .ge n, nx, a, b, kd, v)) k S mi pc ls (.int x :: r) h Q = (if 0 ≤ x then rx_nx k S mi a ls r h Q else rx_nx k S mi nx ls r h Q) := by
  show rx_op _ _ _ _ _ _ _ _ = _
  unfold rx_op
  show (match rx_br (rx_cmpB .ge x 0) a nx ls r h with
    | none => False
    | some (.inl (pc', ls', st', h')) => rx_nx k S mi pc' ls' st' h' Q
    | some (.inr (.inl (a, As, rest, nx))) => rx_Cl a As h (fun r h' => rx_nx k S mi nx ls (r.toList ++ rest) h' Q)
    | some (.inr (.inr v)) => Q v h) = _
  by_cases hc : 0 ≤ x <;> simp [rx_br, rx_cmpB, hc]
theorem rx_w_icmp_gt (n : Int) (x y : Int32) : rx_ow (some (.if_icmp .gt n, nx, a, b, kd, v)) k S mi pc ls (.int y :: .int x :: r) h Q = (if y < x then rx_nx k S mi a ls r h Q else rx_nx k S mi nx ls r h Q) := by
  show rx_op _ _ _ _ _ _ _ _ = _
  unfold rx_op
  show (match rx_br (rx_cmpB .gt x y) a nx ls r h with
    | none => False
    | some (.inl (pc', ls', st', h')) => rx_nx k S mi pc' ls' st' h' Q
    | some (.inr (.inl (a, As, rest, nx))) => rx_Cl a As h (fun r h' => rx_nx k S mi nx ls (r.toList ++ rest) h' Q)
    | some (.inr (.inr v)) => Q v h) = _
  by_cases hc : y < x <;> simp [rx_br, rx_cmpB, hc]
theorem rx_w_if_gt (n : Int) (x : Int32) : rx_ow (some (.ifCond .gt n, nx, a, b, kd, v)) k S mi pc ls (.int x :: r) h Q = (if 0 < x then rx_nx k S mi a ls r h Q else rx_nx k S mi nx ls r h Q) := by
  show rx_op _ _ _ _ _ _ _ _ = _
  unfold rx_op
  show (match rx_br (rx_cmpB .gt x 0) a nx ls r h with
    | none => False
    | some (.inl (pc', ls', st', h')) => rx_nx k S mi pc' ls' st' h' Q
    | some (.inr (.inl (a, As, rest, nx))) => rx_Cl a As h (fun r h' => rx_nx k S mi nx ls (r.toList ++ rest) h' Q)
    | some (.inr (.inr v)) => Q v h) = _
  by_cases hc : 0 < x <;> simp [rx_br, rx_cmpB, hc]
theorem rx_w_icmp_le (n : Int) (x y : Int32) : rx_ow (some (.if_icmp .le n, nx, a, b, kd, v)) k S mi pc ls (.int y :: .int x :: r) h Q = (if x ≤ y then rx_nx k S mi a ls r h Q else rx_nx k S mi nx ls r h Q) := by
  show rx_op _ _ _ _ _ _ _ _ = _
  unfold rx_op
  show (match rx_br (rx_cmpB .le x y) a nx ls r h with
    | none => False
    | some (.inl (pc', ls', st', h')) => rx_nx k S mi pc' ls' st' h' Q
    | some (.inr (.inl (a, As, rest, nx))) => rx_Cl a As h (fun r h' => rx_nx k S mi nx ls (r.toList ++ rest) h' Q)
    | some (.inr (.inr v)) => Q v h) = _
  by_cases hc : x ≤ y <;> simp [rx_br, rx_cmpB, hc]
theorem rx_w_if_le (n : Int) (x : Int32) : rx_ow (some (.ifCond .le n, nx, a, b, kd, v)) k S mi pc ls (.int x :: r) h Q = (if x ≤ 0 then rx_nx k S mi a ls r h Q else rx_nx k S mi nx ls r h Q) := by
  show rx_op _ _ _ _ _ _ _ _ = _
  unfold rx_op
  show (match rx_br (rx_cmpB .le x 0) a nx ls r h with
    | none => False
    | some (.inl (pc', ls', st', h')) => rx_nx k S mi pc' ls' st' h' Q
    | some (.inr (.inl (a, As, rest, nx))) => rx_Cl a As h (fun r h' => rx_nx k S mi nx ls (r.toList ++ rest) h' Q)
    | some (.inr (.inr v)) => Q v h) = _
  by_cases hc : x ≤ 0 <;> simp [rx_br, rx_cmpB, hc]
theorem rx_w_tableswitch (d lo hi : Int) (offs : Array Int) (x : Int32) : rx_ow (some (.tableswitch d lo hi offs, nx, a, b, kd, v)) k S mi pc ls (.int x :: r) h Q = (rx_nx k S mi (rx_sw pc d lo hi offs x) ls r h Q) := rfl
theorem rx_w_getfield (n i : Nat) : rx_ow (some (.getfield n, nx, a, b, kd, v)) k S mi pc ls (.ref i :: r) h Q = (¬ i = 0 ∧ rx_fx (rx_rd h i) a (fun fs => rx_lx fs[b]? (fun w => rx_nx k S mi nx ls (w :: r) h Q))) := by
  show rx_op _ _ _ _ _ _ _ _ = _
  unfold rx_op
  show (match rx_get a b nx ls (.ref i :: r) h with
    | none => False
    | some (.inl (pc', ls', st', h')) => rx_nx k S mi pc' ls' st' h' Q
    | some (.inr (.inl (a, As, rest, nx))) => rx_Cl a As h (fun r h' => rx_nx k S mi nx ls (r.toList ++ rest) h' Q)
    | some (.inr (.inr v)) => Q v h) = _
  unfold rx_get rx_fx
  by_cases hi : i = 0
  · simp [hi]
  · simp only [hi, if_false, not_false_eq_true, true_and]
    split
    · next c fs hr =>
      by_cases hc : c = a
      · simp only [hc, if_true, true_and]
        cases fs[b]? <;> rfl
      · simp [hc]
    · rfl
theorem rx_w_putfield (n i : Nat) (w : Value) : rx_ow (some (.putfield n, nx, a, b, kd, v)) k S mi pc ls (w :: .ref i :: r) h Q = (¬ i = 0 ∧ rx_fx (rx_rd h i) a (fun fs => (rx_fit kd w = true ∧ b < fs.length) ∧ rx_nx k S mi nx ls r (rx_up h i (.inr (a, fs.set b w))) Q)) := by
  show rx_op _ _ _ _ _ _ _ _ = _
  unfold rx_op
  show (match rx_put a b kd nx ls (w :: .ref i :: r) h with
    | none => False
    | some (.inl (pc', ls', st', h')) => rx_nx k S mi pc' ls' st' h' Q
    | some (.inr (.inl (a, As, rest, nx))) => rx_Cl a As h (fun r h' => rx_nx k S mi nx ls (r.toList ++ rest) h' Q)
    | some (.inr (.inr v)) => Q v h) = _
  unfold rx_put rx_fx
  by_cases hi : i = 0
  · simp [hi]
  · simp only [hi, if_false, not_false_eq_true, true_and]
    split
    · next c fs hr =>
      by_cases hc : c = a
      · subst hc
        simp only [if_true, true_and]
        by_cases hb : rx_fit kd w = true ∧ b < fs.length
        · simp [hb]
        · have hb2 : ¬ (rx_fit kd w && decide (b < fs.length)) = true := by simpa using hb
          rw [if_neg hb2]
          simp only [hb, false_and]
      · simp [hc]
    · rfl
theorem rx_w_iaload (j : Int32) (i : Nat) : rx_ow (some (.iaload, nx, a, b, kd, v)) k S mi pc ls (.int j :: .ref i :: r) h Q = (rx_ax (rx_rd h i) 0 (fun n f => ¬ (j < 0 ∨ n ≤ j.toNatClampNeg) ∧ rx_nx k S mi nx ls (.int (f j.toNatClampNeg) :: r) h Q)) := by
  show rx_op _ _ _ _ _ _ _ _ = _
  unfold rx_op
  show (match rx_aload 0 nx ls (.int j :: .ref i :: r) h with
    | none => False
    | some (.inl (pc', ls', st', h')) => rx_nx k S mi pc' ls' st' h' Q
    | some (.inr (.inl (a, As, rest, nx))) => rx_Cl a As h (fun r h' => rx_nx k S mi nx ls (r.toList ++ rest) h' Q)
    | some (.inr (.inr v)) => Q v h) = _
  unfold rx_aload rx_ax
  split
  · next t n f hr =>
    by_cases ht : t = 0
    · subst ht
      simp only [if_true, true_and]
      by_cases hj : j < 0 ∨ n ≤ j.toNatClampNeg
      · rw [if_pos hj]; simp [hj]
      · rw [if_neg hj]; simp [hj]
    · simp [ht]
  · rfl
theorem rx_w_baload (j : Int32) (i : Nat) : rx_ow (some (.baload, nx, a, b, kd, v)) k S mi pc ls (.int j :: .ref i :: r) h Q = (¬ i = 0 ∧ rx_ax (rx_rd h i) 1 (fun n f => ¬ (j < 0 ∨ n ≤ j.toNatClampNeg) ∧ rx_nx k S mi nx ls (.int (f j.toNatClampNeg) :: r) h Q)) := by
  show rx_op _ _ _ _ _ _ _ _ = _
  unfold rx_op
  show (match if i = 0 then none else rx_aload 1 nx ls (.int j :: .ref i :: r) h with
    | none => False
    | some (.inl (pc', ls', st', h')) => rx_nx k S mi pc' ls' st' h' Q
    | some (.inr (.inl (a, As, rest, nx))) => rx_Cl a As h (fun r h' => rx_nx k S mi nx ls (r.toList ++ rest) h' Q)
    | some (.inr (.inr v)) => Q v h) = _
  by_cases hi : i = 0
  · simp [hi]
  · simp only [hi, if_false, not_false_eq_true, true_and]
    unfold rx_aload rx_ax
    split
    · next t n f hr =>
      by_cases ht : t = 1
      · subst ht
        simp only [if_true, true_and]
        by_cases hj : j < 0 ∨ n ≤ j.toNatClampNeg
        · rw [if_pos hj]; simp [hj]
        · rw [if_neg hj]; simp [hj]
      · simp [ht]
    · rfl
theorem rx_w_iastore (x j : Int32) (i : Nat) : rx_ow (some (.iastore, nx, a, b, kd, v)) k S mi pc ls (.int x :: .int j :: .ref i :: r) h Q = (¬ i = 0 ∧ rx_ax (rx_rd h i) 0 (fun n f => ¬ (j < 0 ∨ n ≤ j.toNatClampNeg) ∧ rx_nx k S mi nx ls r (rx_up h i (.inl (0, n, .inl (upd f j.toNatClampNeg (x))))) Q)) := by
  show rx_op _ _ _ _ _ _ _ _ = _
  unfold rx_op
  show (match rx_astore 0 nx (fun x => x) ls (.int x :: .int j :: .ref i :: r) h with
    | none => False
    | some (.inl (pc', ls', st', h')) => rx_nx k S mi pc' ls' st' h' Q
    | some (.inr (.inl (a, As, rest, nx))) => rx_Cl a As h (fun r h' => rx_nx k S mi nx ls (r.toList ++ rest) h' Q)
    | some (.inr (.inr v)) => Q v h) = _
  unfold rx_astore rx_ax
  by_cases hi : i = 0
  · simp [hi]
  · simp only [hi, if_false, not_false_eq_true, true_and]
    split
    · next t n f hr =>
      by_cases ht : t = 0
      · subst ht
        simp only [if_true, true_and]
        by_cases hj : j < 0 ∨ n ≤ j.toNatClampNeg
        · rw [if_pos hj]; simp [hj]
        · rw [if_neg hj]; simp [hj]
      · simp [ht]
    · rfl
theorem rx_w_bastore (x j : Int32) (i : Nat) : rx_ow (some (.bastore, nx, a, b, kd, v)) k S mi pc ls (.int x :: .int j :: .ref i :: r) h Q = (¬ i = 0 ∧ rx_ax (rx_rd h i) 1 (fun n f => ¬ (j < 0 ∨ n ≤ j.toNatClampNeg) ∧ rx_nx k S mi nx ls r (rx_up h i (.inl (1, n, .inl (upd f j.toNatClampNeg (x.toInt8.toInt32))))) Q)) := by
  show rx_op _ _ _ _ _ _ _ _ = _
  unfold rx_op
  show (match rx_astore 1 nx (fun x => x.toInt8.toInt32) ls (.int x :: .int j :: .ref i :: r) h with
    | none => False
    | some (.inl (pc', ls', st', h')) => rx_nx k S mi pc' ls' st' h' Q
    | some (.inr (.inl (a, As, rest, nx))) => rx_Cl a As h (fun r h' => rx_nx k S mi nx ls (r.toList ++ rest) h' Q)
    | some (.inr (.inr v)) => Q v h) = _
  unfold rx_astore rx_ax
  by_cases hi : i = 0
  · simp [hi]
  · simp only [hi, if_false, not_false_eq_true, true_and]
    split
    · next t n f hr =>
      by_cases ht : t = 1
      · subst ht
        simp only [if_true, true_and]
        by_cases hj : j < 0 ∨ n ≤ j.toNatClampNeg
        · rw [if_pos hj]; simp [hj]
        · rw [if_neg hj]; simp [hj]
      · simp [ht]
    · rfl
theorem rx_w_aaload (j : Int32) (i : Nat) : rx_ow (some (.aaload, nx, a, b, kd, v)) k S mi pc ls (.int j :: .ref i :: r) h Q = (¬ i = 0 ∧ rx_qx (rx_rd h i) (fun _ n f => ¬ (j < 0 ∨ n ≤ j.toNatClampNeg) ∧ rx_ox (f j.toNatClampNeg) (fun q => rx_nx k S mi nx ls (.ref q :: r) h Q))) := by
  show rx_op _ _ _ _ _ _ _ _ = _
  unfold rx_op
  show (match rx_aaload nx ls (.int j :: .ref i :: r) h with
    | none => False
    | some (.inl (pc', ls', st', h')) => rx_nx k S mi pc' ls' st' h' Q
    | some (.inr (.inl (a, As, rest, nx))) => rx_Cl a As h (fun r h' => rx_nx k S mi nx ls (r.toList ++ rest) h' Q)
    | some (.inr (.inr v)) => Q v h) = _
  unfold rx_aaload rx_qx
  by_cases hi : i = 0
  · simp [hi]
  · simp only [hi, if_false, not_false_eq_true, true_and]
    split
    · next t n f hr =>
      by_cases ht : t = 2 ∨ t = 3
      · simp only [ht, if_true, true_and]
        by_cases hj : j < 0 ∨ n ≤ j.toNatClampNeg
        · rw [if_pos hj]; simp [hj]
        · rw [if_neg hj]
          simp only [hj, not_false_eq_true, true_and]
          cases f j.toNatClampNeg <;> rfl
      · simp [ht]
    · rfl
theorem rx_w_aastore (j : Int32) (i q : Nat) : rx_ow (some (.aastore, nx, a, b, kd, v)) k S mi pc ls (.ref q :: .int j :: .ref i :: r) h Q = (¬ (i = 0 ∨ q = 0) ∧ rx_qx (rx_rd h i) (fun t n f => ¬ (j < 0 ∨ n ≤ j.toNatClampNeg) ∧ rx_fx (rx_rd h q) (rx_tc t) (fun _ => rx_nx k S mi nx ls r (rx_up h i (.inl (t, n, .inr (.inr (.inr (.inr (va_up f j.toNatClampNeg (some q)))))))) Q))) := by
  show rx_op _ _ _ _ _ _ _ _ = _
  unfold rx_op
  show (match rx_aastore nx ls (.ref q :: .int j :: .ref i :: r) h with
    | none => False
    | some (.inl (pc', ls', st', h')) => rx_nx k S mi pc' ls' st' h' Q
    | some (.inr (.inl (a, As, rest, nx))) => rx_Cl a As h (fun r h' => rx_nx k S mi nx ls (r.toList ++ rest) h' Q)
    | some (.inr (.inr v)) => Q v h) = _
  unfold rx_aastore rx_qx
  by_cases hi : i = 0 ∨ q = 0
  · simp [hi]
  · simp only [hi, if_false, not_false_eq_true, true_and]
    split
    · next t n f hr =>
      by_cases ht : t = 2 ∨ t = 3
      · simp only [ht, if_true, true_and]
        by_cases hj : j < 0 ∨ n ≤ j.toNatClampNeg
        · rw [if_pos hj]; simp [hj]
        · rw [if_neg hj]
          simp only [hj, not_false_eq_true, true_and]
          unfold rx_fx
          split
          · next c fs hq =>
            by_cases hc : c = rx_tc t
            · simp [hc]
            · simp [hc]
          · rfl
      · simp [ht]
    · rfl
theorem rx_w_arraylength (i : Nat) : rx_ow (some (.arraylength, nx, a, b, kd, v)) k S mi pc ls (.ref i :: r) h Q = (match rx_rd h i with
  | some (.inl (t, n, .inl _)) => (t = 0 ∨ (t = 1 ∧ ¬ i = 0)) ∧ rx_nx k S mi nx ls (.int (Int32.ofNat n) :: r) h Q
  | _ => False) := by
  show rx_op _ _ _ _ _ _ _ _ = _
  unfold rx_op
  show (match rx_alen nx ls (.ref i :: r) h with
    | none => False
    | some (.inl (pc', ls', st', h')) => rx_nx k S mi pc' ls' st' h' Q
    | some (.inr (.inl (a, As, rest, nx))) => rx_Cl a As h (fun r h' => rx_nx k S mi nx ls (r.toList ++ rest) h' Q)
    | some (.inr (.inr v)) => Q v h) = _
  unfold rx_alen
  dsimp only
  split
  · next t n f hr =>
    by_cases ht : t = 0 ∨ (t = 1 ∧ ¬ i = 0)
    · simp only [ht, if_true, true_and]
    · simp only [ht, if_false, false_and]
  · rfl
theorem rx_w_new (n : Nat) : rx_ow (some (.new n, nx, a, b, kd, v)) k S mi pc ls st h Q = (rx_nx k S mi nx ls (.ref h.1 :: st) (rx_nw h b (.inr (a, rx_df a))) Q) := rfl
theorem rx_w_newarray (t : ArrayType) (n : Int32) : rx_ow (some (.newarray t, nx, a, b, kd, v)) k S mi pc ls (.int n :: r) h Q = (¬ (n < 0 ∨ 134217728 < n.toNatClampNeg) ∧ rx_nx k S mi nx ls (.ref h.1 :: r) (rx_nw h n.toNatClampNeg (.inl (a, n.toNatClampNeg, .inl (fun _ => 0)))) Q) := by
  show rx_op _ _ _ _ _ _ _ _ = _
  unfold rx_op
  show (match rx_newa a nx ls (.int n :: r) h with
    | none => False
    | some (.inl (pc', ls', st', h')) => rx_nx k S mi pc' ls' st' h' Q
    | some (.inr (.inl (a, As, rest, nx))) => rx_Cl a As h (fun r h' => rx_nx k S mi nx ls (r.toList ++ rest) h' Q)
    | some (.inr (.inr v)) => Q v h) = _
  unfold rx_newa
  by_cases hn : n < 0 ∨ 134217728 < n.toNatClampNeg
  · simp [hn]
  · simp [hn]
theorem rx_w_anewarray (t : Nat) (n : Int32) : rx_ow (some (.anewarray t, nx, a, b, kd, v)) k S mi pc ls (.int n :: r) h Q = (¬ (n < 0 ∨ 134217728 < n.toNatClampNeg) ∧ rx_nx k S mi nx ls (.ref h.1 :: r) (rx_nw h n.toNatClampNeg (.inl (a, n.toNatClampNeg, .inr (.inr (.inr (.inr (fun _ => none))))))) Q) := by
  show rx_op _ _ _ _ _ _ _ _ = _
  unfold rx_op
  show (match rx_anew a nx ls (.int n :: r) h with
    | none => False
    | some (.inl (pc', ls', st', h')) => rx_nx k S mi pc' ls' st' h' Q
    | some (.inr (.inl (a, As, rest, nx))) => rx_Cl a As h (fun r h' => rx_nx k S mi nx ls (r.toList ++ rest) h' Q)
    | some (.inr (.inr v)) => Q v h) = _
  unfold rx_anew
  by_cases hn : n < 0 ∨ 134217728 < n.toNatClampNeg
  · simp [hn]
  · simp [hn]
theorem rx_w_objinit (n i : Nat) : rx_ow (some (.invokespecial n, nx, a, b, 8, v)) k S mi pc ls (.ref i :: r) h Q = (r.length ≤ 4 ∧ rx_nx k S mi nx ls r h Q) := by
  show rx_op _ _ _ _ _ _ _ _ = _
  unfold rx_op
  show (match if r.length ≤ 4 then some (.inl (nx, ls, r, h)) else none with
    | none => False
    | some (.inl (pc', ls', st', h')) => rx_nx k S mi pc' ls' st' h' Q
    | some (.inr (.inl (a, As, rest, nx))) => rx_Cl a As h (fun r h' => rx_nx k S mi nx ls (r.toList ++ rest) h' Q)
    | some (.inr (.inr v)) => Q v h) = _
  by_cases hn : r.length ≤ 4
  · simp [hn]
  · simp [hn]
theorem rx_w_static0 (n : Nat) : rx_ow (some (.invokestatic n, nx, a, b, 0, v)) k S mi pc ls st h Q = ((b ≤ st.length ∧ (st.drop b).length ≤ 4) ∧ rx_Cl a (st.take b).reverse h (fun r h' => rx_nx k S mi nx ls (r.toList ++ st.drop b) h' Q)) := by
  show rx_op _ _ _ _ _ _ _ _ = _
  unfold rx_op
  show (match rx_call a b 0 0 nx st h with
    | none => False
    | some (.inl (pc', ls', st', h')) => rx_nx k S mi pc' ls' st' h' Q
    | some (.inr (.inl (a, As, rest, nx))) => rx_Cl a As h (fun r h' => rx_nx k S mi nx ls (r.toList ++ rest) h' Q)
    | some (.inr (.inr v)) => Q v h) = _
  unfold rx_call
  by_cases hb : b ≤ st.length ∧ (st.drop b).length ≤ 4
  · have hb2 : (decide (b ≤ st.length) && decide ((st.drop b).length ≤ 4)) = true := by simpa using hb
    rw [if_pos hb2]
    simp only [hb, and_self, true_and]
  · have hb2 : ¬ (decide (b ≤ st.length) && decide ((st.drop b).length ≤ 4)) = true := by simpa using hb
    rw [if_neg hb2]
    simp only [hb, false_and]
theorem rx_w_special0 (n : Nat) : rx_ow (some (.invokespecial n, nx, a, b, 0, v)) k S mi pc ls st h Q = ((b ≤ st.length ∧ (st.drop b).length ≤ 4) ∧ rx_ix (st.take b).reverse (rx_Cl a (st.take b).reverse h (fun r h' => rx_nx k S mi nx ls (r.toList ++ st.drop b) h' Q))) := by
  show rx_op _ _ _ _ _ _ _ _ = _
  unfold rx_op
  show (match rx_call a b 2 0 nx st h with
    | none => False
    | some (.inl (pc', ls', st', h')) => rx_nx k S mi pc' ls' st' h' Q
    | some (.inr (.inl (a, As, rest, nx))) => rx_Cl a As h (fun r h' => rx_nx k S mi nx ls (r.toList ++ rest) h' Q)
    | some (.inr (.inr v)) => Q v h) = _
  unfold rx_call
  by_cases hb : b ≤ st.length ∧ (st.drop b).length ≤ 4
  · have hb2 : (decide (b ≤ st.length) && decide ((st.drop b).length ≤ 4)) = true := by simpa using hb
    rw [if_pos hb2]
    simp only [hb, and_self, true_and]
    unfold rx_ix
    cases (st.take b).reverse with
    | nil => rfl
    | cons w t =>
      cases w with
      | ref i =>
        dsimp only
        by_cases hi : i = 0
        · simp [hi]
        · simp [hi]
      | _ => rfl
  · have hb2 : ¬ (decide (b ≤ st.length) && decide ((st.drop b).length ≤ 4)) = true := by simpa using hb
    rw [if_neg hb2]
    simp only [hb, false_and]
theorem rx_w_static1 (n : Nat) : rx_ow (some (.invokestatic n, nx, a, b, 1, v)) k S mi pc ls st h Q = ((b ≤ st.length ∧ (st.drop b).length ≤ 4) ∧ rx_Cl a (st.take b).reverse h (fun r h' => rx_nx k S mi nx ls (r.toList ++ st.drop b) h' Q)) := by
  show rx_op _ _ _ _ _ _ _ _ = _
  unfold rx_op
  show (match rx_call a b 0 0 nx st h with
    | none => False
    | some (.inl (pc', ls', st', h')) => rx_nx k S mi pc' ls' st' h' Q
    | some (.inr (.inl (a, As, rest, nx))) => rx_Cl a As h (fun r h' => rx_nx k S mi nx ls (r.toList ++ rest) h' Q)
    | some (.inr (.inr v)) => Q v h) = _
  unfold rx_call
  by_cases hb : b ≤ st.length ∧ (st.drop b).length ≤ 4
  · have hb2 : (decide (b ≤ st.length) && decide ((st.drop b).length ≤ 4)) = true := by simpa using hb
    rw [if_pos hb2]
    simp only [hb, and_self, true_and]
  · have hb2 : ¬ (decide (b ≤ st.length) && decide ((st.drop b).length ≤ 4)) = true := by simpa using hb
    rw [if_neg hb2]
    simp only [hb, false_and]
theorem rx_w_special1 (n : Nat) : rx_ow (some (.invokespecial n, nx, a, b, 1, v)) k S mi pc ls st h Q = ((b ≤ st.length ∧ (st.drop b).length ≤ 4) ∧ rx_ix (st.take b).reverse (rx_Cl a (st.take b).reverse h (fun r h' => rx_nx k S mi nx ls (r.toList ++ st.drop b) h' Q))) := by
  show rx_op _ _ _ _ _ _ _ _ = _
  unfold rx_op
  show (match rx_call a b 2 0 nx st h with
    | none => False
    | some (.inl (pc', ls', st', h')) => rx_nx k S mi pc' ls' st' h' Q
    | some (.inr (.inl (a, As, rest, nx))) => rx_Cl a As h (fun r h' => rx_nx k S mi nx ls (r.toList ++ rest) h' Q)
    | some (.inr (.inr v)) => Q v h) = _
  unfold rx_call
  by_cases hb : b ≤ st.length ∧ (st.drop b).length ≤ 4
  · have hb2 : (decide (b ≤ st.length) && decide ((st.drop b).length ≤ 4)) = true := by simpa using hb
    rw [if_pos hb2]
    simp only [hb, and_self, true_and]
    unfold rx_ix
    cases (st.take b).reverse with
    | nil => rfl
    | cons w t =>
      cases w with
      | ref i =>
        dsimp only
        by_cases hi : i = 0
        · simp [hi]
        · simp [hi]
      | _ => rfl
  · have hb2 : ¬ (decide (b ≤ st.length) && decide ((st.drop b).length ≤ 4)) = true := by simpa using hb
    rw [if_neg hb2]
    simp only [hb, false_and]
theorem rx_w_virtual (n : Nat) : rx_ow (some (.invokevirtual n, nx, a, b, kd, v)) k S mi pc ls st h Q = ((b ≤ st.length ∧ (st.drop b).length ≤ 4) ∧ rx_vx (st.take b).reverse (rx_cn a) h (rx_Cl a (st.take b).reverse h (fun r h' => rx_nx k S mi nx ls (r.toList ++ st.drop b) h' Q))) := by
  show rx_op _ _ _ _ _ _ _ _ = _
  unfold rx_op
  show (match rx_call a b 1 (rx_cn a) nx st h with
    | none => False
    | some (.inl (pc', ls', st', h')) => rx_nx k S mi pc' ls' st' h' Q
    | some (.inr (.inl (a, As, rest, nx))) => rx_Cl a As h (fun r h' => rx_nx k S mi nx ls (r.toList ++ rest) h' Q)
    | some (.inr (.inr v)) => Q v h) = _
  unfold rx_call
  by_cases hb : b ≤ st.length ∧ (st.drop b).length ≤ 4
  · have hb2 : (decide (b ≤ st.length) && decide ((st.drop b).length ≤ 4)) = true := by simpa using hb
    rw [if_pos hb2]
    simp only [hb, and_self, true_and]
    unfold rx_vx
    cases (st.take b).reverse with
    | nil => rfl
    | cons w t =>
      cases w with
      | ref i =>
        dsimp only
        by_cases hi : i = 0
        · simp [hi]
        · simp only [hi, if_false, not_false_eq_true, true_and]
          unfold rx_fx
          split
          · next c fs hr =>
            by_cases hc : c = rx_cn a
            · simp [hc]
            · simp [hc]
          · rfl
      | _ => rfl
  · have hb2 : ¬ (decide (b ≤ st.length) && decide ((st.drop b).length ≤ 4)) = true := by simpa using hb
    rw [if_neg hb2]
    simp only [hb, false_and]
theorem rx_w_min (n : Nat) (x y : Int32) : rx_ow (some (.invokestatic n, nx, a, b, 7, v)) k S mi pc ls (.int y :: .int x :: r) h Q = (r.length ≤ 4 ∧ rx_nx k S mi nx ls (.int (if y < x then y else x) :: r) h Q) := by
  show rx_op _ _ _ _ _ _ _ _ = _
  unfold rx_op
  show (match rx_min nx ls (.int y :: .int x :: r) h with
    | none => False
    | some (.inl (pc', ls', st', h')) => rx_nx k S mi pc' ls' st' h' Q
    | some (.inr (.inl (a, As, rest, nx))) => rx_Cl a As h (fun r h' => rx_nx k S mi nx ls (r.toList ++ rest) h' Q)
    | some (.inr (.inr v)) => Q v h) = _
  unfold rx_min
  by_cases hr : r.length ≤ 4
  · simp [hr]
  · simp [hr]
def rx_cpx (h : rx_H) (i d : Nat) (sp dp n : Int32) (K : rx_H → Prop) : Prop := match rx_rd h i, rx_rd h d with
  | some (.inl (t, n0, .inl f)), some (.inl (u, n1, .inl g)) => (t ≤ 1 ∧ u = t ∧ ¬ sp < 0 ∧ ¬ dp < 0 ∧ ¬ n < 0 ∧ sp.toNatClampNeg + n.toNatClampNeg ≤ n0 ∧ dp.toNatClampNeg + n.toNatClampNeg ≤ n1 ∧ (t = 0 ∨ ∀ j, j < n.toNatClampNeg → fits .byte (.int (f (sp.toNatClampNeg + j))) = true)) ∧ K (rx_up h d (.inl (u, n1, .inl (va_cpy f g sp.toNatClampNeg dp.toNatClampNeg n.toNatClampNeg))))
  | _, _ => False
theorem rx_w_copy (m : Nat) (n dp sp : Int32) (d i : Nat) : rx_ow (some (.invokestatic m, nx, a, b, 9, v)) k S mi pc ls (.int n :: .int dp :: .ref d :: .int sp :: .ref i :: r) h Q = ((¬ (i = 0 ∨ d = 0 ∨ 4 < r.length)) ∧ rx_cpx h i d sp dp n (fun h' => rx_nx k S mi nx ls r h' Q)) := by
  show rx_op _ _ _ _ _ _ _ _ = _
  unfold rx_op
  show (match rx_copy nx ls (.int n :: .int dp :: .ref d :: .int sp :: .ref i :: r) h with
    | none => False
    | some (.inl (pc', ls', st', h')) => rx_nx k S mi pc' ls' st' h' Q
    | some (.inr (.inl (a, As, rest, nx))) => rx_Cl a As h (fun r h' => rx_nx k S mi nx ls (r.toList ++ rest) h' Q)
    | some (.inr (.inr v)) => Q v h) = _
  unfold rx_copy rx_cpx
  by_cases hi : i = 0 ∨ d = 0 ∨ 4 < r.length
  · simp only [hi, if_true, not_true_eq_false, false_and]
  · simp only [hi, if_false, not_false_eq_true, true_and]
    split
    · next t n0 f u n1 g h1 h2 =>
      by_cases hc : t ≤ 1 ∧ u = t ∧ ¬ sp < 0 ∧ ¬ dp < 0 ∧ ¬ n < 0 ∧ sp.toNatClampNeg + n.toNatClampNeg ≤ n0 ∧ dp.toNatClampNeg + n.toNatClampNeg ≤ n1 ∧ (t = 0 ∨ ∀ j, j < n.toNatClampNeg → fits .byte (.int (f (sp.toNatClampNeg + j))) = true)
      · rw [if_pos hc]
        exact propext ⟨fun z => ⟨hc, z⟩, fun z => z.2⟩
      · rw [if_neg hc]
        exact propext ⟨fun z => z.elim, fun z => hc z.1⟩
    · rfl
theorem rx_w_ireturn0 (x : Int32) : rx_ow (some (.ireturn, nx, a, b, 0, v)) k S mi pc ls [.int x] h Q = (Q (some (.int x)) h) := rfl
theorem rx_w_ireturn1 (x : Int32) : rx_ow (some (.ireturn, nx, a, b, 1, v)) k S mi pc ls [.int x] h Q = ((x = 0 ∨ x = 1) ∧ Q (some (.int x)) h) := by
  show rx_op _ _ _ _ _ _ _ _ = _
  unfold rx_op
  show (match if decide (1 = 0) || decide (x = 0) || decide (x = 1) then some (.inr (.inr (some (.int x)))) else none with
    | none => False
    | some (.inl (pc', ls', st', h')) => rx_nx k S mi pc' ls' st' h' Q
    | some (.inr (.inl (a, As, rest, nx))) => rx_Cl a As h (fun r h' => rx_nx k S mi nx ls (r.toList ++ rest) h' Q)
    | some (.inr (.inr v)) => Q v h) = _
  by_cases hx : x = 0 ∨ x = 1
  · have h2 : (decide (1 = 0) || decide (x = 0) || decide (x = 1)) = true := by simpa using hx
    rw [if_pos h2]
    simp only [hx, true_and]
  · have h2 : ¬ (decide (1 = 0) || decide (x = 0) || decide (x = 1)) = true := by simpa using hx
    rw [if_neg h2]
    simp only [hx, false_and]
theorem rx_w_lreturn (x : Int64) : rx_ow (some (.lreturn, nx, a, b, kd, v)) k S mi pc ls [.long x] h Q = (Q (some (.long x)) h) := rfl
theorem rx_w_areturn (x : Nat) : rx_ow (some (.areturn, nx, a, b, kd, v)) k S mi pc ls [.ref x] h Q = (Q (some (.ref x)) h) := rfl
theorem rx_w_return_ : rx_ow (some (.return_, nx, a, b, kd, v)) k S mi pc ls [] h Q = (Q none h) := rfl
end RXST
theorem rx_nx_nil (k : Nat) (mi pc : Nat) (ls st : List Value) (h : rx_H) (Q : Option Value → rx_H → Prop) : rx_nx k [] mi pc ls st h Q = rx_wp k [] mi pc ls st h Q := rfl
theorem rx_nx_cons (k : Nat) (s : Nat) (S : List Nat) (mi pc : Nat) (ls st : List Value) (h : rx_H) (Q : Option Value → rx_H → Prop) : rx_nx k (s :: S) mi pc ls st h Q = (if rx_cut (s :: S) pc = true then rx_R mi pc ls st h Q else rx_wp k (s :: S) mi pc ls st h Q) := by
  unfold rx_nx
  cases rx_cut (s :: S) pc <;> rfl
theorem rx_cut_cons (s : Nat) (t : List Nat) (p : Nat) : rx_cut (s :: t) p = (p == s || rx_cut t p) := rfl
theorem rx_cut_nil (p : Nat) : rx_cut [] p = false := rfl
end
