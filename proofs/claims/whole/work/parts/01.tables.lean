-- ===== PART A: goes FIRST, ahead of the names: the tables' words, and 'selects' of the private methods out of them =====
/-- a private method of a class that the tables say can be made, by its rows of tables_1 -/
def lw_okq (q : MethodName × Nat) : Prop := (q.1.cls ≠ "java/lang/invoke/MethodHandle" ∧ q.1.cls ≠ "java/lang/invoke/VarHandle") ∧ Cond.instantiable q.1.cls q.2 ∈ tables_1 ∧ Cond.privateMethod q.1 ∈ tables_1 ∧ Cond.instanceMethod q.1 ∈ tables_1
theorem lw_p0 : lw_okq (⟨"NextFair", "layOnTape", "(I)V"⟩, 16) := ⟨⟨by decide +kernel, by decide +kernel⟩, List.mem_of_getElem? (i := 23) (by decide +kernel), List.mem_of_getElem? (i := 439) (by decide +kernel), List.mem_of_getElem? (i := 440) (by decide +kernel)⟩
theorem lw_p1 : lw_okq (⟨"NextFair$Reader", "split", "([BI)V"⟩, 12) := ⟨⟨by decide +kernel, by decide +kernel⟩, List.mem_of_getElem? (i := 161) (by decide +kernel), List.mem_of_getElem? (i := 454) (by decide +kernel), List.mem_of_getElem? (i := 455) (by decide +kernel)⟩
theorem lw_p2 : lw_okq (⟨"NextFair$Reader", "addToken", "(III)V"⟩, 12) := ⟨⟨by decide +kernel, by decide +kernel⟩, List.mem_of_getElem? (i := 161) (by decide +kernel), List.mem_of_getElem? (i := 571) (by decide +kernel), List.mem_of_getElem? (i := 572) (by decide +kernel)⟩
theorem lw_p3 : lw_okq (⟨"NextFair$Reader", "addNumber", "([BII)V"⟩, 12) := ⟨⟨by decide +kernel, by decide +kernel⟩, List.mem_of_getElem? (i := 161) (by decide +kernel), List.mem_of_getElem? (i := 578) (by decide +kernel), List.mem_of_getElem? (i := 579) (by decide +kernel)⟩
theorem lw_p4 : lw_okq (⟨"NextFair$Reader", "step", "()V"⟩, 12) := ⟨⟨by decide +kernel, by decide +kernel⟩, List.mem_of_getElem? (i := 161) (by decide +kernel), List.mem_of_getElem? (i := 590) (by decide +kernel), List.mem_of_getElem? (i := 591) (by decide +kernel)⟩
theorem lw_p5 : lw_okq (⟨"NextFair$Reader", "readHead", "()Z"⟩, 12) := ⟨⟨by decide +kernel, by decide +kernel⟩, List.mem_of_getElem? (i := 161) (by decide +kernel), List.mem_of_getElem? (i := 594) (by decide +kernel), List.mem_of_getElem? (i := 595) (by decide +kernel)⟩
theorem lw_p6 : lw_okq (⟨"NextFair$Reader", "take", "(I)Z"⟩, 12) := ⟨⟨by decide +kernel, by decide +kernel⟩, List.mem_of_getElem? (i := 161) (by decide +kernel), List.mem_of_getElem? (i := 598) (by decide +kernel), List.mem_of_getElem? (i := 599) (by decide +kernel)⟩
theorem lw_p7 : lw_okq (⟨"NextFair$Reader", "refuse", "(I)Z"⟩, 12) := ⟨⟨by decide +kernel, by decide +kernel⟩, List.mem_of_getElem? (i := 161) (by decide +kernel), List.mem_of_getElem? (i := 602) (by decide +kernel), List.mem_of_getElem? (i := 603) (by decide +kernel)⟩
theorem lw_p8 : lw_okq (⟨"NextFair$Reader", "takeNumber", "(II)Z"⟩, 12) := ⟨⟨by decide +kernel, by decide +kernel⟩, List.mem_of_getElem? (i := 161) (by decide +kernel), List.mem_of_getElem? (i := 606) (by decide +kernel), List.mem_of_getElem? (i := 607) (by decide +kernel)⟩
theorem lw_p9 : lw_okq (⟨"NextFair$Reader", "readMerchant", "()Z"⟩, 12) := ⟨⟨by decide +kernel, by decide +kernel⟩, List.mem_of_getElem? (i := 161) (by decide +kernel), List.mem_of_getElem? (i := 613) (by decide +kernel), List.mem_of_getElem? (i := 614) (by decide +kernel)⟩
theorem lw_p10 : lw_okq (⟨"NextFair$Reader", "readLetter", "()Z"⟩, 12) := ⟨⟨by decide +kernel, by decide +kernel⟩, List.mem_of_getElem? (i := 161) (by decide +kernel), List.mem_of_getElem? (i := 622) (by decide +kernel), List.mem_of_getElem? (i := 623) (by decide +kernel)⟩
theorem lw_p11 : lw_okq (⟨"NextFair$Reader", "readLaw", "(Z)Z"⟩, 12) := ⟨⟨by decide +kernel, by decide +kernel⟩, List.mem_of_getElem? (i := 161) (by decide +kernel), List.mem_of_getElem? (i := 630) (by decide +kernel), List.mem_of_getElem? (i := 631) (by decide +kernel)⟩
theorem lw_p12 : lw_okq (⟨"NextFair$Reader", "readJoined", "(II)Z"⟩, 12) := ⟨⟨by decide +kernel, by decide +kernel⟩, List.mem_of_getElem? (i := 161) (by decide +kernel), List.mem_of_getElem? (i := 634) (by decide +kernel), List.mem_of_getElem? (i := 635) (by decide +kernel)⟩
theorem lw_p13 : lw_okq (⟨"NextFair$Reader", "readPart", "(II)Z"⟩, 12) := ⟨⟨by decide +kernel, by decide +kernel⟩, List.mem_of_getElem? (i := 161) (by decide +kernel), List.mem_of_getElem? (i := 638) (by decide +kernel), List.mem_of_getElem? (i := 639) (by decide +kernel)⟩
theorem lw_p14 : lw_okq (⟨"NextFair$Reader", "readUnit", "(I)Z"⟩, 12) := ⟨⟨by decide +kernel, by decide +kernel⟩, List.mem_of_getElem? (i := 161) (by decide +kernel), List.mem_of_getElem? (i := 642) (by decide +kernel), List.mem_of_getElem? (i := 643) (by decide +kernel)⟩
theorem lw_p15 : lw_okq (⟨"NextFair$Reader", "readAtom", "(I)Z"⟩, 12) := ⟨⟨by decide +kernel, by decide +kernel⟩, List.mem_of_getElem? (i := 161) (by decide +kernel), List.mem_of_getElem? (i := 650) (by decide +kernel), List.mem_of_getElem? (i := 651) (by decide +kernel)⟩
def lw_privs_1 : List (MethodName × Nat) := [(⟨"NextFair", "layOnTape", "(I)V"⟩, 16), (⟨"NextFair$Reader", "split", "([BI)V"⟩, 12), (⟨"NextFair$Reader", "addToken", "(III)V"⟩, 12), (⟨"NextFair$Reader", "addNumber", "([BII)V"⟩, 12), (⟨"NextFair$Reader", "step", "()V"⟩, 12), (⟨"NextFair$Reader", "readHead", "()Z"⟩, 12), (⟨"NextFair$Reader", "take", "(I)Z"⟩, 12), (⟨"NextFair$Reader", "refuse", "(I)Z"⟩, 12), (⟨"NextFair$Reader", "takeNumber", "(II)Z"⟩, 12), (⟨"NextFair$Reader", "readMerchant", "()Z"⟩, 12), (⟨"NextFair$Reader", "readLetter", "()Z"⟩, 12), (⟨"NextFair$Reader", "readLaw", "(Z)Z"⟩, 12), (⟨"NextFair$Reader", "readJoined", "(II)Z"⟩, 12), (⟨"NextFair$Reader", "readPart", "(II)Z"⟩, 12), (⟨"NextFair$Reader", "readUnit", "(I)Z"⟩, 12), (⟨"NextFair$Reader", "readAtom", "(I)Z"⟩, 12)]
theorem lw_r1 : ∀ q ∈ lw_privs_1, lw_okq q := List.forall_mem_cons.mpr ⟨lw_p0, List.forall_mem_cons.mpr ⟨lw_p1, List.forall_mem_cons.mpr ⟨lw_p2, List.forall_mem_cons.mpr ⟨lw_p3, List.forall_mem_cons.mpr ⟨lw_p4, List.forall_mem_cons.mpr ⟨lw_p5, List.forall_mem_cons.mpr ⟨lw_p6, List.forall_mem_cons.mpr ⟨lw_p7, List.forall_mem_cons.mpr ⟨lw_p8, List.forall_mem_cons.mpr ⟨lw_p9, List.forall_mem_cons.mpr ⟨lw_p10, List.forall_mem_cons.mpr ⟨lw_p11, List.forall_mem_cons.mpr ⟨lw_p12, List.forall_mem_cons.mpr ⟨lw_p13, List.forall_mem_cons.mpr ⟨lw_p14, List.forall_mem_cons.mpr ⟨lw_p15, fun _ h => absurd h List.not_mem_nil⟩⟩⟩⟩⟩⟩⟩⟩⟩⟩⟩⟩⟩⟩⟩⟩
theorem lw_p16 : lw_okq (⟨"NextFair$Reader", "takeAtom", "(I)Z"⟩, 12) := ⟨⟨by decide +kernel, by decide +kernel⟩, List.mem_of_getElem? (i := 161) (by decide +kernel), List.mem_of_getElem? (i := 654) (by decide +kernel), List.mem_of_getElem? (i := 655) (by decide +kernel)⟩
theorem lw_p17 : lw_okq (⟨"NextFair$Reader", "joinTold", "(I)I"⟩, 12) := ⟨⟨by decide +kernel, by decide +kernel⟩, List.mem_of_getElem? (i := 161) (by decide +kernel), List.mem_of_getElem? (i := 658) (by decide +kernel), List.mem_of_getElem? (i := 659) (by decide +kernel)⟩
theorem lw_p18 : lw_okq (⟨"NextFair$Reader", "readFirstFair", "()Z"⟩, 12) := ⟨⟨by decide +kernel, by decide +kernel⟩, List.mem_of_getElem? (i := 161) (by decide +kernel), List.mem_of_getElem? (i := 666) (by decide +kernel), List.mem_of_getElem? (i := 667) (by decide +kernel)⟩
theorem lw_p19 : lw_okq (⟨"NextFair$Book", "read", "(IIIII)I"⟩, 10) := ⟨⟨by decide +kernel, by decide +kernel⟩, List.mem_of_getElem? (i := 31) (by decide +kernel), List.mem_of_getElem? (i := 762) (by decide +kernel), List.mem_of_getElem? (i := 763) (by decide +kernel)⟩
theorem lw_p20 : lw_okq (⟨"NextFair$Past", "row", "(I)LNextFair$World;"⟩, 3) := ⟨⟨by decide +kernel, by decide +kernel⟩, List.mem_of_getElem? (i := 212) (by decide +kernel), List.mem_of_getElem? (i := 782) (by decide +kernel), List.mem_of_getElem? (i := 783) (by decide +kernel)⟩
theorem lw_p21 : lw_okq (⟨"NextFair", "trayOf", "(I)LNextFair$Tray;"⟩, 16) := ⟨⟨by decide +kernel, by decide +kernel⟩, List.mem_of_getElem? (i := 23) (by decide +kernel), List.mem_of_getElem? (i := 833) (by decide +kernel), List.mem_of_getElem? (i := 834) (by decide +kernel)⟩
theorem lw_p22 : lw_okq (⟨"NextFair$World", "waitForMules", "()V"⟩, 14) := ⟨⟨by decide +kernel, by decide +kernel⟩, List.mem_of_getElem? (i := 78) (by decide +kernel), List.mem_of_getElem? (i := 867) (by decide +kernel), List.mem_of_getElem? (i := 868) (by decide +kernel)⟩
theorem lw_p23 : lw_okq (⟨"NextFair$World", "settleShort", "(LNextFair$Book;)Z"⟩, 14) := ⟨⟨by decide +kernel, by decide +kernel⟩, List.mem_of_getElem? (i := 78) (by decide +kernel), List.mem_of_getElem? (i := 888) (by decide +kernel), List.mem_of_getElem? (i := 889) (by decide +kernel)⟩
theorem lw_p24 : lw_okq (⟨"NextFair$World", "giveTime", "(I)V"⟩, 14) := ⟨⟨by decide +kernel, by decide +kernel⟩, List.mem_of_getElem? (i := 78) (by decide +kernel), List.mem_of_getElem? (i := 893) (by decide +kernel), List.mem_of_getElem? (i := 894) (by decide +kernel)⟩
theorem lw_p25 : lw_okq (⟨"NextFair$World", "payAll", "()V"⟩, 14) := ⟨⟨by decide +kernel, by decide +kernel⟩, List.mem_of_getElem? (i := 78) (by decide +kernel), List.mem_of_getElem? (i := 901) (by decide +kernel), List.mem_of_getElem? (i := 902) (by decide +kernel)⟩
theorem lw_p26 : lw_okq (⟨"NextFair$Deeds", "doOne", "(LNextFair$World;LNextFair$Book;J)I"⟩, 2) := ⟨⟨by decide +kernel, by decide +kernel⟩, List.mem_of_getElem? (i := 236) (by decide +kernel), List.mem_of_getElem? (i := 928) (by decide +kernel), List.mem_of_getElem? (i := 929) (by decide +kernel)⟩
theorem lw_p27 : lw_okq (⟨"NextFair$Deeds", "doPay", "(LNextFair$World;I)I"⟩, 2) := ⟨⟨by decide +kernel, by decide +kernel⟩, List.mem_of_getElem? (i := 236) (by decide +kernel), List.mem_of_getElem? (i := 936) (by decide +kernel), List.mem_of_getElem? (i := 937) (by decide +kernel)⟩
theorem lw_p28 : lw_okq (⟨"NextFair$Deeds", "doCancel", "(LNextFair$World;II)I"⟩, 2) := ⟨⟨by decide +kernel, by decide +kernel⟩, List.mem_of_getElem? (i := 236) (by decide +kernel), List.mem_of_getElem? (i := 944) (by decide +kernel), List.mem_of_getElem? (i := 945) (by decide +kernel)⟩
theorem lw_p29 : lw_okq (⟨"NextFair$Deeds", "doLend", "(LNextFair$World;II)I"⟩, 2) := ⟨⟨by decide +kernel, by decide +kernel⟩, List.mem_of_getElem? (i := 236) (by decide +kernel), List.mem_of_getElem? (i := 952) (by decide +kernel), List.mem_of_getElem? (i := 953) (by decide +kernel)⟩
theorem lw_p30 : lw_okq (⟨"NextFair", "goOnAs", "(LNextFair$World;)V"⟩, 16) := ⟨⟨by decide +kernel, by decide +kernel⟩, List.mem_of_getElem? (i := 23) (by decide +kernel), List.mem_of_getElem? (i := 962) (by decide +kernel), List.mem_of_getElem? (i := 963) (by decide +kernel)⟩
theorem lw_p31 : lw_okq (⟨"NextFair$Deeds", "doDrawn", "(LNextFair$World;LNextFair$Book;)I"⟩, 2) := ⟨⟨by decide +kernel, by decide +kernel⟩, List.mem_of_getElem? (i := 236) (by decide +kernel), List.mem_of_getElem? (i := 975) (by decide +kernel), List.mem_of_getElem? (i := 976) (by decide +kernel)⟩
def lw_privs_2 : List (MethodName × Nat) := [(⟨"NextFair$Reader", "takeAtom", "(I)Z"⟩, 12), (⟨"NextFair$Reader", "joinTold", "(I)I"⟩, 12), (⟨"NextFair$Reader", "readFirstFair", "()Z"⟩, 12), (⟨"NextFair$Book", "read", "(IIIII)I"⟩, 10), (⟨"NextFair$Past", "row", "(I)LNextFair$World;"⟩, 3), (⟨"NextFair", "trayOf", "(I)LNextFair$Tray;"⟩, 16), (⟨"NextFair$World", "waitForMules", "()V"⟩, 14), (⟨"NextFair$World", "settleShort", "(LNextFair$Book;)Z"⟩, 14), (⟨"NextFair$World", "giveTime", "(I)V"⟩, 14), (⟨"NextFair$World", "payAll", "()V"⟩, 14), (⟨"NextFair$Deeds", "doOne", "(LNextFair$World;LNextFair$Book;J)I"⟩, 2), (⟨"NextFair$Deeds", "doPay", "(LNextFair$World;I)I"⟩, 2), (⟨"NextFair$Deeds", "doCancel", "(LNextFair$World;II)I"⟩, 2), (⟨"NextFair$Deeds", "doLend", "(LNextFair$World;II)I"⟩, 2), (⟨"NextFair", "goOnAs", "(LNextFair$World;)V"⟩, 16), (⟨"NextFair$Deeds", "doDrawn", "(LNextFair$World;LNextFair$Book;)I"⟩, 2)]
theorem lw_r2 : ∀ q ∈ lw_privs_2, lw_okq q := List.forall_mem_cons.mpr ⟨lw_p16, List.forall_mem_cons.mpr ⟨lw_p17, List.forall_mem_cons.mpr ⟨lw_p18, List.forall_mem_cons.mpr ⟨lw_p19, List.forall_mem_cons.mpr ⟨lw_p20, List.forall_mem_cons.mpr ⟨lw_p21, List.forall_mem_cons.mpr ⟨lw_p22, List.forall_mem_cons.mpr ⟨lw_p23, List.forall_mem_cons.mpr ⟨lw_p24, List.forall_mem_cons.mpr ⟨lw_p25, List.forall_mem_cons.mpr ⟨lw_p26, List.forall_mem_cons.mpr ⟨lw_p27, List.forall_mem_cons.mpr ⟨lw_p28, List.forall_mem_cons.mpr ⟨lw_p29, List.forall_mem_cons.mpr ⟨lw_p30, List.forall_mem_cons.mpr ⟨lw_p31, fun _ h => absurd h List.not_mem_nil⟩⟩⟩⟩⟩⟩⟩⟩⟩⟩⟩⟩⟩⟩⟩⟩
theorem lw_p32 : lw_okq (⟨"NextFair$Outlook", "goTillBroken", "(LNextFair$Book;II)V"⟩, 4) := ⟨⟨by decide +kernel, by decide +kernel⟩, List.mem_of_getElem? (i := 251) (by decide +kernel), List.mem_of_getElem? (i := 1063) (by decide +kernel), List.mem_of_getElem? (i := 1064) (by decide +kernel)⟩
theorem lw_p33 : lw_okq (⟨"NextFair$Outlook", "alike", "(LNextFair$Book;II)I"⟩, 4) := ⟨⟨by decide +kernel, by decide +kernel⟩, List.mem_of_getElem? (i := 251) (by decide +kernel), List.mem_of_getElem? (i := 1070) (by decide +kernel), List.mem_of_getElem? (i := 1071) (by decide +kernel)⟩
theorem lw_p34 : lw_okq (⟨"NextFair$Outlook", "goesAlike", "(LNextFair$Book;III)Z"⟩, 4) := ⟨⟨by decide +kernel, by decide +kernel⟩, List.mem_of_getElem? (i := 251) (by decide +kernel), List.mem_of_getElem? (i := 1079) (by decide +kernel), List.mem_of_getElem? (i := 1080) (by decide +kernel)⟩
theorem lw_p35 : lw_okq (⟨"NextFair$RingSearch", "note", "(II)V"⟩, 5) := ⟨⟨by decide +kernel, by decide +kernel⟩, List.mem_of_getElem? (i := 291) (by decide +kernel), List.mem_of_getElem? (i := 1103) (by decide +kernel), List.mem_of_getElem? (i := 1104) (by decide +kernel)⟩
theorem lw_p36 : lw_okq (⟨"NextFair$Guess", "delaySome", "(LNextFair$World;II)J"⟩, 3) := ⟨⟨by decide +kernel, by decide +kernel⟩, List.mem_of_getElem? (i := 273) (by decide +kernel), List.mem_of_getElem? (i := 1133) (by decide +kernel), List.mem_of_getElem? (i := 1134) (by decide +kernel)⟩
theorem lw_p37 : lw_okq (⟨"NextFair$Exchange", "mostFrom", "(III)J"⟩, 7) := ⟨⟨by decide +kernel, by decide +kernel⟩, List.mem_of_getElem? (i := 317) (by decide +kernel), List.mem_of_getElem? (i := 1168) (by decide +kernel), List.mem_of_getElem? (i := 1169) (by decide +kernel)⟩
theorem lw_p38 : lw_okq (⟨"NextFair$Exchange", "changeAll", "(I)V"⟩, 7) := ⟨⟨by decide +kernel, by decide +kernel⟩, List.mem_of_getElem? (i := 317) (by decide +kernel), List.mem_of_getElem? (i := 1172) (by decide +kernel), List.mem_of_getElem? (i := 1173) (by decide +kernel)⟩
theorem lw_p39 : lw_okq (⟨"NextFair$Exchange", "changed", "(IIII)I"⟩, 7) := ⟨⟨by decide +kernel, by decide +kernel⟩, List.mem_of_getElem? (i := 317) (by decide +kernel), List.mem_of_getElem? (i := 1177) (by decide +kernel), List.mem_of_getElem? (i := 1178) (by decide +kernel)⟩
theorem lw_p40 : lw_okq (⟨"NextFair$Guess", "mostAlike", "(II)I"⟩, 3) := ⟨⟨by decide +kernel, by decide +kernel⟩, List.mem_of_getElem? (i := 273) (by decide +kernel), List.mem_of_getElem? (i := 1218) (by decide +kernel), List.mem_of_getElem? (i := 1219) (by decide +kernel)⟩
theorem lw_p41 : lw_okq (⟨"NextFair", "imageOf", "(I)LNextFair$Image;"⟩, 16) := ⟨⟨by decide +kernel, by decide +kernel⟩, List.mem_of_getElem? (i := 23) (by decide +kernel), List.mem_of_getElem? (i := 1250) (by decide +kernel), List.mem_of_getElem? (i := 1251) (by decide +kernel)⟩
theorem lw_p42 : lw_okq (⟨"NextFairModel", "next", "()V"⟩, 38) := ⟨⟨by decide +kernel, by decide +kernel⟩, List.mem_of_getElem? (i := 1270) (by decide +kernel), List.mem_of_getElem? (i := 1406) (by decide +kernel), List.mem_of_getElem? (i := 1407) (by decide +kernel)⟩
theorem lw_p43 : lw_okq (⟨"NextFairModel", "see", "(I)I"⟩, 38) := ⟨⟨by decide +kernel, by decide +kernel⟩, List.mem_of_getElem? (i := 1270) (by decide +kernel), List.mem_of_getElem? (i := 1410) (by decide +kernel), List.mem_of_getElem? (i := 1411) (by decide +kernel)⟩
theorem lw_p44 : lw_okq (⟨"NextFairModel", "keyAt", "()I"⟩, 38) := ⟨⟨by decide +kernel, by decide +kernel⟩, List.mem_of_getElem? (i := 1270) (by decide +kernel), List.mem_of_getElem? (i := 1417) (by decide +kernel), List.mem_of_getElem? (i := 1418) (by decide +kernel)⟩
theorem lw_p45 : lw_okq (⟨"NextFairModel", "eats", "(I)Z"⟩, 38) := ⟨⟨by decide +kernel, by decide +kernel⟩, List.mem_of_getElem? (i := 1270) (by decide +kernel), List.mem_of_getElem? (i := 1428) (by decide +kernel), List.mem_of_getElem? (i := 1429) (by decide +kernel)⟩
theorem lw_p46 : lw_okq (⟨"NextFairModel", "is", "(I)Z"⟩, 38) := ⟨⟨by decide +kernel, by decide +kernel⟩, List.mem_of_getElem? (i := 1270) (by decide +kernel), List.mem_of_getElem? (i := 1432) (by decide +kernel), List.mem_of_getElem? (i := 1433) (by decide +kernel)⟩
theorem lw_p47 : lw_okq (⟨"NextFairModel", "fails", "(I)V"⟩, 38) := ⟨⟨by decide +kernel, by decide +kernel⟩, List.mem_of_getElem? (i := 1270) (by decide +kernel), List.mem_of_getElem? (i := 1436) (by decide +kernel), List.mem_of_getElem? (i := 1437) (by decide +kernel)⟩
def lw_privs_3 : List (MethodName × Nat) := [(⟨"NextFair$Outlook", "goTillBroken", "(LNextFair$Book;II)V"⟩, 4), (⟨"NextFair$Outlook", "alike", "(LNextFair$Book;II)I"⟩, 4), (⟨"NextFair$Outlook", "goesAlike", "(LNextFair$Book;III)Z"⟩, 4), (⟨"NextFair$RingSearch", "note", "(II)V"⟩, 5), (⟨"NextFair$Guess", "delaySome", "(LNextFair$World;II)J"⟩, 3), (⟨"NextFair$Exchange", "mostFrom", "(III)J"⟩, 7), (⟨"NextFair$Exchange", "changeAll", "(I)V"⟩, 7), (⟨"NextFair$Exchange", "changed", "(IIII)I"⟩, 7), (⟨"NextFair$Guess", "mostAlike", "(II)I"⟩, 3), (⟨"NextFair", "imageOf", "(I)LNextFair$Image;"⟩, 16), (⟨"NextFairModel", "next", "()V"⟩, 38), (⟨"NextFairModel", "see", "(I)I"⟩, 38), (⟨"NextFairModel", "keyAt", "()I"⟩, 38), (⟨"NextFairModel", "eats", "(I)Z"⟩, 38), (⟨"NextFairModel", "is", "(I)Z"⟩, 38), (⟨"NextFairModel", "fails", "(I)V"⟩, 38)]
theorem lw_r3 : ∀ q ∈ lw_privs_3, lw_okq q := List.forall_mem_cons.mpr ⟨lw_p32, List.forall_mem_cons.mpr ⟨lw_p33, List.forall_mem_cons.mpr ⟨lw_p34, List.forall_mem_cons.mpr ⟨lw_p35, List.forall_mem_cons.mpr ⟨lw_p36, List.forall_mem_cons.mpr ⟨lw_p37, List.forall_mem_cons.mpr ⟨lw_p38, List.forall_mem_cons.mpr ⟨lw_p39, List.forall_mem_cons.mpr ⟨lw_p40, List.forall_mem_cons.mpr ⟨lw_p41, List.forall_mem_cons.mpr ⟨lw_p42, List.forall_mem_cons.mpr ⟨lw_p43, List.forall_mem_cons.mpr ⟨lw_p44, List.forall_mem_cons.mpr ⟨lw_p45, List.forall_mem_cons.mpr ⟨lw_p46, List.forall_mem_cons.mpr ⟨lw_p47, fun _ h => absurd h List.not_mem_nil⟩⟩⟩⟩⟩⟩⟩⟩⟩⟩⟩⟩⟩⟩⟩⟩
theorem lw_p48 : lw_okq (⟨"NextFairModel", "takes", "(II)I"⟩, 38) := ⟨⟨by decide +kernel, by decide +kernel⟩, List.mem_of_getElem? (i := 1270) (by decide +kernel), List.mem_of_getElem? (i := 1440) (by decide +kernel), List.mem_of_getElem? (i := 1441) (by decide +kernel)⟩
theorem lw_p49 : lw_okq (⟨"NextFairModel", "ends", "()V"⟩, 38) := ⟨⟨by decide +kernel, by decide +kernel⟩, List.mem_of_getElem? (i := 1270) (by decide +kernel), List.mem_of_getElem? (i := 1444) (by decide +kernel), List.mem_of_getElem? (i := 1445) (by decide +kernel)⟩
theorem lw_p50 : lw_okq (⟨"NextFairModel", "readLine", "()V"⟩, 38) := ⟨⟨by decide +kernel, by decide +kernel⟩, List.mem_of_getElem? (i := 1270) (by decide +kernel), List.mem_of_getElem? (i := 1448) (by decide +kernel), List.mem_of_getElem? (i := 1449) (by decide +kernel)⟩
theorem lw_p51 : lw_okq (⟨"NextFairModel", "readMerchant", "()V"⟩, 38) := ⟨⟨by decide +kernel, by decide +kernel⟩, List.mem_of_getElem? (i := 1270) (by decide +kernel), List.mem_of_getElem? (i := 1452) (by decide +kernel), List.mem_of_getElem? (i := 1453) (by decide +kernel)⟩
theorem lw_p52 : lw_okq (⟨"NextFairModel", "readLetter", "()V"⟩, 38) := ⟨⟨by decide +kernel, by decide +kernel⟩, List.mem_of_getElem? (i := 1270) (by decide +kernel), List.mem_of_getElem? (i := 1456) (by decide +kernel), List.mem_of_getElem? (i := 1457) (by decide +kernel)⟩
theorem lw_p53 : lw_okq (⟨"NextFairModel", "readLaw", "(I)V"⟩, 38) := ⟨⟨by decide +kernel, by decide +kernel⟩, List.mem_of_getElem? (i := 1270) (by decide +kernel), List.mem_of_getElem? (i := 1460) (by decide +kernel), List.mem_of_getElem? (i := 1461) (by decide +kernel)⟩
theorem lw_p54 : lw_okq (⟨"NextFairModel", "readSum", "(I)V"⟩, 38) := ⟨⟨by decide +kernel, by decide +kernel⟩, List.mem_of_getElem? (i := 1270) (by decide +kernel), List.mem_of_getElem? (i := 1464) (by decide +kernel), List.mem_of_getElem? (i := 1465) (by decide +kernel)⟩
theorem lw_p55 : lw_okq (⟨"NextFairModel", "readTerm", "(I)V"⟩, 38) := ⟨⟨by decide +kernel, by decide +kernel⟩, List.mem_of_getElem? (i := 1270) (by decide +kernel), List.mem_of_getElem? (i := 1468) (by decide +kernel), List.mem_of_getElem? (i := 1469) (by decide +kernel)⟩
theorem lw_p56 : lw_okq (⟨"NextFairModel", "readAtom", "(I)V"⟩, 38) := ⟨⟨by decide +kernel, by decide +kernel⟩, List.mem_of_getElem? (i := 1270) (by decide +kernel), List.mem_of_getElem? (i := 1472) (by decide +kernel), List.mem_of_getElem? (i := 1473) (by decide +kernel)⟩
theorem lw_p57 : lw_okq (⟨"NextFairModel", "codes", "(I)V"⟩, 38) := ⟨⟨by decide +kernel, by decide +kernel⟩, List.mem_of_getElem? (i := 1270) (by decide +kernel), List.mem_of_getElem? (i := 1476) (by decide +kernel), List.mem_of_getElem? (i := 1477) (by decide +kernel)⟩
theorem lw_p58 : lw_okq (⟨"NextFairModel", "wordOf", "(I)I"⟩, 38) := ⟨⟨by decide +kernel, by decide +kernel⟩, List.mem_of_getElem? (i := 1270) (by decide +kernel), List.mem_of_getElem? (i := 1480) (by decide +kernel), List.mem_of_getElem? (i := 1481) (by decide +kernel)⟩
theorem lw_p59 : lw_okq (⟨"NextFairModel", "goesIn", "(I)Z"⟩, 38) := ⟨⟨by decide +kernel, by decide +kernel⟩, List.mem_of_getElem? (i := 1270) (by decide +kernel), List.mem_of_getElem? (i := 1484) (by decide +kernel), List.mem_of_getElem? (i := 1485) (by decide +kernel)⟩
theorem lw_p60 : lw_okq (⟨"NextFairModel", "readTruth", "(I)V"⟩, 38) := ⟨⟨by decide +kernel, by decide +kernel⟩, List.mem_of_getElem? (i := 1270) (by decide +kernel), List.mem_of_getElem? (i := 1488) (by decide +kernel), List.mem_of_getElem? (i := 1489) (by decide +kernel)⟩
theorem lw_p61 : lw_okq (⟨"NextFairModel", "readBoth", "(I)V"⟩, 38) := ⟨⟨by decide +kernel, by decide +kernel⟩, List.mem_of_getElem? (i := 1270) (by decide +kernel), List.mem_of_getElem? (i := 1492) (by decide +kernel), List.mem_of_getElem? (i := 1493) (by decide +kernel)⟩
theorem lw_p62 : lw_okq (⟨"NextFairModel", "readUnit", "(I)V"⟩, 38) := ⟨⟨by decide +kernel, by decide +kernel⟩, List.mem_of_getElem? (i := 1270) (by decide +kernel), List.mem_of_getElem? (i := 1496) (by decide +kernel), List.mem_of_getElem? (i := 1497) (by decide +kernel)⟩
theorem lw_p63 : lw_okq (⟨"NextFairModel", "isMerchant", "(J)Z"⟩, 38) := ⟨⟨by decide +kernel, by decide +kernel⟩, List.mem_of_getElem? (i := 1270) (by decide +kernel), List.mem_of_getElem? (i := 1508) (by decide +kernel), List.mem_of_getElem? (i := 1509) (by decide +kernel)⟩
def lw_privs_4 : List (MethodName × Nat) := [(⟨"NextFairModel", "takes", "(II)I"⟩, 38), (⟨"NextFairModel", "ends", "()V"⟩, 38), (⟨"NextFairModel", "readLine", "()V"⟩, 38), (⟨"NextFairModel", "readMerchant", "()V"⟩, 38), (⟨"NextFairModel", "readLetter", "()V"⟩, 38), (⟨"NextFairModel", "readLaw", "(I)V"⟩, 38), (⟨"NextFairModel", "readSum", "(I)V"⟩, 38), (⟨"NextFairModel", "readTerm", "(I)V"⟩, 38), (⟨"NextFairModel", "readAtom", "(I)V"⟩, 38), (⟨"NextFairModel", "codes", "(I)V"⟩, 38), (⟨"NextFairModel", "wordOf", "(I)I"⟩, 38), (⟨"NextFairModel", "goesIn", "(I)Z"⟩, 38), (⟨"NextFairModel", "readTruth", "(I)V"⟩, 38), (⟨"NextFairModel", "readBoth", "(I)V"⟩, 38), (⟨"NextFairModel", "readUnit", "(I)V"⟩, 38), (⟨"NextFairModel", "isMerchant", "(J)Z"⟩, 38)]
theorem lw_r4 : ∀ q ∈ lw_privs_4, lw_okq q := List.forall_mem_cons.mpr ⟨lw_p48, List.forall_mem_cons.mpr ⟨lw_p49, List.forall_mem_cons.mpr ⟨lw_p50, List.forall_mem_cons.mpr ⟨lw_p51, List.forall_mem_cons.mpr ⟨lw_p52, List.forall_mem_cons.mpr ⟨lw_p53, List.forall_mem_cons.mpr ⟨lw_p54, List.forall_mem_cons.mpr ⟨lw_p55, List.forall_mem_cons.mpr ⟨lw_p56, List.forall_mem_cons.mpr ⟨lw_p57, List.forall_mem_cons.mpr ⟨lw_p58, List.forall_mem_cons.mpr ⟨lw_p59, List.forall_mem_cons.mpr ⟨lw_p60, List.forall_mem_cons.mpr ⟨lw_p61, List.forall_mem_cons.mpr ⟨lw_p62, List.forall_mem_cons.mpr ⟨lw_p63, fun _ h => absurd h List.not_mem_nil⟩⟩⟩⟩⟩⟩⟩⟩⟩⟩⟩⟩⟩⟩⟩⟩
theorem lw_p64 : lw_okq (⟨"NextFairModel", "isBroken", "(I)Z"⟩, 38) := ⟨⟨by decide +kernel, by decide +kernel⟩, List.mem_of_getElem? (i := 1270) (by decide +kernel), List.mem_of_getElem? (i := 1512) (by decide +kernel), List.mem_of_getElem? (i := 1513) (by decide +kernel)⟩
theorem lw_p65 : lw_okq (⟨"NextFairModel", "sumOf", "(II)I"⟩, 38) := ⟨⟨by decide +kernel, by decide +kernel⟩, List.mem_of_getElem? (i := 1270) (by decide +kernel), List.mem_of_getElem? (i := 1519) (by decide +kernel), List.mem_of_getElem? (i := 1520) (by decide +kernel)⟩
theorem lw_p66 : lw_okq (⟨"NextFairModel", "isOwed", "(I)Z"⟩, 38) := ⟨⟨by decide +kernel, by decide +kernel⟩, List.mem_of_getElem? (i := 1270) (by decide +kernel), List.mem_of_getElem? (i := 1523) (by decide +kernel), List.mem_of_getElem? (i := 1524) (by decide +kernel)⟩
theorem lw_p67 : lw_okq (⟨"NextFairModel", "isLetter", "(J)Z"⟩, 38) := ⟨⟨by decide +kernel, by decide +kernel⟩, List.mem_of_getElem? (i := 1270) (by decide +kernel), List.mem_of_getElem? (i := 1531) (by decide +kernel), List.mem_of_getElem? (i := 1532) (by decide +kernel)⟩
theorem lw_p68 : lw_okq (⟨"NextFairModel", "isMoney", "(J)Z"⟩, 38) := ⟨⟨by decide +kernel, by decide +kernel⟩, List.mem_of_getElem? (i := 1270) (by decide +kernel), List.mem_of_getElem? (i := 1539) (by decide +kernel), List.mem_of_getElem? (i := 1540) (by decide +kernel)⟩
theorem lw_p69 : lw_okq (⟨"NextFairModel", "worthOf", "(II)I"⟩, 38) := ⟨⟨by decide +kernel, by decide +kernel⟩, List.mem_of_getElem? (i := 1270) (by decide +kernel), List.mem_of_getElem? (i := 1544) (by decide +kernel), List.mem_of_getElem? (i := 1545) (by decide +kernel)⟩
theorem lw_p70 : lw_okq (⟨"NextFairModel", "reckons", "(II)I"⟩, 38) := ⟨⟨by decide +kernel, by decide +kernel⟩, List.mem_of_getElem? (i := 1270) (by decide +kernel), List.mem_of_getElem? (i := 1548) (by decide +kernel), List.mem_of_getElem? (i := 1549) (by decide +kernel)⟩
theorem lw_p71 : lw_okq (⟨"NextFairModel", "keeps", "()V"⟩, 38) := ⟨⟨by decide +kernel, by decide +kernel⟩, List.mem_of_getElem? (i := 1270) (by decide +kernel), List.mem_of_getElem? (i := 1561) (by decide +kernel), List.mem_of_getElem? (i := 1562) (by decide +kernel)⟩
theorem lw_p72 : lw_okq (⟨"NextFairModel", "notes", "()V"⟩, 38) := ⟨⟨by decide +kernel, by decide +kernel⟩, List.mem_of_getElem? (i := 1270) (by decide +kernel), List.mem_of_getElem? (i := 1565) (by decide +kernel), List.mem_of_getElem? (i := 1566) (by decide +kernel)⟩
theorem lw_p73 : lw_okq (⟨"NextFairModel", "whyPay", "(J)I"⟩, 38) := ⟨⟨by decide +kernel, by decide +kernel⟩, List.mem_of_getElem? (i := 1270) (by decide +kernel), List.mem_of_getElem? (i := 1578) (by decide +kernel), List.mem_of_getElem? (i := 1579) (by decide +kernel)⟩
theorem lw_p74 : lw_okq (⟨"NextFairModel", "pays", "(I)V"⟩, 38) := ⟨⟨by decide +kernel, by decide +kernel⟩, List.mem_of_getElem? (i := 1270) (by decide +kernel), List.mem_of_getElem? (i := 1582) (by decide +kernel), List.mem_of_getElem? (i := 1583) (by decide +kernel)⟩
theorem lw_p75 : lw_okq (⟨"NextFairModel", "gives", "(III)V"⟩, 38) := ⟨⟨by decide +kernel, by decide +kernel⟩, List.mem_of_getElem? (i := 1270) (by decide +kernel), List.mem_of_getElem? (i := 1586) (by decide +kernel), List.mem_of_getElem? (i := 1587) (by decide +kernel)⟩
theorem lw_p76 : lw_okq (⟨"NextFairModel", "whyLend", "(JJJ)I"⟩, 38) := ⟨⟨by decide +kernel, by decide +kernel⟩, List.mem_of_getElem? (i := 1270) (by decide +kernel), List.mem_of_getElem? (i := 1595) (by decide +kernel), List.mem_of_getElem? (i := 1596) (by decide +kernel)⟩
theorem lw_p77 : lw_okq (⟨"NextFairModel", "noTray", "(I)I"⟩, 38) := ⟨⟨by decide +kernel, by decide +kernel⟩, List.mem_of_getElem? (i := 1270) (by decide +kernel), List.mem_of_getElem? (i := 1603) (by decide +kernel), List.mem_of_getElem? (i := 1604) (by decide +kernel)⟩
theorem lw_p78 : lw_okq (⟨"NextFairModel", "isRound", "()Z"⟩, 38) := ⟨⟨by decide +kernel, by decide +kernel⟩, List.mem_of_getElem? (i := 1270) (by decide +kernel), List.mem_of_getElem? (i := 1610) (by decide +kernel), List.mem_of_getElem? (i := 1611) (by decide +kernel)⟩
theorem lw_p79 : lw_okq (⟨"NextFairModel", "cancels", "()I"⟩, 38) := ⟨⟨by decide +kernel, by decide +kernel⟩, List.mem_of_getElem? (i := 1270) (by decide +kernel), List.mem_of_getElem? (i := 1614) (by decide +kernel), List.mem_of_getElem? (i := 1615) (by decide +kernel)⟩
def lw_privs_5 : List (MethodName × Nat) := [(⟨"NextFairModel", "isBroken", "(I)Z"⟩, 38), (⟨"NextFairModel", "sumOf", "(II)I"⟩, 38), (⟨"NextFairModel", "isOwed", "(I)Z"⟩, 38), (⟨"NextFairModel", "isLetter", "(J)Z"⟩, 38), (⟨"NextFairModel", "isMoney", "(J)Z"⟩, 38), (⟨"NextFairModel", "worthOf", "(II)I"⟩, 38), (⟨"NextFairModel", "reckons", "(II)I"⟩, 38), (⟨"NextFairModel", "keeps", "()V"⟩, 38), (⟨"NextFairModel", "notes", "()V"⟩, 38), (⟨"NextFairModel", "whyPay", "(J)I"⟩, 38), (⟨"NextFairModel", "pays", "(I)V"⟩, 38), (⟨"NextFairModel", "gives", "(III)V"⟩, 38), (⟨"NextFairModel", "whyLend", "(JJJ)I"⟩, 38), (⟨"NextFairModel", "noTray", "(I)I"⟩, 38), (⟨"NextFairModel", "isRound", "()Z"⟩, 38), (⟨"NextFairModel", "cancels", "()I"⟩, 38)]
theorem lw_r5 : ∀ q ∈ lw_privs_5, lw_okq q := List.forall_mem_cons.mpr ⟨lw_p64, List.forall_mem_cons.mpr ⟨lw_p65, List.forall_mem_cons.mpr ⟨lw_p66, List.forall_mem_cons.mpr ⟨lw_p67, List.forall_mem_cons.mpr ⟨lw_p68, List.forall_mem_cons.mpr ⟨lw_p69, List.forall_mem_cons.mpr ⟨lw_p70, List.forall_mem_cons.mpr ⟨lw_p71, List.forall_mem_cons.mpr ⟨lw_p72, List.forall_mem_cons.mpr ⟨lw_p73, List.forall_mem_cons.mpr ⟨lw_p74, List.forall_mem_cons.mpr ⟨lw_p75, List.forall_mem_cons.mpr ⟨lw_p76, List.forall_mem_cons.mpr ⟨lw_p77, List.forall_mem_cons.mpr ⟨lw_p78, List.forall_mem_cons.mpr ⟨lw_p79, fun _ h => absurd h List.not_mem_nil⟩⟩⟩⟩⟩⟩⟩⟩⟩⟩⟩⟩⟩⟩⟩⟩
theorem lw_p80 : lw_okq (⟨"NextFairModel", "leastOf", "()I"⟩, 38) := ⟨⟨by decide +kernel, by decide +kernel⟩, List.mem_of_getElem? (i := 1270) (by decide +kernel), List.mem_of_getElem? (i := 1618) (by decide +kernel), List.mem_of_getElem? (i := 1619) (by decide +kernel)⟩
theorem lw_p81 : lw_okq (⟨"NextFairModel", "goesMules", "()I"⟩, 38) := ⟨⟨by decide +kernel, by decide +kernel⟩, List.mem_of_getElem? (i := 1270) (by decide +kernel), List.mem_of_getElem? (i := 1626) (by decide +kernel), List.mem_of_getElem? (i := 1627) (by decide +kernel)⟩
theorem lw_p82 : lw_okq (⟨"NextFairModel", "dueAt", "(I)I"⟩, 38) := ⟨⟨by decide +kernel, by decide +kernel⟩, List.mem_of_getElem? (i := 1270) (by decide +kernel), List.mem_of_getElem? (i := 1630) (by decide +kernel), List.mem_of_getElem? (i := 1631) (by decide +kernel)⟩
theorem lw_p83 : lw_okq (⟨"NextFairModel", "draw", "(I)I"⟩, 38) := ⟨⟨by decide +kernel, by decide +kernel⟩, List.mem_of_getElem? (i := 1270) (by decide +kernel), List.mem_of_getElem? (i := 1634) (by decide +kernel), List.mem_of_getElem? (i := 1635) (by decide +kernel)⟩
theorem lw_p84 : lw_okq (⟨"NextFairModel", "goesFair", "(I)I"⟩, 38) := ⟨⟨by decide +kernel, by decide +kernel⟩, List.mem_of_getElem? (i := 1270) (by decide +kernel), List.mem_of_getElem? (i := 1639) (by decide +kernel), List.mem_of_getElem? (i := 1640) (by decide +kernel)⟩
theorem lw_p85 : lw_okq (⟨"NextFairModel", "isShort", "()Z"⟩, 38) := ⟨⟨by decide +kernel, by decide +kernel⟩, List.mem_of_getElem? (i := 1270) (by decide +kernel), List.mem_of_getElem? (i := 1646) (by decide +kernel), List.mem_of_getElem? (i := 1647) (by decide +kernel)⟩
theorem lw_p86 : lw_okq (⟨"NextFairModel", "laysNets", "(I)V"⟩, 38) := ⟨⟨by decide +kernel, by decide +kernel⟩, List.mem_of_getElem? (i := 1270) (by decide +kernel), List.mem_of_getElem? (i := 1650) (by decide +kernel), List.mem_of_getElem? (i := 1651) (by decide +kernel)⟩
theorem lw_p87 : lw_okq (⟨"NextFairModel", "givesTime", "(III)Z"⟩, 38) := ⟨⟨by decide +kernel, by decide +kernel⟩, List.mem_of_getElem? (i := 1270) (by decide +kernel), List.mem_of_getElem? (i := 1654) (by decide +kernel), List.mem_of_getElem? (i := 1655) (by decide +kernel)⟩
theorem lw_p88 : lw_okq (⟨"NextFairModel", "putsOff", "(I)V"⟩, 38) := ⟨⟨by decide +kernel, by decide +kernel⟩, List.mem_of_getElem? (i := 1270) (by decide +kernel), List.mem_of_getElem? (i := 1658) (by decide +kernel), List.mem_of_getElem? (i := 1659) (by decide +kernel)⟩
theorem lw_p89 : lw_okq (⟨"NextFairModel", "breaks", "(I)V"⟩, 38) := ⟨⟨by decide +kernel, by decide +kernel⟩, List.mem_of_getElem? (i := 1270) (by decide +kernel), List.mem_of_getElem? (i := 1662) (by decide +kernel), List.mem_of_getElem? (i := 1663) (by decide +kernel)⟩
theorem lw_p90 : lw_okq (⟨"NextFairModel", "tells", "(I)I"⟩, 38) := ⟨⟨by decide +kernel, by decide +kernel⟩, List.mem_of_getElem? (i := 1270) (by decide +kernel), List.mem_of_getElem? (i := 1675) (by decide +kernel), List.mem_of_getElem? (i := 1676) (by decide +kernel)⟩
theorem lw_p91 : lw_okq (⟨"NextFairModel", "whyNot", "(J)I"⟩, 38) := ⟨⟨by decide +kernel, by decide +kernel⟩, List.mem_of_getElem? (i := 1270) (by decide +kernel), List.mem_of_getElem? (i := 1679) (by decide +kernel), List.mem_of_getElem? (i := 1680) (by decide +kernel)⟩
theorem lw_p92 : lw_okq (⟨"NextFairModel", "whyTwo", "(II)I"⟩, 38) := ⟨⟨by decide +kernel, by decide +kernel⟩, List.mem_of_getElem? (i := 1270) (by decide +kernel), List.mem_of_getElem? (i := 1688) (by decide +kernel), List.mem_of_getElem? (i := 1689) (by decide +kernel)⟩
theorem lw_p93 : lw_okq (⟨"NextFairModel", "does", "(I)V"⟩, 38) := ⟨⟨by decide +kernel, by decide +kernel⟩, List.mem_of_getElem? (i := 1270) (by decide +kernel), List.mem_of_getElem? (i := 1694) (by decide +kernel), List.mem_of_getElem? (i := 1695) (by decide +kernel)⟩
theorem lw_p94 : lw_okq (⟨"NextFairModel", "isAgain", "()V"⟩, 38) := ⟨⟨by decide +kernel, by decide +kernel⟩, List.mem_of_getElem? (i := 1270) (by decide +kernel), List.mem_of_getElem? (i := 1698) (by decide +kernel), List.mem_of_getElem? (i := 1699) (by decide +kernel)⟩
theorem lw_p95 : lw_okq (⟨"NextFairModel", "drawn", "()I"⟩, 38) := ⟨⟨by decide +kernel, by decide +kernel⟩, List.mem_of_getElem? (i := 1270) (by decide +kernel), List.mem_of_getElem? (i := 1711) (by decide +kernel), List.mem_of_getElem? (i := 1712) (by decide +kernel)⟩
def lw_privs_6 : List (MethodName × Nat) := [(⟨"NextFairModel", "leastOf", "()I"⟩, 38), (⟨"NextFairModel", "goesMules", "()I"⟩, 38), (⟨"NextFairModel", "dueAt", "(I)I"⟩, 38), (⟨"NextFairModel", "draw", "(I)I"⟩, 38), (⟨"NextFairModel", "goesFair", "(I)I"⟩, 38), (⟨"NextFairModel", "isShort", "()Z"⟩, 38), (⟨"NextFairModel", "laysNets", "(I)V"⟩, 38), (⟨"NextFairModel", "givesTime", "(III)Z"⟩, 38), (⟨"NextFairModel", "putsOff", "(I)V"⟩, 38), (⟨"NextFairModel", "breaks", "(I)V"⟩, 38), (⟨"NextFairModel", "tells", "(I)I"⟩, 38), (⟨"NextFairModel", "whyNot", "(J)I"⟩, 38), (⟨"NextFairModel", "whyTwo", "(II)I"⟩, 38), (⟨"NextFairModel", "does", "(I)V"⟩, 38), (⟨"NextFairModel", "isAgain", "()V"⟩, 38), (⟨"NextFairModel", "drawn", "()I"⟩, 38)]
theorem lw_r6 : ∀ q ∈ lw_privs_6, lw_okq q := List.forall_mem_cons.mpr ⟨lw_p80, List.forall_mem_cons.mpr ⟨lw_p81, List.forall_mem_cons.mpr ⟨lw_p82, List.forall_mem_cons.mpr ⟨lw_p83, List.forall_mem_cons.mpr ⟨lw_p84, List.forall_mem_cons.mpr ⟨lw_p85, List.forall_mem_cons.mpr ⟨lw_p86, List.forall_mem_cons.mpr ⟨lw_p87, List.forall_mem_cons.mpr ⟨lw_p88, List.forall_mem_cons.mpr ⟨lw_p89, List.forall_mem_cons.mpr ⟨lw_p90, List.forall_mem_cons.mpr ⟨lw_p91, List.forall_mem_cons.mpr ⟨lw_p92, List.forall_mem_cons.mpr ⟨lw_p93, List.forall_mem_cons.mpr ⟨lw_p94, List.forall_mem_cons.mpr ⟨lw_p95, fun _ h => absurd h List.not_mem_nil⟩⟩⟩⟩⟩⟩⟩⟩⟩⟩⟩⟩⟩⟩⟩⟩
theorem lw_p96 : lw_okq (⟨"NextFairModel", "coinOf", "(I)I"⟩, 38) := ⟨⟨by decide +kernel, by decide +kernel⟩, List.mem_of_getElem? (i := 1270) (by decide +kernel), List.mem_of_getElem? (i := 1732) (by decide +kernel), List.mem_of_getElem? (i := 1733) (by decide +kernel)⟩
theorem lw_p97 : lw_okq (⟨"NextFairModel", "grossOf", "(I)I"⟩, 38) := ⟨⟨by decide +kernel, by decide +kernel⟩, List.mem_of_getElem? (i := 1270) (by decide +kernel), List.mem_of_getElem? (i := 1736) (by decide +kernel), List.mem_of_getElem? (i := 1737) (by decide +kernel)⟩
theorem lw_p98 : lw_okq (⟨"NextFairModel", "goesFairs", "(I)V"⟩, 38) := ⟨⟨by decide +kernel, by decide +kernel⟩, List.mem_of_getElem? (i := 1270) (by decide +kernel), List.mem_of_getElem? (i := 1748) (by decide +kernel), List.mem_of_getElem? (i := 1749) (by decide +kernel)⟩
theorem lw_p99 : lw_okq (⟨"NextFairModel", "brokenIn", "(I)I"⟩, 38) := ⟨⟨by decide +kernel, by decide +kernel⟩, List.mem_of_getElem? (i := 1270) (by decide +kernel), List.mem_of_getElem? (i := 1760) (by decide +kernel), List.mem_of_getElem? (i := 1761) (by decide +kernel)⟩
theorem lw_p100 : lw_okq (⟨"NextFairModel", "noOne", "(II)I"⟩, 38) := ⟨⟨by decide +kernel, by decide +kernel⟩, List.mem_of_getElem? (i := 1270) (by decide +kernel), List.mem_of_getElem? (i := 1768) (by decide +kernel), List.mem_of_getElem? (i := 1769) (by decide +kernel)⟩
theorem lw_p101 : lw_okq (⟨"NextFairModel", "chainOf", "(II)I"⟩, 38) := ⟨⟨by decide +kernel, by decide +kernel⟩, List.mem_of_getElem? (i := 1270) (by decide +kernel), List.mem_of_getElem? (i := 1772) (by decide +kernel), List.mem_of_getElem? (i := 1773) (by decide +kernel)⟩
theorem lw_p102 : lw_okq (⟨"NextFairModel", "brokenWith", "(III)I"⟩, 38) := ⟨⟨by decide +kernel, by decide +kernel⟩, List.mem_of_getElem? (i := 1270) (by decide +kernel), List.mem_of_getElem? (i := 1784) (by decide +kernel), List.mem_of_getElem? (i := 1785) (by decide +kernel)⟩
theorem lw_p103 : lw_okq (⟨"NextFairModel", "laysRounds", "()V"⟩, 38) := ⟨⟨by decide +kernel, by decide +kernel⟩, List.mem_of_getElem? (i := 1270) (by decide +kernel), List.mem_of_getElem? (i := 1796) (by decide +kernel), List.mem_of_getElem? (i := 1797) (by decide +kernel)⟩
theorem lw_p104 : lw_okq (⟨"NextFairModel", "goesRound", "(I)V"⟩, 38) := ⟨⟨by decide +kernel, by decide +kernel⟩, List.mem_of_getElem? (i := 1270) (by decide +kernel), List.mem_of_getElem? (i := 1800) (by decide +kernel), List.mem_of_getElem? (i := 1801) (by decide +kernel)⟩
theorem lw_p105 : lw_okq (⟨"NextFairModel", "laysRound", "()V"⟩, 38) := ⟨⟨by decide +kernel, by decide +kernel⟩, List.mem_of_getElem? (i := 1270) (by decide +kernel), List.mem_of_getElem? (i := 1804) (by decide +kernel), List.mem_of_getElem? (i := 1805) (by decide +kernel)⟩
theorem lw_p106 : lw_okq (⟨"NextFairModel", "odds", "(I)I"⟩, 38) := ⟨⟨by decide +kernel, by decide +kernel⟩, List.mem_of_getElem? (i := 1270) (by decide +kernel), List.mem_of_getElem? (i := 1821) (by decide +kernel), List.mem_of_getElem? (i := 1822) (by decide +kernel)⟩
theorem lw_p107 : lw_okq (⟨"NextFairModel", "brokenBy", "(I)I"⟩, 38) := ⟨⟨by decide +kernel, by decide +kernel⟩, List.mem_of_getElem? (i := 1270) (by decide +kernel), List.mem_of_getElem? (i := 1825) (by decide +kernel), List.mem_of_getElem? (i := 1826) (by decide +kernel)⟩
theorem lw_p108 : lw_okq (⟨"NextFairModel", "goesChanging", "(IIIJ)V"⟩, 38) := ⟨⟨by decide +kernel, by decide +kernel⟩, List.mem_of_getElem? (i := 1270) (by decide +kernel), List.mem_of_getElem? (i := 1846) (by decide +kernel), List.mem_of_getElem? (i := 1847) (by decide +kernel)⟩
theorem lw_p109 : lw_okq (⟨"NextFairModel", "noSeen", "(I)I"⟩, 38) := ⟨⟨by decide +kernel, by decide +kernel⟩, List.mem_of_getElem? (i := 1270) (by decide +kernel), List.mem_of_getElem? (i := 1863) (by decide +kernel), List.mem_of_getElem? (i := 1864) (by decide +kernel)⟩
theorem lw_p110 : lw_okq (⟨"NextFairModel", "laysMissing", "(I)I"⟩, 38) := ⟨⟨by decide +kernel, by decide +kernel⟩, List.mem_of_getElem? (i := 1270) (by decide +kernel), List.mem_of_getElem? (i := 1867) (by decide +kernel), List.mem_of_getElem? (i := 1868) (by decide +kernel)⟩
theorem lw_p111 : lw_okq (⟨"NextFairModel", "owedSet", "()I"⟩, 38) := ⟨⟨by decide +kernel, by decide +kernel⟩, List.mem_of_getElem? (i := 1270) (by decide +kernel), List.mem_of_getElem? (i := 1904) (by decide +kernel), List.mem_of_getElem? (i := 1905) (by decide +kernel)⟩
def lw_privs_7 : List (MethodName × Nat) := [(⟨"NextFairModel", "coinOf", "(I)I"⟩, 38), (⟨"NextFairModel", "grossOf", "(I)I"⟩, 38), (⟨"NextFairModel", "goesFairs", "(I)V"⟩, 38), (⟨"NextFairModel", "brokenIn", "(I)I"⟩, 38), (⟨"NextFairModel", "noOne", "(II)I"⟩, 38), (⟨"NextFairModel", "chainOf", "(II)I"⟩, 38), (⟨"NextFairModel", "brokenWith", "(III)I"⟩, 38), (⟨"NextFairModel", "laysRounds", "()V"⟩, 38), (⟨"NextFairModel", "goesRound", "(I)V"⟩, 38), (⟨"NextFairModel", "laysRound", "()V"⟩, 38), (⟨"NextFairModel", "odds", "(I)I"⟩, 38), (⟨"NextFairModel", "brokenBy", "(I)I"⟩, 38), (⟨"NextFairModel", "goesChanging", "(IIIJ)V"⟩, 38), (⟨"NextFairModel", "noSeen", "(I)I"⟩, 38), (⟨"NextFairModel", "laysMissing", "(I)I"⟩, 38), (⟨"NextFairModel", "owedSet", "()I"⟩, 38)]
theorem lw_r7 : ∀ q ∈ lw_privs_7, lw_okq q := List.forall_mem_cons.mpr ⟨lw_p96, List.forall_mem_cons.mpr ⟨lw_p97, List.forall_mem_cons.mpr ⟨lw_p98, List.forall_mem_cons.mpr ⟨lw_p99, List.forall_mem_cons.mpr ⟨lw_p100, List.forall_mem_cons.mpr ⟨lw_p101, List.forall_mem_cons.mpr ⟨lw_p102, List.forall_mem_cons.mpr ⟨lw_p103, List.forall_mem_cons.mpr ⟨lw_p104, List.forall_mem_cons.mpr ⟨lw_p105, List.forall_mem_cons.mpr ⟨lw_p106, List.forall_mem_cons.mpr ⟨lw_p107, List.forall_mem_cons.mpr ⟨lw_p108, List.forall_mem_cons.mpr ⟨lw_p109, List.forall_mem_cons.mpr ⟨lw_p110, List.forall_mem_cons.mpr ⟨lw_p111, fun _ h => absurd h List.not_mem_nil⟩⟩⟩⟩⟩⟩⟩⟩⟩⟩⟩⟩⟩⟩⟩⟩
theorem lw_p112 : lw_okq (⟨"NextFairModel", "cashAll", "()I"⟩, 38) := ⟨⟨by decide +kernel, by decide +kernel⟩, List.mem_of_getElem? (i := 1270) (by decide +kernel), List.mem_of_getElem? (i := 1908) (by decide +kernel), List.mem_of_getElem? (i := 1909) (by decide +kernel)⟩
def lw_privs_8 : List (MethodName × Nat) := [(⟨"NextFairModel", "cashAll", "()I"⟩, 38)]
theorem lw_r8 : ∀ q ∈ lw_privs_8, lw_okq q := List.forall_mem_cons.mpr ⟨lw_p112, fun _ h => absurd h List.not_mem_nil⟩
def lw_privs : List (MethodName × Nat) := lw_privs_1 ++ (lw_privs_2 ++ (lw_privs_3 ++ (lw_privs_4 ++ (lw_privs_5 ++ (lw_privs_6 ++ (lw_privs_7 ++ (lw_privs_8)))))))
def lw_tbl : List Cond := k2_sels lw_privs ++ tables_1
theorem lw_privs_ok : ∀ q ∈ lw_privs, lw_okq q := by
  show ∀ q ∈ lw_privs_1 ++ (lw_privs_2 ++ (lw_privs_3 ++ (lw_privs_4 ++ (lw_privs_5 ++ (lw_privs_6 ++ (lw_privs_7 ++ (lw_privs_8))))))), lw_okq q
  exact List.forall_mem_append.mpr ⟨lw_r1, List.forall_mem_append.mpr ⟨lw_r2, List.forall_mem_append.mpr ⟨lw_r3, List.forall_mem_append.mpr ⟨lw_r4, List.forall_mem_append.mpr ⟨lw_r5, List.forall_mem_append.mpr ⟨lw_r6, List.forall_mem_append.mpr ⟨lw_r7, lw_r8⟩⟩⟩⟩⟩⟩⟩
def R_law : String := "NextFairLaw"
def RX0 : String := "NextFair$Book"
def TX0 : u_T := fun k => match k with
  | 0 => ("NextFair$Book", "fairsAYear", "I", false)
  | 1 => ("NextFair$Book", "moneys", "I", false)
  | 2 => ("NextFair$Book", "lines", "I", false)
  | 3 => ("NextFair$Book", "code", "[I", true)
  | 4 => ("NextFair$Book", "codeLength", "I", false)
  | 5 => ("NextFair$Book", "worthFrom", "I", false)
  | 6 => ("NextFair$Book", "worthTo", "I", false)
  | 7 => ("NextFair$Book", "timeFrom", "I", false)
  | 8 => ("NextFair$Book", "timeTo", "I", false)
  | _ => ("NextFair$Book", "stack", "[I", true)
def tyX0 : Nat → FieldType := fun k => match k with
  | 0 => .int
  | 1 => .int
  | 2 => .int
  | 3 => .array .int
  | 4 => .int
  | 5 => .int
  | 6 => .int
  | 7 => .int
  | 8 => .int
  | _ => .array .int
theorem nmX0 : ∀ a, a < 10 → ∀ b, b < 10 → a ≠ b → (TX0 a).2.1 ≠ (TX0 b).2.1 := by decide +kernel
theorem tyX0_ok : ∀ k, k < 10 → parseFieldDescriptor (TX0 k).2.2.1 = some (tyX0 k) := by decide +kernel
abbrev cX0_init : ByteArray := prog_2_method_1_code
def yX0_init : MethodName := ⟨RX0, "<init>", "()V"⟩
abbrev cX0_clear : ByteArray := prog_2_method_2_code
def yX0_clear : MethodName := ⟨RX0, "clear", "()V"⟩
abbrev cX0_copyFrom : ByteArray := prog_2_method_3_code
def yX0_copyFrom : MethodName := ⟨RX0, "copyFrom", "(LNextFair$Book;)V"⟩
abbrev cX0_hasMoney : ByteArray := prog_2_method_4_code
def yX0_hasMoney : MethodName := ⟨RX0, "hasMoney", "(I)Z"⟩
abbrev cX0_addCode : ByteArray := prog_2_method_5_code
def yX0_addCode : MethodName := ⟨RX0, "addCode", "(I)V"⟩
abbrev cX0_setLaw : ByteArray := prog_2_method_6_code
def yX0_setLaw : MethodName := ⟨RX0, "setLaw", "(ZI)V"⟩
abbrev cX0_coppers : ByteArray := prog_2_method_7_code
def yX0_coppers : MethodName := ⟨RX0, "coppers", "(II)I"⟩
abbrev cX0_tell : ByteArray := prog_2_method_8_code
def yX0_tell : MethodName := ⟨RX0, "tell", "(ZIIII)I"⟩
abbrev cX0_read : ByteArray := prog_2_method_9_code
def yX0_read : MethodName := ⟨RX0, "read", "(IIIII)I"⟩
abbrev cX0_join : ByteArray := prog_2_method_10_code
def yX0_join : MethodName := ⟨RX0, "join", "(III)I"⟩
abbrev cX0_timeMindsCash : ByteArray := prog_2_method_11_code
def yX0_timeMindsCash : MethodName := ⟨RX0, "timeMindsCash", "()Z"⟩
def RX1 : String := "NextFair$Deeds"
def TX1 : u_T := fun k => match k with
  | 0 => ("NextFair$Deeds", "ring", "[I", true)
  | _ => ("NextFair$Deeds", "why", "I", false)
def tyX1 : Nat → FieldType := fun k => match k with
  | 0 => .array .int
  | _ => .int
theorem nmX1 : ∀ a, a < 2 → ∀ b, b < 2 → a ≠ b → (TX1 a).2.1 ≠ (TX1 b).2.1 := by decide +kernel
theorem tyX1_ok : ∀ k, k < 2 → parseFieldDescriptor (TX1 k).2.2.1 = some (tyX1 k) := by decide +kernel
abbrev cX1_init : ByteArray := prog_3_method_1_code
def yX1_init : MethodName := ⟨RX1, "<init>", "()V"⟩
abbrev cX1_whyNotRing : ByteArray := prog_3_method_2_code
def yX1_whyNotRing : MethodName := ⟨RX1, "whyNotRing", "(LNextFair$World;LNextFair$Tray;)I"⟩
abbrev cX1_doTray : ByteArray := prog_3_method_3_code
def yX1_doTray : MethodName := ⟨RX1, "doTray", "(LNextFair$World;LNextFair$Book;LNextFair$Tray;)I"⟩
abbrev cX1_doOne : ByteArray := prog_3_method_4_code
def yX1_doOne : MethodName := ⟨RX1, "doOne", "(LNextFair$World;LNextFair$Book;J)I"⟩
abbrev cX1_doPay : ByteArray := prog_3_method_5_code
def yX1_doPay : MethodName := ⟨RX1, "doPay", "(LNextFair$World;I)I"⟩
abbrev cX1_doCancel : ByteArray := prog_3_method_6_code
def yX1_doCancel : MethodName := ⟨RX1, "doCancel", "(LNextFair$World;II)I"⟩
abbrev cX1_doLend : ByteArray := prog_3_method_7_code
def yX1_doLend : MethodName := ⟨RX1, "doLend", "(LNextFair$World;II)I"⟩
abbrev cX1_doYear : ByteArray := prog_3_method_8_code
def yX1_doYear : MethodName := ⟨RX1, "doYear", "(LNextFair$World;LNextFair$Book;I)I"⟩
abbrev cX1_doDrawn : ByteArray := prog_3_method_9_code
def yX1_doDrawn : MethodName := ⟨RX1, "doDrawn", "(LNextFair$World;LNextFair$Book;)I"⟩
def RX2 : String := "NextFair$Exchange"
def TX2 : u_T := fun k => match k with
  | 0 => ("NextFair$Exchange", "most", "J", false)
  | 1 => ("NextFair$Exchange", "had", "[I", true)
  | 2 => ("NextFair$Exchange", "worths", "[I", true)
  | 3 => ("NextFair$Exchange", "coinsOf", "[I", true)
  | 4 => ("NextFair$Exchange", "changedTo", "[I", true)
  | 5 => ("NextFair$Exchange", "moneys", "I", false)
  | _ => ("NextFair$Exchange", "last", "I", false)
def tyX2 : Nat → FieldType := fun k => match k with
  | 0 => .long
  | 1 => .array .int
  | 2 => .array .int
  | 3 => .array .int
  | 4 => .array .int
  | 5 => .int
  | _ => .int
theorem nmX2 : ∀ a, a < 7 → ∀ b, b < 7 → a ≠ b → (TX2 a).2.1 ≠ (TX2 b).2.1 := by decide +kernel
theorem tyX2_ok : ∀ k, k < 7 → parseFieldDescriptor (TX2 k).2.2.1 = some (tyX2 k) := by decide +kernel
abbrev cX2_init : ByteArray := prog_4_method_1_code
def yX2_init : MethodName := ⟨RX2, "<init>", "()V"⟩
abbrev cX2_plan : ByteArray := prog_4_method_2_code
def yX2_plan : MethodName := ⟨RX2, "plan", "(LNextFair$Book;IIII)V"⟩
abbrev cX2_changed : ByteArray := prog_4_method_3_code
def yX2_changed : MethodName := ⟨RX2, "changed", "(IIII)I"⟩
abbrev cX2_mostFrom : ByteArray := prog_4_method_4_code
def yX2_mostFrom : MethodName := ⟨RX2, "mostFrom", "(III)J"⟩
abbrev cX2_changeAll : ByteArray := prog_4_method_5_code
def yX2_changeAll : MethodName := ⟨RX2, "changeAll", "(I)V"⟩
def RX3 : String := "NextFair$Guess"
def TX3 : u_T := fun k => match k with
  | 0 => ("NextFair$Guess", "world", "LNextFair$World;", true)
  | 1 => ("NextFair$Guess", "uncertain", "[I", true)
  | _ => ("NextFair$Guess", "cashWithout", "[I", true)
def tyX3 : Nat → FieldType := fun k => match k with
  | 0 => .object "NextFair$World"
  | 1 => .array .int
  | _ => .array .int
theorem nmX3 : ∀ a, a < 3 → ∀ b, b < 3 → a ≠ b → (TX3 a).2.1 ≠ (TX3 b).2.1 := by decide +kernel
theorem tyX3_ok : ∀ k, k < 3 → parseFieldDescriptor (TX3 k).2.2.1 = some (tyX3 k) := by decide +kernel
abbrev cX3_init : ByteArray := prog_5_method_1_code
def yX3_init : MethodName := ⟨RX3, "<init>", "()V"⟩
abbrev cX3_breakHere : ByteArray := prog_5_method_2_code
def yX3_breakHere : MethodName := ⟨RX3, "breakHere", "(LNextFair$Book;LNextFair$World;I)I"⟩
abbrev cX3_odds : ByteArray := prog_5_method_3_code
def yX3_odds : MethodName := ⟨RX3, "odds", "(LNextFair$Book;LNextFair$World;I)I"⟩
abbrev cX3_delaySome : ByteArray := prog_5_method_4_code
def yX3_delaySome : MethodName := ⟨RX3, "delaySome", "(LNextFair$World;II)J"⟩
abbrev cX3_explaining : ByteArray := prog_5_method_5_code
def yX3_explaining : MethodName := ⟨RX3, "explaining", "(LNextFair$Book;LNextFair$World;LNextFair$Tray;)I"⟩
abbrev cX3_tellsMost : ByteArray := prog_5_method_6_code
def yX3_tellsMost : MethodName := ⟨RX3, "tellsMost", "(II)I"⟩
abbrev cX3_mostAlike : ByteArray := prog_5_method_7_code
def yX3_mostAlike : MethodName := ⟨RX3, "mostAlike", "(II)I"⟩
def RX4 : String := "NextFair$Image"
def TX4 : u_T := fun k => match k with
  | 0 => ("NextFair$Image", "book", "LNextFair$Book;", true)
  | 1 => ("NextFair$Image", "world", "LNextFair$World;", true)
  | _ => ("NextFair$Image", "made", "Z", false)
def tyX4 : Nat → FieldType := fun k => match k with
  | 0 => .object "NextFair$Book"
  | 1 => .object "NextFair$World"
  | _ => .boolean
theorem nmX4 : ∀ a, a < 3 → ∀ b, b < 3 → a ≠ b → (TX4 a).2.1 ≠ (TX4 b).2.1 := by decide +kernel
theorem tyX4_ok : ∀ k, k < 3 → parseFieldDescriptor (TX4 k).2.2.1 = some (tyX4 k) := by decide +kernel
abbrev cX4_init : ByteArray := prog_6_method_1_code
def yX4_init : MethodName := ⟨RX4, "<init>", "()V"⟩
def RX5 : String := "NextFair$Outlook"
def TX5 : u_T := fun k => match k with
  | 0 => ("NextFair$Outlook", "world", "LNextFair$World;", true)
  | 1 => ("NextFair$Outlook", "cashAt", "[I", true)
  | 2 => ("NextFair$Outlook", "shortAt", "[I", true)
  | _ => ("NextFair$Outlook", "held", "I", false)
def tyX5 : Nat → FieldType := fun k => match k with
  | 0 => .object "NextFair$World"
  | 1 => .array .int
  | 2 => .array .int
  | _ => .int
theorem nmX5 : ∀ a, a < 4 → ∀ b, b < 4 → a ≠ b → (TX5 a).2.1 ≠ (TX5 b).2.1 := by decide +kernel
theorem tyX5_ok : ∀ k, k < 4 → parseFieldDescriptor (TX5 k).2.2.1 = some (tyX5 k) := by decide +kernel
abbrev cX5_init : ByteArray := prog_7_method_1_code
def yX5_init : MethodName := ⟨RX5, "<init>", "()V"⟩
abbrev cX5_start : ByteArray := prog_7_method_2_code
def yX5_start : MethodName := ⟨RX5, "start", "(LNextFair$World;)V"⟩
abbrev cX5_go : ByteArray := prog_7_method_3_code
def yX5_go : MethodName := ⟨RX5, "go", "(LNextFair$Book;I)V"⟩
abbrev cX5_brokenBehind : ByteArray := prog_7_method_4_code
def yX5_brokenBehind : MethodName := ⟨RX5, "brokenBehind", "(LNextFair$Book;LNextFair$World;I)I"⟩
abbrev cX5_brokenBesides : ByteArray := prog_7_method_5_code
def yX5_brokenBesides : MethodName := ⟨RX5, "brokenBesides", "(LNextFair$Book;LNextFair$World;II)I"⟩
abbrev cX5_leastSaving : ByteArray := prog_7_method_6_code
def yX5_leastSaving : MethodName := ⟨RX5, "leastSaving", "(LNextFair$Book;LNextFair$World;II)I"⟩
abbrev cX5_goTillBroken : ByteArray := prog_7_method_7_code
def yX5_goTillBroken : MethodName := ⟨RX5, "goTillBroken", "(LNextFair$Book;II)V"⟩
abbrev cX5_alike : ByteArray := prog_7_method_8_code
def yX5_alike : MethodName := ⟨RX5, "alike", "(LNextFair$Book;II)I"⟩
abbrev cX5_goesAlike : ByteArray := prog_7_method_9_code
def yX5_goesAlike : MethodName := ⟨RX5, "goesAlike", "(LNextFair$Book;III)Z"⟩
def RX6 : String := "NextFair$Past"
def TX6 : u_T := fun k => match k with
  | 0 => ("NextFair$Past", "rows", "[LNextFair$World;", true)
  | 1 => ("NextFair$Past", "eldest", "I", false)
  | _ => ("NextFair$Past", "size", "I", false)
def tyX6 : Nat → FieldType := fun k => match k with
  | 0 => .array (.object "NextFair$World")
  | 1 => .int
  | _ => .int
theorem nmX6 : ∀ a, a < 3 → ∀ b, b < 3 → a ≠ b → (TX6 a).2.1 ≠ (TX6 b).2.1 := by decide +kernel
theorem tyX6_ok : ∀ k, k < 3 → parseFieldDescriptor (TX6 k).2.2.1 = some (tyX6 k) := by decide +kernel
abbrev cX6_init : ByteArray := prog_8_method_1_code
def yX6_init : MethodName := ⟨RX6, "<init>", "()V"⟩
abbrev cX6_forget : ByteArray := prog_8_method_2_code
def yX6_forget : MethodName := ⟨RX6, "forget", "()V"⟩
abbrev cX6_row : ByteArray := prog_8_method_3_code
def yX6_row : MethodName := ⟨RX6, "row", "(I)LNextFair$World;"⟩
abbrev cX6_remember : ByteArray := prog_8_method_4_code
def yX6_remember : MethodName := ⟨RX6, "remember", "(LNextFair$World;)V"⟩
abbrev cX6_bringBack : ByteArray := prog_8_method_5_code
def yX6_bringBack : MethodName := ⟨RX6, "bringBack", "(LNextFair$World;I)V"⟩
def RX7 : String := "NextFair$Reader"
def TX7 : u_T := fun k => match k with
  | 0 => ("NextFair$Reader", "book", "LNextFair$Book;", true)
  | 1 => ("NextFair$Reader", "world", "LNextFair$World;", true)
  | 2 => ("NextFair$Reader", "fault", "I", false)
  | 3 => ("NextFair$Reader", "faultPlace", "I", false)
  | 4 => ("NextFair$Reader", "kinds", "[I", true)
  | 5 => ("NextFair$Reader", "values", "[I", true)
  | 6 => ("NextFair$Reader", "places", "[I", true)
  | 7 => ("NextFair$Reader", "tokens", "I", false)
  | 8 => ("NextFair$Reader", "next", "I", false)
  | 9 => ("NextFair$Reader", "kind", "I", false)
  | 10 => ("NextFair$Reader", "number", "I", false)
  | _ => ("NextFair$Reader", "inTime", "Z", false)
def tyX7 : Nat → FieldType := fun k => match k with
  | 0 => .object "NextFair$Book"
  | 1 => .object "NextFair$World"
  | 2 => .int
  | 3 => .int
  | 4 => .array .int
  | 5 => .array .int
  | 6 => .array .int
  | 7 => .int
  | 8 => .int
  | 9 => .int
  | 10 => .int
  | _ => .boolean
theorem nmX7 : ∀ a, a < 12 → ∀ b, b < 12 → a ≠ b → (TX7 a).2.1 ≠ (TX7 b).2.1 := by decide +kernel
theorem tyX7_ok : ∀ k, k < 12 → parseFieldDescriptor (TX7 k).2.2.1 = some (tyX7 k) := by decide +kernel
abbrev cX7_init : ByteArray := prog_9_method_1_code
def yX7_init : MethodName := ⟨RX7, "<init>", "()V"⟩
abbrev cX7_read : ByteArray := prog_9_method_2_code
def yX7_read : MethodName := ⟨RX7, "read", "([BI)Z"⟩
abbrev cX7_split : ByteArray := prog_9_method_3_code
def yX7_split : MethodName := ⟨RX7, "split", "([BI)V"⟩
abbrev cX7_sortOf : ByteArray := prog_9_method_4_code
def yX7_sortOf : MethodName := ⟨RX7, "sortOf", "(B)I"⟩
abbrev cX7_addToken : ByteArray := prog_9_method_5_code
def yX7_addToken : MethodName := ⟨RX7, "addToken", "(III)V"⟩
abbrev cX7_addNumber : ByteArray := prog_9_method_6_code
def yX7_addNumber : MethodName := ⟨RX7, "addNumber", "([BII)V"⟩
abbrev cX7_wordKind : ByteArray := prog_9_method_7_code
def yX7_wordKind : MethodName := ⟨RX7, "wordKind", "([BII)I"⟩
abbrev cX7_step : ByteArray := prog_9_method_8_code
def yX7_step : MethodName := ⟨RX7, "step", "()V"⟩
abbrev cX7_refuse : ByteArray := prog_9_method_9_code
def yX7_refuse : MethodName := ⟨RX7, "refuse", "(I)Z"⟩
abbrev cX7_take : ByteArray := prog_9_method_10_code
def yX7_take : MethodName := ⟨RX7, "take", "(I)Z"⟩
abbrev cX7_takeNumber : ByteArray := prog_9_method_11_code
def yX7_takeNumber : MethodName := ⟨RX7, "takeNumber", "(II)Z"⟩
abbrev cX7_readHead : ByteArray := prog_9_method_12_code
def yX7_readHead : MethodName := ⟨RX7, "readHead", "()Z"⟩
abbrev cX7_readMerchant : ByteArray := prog_9_method_13_code
def yX7_readMerchant : MethodName := ⟨RX7, "readMerchant", "()Z"⟩
abbrev cX7_readLetter : ByteArray := prog_9_method_14_code
def yX7_readLetter : MethodName := ⟨RX7, "readLetter", "()Z"⟩
abbrev cX7_readFirstFair : ByteArray := prog_9_method_15_code
def yX7_readFirstFair : MethodName := ⟨RX7, "readFirstFair", "()Z"⟩
abbrev cX7_readLaw : ByteArray := prog_9_method_16_code
def yX7_readLaw : MethodName := ⟨RX7, "readLaw", "(Z)Z"⟩
abbrev cX7_readJoined : ByteArray := prog_9_method_17_code
def yX7_readJoined : MethodName := ⟨RX7, "readJoined", "(II)Z"⟩
abbrev cX7_joinTold : ByteArray := prog_9_method_18_code
def yX7_joinTold : MethodName := ⟨RX7, "joinTold", "(I)I"⟩
abbrev cX7_readPart : ByteArray := prog_9_method_19_code
def yX7_readPart : MethodName := ⟨RX7, "readPart", "(II)Z"⟩
abbrev cX7_readUnit : ByteArray := prog_9_method_20_code
def yX7_readUnit : MethodName := ⟨RX7, "readUnit", "(I)Z"⟩
abbrev cX7_readAtom : ByteArray := prog_9_method_21_code
def yX7_readAtom : MethodName := ⟨RX7, "readAtom", "(I)Z"⟩
abbrev cX7_takeAtom : ByteArray := prog_9_method_22_code
def yX7_takeAtom : MethodName := ⟨RX7, "takeAtom", "(I)Z"⟩
def RX8 : String := "NextFair$RingSearch"
def TX8 : u_T := fun k => match k with
  | 0 => ("NextFair$RingSearch", "found", "I", false)
  | 1 => ("NextFair$RingSearch", "bestSum", "I", false)
  | 2 => ("NextFair$RingSearch", "bestLength", "I", false)
  | 3 => ("NextFair$RingSearch", "best", "[I", true)
  | _ => ("NextFair$RingSearch", "path", "[I", true)
def tyX8 : Nat → FieldType := fun k => match k with
  | 0 => .int
  | 1 => .int
  | 2 => .int
  | 3 => .array .int
  | _ => .array .int
theorem nmX8 : ∀ a, a < 5 → ∀ b, b < 5 → a ≠ b → (TX8 a).2.1 ≠ (TX8 b).2.1 := by decide +kernel
theorem tyX8_ok : ∀ k, k < 5 → parseFieldDescriptor (TX8 k).2.2.1 = some (tyX8 k) := by decide +kernel
abbrev cX8_init : ByteArray := prog_10_method_1_code
def yX8_init : MethodName := ⟨RX8, "<init>", "()V"⟩
abbrev cX8_search : ByteArray := prog_10_method_2_code
def yX8_search : MethodName := ⟨RX8, "search", "(LNextFair$World;)V"⟩
abbrev cX8_extend : ByteArray := prog_10_method_3_code
def yX8_extend : MethodName := ⟨RX8, "extend", "(LNextFair$RingSearch;LNextFair$World;III)V"⟩
abbrev cX8_note : ByteArray := prog_10_method_4_code
def yX8_note : MethodName := ⟨RX8, "note", "(II)V"⟩
def RX9 : String := "NextFair$Tray"
def TX9 : u_T := fun k => match k with
  | 0 => ("NextFair$Tray", "row", "[J", true)
  | 1 => ("NextFair$Tray", "size", "I", false)
  | _ => ("NextFair$Tray", "sort", "I", false)
def tyX9 : Nat → FieldType := fun k => match k with
  | 0 => .array .long
  | 1 => .int
  | _ => .int
theorem nmX9 : ∀ a, a < 3 → ∀ b, b < 3 → a ≠ b → (TX9 a).2.1 ≠ (TX9 b).2.1 := by decide +kernel
theorem tyX9_ok : ∀ k, k < 3 → parseFieldDescriptor (TX9 k).2.2.1 = some (tyX9 k) := by decide +kernel
abbrev cX9_init : ByteArray := prog_11_method_1_code
def yX9_init : MethodName := ⟨RX9, "<init>", "()V"⟩
abbrev cX9_isMissing : ByteArray := prog_11_method_2_code
def yX9_isMissing : MethodName := ⟨RX9, "isMissing", "()Z"⟩
abbrev cX9_make : ByteArray := prog_11_method_3_code
def yX9_make : MethodName := ⟨RX9, "make", "(II)V"⟩
abbrev cX9_get : ByteArray := prog_11_method_4_code
def yX9_get : MethodName := ⟨RX9, "get", "(I)J"⟩
abbrev cX9_keep : ByteArray := prog_11_method_5_code
def yX9_keep : MethodName := ⟨RX9, "keep", "(IJ)J"⟩
def RX10 : String := "NextFair$World"
def TX10 : u_T := fun k => match k with
  | 0 => ("NextFair$World", "merchants", "I", false)
  | 1 => ("NextFair$World", "letters", "I", false)
  | 2 => ("NextFair$World", "broken", "I", false)
  | 3 => ("NextFair$World", "fair", "I", false)
  | 4 => ("NextFair$World", "x", "I", false)
  | 5 => ("NextFair$World", "cash", "[I", true)
  | 6 => ("NextFair$World", "owes", "[I", true)
  | 7 => ("NextFair$World", "whom", "[I", true)
  | 8 => ("NextFair$World", "much", "[I", true)
  | 9 => ("NextFair$World", "dueAt", "[I", true)
  | 10 => ("NextFair$World", "state", "[I", true)
  | 11 => ("NextFair$World", "late", "[I", true)
  | 12 => ("NextFair$World", "nets", "[I", true)
  | _ => ("NextFair$World", "shortBy", "[I", true)
def tyX10 : Nat → FieldType := fun k => match k with
  | 0 => .int
  | 1 => .int
  | 2 => .int
  | 3 => .int
  | 4 => .int
  | 5 => .array .int
  | 6 => .array .int
  | 7 => .array .int
  | 8 => .array .int
  | 9 => .array .int
  | 10 => .array .int
  | 11 => .array .int
  | 12 => .array .int
  | _ => .array .int
theorem nmX10 : ∀ a, a < 14 → ∀ b, b < 14 → a ≠ b → (TX10 a).2.1 ≠ (TX10 b).2.1 := by decide +kernel
theorem tyX10_ok : ∀ k, k < 14 → parseFieldDescriptor (TX10 k).2.2.1 = some (tyX10 k) := by decide +kernel
abbrev cX10_init : ByteArray := prog_12_method_1_code
def yX10_init : MethodName := ⟨RX10, "<init>", "()V"⟩
abbrev cX10_clear : ByteArray := prog_12_method_2_code
def yX10_clear : MethodName := ⟨RX10, "clear", "()V"⟩
abbrev cX10_copyFrom : ByteArray := prog_12_method_3_code
def yX10_copyFrom : MethodName := ⟨RX10, "copyFrom", "(LNextFair$World;)V"⟩
abbrev cX10_hasMerchant : ByteArray := prog_12_method_4_code
def yX10_hasMerchant : MethodName := ⟨RX10, "hasMerchant", "(I)Z"⟩
abbrev cX10_hasLetter : ByteArray := prog_12_method_5_code
def yX10_hasLetter : MethodName := ⟨RX10, "hasLetter", "(I)Z"⟩
abbrev cX10_isBroken : ByteArray := prog_12_method_6_code
def yX10_isBroken : MethodName := ⟨RX10, "isBroken", "(I)Z"⟩
abbrev cX10_isOwed : ByteArray := prog_12_method_7_code
def yX10_isOwed : MethodName := ⟨RX10, "isOwed", "(I)Z"⟩
abbrev cX10_isDue : ByteArray := prog_12_method_8_code
def yX10_isDue : MethodName := ⟨RX10, "isDue", "(II)Z"⟩
abbrev cX10_owedBits : ByteArray := prog_12_method_9_code
def yX10_owedBits : MethodName := ⟨RX10, "owedBits", "()I"⟩
abbrev cX10_dueBits : ByteArray := prog_12_method_10_code
def yX10_dueBits : MethodName := ⟨RX10, "dueBits", "(I)I"⟩
abbrev cX10_sumCash : ByteArray := prog_12_method_11_code
def yX10_sumCash : MethodName := ⟨RX10, "sumCash", "()I"⟩
abbrev cX10_sumOwed : ByteArray := prog_12_method_12_code
def yX10_sumOwed : MethodName := ⟨RX10, "sumOwed", "([II)I"⟩
abbrev cX10_countNets : ByteArray := prog_12_method_13_code
def yX10_countNets : MethodName := ⟨RX10, "countNets", "(II)V"⟩
abbrev cX10_coinAt : ByteArray := prog_12_method_14_code
def yX10_coinAt : MethodName := ⟨RX10, "coinAt", "(II)I"⟩
abbrev cX10_grossAt : ByteArray := prog_12_method_15_code
def yX10_grossAt : MethodName := ⟨RX10, "grossAt", "(I)I"⟩
abbrev cX10_addMerchant : ByteArray := prog_12_method_16_code
def yX10_addMerchant : MethodName := ⟨RX10, "addMerchant", "(I)V"⟩
abbrev cX10_addLetter : ByteArray := prog_12_method_17_code
def yX10_addLetter : MethodName := ⟨RX10, "addLetter", "(IIIII)V"⟩
abbrev cX10_countDuesFrom : ByteArray := prog_12_method_18_code
def yX10_countDuesFrom : MethodName := ⟨RX10, "countDuesFrom", "(I)V"⟩
abbrev cX10_addCash : ByteArray := prog_12_method_19_code
def yX10_addCash : MethodName := ⟨RX10, "addCash", "(II)V"⟩
abbrev cX10_moveCash : ByteArray := prog_12_method_20_code
def yX10_moveCash : MethodName := ⟨RX10, "moveCash", "(III)V"⟩
abbrev cX10_whyNotPay : ByteArray := prog_12_method_21_code
def yX10_whyNotPay : MethodName := ⟨RX10, "whyNotPay", "(I)I"⟩
abbrev cX10_payLetter : ByteArray := prog_12_method_22_code
def yX10_payLetter : MethodName := ⟨RX10, "payLetter", "(I)V"⟩
abbrev cX10_whyNotLend : ByteArray := prog_12_method_23_code
def yX10_whyNotLend : MethodName := ⟨RX10, "whyNotLend", "(III)I"⟩
abbrev cX10_isRing : ByteArray := prog_12_method_24_code
def yX10_isRing : MethodName := ⟨RX10, "isRing", "([II)Z"⟩
abbrev cX10_cancelRing : ByteArray := prog_12_method_25_code
def yX10_cancelRing : MethodName := ⟨RX10, "cancelRing", "([II)I"⟩
abbrev cX10_draw : ByteArray := prog_12_method_26_code
def yX10_draw : MethodName := ⟨RX10, "draw", "()I"⟩
abbrev cX10_holdOne : ByteArray := prog_12_method_27_code
def yX10_holdOne : MethodName := ⟨RX10, "holdOne", "(LNextFair$Book;Z)V"⟩
abbrev cX10_waitForMules : ByteArray := prog_12_method_28_code
def yX10_waitForMules : MethodName := ⟨RX10, "waitForMules", "()V"⟩
abbrev cX10_delay : ByteArray := prog_12_method_29_code
def yX10_delay : MethodName := ⟨RX10, "delay", "(I)V"⟩
abbrev cX10_settleShort : ByteArray := prog_12_method_30_code
def yX10_settleShort : MethodName := ⟨RX10, "settleShort", "(LNextFair$Book;)Z"⟩
abbrev cX10_giveTime : ByteArray := prog_12_method_31_code
def yX10_giveTime : MethodName := ⟨RX10, "giveTime", "(I)V"⟩
abbrev cX10_breakDown : ByteArray := prog_12_method_32_code
def yX10_breakDown : MethodName := ⟨RX10, "breakDown", "(I)V"⟩
abbrev cX10_payAll : ByteArray := prog_12_method_33_code
def yX10_payAll : MethodName := ⟨RX10, "payAll", "()V"⟩
def RX11 : String := "NextFair"
def TX11 : u_T := fun k => match k with
  | 0 => ("NextFair", "tape", "[B", true)
  | 1 => ("NextFair", "tapeLength", "I", false)
  | 2 => ("NextFair", "faultKind", "I", false)
  | 3 => ("NextFair", "faultPlace", "I", false)
  | 4 => ("NextFair", "book", "LNextFair$Book;", true)
  | 5 => ("NextFair", "now", "LNextFair$World;", true)
  | 6 => ("NextFair", "trial", "LNextFair$World;", true)
  | 7 => ("NextFair", "reader", "LNextFair$Reader;", true)
  | 8 => ("NextFair", "past", "LNextFair$Past;", true)
  | 9 => ("NextFair", "images", "[LNextFair$Image;", true)
  | 10 => ("NextFair", "trays", "[LNextFair$Tray;", true)
  | 11 => ("NextFair", "deeds", "LNextFair$Deeds;", true)
  | 12 => ("NextFair", "outlook", "LNextFair$Outlook;", true)
  | 13 => ("NextFair", "guess", "LNextFair$Guess;", true)
  | 14 => ("NextFair", "ringSearch", "LNextFair$RingSearch;", true)
  | _ => ("NextFair", "exchange", "LNextFair$Exchange;", true)
def tyX11 : Nat → FieldType := fun k => match k with
  | 0 => .array .byte
  | 1 => .int
  | 2 => .int
  | 3 => .int
  | 4 => .object "NextFair$Book"
  | 5 => .object "NextFair$World"
  | 6 => .object "NextFair$World"
  | 7 => .object "NextFair$Reader"
  | 8 => .object "NextFair$Past"
  | 9 => .array (.object "NextFair$Image")
  | 10 => .array (.object "NextFair$Tray")
  | 11 => .object "NextFair$Deeds"
  | 12 => .object "NextFair$Outlook"
  | 13 => .object "NextFair$Guess"
  | 14 => .object "NextFair$RingSearch"
  | _ => .object "NextFair$Exchange"
theorem nmX11 : ∀ a, a < 16 → ∀ b, b < 16 → a ≠ b → (TX11 a).2.1 ≠ (TX11 b).2.1 := by decide +kernel
theorem tyX11_ok : ∀ k, k < 16 → parseFieldDescriptor (TX11 k).2.2.1 = some (tyX11 k) := by decide +kernel
abbrev cX11_init : ByteArray := prog_1_method_1_code
def yX11_init : MethodName := ⟨RX11, "<init>", "()V"⟩
abbrev cX11_feed : ByteArray := prog_1_method_2_code
def yX11_feed : MethodName := ⟨RX11, "feed", "(IIIII)I"⟩
abbrev cX11_fairs : ByteArray := prog_1_method_3_code
def yX11_fairs : MethodName := ⟨RX11, "fairs", "(I)I"⟩
abbrev cX11_fault : ByteArray := prog_1_method_4_code
def yX11_fault : MethodName := ⟨RX11, "fault", "(I)I"⟩
abbrev cX11_merchant : ByteArray := prog_1_method_5_code
def yX11_merchant : MethodName := ⟨RX11, "merchant", "(II)I"⟩
abbrev cX11_letter : ByteArray := prog_1_method_6_code
def yX11_letter : MethodName := ⟨RX11, "letter", "(II)I"⟩
abbrev cX11_worth : ByteArray := prog_1_method_7_code
def yX11_worth : MethodName := ⟨RX11, "worth", "(II)I"⟩
abbrev cX11_seed : ByteArray := prog_1_method_8_code
def yX11_seed : MethodName := ⟨RX11, "seed", "(I)I"⟩
abbrev cX11_write : ByteArray := prog_1_method_9_code
def yX11_write : MethodName := ⟨RX11, "write", "(IIII)I"⟩
abbrev cX11_pay : ByteArray := prog_1_method_10_code
def yX11_pay : MethodName := ⟨RX11, "pay", "(I)I"⟩
abbrev cX11_lend : ByteArray := prog_1_method_11_code
def yX11_lend : MethodName := ⟨RX11, "lend", "(III)I"⟩
abbrev cX11_cancel : ByteArray := prog_1_method_12_code
def yX11_cancel : MethodName := ⟨RX11, "cancel", "(I)I"⟩
abbrev cX11_hold : ByteArray := prog_1_method_13_code
def yX11_hold : MethodName := ⟨RX11, "hold", "(IZ)I"⟩
abbrev cX11_undo : ByteArray := prog_1_method_14_code
def yX11_undo : MethodName := ⟨RX11, "undo", "(I)I"⟩
abbrev cX11_judge : ByteArray := prog_1_method_15_code
def yX11_judge : MethodName := ⟨RX11, "judge", "(II)I"⟩
abbrev cX11_perform : ByteArray := prog_1_method_16_code
def yX11_perform : MethodName := ⟨RX11, "perform", "(I)I"⟩
abbrev cX11_year : ByteArray := prog_1_method_17_code
def yX11_year : MethodName := ⟨RX11, "year", "(II)I"⟩
abbrev cX11_due : ByteArray := prog_1_method_18_code
def yX11_due : MethodName := ⟨RX11, "due", "(I)I"⟩
abbrev cX11_net : ByteArray := prog_1_method_19_code
def yX11_net : MethodName := ⟨RX11, "net", "(II)I"⟩
abbrev cX11_coin : ByteArray := prog_1_method_20_code
def yX11_coin : MethodName := ⟨RX11, "coin", "(II)I"⟩
abbrev cX11_heaviest : ByteArray := prog_1_method_21_code
def yX11_heaviest : MethodName := ⟨RX11, "heaviest", "()I"⟩
abbrev cX11_cashIn : ByteArray := prog_1_method_22_code
def yX11_cashIn : MethodName := ⟨RX11, "cashIn", "(II)I"⟩
abbrev cX11_breaksIn : ByteArray := prog_1_method_23_code
def yX11_breaksIn : MethodName := ⟨RX11, "breaksIn", "(I)I"⟩
abbrev cX11_broken : ByteArray := prog_1_method_24_code
def yX11_broken : MethodName := ⟨RX11, "broken", "(I)I"⟩
abbrev cX11_chain : ByteArray := prog_1_method_25_code
def yX11_chain : MethodName := ⟨RX11, "chain", "(II)I"⟩
abbrev cX11_pillar : ByteArray := prog_1_method_26_code
def yX11_pillar : MethodName := ⟨RX11, "pillar", "(I)I"⟩
abbrev cX11_saves : ByteArray := prog_1_method_27_code
def yX11_saves : MethodName := ⟨RX11, "saves", "(II)I"⟩
abbrev cX11_favour : ByteArray := prog_1_method_28_code
def yX11_favour : MethodName := ⟨RX11, "favour", "(II)I"⟩
abbrev cX11_rings : ByteArray := prog_1_method_29_code
def yX11_rings : MethodName := ⟨RX11, "rings", "()I"⟩
abbrev cX11_ring : ByteArray := prog_1_method_30_code
def yX11_ring : MethodName := ⟨RX11, "ring", "(I)I"⟩
abbrev cX11_hangs : ByteArray := prog_1_method_31_code
def yX11_hangs : MethodName := ⟨RX11, "hangs", "(I)I"⟩
abbrev cX11_calm : ByteArray := prog_1_method_32_code
def yX11_calm : MethodName := ⟨RX11, "calm", "()I"⟩
abbrev cX11_danger : ByteArray := prog_1_method_33_code
def yX11_danger : MethodName := ⟨RX11, "danger", "(I)I"⟩
abbrev cX11_vital : ByteArray := prog_1_method_34_code
def yX11_vital : MethodName := ⟨RX11, "vital", "()I"⟩
abbrev cX11_changing : ByteArray := prog_1_method_35_code
def yX11_changing : MethodName := ⟨RX11, "changing", "(IIII)J"⟩
abbrev cX11_interest : ByteArray := prog_1_method_36_code
def yX11_interest : MethodName := ⟨RX11, "interest", "(II)I"⟩
abbrev cX11_dearest : ByteArray := prog_1_method_37_code
def yX11_dearest : MethodName := ⟨RX11, "dearest", "(I)I"⟩
abbrev cX11_missing : ByteArray := prog_1_method_38_code
def yX11_missing : MethodName := ⟨RX11, "missing", "(I)I"⟩
abbrev cX11_look : ByteArray := prog_1_method_39_code
def yX11_look : MethodName := ⟨RX11, "look", "(I)I"⟩
abbrev cX11_numbers : ByteArray := prog_1_method_40_code
def yX11_numbers : MethodName := ⟨RX11, "numbers", "(III)I"⟩
abbrev cX11_put : ByteArray := prog_1_method_41_code
def yX11_put : MethodName := ⟨RX11, "put", "(IIJ)J"⟩
abbrev cX11_lists : ByteArray := prog_1_method_42_code
def yX11_lists : MethodName := ⟨RX11, "lists", "(I)I"⟩
abbrev cX11_image : ByteArray := prog_1_method_43_code
def yX11_image : MethodName := ⟨RX11, "image", "(I)I"⟩
abbrev cX11_restore : ByteArray := prog_1_method_44_code
def yX11_restore : MethodName := ⟨RX11, "restore", "(I)I"⟩
abbrev cX11_count : ByteArray := prog_1_method_45_code
def yX11_count : MethodName := ⟨RX11, "count", "(I)I"⟩
abbrev cX11_layOnTape : ByteArray := prog_1_method_46_code
def yX11_layOnTape : MethodName := ⟨RX11, "layOnTape", "(I)V"⟩
abbrev cX11_trayOf : ByteArray := prog_1_method_47_code
def yX11_trayOf : MethodName := ⟨RX11, "trayOf", "(I)LNextFair$Tray;"⟩
abbrev cX11_imageOf : ByteArray := prog_1_method_48_code
def yX11_imageOf : MethodName := ⟨RX11, "imageOf", "(I)LNextFair$Image;"⟩
abbrev cX11_goOnAs : ByteArray := prog_1_method_49_code
def yX11_goOnAs : MethodName := ⟨RX11, "goOnAs", "(LNextFair$World;)V"⟩
abbrev cX11_within : ByteArray := prog_1_method_50_code
def yX11_within : MethodName := ⟨RX11, "within", "(JJJ)Z"⟩
abbrev cX11_at : ByteArray := prog_1_method_51_code
def yX11_at : MethodName := ⟨RX11, "at", "([II)I"⟩
abbrev cX11_set : ByteArray := prog_1_method_52_code
def yX11_set : MethodName := ⟨RX11, "set", "([III)V"⟩
abbrev cX11_cut : ByteArray := prog_1_method_53_code
def yX11_cut : MethodName := ⟨RX11, "cut", "(JJ)J"⟩
abbrev cX11_rest : ByteArray := prog_1_method_54_code
def yX11_rest : MethodName := ⟨RX11, "rest", "(II)I"⟩
abbrev cX11_copyRow : ByteArray := prog_1_method_55_code
def yX11_copyRow : MethodName := ⟨RX11, "copyRow", "([I[I)V"⟩
def RX12 : String := "NextFairModel"
def TX12 : u_T := fun k => match k with
  | 0 => ("NextFairModel", "thrown", "I", false)
  | 1 => ("NextFairModel", "all", "[I", true)
  | 2 => ("NextFairModel", "hasImage", "[Z", true)
  | 3 => ("NextFairModel", "tape", "[I", true)
  | 4 => ("NextFairModel", "fresh", "[I", true)
  | 5 => ("NextFairModel", "taped", "I", false)
  | 6 => ("NextFairModel", "at", "I", false)
  | 7 => ("NextFairModel", "behind", "I", false)
  | 8 => ("NextFairModel", "size", "I", false)
  | 9 => ("NextFairModel", "kind", "I", false)
  | 10 => ("NextFairModel", "number", "I", false)
  | 11 => ("NextFairModel", "wrong", "I", false)
  | 12 => ("NextFairModel", "wrongAt", "I", false)
  | 13 => ("NextFairModel", "faultKind", "I", false)
  | 14 => ("NextFairModel", "faultPlace", "I", false)
  | 15 => ("NextFairModel", "reading", "I", false)
  | 16 => ("NextFairModel", "reckoned", "[I", true)
  | 17 => ("NextFairModel", "words", "[I", true)
  | 18 => ("NextFairModel", "nets", "[I", true)
  | 19 => ("NextFairModel", "shorts", "[I", true)
  | 20 => ("NextFairModel", "had", "[I", true)
  | 21 => ("NextFairModel", "dueSet", "I", false)
  | 22 => ("NextFairModel", "was", "[I", true)
  | 23 => ("NextFairModel", "round", "[I", true)
  | 24 => ("NextFairModel", "roundMany", "I", false)
  | 25 => ("NextFairModel", "toldWhy", "I", false)
  | 26 => ("NextFairModel", "bestRound", "[I", true)
  | 27 => ("NextFairModel", "rounds", "I", false)
  | 28 => ("NextFairModel", "bestRoundMany", "I", false)
  | 29 => ("NextFairModel", "bestValue", "I", false)
  | 30 => ("NextFairModel", "met", "[J", true)
  | 31 => ("NextFairModel", "hadMoney", "[I", true)
  | 32 => ("NextFairModel", "bestMoney", "[I", true)
  | 33 => ("NextFairModel", "bestCoppers", "J", false)
  | 34 => ("NextFairModel", "cashBy", "[I", true)
  | 35 => ("NextFairModel", "rowSort", "[I", true)
  | 36 => ("NextFairModel", "rowMany", "[I", true)
  | _ => ("NextFairModel", "numbers", "[J", true)
def tyX12 : Nat → FieldType := fun k => match k with
  | 0 => .int
  | 1 => .array .int
  | 2 => .array .boolean
  | 3 => .array .int
  | 4 => .array .int
  | 5 => .int
  | 6 => .int
  | 7 => .int
  | 8 => .int
  | 9 => .int
  | 10 => .int
  | 11 => .int
  | 12 => .int
  | 13 => .int
  | 14 => .int
  | 15 => .int
  | 16 => .array .int
  | 17 => .array .int
  | 18 => .array .int
  | 19 => .array .int
  | 20 => .array .int
  | 21 => .int
  | 22 => .array .int
  | 23 => .array .int
  | 24 => .int
  | 25 => .int
  | 26 => .array .int
  | 27 => .int
  | 28 => .int
  | 29 => .int
  | 30 => .array .long
  | 31 => .array .int
  | 32 => .array .int
  | 33 => .long
  | 34 => .array .int
  | 35 => .array .int
  | 36 => .array .int
  | _ => .array .long
theorem nmX12 : ∀ a, a < 38 → ∀ b, b < 38 → a ≠ b → (TX12 a).2.1 ≠ (TX12 b).2.1 := by decide +kernel
theorem tyX12_ok : ∀ k, k < 38 → parseFieldDescriptor (TX12 k).2.2.1 = some (tyX12 k) := by decide +kernel
abbrev cX12_within : ByteArray := prog_14_method_2_code
def yX12_within : MethodName := ⟨RX12, "within", "(JJJ)Z"⟩
abbrev cX12_init : ByteArray := prog_14_method_3_code
def yX12_init : MethodName := ⟨RX12, "<init>", "()V"⟩
abbrev cX12_plain : ByteArray := prog_14_method_4_code
def yX12_plain : MethodName := ⟨RX12, "plain", "([I)V"⟩
abbrev cX12_feed : ByteArray := prog_14_method_5_code
def yX12_feed : MethodName := ⟨RX12, "feed", "(IIIII)I"⟩
abbrev cX12_see : ByteArray := prog_14_method_6_code
def yX12_see : MethodName := ⟨RX12, "see", "(I)I"⟩
abbrev cX12_isSmall : ByteArray := prog_14_method_7_code
def yX12_isSmall : MethodName := ⟨RX12, "isSmall", "(I)Z"⟩
abbrev cX12_isDigit : ByteArray := prog_14_method_8_code
def yX12_isDigit : MethodName := ⟨RX12, "isDigit", "(I)Z"⟩
abbrev cX12_keyAt : ByteArray := prog_14_method_9_code
def yX12_keyAt : MethodName := ⟨RX12, "keyAt", "()I"⟩
abbrev cX12_next : ByteArray := prog_14_method_10_code
def yX12_next : MethodName := ⟨RX12, "next", "()V"⟩
abbrev cX12_fails : ByteArray := prog_14_method_11_code
def yX12_fails : MethodName := ⟨RX12, "fails", "(I)V"⟩
abbrev cX12_is : ByteArray := prog_14_method_12_code
def yX12_is : MethodName := ⟨RX12, "is", "(I)Z"⟩
abbrev cX12_eats : ByteArray := prog_14_method_13_code
def yX12_eats : MethodName := ⟨RX12, "eats", "(I)Z"⟩
abbrev cX12_takes : ByteArray := prog_14_method_14_code
def yX12_takes : MethodName := ⟨RX12, "takes", "(II)I"⟩
abbrev cX12_isIn : ByteArray := prog_14_method_15_code
def yX12_isIn : MethodName := ⟨RX12, "isIn", "(JI)Z"⟩
abbrev cX12_wordOf : ByteArray := prog_14_method_16_code
def yX12_wordOf : MethodName := ⟨RX12, "wordOf", "(I)I"⟩
abbrev cX12_codes : ByteArray := prog_14_method_17_code
def yX12_codes : MethodName := ⟨RX12, "codes", "(I)V"⟩
abbrev cX12_goesIn : ByteArray := prog_14_method_18_code
def yX12_goesIn : MethodName := ⟨RX12, "goesIn", "(I)Z"⟩
abbrev cX12_readAtom : ByteArray := prog_14_method_19_code
def yX12_readAtom : MethodName := ⟨RX12, "readAtom", "(I)V"⟩
abbrev cX12_readTerm : ByteArray := prog_14_method_20_code
def yX12_readTerm : MethodName := ⟨RX12, "readTerm", "(I)V"⟩
abbrev cX12_readSum : ByteArray := prog_14_method_21_code
def yX12_readSum : MethodName := ⟨RX12, "readSum", "(I)V"⟩
abbrev cX12_readUnit : ByteArray := prog_14_method_22_code
def yX12_readUnit : MethodName := ⟨RX12, "readUnit", "(I)V"⟩
abbrev cX12_readBoth : ByteArray := prog_14_method_23_code
def yX12_readBoth : MethodName := ⟨RX12, "readBoth", "(I)V"⟩
abbrev cX12_readTruth : ByteArray := prog_14_method_24_code
def yX12_readTruth : MethodName := ⟨RX12, "readTruth", "(I)V"⟩
abbrev cX12_readMerchant : ByteArray := prog_14_method_25_code
def yX12_readMerchant : MethodName := ⟨RX12, "readMerchant", "()V"⟩
abbrev cX12_readLetter : ByteArray := prog_14_method_26_code
def yX12_readLetter : MethodName := ⟨RX12, "readLetter", "()V"⟩
abbrev cX12_readLaw : ByteArray := prog_14_method_27_code
def yX12_readLaw : MethodName := ⟨RX12, "readLaw", "(I)V"⟩
abbrev cX12_readLine : ByteArray := prog_14_method_28_code
def yX12_readLine : MethodName := ⟨RX12, "readLine", "()V"⟩
abbrev cX12_ends : ByteArray := prog_14_method_29_code
def yX12_ends : MethodName := ⟨RX12, "ends", "()V"⟩
abbrev cX12_fairs : ByteArray := prog_14_method_30_code
def yX12_fairs : MethodName := ⟨RX12, "fairs", "(I)I"⟩
abbrev cX12_fault : ByteArray := prog_14_method_31_code
def yX12_fault : MethodName := ⟨RX12, "fault", "(I)I"⟩
abbrev cX12_isMerchant : ByteArray := prog_14_method_32_code
def yX12_isMerchant : MethodName := ⟨RX12, "isMerchant", "(J)Z"⟩
abbrev cX12_isLetter : ByteArray := prog_14_method_33_code
def yX12_isLetter : MethodName := ⟨RX12, "isLetter", "(J)Z"⟩
abbrev cX12_isMoney : ByteArray := prog_14_method_34_code
def yX12_isMoney : MethodName := ⟨RX12, "isMoney", "(J)Z"⟩
abbrev cX12_isBroken : ByteArray := prog_14_method_35_code
def yX12_isBroken : MethodName := ⟨RX12, "isBroken", "(I)Z"⟩
abbrev cX12_bitsOf : ByteArray := prog_14_method_36_code
def yX12_bitsOf : MethodName := ⟨RX12, "bitsOf", "(I)I"⟩
abbrev cX12_between : ByteArray := prog_14_method_37_code
def yX12_between : MethodName := ⟨RX12, "between", "(III)I"⟩
abbrev cX12_reckons : ByteArray := prog_14_method_38_code
def yX12_reckons : MethodName := ⟨RX12, "reckons", "(II)I"⟩
abbrev cX12_worthOf : ByteArray := prog_14_method_39_code
def yX12_worthOf : MethodName := ⟨RX12, "worthOf", "(II)I"⟩
abbrev cX12_givesTime : ByteArray := prog_14_method_40_code
def yX12_givesTime : MethodName := ⟨RX12, "givesTime", "(III)Z"⟩
abbrev cX12_isOwed : ByteArray := prog_14_method_41_code
def yX12_isOwed : MethodName := ⟨RX12, "isOwed", "(I)Z"⟩
abbrev cX12_sumOf : ByteArray := prog_14_method_42_code
def yX12_sumOf : MethodName := ⟨RX12, "sumOf", "(II)I"⟩
abbrev cX12_merchant : ByteArray := prog_14_method_43_code
def yX12_merchant : MethodName := ⟨RX12, "merchant", "(II)I"⟩
abbrev cX12_letter : ByteArray := prog_14_method_44_code
def yX12_letter : MethodName := ⟨RX12, "letter", "(II)I"⟩
abbrev cX12_worth : ByteArray := prog_14_method_45_code
def yX12_worth : MethodName := ⟨RX12, "worth", "(II)I"⟩
abbrev cX12_dueAt : ByteArray := prog_14_method_46_code
def yX12_dueAt : MethodName := ⟨RX12, "dueAt", "(I)I"⟩
abbrev cX12_laysNets : ByteArray := prog_14_method_47_code
def yX12_laysNets : MethodName := ⟨RX12, "laysNets", "(I)V"⟩
abbrev cX12_breaks : ByteArray := prog_14_method_48_code
def yX12_breaks : MethodName := ⟨RX12, "breaks", "(I)V"⟩
abbrev cX12_putsOff : ByteArray := prog_14_method_49_code
def yX12_putsOff : MethodName := ⟨RX12, "putsOff", "(I)V"⟩
abbrev cX12_isShort : ByteArray := prog_14_method_50_code
def yX12_isShort : MethodName := ⟨RX12, "isShort", "()Z"⟩
abbrev cX12_goesFair : ByteArray := prog_14_method_51_code
def yX12_goesFair : MethodName := ⟨RX12, "goesFair", "(I)I"⟩
abbrev cX12_draw : ByteArray := prog_14_method_52_code
def yX12_draw : MethodName := ⟨RX12, "draw", "(I)I"⟩
abbrev cX12_goesMules : ByteArray := prog_14_method_53_code
def yX12_goesMules : MethodName := ⟨RX12, "goesMules", "()I"⟩
abbrev cX12_keeps : ByteArray := prog_14_method_54_code
def yX12_keeps : MethodName := ⟨RX12, "keeps", "()V"⟩
abbrev cX12_isAgain : ByteArray := prog_14_method_55_code
def yX12_isAgain : MethodName := ⟨RX12, "isAgain", "()V"⟩
abbrev cX12_notes : ByteArray := prog_14_method_56_code
def yX12_notes : MethodName := ⟨RX12, "notes", "()V"⟩
abbrev cX12_seed : ByteArray := prog_14_method_57_code
def yX12_seed : MethodName := ⟨RX12, "seed", "(I)I"⟩
abbrev cX12_write : ByteArray := prog_14_method_58_code
def yX12_write : MethodName := ⟨RX12, "write", "(IIII)I"⟩
abbrev cX12_whyPay : ByteArray := prog_14_method_59_code
def yX12_whyPay : MethodName := ⟨RX12, "whyPay", "(J)I"⟩
abbrev cX12_gives : ByteArray := prog_14_method_60_code
def yX12_gives : MethodName := ⟨RX12, "gives", "(III)V"⟩
abbrev cX12_pays : ByteArray := prog_14_method_61_code
def yX12_pays : MethodName := ⟨RX12, "pays", "(I)V"⟩
abbrev cX12_whyLend : ByteArray := prog_14_method_62_code
def yX12_whyLend : MethodName := ⟨RX12, "whyLend", "(JJJ)I"⟩
abbrev cX12_pay : ByteArray := prog_14_method_63_code
def yX12_pay : MethodName := ⟨RX12, "pay", "(I)I"⟩
abbrev cX12_lend : ByteArray := prog_14_method_64_code
def yX12_lend : MethodName := ⟨RX12, "lend", "(III)I"⟩
abbrev cX12_isRound : ByteArray := prog_14_method_65_code
def yX12_isRound : MethodName := ⟨RX12, "isRound", "()Z"⟩
abbrev cX12_leastOf : ByteArray := prog_14_method_66_code
def yX12_leastOf : MethodName := ⟨RX12, "leastOf", "()I"⟩
abbrev cX12_cancels : ByteArray := prog_14_method_67_code
def yX12_cancels : MethodName := ⟨RX12, "cancels", "()I"⟩
abbrev cX12_noTray : ByteArray := prog_14_method_68_code
def yX12_noTray : MethodName := ⟨RX12, "noTray", "(I)I"⟩
abbrev cX12_cancel : ByteArray := prog_14_method_69_code
def yX12_cancel : MethodName := ⟨RX12, "cancel", "(I)I"⟩
abbrev cX12_hold : ByteArray := prog_14_method_70_code
def yX12_hold : MethodName := ⟨RX12, "hold", "(IZ)I"⟩
abbrev cX12_undo : ByteArray := prog_14_method_71_code
def yX12_undo : MethodName := ⟨RX12, "undo", "(I)I"⟩
abbrev cX12_whyTwo : ByteArray := prog_14_method_72_code
def yX12_whyTwo : MethodName := ⟨RX12, "whyTwo", "(II)I"⟩
abbrev cX12_whyNot : ByteArray := prog_14_method_73_code
def yX12_whyNot : MethodName := ⟨RX12, "whyNot", "(J)I"⟩
abbrev cX12_does : ByteArray := prog_14_method_74_code
def yX12_does : MethodName := ⟨RX12, "does", "(I)V"⟩
abbrev cX12_tells : ByteArray := prog_14_method_75_code
def yX12_tells : MethodName := ⟨RX12, "tells", "(I)I"⟩
abbrev cX12_judge : ByteArray := prog_14_method_76_code
def yX12_judge : MethodName := ⟨RX12, "judge", "(II)I"⟩
abbrev cX12_perform : ByteArray := prog_14_method_77_code
def yX12_perform : MethodName := ⟨RX12, "perform", "(I)I"⟩
abbrev cX12_drawn : ByteArray := prog_14_method_78_code
def yX12_drawn : MethodName := ⟨RX12, "drawn", "()I"⟩
abbrev cX12_year : ByteArray := prog_14_method_79_code
def yX12_year : MethodName := ⟨RX12, "year", "(II)I"⟩
abbrev cX12_isSoon : ByteArray := prog_14_method_80_code
def yX12_isSoon : MethodName := ⟨RX12, "isSoon", "(I)Z"⟩
abbrev cX12_due : ByteArray := prog_14_method_81_code
def yX12_due : MethodName := ⟨RX12, "due", "(I)I"⟩
abbrev cX12_net : ByteArray := prog_14_method_82_code
def yX12_net : MethodName := ⟨RX12, "net", "(II)I"⟩
abbrev cX12_coinOf : ByteArray := prog_14_method_83_code
def yX12_coinOf : MethodName := ⟨RX12, "coinOf", "(I)I"⟩
abbrev cX12_grossOf : ByteArray := prog_14_method_84_code
def yX12_grossOf : MethodName := ⟨RX12, "grossOf", "(I)I"⟩
abbrev cX12_coin : ByteArray := prog_14_method_85_code
def yX12_coin : MethodName := ⟨RX12, "coin", "(II)I"⟩
abbrev cX12_heaviest : ByteArray := prog_14_method_86_code
def yX12_heaviest : MethodName := ⟨RX12, "heaviest", "()I"⟩
abbrev cX12_goesFairs : ByteArray := prog_14_method_87_code
def yX12_goesFairs : MethodName := ⟨RX12, "goesFairs", "(I)V"⟩
abbrev cX12_cashIn : ByteArray := prog_14_method_88_code
def yX12_cashIn : MethodName := ⟨RX12, "cashIn", "(II)I"⟩
abbrev cX12_breaksIn : ByteArray := prog_14_method_89_code
def yX12_breaksIn : MethodName := ⟨RX12, "breaksIn", "(I)I"⟩
abbrev cX12_brokenIn : ByteArray := prog_14_method_90_code
def yX12_brokenIn : MethodName := ⟨RX12, "brokenIn", "(I)I"⟩
abbrev cX12_broken : ByteArray := prog_14_method_91_code
def yX12_broken : MethodName := ⟨RX12, "broken", "(I)I"⟩
abbrev cX12_chainOf : ByteArray := prog_14_method_92_code
def yX12_chainOf : MethodName := ⟨RX12, "chainOf", "(II)I"⟩
abbrev cX12_noOne : ByteArray := prog_14_method_93_code
def yX12_noOne : MethodName := ⟨RX12, "noOne", "(II)I"⟩
abbrev cX12_chain : ByteArray := prog_14_method_94_code
def yX12_chain : MethodName := ⟨RX12, "chain", "(II)I"⟩
abbrev cX12_pillar : ByteArray := prog_14_method_95_code
def yX12_pillar : MethodName := ⟨RX12, "pillar", "(I)I"⟩
abbrev cX12_brokenWith : ByteArray := prog_14_method_96_code
def yX12_brokenWith : MethodName := ⟨RX12, "brokenWith", "(III)I"⟩
abbrev cX12_saves : ByteArray := prog_14_method_97_code
def yX12_saves : MethodName := ⟨RX12, "saves", "(II)I"⟩
abbrev cX12_favour : ByteArray := prog_14_method_98_code
def yX12_favour : MethodName := ⟨RX12, "favour", "(II)I"⟩
abbrev cX12_goesRound : ByteArray := prog_14_method_99_code
def yX12_goesRound : MethodName := ⟨RX12, "goesRound", "(I)V"⟩
abbrev cX12_laysRound : ByteArray := prog_14_method_100_code
def yX12_laysRound : MethodName := ⟨RX12, "laysRound", "()V"⟩
abbrev cX12_laysRounds : ByteArray := prog_14_method_101_code
def yX12_laysRounds : MethodName := ⟨RX12, "laysRounds", "()V"⟩
abbrev cX12_rings : ByteArray := prog_14_method_102_code
def yX12_rings : MethodName := ⟨RX12, "rings", "()I"⟩
abbrev cX12_ring : ByteArray := prog_14_method_103_code
def yX12_ring : MethodName := ⟨RX12, "ring", "(I)I"⟩
abbrev cX12_hangs : ByteArray := prog_14_method_104_code
def yX12_hangs : MethodName := ⟨RX12, "hangs", "(I)I"⟩
abbrev cX12_brokenBy : ByteArray := prog_14_method_105_code
def yX12_brokenBy : MethodName := ⟨RX12, "brokenBy", "(I)I"⟩
abbrev cX12_odds : ByteArray := prog_14_method_106_code
def yX12_odds : MethodName := ⟨RX12, "odds", "(I)I"⟩
abbrev cX12_calm : ByteArray := prog_14_method_107_code
def yX12_calm : MethodName := ⟨RX12, "calm", "()I"⟩
abbrev cX12_danger : ByteArray := prog_14_method_108_code
def yX12_danger : MethodName := ⟨RX12, "danger", "(I)I"⟩
abbrev cX12_vital : ByteArray := prog_14_method_109_code
def yX12_vital : MethodName := ⟨RX12, "vital", "()I"⟩
abbrev cX12_goesChanging : ByteArray := prog_14_method_110_code
def yX12_goesChanging : MethodName := ⟨RX12, "goesChanging", "(IIIJ)V"⟩
abbrev cX12_changing : ByteArray := prog_14_method_111_code
def yX12_changing : MethodName := ⟨RX12, "changing", "(IIII)J"⟩
abbrev cX12_interest : ByteArray := prog_14_method_112_code
def yX12_interest : MethodName := ⟨RX12, "interest", "(II)I"⟩
abbrev cX12_dearest : ByteArray := prog_14_method_113_code
def yX12_dearest : MethodName := ⟨RX12, "dearest", "(I)I"⟩
abbrev cX12_noSeen : ByteArray := prog_14_method_114_code
def yX12_noSeen : MethodName := ⟨RX12, "noSeen", "(I)I"⟩
abbrev cX12_laysMissing : ByteArray := prog_14_method_115_code
def yX12_laysMissing : MethodName := ⟨RX12, "laysMissing", "(I)I"⟩
abbrev cX12_missing : ByteArray := prog_14_method_116_code
def yX12_missing : MethodName := ⟨RX12, "missing", "(I)I"⟩
abbrev cX12_look : ByteArray := prog_14_method_117_code
def yX12_look : MethodName := ⟨RX12, "look", "(I)I"⟩
abbrev cX12_cut : ByteArray := prog_14_method_118_code
def yX12_cut : MethodName := ⟨RX12, "cut", "(JI)J"⟩
abbrev cX12_numbers : ByteArray := prog_14_method_119_code
def yX12_numbers : MethodName := ⟨RX12, "numbers", "(III)I"⟩
abbrev cX12_put : ByteArray := prog_14_method_120_code
def yX12_put : MethodName := ⟨RX12, "put", "(IIJ)J"⟩
abbrev cX12_lists : ByteArray := prog_14_method_121_code
def yX12_lists : MethodName := ⟨RX12, "lists", "(I)I"⟩
abbrev cX12_image : ByteArray := prog_14_method_122_code
def yX12_image : MethodName := ⟨RX12, "image", "(I)I"⟩
abbrev cX12_restore : ByteArray := prog_14_method_123_code
def yX12_restore : MethodName := ⟨RX12, "restore", "(I)I"⟩
abbrev cX12_owedSet : ByteArray := prog_14_method_124_code
def yX12_owedSet : MethodName := ⟨RX12, "owedSet", "()I"⟩
abbrev cX12_cashAll : ByteArray := prog_14_method_125_code
def yX12_cashAll : MethodName := ⟨RX12, "cashAll", "()I"⟩
abbrev cX12_count : ByteArray := prog_14_method_126_code
def yX12_count : MethodName := ⟨RX12, "count", "(I)I"⟩
def RJ11 : String := "java/lang/Character"
def TJ11 : u_T := fun k => match k with
  | _ => ("", "", "", false)
def tyJ11 : Nat → FieldType := fun k => match k with
  | _ => .int
theorem nmJ11 : ∀ a, a < 0 → ∀ b, b < 0 → a ≠ b → (TJ11 a).2.1 ≠ (TJ11 b).2.1 := by decide +kernel
theorem tyJ11_ok : ∀ k, k < 0 → parseFieldDescriptor (TJ11 k).2.2.1 = some (tyJ11 k) := by decide +kernel
abbrev cJ11_isValidCodePoint_9a6ad : ByteArray := prog_15_method_11_code
def yJ11_isValidCodePoint_9a6ad : MethodName := ⟨RJ11, "isValidCodePoint", "(I)Z"⟩
abbrev cJ11_highSurrogate_5068e : ByteArray := prog_15_method_28_code
def yJ11_highSurrogate_5068e : MethodName := ⟨RJ11, "highSurrogate", "(I)C"⟩
abbrev cJ11_lowSurrogate_5068e : ByteArray := prog_15_method_29_code
def yJ11_lowSurrogate_5068e : MethodName := ⟨RJ11, "lowSurrogate", "(I)C"⟩
def RJ6 : String := "java/lang/Integer"
def TJ6 : u_T := fun k => match k with
  | _ => ("", "", "", false)
def tyJ6 : Nat → FieldType := fun k => match k with
  | _ => .int
theorem nmJ6 : ∀ a, a < 0 → ∀ b, b < 0 → a ≠ b → (TJ6 a).2.1 ≠ (TJ6 b).2.1 := by decide +kernel
theorem tyJ6_ok : ∀ k, k < 0 → parseFieldDescriptor (TJ6 k).2.2.1 = some (tyJ6 k) := by decide +kernel
abbrev cJ6_bitCount_0f7a4 : ByteArray := prog_16_method_49_code
def yJ6_bitCount_0f7a4 : MethodName := ⟨RJ6, "bitCount", "(I)I"⟩
def RJ9 : String := "java/lang/Math"
def TJ9 : u_T := fun k => match k with
  | _ => ("", "", "", false)
def tyJ9 : Nat → FieldType := fun k => match k with
  | _ => .int
theorem nmJ9 : ∀ a, a < 0 → ∀ b, b < 0 → a ≠ b → (TJ9 a).2.1 ≠ (TJ9 b).2.1 := by decide +kernel
theorem tyJ9_ok : ∀ k, k < 0 → parseFieldDescriptor (TJ9 k).2.2.1 = some (tyJ9 k) := by decide +kernel
abbrev cJ9_max_7cf53 : ByteArray := prog_17_method_65_code
def yJ9_max_7cf53 : MethodName := ⟨RJ9, "max", "(II)I"⟩
abbrev cJ9_max_f86c9 : ByteArray := prog_17_method_66_code
def yJ9_max_f86c9 : MethodName := ⟨RJ9, "max", "(JJ)J"⟩
abbrev cJ9_min_7cf53 : ByteArray := prog_17_method_69_code
def yJ9_min_7cf53 : MethodName := ⟨RJ9, "min", "(II)I"⟩
abbrev cJ9_min_f86c9 : ByteArray := prog_17_method_70_code
def yJ9_min_f86c9 : MethodName := ⟨RJ9, "min", "(JJ)J"⟩
def RJ0 : String := "java/lang/String"
def TJ0 : u_T := fun k => match k with
  | _ => ("", "", "", false)
def tyJ0 : Nat → FieldType := fun k => match k with
  | _ => .int
theorem nmJ0 : ∀ a, a < 0 → ∀ b, b < 0 → a ≠ b → (TJ0 a).2.1 ≠ (TJ0 b).2.1 := by decide +kernel
theorem tyJ0_ok : ∀ k, k < 0 → parseFieldDescriptor (TJ0 k).2.2.1 = some (tyJ0 k) := by decide +kernel
abbrev cJ0_length_8abf5 : ByteArray := prog_18_method_54_code
def yJ0_length_8abf5 : MethodName := ⟨RJ0, "length", "()I"⟩
abbrev cJ0_charAt_5068e : ByteArray := prog_18_method_56_code
def yJ0_charAt_5068e : MethodName := ⟨RJ0, "charAt", "(I)C"⟩
abbrev cJ0_indexOf_0f7a4 : ByteArray := prog_18_method_79_code
def yJ0_indexOf_0f7a4 : MethodName := ⟨RJ0, "indexOf", "(I)I"⟩
abbrev cJ0_indexOf_7cf53 : ByteArray := prog_18_method_80_code
def yJ0_indexOf_7cf53 : MethodName := ⟨RJ0, "indexOf", "(II)I"⟩
abbrev cJ0_coder_7d493 : ByteArray := prog_18_method_152_code
def yJ0_coder_7d493 : MethodName := ⟨RJ0, "coder", "()B"⟩
abbrev cJ0_isLatin1_aae02 : ByteArray := prog_18_method_154_code
def yJ0_isLatin1_aae02 : MethodName := ⟨RJ0, "isLatin1", "()Z"⟩
abbrev cJ0_checkIndex_df160 : ByteArray := prog_18_method_155_code
def yJ0_checkIndex_df160 : MethodName := ⟨RJ0, "checkIndex", "(II)V"⟩
abbrev cJ0_checkBoundsBeginEnd_23922 : ByteArray := prog_18_method_158_code
def yJ0_checkBoundsBeginEnd_23922 : MethodName := ⟨RJ0, "checkBoundsBeginEnd", "(III)V"⟩
def RJ1 : String := "java/lang/StringLatin1"
def TJ1 : u_T := fun k => match k with
  | _ => ("", "", "", false)
def tyJ1 : Nat → FieldType := fun k => match k with
  | _ => .int
theorem nmJ1 : ∀ a, a < 0 → ∀ b, b < 0 → a ≠ b → (TJ1 a).2.1 ≠ (TJ1 b).2.1 := by decide +kernel
theorem tyJ1_ok : ∀ k, k < 0 → parseFieldDescriptor (TJ1 k).2.2.1 = some (tyJ1 k) := by decide +kernel
abbrev cJ1_charAt_3b067 : ByteArray := prog_19_method_2_code
def yJ1_charAt_3b067 : MethodName := ⟨RJ1, "charAt", "([BI)C"⟩
abbrev cJ1_canEncode_9a6ad : ByteArray := prog_19_method_4_code
def yJ1_canEncode_9a6ad : MethodName := ⟨RJ1, "canEncode", "(I)Z"⟩
abbrev cJ1_indexOf_4cfef : ByteArray := prog_19_method_22_code
def yJ1_indexOf_4cfef : MethodName := ⟨RJ1, "indexOf", "([BIII)I"⟩
abbrev cJ1_indexOfChar_4cfef : ByteArray := prog_19_method_23_code
def yJ1_indexOfChar_4cfef : MethodName := ⟨RJ1, "indexOfChar", "([BIII)I"⟩
def RJ2 : String := "java/lang/StringUTF16"
def TJ2 : u_T := fun k => match k with
  | _ => ("", "", "", false)
def tyJ2 : Nat → FieldType := fun k => match k with
  | _ => .int
theorem nmJ2 : ∀ a, a < 0 → ∀ b, b < 0 → a ≠ b → (TJ2 a).2.1 ≠ (TJ2 b).2.1 := by decide +kernel
theorem tyJ2_ok : ∀ k, k < 0 → parseFieldDescriptor (TJ2 k).2.2.1 = some (tyJ2 k) := by decide +kernel
abbrev cJ2_getChar_3b067 : ByteArray := prog_20_method_5_code
def yJ2_getChar_3b067 : MethodName := ⟨RJ2, "getChar", "([BI)C"⟩
abbrev cJ2_length_9d52b : ByteArray := prog_20_method_6_code
def yJ2_length_9d52b : MethodName := ⟨RJ2, "length", "([B)I"⟩
abbrev cJ2_indexOf_4cfef : ByteArray := prog_20_method_40_code
def yJ2_indexOf_4cfef : MethodName := ⟨RJ2, "indexOf", "([BIII)I"⟩
abbrev cJ2_indexOfChar_4cfef : ByteArray := prog_20_method_47_code
def yJ2_indexOfChar_4cfef : MethodName := ⟨RJ2, "indexOfChar", "([BIII)I"⟩
abbrev cJ2_indexOfCharUnsafe_4cfef : ByteArray := prog_20_method_48_code
def yJ2_indexOfCharUnsafe_4cfef : MethodName := ⟨RJ2, "indexOfCharUnsafe", "([BIII)I"⟩
abbrev cJ2_indexOfSupplementary_4cfef : ByteArray := prog_20_method_49_code
def yJ2_indexOfSupplementary_4cfef : MethodName := ⟨RJ2, "indexOfSupplementary", "([BIII)I"⟩
abbrev cJ2_charAt_3b067 : ByteArray := prog_20_method_83_code
def yJ2_charAt_3b067 : MethodName := ⟨RJ2, "charAt", "([BI)C"⟩
abbrev cJ2_checkIndex_2214a : ByteArray := prog_20_method_91_code
def yJ2_checkIndex_2214a : MethodName := ⟨RJ2, "checkIndex", "(I[B)V"⟩
abbrev cJ2_checkBoundsBeginEnd_d044e : ByteArray := prog_20_method_93_code
def yJ2_checkBoundsBeginEnd_d044e : MethodName := ⟨RJ2, "checkBoundsBeginEnd", "(II[B)V"⟩
def RJ10 : String := "java/lang/System"
def TJ10 : u_T := fun k => match k with
  | _ => ("", "", "", false)
def tyJ10 : Nat → FieldType := fun k => match k with
  | _ => .int
theorem nmJ10 : ∀ a, a < 0 → ∀ b, b < 0 → a ≠ b → (TJ10 a).2.1 ≠ (TJ10 b).2.1 := by decide +kernel
theorem tyJ10_ok : ∀ k, k < 0 → parseFieldDescriptor (TJ10 k).2.2.1 = some (tyJ10 k) := by decide +kernel
def RJ3 : String := "jdk/internal/util/Preconditions"
def TJ3 : u_T := fun k => match k with
  | _ => ("", "", "", false)
def tyJ3 : Nat → FieldType := fun k => match k with
  | _ => .int
theorem nmJ3 : ∀ a, a < 0 → ∀ b, b < 0 → a ≠ b → (TJ3 a).2.1 ≠ (TJ3 b).2.1 := by decide +kernel
theorem tyJ3_ok : ∀ k, k < 0 → parseFieldDescriptor (TJ3 k).2.2.1 = some (tyJ3 k) := by decide +kernel
abbrev cJ3_checkIndex_8e157 : ByteArray := prog_22_method_11_code
def yJ3_checkIndex_8e157 : MethodName := ⟨RJ3, "checkIndex", "(IILjava/util/function/BiFunction;)I"⟩
abbrev cJ3_checkFromToIndex_8c36e : ByteArray := prog_22_method_12_code
def yJ3_checkFromToIndex_8c36e : MethodName := ⟨RJ3, "checkFromToIndex", "(IIILjava/util/function/BiFunction;)I"⟩
def RL : String := "NextFairLaw"
def yL_law : MethodName := ⟨R_law, "law", "([I)Z"⟩
abbrev cL_law : ByteArray := code
