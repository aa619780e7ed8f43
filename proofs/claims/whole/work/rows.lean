section
-- ===== PART A: goes FIRST, ahead of the names: the tables' words, and 'selects' of the private methods out of them =====
/-- a private method of a class that the tables say can be made, by its rows of tables_1 -/
def lw_okq (q : MethodName × Nat) : Prop := (q.1.cls ≠ "java/lang/invoke/MethodHandle" ∧ q.1.cls ≠ "java/lang/invoke/VarHandle") ∧ Cond.instantiable q.1.cls q.2 ∈ tables_1 ∧ Cond.privateMethod q.1 ∈ tables_1 ∧ Cond.instanceMethod q.1 ∈ tables_1
theorem lw_p0 : lw_okq (⟨"UncrossedParts$Lattice", "countWays", "()V"⟩, 9) := ⟨⟨by decide +kernel, by decide +kernel⟩, List.mem_of_getElem? (i := 69) (by decide +kernel), List.mem_of_getElem? (i := 79) (by decide +kernel), List.mem_of_getElem? (i := 80) (by decide +kernel)⟩
theorem lw_p1 : lw_okq (⟨"UncrossedParts", "settled", "(I)I"⟩, 7) := ⟨⟨by decide +kernel, by decide +kernel⟩, List.mem_of_getElem? (i := 11) (by decide +kernel), List.mem_of_getElem? (i := 241) (by decide +kernel), List.mem_of_getElem? (i := 242) (by decide +kernel)⟩
theorem lw_p2 : lw_okq (⟨"UncrossedParts$Lattice", "takeCycles", "(LUncrossedParts$Part;I)V"⟩, 9) := ⟨⟨by decide +kernel, by decide +kernel⟩, List.mem_of_getElem? (i := 69) (by decide +kernel), List.mem_of_getElem? (i := 288) (by decide +kernel), List.mem_of_getElem? (i := 289) (by decide +kernel)⟩
theorem lw_p3 : lw_okq (⟨"UncrossedParts$Lattice", "uncomplement", "(LUncrossedParts$Part;LUncrossedParts$Part;)V"⟩, 9) := ⟨⟨by decide +kernel, by decide +kernel⟩, List.mem_of_getElem? (i := 69) (by decide +kernel), List.mem_of_getElem? (i := 301) (by decide +kernel), List.mem_of_getElem? (i := 302) (by decide +kernel)⟩
theorem lw_p4 : lw_okq (⟨"UncrossedParts$Board", "putMade", "(I)I"⟩, 3) := ⟨⟨by decide +kernel, by decide +kernel⟩, List.mem_of_getElem? (i := 19) (by decide +kernel), List.mem_of_getElem? (i := 305) (by decide +kernel), List.mem_of_getElem? (i := 306) (by decide +kernel)⟩
theorem lw_p5 : lw_okq (⟨"UncrossedParts", "bad", "()I"⟩, 7) := ⟨⟨by decide +kernel, by decide +kernel⟩, List.mem_of_getElem? (i := 11) (by decide +kernel), List.mem_of_getElem? (i := 380) (by decide +kernel), List.mem_of_getElem? (i := 381) (by decide +kernel)⟩
theorem lw_p6 : lw_okq (⟨"UncrossedParts", "no", "()I"⟩, 7) := ⟨⟨by decide +kernel, by decide +kernel⟩, List.mem_of_getElem? (i := 11) (by decide +kernel), List.mem_of_getElem? (i := 446) (by decide +kernel), List.mem_of_getElem? (i := 447) (by decide +kernel)⟩
theorem lw_p7 : lw_okq (⟨"UncrossedParts$Lattice", "unites", "(LUncrossedParts$Part;II)Z"⟩, 9) := ⟨⟨by decide +kernel, by decide +kernel⟩, List.mem_of_getElem? (i := 69) (by decide +kernel), List.mem_of_getElem? (i := 458) (by decide +kernel), List.mem_of_getElem? (i := 459) (by decide +kernel)⟩
theorem lw_p8 : lw_okq (⟨"UncrossedParts", "intervalError", "(II)I"⟩, 7) := ⟨⟨by decide +kernel, by decide +kernel⟩, List.mem_of_getElem? (i := 11) (by decide +kernel), List.mem_of_getElem? (i := 479) (by decide +kernel), List.mem_of_getElem? (i := 480) (by decide +kernel)⟩
theorem lw_p9 : lw_okq (⟨"UncrossedParts", "isLabels", "(I)Z"⟩, 7) := ⟨⟨by decide +kernel, by decide +kernel⟩, List.mem_of_getElem? (i := 11) (by decide +kernel), List.mem_of_getElem? (i := 501) (by decide +kernel), List.mem_of_getElem? (i := 502) (by decide +kernel)⟩
theorem lw_p10 : lw_okq (⟨"UncrossedParts$Series", "remainder", "(II[J)J"⟩, 4) := ⟨⟨by decide +kernel, by decide +kernel⟩, List.mem_of_getElem? (i := 175) (by decide +kernel), List.mem_of_getElem? (i := 543) (by decide +kernel), List.mem_of_getElem? (i := 544) (by decide +kernel)⟩
theorem lw_p11 : lw_okq (⟨"UncrossedParts$Series", "raise", "(I)V"⟩, 4) := ⟨⟨by decide +kernel, by decide +kernel⟩, List.mem_of_getElem? (i := 175) (by decide +kernel), List.mem_of_getElem? (i := 547) (by decide +kernel), List.mem_of_getElem? (i := 548) (by decide +kernel)⟩
theorem lw_p12 : lw_okq (⟨"UncrossedParts$Series", "besides", "(II)J"⟩, 4) := ⟨⟨by decide +kernel, by decide +kernel⟩, List.mem_of_getElem? (i := 175) (by decide +kernel), List.mem_of_getElem? (i := 551) (by decide +kernel), List.mem_of_getElem? (i := 552) (by decide +kernel)⟩
theorem lw_p13 : lw_okq (⟨"UncrossedParts$Orders", "skipBlanks", "()V"⟩, 6) := ⟨⟨by decide +kernel, by decide +kernel⟩, List.mem_of_getElem? (i := 145) (by decide +kernel), List.mem_of_getElem? (i := 576) (by decide +kernel), List.mem_of_getElem? (i := 577) (by decide +kernel)⟩
theorem lw_p14 : lw_okq (⟨"UncrossedParts$Orders", "readsOrder", "()Z"⟩, 6) := ⟨⟨by decide +kernel, by decide +kernel⟩, List.mem_of_getElem? (i := 145) (by decide +kernel), List.mem_of_getElem? (i := 580) (by decide +kernel), List.mem_of_getElem? (i := 581) (by decide +kernel)⟩
theorem lw_p15 : lw_okq (⟨"UncrossedParts$Orders", "present", "()I"⟩, 6) := ⟨⟨by decide +kernel, by decide +kernel⟩, List.mem_of_getElem? (i := 145) (by decide +kernel), List.mem_of_getElem? (i := 584) (by decide +kernel), List.mem_of_getElem? (i := 585) (by decide +kernel)⟩
def lw_privs_1 : List (MethodName × Nat) := [(⟨"UncrossedParts$Lattice", "countWays", "()V"⟩, 9), (⟨"UncrossedParts", "settled", "(I)I"⟩, 7), (⟨"UncrossedParts$Lattice", "takeCycles", "(LUncrossedParts$Part;I)V"⟩, 9), (⟨"UncrossedParts$Lattice", "uncomplement", "(LUncrossedParts$Part;LUncrossedParts$Part;)V"⟩, 9), (⟨"UncrossedParts$Board", "putMade", "(I)I"⟩, 3), (⟨"UncrossedParts", "bad", "()I"⟩, 7), (⟨"UncrossedParts", "no", "()I"⟩, 7), (⟨"UncrossedParts$Lattice", "unites", "(LUncrossedParts$Part;II)Z"⟩, 9), (⟨"UncrossedParts", "intervalError", "(II)I"⟩, 7), (⟨"UncrossedParts", "isLabels", "(I)Z"⟩, 7), (⟨"UncrossedParts$Series", "remainder", "(II[J)J"⟩, 4), (⟨"UncrossedParts$Series", "raise", "(I)V"⟩, 4), (⟨"UncrossedParts$Series", "besides", "(II)J"⟩, 4), (⟨"UncrossedParts$Orders", "skipBlanks", "()V"⟩, 6), (⟨"UncrossedParts$Orders", "readsOrder", "()Z"⟩, 6), (⟨"UncrossedParts$Orders", "present", "()I"⟩, 6)]
theorem lw_r1 : ∀ q ∈ lw_privs_1, lw_okq q := List.forall_mem_cons.mpr ⟨lw_p0, List.forall_mem_cons.mpr ⟨lw_p1, List.forall_mem_cons.mpr ⟨lw_p2, List.forall_mem_cons.mpr ⟨lw_p3, List.forall_mem_cons.mpr ⟨lw_p4, List.forall_mem_cons.mpr ⟨lw_p5, List.forall_mem_cons.mpr ⟨lw_p6, List.forall_mem_cons.mpr ⟨lw_p7, List.forall_mem_cons.mpr ⟨lw_p8, List.forall_mem_cons.mpr ⟨lw_p9, List.forall_mem_cons.mpr ⟨lw_p10, List.forall_mem_cons.mpr ⟨lw_p11, List.forall_mem_cons.mpr ⟨lw_p12, List.forall_mem_cons.mpr ⟨lw_p13, List.forall_mem_cons.mpr ⟨lw_p14, List.forall_mem_cons.mpr ⟨lw_p15, fun _ h => absurd h List.not_mem_nil⟩⟩⟩⟩⟩⟩⟩⟩⟩⟩⟩⟩⟩⟩⟩⟩
theorem lw_p16 : lw_okq (⟨"UncrossedParts$Orders", "readsNumber", "(IZ)Z"⟩, 6) := ⟨⟨by decide +kernel, by decide +kernel⟩, List.mem_of_getElem? (i := 145) (by decide +kernel), List.mem_of_getElem? (i := 591) (by decide +kernel), List.mem_of_getElem? (i := 592) (by decide +kernel)⟩
theorem lw_p17 : lw_okq (⟨"UncrossedParts", "toldValue", "(I)I"⟩, 7) := ⟨⟨by decide +kernel, by decide +kernel⟩, List.mem_of_getElem? (i := 11) (by decide +kernel), List.mem_of_getElem? (i := 627) (by decide +kernel), List.mem_of_getElem? (i := 628) (by decide +kernel)⟩
theorem lw_p18 : lw_okq (⟨"UncrossedParts", "digestSlot", "(JI)J"⟩, 7) := ⟨⟨by decide +kernel, by decide +kernel⟩, List.mem_of_getElem? (i := 11) (by decide +kernel), List.mem_of_getElem? (i := 637) (by decide +kernel), List.mem_of_getElem? (i := 638) (by decide +kernel)⟩
theorem lw_p19 : lw_okq (⟨"UncrossedParts", "digestKind", "(JII)J"⟩, 7) := ⟨⟨by decide +kernel, by decide +kernel⟩, List.mem_of_getElem? (i := 11) (by decide +kernel), List.mem_of_getElem? (i := 641) (by decide +kernel), List.mem_of_getElem? (i := 642) (by decide +kernel)⟩
theorem lw_p20 : lw_okq (⟨"UncrossedPartsModel", "begin", "(I)V"⟩, 23) := ⟨⟨by decide +kernel, by decide +kernel⟩, List.mem_of_getElem? (i := 645) (by decide +kernel), List.mem_of_getElem? (i := 651) (by decide +kernel), List.mem_of_getElem? (i := 652) (by decide +kernel)⟩
theorem lw_p21 : lw_okq (⟨"UncrossedPartsModel", "hold", "()V"⟩, 23) := ⟨⟨by decide +kernel, by decide +kernel⟩, List.mem_of_getElem? (i := 645) (by decide +kernel), List.mem_of_getElem? (i := 729) (by decide +kernel), List.mem_of_getElem? (i := 730) (by decide +kernel)⟩
theorem lw_p22 : lw_okq (⟨"UncrossedPartsModel", "doPoints", "(I)I"⟩, 23) := ⟨⟨by decide +kernel, by decide +kernel⟩, List.mem_of_getElem? (i := 645) (by decide +kernel), List.mem_of_getElem? (i := 733) (by decide +kernel), List.mem_of_getElem? (i := 734) (by decide +kernel)⟩
theorem lw_p23 : lw_okq (⟨"UncrossedPartsModel", "ends", "(I)I"⟩, 23) := ⟨⟨by decide +kernel, by decide +kernel⟩, List.mem_of_getElem? (i := 645) (by decide +kernel), List.mem_of_getElem? (i := 740) (by decide +kernel), List.mem_of_getElem? (i := 741) (by decide +kernel)⟩
theorem lw_p24 : lw_okq (⟨"UncrossedPartsModel", "refuses", "(I)I"⟩, 23) := ⟨⟨by decide +kernel, by decide +kernel⟩, List.mem_of_getElem? (i := 645) (by decide +kernel), List.mem_of_getElem? (i := 744) (by decide +kernel), List.mem_of_getElem? (i := 745) (by decide +kernel)⟩
theorem lw_p25 : lw_okq (⟨"UncrossedPartsModel", "push", "()V"⟩, 23) := ⟨⟨by decide +kernel, by decide +kernel⟩, List.mem_of_getElem? (i := 645) (by decide +kernel), List.mem_of_getElem? (i := 748) (by decide +kernel), List.mem_of_getElem? (i := 749) (by decide +kernel)⟩
theorem lw_p26 : lw_okq (⟨"UncrossedPartsModel", "doPuts", "(III)I"⟩, 23) := ⟨⟨by decide +kernel, by decide +kernel⟩, List.mem_of_getElem? (i := 645) (by decide +kernel), List.mem_of_getElem? (i := 756) (by decide +kernel), List.mem_of_getElem? (i := 757) (by decide +kernel)⟩
theorem lw_p27 : lw_okq (⟨"UncrossedPartsModel", "isPoint", "(I)Z"⟩, 23) := ⟨⟨by decide +kernel, by decide +kernel⟩, List.mem_of_getElem? (i := 645) (by decide +kernel), List.mem_of_getElem? (i := 763) (by decide +kernel), List.mem_of_getElem? (i := 764) (by decide +kernel)⟩
theorem lw_p28 : lw_okq (⟨"UncrossedPartsModel", "packed", "()I"⟩, 23) := ⟨⟨by decide +kernel, by decide +kernel⟩, List.mem_of_getElem? (i := 645) (by decide +kernel), List.mem_of_getElem? (i := 767) (by decide +kernel), List.mem_of_getElem? (i := 768) (by decide +kernel)⟩
theorem lw_p29 : lw_okq (⟨"UncrossedPartsModel", "joined", "(II)I"⟩, 23) := ⟨⟨by decide +kernel, by decide +kernel⟩, List.mem_of_getElem? (i := 645) (by decide +kernel), List.mem_of_getElem? (i := 771) (by decide +kernel), List.mem_of_getElem? (i := 772) (by decide +kernel)⟩
theorem lw_p30 : lw_okq (⟨"UncrossedPartsModel", "unite", "(II)V"⟩, 23) := ⟨⟨by decide +kernel, by decide +kernel⟩, List.mem_of_getElem? (i := 645) (by decide +kernel), List.mem_of_getElem? (i := 778) (by decide +kernel), List.mem_of_getElem? (i := 779) (by decide +kernel)⟩
theorem lw_p31 : lw_okq (⟨"UncrossedPartsModel", "uniteCrossing", "()Z"⟩, 23) := ⟨⟨by decide +kernel, by decide +kernel⟩, List.mem_of_getElem? (i := 645) (by decide +kernel), List.mem_of_getElem? (i := 782) (by decide +kernel), List.mem_of_getElem? (i := 783) (by decide +kernel)⟩
def lw_privs_2 : List (MethodName × Nat) := [(⟨"UncrossedParts$Orders", "readsNumber", "(IZ)Z"⟩, 6), (⟨"UncrossedParts", "toldValue", "(I)I"⟩, 7), (⟨"UncrossedParts", "digestSlot", "(JI)J"⟩, 7), (⟨"UncrossedParts", "digestKind", "(JII)J"⟩, 7), (⟨"UncrossedPartsModel", "begin", "(I)V"⟩, 23), (⟨"UncrossedPartsModel", "hold", "()V"⟩, 23), (⟨"UncrossedPartsModel", "doPoints", "(I)I"⟩, 23), (⟨"UncrossedPartsModel", "ends", "(I)I"⟩, 23), (⟨"UncrossedPartsModel", "refuses", "(I)I"⟩, 23), (⟨"UncrossedPartsModel", "push", "()V"⟩, 23), (⟨"UncrossedPartsModel", "doPuts", "(III)I"⟩, 23), (⟨"UncrossedPartsModel", "isPoint", "(I)Z"⟩, 23), (⟨"UncrossedPartsModel", "packed", "()I"⟩, 23), (⟨"UncrossedPartsModel", "joined", "(II)I"⟩, 23), (⟨"UncrossedPartsModel", "unite", "(II)V"⟩, 23), (⟨"UncrossedPartsModel", "uniteCrossing", "()Z"⟩, 23)]
theorem lw_r2 : ∀ q ∈ lw_privs_2, lw_okq q := List.forall_mem_cons.mpr ⟨lw_p16, List.forall_mem_cons.mpr ⟨lw_p17, List.forall_mem_cons.mpr ⟨lw_p18, List.forall_mem_cons.mpr ⟨lw_p19, List.forall_mem_cons.mpr ⟨lw_p20, List.forall_mem_cons.mpr ⟨lw_p21, List.forall_mem_cons.mpr ⟨lw_p22, List.forall_mem_cons.mpr ⟨lw_p23, List.forall_mem_cons.mpr ⟨lw_p24, List.forall_mem_cons.mpr ⟨lw_p25, List.forall_mem_cons.mpr ⟨lw_p26, List.forall_mem_cons.mpr ⟨lw_p27, List.forall_mem_cons.mpr ⟨lw_p28, List.forall_mem_cons.mpr ⟨lw_p29, List.forall_mem_cons.mpr ⟨lw_p30, List.forall_mem_cons.mpr ⟨lw_p31, fun _ h => absurd h List.not_mem_nil⟩⟩⟩⟩⟩⟩⟩⟩⟩⟩⟩⟩⟩⟩⟩⟩
theorem lw_p32 : lw_okq (⟨"UncrossedPartsModel", "put", "(II)I"⟩, 23) := ⟨⟨by decide +kernel, by decide +kernel⟩, List.mem_of_getElem? (i := 645) (by decide +kernel), List.mem_of_getElem? (i := 786) (by decide +kernel), List.mem_of_getElem? (i := 787) (by decide +kernel)⟩
theorem lw_p33 : lw_okq (⟨"UncrossedPartsModel", "rankOf", "(I)I"⟩, 23) := ⟨⟨by decide +kernel, by decide +kernel⟩, List.mem_of_getElem? (i := 645) (by decide +kernel), List.mem_of_getElem? (i := 790) (by decide +kernel), List.mem_of_getElem? (i := 791) (by decide +kernel)⟩
theorem lw_p34 : lw_okq (⟨"UncrossedPartsModel", "doMeets", "(III)I"⟩, 23) := ⟨⟨by decide +kernel, by decide +kernel⟩, List.mem_of_getElem? (i := 645) (by decide +kernel), List.mem_of_getElem? (i := 798) (by decide +kernel), List.mem_of_getElem? (i := 799) (by decide +kernel)⟩
theorem lw_p35 : lw_okq (⟨"UncrossedPartsModel", "met", "(II)I"⟩, 23) := ⟨⟨by decide +kernel, by decide +kernel⟩, List.mem_of_getElem? (i := 645) (by decide +kernel), List.mem_of_getElem? (i := 802) (by decide +kernel), List.mem_of_getElem? (i := 803) (by decide +kernel)⟩
theorem lw_p36 : lw_okq (⟨"UncrossedPartsModel", "doJoins", "(III)I"⟩, 23) := ⟨⟨by decide +kernel, by decide +kernel⟩, List.mem_of_getElem? (i := 645) (by decide +kernel), List.mem_of_getElem? (i := 810) (by decide +kernel), List.mem_of_getElem? (i := 811) (by decide +kernel)⟩
theorem lw_p37 : lw_okq (⟨"UncrossedPartsModel", "doComplements", "(II)I"⟩, 23) := ⟨⟨by decide +kernel, by decide +kernel⟩, List.mem_of_getElem? (i := 645) (by decide +kernel), List.mem_of_getElem? (i := 818) (by decide +kernel), List.mem_of_getElem? (i := 819) (by decide +kernel)⟩
theorem lw_p38 : lw_okq (⟨"UncrossedPartsModel", "complement", "(I)I"⟩, 23) := ⟨⟨by decide +kernel, by decide +kernel⟩, List.mem_of_getElem? (i := 645) (by decide +kernel), List.mem_of_getElem? (i := 822) (by decide +kernel), List.mem_of_getElem? (i := 823) (by decide +kernel)⟩
theorem lw_p39 : lw_okq (⟨"UncrossedPartsModel", "nextOf", "(II)I"⟩, 23) := ⟨⟨by decide +kernel, by decide +kernel⟩, List.mem_of_getElem? (i := 645) (by decide +kernel), List.mem_of_getElem? (i := 826) (by decide +kernel), List.mem_of_getElem? (i := 827) (by decide +kernel)⟩
theorem lw_p40 : lw_okq (⟨"UncrossedPartsModel", "doTurns", "(II)I"⟩, 23) := ⟨⟨by decide +kernel, by decide +kernel⟩, List.mem_of_getElem? (i := 645) (by decide +kernel), List.mem_of_getElem? (i := 834) (by decide +kernel), List.mem_of_getElem? (i := 835) (by decide +kernel)⟩
theorem lw_p41 : lw_okq (⟨"UncrossedPartsModel", "turned", "(I)I"⟩, 23) := ⟨⟨by decide +kernel, by decide +kernel⟩, List.mem_of_getElem? (i := 645) (by decide +kernel), List.mem_of_getElem? (i := 838) (by decide +kernel), List.mem_of_getElem? (i := 839) (by decide +kernel)⟩
theorem lw_p42 : lw_okq (⟨"UncrossedPartsModel", "numberOf", "(I)I"⟩, 23) := ⟨⟨by decide +kernel, by decide +kernel⟩, List.mem_of_getElem? (i := 645) (by decide +kernel), List.mem_of_getElem? (i := 842) (by decide +kernel), List.mem_of_getElem? (i := 843) (by decide +kernel)⟩
theorem lw_p43 : lw_okq (⟨"UncrossedPartsModel", "lay", "()V"⟩, 23) := ⟨⟨by decide +kernel, by decide +kernel⟩, List.mem_of_getElem? (i := 645) (by decide +kernel), List.mem_of_getElem? (i := 846) (by decide +kernel), List.mem_of_getElem? (i := 847) (by decide +kernel)⟩
theorem lw_p44 : lw_okq (⟨"UncrossedPartsModel", "isWell", "(I)Z"⟩, 23) := ⟨⟨by decide +kernel, by decide +kernel⟩, List.mem_of_getElem? (i := 645) (by decide +kernel), List.mem_of_getElem? (i := 850) (by decide +kernel), List.mem_of_getElem? (i := 851) (by decide +kernel)⟩
theorem lw_p45 : lw_okq (⟨"UncrossedPartsModel", "isCrossing", "(I)Z"⟩, 23) := ⟨⟨by decide +kernel, by decide +kernel⟩, List.mem_of_getElem? (i := 645) (by decide +kernel), List.mem_of_getElem? (i := 854) (by decide +kernel), List.mem_of_getElem? (i := 855) (by decide +kernel)⟩
theorem lw_p46 : lw_okq (⟨"UncrossedPartsModel", "doTakes", "(II)I"⟩, 23) := ⟨⟨by decide +kernel, by decide +kernel⟩, List.mem_of_getElem? (i := 645) (by decide +kernel), List.mem_of_getElem? (i := 862) (by decide +kernel), List.mem_of_getElem? (i := 863) (by decide +kernel)⟩
theorem lw_p47 : lw_okq (⟨"UncrossedPartsModel", "doNumber", "(II)I"⟩, 23) := ⟨⟨by decide +kernel, by decide +kernel⟩, List.mem_of_getElem? (i := 645) (by decide +kernel), List.mem_of_getElem? (i := 870) (by decide +kernel), List.mem_of_getElem? (i := 871) (by decide +kernel)⟩
def lw_privs_3 : List (MethodName × Nat) := [(⟨"UncrossedPartsModel", "put", "(II)I"⟩, 23), (⟨"UncrossedPartsModel", "rankOf", "(I)I"⟩, 23), (⟨"UncrossedPartsModel", "doMeets", "(III)I"⟩, 23), (⟨"UncrossedPartsModel", "met", "(II)I"⟩, 23), (⟨"UncrossedPartsModel", "doJoins", "(III)I"⟩, 23), (⟨"UncrossedPartsModel", "doComplements", "(II)I"⟩, 23), (⟨"UncrossedPartsModel", "complement", "(I)I"⟩, 23), (⟨"UncrossedPartsModel", "nextOf", "(II)I"⟩, 23), (⟨"UncrossedPartsModel", "doTurns", "(II)I"⟩, 23), (⟨"UncrossedPartsModel", "turned", "(I)I"⟩, 23), (⟨"UncrossedPartsModel", "numberOf", "(I)I"⟩, 23), (⟨"UncrossedPartsModel", "lay", "()V"⟩, 23), (⟨"UncrossedPartsModel", "isWell", "(I)Z"⟩, 23), (⟨"UncrossedPartsModel", "isCrossing", "(I)Z"⟩, 23), (⟨"UncrossedPartsModel", "doTakes", "(II)I"⟩, 23), (⟨"UncrossedPartsModel", "doNumber", "(II)I"⟩, 23)]
theorem lw_r3 : ∀ q ∈ lw_privs_3, lw_okq q := List.forall_mem_cons.mpr ⟨lw_p32, List.forall_mem_cons.mpr ⟨lw_p33, List.forall_mem_cons.mpr ⟨lw_p34, List.forall_mem_cons.mpr ⟨lw_p35, List.forall_mem_cons.mpr ⟨lw_p36, List.forall_mem_cons.mpr ⟨lw_p37, List.forall_mem_cons.mpr ⟨lw_p38, List.forall_mem_cons.mpr ⟨lw_p39, List.forall_mem_cons.mpr ⟨lw_p40, List.forall_mem_cons.mpr ⟨lw_p41, List.forall_mem_cons.mpr ⟨lw_p42, List.forall_mem_cons.mpr ⟨lw_p43, List.forall_mem_cons.mpr ⟨lw_p44, List.forall_mem_cons.mpr ⟨lw_p45, List.forall_mem_cons.mpr ⟨lw_p46, List.forall_mem_cons.mpr ⟨lw_p47, fun _ h => absurd h List.not_mem_nil⟩⟩⟩⟩⟩⟩⟩⟩⟩⟩⟩⟩⟩⟩⟩⟩
theorem lw_p48 : lw_okq (⟨"UncrossedPartsModel", "ofPart", "(II)I"⟩, 23) := ⟨⟨by decide +kernel, by decide +kernel⟩, List.mem_of_getElem? (i := 645) (by decide +kernel), List.mem_of_getElem? (i := 882) (by decide +kernel), List.mem_of_getElem? (i := 883) (by decide +kernel)⟩
theorem lw_p49 : lw_okq (⟨"UncrossedPartsModel", "blocks", "(IZ)I"⟩, 23) := ⟨⟨by decide +kernel, by decide +kernel⟩, List.mem_of_getElem? (i := 645) (by decide +kernel), List.mem_of_getElem? (i := 886) (by decide +kernel), List.mem_of_getElem? (i := 887) (by decide +kernel)⟩
theorem lw_p50 : lw_okq (⟨"UncrossedPartsModel", "sizeOf", "(II)I"⟩, 23) := ⟨⟨by decide +kernel, by decide +kernel⟩, List.mem_of_getElem? (i := 645) (by decide +kernel), List.mem_of_getElem? (i := 890) (by decide +kernel), List.mem_of_getElem? (i := 891) (by decide +kernel)⟩
theorem lw_p51 : lw_okq (⟨"UncrossedPartsModel", "covering", "(IZ)I"⟩, 23) := ⟨⟨by decide +kernel, by decide +kernel⟩, List.mem_of_getElem? (i := 645) (by decide +kernel), List.mem_of_getElem? (i := 894) (by decide +kernel), List.mem_of_getElem? (i := 895) (by decide +kernel)⟩
theorem lw_p52 : lw_okq (⟨"UncrossedPartsModel", "isBelow", "(II)Z"⟩, 23) := ⟨⟨by decide +kernel, by decide +kernel⟩, List.mem_of_getElem? (i := 645) (by decide +kernel), List.mem_of_getElem? (i := 898) (by decide +kernel), List.mem_of_getElem? (i := 899) (by decide +kernel)⟩
theorem lw_p53 : lw_okq (⟨"UncrossedPartsModel", "counted", "(I)I"⟩, 23) := ⟨⟨by decide +kernel, by decide +kernel⟩, List.mem_of_getElem? (i := 645) (by decide +kernel), List.mem_of_getElem? (i := 914) (by decide +kernel), List.mem_of_getElem? (i := 915) (by decide +kernel)⟩
theorem lw_p54 : lw_okq (⟨"UncrossedPartsModel", "markOf", "(II)I"⟩, 23) := ⟨⟨by decide +kernel, by decide +kernel⟩, List.mem_of_getElem? (i := 645) (by decide +kernel), List.mem_of_getElem? (i := 930) (by decide +kernel), List.mem_of_getElem? (i := 931) (by decide +kernel)⟩
theorem lw_p55 : lw_okq (⟨"UncrossedPartsModel", "refusedOf", "(II)I"⟩, 23) := ⟨⟨by decide +kernel, by decide +kernel⟩, List.mem_of_getElem? (i := 645) (by decide +kernel), List.mem_of_getElem? (i := 938) (by decide +kernel), List.mem_of_getElem? (i := 939) (by decide +kernel)⟩
theorem lw_p56 : lw_okq (⟨"UncrossedPartsModel", "chainsBy", "(III)I"⟩, 23) := ⟨⟨by decide +kernel, by decide +kernel⟩, List.mem_of_getElem? (i := 645) (by decide +kernel), List.mem_of_getElem? (i := 942) (by decide +kernel), List.mem_of_getElem? (i := 943) (by decide +kernel)⟩
theorem lw_p57 : lw_okq (⟨"UncrossedPartsModel", "waysTo", "(III)I"⟩, 23) := ⟨⟨by decide +kernel, by decide +kernel⟩, List.mem_of_getElem? (i := 645) (by decide +kernel), List.mem_of_getElem? (i := 946) (by decide +kernel), List.mem_of_getElem? (i := 947) (by decide +kernel)⟩
theorem lw_p58 : lw_okq (⟨"UncrossedPartsModel", "signTo", "(I)I"⟩, 23) := ⟨⟨by decide +kernel, by decide +kernel⟩, List.mem_of_getElem? (i := 645) (by decide +kernel), List.mem_of_getElem? (i := 958) (by decide +kernel), List.mem_of_getElem? (i := 959) (by decide +kernel)⟩
theorem lw_p59 : lw_okq (⟨"UncrossedPartsModel", "asOf", "(III)J"⟩, 23) := ⟨⟨by decide +kernel, by decide +kernel⟩, List.mem_of_getElem? (i := 645) (by decide +kernel), List.mem_of_getElem? (i := 971) (by decide +kernel), List.mem_of_getElem? (i := 972) (by decide +kernel)⟩
theorem lw_p60 : lw_okq (⟨"UncrossedPartsModel", "findPowers", "(I)V"⟩, 23) := ⟨⟨by decide +kernel, by decide +kernel⟩, List.mem_of_getElem? (i := 645) (by decide +kernel), List.mem_of_getElem? (i := 975) (by decide +kernel), List.mem_of_getElem? (i := 976) (by decide +kernel)⟩
theorem lw_p61 : lw_okq (⟨"UncrossedPartsModel", "timesOf", "(III)J"⟩, 23) := ⟨⟨by decide +kernel, by decide +kernel⟩, List.mem_of_getElem? (i := 645) (by decide +kernel), List.mem_of_getElem? (i := 979) (by decide +kernel), List.mem_of_getElem? (i := 980) (by decide +kernel)⟩
theorem lw_p62 : lw_okq (⟨"UncrossedPartsModel", "here", "()I"⟩, 23) := ⟨⟨by decide +kernel, by decide +kernel⟩, List.mem_of_getElem? (i := 645) (by decide +kernel), List.mem_of_getElem? (i := 998) (by decide +kernel), List.mem_of_getElem? (i := 999) (by decide +kernel)⟩
theorem lw_p63 : lw_okq (⟨"UncrossedPartsModel", "must", "(Z)V"⟩, 23) := ⟨⟨by decide +kernel, by decide +kernel⟩, List.mem_of_getElem? (i := 645) (by decide +kernel), List.mem_of_getElem? (i := 1002) (by decide +kernel), List.mem_of_getElem? (i := 1003) (by decide +kernel)⟩
def lw_privs_4 : List (MethodName × Nat) := [(⟨"UncrossedPartsModel", "ofPart", "(II)I"⟩, 23), (⟨"UncrossedPartsModel", "blocks", "(IZ)I"⟩, 23), (⟨"UncrossedPartsModel", "sizeOf", "(II)I"⟩, 23), (⟨"UncrossedPartsModel", "covering", "(IZ)I"⟩, 23), (⟨"UncrossedPartsModel", "isBelow", "(II)Z"⟩, 23), (⟨"UncrossedPartsModel", "counted", "(I)I"⟩, 23), (⟨"UncrossedPartsModel", "markOf", "(II)I"⟩, 23), (⟨"UncrossedPartsModel", "refusedOf", "(II)I"⟩, 23), (⟨"UncrossedPartsModel", "chainsBy", "(III)I"⟩, 23), (⟨"UncrossedPartsModel", "waysTo", "(III)I"⟩, 23), (⟨"UncrossedPartsModel", "signTo", "(I)I"⟩, 23), (⟨"UncrossedPartsModel", "asOf", "(III)J"⟩, 23), (⟨"UncrossedPartsModel", "findPowers", "(I)V"⟩, 23), (⟨"UncrossedPartsModel", "timesOf", "(III)J"⟩, 23), (⟨"UncrossedPartsModel", "here", "()I"⟩, 23), (⟨"UncrossedPartsModel", "must", "(Z)V"⟩, 23)]
theorem lw_r4 : ∀ q ∈ lw_privs_4, lw_okq q := List.forall_mem_cons.mpr ⟨lw_p48, List.forall_mem_cons.mpr ⟨lw_p49, List.forall_mem_cons.mpr ⟨lw_p50, List.forall_mem_cons.mpr ⟨lw_p51, List.forall_mem_cons.mpr ⟨lw_p52, List.forall_mem_cons.mpr ⟨lw_p53, List.forall_mem_cons.mpr ⟨lw_p54, List.forall_mem_cons.mpr ⟨lw_p55, List.forall_mem_cons.mpr ⟨lw_p56, List.forall_mem_cons.mpr ⟨lw_p57, List.forall_mem_cons.mpr ⟨lw_p58, List.forall_mem_cons.mpr ⟨lw_p59, List.forall_mem_cons.mpr ⟨lw_p60, List.forall_mem_cons.mpr ⟨lw_p61, List.forall_mem_cons.mpr ⟨lw_p62, List.forall_mem_cons.mpr ⟨lw_p63, fun _ h => absurd h List.not_mem_nil⟩⟩⟩⟩⟩⟩⟩⟩⟩⟩⟩⟩⟩⟩⟩⟩
theorem lw_p64 : lw_okq (⟨"UncrossedPartsModel", "readOrder", "()V"⟩, 23) := ⟨⟨by decide +kernel, by decide +kernel⟩, List.mem_of_getElem? (i := 645) (by decide +kernel), List.mem_of_getElem? (i := 1006) (by decide +kernel), List.mem_of_getElem? (i := 1007) (by decide +kernel)⟩
theorem lw_p65 : lw_okq (⟨"UncrossedPartsModel", "read", "(Z)I"⟩, 23) := ⟨⟨by decide +kernel, by decide +kernel⟩, List.mem_of_getElem? (i := 645) (by decide +kernel), List.mem_of_getElem? (i := 1013) (by decide +kernel), List.mem_of_getElem? (i := 1014) (by decide +kernel)⟩
theorem lw_p66 : lw_okq (⟨"UncrossedPartsModel", "plain", "()I"⟩, 23) := ⟨⟨by decide +kernel, by decide +kernel⟩, List.mem_of_getElem? (i := 645) (by decide +kernel), List.mem_of_getElem? (i := 1017) (by decide +kernel), List.mem_of_getElem? (i := 1018) (by decide +kernel)⟩
theorem lw_p67 : lw_okq (⟨"UncrossedPartsModel", "isFigure", "()Z"⟩, 23) := ⟨⟨by decide +kernel, by decide +kernel⟩, List.mem_of_getElem? (i := 645) (by decide +kernel), List.mem_of_getElem? (i := 1021) (by decide +kernel), List.mem_of_getElem? (i := 1022) (by decide +kernel)⟩
theorem lw_p68 : lw_okq (⟨"UncrossedPartsModel", "doOrder", "(I)I"⟩, 23) := ⟨⟨by decide +kernel, by decide +kernel⟩, List.mem_of_getElem? (i := 645) (by decide +kernel), List.mem_of_getElem? (i := 1025) (by decide +kernel), List.mem_of_getElem? (i := 1026) (by decide +kernel)⟩
theorem lw_p69 : lw_okq (⟨"UncrossedPartsModel", "toldOf", "(I)I"⟩, 23) := ⟨⟨by decide +kernel, by decide +kernel⟩, List.mem_of_getElem? (i := 645) (by decide +kernel), List.mem_of_getElem? (i := 1033) (by decide +kernel), List.mem_of_getElem? (i := 1034) (by decide +kernel)⟩
theorem lw_p70 : lw_okq (⟨"UncrossedPartsModel", "mix", "(J)V"⟩, 23) := ⟨⟨by decide +kernel, by decide +kernel⟩, List.mem_of_getElem? (i := 645) (by decide +kernel), List.mem_of_getElem? (i := 1042) (by decide +kernel), List.mem_of_getElem? (i := 1043) (by decide +kernel)⟩
def lw_privs_5 : List (MethodName × Nat) := [(⟨"UncrossedPartsModel", "readOrder", "()V"⟩, 23), (⟨"UncrossedPartsModel", "read", "(Z)I"⟩, 23), (⟨"UncrossedPartsModel", "plain", "()I"⟩, 23), (⟨"UncrossedPartsModel", "isFigure", "()Z"⟩, 23), (⟨"UncrossedPartsModel", "doOrder", "(I)I"⟩, 23), (⟨"UncrossedPartsModel", "toldOf", "(I)I"⟩, 23), (⟨"UncrossedPartsModel", "mix", "(J)V"⟩, 23)]
theorem lw_r5 : ∀ q ∈ lw_privs_5, lw_okq q := List.forall_mem_cons.mpr ⟨lw_p64, List.forall_mem_cons.mpr ⟨lw_p65, List.forall_mem_cons.mpr ⟨lw_p66, List.forall_mem_cons.mpr ⟨lw_p67, List.forall_mem_cons.mpr ⟨lw_p68, List.forall_mem_cons.mpr ⟨lw_p69, List.forall_mem_cons.mpr ⟨lw_p70, fun _ h => absurd h List.not_mem_nil⟩⟩⟩⟩⟩⟩⟩
def lw_privs : List (MethodName × Nat) := lw_privs_1 ++ (lw_privs_2 ++ (lw_privs_3 ++ (lw_privs_4 ++ (lw_privs_5))))
def lw_tbl : List Cond := k2_sels lw_privs ++ tables_1
theorem lw_privs_ok : ∀ q ∈ lw_privs, lw_okq q := by
  show ∀ q ∈ lw_privs_1 ++ (lw_privs_2 ++ (lw_privs_3 ++ (lw_privs_4 ++ (lw_privs_5)))), lw_okq q
  exact List.forall_mem_append.mpr ⟨lw_r1, List.forall_mem_append.mpr ⟨lw_r2, List.forall_mem_append.mpr ⟨lw_r3, List.forall_mem_append.mpr ⟨lw_r4, lw_r5⟩⟩⟩⟩
-- ===== end of PART A; then your names; then what follows =====
end
section
/-! ===== BEGIN words of one list among another's, by their places ===== -/
theorem goodIn_r {big : List Cond} (ws : List Cond) (ps : List Nat) (hp : ws = ps.filterMap (fun i => big[i]?)) (h : ws.all goodWord = true) : GoodIn big ws := by
  intro w hw
  have h1 := List.all_eq_true.mp h w hw
  rw [hp] at hw
  obtain ⟨i, -, hi⟩ := List.mem_filterMap.mp hw
  have hm : w ∈ big := by first | exact List.mem_of_getElem? hi | exact List.getElem?_mem hi
  exact ⟨hm, good_of_word h1⟩
theorem goodIn_app {big a b : List Cond} (ha : GoodIn big a) (hb : GoodIn big b) : GoodIn big (a ++ b) := fun w h => (List.mem_append.mp h).elim (ha w) (hb w)
theorem goodIn_ca {big a b : List Cond} {c : Cond} (ha : GoodIn big (c :: a)) (hb : GoodIn big b) : GoodIn big (c :: (a ++ b)) := fun w h => (List.mem_cons.mp h).elim (fun e => ha w (List.mem_cons.mpr (Or.inl e))) (fun h => (List.mem_append.mp h).elim (fun h => ha w (List.mem_cons.mpr (Or.inr h))) (hb w))
theorem goodIn_sub {big ws : List Cond} (hm : ∀ w ∈ ws, w ∈ big) (h : ws.all goodWord = true) : GoodIn big ws := fun w hw => ⟨hm w hw, good_of_word (List.all_eq_true.mp h w hw)⟩
/-! ===== END ===== -/

/-! ===== BEGIN printed: names, fields, word lists, decode rows ===== -/
def RX0 : String := "UncrossedParts$Board"
def TX0 : u_T := fun k => match k with
  | 0 => ("UncrossedParts$Board", "now", "LUncrossedParts$State;", true)
  | 1 => ("UncrossedParts$Board", "lattice", "LUncrossedParts$Lattice;", true)
  | _ => ("UncrossedParts$Board", "made", "LUncrossedParts$Part;", true)
def tyX0 : Nat → FieldType := fun k => match k with
  | 0 => .object "UncrossedParts$State"
  | 1 => .object "UncrossedParts$Lattice"
  | _ => .object "UncrossedParts$Part"
abbrev wsX00 : List Cond := u_ws RX0 TX0 3
theorem nmX0 : ∀ a, a < 3 → ∀ b, b < 3 → a ≠ b → (TX0 a).2.1 ≠ (TX0 b).2.1 := by decide +kernel
theorem tyX0_ok : ∀ k, k < 3 → parseFieldDescriptor (TX0 k).2.2.1 = some (tyX0 k) := by decide +kernel
abbrev cX0_init : ByteArray := prog_2_method_1_code
def yX0_init : MethodName := ⟨RX0, "<init>", "()V"⟩
abbrev cX0_isPoint : ByteArray := prog_2_method_2_code
def yX0_isPoint : MethodName := ⟨RX0, "isPoint", "(I)Z"⟩
abbrev cX0_part : ByteArray := prog_2_method_3_code
def yX0_part : MethodName := ⟨RX0, "part", "(I)LUncrossedParts$Part;"⟩
abbrev cX0_changePoints : ByteArray := prog_2_method_4_code
def yX0_changePoints : MethodName := ⟨RX0, "changePoints", "(I)I"⟩
abbrev cX0_unite : ByteArray := prog_2_method_5_code
def yX0_unite : MethodName := ⟨RX0, "unite", "(III)I"⟩
abbrev cX0_putMeet : ByteArray := prog_2_method_6_code
def yX0_putMeet : MethodName := ⟨RX0, "putMeet", "(III)I"⟩
abbrev cX0_putJoin : ByteArray := prog_2_method_7_code
def yX0_putJoin : MethodName := ⟨RX0, "putJoin", "(III)I"⟩
abbrev cX0_putComplement : ByteArray := prog_2_method_8_code
def yX0_putComplement : MethodName := ⟨RX0, "putComplement", "(II)I"⟩
abbrev cX0_putTurned : ByteArray := prog_2_method_9_code
def yX0_putTurned : MethodName := ⟨RX0, "putTurned", "(II)I"⟩
abbrev cX0_putPlace : ByteArray := prog_2_method_10_code
def yX0_putPlace : MethodName := ⟨RX0, "putPlace", "(II)I"⟩
abbrev cX0_putMade : ByteArray := prog_2_method_11_code
def yX0_putMade : MethodName := ⟨RX0, "putMade", "(I)I"⟩
abbrev cX0_changeNumber : ByteArray := prog_2_method_12_code
def yX0_changeNumber : MethodName := ⟨RX0, "changeNumber", "(II)I"⟩
abbrev cX0_carryOut : ByteArray := prog_2_method_13_code
def yX0_carryOut : MethodName := ⟨RX0, "carryOut", "(I[I)I"⟩
abbrev cX0_property : ByteArray := prog_2_method_14_code
def yX0_property : MethodName := ⟨RX0, "property", "(II)I"⟩
abbrev cX0_amount : ByteArray := prog_2_method_15_code
def yX0_amount : MethodName := ⟨RX0, "amount", "(I)I"⟩
abbrev cX0_ranked : ByteArray := prog_2_method_16_code
def yX0_ranked : MethodName := ⟨RX0, "ranked", "(II)I"⟩
abbrev cX0_interval : ByteArray := prog_2_method_17_code
def yX0_interval : MethodName := ⟨RX0, "interval", "(II)LUncrossedParts$Part;"⟩
abbrev cX0_isParking : ByteArray := prog_2_method_18_code
def yX0_isParking : MethodName := ⟨RX0, "isParking", "(I)Z"⟩
def RX1 : String := "UncrossedParts$Lattice"
def TX1 : u_T := fun k => match k with
  | 0 => ("UncrossedParts$Lattice", "step", "[I", true)
  | 1 => ("UncrossedParts$Lattice", "depths", "[I", true)
  | 2 => ("UncrossedParts$Lattice", "lows", "[I", true)
  | 3 => ("UncrossedParts$Lattice", "ways", "[[I", true)
  | 4 => ("UncrossedParts$Lattice", "first", "LUncrossedParts$Part;", true)
  | 5 => ("UncrossedParts$Lattice", "second", "LUncrossedParts$Part;", true)
  | 6 => ("UncrossedParts$Lattice", "shared", "LUncrossedParts$Part;", true)
  | 7 => ("UncrossedParts$Lattice", "pair", "LUncrossedParts$Part;", true)
  | _ => ("UncrossedParts$Lattice", "cover", "LUncrossedParts$Part;", true)
def tyX1 : Nat → FieldType := fun k => match k with
  | 0 => .array .int
  | 1 => .array .int
  | 2 => .array .int
  | 3 => .array (.array .int)
  | 4 => .object "UncrossedParts$Part"
  | 5 => .object "UncrossedParts$Part"
  | 6 => .object "UncrossedParts$Part"
  | 7 => .object "UncrossedParts$Part"
  | _ => .object "UncrossedParts$Part"
abbrev wsX10 : List Cond := u_ws RX1 TX1 9
theorem nmX1 : ∀ a, a < 9 → ∀ b, b < 9 → a ≠ b → (TX1 a).2.1 ≠ (TX1 b).2.1 := by decide +kernel
theorem tyX1_ok : ∀ k, k < 9 → parseFieldDescriptor (TX1 k).2.2.1 = some (tyX1 k) := by decide +kernel
abbrev cX1_init : ByteArray := prog_3_method_1_code
def yX1_init : MethodName := ⟨RX1, "<init>", "()V"⟩
abbrev cX1_countWays : ByteArray := prog_3_method_2_code
def yX1_countWays : MethodName := ⟨RX1, "countWays", "()V"⟩
abbrev cX1_placeOf : ByteArray := prog_3_method_3_code
def yX1_placeOf : MethodName := ⟨RX1, "placeOf", "(LUncrossedParts$Part;)I"⟩
abbrev cX1_takePlace : ByteArray := prog_3_method_4_code
def yX1_takePlace : MethodName := ⟨RX1, "takePlace", "(LUncrossedParts$Part;II)V"⟩
abbrev cX1_meet : ByteArray := prog_3_method_5_code
def yX1_meet : MethodName := ⟨RX1, "meet", "(LUncrossedParts$Part;LUncrossedParts$Part;LUncrossedParts$Part;)V"⟩
abbrev cX1_join : ByteArray := prog_3_method_6_code
def yX1_join : MethodName := ⟨RX1, "join", "(LUncrossedParts$Part;LUncrossedParts$Part;LUncrossedParts$Part;)V"⟩
abbrev cX1_pairOf : ByteArray := prog_3_method_7_code
def yX1_pairOf : MethodName := ⟨RX1, "pairOf", "(III)LUncrossedParts$Part;"⟩
abbrev cX1_complement : ByteArray := prog_3_method_8_code
def yX1_complement : MethodName := ⟨RX1, "complement", "(LUncrossedParts$Part;LUncrossedParts$Part;)V"⟩
abbrev cX1_uncomplement : ByteArray := prog_3_method_9_code
def yX1_uncomplement : MethodName := ⟨RX1, "uncomplement", "(LUncrossedParts$Part;LUncrossedParts$Part;)V"⟩
abbrev cX1_complementInside : ByteArray := prog_3_method_10_code
def yX1_complementInside : MethodName := ⟨RX1, "complementInside", "(LUncrossedParts$Part;LUncrossedParts$Part;LUncrossedParts$Part;)V"⟩
abbrev cX1_turn : ByteArray := prog_3_method_11_code
def yX1_turn : MethodName := ⟨RX1, "turn", "(LUncrossedParts$Part;LUncrossedParts$Part;)V"⟩
abbrev cX1_after : ByteArray := prog_3_method_12_code
def yX1_after : MethodName := ⟨RX1, "after", "(II)I"⟩
abbrev cX1_takeCycles : ByteArray := prog_3_method_13_code
def yX1_takeCycles : MethodName := ⟨RX1, "takeCycles", "(LUncrossedParts$Part;I)V"⟩
abbrev cX1_coversOf : ByteArray := prog_3_method_14_code
def yX1_coversOf : MethodName := ⟨RX1, "coversOf", "(LUncrossedParts$Part;)I"⟩
abbrev cX1_coverOf : ByteArray := prog_3_method_15_code
def yX1_coverOf : MethodName := ⟨RX1, "coverOf", "(LUncrossedParts$Part;I)I"⟩
abbrev cX1_unites : ByteArray := prog_3_method_16_code
def yX1_unites : MethodName := ⟨RX1, "unites", "(LUncrossedParts$Part;II)Z"⟩
def RX2 : String := "UncrossedParts$Orders"
def TX2 : u_T := fun k => match k with
  | 0 => ("UncrossedParts$Orders", "bytes", "[I", true)
  | 1 => ("UncrossedParts$Orders", "length", "I", false)
  | 2 => ("UncrossedParts$Orders", "at", "I", false)
  | 3 => ("UncrossedParts$Orders", "found", "I", false)
  | 4 => ("UncrossedParts$Orders", "letters", "[I", true)
  | _ => ("UncrossedParts$Orders", "values", "[[I", true)
def tyX2 : Nat → FieldType := fun k => match k with
  | 0 => .array .int
  | 1 => .int
  | 2 => .int
  | 3 => .int
  | 4 => .array .int
  | _ => .array (.array .int)
abbrev wsX20 : List Cond := u_ws RX2 TX2 6
theorem nmX2 : ∀ a, a < 6 → ∀ b, b < 6 → a ≠ b → (TX2 a).2.1 ≠ (TX2 b).2.1 := by decide +kernel
theorem tyX2_ok : ∀ k, k < 6 → parseFieldDescriptor (TX2 k).2.2.1 = some (tyX2 k) := by decide +kernel
abbrev cX2_init : ByteArray := prog_4_method_1_code
def yX2_init : MethodName := ⟨RX2, "<init>", "()V"⟩
abbrev cX2_append : ByteArray := prog_4_method_2_code
def yX2_append : MethodName := ⟨RX2, "append", "(I)V"⟩
abbrev cX2_fault : ByteArray := prog_4_method_3_code
def yX2_fault : MethodName := ⟨RX2, "fault", "()I"⟩
abbrev cX2_readsOrder : ByteArray := prog_4_method_4_code
def yX2_readsOrder : MethodName := ⟨RX2, "readsOrder", "()Z"⟩
abbrev cX2_readsNumber : ByteArray := prog_4_method_5_code
def yX2_readsNumber : MethodName := ⟨RX2, "readsNumber", "(IZ)Z"⟩
abbrev cX2_skipBlanks : ByteArray := prog_4_method_6_code
def yX2_skipBlanks : MethodName := ⟨RX2, "skipBlanks", "()V"⟩
abbrev cX2_present : ByteArray := prog_4_method_7_code
def yX2_present : MethodName := ⟨RX2, "present", "()I"⟩
abbrev cX2_isDigit : ByteArray := prog_4_method_8_code
def yX2_isDigit : MethodName := ⟨RX2, "isDigit", "(I)Z"⟩
abbrev cX2_argumentsOf : ByteArray := prog_4_method_9_code
def yX2_argumentsOf : MethodName := ⟨RX2, "argumentsOf", "(I)I"⟩
def RX3 : String := "UncrossedParts$Part"
def TX3 : u_T := fun k => match k with
  | 0 => ("UncrossedParts$Part", "points", "I", false)
  | _ => ("UncrossedParts$Part", "low", "[I", true)
def tyX3 : Nat → FieldType := fun k => match k with
  | 0 => .int
  | _ => .array .int
abbrev wsX30 : List Cond := u_ws RX3 TX3 2
theorem nmX3 : ∀ a, a < 2 → ∀ b, b < 2 → a ≠ b → (TX3 a).2.1 ≠ (TX3 b).2.1 := by decide +kernel
theorem tyX3_ok : ∀ k, k < 2 → parseFieldDescriptor (TX3 k).2.2.1 = some (tyX3 k) := by decide +kernel
abbrev cX3_init : ByteArray := prog_5_method_1_code
def yX3_init : MethodName := ⟨RX3, "<init>", "()V"⟩
abbrev cX3_split : ByteArray := prog_5_method_2_code
def yX3_split : MethodName := ⟨RX3, "split", "(I)V"⟩
abbrev cX3_copy : ByteArray := prog_5_method_3_code
def yX3_copy : MethodName := ⟨RX3, "copy", "(LUncrossedParts$Part;)V"⟩
abbrev cX3_isLowest : ByteArray := prog_5_method_4_code
def yX3_isLowest : MethodName := ⟨RX3, "isLowest", "(I)Z"⟩
abbrev cX3_areTogether : ByteArray := prog_5_method_5_code
def yX3_areTogether : MethodName := ⟨RX3, "areTogether", "(II)Z"⟩
abbrev cX3_rank : ByteArray := prog_5_method_6_code
def yX3_rank : MethodName := ⟨RX3, "rank", "()I"⟩
abbrev cX3_sizeFrom : ByteArray := prog_5_method_7_code
def yX3_sizeFrom : MethodName := ⟨RX3, "sizeFrom", "(I)I"⟩
abbrev cX3_next : ByteArray := prog_5_method_8_code
def yX3_next : MethodName := ⟨RX3, "next", "(I)I"⟩
abbrev cX3_previous : ByteArray := prog_5_method_9_code
def yX3_previous : MethodName := ⟨RX3, "previous", "(I)I"⟩
abbrev cX3_isUnder : ByteArray := prog_5_method_10_code
def yX3_isUnder : MethodName := ⟨RX3, "isUnder", "(LUncrossedParts$Part;)Z"⟩
abbrev cX3_labelTo : ByteArray := prog_5_method_11_code
def yX3_labelTo : MethodName := ⟨RX3, "labelTo", "(LUncrossedParts$Part;)I"⟩
abbrev cX3_singles : ByteArray := prog_5_method_12_code
def yX3_singles : MethodName := ⟨RX3, "singles", "()I"⟩
abbrev cX3_largest : ByteArray := prog_5_method_13_code
def yX3_largest : MethodName := ⟨RX3, "largest", "()I"⟩
abbrev cX3_pairs : ByteArray := prog_5_method_14_code
def yX3_pairs : MethodName := ⟨RX3, "pairs", "()I"⟩
abbrev cX3_chainsOfProduct : ByteArray := prog_5_method_15_code
def yX3_chainsOfProduct : MethodName := ⟨RX3, "chainsOfProduct", "()I"⟩
abbrev cX3_moebiusOfProduct : ByteArray := prog_5_method_16_code
def yX3_moebiusOfProduct : MethodName := ⟨RX3, "moebiusOfProduct", "()I"⟩
abbrev cX3_sizeOfProduct : ByteArray := prog_5_method_17_code
def yX3_sizeOfProduct : MethodName := ⟨RX3, "sizeOfProduct", "()I"⟩
def RX4 : String := "UncrossedParts$Past"
def TX4 : u_T := fun k => match k with
  | 0 => ("UncrossedParts$Past", "ring", "[LUncrossedParts$State;", true)
  | 1 => ("UncrossedParts$Past", "next", "I", false)
  | _ => ("UncrossedParts$Past", "held", "I", false)
def tyX4 : Nat → FieldType := fun k => match k with
  | 0 => .array (.object "UncrossedParts$State")
  | 1 => .int
  | _ => .int
abbrev wsX40 : List Cond := u_ws RX4 TX4 3
theorem nmX4 : ∀ a, a < 3 → ∀ b, b < 3 → a ≠ b → (TX4 a).2.1 ≠ (TX4 b).2.1 := by decide +kernel
theorem tyX4_ok : ∀ k, k < 3 → parseFieldDescriptor (TX4 k).2.2.1 = some (tyX4 k) := by decide +kernel
abbrev cX4_init : ByteArray := prog_6_method_1_code
def yX4_init : MethodName := ⟨RX4, "<init>", "()V"⟩
abbrev cX4_prepare : ByteArray := prog_6_method_2_code
def yX4_prepare : MethodName := ⟨RX4, "prepare", "(LUncrossedParts$State;)V"⟩
abbrev cX4_prepared : ByteArray := prog_6_method_3_code
def yX4_prepared : MethodName := ⟨RX4, "prepared", "()LUncrossedParts$State;"⟩
abbrev cX4_keep : ByteArray := prog_6_method_4_code
def yX4_keep : MethodName := ⟨RX4, "keep", "()V"⟩
abbrev cX4_stepBack : ByteArray := prog_6_method_5_code
def yX4_stepBack : MethodName := ⟨RX4, "stepBack", "()V"⟩
def RX5 : String := "UncrossedParts$Series"
def TX5 : u_T := fun k => match k with
  | 0 => ("UncrossedParts$Series", "wanted", "[J", true)
  | 1 => ("UncrossedParts$Series", "given", "[J", true)
  | 2 => ("UncrossedParts$Series", "moments", "[J", true)
  | _ => ("UncrossedParts$Series", "powers", "[[J", true)
def tyX5 : Nat → FieldType := fun k => match k with
  | 0 => .array .long
  | 1 => .array .long
  | 2 => .array .long
  | _ => .array (.array .long)
abbrev wsX50 : List Cond := u_ws RX5 TX5 4
theorem nmX5 : ∀ a, a < 4 → ∀ b, b < 4 → a ≠ b → (TX5 a).2.1 ≠ (TX5 b).2.1 := by decide +kernel
theorem tyX5_ok : ∀ k, k < 4 → parseFieldDescriptor (TX5 k).2.2.1 = some (tyX5 k) := by decide +kernel
abbrev cX5_init : ByteArray := prog_7_method_1_code
def yX5_init : MethodName := ⟨RX5, "<init>", "()V"⟩
abbrev cX5_convert : ByteArray := prog_7_method_2_code
def yX5_convert : MethodName := ⟨RX5, "convert", "([III)V"⟩
abbrev cX5_remainder : ByteArray := prog_7_method_3_code
def yX5_remainder : MethodName := ⟨RX5, "remainder", "(II[J)J"⟩
abbrev cX5_besides : ByteArray := prog_7_method_4_code
def yX5_besides : MethodName := ⟨RX5, "besides", "(II)J"⟩
abbrev cX5_raise : ByteArray := prog_7_method_5_code
def yX5_raise : MethodName := ⟨RX5, "raise", "(I)V"⟩
def RX6 : String := "UncrossedParts$State"
def TX6 : u_T := fun k => match k with
  | 0 => ("UncrossedParts$State", "points", "I", false)
  | 1 => ("UncrossedParts$State", "parts", "[LUncrossedParts$Part;", true)
  | _ => ("UncrossedParts$State", "numbers", "[I", true)
def tyX6 : Nat → FieldType := fun k => match k with
  | 0 => .int
  | 1 => .array (.object "UncrossedParts$Part")
  | _ => .array .int
abbrev wsX60 : List Cond := u_ws RX6 TX6 3
theorem nmX6 : ∀ a, a < 3 → ∀ b, b < 3 → a ≠ b → (TX6 a).2.1 ≠ (TX6 b).2.1 := by decide +kernel
theorem tyX6_ok : ∀ k, k < 3 → parseFieldDescriptor (TX6 k).2.2.1 = some (tyX6 k) := by decide +kernel
abbrev cX6_init : ByteArray := prog_8_method_1_code
def yX6_init : MethodName := ⟨RX6, "<init>", "()V"⟩
abbrev cX6_copy : ByteArray := prog_8_method_2_code
def yX6_copy : MethodName := ⟨RX6, "copy", "(LUncrossedParts$State;)V"⟩
def RX7 : String := "UncrossedParts"
def TX7 : u_T := fun k => match k with
  | 0 => ("UncrossedParts", "board", "LUncrossedParts$Board;", true)
  | 1 => ("UncrossedParts", "past", "LUncrossedParts$Past;", true)
  | 2 => ("UncrossedParts", "orders", "LUncrossedParts$Orders;", true)
  | 3 => ("UncrossedParts", "series", "LUncrossedParts$Series;", true)
  | 4 => ("UncrossedParts", "bads", "I", false)
  | 5 => ("UncrossedParts", "nos", "I", false)
  | _ => ("UncrossedParts", "fulls", "I", false)
def tyX7 : Nat → FieldType := fun k => match k with
  | 0 => .object "UncrossedParts$Board"
  | 1 => .object "UncrossedParts$Past"
  | 2 => .object "UncrossedParts$Orders"
  | 3 => .object "UncrossedParts$Series"
  | 4 => .int
  | 5 => .int
  | _ => .int
abbrev wsX70 : List Cond := u_ws RX7 TX7 7
theorem nmX7 : ∀ a, a < 7 → ∀ b, b < 7 → a ≠ b → (TX7 a).2.1 ≠ (TX7 b).2.1 := by decide +kernel
theorem tyX7_ok : ∀ k, k < 7 → parseFieldDescriptor (TX7 k).2.2.1 = some (tyX7 k) := by decide +kernel
abbrev cX7_init : ByteArray := prog_1_method_1_code
def yX7_init : MethodName := ⟨RX7, "<init>", "()V"⟩
abbrev cX7_points : ByteArray := prog_1_method_2_code
def yX7_points : MethodName := ⟨RX7, "points", "(I)I"⟩
abbrev cX7_puts : ByteArray := prog_1_method_3_code
def yX7_puts : MethodName := ⟨RX7, "puts", "(III)I"⟩
abbrev cX7_meets : ByteArray := prog_1_method_4_code
def yX7_meets : MethodName := ⟨RX7, "meets", "(III)I"⟩
abbrev cX7_joins : ByteArray := prog_1_method_5_code
def yX7_joins : MethodName := ⟨RX7, "joins", "(III)I"⟩
abbrev cX7_complements : ByteArray := prog_1_method_6_code
def yX7_complements : MethodName := ⟨RX7, "complements", "(II)I"⟩
abbrev cX7_turns : ByteArray := prog_1_method_7_code
def yX7_turns : MethodName := ⟨RX7, "turns", "(II)I"⟩
abbrev cX7_takes : ByteArray := prog_1_method_8_code
def yX7_takes : MethodName := ⟨RX7, "takes", "(II)I"⟩
abbrev cX7_of : ByteArray := prog_1_method_9_code
def yX7_of : MethodName := ⟨RX7, "of", "(II)I"⟩
abbrev cX7_row : ByteArray := prog_1_method_10_code
def yX7_row : MethodName := ⟨RX7, "row", "(II)I"⟩
abbrev cX7_below : ByteArray := prog_1_method_11_code
def yX7_below : MethodName := ⟨RX7, "below", "(II)I"⟩
abbrev cX7_count : ByteArray := prog_1_method_12_code
def yX7_count : MethodName := ⟨RX7, "count", "(I)I"⟩
abbrev cX7_evens : ByteArray := prog_1_method_13_code
def yX7_evens : MethodName := ⟨RX7, "evens", "()I"⟩
abbrev cX7_covers : ByteArray := prog_1_method_14_code
def yX7_covers : MethodName := ⟨RX7, "covers", "(II)I"⟩
abbrev cX7_mark : ByteArray := prog_1_method_15_code
def yX7_mark : MethodName := ⟨RX7, "mark", "(II)I"⟩
abbrev cX7_chains : ByteArray := prog_1_method_16_code
def yX7_chains : MethodName := ⟨RX7, "chains", "(II)I"⟩
abbrev cX7_marked : ByteArray := prog_1_method_17_code
def yX7_marked : MethodName := ⟨RX7, "marked", "(I)I"⟩
abbrev cX7_signed : ByteArray := prog_1_method_18_code
def yX7_signed : MethodName := ⟨RX7, "signed", "(II)I"⟩
abbrev cX7_between : ByteArray := prog_1_method_19_code
def yX7_between : MethodName := ⟨RX7, "between", "(II)I"⟩
abbrev cX7_number : ByteArray := prog_1_method_20_code
def yX7_number : MethodName := ⟨RX7, "number", "(II)I"⟩
abbrev cX7_as : ByteArray := prog_1_method_21_code
def yX7_as : MethodName := ⟨RX7, "as", "(III)J"⟩
abbrev cX7_type : ByteArray := prog_1_method_22_code
def yX7_type : MethodName := ⟨RX7, "type", "(I)I"⟩
abbrev cX7_clear : ByteArray := prog_1_method_23_code
def yX7_clear : MethodName := ⟨RX7, "clear", "()I"⟩
abbrev cX7_does : ByteArray := prog_1_method_24_code
def yX7_does : MethodName := ⟨RX7, "does", "()I"⟩
abbrev cX7_back : ByteArray := prog_1_method_25_code
def yX7_back : MethodName := ⟨RX7, "back", "()I"⟩
abbrev cX7_told : ByteArray := prog_1_method_26_code
def yX7_told : MethodName := ⟨RX7, "told", "(I)I"⟩
abbrev cX7_digest : ByteArray := prog_1_method_27_code
def yX7_digest : MethodName := ⟨RX7, "digest", "()J"⟩
abbrev cX7_digestSlot : ByteArray := prog_1_method_28_code
def yX7_digestSlot : MethodName := ⟨RX7, "digestSlot", "(JI)J"⟩
abbrev cX7_digestKind : ByteArray := prog_1_method_29_code
def yX7_digestKind : MethodName := ⟨RX7, "digestKind", "(JII)J"⟩
abbrev cX7_toldValue : ByteArray := prog_1_method_30_code
def yX7_toldValue : MethodName := ⟨RX7, "toldValue", "(I)I"⟩
abbrev cX7_settled : ByteArray := prog_1_method_31_code
def yX7_settled : MethodName := ⟨RX7, "settled", "(I)I"⟩
abbrev cX7_bad : ByteArray := prog_1_method_32_code
def yX7_bad : MethodName := ⟨RX7, "bad", "()I"⟩
abbrev cX7_no : ByteArray := prog_1_method_33_code
def yX7_no : MethodName := ⟨RX7, "no", "()I"⟩
abbrev cX7_intervalError : ByteArray := prog_1_method_34_code
def yX7_intervalError : MethodName := ⟨RX7, "intervalError", "(II)I"⟩
abbrev cX7_isLabels : ByteArray := prog_1_method_35_code
def yX7_isLabels : MethodName := ⟨RX7, "isLabels", "(I)Z"⟩
abbrev cX7_isSlot : ByteArray := prog_1_method_36_code
def yX7_isSlot : MethodName := ⟨RX7, "isSlot", "(I)Z"⟩
abbrev cX7_choose : ByteArray := prog_1_method_37_code
def yX7_choose : MethodName := ⟨RX7, "choose", "(II)I"⟩
def RX8 : String := "UncrossedPartsModel"
def TX8 : u_T := fun k => match k with
  | 0 => ("UncrossedPartsModel", "now", "[I", true)
  | 1 => ("UncrossedPartsModel", "held", "[I", true)
  | 2 => ("UncrossedPartsModel", "past", "[I", true)
  | 3 => ("UncrossedPartsModel", "pasts", "I", false)
  | 4 => ("UncrossedPartsModel", "refused", "[I", true)
  | 5 => ("UncrossedPartsModel", "text", "[I", true)
  | 6 => ("UncrossedPartsModel", "typed", "I", false)
  | 7 => ("UncrossedPartsModel", "group", "[I", true)
  | 8 => ("UncrossedPartsModel", "laidFor", "I", false)
  | 9 => ("UncrossedPartsModel", "many", "I", false)
  | 10 => ("UncrossedPartsModel", "parts", "[I", true)
  | 11 => ("UncrossedPartsModel", "ranks", "[I", true)
  | 12 => ("UncrossedPartsModel", "ways", "[I", true)
  | 13 => ("UncrossedPartsModel", "signs", "[I", true)
  | 14 => ("UncrossedPartsModel", "moment", "[J", true)
  | 15 => ("UncrossedPartsModel", "cumulant", "[J", true)
  | 16 => ("UncrossedPartsModel", "power", "[J", true)
  | 17 => ("UncrossedPartsModel", "at", "I", false)
  | 18 => ("UncrossedPartsModel", "fault", "I", false)
  | 19 => ("UncrossedPartsModel", "orders", "I", false)
  | 20 => ("UncrossedPartsModel", "letters", "[I", true)
  | 21 => ("UncrossedPartsModel", "numbers", "[I", true)
  | _ => ("UncrossedPartsModel", "h", "J", false)
def tyX8 : Nat → FieldType := fun k => match k with
  | 0 => .array .int
  | 1 => .array .int
  | 2 => .array .int
  | 3 => .int
  | 4 => .array .int
  | 5 => .array .int
  | 6 => .int
  | 7 => .array .int
  | 8 => .int
  | 9 => .int
  | 10 => .array .int
  | 11 => .array .int
  | 12 => .array .int
  | 13 => .array .int
  | 14 => .array .long
  | 15 => .array .long
  | 16 => .array .long
  | 17 => .int
  | 18 => .int
  | 19 => .int
  | 20 => .array .int
  | 21 => .array .int
  | _ => .long
abbrev wsX80 : List Cond := u_ws RX8 TX8 23
theorem nmX8 : ∀ a, a < 23 → ∀ b, b < 23 → a ≠ b → (TX8 a).2.1 ≠ (TX8 b).2.1 := by decide +kernel
theorem tyX8_ok : ∀ k, k < 23 → parseFieldDescriptor (TX8 k).2.2.1 = some (tyX8 k) := by decide +kernel
abbrev cX8_init : ByteArray := prog_10_method_1_code
def yX8_init : MethodName := ⟨RX8, "<init>", "()V"⟩
abbrev cX8_in : ByteArray := prog_10_method_2_code
def yX8_in : MethodName := ⟨RX8, "in", "(III)Z"⟩
abbrev cX8_refuses : ByteArray := prog_10_method_3_code
def yX8_refuses : MethodName := ⟨RX8, "refuses", "(I)I"⟩
abbrev cX8_rowOf : ByteArray := prog_10_method_4_code
def yX8_rowOf : MethodName := ⟨RX8, "rowOf", "(II)I"⟩
abbrev cX8_begin : ByteArray := prog_10_method_5_code
def yX8_begin : MethodName := ⟨RX8, "begin", "(I)V"⟩
abbrev cX8_packed : ByteArray := prog_10_method_6_code
def yX8_packed : MethodName := ⟨RX8, "packed", "()I"⟩
abbrev cX8_unite : ByteArray := prog_10_method_7_code
def yX8_unite : MethodName := ⟨RX8, "unite", "(II)V"⟩
abbrev cX8_uniteCrossing : ByteArray := prog_10_method_8_code
def yX8_uniteCrossing : MethodName := ⟨RX8, "uniteCrossing", "()Z"⟩
abbrev cX8_isCrossing : ByteArray := prog_10_method_9_code
def yX8_isCrossing : MethodName := ⟨RX8, "isCrossing", "(I)Z"⟩
abbrev cX8_joined : ByteArray := prog_10_method_10_code
def yX8_joined : MethodName := ⟨RX8, "joined", "(II)I"⟩
abbrev cX8_met : ByteArray := prog_10_method_11_code
def yX8_met : MethodName := ⟨RX8, "met", "(II)I"⟩
abbrev cX8_turned : ByteArray := prog_10_method_12_code
def yX8_turned : MethodName := ⟨RX8, "turned", "(I)I"⟩
abbrev cX8_nextOf : ByteArray := prog_10_method_13_code
def yX8_nextOf : MethodName := ⟨RX8, "nextOf", "(II)I"⟩
abbrev cX8_complement : ByteArray := prog_10_method_14_code
def yX8_complement : MethodName := ⟨RX8, "complement", "(I)I"⟩
abbrev cX8_rankOf : ByteArray := prog_10_method_15_code
def yX8_rankOf : MethodName := ⟨RX8, "rankOf", "(I)I"⟩
abbrev cX8_isBelow : ByteArray := prog_10_method_16_code
def yX8_isBelow : MethodName := ⟨RX8, "isBelow", "(II)Z"⟩
abbrev cX8_isWell : ByteArray := prog_10_method_17_code
def yX8_isWell : MethodName := ⟨RX8, "isWell", "(I)Z"⟩
abbrev cX8_lay : ByteArray := prog_10_method_18_code
def yX8_lay : MethodName := ⟨RX8, "lay", "()V"⟩
abbrev cX8_numberOf : ByteArray := prog_10_method_19_code
def yX8_numberOf : MethodName := ⟨RX8, "numberOf", "(I)I"⟩
abbrev cX8_isSlot : ByteArray := prog_10_method_20_code
def yX8_isSlot : MethodName := ⟨RX8, "isSlot", "(I)Z"⟩
abbrev cX8_isPoint : ByteArray := prog_10_method_21_code
def yX8_isPoint : MethodName := ⟨RX8, "isPoint", "(I)Z"⟩
abbrev cX8_doPoints : ByteArray := prog_10_method_22_code
def yX8_doPoints : MethodName := ⟨RX8, "doPoints", "(I)I"⟩
abbrev cX8_put : ByteArray := prog_10_method_23_code
def yX8_put : MethodName := ⟨RX8, "put", "(II)I"⟩
abbrev cX8_doPuts : ByteArray := prog_10_method_24_code
def yX8_doPuts : MethodName := ⟨RX8, "doPuts", "(III)I"⟩
abbrev cX8_doMeets : ByteArray := prog_10_method_25_code
def yX8_doMeets : MethodName := ⟨RX8, "doMeets", "(III)I"⟩
abbrev cX8_doJoins : ByteArray := prog_10_method_26_code
def yX8_doJoins : MethodName := ⟨RX8, "doJoins", "(III)I"⟩
abbrev cX8_doComplements : ByteArray := prog_10_method_27_code
def yX8_doComplements : MethodName := ⟨RX8, "doComplements", "(II)I"⟩
abbrev cX8_doTurns : ByteArray := prog_10_method_28_code
def yX8_doTurns : MethodName := ⟨RX8, "doTurns", "(II)I"⟩
abbrev cX8_doTakes : ByteArray := prog_10_method_29_code
def yX8_doTakes : MethodName := ⟨RX8, "doTakes", "(II)I"⟩
abbrev cX8_doNumber : ByteArray := prog_10_method_30_code
def yX8_doNumber : MethodName := ⟨RX8, "doNumber", "(II)I"⟩
abbrev cX8_hold : ByteArray := prog_10_method_31_code
def yX8_hold : MethodName := ⟨RX8, "hold", "()V"⟩
abbrev cX8_push : ByteArray := prog_10_method_32_code
def yX8_push : MethodName := ⟨RX8, "push", "()V"⟩
abbrev cX8_ends : ByteArray := prog_10_method_33_code
def yX8_ends : MethodName := ⟨RX8, "ends", "(I)I"⟩
abbrev cX8_points : ByteArray := prog_10_method_34_code
def yX8_points : MethodName := ⟨RX8, "points", "(I)I"⟩
abbrev cX8_puts : ByteArray := prog_10_method_35_code
def yX8_puts : MethodName := ⟨RX8, "puts", "(III)I"⟩
abbrev cX8_meets : ByteArray := prog_10_method_36_code
def yX8_meets : MethodName := ⟨RX8, "meets", "(III)I"⟩
abbrev cX8_joins : ByteArray := prog_10_method_37_code
def yX8_joins : MethodName := ⟨RX8, "joins", "(III)I"⟩
abbrev cX8_complements : ByteArray := prog_10_method_38_code
def yX8_complements : MethodName := ⟨RX8, "complements", "(II)I"⟩
abbrev cX8_turns : ByteArray := prog_10_method_39_code
def yX8_turns : MethodName := ⟨RX8, "turns", "(II)I"⟩
abbrev cX8_takes : ByteArray := prog_10_method_40_code
def yX8_takes : MethodName := ⟨RX8, "takes", "(II)I"⟩
abbrev cX8_number : ByteArray := prog_10_method_41_code
def yX8_number : MethodName := ⟨RX8, "number", "(II)I"⟩
abbrev cX8_back : ByteArray := prog_10_method_42_code
def yX8_back : MethodName := ⟨RX8, "back", "()I"⟩
abbrev cX8_sizeOf : ByteArray := prog_10_method_43_code
def yX8_sizeOf : MethodName := ⟨RX8, "sizeOf", "(II)I"⟩
abbrev cX8_blocks : ByteArray := prog_10_method_44_code
def yX8_blocks : MethodName := ⟨RX8, "blocks", "(IZ)I"⟩
abbrev cX8_covering : ByteArray := prog_10_method_45_code
def yX8_covering : MethodName := ⟨RX8, "covering", "(IZ)I"⟩
abbrev cX8_ofPart : ByteArray := prog_10_method_46_code
def yX8_ofPart : MethodName := ⟨RX8, "ofPart", "(II)I"⟩
abbrev cX8_of : ByteArray := prog_10_method_47_code
def yX8_of : MethodName := ⟨RX8, "of", "(II)I"⟩
abbrev cX8_row : ByteArray := prog_10_method_48_code
def yX8_row : MethodName := ⟨RX8, "row", "(II)I"⟩
abbrev cX8_below : ByteArray := prog_10_method_49_code
def yX8_below : MethodName := ⟨RX8, "below", "(II)I"⟩
abbrev cX8_counted : ByteArray := prog_10_method_50_code
def yX8_counted : MethodName := ⟨RX8, "counted", "(I)I"⟩
abbrev cX8_count : ByteArray := prog_10_method_51_code
def yX8_count : MethodName := ⟨RX8, "count", "(I)I"⟩
abbrev cX8_evens : ByteArray := prog_10_method_52_code
def yX8_evens : MethodName := ⟨RX8, "evens", "()I"⟩
abbrev cX8_covers : ByteArray := prog_10_method_53_code
def yX8_covers : MethodName := ⟨RX8, "covers", "(II)I"⟩
abbrev cX8_markOf : ByteArray := prog_10_method_54_code
def yX8_markOf : MethodName := ⟨RX8, "markOf", "(II)I"⟩
abbrev cX8_mark : ByteArray := prog_10_method_55_code
def yX8_mark : MethodName := ⟨RX8, "mark", "(II)I"⟩
abbrev cX8_chainsBy : ByteArray := prog_10_method_56_code
def yX8_chainsBy : MethodName := ⟨RX8, "chainsBy", "(III)I"⟩
abbrev cX8_waysTo : ByteArray := prog_10_method_57_code
def yX8_waysTo : MethodName := ⟨RX8, "waysTo", "(III)I"⟩
abbrev cX8_refusedOf : ByteArray := prog_10_method_58_code
def yX8_refusedOf : MethodName := ⟨RX8, "refusedOf", "(II)I"⟩
abbrev cX8_chains : ByteArray := prog_10_method_59_code
def yX8_chains : MethodName := ⟨RX8, "chains", "(II)I"⟩
abbrev cX8_marked : ByteArray := prog_10_method_60_code
def yX8_marked : MethodName := ⟨RX8, "marked", "(I)I"⟩
abbrev cX8_signed : ByteArray := prog_10_method_61_code
def yX8_signed : MethodName := ⟨RX8, "signed", "(II)I"⟩
abbrev cX8_signTo : ByteArray := prog_10_method_62_code
def yX8_signTo : MethodName := ⟨RX8, "signTo", "(I)I"⟩
abbrev cX8_between : ByteArray := prog_10_method_63_code
def yX8_between : MethodName := ⟨RX8, "between", "(II)I"⟩
abbrev cX8_findPowers : ByteArray := prog_10_method_64_code
def yX8_findPowers : MethodName := ⟨RX8, "findPowers", "(I)V"⟩
abbrev cX8_choose : ByteArray := prog_10_method_65_code
def yX8_choose : MethodName := ⟨RX8, "choose", "(II)J"⟩
abbrev cX8_timesOf : ByteArray := prog_10_method_66_code
def yX8_timesOf : MethodName := ⟨RX8, "timesOf", "(III)J"⟩
abbrev cX8_asOf : ByteArray := prog_10_method_67_code
def yX8_asOf : MethodName := ⟨RX8, "asOf", "(III)J"⟩
abbrev cX8_as : ByteArray := prog_10_method_68_code
def yX8_as : MethodName := ⟨RX8, "as", "(III)J"⟩
abbrev cX8_type : ByteArray := prog_10_method_69_code
def yX8_type : MethodName := ⟨RX8, "type", "(I)I"⟩
abbrev cX8_clear : ByteArray := prog_10_method_70_code
def yX8_clear : MethodName := ⟨RX8, "clear", "()I"⟩
abbrev cX8_here : ByteArray := prog_10_method_71_code
def yX8_here : MethodName := ⟨RX8, "here", "()I"⟩
abbrev cX8_must : ByteArray := prog_10_method_72_code
def yX8_must : MethodName := ⟨RX8, "must", "(Z)V"⟩
abbrev cX8_isFigure : ByteArray := prog_10_method_73_code
def yX8_isFigure : MethodName := ⟨RX8, "isFigure", "()Z"⟩
abbrev cX8_plain : ByteArray := prog_10_method_74_code
def yX8_plain : MethodName := ⟨RX8, "plain", "()I"⟩
abbrev cX8_read : ByteArray := prog_10_method_75_code
def yX8_read : MethodName := ⟨RX8, "read", "(Z)I"⟩
abbrev cX8_numbersOf : ByteArray := prog_10_method_76_code
def yX8_numbersOf : MethodName := ⟨RX8, "numbersOf", "(I)I"⟩
abbrev cX8_readOrder : ByteArray := prog_10_method_77_code
def yX8_readOrder : MethodName := ⟨RX8, "readOrder", "()V"⟩
abbrev cX8_doOrder : ByteArray := prog_10_method_78_code
def yX8_doOrder : MethodName := ⟨RX8, "doOrder", "(I)I"⟩
abbrev cX8_does : ByteArray := prog_10_method_79_code
def yX8_does : MethodName := ⟨RX8, "does", "()I"⟩
abbrev cX8_toldOf : ByteArray := prog_10_method_80_code
def yX8_toldOf : MethodName := ⟨RX8, "toldOf", "(I)I"⟩
abbrev cX8_told : ByteArray := prog_10_method_81_code
def yX8_told : MethodName := ⟨RX8, "told", "(I)I"⟩
abbrev cX8_mix : ByteArray := prog_10_method_82_code
def yX8_mix : MethodName := ⟨RX8, "mix", "(J)V"⟩
abbrev cX8_digest : ByteArray := prog_10_method_83_code
def yX8_digest : MethodName := ⟨RX8, "digest", "()J"⟩
def RL : String := "UncrossedPartsLaw"
abbrev cL_law : ByteArray := code
def yL_law : MethodName := ⟨RL, "law", "([I)Z"⟩
set_option maxRecDepth 20000 in
abbrev vwCl : List vw_C := [(RX0, TX0, 3), (RX1, TX1, 9), (RX2, TX2, 6), (RX3, TX3, 2), (RX4, TX4, 3), (RX5, TX5, 4), (RX6, TX6, 3), (RX7, TX7, 7), (RX8, TX8, 23)]
end
section
theorem dX0_init_0 : decode cX0_init 0 = .ok (.aload_n 0, 1) := by decide +kernel
theorem dX0_init_1 : decode cX0_init 1 = .ok (.invokespecial 3, 3) := by decide +kernel
theorem dX0_init_4 : decode cX0_init 4 = .ok (.aload_n 0, 1) := by decide +kernel
theorem dX0_init_5 : decode cX0_init 5 = .ok (.new 9, 3) := by decide +kernel
theorem dX0_init_8 : decode cX0_init 8 = .ok (.dup, 1) := by decide +kernel
theorem dX0_init_9 : decode cX0_init 9 = .ok (.invokespecial 11, 3) := by decide +kernel
theorem dX0_init_12 : decode cX0_init 12 = .ok (.putfield 12, 3) := by decide +kernel
theorem dX0_init_15 : decode cX0_init 15 = .ok (.aload_n 0, 1) := by decide +kernel
theorem dX0_init_16 : decode cX0_init 16 = .ok (.new 18, 3) := by decide +kernel
theorem dX0_init_19 : decode cX0_init 19 = .ok (.dup, 1) := by decide +kernel
theorem dX0_init_20 : decode cX0_init 20 = .ok (.invokespecial 20, 3) := by decide +kernel
theorem dX0_init_23 : decode cX0_init 23 = .ok (.putfield 21, 3) := by decide +kernel
theorem dX0_init_26 : decode cX0_init 26 = .ok (.aload_n 0, 1) := by decide +kernel
theorem dX0_init_27 : decode cX0_init 27 = .ok (.new 25, 3) := by decide +kernel
theorem dX0_init_30 : decode cX0_init 30 = .ok (.dup, 1) := by decide +kernel
theorem dX0_init_31 : decode cX0_init 31 = .ok (.invokespecial 27, 3) := by decide +kernel
theorem dX0_init_34 : decode cX0_init 34 = .ok (.putfield 28, 3) := by decide +kernel
theorem dX0_init_37 : decode cX0_init 37 = .ok (.return_, 1) := by decide +kernel
theorem dX0_isPoint_0 : decode cX0_isPoint 0 = .ok (.iload_n 1, 1) := by decide +kernel
theorem dX0_isPoint_1 : decode cX0_isPoint 1 = .ok (.ifCond .lt 18, 3) := by decide +kernel
theorem dX0_isPoint_4 : decode cX0_isPoint 4 = .ok (.iload_n 1, 1) := by decide +kernel
theorem dX0_isPoint_5 : decode cX0_isPoint 5 = .ok (.aload_n 0, 1) := by decide +kernel
theorem dX0_isPoint_6 : decode cX0_isPoint 6 = .ok (.getfield 12, 3) := by decide +kernel
theorem dX0_isPoint_9 : decode cX0_isPoint 9 = .ok (.getfield 32, 3) := by decide +kernel
theorem dX0_isPoint_12 : decode cX0_isPoint 12 = .ok (.if_icmp .ge 7, 3) := by decide +kernel
theorem dX0_isPoint_15 : decode cX0_isPoint 15 = .ok (.iconst 1, 1) := by decide +kernel
theorem dX0_isPoint_16 : decode cX0_isPoint 16 = .ok (.goto 4, 3) := by decide +kernel
theorem dX0_isPoint_19 : decode cX0_isPoint 19 = .ok (.iconst 0, 1) := by decide +kernel
theorem dX0_isPoint_20 : decode cX0_isPoint 20 = .ok (.ireturn, 1) := by decide +kernel
theorem dX0_part_0 : decode cX0_part 0 = .ok (.aload_n 0, 1) := by decide +kernel
theorem dX0_part_1 : decode cX0_part 1 = .ok (.getfield 12, 3) := by decide +kernel
theorem dX0_part_4 : decode cX0_part 4 = .ok (.getfield 36, 3) := by decide +kernel
theorem dX0_part_7 : decode cX0_part 7 = .ok (.iload_n 1, 1) := by decide +kernel
theorem dX0_part_8 : decode cX0_part 8 = .ok (.aaload, 1) := by decide +kernel
theorem dX0_part_9 : decode cX0_part 9 = .ok (.areturn, 1) := by decide +kernel
theorem dX0_changePoints_0 : decode cX0_changePoints 0 = .ok (.iload_n 1, 1) := by decide +kernel
theorem dX0_changePoints_1 : decode cX0_changePoints 1 = .ok (.iconst 1, 1) := by decide +kernel
theorem dX0_changePoints_2 : decode cX0_changePoints 2 = .ok (.if_icmp .lt 9, 3) := by decide +kernel
theorem dX0_changePoints_5 : decode cX0_changePoints 5 = .ok (.iload_n 1, 1) := by decide +kernel
theorem dX0_changePoints_6 : decode cX0_changePoints 6 = .ok (.bipush 8, 2) := by decide +kernel
theorem dX0_changePoints_8 : decode cX0_changePoints 8 = .ok (.if_icmp .le 6, 3) := by decide +kernel
theorem dX0_changePoints_11 : decode cX0_changePoints 11 = .ok (.bipush (-2), 2) := by decide +kernel
theorem dX0_changePoints_13 : decode cX0_changePoints 13 = .ok (.ireturn, 1) := by decide +kernel
theorem dX0_changePoints_14 : decode cX0_changePoints 14 = .ok (.aload_n 0, 1) := by decide +kernel
theorem dX0_changePoints_15 : decode cX0_changePoints 15 = .ok (.getfield 12, 3) := by decide +kernel
theorem dX0_changePoints_18 : decode cX0_changePoints 18 = .ok (.getfield 32, 3) := by decide +kernel
theorem dX0_changePoints_21 : decode cX0_changePoints 21 = .ok (.istore_n 2, 1) := by decide +kernel
theorem dX0_changePoints_22 : decode cX0_changePoints 22 = .ok (.aload_n 0, 1) := by decide +kernel
theorem dX0_changePoints_23 : decode cX0_changePoints 23 = .ok (.getfield 12, 3) := by decide +kernel
theorem dX0_changePoints_26 : decode cX0_changePoints 26 = .ok (.iload_n 1, 1) := by decide +kernel
theorem dX0_changePoints_27 : decode cX0_changePoints 27 = .ok (.putfield 32, 3) := by decide +kernel
theorem dX0_changePoints_30 : decode cX0_changePoints 30 = .ok (.iconst 0, 1) := by decide +kernel
theorem dX0_changePoints_31 : decode cX0_changePoints 31 = .ok (.istore_n 3, 1) := by decide +kernel
theorem dX0_changePoints_32 : decode cX0_changePoints 32 = .ok (.iload_n 3, 1) := by decide +kernel
theorem dX0_changePoints_33 : decode cX0_changePoints 33 = .ok (.bipush 6, 2) := by decide +kernel
theorem dX0_changePoints_35 : decode cX0_changePoints 35 = .ok (.if_icmp .ge 22, 3) := by decide +kernel
theorem dX0_changePoints_38 : decode cX0_changePoints 38 = .ok (.aload_n 0, 1) := by decide +kernel
theorem dX0_changePoints_39 : decode cX0_changePoints 39 = .ok (.getfield 12, 3) := by decide +kernel
theorem dX0_changePoints_42 : decode cX0_changePoints 42 = .ok (.getfield 36, 3) := by decide +kernel
theorem dX0_changePoints_45 : decode cX0_changePoints 45 = .ok (.iload_n 3, 1) := by decide +kernel
theorem dX0_changePoints_46 : decode cX0_changePoints 46 = .ok (.aaload, 1) := by decide +kernel
theorem dX0_changePoints_47 : decode cX0_changePoints 47 = .ok (.iload_n 1, 1) := by decide +kernel
theorem dX0_changePoints_48 : decode cX0_changePoints 48 = .ok (.invokevirtual 40, 3) := by decide +kernel
theorem dX0_changePoints_51 : decode cX0_changePoints 51 = .ok (.iinc 3 1, 3) := by decide +kernel
theorem dX0_changePoints_54 : decode cX0_changePoints 54 = .ok (.goto (-22), 3) := by decide +kernel
theorem dX0_changePoints_57 : decode cX0_changePoints 57 = .ok (.iload_n 2, 1) := by decide +kernel
theorem dX0_changePoints_58 : decode cX0_changePoints 58 = .ok (.ireturn, 1) := by decide +kernel
theorem dX0_unite_0 : decode cX0_unite 0 = .ok (.iload_n 1, 1) := by decide +kernel
theorem dX0_unite_1 : decode cX0_unite 1 = .ok (.invokestatic 44, 3) := by decide +kernel
theorem dX0_unite_4 : decode cX0_unite 4 = .ok (.ifCond .eq 19, 3) := by decide +kernel
theorem dX0_unite_7 : decode cX0_unite 7 = .ok (.aload_n 0, 1) := by decide +kernel
theorem dX0_unite_8 : decode cX0_unite 8 = .ok (.iload_n 2, 1) := by decide +kernel
theorem dX0_unite_9 : decode cX0_unite 9 = .ok (.invokevirtual 48, 3) := by decide +kernel
theorem dX0_unite_12 : decode cX0_unite 12 = .ok (.ifCond .eq 11, 3) := by decide +kernel
theorem dX0_unite_15 : decode cX0_unite 15 = .ok (.aload_n 0, 1) := by decide +kernel
theorem dX0_unite_16 : decode cX0_unite 16 = .ok (.iload_n 3, 1) := by decide +kernel
theorem dX0_unite_17 : decode cX0_unite 17 = .ok (.invokevirtual 48, 3) := by decide +kernel
theorem dX0_unite_20 : decode cX0_unite 20 = .ok (.ifCond .ne 6, 3) := by decide +kernel
theorem dX0_unite_23 : decode cX0_unite 23 = .ok (.bipush (-2), 2) := by decide +kernel
theorem dX0_unite_25 : decode cX0_unite 25 = .ok (.ireturn, 1) := by decide +kernel
theorem dX0_unite_26 : decode cX0_unite 26 = .ok (.aload_n 0, 1) := by decide +kernel
theorem dX0_unite_27 : decode cX0_unite 27 = .ok (.getfield 21, 3) := by decide +kernel
theorem dX0_unite_30 : decode cX0_unite 30 = .ok (.aload_n 0, 1) := by decide +kernel
theorem dX0_unite_31 : decode cX0_unite 31 = .ok (.getfield 28, 3) := by decide +kernel
theorem dX0_unite_34 : decode cX0_unite 34 = .ok (.aload_n 0, 1) := by decide +kernel
theorem dX0_unite_35 : decode cX0_unite 35 = .ok (.getfield 12, 3) := by decide +kernel
theorem dX0_unite_38 : decode cX0_unite 38 = .ok (.getfield 36, 3) := by decide +kernel
theorem dX0_unite_41 : decode cX0_unite 41 = .ok (.iload_n 1, 1) := by decide +kernel
theorem dX0_unite_42 : decode cX0_unite 42 = .ok (.aaload, 1) := by decide +kernel
theorem dX0_unite_43 : decode cX0_unite 43 = .ok (.aload_n 0, 1) := by decide +kernel
theorem dX0_unite_44 : decode cX0_unite 44 = .ok (.getfield 21, 3) := by decide +kernel
theorem dX0_unite_47 : decode cX0_unite 47 = .ok (.aload_n 0, 1) := by decide +kernel
theorem dX0_unite_48 : decode cX0_unite 48 = .ok (.getfield 12, 3) := by decide +kernel
theorem dX0_unite_51 : decode cX0_unite 51 = .ok (.getfield 32, 3) := by decide +kernel
theorem dX0_unite_54 : decode cX0_unite 54 = .ok (.iload_n 2, 1) := by decide +kernel
theorem dX0_unite_55 : decode cX0_unite 55 = .ok (.iload_n 3, 1) := by decide +kernel
theorem dX0_unite_56 : decode cX0_unite 56 = .ok (.invokevirtual 51, 3) := by decide +kernel
theorem dX0_unite_59 : decode cX0_unite 59 = .ok (.invokevirtual 55, 3) := by decide +kernel
theorem dX0_unite_62 : decode cX0_unite 62 = .ok (.aload_n 0, 1) := by decide +kernel
theorem dX0_unite_63 : decode cX0_unite 63 = .ok (.iload_n 1, 1) := by decide +kernel
theorem dX0_unite_64 : decode cX0_unite 64 = .ok (.invokevirtual 59, 3) := by decide +kernel
theorem dX0_unite_67 : decode cX0_unite 67 = .ok (.ireturn, 1) := by decide +kernel
theorem dX0_putMeet_0 : decode cX0_putMeet 0 = .ok (.iload_n 1, 1) := by decide +kernel
theorem dX0_putMeet_1 : decode cX0_putMeet 1 = .ok (.invokestatic 44, 3) := by decide +kernel
theorem dX0_putMeet_4 : decode cX0_putMeet 4 = .ok (.ifCond .eq 17, 3) := by decide +kernel
theorem dX0_putMeet_7 : decode cX0_putMeet 7 = .ok (.iload_n 2, 1) := by decide +kernel
theorem dX0_putMeet_8 : decode cX0_putMeet 8 = .ok (.invokestatic 44, 3) := by decide +kernel
theorem dX0_putMeet_11 : decode cX0_putMeet 11 = .ok (.ifCond .eq 10, 3) := by decide +kernel
theorem dX0_putMeet_14 : decode cX0_putMeet 14 = .ok (.iload_n 3, 1) := by decide +kernel
theorem dX0_putMeet_15 : decode cX0_putMeet 15 = .ok (.invokestatic 44, 3) := by decide +kernel
theorem dX0_putMeet_18 : decode cX0_putMeet 18 = .ok (.ifCond .ne 6, 3) := by decide +kernel
theorem dX0_putMeet_21 : decode cX0_putMeet 21 = .ok (.bipush (-2), 2) := by decide +kernel
theorem dX0_putMeet_23 : decode cX0_putMeet 23 = .ok (.ireturn, 1) := by decide +kernel
theorem dX0_putMeet_24 : decode cX0_putMeet 24 = .ok (.aload_n 0, 1) := by decide +kernel
theorem dX0_putMeet_25 : decode cX0_putMeet 25 = .ok (.getfield 21, 3) := by decide +kernel
theorem dX0_putMeet_28 : decode cX0_putMeet 28 = .ok (.aload_n 0, 1) := by decide +kernel
theorem dX0_putMeet_29 : decode cX0_putMeet 29 = .ok (.getfield 28, 3) := by decide +kernel
theorem dX0_putMeet_32 : decode cX0_putMeet 32 = .ok (.aload_n 0, 1) := by decide +kernel
theorem dX0_putMeet_33 : decode cX0_putMeet 33 = .ok (.getfield 12, 3) := by decide +kernel
theorem dX0_putMeet_36 : decode cX0_putMeet 36 = .ok (.getfield 36, 3) := by decide +kernel
theorem dX0_putMeet_39 : decode cX0_putMeet 39 = .ok (.iload_n 2, 1) := by decide +kernel
theorem dX0_putMeet_40 : decode cX0_putMeet 40 = .ok (.aaload, 1) := by decide +kernel
theorem dX0_putMeet_41 : decode cX0_putMeet 41 = .ok (.aload_n 0, 1) := by decide +kernel
theorem dX0_putMeet_42 : decode cX0_putMeet 42 = .ok (.getfield 12, 3) := by decide +kernel
theorem dX0_putMeet_45 : decode cX0_putMeet 45 = .ok (.getfield 36, 3) := by decide +kernel
theorem dX0_putMeet_48 : decode cX0_putMeet 48 = .ok (.iload_n 3, 1) := by decide +kernel
theorem dX0_putMeet_49 : decode cX0_putMeet 49 = .ok (.aaload, 1) := by decide +kernel
theorem dX0_putMeet_50 : decode cX0_putMeet 50 = .ok (.invokevirtual 63, 3) := by decide +kernel
theorem dX0_putMeet_53 : decode cX0_putMeet 53 = .ok (.aload_n 0, 1) := by decide +kernel
theorem dX0_putMeet_54 : decode cX0_putMeet 54 = .ok (.iload_n 1, 1) := by decide +kernel
theorem dX0_putMeet_55 : decode cX0_putMeet 55 = .ok (.invokevirtual 59, 3) := by decide +kernel
theorem dX0_putMeet_58 : decode cX0_putMeet 58 = .ok (.ireturn, 1) := by decide +kernel
theorem dX0_putJoin_0 : decode cX0_putJoin 0 = .ok (.iload_n 1, 1) := by decide +kernel
theorem dX0_putJoin_1 : decode cX0_putJoin 1 = .ok (.invokestatic 44, 3) := by decide +kernel
theorem dX0_putJoin_4 : decode cX0_putJoin 4 = .ok (.ifCond .eq 17, 3) := by decide +kernel
theorem dX0_putJoin_7 : decode cX0_putJoin 7 = .ok (.iload_n 2, 1) := by decide +kernel
theorem dX0_putJoin_8 : decode cX0_putJoin 8 = .ok (.invokestatic 44, 3) := by decide +kernel
theorem dX0_putJoin_11 : decode cX0_putJoin 11 = .ok (.ifCond .eq 10, 3) := by decide +kernel
theorem dX0_putJoin_14 : decode cX0_putJoin 14 = .ok (.iload_n 3, 1) := by decide +kernel
theorem dX0_putJoin_15 : decode cX0_putJoin 15 = .ok (.invokestatic 44, 3) := by decide +kernel
theorem dX0_putJoin_18 : decode cX0_putJoin 18 = .ok (.ifCond .ne 6, 3) := by decide +kernel
theorem dX0_putJoin_21 : decode cX0_putJoin 21 = .ok (.bipush (-2), 2) := by decide +kernel
theorem dX0_putJoin_23 : decode cX0_putJoin 23 = .ok (.ireturn, 1) := by decide +kernel
theorem dX0_putJoin_24 : decode cX0_putJoin 24 = .ok (.aload_n 0, 1) := by decide +kernel
theorem dX0_putJoin_25 : decode cX0_putJoin 25 = .ok (.getfield 21, 3) := by decide +kernel
theorem dX0_putJoin_28 : decode cX0_putJoin 28 = .ok (.aload_n 0, 1) := by decide +kernel
theorem dX0_putJoin_29 : decode cX0_putJoin 29 = .ok (.getfield 28, 3) := by decide +kernel
theorem dX0_putJoin_32 : decode cX0_putJoin 32 = .ok (.aload_n 0, 1) := by decide +kernel
theorem dX0_putJoin_33 : decode cX0_putJoin 33 = .ok (.getfield 12, 3) := by decide +kernel
theorem dX0_putJoin_36 : decode cX0_putJoin 36 = .ok (.getfield 36, 3) := by decide +kernel
theorem dX0_putJoin_39 : decode cX0_putJoin 39 = .ok (.iload_n 2, 1) := by decide +kernel
theorem dX0_putJoin_40 : decode cX0_putJoin 40 = .ok (.aaload, 1) := by decide +kernel
theorem dX0_putJoin_41 : decode cX0_putJoin 41 = .ok (.aload_n 0, 1) := by decide +kernel
theorem dX0_putJoin_42 : decode cX0_putJoin 42 = .ok (.getfield 12, 3) := by decide +kernel
theorem dX0_putJoin_45 : decode cX0_putJoin 45 = .ok (.getfield 36, 3) := by decide +kernel
theorem dX0_putJoin_48 : decode cX0_putJoin 48 = .ok (.iload_n 3, 1) := by decide +kernel
theorem dX0_putJoin_49 : decode cX0_putJoin 49 = .ok (.aaload, 1) := by decide +kernel
theorem dX0_putJoin_50 : decode cX0_putJoin 50 = .ok (.invokevirtual 55, 3) := by decide +kernel
theorem dX0_putJoin_53 : decode cX0_putJoin 53 = .ok (.aload_n 0, 1) := by decide +kernel
theorem dX0_putJoin_54 : decode cX0_putJoin 54 = .ok (.iload_n 1, 1) := by decide +kernel
theorem dX0_putJoin_55 : decode cX0_putJoin 55 = .ok (.invokevirtual 59, 3) := by decide +kernel
theorem dX0_putJoin_58 : decode cX0_putJoin 58 = .ok (.ireturn, 1) := by decide +kernel
theorem dX0_putComplement_0 : decode cX0_putComplement 0 = .ok (.iload_n 1, 1) := by decide +kernel
theorem dX0_putComplement_1 : decode cX0_putComplement 1 = .ok (.invokestatic 44, 3) := by decide +kernel
theorem dX0_putComplement_4 : decode cX0_putComplement 4 = .ok (.ifCond .eq 10, 3) := by decide +kernel
theorem dX0_putComplement_7 : decode cX0_putComplement 7 = .ok (.iload_n 2, 1) := by decide +kernel
theorem dX0_putComplement_8 : decode cX0_putComplement 8 = .ok (.invokestatic 44, 3) := by decide +kernel
theorem dX0_putComplement_11 : decode cX0_putComplement 11 = .ok (.ifCond .ne 6, 3) := by decide +kernel
theorem dX0_putComplement_14 : decode cX0_putComplement 14 = .ok (.bipush (-2), 2) := by decide +kernel
theorem dX0_putComplement_16 : decode cX0_putComplement 16 = .ok (.ireturn, 1) := by decide +kernel
theorem dX0_putComplement_17 : decode cX0_putComplement 17 = .ok (.aload_n 0, 1) := by decide +kernel
theorem dX0_putComplement_18 : decode cX0_putComplement 18 = .ok (.getfield 21, 3) := by decide +kernel
theorem dX0_putComplement_21 : decode cX0_putComplement 21 = .ok (.aload_n 0, 1) := by decide +kernel
theorem dX0_putComplement_22 : decode cX0_putComplement 22 = .ok (.getfield 28, 3) := by decide +kernel
theorem dX0_putComplement_25 : decode cX0_putComplement 25 = .ok (.aload_n 0, 1) := by decide +kernel
theorem dX0_putComplement_26 : decode cX0_putComplement 26 = .ok (.getfield 12, 3) := by decide +kernel
theorem dX0_putComplement_29 : decode cX0_putComplement 29 = .ok (.getfield 36, 3) := by decide +kernel
theorem dX0_putComplement_32 : decode cX0_putComplement 32 = .ok (.iload_n 2, 1) := by decide +kernel
theorem dX0_putComplement_33 : decode cX0_putComplement 33 = .ok (.aaload, 1) := by decide +kernel
theorem dX0_putComplement_34 : decode cX0_putComplement 34 = .ok (.invokevirtual 66, 3) := by decide +kernel
theorem dX0_putComplement_37 : decode cX0_putComplement 37 = .ok (.aload_n 0, 1) := by decide +kernel
theorem dX0_putComplement_38 : decode cX0_putComplement 38 = .ok (.iload_n 1, 1) := by decide +kernel
theorem dX0_putComplement_39 : decode cX0_putComplement 39 = .ok (.invokevirtual 59, 3) := by decide +kernel
theorem dX0_putComplement_42 : decode cX0_putComplement 42 = .ok (.ireturn, 1) := by decide +kernel
theorem dX0_putTurned_0 : decode cX0_putTurned 0 = .ok (.iload_n 1, 1) := by decide +kernel
theorem dX0_putTurned_1 : decode cX0_putTurned 1 = .ok (.invokestatic 44, 3) := by decide +kernel
theorem dX0_putTurned_4 : decode cX0_putTurned 4 = .ok (.ifCond .eq 10, 3) := by decide +kernel
theorem dX0_putTurned_7 : decode cX0_putTurned 7 = .ok (.iload_n 2, 1) := by decide +kernel
theorem dX0_putTurned_8 : decode cX0_putTurned 8 = .ok (.invokestatic 44, 3) := by decide +kernel
theorem dX0_putTurned_11 : decode cX0_putTurned 11 = .ok (.ifCond .ne 6, 3) := by decide +kernel
theorem dX0_putTurned_14 : decode cX0_putTurned 14 = .ok (.bipush (-2), 2) := by decide +kernel
theorem dX0_putTurned_16 : decode cX0_putTurned 16 = .ok (.ireturn, 1) := by decide +kernel
theorem dX0_putTurned_17 : decode cX0_putTurned 17 = .ok (.aload_n 0, 1) := by decide +kernel
theorem dX0_putTurned_18 : decode cX0_putTurned 18 = .ok (.getfield 21, 3) := by decide +kernel
theorem dX0_putTurned_21 : decode cX0_putTurned 21 = .ok (.aload_n 0, 1) := by decide +kernel
theorem dX0_putTurned_22 : decode cX0_putTurned 22 = .ok (.getfield 28, 3) := by decide +kernel
theorem dX0_putTurned_25 : decode cX0_putTurned 25 = .ok (.aload_n 0, 1) := by decide +kernel
theorem dX0_putTurned_26 : decode cX0_putTurned 26 = .ok (.getfield 12, 3) := by decide +kernel
theorem dX0_putTurned_29 : decode cX0_putTurned 29 = .ok (.getfield 36, 3) := by decide +kernel
theorem dX0_putTurned_32 : decode cX0_putTurned 32 = .ok (.iload_n 2, 1) := by decide +kernel
theorem dX0_putTurned_33 : decode cX0_putTurned 33 = .ok (.aaload, 1) := by decide +kernel
theorem dX0_putTurned_34 : decode cX0_putTurned 34 = .ok (.invokevirtual 70, 3) := by decide +kernel
theorem dX0_putTurned_37 : decode cX0_putTurned 37 = .ok (.aload_n 0, 1) := by decide +kernel
theorem dX0_putTurned_38 : decode cX0_putTurned 38 = .ok (.iload_n 1, 1) := by decide +kernel
theorem dX0_putTurned_39 : decode cX0_putTurned 39 = .ok (.invokevirtual 59, 3) := by decide +kernel
theorem dX0_putTurned_42 : decode cX0_putTurned 42 = .ok (.pop, 1) := by decide +kernel
theorem dX0_putTurned_43 : decode cX0_putTurned 43 = .ok (.aload_n 0, 1) := by decide +kernel
theorem dX0_putTurned_44 : decode cX0_putTurned 44 = .ok (.getfield 21, 3) := by decide +kernel
theorem dX0_putTurned_47 : decode cX0_putTurned 47 = .ok (.aload_n 0, 1) := by decide +kernel
theorem dX0_putTurned_48 : decode cX0_putTurned 48 = .ok (.getfield 28, 3) := by decide +kernel
theorem dX0_putTurned_51 : decode cX0_putTurned 51 = .ok (.invokevirtual 73, 3) := by decide +kernel
theorem dX0_putTurned_54 : decode cX0_putTurned 54 = .ok (.ireturn, 1) := by decide +kernel
theorem dX0_putPlace_0 : decode cX0_putPlace 0 = .ok (.iload_n 1, 1) := by decide +kernel
theorem dX0_putPlace_1 : decode cX0_putPlace 1 = .ok (.invokestatic 44, 3) := by decide +kernel
theorem dX0_putPlace_4 : decode cX0_putPlace 4 = .ok (.ifCond .eq 22, 3) := by decide +kernel
theorem dX0_putPlace_7 : decode cX0_putPlace 7 = .ok (.iload_n 2, 1) := by decide +kernel
theorem dX0_putPlace_8 : decode cX0_putPlace 8 = .ok (.ifCond .lt 18, 3) := by decide +kernel
theorem dX0_putPlace_11 : decode cX0_putPlace 11 = .ok (.iload_n 2, 1) := by decide +kernel
theorem dX0_putPlace_12 : decode cX0_putPlace 12 = .ok (.getstatic 77, 3) := by decide +kernel
theorem dX0_putPlace_15 : decode cX0_putPlace 15 = .ok (.aload_n 0, 1) := by decide +kernel
theorem dX0_putPlace_16 : decode cX0_putPlace 16 = .ok (.getfield 12, 3) := by decide +kernel
theorem dX0_putPlace_19 : decode cX0_putPlace 19 = .ok (.getfield 32, 3) := by decide +kernel
theorem dX0_putPlace_22 : decode cX0_putPlace 22 = .ok (.iaload, 1) := by decide +kernel
theorem dX0_putPlace_23 : decode cX0_putPlace 23 = .ok (.if_icmp .lt 6, 3) := by decide +kernel
theorem dX0_putPlace_26 : decode cX0_putPlace 26 = .ok (.bipush (-2), 2) := by decide +kernel
theorem dX0_putPlace_28 : decode cX0_putPlace 28 = .ok (.ireturn, 1) := by decide +kernel
theorem dX0_putPlace_29 : decode cX0_putPlace 29 = .ok (.aload_n 0, 1) := by decide +kernel
theorem dX0_putPlace_30 : decode cX0_putPlace 30 = .ok (.getfield 21, 3) := by decide +kernel
theorem dX0_putPlace_33 : decode cX0_putPlace 33 = .ok (.aload_n 0, 1) := by decide +kernel
theorem dX0_putPlace_34 : decode cX0_putPlace 34 = .ok (.getfield 28, 3) := by decide +kernel
theorem dX0_putPlace_37 : decode cX0_putPlace 37 = .ok (.aload_n 0, 1) := by decide +kernel
theorem dX0_putPlace_38 : decode cX0_putPlace 38 = .ok (.getfield 12, 3) := by decide +kernel
theorem dX0_putPlace_41 : decode cX0_putPlace 41 = .ok (.getfield 32, 3) := by decide +kernel
theorem dX0_putPlace_44 : decode cX0_putPlace 44 = .ok (.iload_n 2, 1) := by decide +kernel
theorem dX0_putPlace_45 : decode cX0_putPlace 45 = .ok (.invokevirtual 81, 3) := by decide +kernel
theorem dX0_putPlace_48 : decode cX0_putPlace 48 = .ok (.aload_n 0, 1) := by decide +kernel
theorem dX0_putPlace_49 : decode cX0_putPlace 49 = .ok (.iload_n 1, 1) := by decide +kernel
theorem dX0_putPlace_50 : decode cX0_putPlace 50 = .ok (.invokevirtual 59, 3) := by decide +kernel
theorem dX0_putPlace_53 : decode cX0_putPlace 53 = .ok (.ireturn, 1) := by decide +kernel
theorem dX0_putMade_0 : decode cX0_putMade 0 = .ok (.aload_n 0, 1) := by decide +kernel
theorem dX0_putMade_1 : decode cX0_putMade 1 = .ok (.getfield 12, 3) := by decide +kernel
theorem dX0_putMade_4 : decode cX0_putMade 4 = .ok (.getfield 36, 3) := by decide +kernel
theorem dX0_putMade_7 : decode cX0_putMade 7 = .ok (.iload_n 1, 1) := by decide +kernel
theorem dX0_putMade_8 : decode cX0_putMade 8 = .ok (.aaload, 1) := by decide +kernel
theorem dX0_putMade_9 : decode cX0_putMade 9 = .ok (.aload_n 0, 1) := by decide +kernel
theorem dX0_putMade_10 : decode cX0_putMade 10 = .ok (.getfield 28, 3) := by decide +kernel
theorem dX0_putMade_13 : decode cX0_putMade 13 = .ok (.invokevirtual 85, 3) := by decide +kernel
theorem dX0_putMade_16 : decode cX0_putMade 16 = .ok (.aload_n 0, 1) := by decide +kernel
theorem dX0_putMade_17 : decode cX0_putMade 17 = .ok (.getfield 28, 3) := by decide +kernel
theorem dX0_putMade_20 : decode cX0_putMade 20 = .ok (.invokevirtual 89, 3) := by decide +kernel
theorem dX0_putMade_23 : decode cX0_putMade 23 = .ok (.ireturn, 1) := by decide +kernel
theorem dX0_changeNumber_0 : decode cX0_changeNumber 0 = .ok (.iload_n 1, 1) := by decide +kernel
theorem dX0_changeNumber_1 : decode cX0_changeNumber 1 = .ok (.iconst 1, 1) := by decide +kernel
theorem dX0_changeNumber_2 : decode cX0_changeNumber 2 = .ok (.if_icmp .lt 21, 3) := by decide +kernel
theorem dX0_changeNumber_5 : decode cX0_changeNumber 5 = .ok (.iload_n 1, 1) := by decide +kernel
theorem dX0_changeNumber_6 : decode cX0_changeNumber 6 = .ok (.bipush 8, 2) := by decide +kernel
theorem dX0_changeNumber_8 : decode cX0_changeNumber 8 = .ok (.if_icmp .gt 15, 3) := by decide +kernel
theorem dX0_changeNumber_11 : decode cX0_changeNumber 11 = .ok (.iload_n 2, 1) := by decide +kernel
theorem dX0_changeNumber_12 : decode cX0_changeNumber 12 = .ok (.bipush (-9), 2) := by decide +kernel
theorem dX0_changeNumber_14 : decode cX0_changeNumber 14 = .ok (.if_icmp .lt 9, 3) := by decide +kernel
theorem dX0_changeNumber_17 : decode cX0_changeNumber 17 = .ok (.iload_n 2, 1) := by decide +kernel
theorem dX0_changeNumber_18 : decode cX0_changeNumber 18 = .ok (.bipush 9, 2) := by decide +kernel
theorem dX0_changeNumber_20 : decode cX0_changeNumber 20 = .ok (.if_icmp .le 6, 3) := by decide +kernel
theorem dX0_changeNumber_23 : decode cX0_changeNumber 23 = .ok (.bipush (-2), 2) := by decide +kernel
theorem dX0_changeNumber_25 : decode cX0_changeNumber 25 = .ok (.ireturn, 1) := by decide +kernel
theorem dX0_changeNumber_26 : decode cX0_changeNumber 26 = .ok (.aload_n 0, 1) := by decide +kernel
theorem dX0_changeNumber_27 : decode cX0_changeNumber 27 = .ok (.getfield 12, 3) := by decide +kernel
theorem dX0_changeNumber_30 : decode cX0_changeNumber 30 = .ok (.getfield 93, 3) := by decide +kernel
theorem dX0_changeNumber_33 : decode cX0_changeNumber 33 = .ok (.iload_n 1, 1) := by decide +kernel
theorem dX0_changeNumber_34 : decode cX0_changeNumber 34 = .ok (.iconst 1, 1) := by decide +kernel
theorem dX0_changeNumber_35 : decode cX0_changeNumber 35 = .ok (.isub, 1) := by decide +kernel
theorem dX0_changeNumber_36 : decode cX0_changeNumber 36 = .ok (.iaload, 1) := by decide +kernel
theorem dX0_changeNumber_37 : decode cX0_changeNumber 37 = .ok (.istore_n 3, 1) := by decide +kernel
theorem dX0_changeNumber_38 : decode cX0_changeNumber 38 = .ok (.aload_n 0, 1) := by decide +kernel
theorem dX0_changeNumber_39 : decode cX0_changeNumber 39 = .ok (.getfield 12, 3) := by decide +kernel
theorem dX0_changeNumber_42 : decode cX0_changeNumber 42 = .ok (.getfield 93, 3) := by decide +kernel
theorem dX0_changeNumber_45 : decode cX0_changeNumber 45 = .ok (.iload_n 1, 1) := by decide +kernel
theorem dX0_changeNumber_46 : decode cX0_changeNumber 46 = .ok (.iconst 1, 1) := by decide +kernel
theorem dX0_changeNumber_47 : decode cX0_changeNumber 47 = .ok (.isub, 1) := by decide +kernel
theorem dX0_changeNumber_48 : decode cX0_changeNumber 48 = .ok (.iload_n 2, 1) := by decide +kernel
theorem dX0_changeNumber_49 : decode cX0_changeNumber 49 = .ok (.iastore, 1) := by decide +kernel
theorem dX0_changeNumber_50 : decode cX0_changeNumber 50 = .ok (.iload_n 3, 1) := by decide +kernel
theorem dX0_changeNumber_51 : decode cX0_changeNumber 51 = .ok (.bipush 100, 2) := by decide +kernel
theorem dX0_changeNumber_53 : decode cX0_changeNumber 53 = .ok (.iadd, 1) := by decide +kernel
theorem dX0_changeNumber_54 : decode cX0_changeNumber 54 = .ok (.ireturn, 1) := by decide +kernel
theorem dX0_carryOut_0 : decode cX0_carryOut 0 = .ok (.iload_n 1, 1) := by decide +kernel
theorem dX0_carryOut_1 : decode cX0_carryOut 1 = .ok (.tableswitch 146 106 117 #[99, 113, 146, 85, 63, 146, 71, 146, 146, 146, 124, 135], 63) := by decide +kernel
theorem dX0_carryOut_64 : decode cX0_carryOut 64 = .ok (.aload_n 0, 1) := by decide +kernel
theorem dX0_carryOut_65 : decode cX0_carryOut 65 = .ok (.aload_n 2, 1) := by decide +kernel
theorem dX0_carryOut_66 : decode cX0_carryOut 66 = .ok (.iconst 0, 1) := by decide +kernel
theorem dX0_carryOut_67 : decode cX0_carryOut 67 = .ok (.iaload, 1) := by decide +kernel
theorem dX0_carryOut_68 : decode cX0_carryOut 68 = .ok (.invokevirtual 96, 3) := by decide +kernel
theorem dX0_carryOut_71 : decode cX0_carryOut 71 = .ok (.ireturn, 1) := by decide +kernel
theorem dX0_carryOut_72 : decode cX0_carryOut 72 = .ok (.aload_n 0, 1) := by decide +kernel
theorem dX0_carryOut_73 : decode cX0_carryOut 73 = .ok (.aload_n 2, 1) := by decide +kernel
theorem dX0_carryOut_74 : decode cX0_carryOut 74 = .ok (.iconst 0, 1) := by decide +kernel
theorem dX0_carryOut_75 : decode cX0_carryOut 75 = .ok (.iaload, 1) := by decide +kernel
theorem dX0_carryOut_76 : decode cX0_carryOut 76 = .ok (.aload_n 2, 1) := by decide +kernel
theorem dX0_carryOut_77 : decode cX0_carryOut 77 = .ok (.iconst 1, 1) := by decide +kernel
theorem dX0_carryOut_78 : decode cX0_carryOut 78 = .ok (.iaload, 1) := by decide +kernel
theorem dX0_carryOut_79 : decode cX0_carryOut 79 = .ok (.aload_n 2, 1) := by decide +kernel
theorem dX0_carryOut_80 : decode cX0_carryOut 80 = .ok (.iconst 2, 1) := by decide +kernel
theorem dX0_carryOut_81 : decode cX0_carryOut 81 = .ok (.iaload, 1) := by decide +kernel
theorem dX0_carryOut_82 : decode cX0_carryOut 82 = .ok (.invokevirtual 99, 3) := by decide +kernel
theorem dX0_carryOut_85 : decode cX0_carryOut 85 = .ok (.ireturn, 1) := by decide +kernel
theorem dX0_carryOut_86 : decode cX0_carryOut 86 = .ok (.aload_n 0, 1) := by decide +kernel
theorem dX0_carryOut_87 : decode cX0_carryOut 87 = .ok (.aload_n 2, 1) := by decide +kernel
theorem dX0_carryOut_88 : decode cX0_carryOut 88 = .ok (.iconst 0, 1) := by decide +kernel
theorem dX0_carryOut_89 : decode cX0_carryOut 89 = .ok (.iaload, 1) := by decide +kernel
theorem dX0_carryOut_90 : decode cX0_carryOut 90 = .ok (.aload_n 2, 1) := by decide +kernel
theorem dX0_carryOut_91 : decode cX0_carryOut 91 = .ok (.iconst 1, 1) := by decide +kernel
theorem dX0_carryOut_92 : decode cX0_carryOut 92 = .ok (.iaload, 1) := by decide +kernel
theorem dX0_carryOut_93 : decode cX0_carryOut 93 = .ok (.aload_n 2, 1) := by decide +kernel
theorem dX0_carryOut_94 : decode cX0_carryOut 94 = .ok (.iconst 2, 1) := by decide +kernel
theorem dX0_carryOut_95 : decode cX0_carryOut 95 = .ok (.iaload, 1) := by decide +kernel
theorem dX0_carryOut_96 : decode cX0_carryOut 96 = .ok (.invokevirtual 103, 3) := by decide +kernel
theorem dX0_carryOut_99 : decode cX0_carryOut 99 = .ok (.ireturn, 1) := by decide +kernel
theorem dX0_carryOut_100 : decode cX0_carryOut 100 = .ok (.aload_n 0, 1) := by decide +kernel
theorem dX0_carryOut_101 : decode cX0_carryOut 101 = .ok (.aload_n 2, 1) := by decide +kernel
theorem dX0_carryOut_102 : decode cX0_carryOut 102 = .ok (.iconst 0, 1) := by decide +kernel
theorem dX0_carryOut_103 : decode cX0_carryOut 103 = .ok (.iaload, 1) := by decide +kernel
theorem dX0_carryOut_104 : decode cX0_carryOut 104 = .ok (.aload_n 2, 1) := by decide +kernel
theorem dX0_carryOut_105 : decode cX0_carryOut 105 = .ok (.iconst 1, 1) := by decide +kernel
theorem dX0_carryOut_106 : decode cX0_carryOut 106 = .ok (.iaload, 1) := by decide +kernel
theorem dX0_carryOut_107 : decode cX0_carryOut 107 = .ok (.aload_n 2, 1) := by decide +kernel
theorem dX0_carryOut_108 : decode cX0_carryOut 108 = .ok (.iconst 2, 1) := by decide +kernel
theorem dX0_carryOut_109 : decode cX0_carryOut 109 = .ok (.iaload, 1) := by decide +kernel
theorem dX0_carryOut_110 : decode cX0_carryOut 110 = .ok (.invokevirtual 106, 3) := by decide +kernel
theorem dX0_carryOut_113 : decode cX0_carryOut 113 = .ok (.ireturn, 1) := by decide +kernel
theorem dX0_carryOut_114 : decode cX0_carryOut 114 = .ok (.aload_n 0, 1) := by decide +kernel
theorem dX0_carryOut_115 : decode cX0_carryOut 115 = .ok (.aload_n 2, 1) := by decide +kernel
theorem dX0_carryOut_116 : decode cX0_carryOut 116 = .ok (.iconst 0, 1) := by decide +kernel
theorem dX0_carryOut_117 : decode cX0_carryOut 117 = .ok (.iaload, 1) := by decide +kernel
theorem dX0_carryOut_118 : decode cX0_carryOut 118 = .ok (.aload_n 2, 1) := by decide +kernel
theorem dX0_carryOut_119 : decode cX0_carryOut 119 = .ok (.iconst 1, 1) := by decide +kernel
theorem dX0_carryOut_120 : decode cX0_carryOut 120 = .ok (.iaload, 1) := by decide +kernel
theorem dX0_carryOut_121 : decode cX0_carryOut 121 = .ok (.invokevirtual 109, 3) := by decide +kernel
theorem dX0_carryOut_124 : decode cX0_carryOut 124 = .ok (.ireturn, 1) := by decide +kernel
theorem dX0_carryOut_125 : decode cX0_carryOut 125 = .ok (.aload_n 0, 1) := by decide +kernel
theorem dX0_carryOut_126 : decode cX0_carryOut 126 = .ok (.aload_n 2, 1) := by decide +kernel
theorem dX0_carryOut_127 : decode cX0_carryOut 127 = .ok (.iconst 0, 1) := by decide +kernel
theorem dX0_carryOut_128 : decode cX0_carryOut 128 = .ok (.iaload, 1) := by decide +kernel
theorem dX0_carryOut_129 : decode cX0_carryOut 129 = .ok (.aload_n 2, 1) := by decide +kernel
theorem dX0_carryOut_130 : decode cX0_carryOut 130 = .ok (.iconst 1, 1) := by decide +kernel
theorem dX0_carryOut_131 : decode cX0_carryOut 131 = .ok (.iaload, 1) := by decide +kernel
theorem dX0_carryOut_132 : decode cX0_carryOut 132 = .ok (.invokevirtual 113, 3) := by decide +kernel
theorem dX0_carryOut_135 : decode cX0_carryOut 135 = .ok (.ireturn, 1) := by decide +kernel
theorem dX0_carryOut_136 : decode cX0_carryOut 136 = .ok (.aload_n 0, 1) := by decide +kernel
theorem dX0_carryOut_137 : decode cX0_carryOut 137 = .ok (.aload_n 2, 1) := by decide +kernel
theorem dX0_carryOut_138 : decode cX0_carryOut 138 = .ok (.iconst 0, 1) := by decide +kernel
theorem dX0_carryOut_139 : decode cX0_carryOut 139 = .ok (.iaload, 1) := by decide +kernel
theorem dX0_carryOut_140 : decode cX0_carryOut 140 = .ok (.aload_n 2, 1) := by decide +kernel
theorem dX0_carryOut_141 : decode cX0_carryOut 141 = .ok (.iconst 1, 1) := by decide +kernel
theorem dX0_carryOut_142 : decode cX0_carryOut 142 = .ok (.iaload, 1) := by decide +kernel
theorem dX0_carryOut_143 : decode cX0_carryOut 143 = .ok (.invokevirtual 116, 3) := by decide +kernel
theorem dX0_carryOut_146 : decode cX0_carryOut 146 = .ok (.ireturn, 1) := by decide +kernel
theorem dX0_carryOut_147 : decode cX0_carryOut 147 = .ok (.aload_n 0, 1) := by decide +kernel
theorem dX0_carryOut_148 : decode cX0_carryOut 148 = .ok (.aload_n 2, 1) := by decide +kernel
theorem dX0_carryOut_149 : decode cX0_carryOut 149 = .ok (.iconst 0, 1) := by decide +kernel
theorem dX0_carryOut_150 : decode cX0_carryOut 150 = .ok (.iaload, 1) := by decide +kernel
theorem dX0_carryOut_151 : decode cX0_carryOut 151 = .ok (.aload_n 2, 1) := by decide +kernel
theorem dX0_carryOut_152 : decode cX0_carryOut 152 = .ok (.iconst 1, 1) := by decide +kernel
theorem dX0_carryOut_153 : decode cX0_carryOut 153 = .ok (.iaload, 1) := by decide +kernel
theorem dX0_carryOut_154 : decode cX0_carryOut 154 = .ok (.invokevirtual 119, 3) := by decide +kernel
theorem dX0_carryOut_157 : decode cX0_carryOut 157 = .ok (.ireturn, 1) := by decide +kernel
theorem dX0_property_0 : decode cX0_property 0 = .ok (.aload_n 0, 1) := by decide +kernel
theorem dX0_property_1 : decode cX0_property 1 = .ok (.getfield 12, 3) := by decide +kernel
theorem dX0_property_4 : decode cX0_property 4 = .ok (.getfield 36, 3) := by decide +kernel
theorem dX0_property_7 : decode cX0_property 7 = .ok (.iload_n 1, 1) := by decide +kernel
theorem dX0_property_8 : decode cX0_property 8 = .ok (.aaload, 1) := by decide +kernel
theorem dX0_property_9 : decode cX0_property 9 = .ok (.astore_n 3, 1) := by decide +kernel
theorem dX0_property_10 : decode cX0_property 10 = .ok (.iload_n 2, 1) := by decide +kernel
theorem dX0_property_11 : decode cX0_property 11 = .ok (.tableswitch 66 0 4 #[33, 42, 47, 52, 57], 33) := by decide +kernel
theorem dX0_property_44 : decode cX0_property 44 = .ok (.aload_n 0, 1) := by decide +kernel
theorem dX0_property_45 : decode cX0_property 45 = .ok (.getfield 21, 3) := by decide +kernel
theorem dX0_property_48 : decode cX0_property 48 = .ok (.aload_n 3, 1) := by decide +kernel
theorem dX0_property_49 : decode cX0_property 49 = .ok (.invokevirtual 73, 3) := by decide +kernel
theorem dX0_property_52 : decode cX0_property 52 = .ok (.ireturn, 1) := by decide +kernel
theorem dX0_property_53 : decode cX0_property 53 = .ok (.aload_n 3, 1) := by decide +kernel
theorem dX0_property_54 : decode cX0_property 54 = .ok (.invokevirtual 89, 3) := by decide +kernel
theorem dX0_property_57 : decode cX0_property 57 = .ok (.ireturn, 1) := by decide +kernel
theorem dX0_property_58 : decode cX0_property 58 = .ok (.aload_n 3, 1) := by decide +kernel
theorem dX0_property_59 : decode cX0_property 59 = .ok (.invokevirtual 122, 3) := by decide +kernel
theorem dX0_property_62 : decode cX0_property 62 = .ok (.ireturn, 1) := by decide +kernel
theorem dX0_property_63 : decode cX0_property 63 = .ok (.aload_n 3, 1) := by decide +kernel
theorem dX0_property_64 : decode cX0_property 64 = .ok (.invokevirtual 125, 3) := by decide +kernel
theorem dX0_property_67 : decode cX0_property 67 = .ok (.ireturn, 1) := by decide +kernel
theorem dX0_property_68 : decode cX0_property 68 = .ok (.aload_n 0, 1) := by decide +kernel
theorem dX0_property_69 : decode cX0_property 69 = .ok (.getfield 21, 3) := by decide +kernel
theorem dX0_property_72 : decode cX0_property 72 = .ok (.aload_n 3, 1) := by decide +kernel
theorem dX0_property_73 : decode cX0_property 73 = .ok (.invokevirtual 128, 3) := by decide +kernel
theorem dX0_property_76 : decode cX0_property 76 = .ok (.ireturn, 1) := by decide +kernel
theorem dX0_property_77 : decode cX0_property 77 = .ok (.aload_n 3, 1) := by decide +kernel
theorem dX0_property_78 : decode cX0_property 78 = .ok (.invokevirtual 131, 3) := by decide +kernel
theorem dX0_property_81 : decode cX0_property 81 = .ok (.ireturn, 1) := by decide +kernel
theorem dX0_amount_0 : decode cX0_amount 0 = .ok (.iload_n 1, 1) := by decide +kernel
theorem dX0_amount_1 : decode cX0_amount 1 = .ok (.ifCond .ne 11, 3) := by decide +kernel
theorem dX0_amount_4 : decode cX0_amount 4 = .ok (.aload_n 0, 1) := by decide +kernel
theorem dX0_amount_5 : decode cX0_amount 5 = .ok (.getfield 12, 3) := by decide +kernel
theorem dX0_amount_8 : decode cX0_amount 8 = .ok (.getfield 32, 3) := by decide +kernel
theorem dX0_amount_11 : decode cX0_amount 11 = .ok (.ireturn, 1) := by decide +kernel
theorem dX0_amount_12 : decode cX0_amount 12 = .ok (.iload_n 1, 1) := by decide +kernel
theorem dX0_amount_13 : decode cX0_amount 13 = .ok (.iconst 1, 1) := by decide +kernel
theorem dX0_amount_14 : decode cX0_amount 14 = .ok (.if_icmp .ne 17, 3) := by decide +kernel
theorem dX0_amount_17 : decode cX0_amount 17 = .ok (.getstatic 77, 3) := by decide +kernel
theorem dX0_amount_20 : decode cX0_amount 20 = .ok (.aload_n 0, 1) := by decide +kernel
theorem dX0_amount_21 : decode cX0_amount 21 = .ok (.getfield 12, 3) := by decide +kernel
theorem dX0_amount_24 : decode cX0_amount 24 = .ok (.getfield 32, 3) := by decide +kernel
theorem dX0_amount_27 : decode cX0_amount 27 = .ok (.iaload, 1) := by decide +kernel
theorem dX0_amount_28 : decode cX0_amount 28 = .ok (.goto 16, 3) := by decide +kernel
theorem dX0_amount_31 : decode cX0_amount 31 = .ok (.aload_n 0, 1) := by decide +kernel
theorem dX0_amount_32 : decode cX0_amount 32 = .ok (.getfield 12, 3) := by decide +kernel
theorem dX0_amount_35 : decode cX0_amount 35 = .ok (.getfield 32, 3) := by decide +kernel
theorem dX0_amount_38 : decode cX0_amount 38 = .ok (.iload_n 1, 1) := by decide +kernel
theorem dX0_amount_39 : decode cX0_amount 39 = .ok (.iconst 2, 1) := by decide +kernel
theorem dX0_amount_40 : decode cX0_amount 40 = .ok (.isub, 1) := by decide +kernel
theorem dX0_amount_41 : decode cX0_amount 41 = .ok (.invokestatic 134, 3) := by decide +kernel
theorem dX0_amount_44 : decode cX0_amount 44 = .ok (.ireturn, 1) := by decide +kernel
theorem dX0_ranked_0 : decode cX0_ranked 0 = .ok (.iload_n 0, 1) := by decide +kernel
theorem dX0_ranked_1 : decode cX0_ranked 1 = .ok (.iconst 1, 1) := by decide +kernel
theorem dX0_ranked_2 : decode cX0_ranked 2 = .ok (.isub, 1) := by decide +kernel
theorem dX0_ranked_3 : decode cX0_ranked 3 = .ok (.iload_n 1, 1) := by decide +kernel
theorem dX0_ranked_4 : decode cX0_ranked 4 = .ok (.invokestatic 137, 3) := by decide +kernel
theorem dX0_ranked_7 : decode cX0_ranked 7 = .ok (.istore_n 2, 1) := by decide +kernel
theorem dX0_ranked_8 : decode cX0_ranked 8 = .ok (.iload_n 2, 1) := by decide +kernel
theorem dX0_ranked_9 : decode cX0_ranked 9 = .ok (.iload_n 2, 1) := by decide +kernel
theorem dX0_ranked_10 : decode cX0_ranked 10 = .ok (.imul, 1) := by decide +kernel
theorem dX0_ranked_11 : decode cX0_ranked 11 = .ok (.iload_n 0, 1) := by decide +kernel
theorem dX0_ranked_12 : decode cX0_ranked 12 = .ok (.iconst 1, 1) := by decide +kernel
theorem dX0_ranked_13 : decode cX0_ranked 13 = .ok (.isub, 1) := by decide +kernel
theorem dX0_ranked_14 : decode cX0_ranked 14 = .ok (.iload_n 1, 1) := by decide +kernel
theorem dX0_ranked_15 : decode cX0_ranked 15 = .ok (.iconst 1, 1) := by decide +kernel
theorem dX0_ranked_16 : decode cX0_ranked 16 = .ok (.isub, 1) := by decide +kernel
theorem dX0_ranked_17 : decode cX0_ranked 17 = .ok (.invokestatic 137, 3) := by decide +kernel
theorem dX0_ranked_20 : decode cX0_ranked 20 = .ok (.iload_n 0, 1) := by decide +kernel
theorem dX0_ranked_21 : decode cX0_ranked 21 = .ok (.iconst 1, 1) := by decide +kernel
theorem dX0_ranked_22 : decode cX0_ranked 22 = .ok (.isub, 1) := by decide +kernel
theorem dX0_ranked_23 : decode cX0_ranked 23 = .ok (.iload_n 1, 1) := by decide +kernel
theorem dX0_ranked_24 : decode cX0_ranked 24 = .ok (.iconst 1, 1) := by decide +kernel
theorem dX0_ranked_25 : decode cX0_ranked 25 = .ok (.iadd, 1) := by decide +kernel
theorem dX0_ranked_26 : decode cX0_ranked 26 = .ok (.invokestatic 137, 3) := by decide +kernel
theorem dX0_ranked_29 : decode cX0_ranked 29 = .ok (.imul, 1) := by decide +kernel
theorem dX0_ranked_30 : decode cX0_ranked 30 = .ok (.isub, 1) := by decide +kernel
theorem dX0_ranked_31 : decode cX0_ranked 31 = .ok (.ireturn, 1) := by decide +kernel
theorem dX0_interval_0 : decode cX0_interval 0 = .ok (.aload_n 0, 1) := by decide +kernel
theorem dX0_interval_1 : decode cX0_interval 1 = .ok (.getfield 21, 3) := by decide +kernel
theorem dX0_interval_4 : decode cX0_interval 4 = .ok (.aload_n 0, 1) := by decide +kernel
theorem dX0_interval_5 : decode cX0_interval 5 = .ok (.getfield 28, 3) := by decide +kernel
theorem dX0_interval_8 : decode cX0_interval 8 = .ok (.aload_n 0, 1) := by decide +kernel
theorem dX0_interval_9 : decode cX0_interval 9 = .ok (.getfield 12, 3) := by decide +kernel
theorem dX0_interval_12 : decode cX0_interval 12 = .ok (.getfield 36, 3) := by decide +kernel
theorem dX0_interval_15 : decode cX0_interval 15 = .ok (.iload_n 1, 1) := by decide +kernel
theorem dX0_interval_16 : decode cX0_interval 16 = .ok (.aaload, 1) := by decide +kernel
theorem dX0_interval_17 : decode cX0_interval 17 = .ok (.aload_n 0, 1) := by decide +kernel
theorem dX0_interval_18 : decode cX0_interval 18 = .ok (.getfield 12, 3) := by decide +kernel
theorem dX0_interval_21 : decode cX0_interval 21 = .ok (.getfield 36, 3) := by decide +kernel
theorem dX0_interval_24 : decode cX0_interval 24 = .ok (.iload_n 2, 1) := by decide +kernel
theorem dX0_interval_25 : decode cX0_interval 25 = .ok (.aaload, 1) := by decide +kernel
theorem dX0_interval_26 : decode cX0_interval 26 = .ok (.invokevirtual 140, 3) := by decide +kernel
theorem dX0_interval_29 : decode cX0_interval 29 = .ok (.aload_n 0, 1) := by decide +kernel
theorem dX0_interval_30 : decode cX0_interval 30 = .ok (.getfield 28, 3) := by decide +kernel
theorem dX0_interval_33 : decode cX0_interval 33 = .ok (.areturn, 1) := by decide +kernel
theorem dX0_isParking_0 : decode cX0_isParking 0 = .ok (.iconst 1, 1) := by decide +kernel
theorem dX0_isParking_1 : decode cX0_isParking 1 = .ok (.istore_n 2, 1) := by decide +kernel
theorem dX0_isParking_2 : decode cX0_isParking 2 = .ok (.iload_n 2, 1) := by decide +kernel
theorem dX0_isParking_3 : decode cX0_isParking 3 = .ok (.aload_n 0, 1) := by decide +kernel
theorem dX0_isParking_4 : decode cX0_isParking 4 = .ok (.getfield 12, 3) := by decide +kernel
theorem dX0_isParking_7 : decode cX0_isParking 7 = .ok (.getfield 32, 3) := by decide +kernel
theorem dX0_isParking_10 : decode cX0_isParking 10 = .ok (.if_icmp .ge 66, 3) := by decide +kernel
theorem dX0_isParking_13 : decode cX0_isParking 13 = .ok (.iconst 0, 1) := by decide +kernel
theorem dX0_isParking_14 : decode cX0_isParking 14 = .ok (.istore_n 3, 1) := by decide +kernel
theorem dX0_isParking_15 : decode cX0_isParking 15 = .ok (.iload_n 1, 1) := by decide +kernel
theorem dX0_isParking_16 : decode cX0_isParking 16 = .ok (.istore 4, 2) := by decide +kernel
theorem dX0_isParking_18 : decode cX0_isParking 18 = .ok (.iconst 1, 1) := by decide +kernel
theorem dX0_isParking_19 : decode cX0_isParking 19 = .ok (.istore 5, 2) := by decide +kernel
theorem dX0_isParking_21 : decode cX0_isParking 21 = .ok (.iload 5, 2) := by decide +kernel
theorem dX0_isParking_23 : decode cX0_isParking 23 = .ok (.aload_n 0, 1) := by decide +kernel
theorem dX0_isParking_24 : decode cX0_isParking 24 = .ok (.getfield 12, 3) := by decide +kernel
theorem dX0_isParking_27 : decode cX0_isParking 27 = .ok (.getfield 32, 3) := by decide +kernel
theorem dX0_isParking_30 : decode cX0_isParking 30 = .ok (.if_icmp .ge 33, 3) := by decide +kernel
theorem dX0_isParking_33 : decode cX0_isParking 33 = .ok (.iload_n 3, 1) := by decide +kernel
theorem dX0_isParking_34 : decode cX0_isParking 34 = .ok (.iload 4, 2) := by decide +kernel
theorem dX0_isParking_36 : decode cX0_isParking 36 = .ok (.bipush 10, 2) := by decide +kernel
theorem dX0_isParking_38 : decode cX0_isParking 38 = .ok (.irem, 1) := by decide +kernel
theorem dX0_isParking_39 : decode cX0_isParking 39 = .ok (.iload_n 2, 1) := by decide +kernel
theorem dX0_isParking_40 : decode cX0_isParking 40 = .ok (.if_icmp .ge 7, 3) := by decide +kernel
theorem dX0_isParking_43 : decode cX0_isParking 43 = .ok (.iconst 1, 1) := by decide +kernel
theorem dX0_isParking_44 : decode cX0_isParking 44 = .ok (.goto 4, 3) := by decide +kernel
theorem dX0_isParking_47 : decode cX0_isParking 47 = .ok (.iconst 0, 1) := by decide +kernel
theorem dX0_isParking_48 : decode cX0_isParking 48 = .ok (.iadd, 1) := by decide +kernel
theorem dX0_isParking_49 : decode cX0_isParking 49 = .ok (.istore_n 3, 1) := by decide +kernel
theorem dX0_isParking_50 : decode cX0_isParking 50 = .ok (.iload 4, 2) := by decide +kernel
theorem dX0_isParking_52 : decode cX0_isParking 52 = .ok (.bipush 10, 2) := by decide +kernel
theorem dX0_isParking_54 : decode cX0_isParking 54 = .ok (.idiv, 1) := by decide +kernel
theorem dX0_isParking_55 : decode cX0_isParking 55 = .ok (.istore 4, 2) := by decide +kernel
theorem dX0_isParking_57 : decode cX0_isParking 57 = .ok (.iinc 5 1, 3) := by decide +kernel
theorem dX0_isParking_60 : decode cX0_isParking 60 = .ok (.goto (-39), 3) := by decide +kernel
theorem dX0_isParking_63 : decode cX0_isParking 63 = .ok (.iload_n 3, 1) := by decide +kernel
theorem dX0_isParking_64 : decode cX0_isParking 64 = .ok (.iload_n 2, 1) := by decide +kernel
theorem dX0_isParking_65 : decode cX0_isParking 65 = .ok (.if_icmp .ge 5, 3) := by decide +kernel
theorem dX0_isParking_68 : decode cX0_isParking 68 = .ok (.iconst 0, 1) := by decide +kernel
theorem dX0_isParking_69 : decode cX0_isParking 69 = .ok (.ireturn, 1) := by decide +kernel
theorem dX0_isParking_70 : decode cX0_isParking 70 = .ok (.iinc 2 1, 3) := by decide +kernel
theorem dX0_isParking_73 : decode cX0_isParking 73 = .ok (.goto (-71), 3) := by decide +kernel
theorem dX0_isParking_76 : decode cX0_isParking 76 = .ok (.iconst 1, 1) := by decide +kernel
theorem dX0_isParking_77 : decode cX0_isParking 77 = .ok (.ireturn, 1) := by decide +kernel
theorem dX1_init_0 : decode cX1_init 0 = .ok (.aload_n 0, 1) := by decide +kernel
theorem dX1_init_1 : decode cX1_init 1 = .ok (.invokespecial 3, 3) := by decide +kernel
theorem dX1_init_4 : decode cX1_init 4 = .ok (.aload_n 0, 1) := by decide +kernel
theorem dX1_init_5 : decode cX1_init 5 = .ok (.bipush 8, 2) := by decide +kernel
theorem dX1_init_7 : decode cX1_init 7 = .ok (.newarray .int, 2) := by decide +kernel
theorem dX1_init_9 : decode cX1_init 9 = .ok (.putfield 9, 3) := by decide +kernel
theorem dX1_init_12 : decode cX1_init 12 = .ok (.aload_n 0, 1) := by decide +kernel
theorem dX1_init_13 : decode cX1_init 13 = .ok (.bipush 8, 2) := by decide +kernel
theorem dX1_init_15 : decode cX1_init 15 = .ok (.newarray .int, 2) := by decide +kernel
theorem dX1_init_17 : decode cX1_init 17 = .ok (.putfield 15, 3) := by decide +kernel
theorem dX1_init_20 : decode cX1_init 20 = .ok (.aload_n 0, 1) := by decide +kernel
theorem dX1_init_21 : decode cX1_init 21 = .ok (.bipush 9, 2) := by decide +kernel
theorem dX1_init_23 : decode cX1_init 23 = .ok (.newarray .int, 2) := by decide +kernel
theorem dX1_init_25 : decode cX1_init 25 = .ok (.putfield 18, 3) := by decide +kernel
theorem dX1_init_28 : decode cX1_init 28 = .ok (.aload_n 0, 1) := by decide +kernel
theorem dX1_init_29 : decode cX1_init 29 = .ok (.bipush 9, 2) := by decide +kernel
theorem dX1_init_31 : decode cX1_init 31 = .ok (.bipush 9, 2) := by decide +kernel
theorem dX1_init_33 : decode cX1_init 33 = .ok (.multianewarray 21 2, 4) := by decide +kernel
theorem dX1_init_37 : decode cX1_init 37 = .ok (.putfield 23, 3) := by decide +kernel
theorem dX1_init_40 : decode cX1_init 40 = .ok (.aload_n 0, 1) := by decide +kernel
theorem dX1_init_41 : decode cX1_init 41 = .ok (.new 26, 3) := by decide +kernel
theorem dX1_init_44 : decode cX1_init 44 = .ok (.dup, 1) := by decide +kernel
theorem dX1_init_45 : decode cX1_init 45 = .ok (.invokespecial 28, 3) := by decide +kernel
theorem dX1_init_48 : decode cX1_init 48 = .ok (.putfield 29, 3) := by decide +kernel
theorem dX1_init_51 : decode cX1_init 51 = .ok (.aload_n 0, 1) := by decide +kernel
theorem dX1_init_52 : decode cX1_init 52 = .ok (.new 26, 3) := by decide +kernel
theorem dX1_init_55 : decode cX1_init 55 = .ok (.dup, 1) := by decide +kernel
theorem dX1_init_56 : decode cX1_init 56 = .ok (.invokespecial 28, 3) := by decide +kernel
theorem dX1_init_59 : decode cX1_init 59 = .ok (.putfield 33, 3) := by decide +kernel
theorem dX1_init_62 : decode cX1_init 62 = .ok (.aload_n 0, 1) := by decide +kernel
theorem dX1_init_63 : decode cX1_init 63 = .ok (.new 26, 3) := by decide +kernel
theorem dX1_init_66 : decode cX1_init 66 = .ok (.dup, 1) := by decide +kernel
theorem dX1_init_67 : decode cX1_init 67 = .ok (.invokespecial 28, 3) := by decide +kernel
theorem dX1_init_70 : decode cX1_init 70 = .ok (.putfield 36, 3) := by decide +kernel
theorem dX1_init_73 : decode cX1_init 73 = .ok (.aload_n 0, 1) := by decide +kernel
theorem dX1_init_74 : decode cX1_init 74 = .ok (.new 26, 3) := by decide +kernel
theorem dX1_init_77 : decode cX1_init 77 = .ok (.dup, 1) := by decide +kernel
theorem dX1_init_78 : decode cX1_init 78 = .ok (.invokespecial 28, 3) := by decide +kernel
theorem dX1_init_81 : decode cX1_init 81 = .ok (.putfield 39, 3) := by decide +kernel
theorem dX1_init_84 : decode cX1_init 84 = .ok (.aload_n 0, 1) := by decide +kernel
theorem dX1_init_85 : decode cX1_init 85 = .ok (.new 26, 3) := by decide +kernel
theorem dX1_init_88 : decode cX1_init 88 = .ok (.dup, 1) := by decide +kernel
theorem dX1_init_89 : decode cX1_init 89 = .ok (.invokespecial 28, 3) := by decide +kernel
theorem dX1_init_92 : decode cX1_init 92 = .ok (.putfield 42, 3) := by decide +kernel
theorem dX1_init_95 : decode cX1_init 95 = .ok (.aload_n 0, 1) := by decide +kernel
theorem dX1_init_96 : decode cX1_init 96 = .ok (.invokevirtual 45, 3) := by decide +kernel
theorem dX1_init_99 : decode cX1_init 99 = .ok (.return_, 1) := by decide +kernel
theorem dX1_countWays_0 : decode cX1_countWays 0 = .ok (.iconst 0, 1) := by decide +kernel
theorem dX1_countWays_1 : decode cX1_countWays 1 = .ok (.istore_n 1, 1) := by decide +kernel
theorem dX1_countWays_2 : decode cX1_countWays 2 = .ok (.iload_n 1, 1) := by decide +kernel
theorem dX1_countWays_3 : decode cX1_countWays 3 = .ok (.bipush 8, 2) := by decide +kernel
theorem dX1_countWays_5 : decode cX1_countWays 5 = .ok (.if_icmp .gt 18, 3) := by decide +kernel
theorem dX1_countWays_8 : decode cX1_countWays 8 = .ok (.aload_n 0, 1) := by decide +kernel
theorem dX1_countWays_9 : decode cX1_countWays 9 = .ok (.getfield 23, 3) := by decide +kernel
theorem dX1_countWays_12 : decode cX1_countWays 12 = .ok (.iconst 0, 1) := by decide +kernel
theorem dX1_countWays_13 : decode cX1_countWays 13 = .ok (.aaload, 1) := by decide +kernel
theorem dX1_countWays_14 : decode cX1_countWays 14 = .ok (.iload_n 1, 1) := by decide +kernel
theorem dX1_countWays_15 : decode cX1_countWays 15 = .ok (.iconst 1, 1) := by decide +kernel
theorem dX1_countWays_16 : decode cX1_countWays 16 = .ok (.iastore, 1) := by decide +kernel
theorem dX1_countWays_17 : decode cX1_countWays 17 = .ok (.iinc 1 1, 3) := by decide +kernel
theorem dX1_countWays_20 : decode cX1_countWays 20 = .ok (.goto (-18), 3) := by decide +kernel
theorem dX1_countWays_23 : decode cX1_countWays 23 = .ok (.iconst 1, 1) := by decide +kernel
theorem dX1_countWays_24 : decode cX1_countWays 24 = .ok (.istore_n 1, 1) := by decide +kernel
theorem dX1_countWays_25 : decode cX1_countWays 25 = .ok (.iload_n 1, 1) := by decide +kernel
theorem dX1_countWays_26 : decode cX1_countWays 26 = .ok (.bipush 8, 2) := by decide +kernel
theorem dX1_countWays_28 : decode cX1_countWays 28 = .ok (.if_icmp .gt 61, 3) := by decide +kernel
theorem dX1_countWays_31 : decode cX1_countWays 31 = .ok (.iconst 0, 1) := by decide +kernel
theorem dX1_countWays_32 : decode cX1_countWays 32 = .ok (.istore_n 2, 1) := by decide +kernel
theorem dX1_countWays_33 : decode cX1_countWays 33 = .ok (.iload_n 2, 1) := by decide +kernel
theorem dX1_countWays_34 : decode cX1_countWays 34 = .ok (.bipush 8, 2) := by decide +kernel
theorem dX1_countWays_36 : decode cX1_countWays 36 = .ok (.iload_n 1, 1) := by decide +kernel
theorem dX1_countWays_37 : decode cX1_countWays 37 = .ok (.isub, 1) := by decide +kernel
theorem dX1_countWays_38 : decode cX1_countWays 38 = .ok (.if_icmp .gt 45, 3) := by decide +kernel
theorem dX1_countWays_41 : decode cX1_countWays 41 = .ok (.iconst 1, 1) := by decide +kernel
theorem dX1_countWays_42 : decode cX1_countWays 42 = .ok (.istore_n 3, 1) := by decide +kernel
theorem dX1_countWays_43 : decode cX1_countWays 43 = .ok (.iload_n 3, 1) := by decide +kernel
theorem dX1_countWays_44 : decode cX1_countWays 44 = .ok (.iload_n 2, 1) := by decide +kernel
theorem dX1_countWays_45 : decode cX1_countWays 45 = .ok (.iconst 1, 1) := by decide +kernel
theorem dX1_countWays_46 : decode cX1_countWays 46 = .ok (.iadd, 1) := by decide +kernel
theorem dX1_countWays_47 : decode cX1_countWays 47 = .ok (.if_icmp .gt 30, 3) := by decide +kernel
theorem dX1_countWays_50 : decode cX1_countWays 50 = .ok (.aload_n 0, 1) := by decide +kernel
theorem dX1_countWays_51 : decode cX1_countWays 51 = .ok (.getfield 23, 3) := by decide +kernel
theorem dX1_countWays_54 : decode cX1_countWays 54 = .ok (.iload_n 1, 1) := by decide +kernel
theorem dX1_countWays_55 : decode cX1_countWays 55 = .ok (.aaload, 1) := by decide +kernel
theorem dX1_countWays_56 : decode cX1_countWays 56 = .ok (.iload_n 2, 1) := by decide +kernel
theorem dX1_countWays_57 : decode cX1_countWays 57 = .ok (.dup2, 1) := by decide +kernel
theorem dX1_countWays_58 : decode cX1_countWays 58 = .ok (.iaload, 1) := by decide +kernel
theorem dX1_countWays_59 : decode cX1_countWays 59 = .ok (.aload_n 0, 1) := by decide +kernel
theorem dX1_countWays_60 : decode cX1_countWays 60 = .ok (.getfield 23, 3) := by decide +kernel
theorem dX1_countWays_63 : decode cX1_countWays 63 = .ok (.iload_n 1, 1) := by decide +kernel
theorem dX1_countWays_64 : decode cX1_countWays 64 = .ok (.iconst 1, 1) := by decide +kernel
theorem dX1_countWays_65 : decode cX1_countWays 65 = .ok (.isub, 1) := by decide +kernel
theorem dX1_countWays_66 : decode cX1_countWays 66 = .ok (.aaload, 1) := by decide +kernel
theorem dX1_countWays_67 : decode cX1_countWays 67 = .ok (.iload_n 3, 1) := by decide +kernel
theorem dX1_countWays_68 : decode cX1_countWays 68 = .ok (.iaload, 1) := by decide +kernel
theorem dX1_countWays_69 : decode cX1_countWays 69 = .ok (.iadd, 1) := by decide +kernel
theorem dX1_countWays_70 : decode cX1_countWays 70 = .ok (.iastore, 1) := by decide +kernel
theorem dX1_countWays_71 : decode cX1_countWays 71 = .ok (.iinc 3 1, 3) := by decide +kernel
theorem dX1_countWays_74 : decode cX1_countWays 74 = .ok (.goto (-31), 3) := by decide +kernel
theorem dX1_countWays_77 : decode cX1_countWays 77 = .ok (.iinc 2 1, 3) := by decide +kernel
theorem dX1_countWays_80 : decode cX1_countWays 80 = .ok (.goto (-47), 3) := by decide +kernel
theorem dX1_countWays_83 : decode cX1_countWays 83 = .ok (.iinc 1 1, 3) := by decide +kernel
theorem dX1_countWays_86 : decode cX1_countWays 86 = .ok (.goto (-61), 3) := by decide +kernel
theorem dX1_countWays_89 : decode cX1_countWays 89 = .ok (.return_, 1) := by decide +kernel
theorem dX1_placeOf_0 : decode cX1_placeOf 0 = .ok (.iconst 0, 1) := by decide +kernel
theorem dX1_placeOf_1 : decode cX1_placeOf 1 = .ok (.istore_n 2, 1) := by decide +kernel
theorem dX1_placeOf_2 : decode cX1_placeOf 2 = .ok (.iconst 0, 1) := by decide +kernel
theorem dX1_placeOf_3 : decode cX1_placeOf 3 = .ok (.istore_n 3, 1) := by decide +kernel
theorem dX1_placeOf_4 : decode cX1_placeOf 4 = .ok (.iconst 0, 1) := by decide +kernel
theorem dX1_placeOf_5 : decode cX1_placeOf 5 = .ok (.istore 4, 2) := by decide +kernel
theorem dX1_placeOf_7 : decode cX1_placeOf 7 = .ok (.iload 4, 2) := by decide +kernel
theorem dX1_placeOf_9 : decode cX1_placeOf 9 = .ok (.aload_n 1, 1) := by decide +kernel
theorem dX1_placeOf_10 : decode cX1_placeOf 10 = .ok (.getfield 48, 3) := by decide +kernel
theorem dX1_placeOf_13 : decode cX1_placeOf 13 = .ok (.if_icmp .ge 86, 3) := by decide +kernel
theorem dX1_placeOf_16 : decode cX1_placeOf 16 = .ok (.aload_n 1, 1) := by decide +kernel
theorem dX1_placeOf_17 : decode cX1_placeOf 17 = .ok (.iload 4, 2) := by decide +kernel
theorem dX1_placeOf_19 : decode cX1_placeOf 19 = .ok (.invokevirtual 52, 3) := by decide +kernel
theorem dX1_placeOf_22 : decode cX1_placeOf 22 = .ok (.ifCond .eq 9, 3) := by decide +kernel
theorem dX1_placeOf_25 : decode cX1_placeOf 25 = .ok (.iload_n 3, 1) := by decide +kernel
theorem dX1_placeOf_26 : decode cX1_placeOf 26 = .ok (.iconst 1, 1) := by decide +kernel
theorem dX1_placeOf_27 : decode cX1_placeOf 27 = .ok (.iadd, 1) := by decide +kernel
theorem dX1_placeOf_28 : decode cX1_placeOf 28 = .ok (.goto 15, 3) := by decide +kernel
theorem dX1_placeOf_31 : decode cX1_placeOf 31 = .ok (.aload_n 0, 1) := by decide +kernel
theorem dX1_placeOf_32 : decode cX1_placeOf 32 = .ok (.getfield 15, 3) := by decide +kernel
theorem dX1_placeOf_35 : decode cX1_placeOf 35 = .ok (.aload_n 1, 1) := by decide +kernel
theorem dX1_placeOf_36 : decode cX1_placeOf 36 = .ok (.getfield 56, 3) := by decide +kernel
theorem dX1_placeOf_39 : decode cX1_placeOf 39 = .ok (.iload 4, 2) := by decide +kernel
theorem dX1_placeOf_41 : decode cX1_placeOf 41 = .ok (.iaload, 1) := by decide +kernel
theorem dX1_placeOf_42 : decode cX1_placeOf 42 = .ok (.iaload, 1) := by decide +kernel
theorem dX1_placeOf_43 : decode cX1_placeOf 43 = .ok (.istore 5, 2) := by decide +kernel
theorem dX1_placeOf_45 : decode cX1_placeOf 45 = .ok (.iconst 1, 1) := by decide +kernel
theorem dX1_placeOf_46 : decode cX1_placeOf 46 = .ok (.istore 6, 2) := by decide +kernel
theorem dX1_placeOf_48 : decode cX1_placeOf 48 = .ok (.iload 6, 2) := by decide +kernel
theorem dX1_placeOf_50 : decode cX1_placeOf 50 = .ok (.iload 5, 2) := by decide +kernel
theorem dX1_placeOf_52 : decode cX1_placeOf 52 = .ok (.if_icmp .ge 29, 3) := by decide +kernel
theorem dX1_placeOf_55 : decode cX1_placeOf 55 = .ok (.iload_n 2, 1) := by decide +kernel
theorem dX1_placeOf_56 : decode cX1_placeOf 56 = .ok (.aload_n 0, 1) := by decide +kernel
theorem dX1_placeOf_57 : decode cX1_placeOf 57 = .ok (.getfield 23, 3) := by decide +kernel
theorem dX1_placeOf_60 : decode cX1_placeOf 60 = .ok (.aload_n 1, 1) := by decide +kernel
theorem dX1_placeOf_61 : decode cX1_placeOf 61 = .ok (.getfield 48, 3) := by decide +kernel
theorem dX1_placeOf_64 : decode cX1_placeOf 64 = .ok (.iconst 1, 1) := by decide +kernel
theorem dX1_placeOf_65 : decode cX1_placeOf 65 = .ok (.isub, 1) := by decide +kernel
theorem dX1_placeOf_66 : decode cX1_placeOf 66 = .ok (.iload 4, 2) := by decide +kernel
theorem dX1_placeOf_68 : decode cX1_placeOf 68 = .ok (.isub, 1) := by decide +kernel
theorem dX1_placeOf_69 : decode cX1_placeOf 69 = .ok (.aaload, 1) := by decide +kernel
theorem dX1_placeOf_70 : decode cX1_placeOf 70 = .ok (.iload 6, 2) := by decide +kernel
theorem dX1_placeOf_72 : decode cX1_placeOf 72 = .ok (.iaload, 1) := by decide +kernel
theorem dX1_placeOf_73 : decode cX1_placeOf 73 = .ok (.iadd, 1) := by decide +kernel
theorem dX1_placeOf_74 : decode cX1_placeOf 74 = .ok (.istore_n 2, 1) := by decide +kernel
theorem dX1_placeOf_75 : decode cX1_placeOf 75 = .ok (.iinc 6 1, 3) := by decide +kernel
theorem dX1_placeOf_78 : decode cX1_placeOf 78 = .ok (.goto (-30), 3) := by decide +kernel
theorem dX1_placeOf_81 : decode cX1_placeOf 81 = .ok (.aload_n 0, 1) := by decide +kernel
theorem dX1_placeOf_82 : decode cX1_placeOf 82 = .ok (.getfield 15, 3) := by decide +kernel
theorem dX1_placeOf_85 : decode cX1_placeOf 85 = .ok (.iload 4, 2) := by decide +kernel
theorem dX1_placeOf_87 : decode cX1_placeOf 87 = .ok (.iload 5, 2) := by decide +kernel
theorem dX1_placeOf_89 : decode cX1_placeOf 89 = .ok (.iastore, 1) := by decide +kernel
theorem dX1_placeOf_90 : decode cX1_placeOf 90 = .ok (.iload 5, 2) := by decide +kernel
theorem dX1_placeOf_92 : decode cX1_placeOf 92 = .ok (.istore_n 3, 1) := by decide +kernel
theorem dX1_placeOf_93 : decode cX1_placeOf 93 = .ok (.iinc 4 1, 3) := by decide +kernel
theorem dX1_placeOf_96 : decode cX1_placeOf 96 = .ok (.goto (-89), 3) := by decide +kernel
theorem dX1_placeOf_99 : decode cX1_placeOf 99 = .ok (.iload_n 2, 1) := by decide +kernel
theorem dX1_placeOf_100 : decode cX1_placeOf 100 = .ok (.ireturn, 1) := by decide +kernel
theorem dX1_takePlace_0 : decode cX1_takePlace 0 = .ok (.iload_n 3, 1) := by decide +kernel
theorem dX1_takePlace_1 : decode cX1_takePlace 1 = .ok (.istore 4, 2) := by decide +kernel
theorem dX1_takePlace_3 : decode cX1_takePlace 3 = .ok (.iconst 0, 1) := by decide +kernel
theorem dX1_takePlace_4 : decode cX1_takePlace 4 = .ok (.istore 5, 2) := by decide +kernel
theorem dX1_takePlace_6 : decode cX1_takePlace 6 = .ok (.aload_n 1, 1) := by decide +kernel
theorem dX1_takePlace_7 : decode cX1_takePlace 7 = .ok (.iload_n 2, 1) := by decide +kernel
theorem dX1_takePlace_8 : decode cX1_takePlace 8 = .ok (.invokevirtual 59, 3) := by decide +kernel
theorem dX1_takePlace_11 : decode cX1_takePlace 11 = .ok (.iconst 0, 1) := by decide +kernel
theorem dX1_takePlace_12 : decode cX1_takePlace 12 = .ok (.istore 6, 2) := by decide +kernel
theorem dX1_takePlace_14 : decode cX1_takePlace 14 = .ok (.iload 6, 2) := by decide +kernel
theorem dX1_takePlace_16 : decode cX1_takePlace 16 = .ok (.iload_n 2, 1) := by decide +kernel
theorem dX1_takePlace_17 : decode cX1_takePlace 17 = .ok (.if_icmp .ge 106, 3) := by decide +kernel
theorem dX1_takePlace_20 : decode cX1_takePlace 20 = .ok (.iconst 1, 1) := by decide +kernel
theorem dX1_takePlace_21 : decode cX1_takePlace 21 = .ok (.istore 7, 2) := by decide +kernel
theorem dX1_takePlace_23 : decode cX1_takePlace 23 = .ok (.iconst 1, 1) := by decide +kernel
theorem dX1_takePlace_24 : decode cX1_takePlace 24 = .ok (.istore 8, 2) := by decide +kernel
theorem dX1_takePlace_26 : decode cX1_takePlace 26 = .ok (.iload 8, 2) := by decide +kernel
theorem dX1_takePlace_28 : decode cX1_takePlace 28 = .ok (.iload 5, 2) := by decide +kernel
theorem dX1_takePlace_30 : decode cX1_takePlace 30 = .ok (.if_icmp .gt 53, 3) := by decide +kernel
theorem dX1_takePlace_33 : decode cX1_takePlace 33 = .ok (.iload 4, 2) := by decide +kernel
theorem dX1_takePlace_35 : decode cX1_takePlace 35 = .ok (.aload_n 0, 1) := by decide +kernel
theorem dX1_takePlace_36 : decode cX1_takePlace 36 = .ok (.getfield 23, 3) := by decide +kernel
theorem dX1_takePlace_39 : decode cX1_takePlace 39 = .ok (.iload_n 2, 1) := by decide +kernel
theorem dX1_takePlace_40 : decode cX1_takePlace 40 = .ok (.iconst 1, 1) := by decide +kernel
theorem dX1_takePlace_41 : decode cX1_takePlace 41 = .ok (.isub, 1) := by decide +kernel
theorem dX1_takePlace_42 : decode cX1_takePlace 42 = .ok (.iload 6, 2) := by decide +kernel
theorem dX1_takePlace_44 : decode cX1_takePlace 44 = .ok (.isub, 1) := by decide +kernel
theorem dX1_takePlace_45 : decode cX1_takePlace 45 = .ok (.aaload, 1) := by decide +kernel
theorem dX1_takePlace_46 : decode cX1_takePlace 46 = .ok (.iload 8, 2) := by decide +kernel
theorem dX1_takePlace_48 : decode cX1_takePlace 48 = .ok (.iaload, 1) := by decide +kernel
theorem dX1_takePlace_49 : decode cX1_takePlace 49 = .ok (.if_icmp .lt 34, 3) := by decide +kernel
theorem dX1_takePlace_52 : decode cX1_takePlace 52 = .ok (.iload 4, 2) := by decide +kernel
theorem dX1_takePlace_54 : decode cX1_takePlace 54 = .ok (.aload_n 0, 1) := by decide +kernel
theorem dX1_takePlace_55 : decode cX1_takePlace 55 = .ok (.getfield 23, 3) := by decide +kernel
theorem dX1_takePlace_58 : decode cX1_takePlace 58 = .ok (.iload_n 2, 1) := by decide +kernel
theorem dX1_takePlace_59 : decode cX1_takePlace 59 = .ok (.iconst 1, 1) := by decide +kernel
theorem dX1_takePlace_60 : decode cX1_takePlace 60 = .ok (.isub, 1) := by decide +kernel
theorem dX1_takePlace_61 : decode cX1_takePlace 61 = .ok (.iload 6, 2) := by decide +kernel
theorem dX1_takePlace_63 : decode cX1_takePlace 63 = .ok (.isub, 1) := by decide +kernel
theorem dX1_takePlace_64 : decode cX1_takePlace 64 = .ok (.aaload, 1) := by decide +kernel
theorem dX1_takePlace_65 : decode cX1_takePlace 65 = .ok (.iload 8, 2) := by decide +kernel
theorem dX1_takePlace_67 : decode cX1_takePlace 67 = .ok (.iaload, 1) := by decide +kernel
theorem dX1_takePlace_68 : decode cX1_takePlace 68 = .ok (.isub, 1) := by decide +kernel
theorem dX1_takePlace_69 : decode cX1_takePlace 69 = .ok (.istore 4, 2) := by decide +kernel
theorem dX1_takePlace_71 : decode cX1_takePlace 71 = .ok (.iload 8, 2) := by decide +kernel
theorem dX1_takePlace_73 : decode cX1_takePlace 73 = .ok (.iconst 1, 1) := by decide +kernel
theorem dX1_takePlace_74 : decode cX1_takePlace 74 = .ok (.iadd, 1) := by decide +kernel
theorem dX1_takePlace_75 : decode cX1_takePlace 75 = .ok (.istore 7, 2) := by decide +kernel
theorem dX1_takePlace_77 : decode cX1_takePlace 77 = .ok (.iinc 8 1, 3) := by decide +kernel
theorem dX1_takePlace_80 : decode cX1_takePlace 80 = .ok (.goto (-54), 3) := by decide +kernel
theorem dX1_takePlace_83 : decode cX1_takePlace 83 = .ok (.iload 7, 2) := by decide +kernel
theorem dX1_takePlace_85 : decode cX1_takePlace 85 = .ok (.iload 5, 2) := by decide +kernel
theorem dX1_takePlace_87 : decode cX1_takePlace 87 = .ok (.if_icmp .le 12, 3) := by decide +kernel
theorem dX1_takePlace_90 : decode cX1_takePlace 90 = .ok (.aload_n 0, 1) := by decide +kernel
theorem dX1_takePlace_91 : decode cX1_takePlace 91 = .ok (.getfield 18, 3) := by decide +kernel
theorem dX1_takePlace_94 : decode cX1_takePlace 94 = .ok (.iload 7, 2) := by decide +kernel
theorem dX1_takePlace_96 : decode cX1_takePlace 96 = .ok (.iload 6, 2) := by decide +kernel
theorem dX1_takePlace_98 : decode cX1_takePlace 98 = .ok (.iastore, 1) := by decide +kernel
theorem dX1_takePlace_99 : decode cX1_takePlace 99 = .ok (.aload_n 1, 1) := by decide +kernel
theorem dX1_takePlace_100 : decode cX1_takePlace 100 = .ok (.getfield 56, 3) := by decide +kernel
theorem dX1_takePlace_103 : decode cX1_takePlace 103 = .ok (.iload 6, 2) := by decide +kernel
theorem dX1_takePlace_105 : decode cX1_takePlace 105 = .ok (.aload_n 0, 1) := by decide +kernel
theorem dX1_takePlace_106 : decode cX1_takePlace 106 = .ok (.getfield 18, 3) := by decide +kernel
theorem dX1_takePlace_109 : decode cX1_takePlace 109 = .ok (.iload 7, 2) := by decide +kernel
theorem dX1_takePlace_111 : decode cX1_takePlace 111 = .ok (.iaload, 1) := by decide +kernel
theorem dX1_takePlace_112 : decode cX1_takePlace 112 = .ok (.iastore, 1) := by decide +kernel
theorem dX1_takePlace_113 : decode cX1_takePlace 113 = .ok (.iload 7, 2) := by decide +kernel
theorem dX1_takePlace_115 : decode cX1_takePlace 115 = .ok (.istore 5, 2) := by decide +kernel
theorem dX1_takePlace_117 : decode cX1_takePlace 117 = .ok (.iinc 6 1, 3) := by decide +kernel
theorem dX1_takePlace_120 : decode cX1_takePlace 120 = .ok (.goto (-106), 3) := by decide +kernel
theorem dX1_takePlace_123 : decode cX1_takePlace 123 = .ok (.return_, 1) := by decide +kernel
theorem dX1_meet_0 : decode cX1_meet 0 = .ok (.aload_n 1, 1) := by decide +kernel
theorem dX1_meet_1 : decode cX1_meet 1 = .ok (.aload_n 2, 1) := by decide +kernel
theorem dX1_meet_2 : decode cX1_meet 2 = .ok (.getfield 48, 3) := by decide +kernel
theorem dX1_meet_5 : decode cX1_meet 5 = .ok (.invokevirtual 59, 3) := by decide +kernel
theorem dX1_meet_8 : decode cX1_meet 8 = .ok (.iconst 0, 1) := by decide +kernel
theorem dX1_meet_9 : decode cX1_meet 9 = .ok (.istore 4, 2) := by decide +kernel
theorem dX1_meet_11 : decode cX1_meet 11 = .ok (.iload 4, 2) := by decide +kernel
theorem dX1_meet_13 : decode cX1_meet 13 = .ok (.aload_n 2, 1) := by decide +kernel
theorem dX1_meet_14 : decode cX1_meet 14 = .ok (.getfield 48, 3) := by decide +kernel
theorem dX1_meet_17 : decode cX1_meet 17 = .ok (.if_icmp .ge 57, 3) := by decide +kernel
theorem dX1_meet_20 : decode cX1_meet 20 = .ok (.iload 4, 2) := by decide +kernel
theorem dX1_meet_22 : decode cX1_meet 22 = .ok (.iconst 1, 1) := by decide +kernel
theorem dX1_meet_23 : decode cX1_meet 23 = .ok (.isub, 1) := by decide +kernel
theorem dX1_meet_24 : decode cX1_meet 24 = .ok (.istore 5, 2) := by decide +kernel
theorem dX1_meet_26 : decode cX1_meet 26 = .ok (.iload 5, 2) := by decide +kernel
theorem dX1_meet_28 : decode cX1_meet 28 = .ok (.ifCond .lt 40, 3) := by decide +kernel
theorem dX1_meet_31 : decode cX1_meet 31 = .ok (.aload_n 2, 1) := by decide +kernel
theorem dX1_meet_32 : decode cX1_meet 32 = .ok (.iload 4, 2) := by decide +kernel
theorem dX1_meet_34 : decode cX1_meet 34 = .ok (.iload 5, 2) := by decide +kernel
theorem dX1_meet_36 : decode cX1_meet 36 = .ok (.invokevirtual 63, 3) := by decide +kernel
theorem dX1_meet_39 : decode cX1_meet 39 = .ok (.ifCond .eq 23, 3) := by decide +kernel
theorem dX1_meet_42 : decode cX1_meet 42 = .ok (.aload_n 3, 1) := by decide +kernel
theorem dX1_meet_43 : decode cX1_meet 43 = .ok (.iload 4, 2) := by decide +kernel
theorem dX1_meet_45 : decode cX1_meet 45 = .ok (.iload 5, 2) := by decide +kernel
theorem dX1_meet_47 : decode cX1_meet 47 = .ok (.invokevirtual 63, 3) := by decide +kernel
theorem dX1_meet_50 : decode cX1_meet 50 = .ok (.ifCond .eq 12, 3) := by decide +kernel
theorem dX1_meet_53 : decode cX1_meet 53 = .ok (.aload_n 1, 1) := by decide +kernel
theorem dX1_meet_54 : decode cX1_meet 54 = .ok (.getfield 56, 3) := by decide +kernel
theorem dX1_meet_57 : decode cX1_meet 57 = .ok (.iload 4, 2) := by decide +kernel
theorem dX1_meet_59 : decode cX1_meet 59 = .ok (.iload 5, 2) := by decide +kernel
theorem dX1_meet_61 : decode cX1_meet 61 = .ok (.iastore, 1) := by decide +kernel
theorem dX1_meet_62 : decode cX1_meet 62 = .ok (.iinc 5 (-1), 3) := by decide +kernel
theorem dX1_meet_65 : decode cX1_meet 65 = .ok (.goto (-39), 3) := by decide +kernel
theorem dX1_meet_68 : decode cX1_meet 68 = .ok (.iinc 4 1, 3) := by decide +kernel
theorem dX1_meet_71 : decode cX1_meet 71 = .ok (.goto (-60), 3) := by decide +kernel
theorem dX1_meet_74 : decode cX1_meet 74 = .ok (.return_, 1) := by decide +kernel
theorem dX1_join_0 : decode cX1_join 0 = .ok (.aload_n 0, 1) := by decide +kernel
theorem dX1_join_1 : decode cX1_join 1 = .ok (.aload_n 0, 1) := by decide +kernel
theorem dX1_join_2 : decode cX1_join 2 = .ok (.getfield 29, 3) := by decide +kernel
theorem dX1_join_5 : decode cX1_join 5 = .ok (.aload_n 2, 1) := by decide +kernel
theorem dX1_join_6 : decode cX1_join 6 = .ok (.invokevirtual 67, 3) := by decide +kernel
theorem dX1_join_9 : decode cX1_join 9 = .ok (.aload_n 0, 1) := by decide +kernel
theorem dX1_join_10 : decode cX1_join 10 = .ok (.aload_n 0, 1) := by decide +kernel
theorem dX1_join_11 : decode cX1_join 11 = .ok (.getfield 33, 3) := by decide +kernel
theorem dX1_join_14 : decode cX1_join 14 = .ok (.aload_n 3, 1) := by decide +kernel
theorem dX1_join_15 : decode cX1_join 15 = .ok (.invokevirtual 67, 3) := by decide +kernel
theorem dX1_join_18 : decode cX1_join 18 = .ok (.aload_n 0, 1) := by decide +kernel
theorem dX1_join_19 : decode cX1_join 19 = .ok (.aload_n 0, 1) := by decide +kernel
theorem dX1_join_20 : decode cX1_join 20 = .ok (.getfield 36, 3) := by decide +kernel
theorem dX1_join_23 : decode cX1_join 23 = .ok (.aload_n 0, 1) := by decide +kernel
theorem dX1_join_24 : decode cX1_join 24 = .ok (.getfield 29, 3) := by decide +kernel
theorem dX1_join_27 : decode cX1_join 27 = .ok (.aload_n 0, 1) := by decide +kernel
theorem dX1_join_28 : decode cX1_join 28 = .ok (.getfield 33, 3) := by decide +kernel
theorem dX1_join_31 : decode cX1_join 31 = .ok (.invokevirtual 71, 3) := by decide +kernel
theorem dX1_join_34 : decode cX1_join 34 = .ok (.aload_n 0, 1) := by decide +kernel
theorem dX1_join_35 : decode cX1_join 35 = .ok (.aload_n 1, 1) := by decide +kernel
theorem dX1_join_36 : decode cX1_join 36 = .ok (.aload_n 0, 1) := by decide +kernel
theorem dX1_join_37 : decode cX1_join 37 = .ok (.getfield 36, 3) := by decide +kernel
theorem dX1_join_40 : decode cX1_join 40 = .ok (.invokevirtual 75, 3) := by decide +kernel
theorem dX1_join_43 : decode cX1_join 43 = .ok (.return_, 1) := by decide +kernel
theorem dX1_pairOf_0 : decode cX1_pairOf 0 = .ok (.aload_n 0, 1) := by decide +kernel
theorem dX1_pairOf_1 : decode cX1_pairOf 1 = .ok (.getfield 39, 3) := by decide +kernel
theorem dX1_pairOf_4 : decode cX1_pairOf 4 = .ok (.iload_n 1, 1) := by decide +kernel
theorem dX1_pairOf_5 : decode cX1_pairOf 5 = .ok (.invokevirtual 59, 3) := by decide +kernel
theorem dX1_pairOf_8 : decode cX1_pairOf 8 = .ok (.iload_n 2, 1) := by decide +kernel
theorem dX1_pairOf_9 : decode cX1_pairOf 9 = .ok (.iload_n 3, 1) := by decide +kernel
theorem dX1_pairOf_10 : decode cX1_pairOf 10 = .ok (.if_icmp .ge 16, 3) := by decide +kernel
theorem dX1_pairOf_13 : decode cX1_pairOf 13 = .ok (.aload_n 0, 1) := by decide +kernel
theorem dX1_pairOf_14 : decode cX1_pairOf 14 = .ok (.getfield 39, 3) := by decide +kernel
theorem dX1_pairOf_17 : decode cX1_pairOf 17 = .ok (.getfield 56, 3) := by decide +kernel
theorem dX1_pairOf_20 : decode cX1_pairOf 20 = .ok (.iload_n 3, 1) := by decide +kernel
theorem dX1_pairOf_21 : decode cX1_pairOf 21 = .ok (.iload_n 2, 1) := by decide +kernel
theorem dX1_pairOf_22 : decode cX1_pairOf 22 = .ok (.iastore, 1) := by decide +kernel
theorem dX1_pairOf_23 : decode cX1_pairOf 23 = .ok (.goto 13, 3) := by decide +kernel
theorem dX1_pairOf_26 : decode cX1_pairOf 26 = .ok (.aload_n 0, 1) := by decide +kernel
theorem dX1_pairOf_27 : decode cX1_pairOf 27 = .ok (.getfield 39, 3) := by decide +kernel
theorem dX1_pairOf_30 : decode cX1_pairOf 30 = .ok (.getfield 56, 3) := by decide +kernel
theorem dX1_pairOf_33 : decode cX1_pairOf 33 = .ok (.iload_n 2, 1) := by decide +kernel
theorem dX1_pairOf_34 : decode cX1_pairOf 34 = .ok (.iload_n 3, 1) := by decide +kernel
theorem dX1_pairOf_35 : decode cX1_pairOf 35 = .ok (.iastore, 1) := by decide +kernel
theorem dX1_pairOf_36 : decode cX1_pairOf 36 = .ok (.aload_n 0, 1) := by decide +kernel
theorem dX1_pairOf_37 : decode cX1_pairOf 37 = .ok (.getfield 39, 3) := by decide +kernel
theorem dX1_pairOf_40 : decode cX1_pairOf 40 = .ok (.areturn, 1) := by decide +kernel
theorem dX1_complement_0 : decode cX1_complement 0 = .ok (.iconst 0, 1) := by decide +kernel
theorem dX1_complement_1 : decode cX1_complement 1 = .ok (.istore_n 3, 1) := by decide +kernel
theorem dX1_complement_2 : decode cX1_complement 2 = .ok (.iload_n 3, 1) := by decide +kernel
theorem dX1_complement_3 : decode cX1_complement 3 = .ok (.aload_n 2, 1) := by decide +kernel
theorem dX1_complement_4 : decode cX1_complement 4 = .ok (.getfield 48, 3) := by decide +kernel
theorem dX1_complement_7 : decode cX1_complement 7 = .ok (.if_icmp .ge 27, 3) := by decide +kernel
theorem dX1_complement_10 : decode cX1_complement 10 = .ok (.aload_n 0, 1) := by decide +kernel
theorem dX1_complement_11 : decode cX1_complement 11 = .ok (.getfield 9, 3) := by decide +kernel
theorem dX1_complement_14 : decode cX1_complement 14 = .ok (.iload_n 3, 1) := by decide +kernel
theorem dX1_complement_15 : decode cX1_complement 15 = .ok (.aload_n 2, 1) := by decide +kernel
theorem dX1_complement_16 : decode cX1_complement 16 = .ok (.iload_n 3, 1) := by decide +kernel
theorem dX1_complement_17 : decode cX1_complement 17 = .ok (.aload_n 2, 1) := by decide +kernel
theorem dX1_complement_18 : decode cX1_complement 18 = .ok (.getfield 48, 3) := by decide +kernel
theorem dX1_complement_21 : decode cX1_complement 21 = .ok (.invokestatic 78, 3) := by decide +kernel
theorem dX1_complement_24 : decode cX1_complement 24 = .ok (.invokevirtual 82, 3) := by decide +kernel
theorem dX1_complement_27 : decode cX1_complement 27 = .ok (.iastore, 1) := by decide +kernel
theorem dX1_complement_28 : decode cX1_complement 28 = .ok (.iinc 3 1, 3) := by decide +kernel
theorem dX1_complement_31 : decode cX1_complement 31 = .ok (.goto (-29), 3) := by decide +kernel
theorem dX1_complement_34 : decode cX1_complement 34 = .ok (.aload_n 0, 1) := by decide +kernel
theorem dX1_complement_35 : decode cX1_complement 35 = .ok (.aload_n 1, 1) := by decide +kernel
theorem dX1_complement_36 : decode cX1_complement 36 = .ok (.aload_n 2, 1) := by decide +kernel
theorem dX1_complement_37 : decode cX1_complement 37 = .ok (.getfield 48, 3) := by decide +kernel
theorem dX1_complement_40 : decode cX1_complement 40 = .ok (.invokevirtual 86, 3) := by decide +kernel
theorem dX1_complement_43 : decode cX1_complement 43 = .ok (.return_, 1) := by decide +kernel
theorem dX1_uncomplement_0 : decode cX1_uncomplement 0 = .ok (.iconst 0, 1) := by decide +kernel
theorem dX1_uncomplement_1 : decode cX1_uncomplement 1 = .ok (.istore_n 3, 1) := by decide +kernel
theorem dX1_uncomplement_2 : decode cX1_uncomplement 2 = .ok (.iload_n 3, 1) := by decide +kernel
theorem dX1_uncomplement_3 : decode cX1_uncomplement 3 = .ok (.aload_n 2, 1) := by decide +kernel
theorem dX1_uncomplement_4 : decode cX1_uncomplement 4 = .ok (.getfield 48, 3) := by decide +kernel
theorem dX1_uncomplement_7 : decode cX1_uncomplement 7 = .ok (.if_icmp .ge 27, 3) := by decide +kernel
theorem dX1_uncomplement_10 : decode cX1_uncomplement 10 = .ok (.aload_n 0, 1) := by decide +kernel
theorem dX1_uncomplement_11 : decode cX1_uncomplement 11 = .ok (.getfield 9, 3) := by decide +kernel
theorem dX1_uncomplement_14 : decode cX1_uncomplement 14 = .ok (.iload_n 3, 1) := by decide +kernel
theorem dX1_uncomplement_15 : decode cX1_uncomplement 15 = .ok (.aload_n 2, 1) := by decide +kernel
theorem dX1_uncomplement_16 : decode cX1_uncomplement 16 = .ok (.iload_n 3, 1) := by decide +kernel
theorem dX1_uncomplement_17 : decode cX1_uncomplement 17 = .ok (.invokevirtual 82, 3) := by decide +kernel
theorem dX1_uncomplement_20 : decode cX1_uncomplement 20 = .ok (.aload_n 2, 1) := by decide +kernel
theorem dX1_uncomplement_21 : decode cX1_uncomplement 21 = .ok (.getfield 48, 3) := by decide +kernel
theorem dX1_uncomplement_24 : decode cX1_uncomplement 24 = .ok (.invokestatic 78, 3) := by decide +kernel
theorem dX1_uncomplement_27 : decode cX1_uncomplement 27 = .ok (.iastore, 1) := by decide +kernel
theorem dX1_uncomplement_28 : decode cX1_uncomplement 28 = .ok (.iinc 3 1, 3) := by decide +kernel
theorem dX1_uncomplement_31 : decode cX1_uncomplement 31 = .ok (.goto (-29), 3) := by decide +kernel
theorem dX1_uncomplement_34 : decode cX1_uncomplement 34 = .ok (.aload_n 0, 1) := by decide +kernel
theorem dX1_uncomplement_35 : decode cX1_uncomplement 35 = .ok (.aload_n 1, 1) := by decide +kernel
theorem dX1_uncomplement_36 : decode cX1_uncomplement 36 = .ok (.aload_n 2, 1) := by decide +kernel
theorem dX1_uncomplement_37 : decode cX1_uncomplement 37 = .ok (.getfield 48, 3) := by decide +kernel
theorem dX1_uncomplement_40 : decode cX1_uncomplement 40 = .ok (.invokevirtual 86, 3) := by decide +kernel
theorem dX1_uncomplement_43 : decode cX1_uncomplement 43 = .ok (.return_, 1) := by decide +kernel
theorem dX1_complementInside_0 : decode cX1_complementInside 0 = .ok (.iconst 0, 1) := by decide +kernel
theorem dX1_complementInside_1 : decode cX1_complementInside 1 = .ok (.istore 4, 2) := by decide +kernel
theorem dX1_complementInside_3 : decode cX1_complementInside 3 = .ok (.iload 4, 2) := by decide +kernel
theorem dX1_complementInside_5 : decode cX1_complementInside 5 = .ok (.aload_n 2, 1) := by decide +kernel
theorem dX1_complementInside_6 : decode cX1_complementInside 6 = .ok (.getfield 48, 3) := by decide +kernel
theorem dX1_complementInside_9 : decode cX1_complementInside 9 = .ok (.if_icmp .ge 26, 3) := by decide +kernel
theorem dX1_complementInside_12 : decode cX1_complementInside 12 = .ok (.aload_n 0, 1) := by decide +kernel
theorem dX1_complementInside_13 : decode cX1_complementInside 13 = .ok (.getfield 9, 3) := by decide +kernel
theorem dX1_complementInside_16 : decode cX1_complementInside 16 = .ok (.iload 4, 2) := by decide +kernel
theorem dX1_complementInside_18 : decode cX1_complementInside 18 = .ok (.aload_n 2, 1) := by decide +kernel
theorem dX1_complementInside_19 : decode cX1_complementInside 19 = .ok (.aload_n 3, 1) := by decide +kernel
theorem dX1_complementInside_20 : decode cX1_complementInside 20 = .ok (.iload 4, 2) := by decide +kernel
theorem dX1_complementInside_22 : decode cX1_complementInside 22 = .ok (.invokevirtual 90, 3) := by decide +kernel
theorem dX1_complementInside_25 : decode cX1_complementInside 25 = .ok (.invokevirtual 82, 3) := by decide +kernel
theorem dX1_complementInside_28 : decode cX1_complementInside 28 = .ok (.iastore, 1) := by decide +kernel
theorem dX1_complementInside_29 : decode cX1_complementInside 29 = .ok (.iinc 4 1, 3) := by decide +kernel
theorem dX1_complementInside_32 : decode cX1_complementInside 32 = .ok (.goto (-29), 3) := by decide +kernel
theorem dX1_complementInside_35 : decode cX1_complementInside 35 = .ok (.aload_n 0, 1) := by decide +kernel
theorem dX1_complementInside_36 : decode cX1_complementInside 36 = .ok (.aload_n 1, 1) := by decide +kernel
theorem dX1_complementInside_37 : decode cX1_complementInside 37 = .ok (.aload_n 2, 1) := by decide +kernel
theorem dX1_complementInside_38 : decode cX1_complementInside 38 = .ok (.getfield 48, 3) := by decide +kernel
theorem dX1_complementInside_41 : decode cX1_complementInside 41 = .ok (.invokevirtual 86, 3) := by decide +kernel
theorem dX1_complementInside_44 : decode cX1_complementInside 44 = .ok (.return_, 1) := by decide +kernel
theorem dX1_turn_0 : decode cX1_turn 0 = .ok (.iconst 0, 1) := by decide +kernel
theorem dX1_turn_1 : decode cX1_turn 1 = .ok (.istore_n 3, 1) := by decide +kernel
theorem dX1_turn_2 : decode cX1_turn 2 = .ok (.iload_n 3, 1) := by decide +kernel
theorem dX1_turn_3 : decode cX1_turn 3 = .ok (.aload_n 2, 1) := by decide +kernel
theorem dX1_turn_4 : decode cX1_turn 4 = .ok (.getfield 48, 3) := by decide +kernel
theorem dX1_turn_7 : decode cX1_turn 7 = .ok (.if_icmp .ge 34, 3) := by decide +kernel
theorem dX1_turn_10 : decode cX1_turn 10 = .ok (.aload_n 0, 1) := by decide +kernel
theorem dX1_turn_11 : decode cX1_turn 11 = .ok (.getfield 9, 3) := by decide +kernel
theorem dX1_turn_14 : decode cX1_turn 14 = .ok (.iload_n 3, 1) := by decide +kernel
theorem dX1_turn_15 : decode cX1_turn 15 = .ok (.aload_n 2, 1) := by decide +kernel
theorem dX1_turn_16 : decode cX1_turn 16 = .ok (.getfield 48, 3) := by decide +kernel
theorem dX1_turn_19 : decode cX1_turn 19 = .ok (.invokestatic 78, 3) := by decide +kernel
theorem dX1_turn_22 : decode cX1_turn 22 = .ok (.aload_n 2, 1) := by decide +kernel
theorem dX1_turn_23 : decode cX1_turn 23 = .ok (.iload_n 3, 1) := by decide +kernel
theorem dX1_turn_24 : decode cX1_turn 24 = .ok (.invokevirtual 90, 3) := by decide +kernel
theorem dX1_turn_27 : decode cX1_turn 27 = .ok (.aload_n 2, 1) := by decide +kernel
theorem dX1_turn_28 : decode cX1_turn 28 = .ok (.getfield 48, 3) := by decide +kernel
theorem dX1_turn_31 : decode cX1_turn 31 = .ok (.invokestatic 78, 3) := by decide +kernel
theorem dX1_turn_34 : decode cX1_turn 34 = .ok (.iastore, 1) := by decide +kernel
theorem dX1_turn_35 : decode cX1_turn 35 = .ok (.iinc 3 1, 3) := by decide +kernel
theorem dX1_turn_38 : decode cX1_turn 38 = .ok (.goto (-36), 3) := by decide +kernel
theorem dX1_turn_41 : decode cX1_turn 41 = .ok (.aload_n 0, 1) := by decide +kernel
theorem dX1_turn_42 : decode cX1_turn 42 = .ok (.aload_n 1, 1) := by decide +kernel
theorem dX1_turn_43 : decode cX1_turn 43 = .ok (.aload_n 2, 1) := by decide +kernel
theorem dX1_turn_44 : decode cX1_turn 44 = .ok (.getfield 48, 3) := by decide +kernel
theorem dX1_turn_47 : decode cX1_turn 47 = .ok (.invokevirtual 86, 3) := by decide +kernel
theorem dX1_turn_50 : decode cX1_turn 50 = .ok (.return_, 1) := by decide +kernel
theorem dX1_after_0 : decode cX1_after 0 = .ok (.iload_n 0, 1) := by decide +kernel
theorem dX1_after_1 : decode cX1_after 1 = .ok (.iconst 1, 1) := by decide +kernel
theorem dX1_after_2 : decode cX1_after 2 = .ok (.iadd, 1) := by decide +kernel
theorem dX1_after_3 : decode cX1_after 3 = .ok (.iload_n 1, 1) := by decide +kernel
theorem dX1_after_4 : decode cX1_after 4 = .ok (.if_icmp .ge 9, 3) := by decide +kernel
theorem dX1_after_7 : decode cX1_after 7 = .ok (.iload_n 0, 1) := by decide +kernel
theorem dX1_after_8 : decode cX1_after 8 = .ok (.iconst 1, 1) := by decide +kernel
theorem dX1_after_9 : decode cX1_after 9 = .ok (.iadd, 1) := by decide +kernel
theorem dX1_after_10 : decode cX1_after 10 = .ok (.goto 4, 3) := by decide +kernel
theorem dX1_after_13 : decode cX1_after 13 = .ok (.iconst 0, 1) := by decide +kernel
theorem dX1_after_14 : decode cX1_after 14 = .ok (.ireturn, 1) := by decide +kernel
theorem dX1_takeCycles_0 : decode cX1_takeCycles 0 = .ok (.aload_n 1, 1) := by decide +kernel
theorem dX1_takeCycles_1 : decode cX1_takeCycles 1 = .ok (.iload_n 2, 1) := by decide +kernel
theorem dX1_takeCycles_2 : decode cX1_takeCycles 2 = .ok (.invokevirtual 59, 3) := by decide +kernel
theorem dX1_takeCycles_5 : decode cX1_takeCycles 5 = .ok (.iconst 0, 1) := by decide +kernel
theorem dX1_takeCycles_6 : decode cX1_takeCycles 6 = .ok (.istore_n 3, 1) := by decide +kernel
theorem dX1_takeCycles_7 : decode cX1_takeCycles 7 = .ok (.iload_n 3, 1) := by decide +kernel
theorem dX1_takeCycles_8 : decode cX1_takeCycles 8 = .ok (.iload_n 2, 1) := by decide +kernel
theorem dX1_takeCycles_9 : decode cX1_takeCycles 9 = .ok (.if_icmp .ge 63, 3) := by decide +kernel
theorem dX1_takeCycles_12 : decode cX1_takeCycles 12 = .ok (.aload_n 1, 1) := by decide +kernel
theorem dX1_takeCycles_13 : decode cX1_takeCycles 13 = .ok (.iload_n 3, 1) := by decide +kernel
theorem dX1_takeCycles_14 : decode cX1_takeCycles 14 = .ok (.invokevirtual 52, 3) := by decide +kernel
theorem dX1_takeCycles_17 : decode cX1_takeCycles 17 = .ok (.ifCond .eq 49, 3) := by decide +kernel
theorem dX1_takeCycles_20 : decode cX1_takeCycles 20 = .ok (.aload_n 0, 1) := by decide +kernel
theorem dX1_takeCycles_21 : decode cX1_takeCycles 21 = .ok (.getfield 9, 3) := by decide +kernel
theorem dX1_takeCycles_24 : decode cX1_takeCycles 24 = .ok (.iload_n 3, 1) := by decide +kernel
theorem dX1_takeCycles_25 : decode cX1_takeCycles 25 = .ok (.iaload, 1) := by decide +kernel
theorem dX1_takeCycles_26 : decode cX1_takeCycles 26 = .ok (.istore 4, 2) := by decide +kernel
theorem dX1_takeCycles_28 : decode cX1_takeCycles 28 = .ok (.iconst 1, 1) := by decide +kernel
theorem dX1_takeCycles_29 : decode cX1_takeCycles 29 = .ok (.istore 5, 2) := by decide +kernel
theorem dX1_takeCycles_31 : decode cX1_takeCycles 31 = .ok (.iload 5, 2) := by decide +kernel
theorem dX1_takeCycles_33 : decode cX1_takeCycles 33 = .ok (.iload_n 2, 1) := by decide +kernel
theorem dX1_takeCycles_34 : decode cX1_takeCycles 34 = .ok (.if_icmp .ge 32, 3) := by decide +kernel
theorem dX1_takeCycles_37 : decode cX1_takeCycles 37 = .ok (.iload 4, 2) := by decide +kernel
theorem dX1_takeCycles_39 : decode cX1_takeCycles 39 = .ok (.iload_n 3, 1) := by decide +kernel
theorem dX1_takeCycles_40 : decode cX1_takeCycles 40 = .ok (.if_icmp .eq 26, 3) := by decide +kernel
theorem dX1_takeCycles_43 : decode cX1_takeCycles 43 = .ok (.aload_n 1, 1) := by decide +kernel
theorem dX1_takeCycles_44 : decode cX1_takeCycles 44 = .ok (.getfield 56, 3) := by decide +kernel
theorem dX1_takeCycles_47 : decode cX1_takeCycles 47 = .ok (.iload 4, 2) := by decide +kernel
theorem dX1_takeCycles_49 : decode cX1_takeCycles 49 = .ok (.iload_n 3, 1) := by decide +kernel
theorem dX1_takeCycles_50 : decode cX1_takeCycles 50 = .ok (.iastore, 1) := by decide +kernel
theorem dX1_takeCycles_51 : decode cX1_takeCycles 51 = .ok (.aload_n 0, 1) := by decide +kernel
theorem dX1_takeCycles_52 : decode cX1_takeCycles 52 = .ok (.getfield 9, 3) := by decide +kernel
theorem dX1_takeCycles_55 : decode cX1_takeCycles 55 = .ok (.iload 4, 2) := by decide +kernel
theorem dX1_takeCycles_57 : decode cX1_takeCycles 57 = .ok (.iaload, 1) := by decide +kernel
theorem dX1_takeCycles_58 : decode cX1_takeCycles 58 = .ok (.istore 4, 2) := by decide +kernel
theorem dX1_takeCycles_60 : decode cX1_takeCycles 60 = .ok (.iinc 5 1, 3) := by decide +kernel
theorem dX1_takeCycles_63 : decode cX1_takeCycles 63 = .ok (.goto (-32), 3) := by decide +kernel
theorem dX1_takeCycles_66 : decode cX1_takeCycles 66 = .ok (.iinc 3 1, 3) := by decide +kernel
theorem dX1_takeCycles_69 : decode cX1_takeCycles 69 = .ok (.goto (-62), 3) := by decide +kernel
theorem dX1_takeCycles_72 : decode cX1_takeCycles 72 = .ok (.return_, 1) := by decide +kernel
theorem dX1_coversOf_0 : decode cX1_coversOf 0 = .ok (.aload_n 0, 1) := by decide +kernel
theorem dX1_coversOf_1 : decode cX1_coversOf 1 = .ok (.aload_n 0, 1) := by decide +kernel
theorem dX1_coversOf_2 : decode cX1_coversOf 2 = .ok (.getfield 29, 3) := by decide +kernel
theorem dX1_coversOf_5 : decode cX1_coversOf 5 = .ok (.aload_n 1, 1) := by decide +kernel
theorem dX1_coversOf_6 : decode cX1_coversOf 6 = .ok (.invokevirtual 67, 3) := by decide +kernel
theorem dX1_coversOf_9 : decode cX1_coversOf 9 = .ok (.aload_n 0, 1) := by decide +kernel
theorem dX1_coversOf_10 : decode cX1_coversOf 10 = .ok (.getfield 29, 3) := by decide +kernel
theorem dX1_coversOf_13 : decode cX1_coversOf 13 = .ok (.invokevirtual 93, 3) := by decide +kernel
theorem dX1_coversOf_16 : decode cX1_coversOf 16 = .ok (.ireturn, 1) := by decide +kernel
theorem dX1_coverOf_0 : decode cX1_coverOf 0 = .ok (.iconst 0, 1) := by decide +kernel
theorem dX1_coverOf_1 : decode cX1_coverOf 1 = .ok (.istore_n 3, 1) := by decide +kernel
theorem dX1_coverOf_2 : decode cX1_coverOf 2 = .ok (.iconst 1, 1) := by decide +kernel
theorem dX1_coverOf_3 : decode cX1_coverOf 3 = .ok (.istore 4, 2) := by decide +kernel
theorem dX1_coverOf_5 : decode cX1_coverOf 5 = .ok (.iload 4, 2) := by decide +kernel
theorem dX1_coverOf_7 : decode cX1_coverOf 7 = .ok (.aload_n 1, 1) := by decide +kernel
theorem dX1_coverOf_8 : decode cX1_coverOf 8 = .ok (.getfield 48, 3) := by decide +kernel
theorem dX1_coverOf_11 : decode cX1_coverOf 11 = .ok (.if_icmp .ge 72, 3) := by decide +kernel
theorem dX1_coverOf_14 : decode cX1_coverOf 14 = .ok (.iconst 0, 1) := by decide +kernel
theorem dX1_coverOf_15 : decode cX1_coverOf 15 = .ok (.istore 5, 2) := by decide +kernel
theorem dX1_coverOf_17 : decode cX1_coverOf 17 = .ok (.iload 5, 2) := by decide +kernel
theorem dX1_coverOf_19 : decode cX1_coverOf 19 = .ok (.iload 4, 2) := by decide +kernel
theorem dX1_coverOf_21 : decode cX1_coverOf 21 = .ok (.if_icmp .ge 56, 3) := by decide +kernel
theorem dX1_coverOf_24 : decode cX1_coverOf 24 = .ok (.aload_n 1, 1) := by decide +kernel
theorem dX1_coverOf_25 : decode cX1_coverOf 25 = .ok (.iload 5, 2) := by decide +kernel
theorem dX1_coverOf_27 : decode cX1_coverOf 27 = .ok (.invokevirtual 52, 3) := by decide +kernel
theorem dX1_coverOf_30 : decode cX1_coverOf 30 = .ok (.ifCond .eq 41, 3) := by decide +kernel
theorem dX1_coverOf_33 : decode cX1_coverOf 33 = .ok (.aload_n 1, 1) := by decide +kernel
theorem dX1_coverOf_34 : decode cX1_coverOf 34 = .ok (.iload 4, 2) := by decide +kernel
theorem dX1_coverOf_36 : decode cX1_coverOf 36 = .ok (.invokevirtual 52, 3) := by decide +kernel
theorem dX1_coverOf_39 : decode cX1_coverOf 39 = .ok (.ifCond .eq 32, 3) := by decide +kernel
theorem dX1_coverOf_42 : decode cX1_coverOf 42 = .ok (.aload_n 0, 1) := by decide +kernel
theorem dX1_coverOf_43 : decode cX1_coverOf 43 = .ok (.aload_n 1, 1) := by decide +kernel
theorem dX1_coverOf_44 : decode cX1_coverOf 44 = .ok (.iload 5, 2) := by decide +kernel
theorem dX1_coverOf_46 : decode cX1_coverOf 46 = .ok (.iload 4, 2) := by decide +kernel
theorem dX1_coverOf_48 : decode cX1_coverOf 48 = .ok (.invokevirtual 97, 3) := by decide +kernel
theorem dX1_coverOf_51 : decode cX1_coverOf 51 = .ok (.ifCond .eq 20, 3) := by decide +kernel
theorem dX1_coverOf_54 : decode cX1_coverOf 54 = .ok (.iload_n 3, 1) := by decide +kernel
theorem dX1_coverOf_55 : decode cX1_coverOf 55 = .ok (.iload_n 2, 1) := by decide +kernel
theorem dX1_coverOf_56 : decode cX1_coverOf 56 = .ok (.if_icmp .ne 12, 3) := by decide +kernel
theorem dX1_coverOf_59 : decode cX1_coverOf 59 = .ok (.aload_n 0, 1) := by decide +kernel
theorem dX1_coverOf_60 : decode cX1_coverOf 60 = .ok (.aload_n 0, 1) := by decide +kernel
theorem dX1_coverOf_61 : decode cX1_coverOf 61 = .ok (.getfield 42, 3) := by decide +kernel
theorem dX1_coverOf_64 : decode cX1_coverOf 64 = .ok (.invokevirtual 101, 3) := by decide +kernel
theorem dX1_coverOf_67 : decode cX1_coverOf 67 = .ok (.ireturn, 1) := by decide +kernel
theorem dX1_coverOf_68 : decode cX1_coverOf 68 = .ok (.iinc 3 1, 3) := by decide +kernel
theorem dX1_coverOf_71 : decode cX1_coverOf 71 = .ok (.iinc 5 1, 3) := by decide +kernel
theorem dX1_coverOf_74 : decode cX1_coverOf 74 = .ok (.goto (-57), 3) := by decide +kernel
theorem dX1_coverOf_77 : decode cX1_coverOf 77 = .ok (.iinc 4 1, 3) := by decide +kernel
theorem dX1_coverOf_80 : decode cX1_coverOf 80 = .ok (.goto (-75), 3) := by decide +kernel
theorem dX1_coverOf_83 : decode cX1_coverOf 83 = .ok (.iconst (-1), 1) := by decide +kernel
theorem dX1_coverOf_84 : decode cX1_coverOf 84 = .ok (.ireturn, 1) := by decide +kernel
theorem dX1_unites_0 : decode cX1_unites 0 = .ok (.aload_n 0, 1) := by decide +kernel
theorem dX1_unites_1 : decode cX1_unites 1 = .ok (.aload_n 0, 1) := by decide +kernel
theorem dX1_unites_2 : decode cX1_unites 2 = .ok (.getfield 42, 3) := by decide +kernel
theorem dX1_unites_5 : decode cX1_unites 5 = .ok (.aload_n 1, 1) := by decide +kernel
theorem dX1_unites_6 : decode cX1_unites 6 = .ok (.aload_n 0, 1) := by decide +kernel
theorem dX1_unites_7 : decode cX1_unites 7 = .ok (.aload_n 1, 1) := by decide +kernel
theorem dX1_unites_8 : decode cX1_unites 8 = .ok (.getfield 48, 3) := by decide +kernel
theorem dX1_unites_11 : decode cX1_unites 11 = .ok (.iload_n 2, 1) := by decide +kernel
theorem dX1_unites_12 : decode cX1_unites 12 = .ok (.iload_n 3, 1) := by decide +kernel
theorem dX1_unites_13 : decode cX1_unites 13 = .ok (.invokevirtual 105, 3) := by decide +kernel
theorem dX1_unites_16 : decode cX1_unites 16 = .ok (.invokevirtual 109, 3) := by decide +kernel
theorem dX1_unites_19 : decode cX1_unites 19 = .ok (.aload_n 0, 1) := by decide +kernel
theorem dX1_unites_20 : decode cX1_unites 20 = .ok (.getfield 42, 3) := by decide +kernel
theorem dX1_unites_23 : decode cX1_unites 23 = .ok (.invokevirtual 112, 3) := by decide +kernel
theorem dX1_unites_26 : decode cX1_unites 26 = .ok (.aload_n 1, 1) := by decide +kernel
theorem dX1_unites_27 : decode cX1_unites 27 = .ok (.invokevirtual 112, 3) := by decide +kernel
theorem dX1_unites_30 : decode cX1_unites 30 = .ok (.iconst 1, 1) := by decide +kernel
theorem dX1_unites_31 : decode cX1_unites 31 = .ok (.iadd, 1) := by decide +kernel
theorem dX1_unites_32 : decode cX1_unites 32 = .ok (.if_icmp .ne 7, 3) := by decide +kernel
theorem dX1_unites_35 : decode cX1_unites 35 = .ok (.iconst 1, 1) := by decide +kernel
theorem dX1_unites_36 : decode cX1_unites 36 = .ok (.goto 4, 3) := by decide +kernel
theorem dX1_unites_39 : decode cX1_unites 39 = .ok (.iconst 0, 1) := by decide +kernel
theorem dX1_unites_40 : decode cX1_unites 40 = .ok (.ireturn, 1) := by decide +kernel
theorem dX2_init_0 : decode cX2_init 0 = .ok (.aload_n 0, 1) := by decide +kernel
theorem dX2_init_1 : decode cX2_init 1 = .ok (.invokespecial 3, 3) := by decide +kernel
theorem dX2_init_4 : decode cX2_init 4 = .ok (.aload_n 0, 1) := by decide +kernel
theorem dX2_init_5 : decode cX2_init 5 = .ok (.bipush 120, 2) := by decide +kernel
theorem dX2_init_7 : decode cX2_init 7 = .ok (.newarray .int, 2) := by decide +kernel
theorem dX2_init_9 : decode cX2_init 9 = .ok (.putfield 9, 3) := by decide +kernel
theorem dX2_init_12 : decode cX2_init 12 = .ok (.aload_n 0, 1) := by decide +kernel
theorem dX2_init_13 : decode cX2_init 13 = .ok (.iconst 0, 1) := by decide +kernel
theorem dX2_init_14 : decode cX2_init 14 = .ok (.putfield 15, 3) := by decide +kernel
theorem dX2_init_17 : decode cX2_init 17 = .ok (.aload_n 0, 1) := by decide +kernel
theorem dX2_init_18 : decode cX2_init 18 = .ok (.iconst 0, 1) := by decide +kernel
theorem dX2_init_19 : decode cX2_init 19 = .ok (.putfield 19, 3) := by decide +kernel
theorem dX2_init_22 : decode cX2_init 22 = .ok (.aload_n 0, 1) := by decide +kernel
theorem dX2_init_23 : decode cX2_init 23 = .ok (.iconst 0, 1) := by decide +kernel
theorem dX2_init_24 : decode cX2_init 24 = .ok (.putfield 22, 3) := by decide +kernel
theorem dX2_init_27 : decode cX2_init 27 = .ok (.aload_n 0, 1) := by decide +kernel
theorem dX2_init_28 : decode cX2_init 28 = .ok (.bipush 40, 2) := by decide +kernel
theorem dX2_init_30 : decode cX2_init 30 = .ok (.newarray .int, 2) := by decide +kernel
theorem dX2_init_32 : decode cX2_init 32 = .ok (.putfield 25, 3) := by decide +kernel
theorem dX2_init_35 : decode cX2_init 35 = .ok (.aload_n 0, 1) := by decide +kernel
theorem dX2_init_36 : decode cX2_init 36 = .ok (.bipush 40, 2) := by decide +kernel
theorem dX2_init_38 : decode cX2_init 38 = .ok (.iconst 3, 1) := by decide +kernel
theorem dX2_init_39 : decode cX2_init 39 = .ok (.multianewarray 28 2, 4) := by decide +kernel
theorem dX2_init_43 : decode cX2_init 43 = .ok (.putfield 30, 3) := by decide +kernel
theorem dX2_init_46 : decode cX2_init 46 = .ok (.return_, 1) := by decide +kernel
theorem dX2_append_0 : decode cX2_append 0 = .ok (.aload_n 0, 1) := by decide +kernel
theorem dX2_append_1 : decode cX2_append 1 = .ok (.getfield 15, 3) := by decide +kernel
theorem dX2_append_4 : decode cX2_append 4 = .ok (.bipush 120, 2) := by decide +kernel
theorem dX2_append_6 : decode cX2_append 6 = .ok (.if_icmp .ge 23, 3) := by decide +kernel
theorem dX2_append_9 : decode cX2_append 9 = .ok (.aload_n 0, 1) := by decide +kernel
theorem dX2_append_10 : decode cX2_append 10 = .ok (.getfield 9, 3) := by decide +kernel
theorem dX2_append_13 : decode cX2_append 13 = .ok (.aload_n 0, 1) := by decide +kernel
theorem dX2_append_14 : decode cX2_append 14 = .ok (.getfield 15, 3) := by decide +kernel
theorem dX2_append_17 : decode cX2_append 17 = .ok (.iload_n 1, 1) := by decide +kernel
theorem dX2_append_18 : decode cX2_append 18 = .ok (.iastore, 1) := by decide +kernel
theorem dX2_append_19 : decode cX2_append 19 = .ok (.aload_n 0, 1) := by decide +kernel
theorem dX2_append_20 : decode cX2_append 20 = .ok (.dup, 1) := by decide +kernel
theorem dX2_append_21 : decode cX2_append 21 = .ok (.getfield 15, 3) := by decide +kernel
theorem dX2_append_24 : decode cX2_append 24 = .ok (.iconst 1, 1) := by decide +kernel
theorem dX2_append_25 : decode cX2_append 25 = .ok (.iadd, 1) := by decide +kernel
theorem dX2_append_26 : decode cX2_append 26 = .ok (.putfield 15, 3) := by decide +kernel
theorem dX2_append_29 : decode cX2_append 29 = .ok (.return_, 1) := by decide +kernel
theorem dX2_fault_0 : decode cX2_fault 0 = .ok (.aload_n 0, 1) := by decide +kernel
theorem dX2_fault_1 : decode cX2_fault 1 = .ok (.iconst 0, 1) := by decide +kernel
theorem dX2_fault_2 : decode cX2_fault 2 = .ok (.putfield 19, 3) := by decide +kernel
theorem dX2_fault_5 : decode cX2_fault 5 = .ok (.aload_n 0, 1) := by decide +kernel
theorem dX2_fault_6 : decode cX2_fault 6 = .ok (.iconst 0, 1) := by decide +kernel
theorem dX2_fault_7 : decode cX2_fault 7 = .ok (.putfield 22, 3) := by decide +kernel
theorem dX2_fault_10 : decode cX2_fault 10 = .ok (.aload_n 0, 1) := by decide +kernel
theorem dX2_fault_11 : decode cX2_fault 11 = .ok (.invokevirtual 33, 3) := by decide +kernel
theorem dX2_fault_14 : decode cX2_fault 14 = .ok (.iconst 0, 1) := by decide +kernel
theorem dX2_fault_15 : decode cX2_fault 15 = .ok (.istore_n 1, 1) := by decide +kernel
theorem dX2_fault_16 : decode cX2_fault 16 = .ok (.iload_n 1, 1) := by decide +kernel
theorem dX2_fault_17 : decode cX2_fault 17 = .ok (.bipush 40, 2) := by decide +kernel
theorem dX2_fault_19 : decode cX2_fault 19 = .ok (.if_icmp .gt 36, 3) := by decide +kernel
theorem dX2_fault_22 : decode cX2_fault 22 = .ok (.aload_n 0, 1) := by decide +kernel
theorem dX2_fault_23 : decode cX2_fault 23 = .ok (.getfield 19, 3) := by decide +kernel
theorem dX2_fault_26 : decode cX2_fault 26 = .ok (.aload_n 0, 1) := by decide +kernel
theorem dX2_fault_27 : decode cX2_fault 27 = .ok (.getfield 15, 3) := by decide +kernel
theorem dX2_fault_30 : decode cX2_fault 30 = .ok (.if_icmp .ge 25, 3) := by decide +kernel
theorem dX2_fault_33 : decode cX2_fault 33 = .ok (.aload_n 0, 1) := by decide +kernel
theorem dX2_fault_34 : decode cX2_fault 34 = .ok (.invokevirtual 36, 3) := by decide +kernel
theorem dX2_fault_37 : decode cX2_fault 37 = .ok (.ifCond .ne 8, 3) := by decide +kernel
theorem dX2_fault_40 : decode cX2_fault 40 = .ok (.aload_n 0, 1) := by decide +kernel
theorem dX2_fault_41 : decode cX2_fault 41 = .ok (.getfield 19, 3) := by decide +kernel
theorem dX2_fault_44 : decode cX2_fault 44 = .ok (.ireturn, 1) := by decide +kernel
theorem dX2_fault_45 : decode cX2_fault 45 = .ok (.aload_n 0, 1) := by decide +kernel
theorem dX2_fault_46 : decode cX2_fault 46 = .ok (.invokevirtual 33, 3) := by decide +kernel
theorem dX2_fault_49 : decode cX2_fault 49 = .ok (.iinc 1 1, 3) := by decide +kernel
theorem dX2_fault_52 : decode cX2_fault 52 = .ok (.goto (-36), 3) := by decide +kernel
theorem dX2_fault_55 : decode cX2_fault 55 = .ok (.aload_n 0, 1) := by decide +kernel
theorem dX2_fault_56 : decode cX2_fault 56 = .ok (.getfield 22, 3) := by decide +kernel
theorem dX2_fault_59 : decode cX2_fault 59 = .ok (.ifCond .le 7, 3) := by decide +kernel
theorem dX2_fault_62 : decode cX2_fault 62 = .ok (.iconst (-1), 1) := by decide +kernel
theorem dX2_fault_63 : decode cX2_fault 63 = .ok (.goto 7, 3) := by decide +kernel
theorem dX2_fault_66 : decode cX2_fault 66 = .ok (.aload_n 0, 1) := by decide +kernel
theorem dX2_fault_67 : decode cX2_fault 67 = .ok (.getfield 15, 3) := by decide +kernel
theorem dX2_fault_70 : decode cX2_fault 70 = .ok (.ireturn, 1) := by decide +kernel
theorem dX2_readsOrder_0 : decode cX2_readsOrder 0 = .ok (.aload_n 0, 1) := by decide +kernel
theorem dX2_readsOrder_1 : decode cX2_readsOrder 1 = .ok (.invokevirtual 40, 3) := by decide +kernel
theorem dX2_readsOrder_4 : decode cX2_readsOrder 4 = .ok (.istore_n 1, 1) := by decide +kernel
theorem dX2_readsOrder_5 : decode cX2_readsOrder 5 = .ok (.iload_n 1, 1) := by decide +kernel
theorem dX2_readsOrder_6 : decode cX2_readsOrder 6 = .ok (.invokestatic 44, 3) := by decide +kernel
theorem dX2_readsOrder_9 : decode cX2_readsOrder 9 = .ok (.istore_n 2, 1) := by decide +kernel
theorem dX2_readsOrder_10 : decode cX2_readsOrder 10 = .ok (.iload_n 2, 1) := by decide +kernel
theorem dX2_readsOrder_11 : decode cX2_readsOrder 11 = .ok (.ifCond .eq 12, 3) := by decide +kernel
theorem dX2_readsOrder_14 : decode cX2_readsOrder 14 = .ok (.aload_n 0, 1) := by decide +kernel
theorem dX2_readsOrder_15 : decode cX2_readsOrder 15 = .ok (.getfield 22, 3) := by decide +kernel
theorem dX2_readsOrder_18 : decode cX2_readsOrder 18 = .ok (.bipush 40, 2) := by decide +kernel
theorem dX2_readsOrder_20 : decode cX2_readsOrder 20 = .ok (.if_icmp .lt 5, 3) := by decide +kernel
theorem dX2_readsOrder_23 : decode cX2_readsOrder 23 = .ok (.iconst 0, 1) := by decide +kernel
theorem dX2_readsOrder_24 : decode cX2_readsOrder 24 = .ok (.ireturn, 1) := by decide +kernel
theorem dX2_readsOrder_25 : decode cX2_readsOrder 25 = .ok (.aload_n 0, 1) := by decide +kernel
theorem dX2_readsOrder_26 : decode cX2_readsOrder 26 = .ok (.dup, 1) := by decide +kernel
theorem dX2_readsOrder_27 : decode cX2_readsOrder 27 = .ok (.getfield 19, 3) := by decide +kernel
theorem dX2_readsOrder_30 : decode cX2_readsOrder 30 = .ok (.iconst 1, 1) := by decide +kernel
theorem dX2_readsOrder_31 : decode cX2_readsOrder 31 = .ok (.iadd, 1) := by decide +kernel
theorem dX2_readsOrder_32 : decode cX2_readsOrder 32 = .ok (.putfield 19, 3) := by decide +kernel
theorem dX2_readsOrder_35 : decode cX2_readsOrder 35 = .ok (.iconst 0, 1) := by decide +kernel
theorem dX2_readsOrder_36 : decode cX2_readsOrder 36 = .ok (.istore_n 3, 1) := by decide +kernel
theorem dX2_readsOrder_37 : decode cX2_readsOrder 37 = .ok (.iload_n 3, 1) := by decide +kernel
theorem dX2_readsOrder_38 : decode cX2_readsOrder 38 = .ok (.iload_n 2, 1) := by decide +kernel
theorem dX2_readsOrder_39 : decode cX2_readsOrder 39 = .ok (.if_icmp .ge 39, 3) := by decide +kernel
theorem dX2_readsOrder_42 : decode cX2_readsOrder 42 = .ok (.iload_n 1, 1) := by decide +kernel
theorem dX2_readsOrder_43 : decode cX2_readsOrder 43 = .ok (.bipush 120, 2) := by decide +kernel
theorem dX2_readsOrder_45 : decode cX2_readsOrder 45 = .ok (.if_icmp .ne 12, 3) := by decide +kernel
theorem dX2_readsOrder_48 : decode cX2_readsOrder 48 = .ok (.iload_n 3, 1) := by decide +kernel
theorem dX2_readsOrder_49 : decode cX2_readsOrder 49 = .ok (.iconst 1, 1) := by decide +kernel
theorem dX2_readsOrder_50 : decode cX2_readsOrder 50 = .ok (.if_icmp .ne 7, 3) := by decide +kernel
theorem dX2_readsOrder_53 : decode cX2_readsOrder 53 = .ok (.iconst 1, 1) := by decide +kernel
theorem dX2_readsOrder_54 : decode cX2_readsOrder 54 = .ok (.goto 4, 3) := by decide +kernel
theorem dX2_readsOrder_57 : decode cX2_readsOrder 57 = .ok (.iconst 0, 1) := by decide +kernel
theorem dX2_readsOrder_58 : decode cX2_readsOrder 58 = .ok (.istore 4, 2) := by decide +kernel
theorem dX2_readsOrder_60 : decode cX2_readsOrder 60 = .ok (.aload_n 0, 1) := by decide +kernel
theorem dX2_readsOrder_61 : decode cX2_readsOrder 61 = .ok (.iload_n 3, 1) := by decide +kernel
theorem dX2_readsOrder_62 : decode cX2_readsOrder 62 = .ok (.iload 4, 2) := by decide +kernel
theorem dX2_readsOrder_64 : decode cX2_readsOrder 64 = .ok (.invokevirtual 48, 3) := by decide +kernel
theorem dX2_readsOrder_67 : decode cX2_readsOrder 67 = .ok (.ifCond .ne 5, 3) := by decide +kernel
theorem dX2_readsOrder_70 : decode cX2_readsOrder 70 = .ok (.iconst 0, 1) := by decide +kernel
theorem dX2_readsOrder_71 : decode cX2_readsOrder 71 = .ok (.ireturn, 1) := by decide +kernel
theorem dX2_readsOrder_72 : decode cX2_readsOrder 72 = .ok (.iinc 3 1, 3) := by decide +kernel
theorem dX2_readsOrder_75 : decode cX2_readsOrder 75 = .ok (.goto (-38), 3) := by decide +kernel
theorem dX2_readsOrder_78 : decode cX2_readsOrder 78 = .ok (.aload_n 0, 1) := by decide +kernel
theorem dX2_readsOrder_79 : decode cX2_readsOrder 79 = .ok (.invokevirtual 33, 3) := by decide +kernel
theorem dX2_readsOrder_82 : decode cX2_readsOrder 82 = .ok (.aload_n 0, 1) := by decide +kernel
theorem dX2_readsOrder_83 : decode cX2_readsOrder 83 = .ok (.invokevirtual 40, 3) := by decide +kernel
theorem dX2_readsOrder_86 : decode cX2_readsOrder 86 = .ok (.bipush 59, 2) := by decide +kernel
theorem dX2_readsOrder_88 : decode cX2_readsOrder 88 = .ok (.if_icmp .eq 5, 3) := by decide +kernel
theorem dX2_readsOrder_91 : decode cX2_readsOrder 91 = .ok (.iconst 0, 1) := by decide +kernel
theorem dX2_readsOrder_92 : decode cX2_readsOrder 92 = .ok (.ireturn, 1) := by decide +kernel
theorem dX2_readsOrder_93 : decode cX2_readsOrder 93 = .ok (.aload_n 0, 1) := by decide +kernel
theorem dX2_readsOrder_94 : decode cX2_readsOrder 94 = .ok (.dup, 1) := by decide +kernel
theorem dX2_readsOrder_95 : decode cX2_readsOrder 95 = .ok (.getfield 19, 3) := by decide +kernel
theorem dX2_readsOrder_98 : decode cX2_readsOrder 98 = .ok (.iconst 1, 1) := by decide +kernel
theorem dX2_readsOrder_99 : decode cX2_readsOrder 99 = .ok (.iadd, 1) := by decide +kernel
theorem dX2_readsOrder_100 : decode cX2_readsOrder 100 = .ok (.putfield 19, 3) := by decide +kernel
theorem dX2_readsOrder_103 : decode cX2_readsOrder 103 = .ok (.aload_n 0, 1) := by decide +kernel
theorem dX2_readsOrder_104 : decode cX2_readsOrder 104 = .ok (.getfield 25, 3) := by decide +kernel
theorem dX2_readsOrder_107 : decode cX2_readsOrder 107 = .ok (.aload_n 0, 1) := by decide +kernel
theorem dX2_readsOrder_108 : decode cX2_readsOrder 108 = .ok (.getfield 22, 3) := by decide +kernel
theorem dX2_readsOrder_111 : decode cX2_readsOrder 111 = .ok (.iload_n 1, 1) := by decide +kernel
theorem dX2_readsOrder_112 : decode cX2_readsOrder 112 = .ok (.iastore, 1) := by decide +kernel
theorem dX2_readsOrder_113 : decode cX2_readsOrder 113 = .ok (.aload_n 0, 1) := by decide +kernel
theorem dX2_readsOrder_114 : decode cX2_readsOrder 114 = .ok (.dup, 1) := by decide +kernel
theorem dX2_readsOrder_115 : decode cX2_readsOrder 115 = .ok (.getfield 22, 3) := by decide +kernel
theorem dX2_readsOrder_118 : decode cX2_readsOrder 118 = .ok (.iconst 1, 1) := by decide +kernel
theorem dX2_readsOrder_119 : decode cX2_readsOrder 119 = .ok (.iadd, 1) := by decide +kernel
theorem dX2_readsOrder_120 : decode cX2_readsOrder 120 = .ok (.putfield 22, 3) := by decide +kernel
theorem dX2_readsOrder_123 : decode cX2_readsOrder 123 = .ok (.iconst 1, 1) := by decide +kernel
theorem dX2_readsOrder_124 : decode cX2_readsOrder 124 = .ok (.ireturn, 1) := by decide +kernel
theorem dX2_readsNumber_0 : decode cX2_readsNumber 0 = .ok (.aload_n 0, 1) := by decide +kernel
theorem dX2_readsNumber_1 : decode cX2_readsNumber 1 = .ok (.invokevirtual 33, 3) := by decide +kernel
theorem dX2_readsNumber_4 : decode cX2_readsNumber 4 = .ok (.iload_n 2, 1) := by decide +kernel
theorem dX2_readsNumber_5 : decode cX2_readsNumber 5 = .ok (.ifCond .eq 16, 3) := by decide +kernel
theorem dX2_readsNumber_8 : decode cX2_readsNumber 8 = .ok (.aload_n 0, 1) := by decide +kernel
theorem dX2_readsNumber_9 : decode cX2_readsNumber 9 = .ok (.invokevirtual 40, 3) := by decide +kernel
theorem dX2_readsNumber_12 : decode cX2_readsNumber 12 = .ok (.bipush 45, 2) := by decide +kernel
theorem dX2_readsNumber_14 : decode cX2_readsNumber 14 = .ok (.if_icmp .ne 7, 3) := by decide +kernel
theorem dX2_readsNumber_17 : decode cX2_readsNumber 17 = .ok (.iconst 1, 1) := by decide +kernel
theorem dX2_readsNumber_18 : decode cX2_readsNumber 18 = .ok (.goto 4, 3) := by decide +kernel
theorem dX2_readsNumber_21 : decode cX2_readsNumber 21 = .ok (.iconst 0, 1) := by decide +kernel
theorem dX2_readsNumber_22 : decode cX2_readsNumber 22 = .ok (.istore_n 3, 1) := by decide +kernel
theorem dX2_readsNumber_23 : decode cX2_readsNumber 23 = .ok (.iload_n 3, 1) := by decide +kernel
theorem dX2_readsNumber_24 : decode cX2_readsNumber 24 = .ok (.ifCond .eq 13, 3) := by decide +kernel
theorem dX2_readsNumber_27 : decode cX2_readsNumber 27 = .ok (.aload_n 0, 1) := by decide +kernel
theorem dX2_readsNumber_28 : decode cX2_readsNumber 28 = .ok (.dup, 1) := by decide +kernel
theorem dX2_readsNumber_29 : decode cX2_readsNumber 29 = .ok (.getfield 19, 3) := by decide +kernel
theorem dX2_readsNumber_32 : decode cX2_readsNumber 32 = .ok (.iconst 1, 1) := by decide +kernel
theorem dX2_readsNumber_33 : decode cX2_readsNumber 33 = .ok (.iadd, 1) := by decide +kernel
theorem dX2_readsNumber_34 : decode cX2_readsNumber 34 = .ok (.putfield 19, 3) := by decide +kernel
theorem dX2_readsNumber_37 : decode cX2_readsNumber 37 = .ok (.iconst 0, 1) := by decide +kernel
theorem dX2_readsNumber_38 : decode cX2_readsNumber 38 = .ok (.istore 4, 2) := by decide +kernel
theorem dX2_readsNumber_40 : decode cX2_readsNumber 40 = .ok (.iconst 0, 1) := by decide +kernel
theorem dX2_readsNumber_41 : decode cX2_readsNumber 41 = .ok (.istore 5, 2) := by decide +kernel
theorem dX2_readsNumber_43 : decode cX2_readsNumber 43 = .ok (.aload_n 0, 1) := by decide +kernel
theorem dX2_readsNumber_44 : decode cX2_readsNumber 44 = .ok (.invokevirtual 40, 3) := by decide +kernel
theorem dX2_readsNumber_47 : decode cX2_readsNumber 47 = .ok (.invokestatic 52, 3) := by decide +kernel
theorem dX2_readsNumber_50 : decode cX2_readsNumber 50 = .ok (.ifCond .eq 40, 3) := by decide +kernel
theorem dX2_readsNumber_53 : decode cX2_readsNumber 53 = .ok (.iload 5, 2) := by decide +kernel
theorem dX2_readsNumber_55 : decode cX2_readsNumber 55 = .ok (.iconst 4, 1) := by decide +kernel
theorem dX2_readsNumber_56 : decode cX2_readsNumber 56 = .ok (.if_icmp .ge 34, 3) := by decide +kernel
theorem dX2_readsNumber_59 : decode cX2_readsNumber 59 = .ok (.bipush 10, 2) := by decide +kernel
theorem dX2_readsNumber_61 : decode cX2_readsNumber 61 = .ok (.iload 4, 2) := by decide +kernel
theorem dX2_readsNumber_63 : decode cX2_readsNumber 63 = .ok (.imul, 1) := by decide +kernel
theorem dX2_readsNumber_64 : decode cX2_readsNumber 64 = .ok (.aload_n 0, 1) := by decide +kernel
theorem dX2_readsNumber_65 : decode cX2_readsNumber 65 = .ok (.invokevirtual 40, 3) := by decide +kernel
theorem dX2_readsNumber_68 : decode cX2_readsNumber 68 = .ok (.iadd, 1) := by decide +kernel
theorem dX2_readsNumber_69 : decode cX2_readsNumber 69 = .ok (.bipush 48, 2) := by decide +kernel
theorem dX2_readsNumber_71 : decode cX2_readsNumber 71 = .ok (.isub, 1) := by decide +kernel
theorem dX2_readsNumber_72 : decode cX2_readsNumber 72 = .ok (.istore 4, 2) := by decide +kernel
theorem dX2_readsNumber_74 : decode cX2_readsNumber 74 = .ok (.iinc 5 1, 3) := by decide +kernel
theorem dX2_readsNumber_77 : decode cX2_readsNumber 77 = .ok (.aload_n 0, 1) := by decide +kernel
theorem dX2_readsNumber_78 : decode cX2_readsNumber 78 = .ok (.dup, 1) := by decide +kernel
theorem dX2_readsNumber_79 : decode cX2_readsNumber 79 = .ok (.getfield 19, 3) := by decide +kernel
theorem dX2_readsNumber_82 : decode cX2_readsNumber 82 = .ok (.iconst 1, 1) := by decide +kernel
theorem dX2_readsNumber_83 : decode cX2_readsNumber 83 = .ok (.iadd, 1) := by decide +kernel
theorem dX2_readsNumber_84 : decode cX2_readsNumber 84 = .ok (.putfield 19, 3) := by decide +kernel
theorem dX2_readsNumber_87 : decode cX2_readsNumber 87 = .ok (.goto (-44), 3) := by decide +kernel
theorem dX2_readsNumber_90 : decode cX2_readsNumber 90 = .ok (.aload_n 0, 1) := by decide +kernel
theorem dX2_readsNumber_91 : decode cX2_readsNumber 91 = .ok (.getfield 30, 3) := by decide +kernel
theorem dX2_readsNumber_94 : decode cX2_readsNumber 94 = .ok (.aload_n 0, 1) := by decide +kernel
theorem dX2_readsNumber_95 : decode cX2_readsNumber 95 = .ok (.getfield 22, 3) := by decide +kernel
theorem dX2_readsNumber_98 : decode cX2_readsNumber 98 = .ok (.aaload, 1) := by decide +kernel
theorem dX2_readsNumber_99 : decode cX2_readsNumber 99 = .ok (.iload_n 1, 1) := by decide +kernel
theorem dX2_readsNumber_100 : decode cX2_readsNumber 100 = .ok (.iload_n 3, 1) := by decide +kernel
theorem dX2_readsNumber_101 : decode cX2_readsNumber 101 = .ok (.ifCond .eq 9, 3) := by decide +kernel
theorem dX2_readsNumber_104 : decode cX2_readsNumber 104 = .ok (.iload 4, 2) := by decide +kernel
theorem dX2_readsNumber_106 : decode cX2_readsNumber 106 = .ok (.ineg, 1) := by decide +kernel
theorem dX2_readsNumber_107 : decode cX2_readsNumber 107 = .ok (.goto 5, 3) := by decide +kernel
theorem dX2_readsNumber_110 : decode cX2_readsNumber 110 = .ok (.iload 4, 2) := by decide +kernel
theorem dX2_readsNumber_112 : decode cX2_readsNumber 112 = .ok (.iastore, 1) := by decide +kernel
theorem dX2_readsNumber_113 : decode cX2_readsNumber 113 = .ok (.iload 5, 2) := by decide +kernel
theorem dX2_readsNumber_115 : decode cX2_readsNumber 115 = .ok (.ifCond .le 17, 3) := by decide +kernel
theorem dX2_readsNumber_118 : decode cX2_readsNumber 118 = .ok (.aload_n 0, 1) := by decide +kernel
theorem dX2_readsNumber_119 : decode cX2_readsNumber 119 = .ok (.invokevirtual 40, 3) := by decide +kernel
theorem dX2_readsNumber_122 : decode cX2_readsNumber 122 = .ok (.invokestatic 52, 3) := by decide +kernel
theorem dX2_readsNumber_125 : decode cX2_readsNumber 125 = .ok (.ifCond .ne 7, 3) := by decide +kernel
theorem dX2_readsNumber_128 : decode cX2_readsNumber 128 = .ok (.iconst 1, 1) := by decide +kernel
theorem dX2_readsNumber_129 : decode cX2_readsNumber 129 = .ok (.goto 4, 3) := by decide +kernel
theorem dX2_readsNumber_132 : decode cX2_readsNumber 132 = .ok (.iconst 0, 1) := by decide +kernel
theorem dX2_readsNumber_133 : decode cX2_readsNumber 133 = .ok (.ireturn, 1) := by decide +kernel
theorem dX2_skipBlanks_0 : decode cX2_skipBlanks 0 = .ok (.aload_n 0, 1) := by decide +kernel
theorem dX2_skipBlanks_1 : decode cX2_skipBlanks 1 = .ok (.getfield 19, 3) := by decide +kernel
theorem dX2_skipBlanks_4 : decode cX2_skipBlanks 4 = .ok (.aload_n 0, 1) := by decide +kernel
theorem dX2_skipBlanks_5 : decode cX2_skipBlanks 5 = .ok (.getfield 15, 3) := by decide +kernel
theorem dX2_skipBlanks_8 : decode cX2_skipBlanks 8 = .ok (.if_icmp .ge 30, 3) := by decide +kernel
theorem dX2_skipBlanks_11 : decode cX2_skipBlanks 11 = .ok (.aload_n 0, 1) := by decide +kernel
theorem dX2_skipBlanks_12 : decode cX2_skipBlanks 12 = .ok (.getfield 9, 3) := by decide +kernel
theorem dX2_skipBlanks_15 : decode cX2_skipBlanks 15 = .ok (.aload_n 0, 1) := by decide +kernel
theorem dX2_skipBlanks_16 : decode cX2_skipBlanks 16 = .ok (.getfield 19, 3) := by decide +kernel
theorem dX2_skipBlanks_19 : decode cX2_skipBlanks 19 = .ok (.iaload, 1) := by decide +kernel
theorem dX2_skipBlanks_20 : decode cX2_skipBlanks 20 = .ok (.bipush 32, 2) := by decide +kernel
theorem dX2_skipBlanks_22 : decode cX2_skipBlanks 22 = .ok (.if_icmp .ne 16, 3) := by decide +kernel
theorem dX2_skipBlanks_25 : decode cX2_skipBlanks 25 = .ok (.aload_n 0, 1) := by decide +kernel
theorem dX2_skipBlanks_26 : decode cX2_skipBlanks 26 = .ok (.dup, 1) := by decide +kernel
theorem dX2_skipBlanks_27 : decode cX2_skipBlanks 27 = .ok (.getfield 19, 3) := by decide +kernel
theorem dX2_skipBlanks_30 : decode cX2_skipBlanks 30 = .ok (.iconst 1, 1) := by decide +kernel
theorem dX2_skipBlanks_31 : decode cX2_skipBlanks 31 = .ok (.iadd, 1) := by decide +kernel
theorem dX2_skipBlanks_32 : decode cX2_skipBlanks 32 = .ok (.putfield 19, 3) := by decide +kernel
theorem dX2_skipBlanks_35 : decode cX2_skipBlanks 35 = .ok (.goto (-35), 3) := by decide +kernel
theorem dX2_skipBlanks_38 : decode cX2_skipBlanks 38 = .ok (.return_, 1) := by decide +kernel
theorem dX2_present_0 : decode cX2_present 0 = .ok (.aload_n 0, 1) := by decide +kernel
theorem dX2_present_1 : decode cX2_present 1 = .ok (.getfield 19, 3) := by decide +kernel
theorem dX2_present_4 : decode cX2_present 4 = .ok (.aload_n 0, 1) := by decide +kernel
theorem dX2_present_5 : decode cX2_present 5 = .ok (.getfield 15, 3) := by decide +kernel
theorem dX2_present_8 : decode cX2_present 8 = .ok (.if_icmp .ge 15, 3) := by decide +kernel
theorem dX2_present_11 : decode cX2_present 11 = .ok (.aload_n 0, 1) := by decide +kernel
theorem dX2_present_12 : decode cX2_present 12 = .ok (.getfield 9, 3) := by decide +kernel
theorem dX2_present_15 : decode cX2_present 15 = .ok (.aload_n 0, 1) := by decide +kernel
theorem dX2_present_16 : decode cX2_present 16 = .ok (.getfield 19, 3) := by decide +kernel
theorem dX2_present_19 : decode cX2_present 19 = .ok (.iaload, 1) := by decide +kernel
theorem dX2_present_20 : decode cX2_present 20 = .ok (.goto 4, 3) := by decide +kernel
theorem dX2_present_23 : decode cX2_present 23 = .ok (.iconst (-1), 1) := by decide +kernel
theorem dX2_present_24 : decode cX2_present 24 = .ok (.ireturn, 1) := by decide +kernel
theorem dX2_isDigit_0 : decode cX2_isDigit 0 = .ok (.iload_n 0, 1) := by decide +kernel
theorem dX2_isDigit_1 : decode cX2_isDigit 1 = .ok (.bipush 48, 2) := by decide +kernel
theorem dX2_isDigit_3 : decode cX2_isDigit 3 = .ok (.if_icmp .lt 13, 3) := by decide +kernel
theorem dX2_isDigit_6 : decode cX2_isDigit 6 = .ok (.iload_n 0, 1) := by decide +kernel
theorem dX2_isDigit_7 : decode cX2_isDigit 7 = .ok (.bipush 57, 2) := by decide +kernel
theorem dX2_isDigit_9 : decode cX2_isDigit 9 = .ok (.if_icmp .gt 7, 3) := by decide +kernel
theorem dX2_isDigit_12 : decode cX2_isDigit 12 = .ok (.iconst 1, 1) := by decide +kernel
theorem dX2_isDigit_13 : decode cX2_isDigit 13 = .ok (.goto 4, 3) := by decide +kernel
theorem dX2_isDigit_16 : decode cX2_isDigit 16 = .ok (.iconst 0, 1) := by decide +kernel
theorem dX2_isDigit_17 : decode cX2_isDigit 17 = .ok (.ireturn, 1) := by decide +kernel
theorem dX2_argumentsOf_0 : decode cX2_argumentsOf 0 = .ok (.iload_n 0, 1) := by decide +kernel
theorem dX2_argumentsOf_1 : decode cX2_argumentsOf 1 = .ok (.tableswitch 81 106 120 #[79, 77, 81, 79, 75, 81, 79, 81, 81, 81, 77, 77, 81, 81, 77], 75) := by decide +kernel
theorem dX2_argumentsOf_76 : decode cX2_argumentsOf 76 = .ok (.iconst 1, 1) := by decide +kernel
theorem dX2_argumentsOf_77 : decode cX2_argumentsOf 77 = .ok (.ireturn, 1) := by decide +kernel
theorem dX2_argumentsOf_78 : decode cX2_argumentsOf 78 = .ok (.iconst 2, 1) := by decide +kernel
theorem dX2_argumentsOf_79 : decode cX2_argumentsOf 79 = .ok (.ireturn, 1) := by decide +kernel
theorem dX2_argumentsOf_80 : decode cX2_argumentsOf 80 = .ok (.iconst 3, 1) := by decide +kernel
theorem dX2_argumentsOf_81 : decode cX2_argumentsOf 81 = .ok (.ireturn, 1) := by decide +kernel
theorem dX2_argumentsOf_82 : decode cX2_argumentsOf 82 = .ok (.iconst 0, 1) := by decide +kernel
theorem dX2_argumentsOf_83 : decode cX2_argumentsOf 83 = .ok (.ireturn, 1) := by decide +kernel
theorem dX3_init_0 : decode cX3_init 0 = .ok (.aload_n 0, 1) := by decide +kernel
theorem dX3_init_1 : decode cX3_init 1 = .ok (.invokespecial 3, 3) := by decide +kernel
theorem dX3_init_4 : decode cX3_init 4 = .ok (.aload_n 0, 1) := by decide +kernel
theorem dX3_init_5 : decode cX3_init 5 = .ok (.bipush 8, 2) := by decide +kernel
theorem dX3_init_7 : decode cX3_init 7 = .ok (.newarray .int, 2) := by decide +kernel
theorem dX3_init_9 : decode cX3_init 9 = .ok (.putfield 9, 3) := by decide +kernel
theorem dX3_init_12 : decode cX3_init 12 = .ok (.aload_n 0, 1) := by decide +kernel
theorem dX3_init_13 : decode cX3_init 13 = .ok (.iconst 4, 1) := by decide +kernel
theorem dX3_init_14 : decode cX3_init 14 = .ok (.invokevirtual 15, 3) := by decide +kernel
theorem dX3_init_17 : decode cX3_init 17 = .ok (.return_, 1) := by decide +kernel
theorem dX3_split_0 : decode cX3_split 0 = .ok (.aload_n 0, 1) := by decide +kernel
theorem dX3_split_1 : decode cX3_split 1 = .ok (.iload_n 1, 1) := by decide +kernel
theorem dX3_split_2 : decode cX3_split 2 = .ok (.putfield 19, 3) := by decide +kernel
theorem dX3_split_5 : decode cX3_split 5 = .ok (.iconst 0, 1) := by decide +kernel
theorem dX3_split_6 : decode cX3_split 6 = .ok (.istore_n 2, 1) := by decide +kernel
theorem dX3_split_7 : decode cX3_split 7 = .ok (.iload_n 2, 1) := by decide +kernel
theorem dX3_split_8 : decode cX3_split 8 = .ok (.bipush 8, 2) := by decide +kernel
theorem dX3_split_10 : decode cX3_split 10 = .ok (.if_icmp .ge 16, 3) := by decide +kernel
theorem dX3_split_13 : decode cX3_split 13 = .ok (.aload_n 0, 1) := by decide +kernel
theorem dX3_split_14 : decode cX3_split 14 = .ok (.getfield 9, 3) := by decide +kernel
theorem dX3_split_17 : decode cX3_split 17 = .ok (.iload_n 2, 1) := by decide +kernel
theorem dX3_split_18 : decode cX3_split 18 = .ok (.iload_n 2, 1) := by decide +kernel
theorem dX3_split_19 : decode cX3_split 19 = .ok (.iastore, 1) := by decide +kernel
theorem dX3_split_20 : decode cX3_split 20 = .ok (.iinc 2 1, 3) := by decide +kernel
theorem dX3_split_23 : decode cX3_split 23 = .ok (.goto (-16), 3) := by decide +kernel
theorem dX3_split_26 : decode cX3_split 26 = .ok (.return_, 1) := by decide +kernel
theorem dX3_copy_0 : decode cX3_copy 0 = .ok (.aload_n 0, 1) := by decide +kernel
theorem dX3_copy_1 : decode cX3_copy 1 = .ok (.aload_n 1, 1) := by decide +kernel
theorem dX3_copy_2 : decode cX3_copy 2 = .ok (.getfield 19, 3) := by decide +kernel
theorem dX3_copy_5 : decode cX3_copy 5 = .ok (.putfield 19, 3) := by decide +kernel
theorem dX3_copy_8 : decode cX3_copy 8 = .ok (.iconst 0, 1) := by decide +kernel
theorem dX3_copy_9 : decode cX3_copy 9 = .ok (.istore_n 2, 1) := by decide +kernel
theorem dX3_copy_10 : decode cX3_copy 10 = .ok (.iload_n 2, 1) := by decide +kernel
theorem dX3_copy_11 : decode cX3_copy 11 = .ok (.bipush 8, 2) := by decide +kernel
theorem dX3_copy_13 : decode cX3_copy 13 = .ok (.if_icmp .ge 21, 3) := by decide +kernel
theorem dX3_copy_16 : decode cX3_copy 16 = .ok (.aload_n 0, 1) := by decide +kernel
theorem dX3_copy_17 : decode cX3_copy 17 = .ok (.getfield 9, 3) := by decide +kernel
theorem dX3_copy_20 : decode cX3_copy 20 = .ok (.iload_n 2, 1) := by decide +kernel
theorem dX3_copy_21 : decode cX3_copy 21 = .ok (.aload_n 1, 1) := by decide +kernel
theorem dX3_copy_22 : decode cX3_copy 22 = .ok (.getfield 9, 3) := by decide +kernel
theorem dX3_copy_25 : decode cX3_copy 25 = .ok (.iload_n 2, 1) := by decide +kernel
theorem dX3_copy_26 : decode cX3_copy 26 = .ok (.iaload, 1) := by decide +kernel
theorem dX3_copy_27 : decode cX3_copy 27 = .ok (.iastore, 1) := by decide +kernel
theorem dX3_copy_28 : decode cX3_copy 28 = .ok (.iinc 2 1, 3) := by decide +kernel
theorem dX3_copy_31 : decode cX3_copy 31 = .ok (.goto (-21), 3) := by decide +kernel
theorem dX3_copy_34 : decode cX3_copy 34 = .ok (.return_, 1) := by decide +kernel
theorem dX3_isLowest_0 : decode cX3_isLowest 0 = .ok (.aload_n 0, 1) := by decide +kernel
theorem dX3_isLowest_1 : decode cX3_isLowest 1 = .ok (.getfield 9, 3) := by decide +kernel
theorem dX3_isLowest_4 : decode cX3_isLowest 4 = .ok (.iload_n 1, 1) := by decide +kernel
theorem dX3_isLowest_5 : decode cX3_isLowest 5 = .ok (.iaload, 1) := by decide +kernel
theorem dX3_isLowest_6 : decode cX3_isLowest 6 = .ok (.iload_n 1, 1) := by decide +kernel
theorem dX3_isLowest_7 : decode cX3_isLowest 7 = .ok (.if_icmp .ne 7, 3) := by decide +kernel
theorem dX3_isLowest_10 : decode cX3_isLowest 10 = .ok (.iconst 1, 1) := by decide +kernel
theorem dX3_isLowest_11 : decode cX3_isLowest 11 = .ok (.goto 4, 3) := by decide +kernel
theorem dX3_isLowest_14 : decode cX3_isLowest 14 = .ok (.iconst 0, 1) := by decide +kernel
theorem dX3_isLowest_15 : decode cX3_isLowest 15 = .ok (.ireturn, 1) := by decide +kernel
theorem dX3_areTogether_0 : decode cX3_areTogether 0 = .ok (.aload_n 0, 1) := by decide +kernel
theorem dX3_areTogether_1 : decode cX3_areTogether 1 = .ok (.getfield 9, 3) := by decide +kernel
theorem dX3_areTogether_4 : decode cX3_areTogether 4 = .ok (.iload_n 1, 1) := by decide +kernel
theorem dX3_areTogether_5 : decode cX3_areTogether 5 = .ok (.iaload, 1) := by decide +kernel
theorem dX3_areTogether_6 : decode cX3_areTogether 6 = .ok (.aload_n 0, 1) := by decide +kernel
theorem dX3_areTogether_7 : decode cX3_areTogether 7 = .ok (.getfield 9, 3) := by decide +kernel
theorem dX3_areTogether_10 : decode cX3_areTogether 10 = .ok (.iload_n 2, 1) := by decide +kernel
theorem dX3_areTogether_11 : decode cX3_areTogether 11 = .ok (.iaload, 1) := by decide +kernel
theorem dX3_areTogether_12 : decode cX3_areTogether 12 = .ok (.if_icmp .ne 7, 3) := by decide +kernel
theorem dX3_areTogether_15 : decode cX3_areTogether 15 = .ok (.iconst 1, 1) := by decide +kernel
theorem dX3_areTogether_16 : decode cX3_areTogether 16 = .ok (.goto 4, 3) := by decide +kernel
theorem dX3_areTogether_19 : decode cX3_areTogether 19 = .ok (.iconst 0, 1) := by decide +kernel
theorem dX3_areTogether_20 : decode cX3_areTogether 20 = .ok (.ireturn, 1) := by decide +kernel
theorem dX3_rank_0 : decode cX3_rank 0 = .ok (.iconst 0, 1) := by decide +kernel
theorem dX3_rank_1 : decode cX3_rank 1 = .ok (.istore_n 1, 1) := by decide +kernel
theorem dX3_rank_2 : decode cX3_rank 2 = .ok (.iconst 0, 1) := by decide +kernel
theorem dX3_rank_3 : decode cX3_rank 3 = .ok (.istore_n 2, 1) := by decide +kernel
theorem dX3_rank_4 : decode cX3_rank 4 = .ok (.iload_n 2, 1) := by decide +kernel
theorem dX3_rank_5 : decode cX3_rank 5 = .ok (.aload_n 0, 1) := by decide +kernel
theorem dX3_rank_6 : decode cX3_rank 6 = .ok (.getfield 19, 3) := by decide +kernel
theorem dX3_rank_9 : decode cX3_rank 9 = .ok (.if_icmp .ge 25, 3) := by decide +kernel
theorem dX3_rank_12 : decode cX3_rank 12 = .ok (.iload_n 1, 1) := by decide +kernel
theorem dX3_rank_13 : decode cX3_rank 13 = .ok (.aload_n 0, 1) := by decide +kernel
theorem dX3_rank_14 : decode cX3_rank 14 = .ok (.iload_n 2, 1) := by decide +kernel
theorem dX3_rank_15 : decode cX3_rank 15 = .ok (.invokevirtual 23, 3) := by decide +kernel
theorem dX3_rank_18 : decode cX3_rank 18 = .ok (.ifCond .eq 7, 3) := by decide +kernel
theorem dX3_rank_21 : decode cX3_rank 21 = .ok (.iconst 0, 1) := by decide +kernel
theorem dX3_rank_22 : decode cX3_rank 22 = .ok (.goto 4, 3) := by decide +kernel
theorem dX3_rank_25 : decode cX3_rank 25 = .ok (.iconst 1, 1) := by decide +kernel
theorem dX3_rank_26 : decode cX3_rank 26 = .ok (.iadd, 1) := by decide +kernel
theorem dX3_rank_27 : decode cX3_rank 27 = .ok (.istore_n 1, 1) := by decide +kernel
theorem dX3_rank_28 : decode cX3_rank 28 = .ok (.iinc 2 1, 3) := by decide +kernel
theorem dX3_rank_31 : decode cX3_rank 31 = .ok (.goto (-27), 3) := by decide +kernel
theorem dX3_rank_34 : decode cX3_rank 34 = .ok (.iload_n 1, 1) := by decide +kernel
theorem dX3_rank_35 : decode cX3_rank 35 = .ok (.ireturn, 1) := by decide +kernel
theorem dX3_sizeFrom_0 : decode cX3_sizeFrom 0 = .ok (.iconst 0, 1) := by decide +kernel
theorem dX3_sizeFrom_1 : decode cX3_sizeFrom 1 = .ok (.istore_n 2, 1) := by decide +kernel
theorem dX3_sizeFrom_2 : decode cX3_sizeFrom 2 = .ok (.iload_n 1, 1) := by decide +kernel
theorem dX3_sizeFrom_3 : decode cX3_sizeFrom 3 = .ok (.istore_n 3, 1) := by decide +kernel
theorem dX3_sizeFrom_4 : decode cX3_sizeFrom 4 = .ok (.iload_n 3, 1) := by decide +kernel
theorem dX3_sizeFrom_5 : decode cX3_sizeFrom 5 = .ok (.aload_n 0, 1) := by decide +kernel
theorem dX3_sizeFrom_6 : decode cX3_sizeFrom 6 = .ok (.getfield 19, 3) := by decide +kernel
theorem dX3_sizeFrom_9 : decode cX3_sizeFrom 9 = .ok (.if_icmp .ge 27, 3) := by decide +kernel
theorem dX3_sizeFrom_12 : decode cX3_sizeFrom 12 = .ok (.iload_n 2, 1) := by decide +kernel
theorem dX3_sizeFrom_13 : decode cX3_sizeFrom 13 = .ok (.aload_n 0, 1) := by decide +kernel
theorem dX3_sizeFrom_14 : decode cX3_sizeFrom 14 = .ok (.getfield 9, 3) := by decide +kernel
theorem dX3_sizeFrom_17 : decode cX3_sizeFrom 17 = .ok (.iload_n 3, 1) := by decide +kernel
theorem dX3_sizeFrom_18 : decode cX3_sizeFrom 18 = .ok (.iaload, 1) := by decide +kernel
theorem dX3_sizeFrom_19 : decode cX3_sizeFrom 19 = .ok (.iload_n 1, 1) := by decide +kernel
theorem dX3_sizeFrom_20 : decode cX3_sizeFrom 20 = .ok (.if_icmp .ne 7, 3) := by decide +kernel
theorem dX3_sizeFrom_23 : decode cX3_sizeFrom 23 = .ok (.iconst 1, 1) := by decide +kernel
theorem dX3_sizeFrom_24 : decode cX3_sizeFrom 24 = .ok (.goto 4, 3) := by decide +kernel
theorem dX3_sizeFrom_27 : decode cX3_sizeFrom 27 = .ok (.iconst 0, 1) := by decide +kernel
theorem dX3_sizeFrom_28 : decode cX3_sizeFrom 28 = .ok (.iadd, 1) := by decide +kernel
theorem dX3_sizeFrom_29 : decode cX3_sizeFrom 29 = .ok (.istore_n 2, 1) := by decide +kernel
theorem dX3_sizeFrom_30 : decode cX3_sizeFrom 30 = .ok (.iinc 3 1, 3) := by decide +kernel
theorem dX3_sizeFrom_33 : decode cX3_sizeFrom 33 = .ok (.goto (-29), 3) := by decide +kernel
theorem dX3_sizeFrom_36 : decode cX3_sizeFrom 36 = .ok (.iload_n 2, 1) := by decide +kernel
theorem dX3_sizeFrom_37 : decode cX3_sizeFrom 37 = .ok (.ireturn, 1) := by decide +kernel
theorem dX3_next_0 : decode cX3_next 0 = .ok (.iload_n 1, 1) := by decide +kernel
theorem dX3_next_1 : decode cX3_next 1 = .ok (.iconst 1, 1) := by decide +kernel
theorem dX3_next_2 : decode cX3_next 2 = .ok (.iadd, 1) := by decide +kernel
theorem dX3_next_3 : decode cX3_next 3 = .ok (.istore_n 2, 1) := by decide +kernel
theorem dX3_next_4 : decode cX3_next 4 = .ok (.iload_n 2, 1) := by decide +kernel
theorem dX3_next_5 : decode cX3_next 5 = .ok (.aload_n 0, 1) := by decide +kernel
theorem dX3_next_6 : decode cX3_next 6 = .ok (.getfield 19, 3) := by decide +kernel
theorem dX3_next_9 : decode cX3_next 9 = .ok (.if_icmp .ge 20, 3) := by decide +kernel
theorem dX3_next_12 : decode cX3_next 12 = .ok (.aload_n 0, 1) := by decide +kernel
theorem dX3_next_13 : decode cX3_next 13 = .ok (.iload_n 1, 1) := by decide +kernel
theorem dX3_next_14 : decode cX3_next 14 = .ok (.iload_n 2, 1) := by decide +kernel
theorem dX3_next_15 : decode cX3_next 15 = .ok (.invokevirtual 27, 3) := by decide +kernel
theorem dX3_next_18 : decode cX3_next 18 = .ok (.ifCond .eq 5, 3) := by decide +kernel
theorem dX3_next_21 : decode cX3_next 21 = .ok (.iload_n 2, 1) := by decide +kernel
theorem dX3_next_22 : decode cX3_next 22 = .ok (.ireturn, 1) := by decide +kernel
theorem dX3_next_23 : decode cX3_next 23 = .ok (.iinc 2 1, 3) := by decide +kernel
theorem dX3_next_26 : decode cX3_next 26 = .ok (.goto (-22), 3) := by decide +kernel
theorem dX3_next_29 : decode cX3_next 29 = .ok (.aload_n 0, 1) := by decide +kernel
theorem dX3_next_30 : decode cX3_next 30 = .ok (.getfield 9, 3) := by decide +kernel
theorem dX3_next_33 : decode cX3_next 33 = .ok (.iload_n 1, 1) := by decide +kernel
theorem dX3_next_34 : decode cX3_next 34 = .ok (.iaload, 1) := by decide +kernel
theorem dX3_next_35 : decode cX3_next 35 = .ok (.ireturn, 1) := by decide +kernel
theorem dX3_previous_0 : decode cX3_previous 0 = .ok (.iload_n 1, 1) := by decide +kernel
theorem dX3_previous_1 : decode cX3_previous 1 = .ok (.iconst 1, 1) := by decide +kernel
theorem dX3_previous_2 : decode cX3_previous 2 = .ok (.isub, 1) := by decide +kernel
theorem dX3_previous_3 : decode cX3_previous 3 = .ok (.istore_n 2, 1) := by decide +kernel
theorem dX3_previous_4 : decode cX3_previous 4 = .ok (.iload_n 2, 1) := by decide +kernel
theorem dX3_previous_5 : decode cX3_previous 5 = .ok (.ifCond .lt 20, 3) := by decide +kernel
theorem dX3_previous_8 : decode cX3_previous 8 = .ok (.aload_n 0, 1) := by decide +kernel
theorem dX3_previous_9 : decode cX3_previous 9 = .ok (.iload_n 1, 1) := by decide +kernel
theorem dX3_previous_10 : decode cX3_previous 10 = .ok (.iload_n 2, 1) := by decide +kernel
theorem dX3_previous_11 : decode cX3_previous 11 = .ok (.invokevirtual 27, 3) := by decide +kernel
theorem dX3_previous_14 : decode cX3_previous 14 = .ok (.ifCond .eq 5, 3) := by decide +kernel
theorem dX3_previous_17 : decode cX3_previous 17 = .ok (.iload_n 2, 1) := by decide +kernel
theorem dX3_previous_18 : decode cX3_previous 18 = .ok (.ireturn, 1) := by decide +kernel
theorem dX3_previous_19 : decode cX3_previous 19 = .ok (.iinc 2 (-1), 3) := by decide +kernel
theorem dX3_previous_22 : decode cX3_previous 22 = .ok (.goto (-18), 3) := by decide +kernel
theorem dX3_previous_25 : decode cX3_previous 25 = .ok (.aload_n 0, 1) := by decide +kernel
theorem dX3_previous_26 : decode cX3_previous 26 = .ok (.getfield 19, 3) := by decide +kernel
theorem dX3_previous_29 : decode cX3_previous 29 = .ok (.iconst 1, 1) := by decide +kernel
theorem dX3_previous_30 : decode cX3_previous 30 = .ok (.isub, 1) := by decide +kernel
theorem dX3_previous_31 : decode cX3_previous 31 = .ok (.istore_n 2, 1) := by decide +kernel
theorem dX3_previous_32 : decode cX3_previous 32 = .ok (.iload_n 2, 1) := by decide +kernel
theorem dX3_previous_33 : decode cX3_previous 33 = .ok (.iload_n 1, 1) := by decide +kernel
theorem dX3_previous_34 : decode cX3_previous 34 = .ok (.if_icmp .le 20, 3) := by decide +kernel
theorem dX3_previous_37 : decode cX3_previous 37 = .ok (.aload_n 0, 1) := by decide +kernel
theorem dX3_previous_38 : decode cX3_previous 38 = .ok (.iload_n 1, 1) := by decide +kernel
theorem dX3_previous_39 : decode cX3_previous 39 = .ok (.iload_n 2, 1) := by decide +kernel
theorem dX3_previous_40 : decode cX3_previous 40 = .ok (.invokevirtual 27, 3) := by decide +kernel
theorem dX3_previous_43 : decode cX3_previous 43 = .ok (.ifCond .eq 5, 3) := by decide +kernel
theorem dX3_previous_46 : decode cX3_previous 46 = .ok (.iload_n 2, 1) := by decide +kernel
theorem dX3_previous_47 : decode cX3_previous 47 = .ok (.ireturn, 1) := by decide +kernel
theorem dX3_previous_48 : decode cX3_previous 48 = .ok (.iinc 2 (-1), 3) := by decide +kernel
theorem dX3_previous_51 : decode cX3_previous 51 = .ok (.goto (-19), 3) := by decide +kernel
theorem dX3_previous_54 : decode cX3_previous 54 = .ok (.iload_n 1, 1) := by decide +kernel
theorem dX3_previous_55 : decode cX3_previous 55 = .ok (.ireturn, 1) := by decide +kernel
theorem dX3_isUnder_0 : decode cX3_isUnder 0 = .ok (.iconst 0, 1) := by decide +kernel
theorem dX3_isUnder_1 : decode cX3_isUnder 1 = .ok (.istore_n 2, 1) := by decide +kernel
theorem dX3_isUnder_2 : decode cX3_isUnder 2 = .ok (.iload_n 2, 1) := by decide +kernel
theorem dX3_isUnder_3 : decode cX3_isUnder 3 = .ok (.aload_n 0, 1) := by decide +kernel
theorem dX3_isUnder_4 : decode cX3_isUnder 4 = .ok (.getfield 19, 3) := by decide +kernel
theorem dX3_isUnder_7 : decode cX3_isUnder 7 = .ok (.if_icmp .ge 25, 3) := by decide +kernel
theorem dX3_isUnder_10 : decode cX3_isUnder 10 = .ok (.aload_n 1, 1) := by decide +kernel
theorem dX3_isUnder_11 : decode cX3_isUnder 11 = .ok (.iload_n 2, 1) := by decide +kernel
theorem dX3_isUnder_12 : decode cX3_isUnder 12 = .ok (.aload_n 0, 1) := by decide +kernel
theorem dX3_isUnder_13 : decode cX3_isUnder 13 = .ok (.getfield 9, 3) := by decide +kernel
theorem dX3_isUnder_16 : decode cX3_isUnder 16 = .ok (.iload_n 2, 1) := by decide +kernel
theorem dX3_isUnder_17 : decode cX3_isUnder 17 = .ok (.iaload, 1) := by decide +kernel
theorem dX3_isUnder_18 : decode cX3_isUnder 18 = .ok (.invokevirtual 27, 3) := by decide +kernel
theorem dX3_isUnder_21 : decode cX3_isUnder 21 = .ok (.ifCond .ne 5, 3) := by decide +kernel
theorem dX3_isUnder_24 : decode cX3_isUnder 24 = .ok (.iconst 0, 1) := by decide +kernel
theorem dX3_isUnder_25 : decode cX3_isUnder 25 = .ok (.ireturn, 1) := by decide +kernel
theorem dX3_isUnder_26 : decode cX3_isUnder 26 = .ok (.iinc 2 1, 3) := by decide +kernel
theorem dX3_isUnder_29 : decode cX3_isUnder 29 = .ok (.goto (-27), 3) := by decide +kernel
theorem dX3_isUnder_32 : decode cX3_isUnder 32 = .ok (.iconst 1, 1) := by decide +kernel
theorem dX3_isUnder_33 : decode cX3_isUnder 33 = .ok (.ireturn, 1) := by decide +kernel
theorem dX3_labelTo_0 : decode cX3_labelTo 0 = .ok (.iconst 0, 1) := by decide +kernel
theorem dX3_labelTo_1 : decode cX3_labelTo 1 = .ok (.istore_n 2, 1) := by decide +kernel
theorem dX3_labelTo_2 : decode cX3_labelTo 2 = .ok (.iconst 0, 1) := by decide +kernel
theorem dX3_labelTo_3 : decode cX3_labelTo 3 = .ok (.istore_n 3, 1) := by decide +kernel
theorem dX3_labelTo_4 : decode cX3_labelTo 4 = .ok (.iload_n 3, 1) := by decide +kernel
theorem dX3_labelTo_5 : decode cX3_labelTo 5 = .ok (.aload_n 0, 1) := by decide +kernel
theorem dX3_labelTo_6 : decode cX3_labelTo 6 = .ok (.getfield 19, 3) := by decide +kernel
theorem dX3_labelTo_9 : decode cX3_labelTo 9 = .ok (.if_icmp .ge 27, 3) := by decide +kernel
theorem dX3_labelTo_12 : decode cX3_labelTo 12 = .ok (.aload_n 0, 1) := by decide +kernel
theorem dX3_labelTo_13 : decode cX3_labelTo 13 = .ok (.iload_n 3, 1) := by decide +kernel
theorem dX3_labelTo_14 : decode cX3_labelTo 14 = .ok (.invokevirtual 23, 3) := by decide +kernel
theorem dX3_labelTo_17 : decode cX3_labelTo 17 = .ok (.ifCond .eq 13, 3) := by decide +kernel
theorem dX3_labelTo_20 : decode cX3_labelTo 20 = .ok (.aload_n 1, 1) := by decide +kernel
theorem dX3_labelTo_21 : decode cX3_labelTo 21 = .ok (.iload_n 3, 1) := by decide +kernel
theorem dX3_labelTo_22 : decode cX3_labelTo 22 = .ok (.invokevirtual 23, 3) := by decide +kernel
theorem dX3_labelTo_25 : decode cX3_labelTo 25 = .ok (.ifCond .ne 5, 3) := by decide +kernel
theorem dX3_labelTo_28 : decode cX3_labelTo 28 = .ok (.iload_n 3, 1) := by decide +kernel
theorem dX3_labelTo_29 : decode cX3_labelTo 29 = .ok (.istore_n 2, 1) := by decide +kernel
theorem dX3_labelTo_30 : decode cX3_labelTo 30 = .ok (.iinc 3 1, 3) := by decide +kernel
theorem dX3_labelTo_33 : decode cX3_labelTo 33 = .ok (.goto (-29), 3) := by decide +kernel
theorem dX3_labelTo_36 : decode cX3_labelTo 36 = .ok (.aload_n 1, 1) := by decide +kernel
theorem dX3_labelTo_37 : decode cX3_labelTo 37 = .ok (.getfield 9, 3) := by decide +kernel
theorem dX3_labelTo_40 : decode cX3_labelTo 40 = .ok (.iload_n 2, 1) := by decide +kernel
theorem dX3_labelTo_41 : decode cX3_labelTo 41 = .ok (.iaload, 1) := by decide +kernel
theorem dX3_labelTo_42 : decode cX3_labelTo 42 = .ok (.istore_n 3, 1) := by decide +kernel
theorem dX3_labelTo_43 : decode cX3_labelTo 43 = .ok (.iload_n 3, 1) := by decide +kernel
theorem dX3_labelTo_44 : decode cX3_labelTo 44 = .ok (.istore 4, 2) := by decide +kernel
theorem dX3_labelTo_46 : decode cX3_labelTo 46 = .ok (.iload_n 3, 1) := by decide +kernel
theorem dX3_labelTo_47 : decode cX3_labelTo 47 = .ok (.istore 5, 2) := by decide +kernel
theorem dX3_labelTo_49 : decode cX3_labelTo 49 = .ok (.iload 5, 2) := by decide +kernel
theorem dX3_labelTo_51 : decode cX3_labelTo 51 = .ok (.iload_n 2, 1) := by decide +kernel
theorem dX3_labelTo_52 : decode cX3_labelTo 52 = .ok (.if_icmp .ge 24, 3) := by decide +kernel
theorem dX3_labelTo_55 : decode cX3_labelTo 55 = .ok (.aload_n 0, 1) := by decide +kernel
theorem dX3_labelTo_56 : decode cX3_labelTo 56 = .ok (.getfield 9, 3) := by decide +kernel
theorem dX3_labelTo_59 : decode cX3_labelTo 59 = .ok (.iload 5, 2) := by decide +kernel
theorem dX3_labelTo_61 : decode cX3_labelTo 61 = .ok (.iaload, 1) := by decide +kernel
theorem dX3_labelTo_62 : decode cX3_labelTo 62 = .ok (.iload_n 3, 1) := by decide +kernel
theorem dX3_labelTo_63 : decode cX3_labelTo 63 = .ok (.if_icmp .ne 7, 3) := by decide +kernel
theorem dX3_labelTo_66 : decode cX3_labelTo 66 = .ok (.iload 5, 2) := by decide +kernel
theorem dX3_labelTo_68 : decode cX3_labelTo 68 = .ok (.istore 4, 2) := by decide +kernel
theorem dX3_labelTo_70 : decode cX3_labelTo 70 = .ok (.iinc 5 1, 3) := by decide +kernel
theorem dX3_labelTo_73 : decode cX3_labelTo 73 = .ok (.goto (-24), 3) := by decide +kernel
theorem dX3_labelTo_76 : decode cX3_labelTo 76 = .ok (.iload 4, 2) := by decide +kernel
theorem dX3_labelTo_78 : decode cX3_labelTo 78 = .ok (.ireturn, 1) := by decide +kernel
theorem dX3_singles_0 : decode cX3_singles 0 = .ok (.iconst 0, 1) := by decide +kernel
theorem dX3_singles_1 : decode cX3_singles 1 = .ok (.istore_n 1, 1) := by decide +kernel
theorem dX3_singles_2 : decode cX3_singles 2 = .ok (.iconst 0, 1) := by decide +kernel
theorem dX3_singles_3 : decode cX3_singles 3 = .ok (.istore_n 2, 1) := by decide +kernel
theorem dX3_singles_4 : decode cX3_singles 4 = .ok (.iload_n 2, 1) := by decide +kernel
theorem dX3_singles_5 : decode cX3_singles 5 = .ok (.aload_n 0, 1) := by decide +kernel
theorem dX3_singles_6 : decode cX3_singles 6 = .ok (.getfield 19, 3) := by decide +kernel
theorem dX3_singles_9 : decode cX3_singles 9 = .ok (.if_icmp .ge 26, 3) := by decide +kernel
theorem dX3_singles_12 : decode cX3_singles 12 = .ok (.iload_n 1, 1) := by decide +kernel
theorem dX3_singles_13 : decode cX3_singles 13 = .ok (.aload_n 0, 1) := by decide +kernel
theorem dX3_singles_14 : decode cX3_singles 14 = .ok (.iload_n 2, 1) := by decide +kernel
theorem dX3_singles_15 : decode cX3_singles 15 = .ok (.invokevirtual 31, 3) := by decide +kernel
theorem dX3_singles_18 : decode cX3_singles 18 = .ok (.iconst 1, 1) := by decide +kernel
theorem dX3_singles_19 : decode cX3_singles 19 = .ok (.if_icmp .ne 7, 3) := by decide +kernel
theorem dX3_singles_22 : decode cX3_singles 22 = .ok (.iconst 1, 1) := by decide +kernel
theorem dX3_singles_23 : decode cX3_singles 23 = .ok (.goto 4, 3) := by decide +kernel
theorem dX3_singles_26 : decode cX3_singles 26 = .ok (.iconst 0, 1) := by decide +kernel
theorem dX3_singles_27 : decode cX3_singles 27 = .ok (.iadd, 1) := by decide +kernel
theorem dX3_singles_28 : decode cX3_singles 28 = .ok (.istore_n 1, 1) := by decide +kernel
theorem dX3_singles_29 : decode cX3_singles 29 = .ok (.iinc 2 1, 3) := by decide +kernel
theorem dX3_singles_32 : decode cX3_singles 32 = .ok (.goto (-28), 3) := by decide +kernel
theorem dX3_singles_35 : decode cX3_singles 35 = .ok (.iload_n 1, 1) := by decide +kernel
theorem dX3_singles_36 : decode cX3_singles 36 = .ok (.ireturn, 1) := by decide +kernel
theorem dX3_largest_0 : decode cX3_largest 0 = .ok (.iconst 0, 1) := by decide +kernel
theorem dX3_largest_1 : decode cX3_largest 1 = .ok (.istore_n 1, 1) := by decide +kernel
theorem dX3_largest_2 : decode cX3_largest 2 = .ok (.iconst 0, 1) := by decide +kernel
theorem dX3_largest_3 : decode cX3_largest 3 = .ok (.istore_n 2, 1) := by decide +kernel
theorem dX3_largest_4 : decode cX3_largest 4 = .ok (.iload_n 2, 1) := by decide +kernel
theorem dX3_largest_5 : decode cX3_largest 5 = .ok (.aload_n 0, 1) := by decide +kernel
theorem dX3_largest_6 : decode cX3_largest 6 = .ok (.getfield 19, 3) := by decide +kernel
theorem dX3_largest_9 : decode cX3_largest 9 = .ok (.if_icmp .ge 26, 3) := by decide +kernel
theorem dX3_largest_12 : decode cX3_largest 12 = .ok (.aload_n 0, 1) := by decide +kernel
theorem dX3_largest_13 : decode cX3_largest 13 = .ok (.iload_n 2, 1) := by decide +kernel
theorem dX3_largest_14 : decode cX3_largest 14 = .ok (.invokevirtual 31, 3) := by decide +kernel
theorem dX3_largest_17 : decode cX3_largest 17 = .ok (.istore_n 3, 1) := by decide +kernel
theorem dX3_largest_18 : decode cX3_largest 18 = .ok (.iload_n 3, 1) := by decide +kernel
theorem dX3_largest_19 : decode cX3_largest 19 = .ok (.iload_n 1, 1) := by decide +kernel
theorem dX3_largest_20 : decode cX3_largest 20 = .ok (.if_icmp .le 7, 3) := by decide +kernel
theorem dX3_largest_23 : decode cX3_largest 23 = .ok (.iload_n 3, 1) := by decide +kernel
theorem dX3_largest_24 : decode cX3_largest 24 = .ok (.goto 4, 3) := by decide +kernel
theorem dX3_largest_27 : decode cX3_largest 27 = .ok (.iload_n 1, 1) := by decide +kernel
theorem dX3_largest_28 : decode cX3_largest 28 = .ok (.istore_n 1, 1) := by decide +kernel
theorem dX3_largest_29 : decode cX3_largest 29 = .ok (.iinc 2 1, 3) := by decide +kernel
theorem dX3_largest_32 : decode cX3_largest 32 = .ok (.goto (-28), 3) := by decide +kernel
theorem dX3_largest_35 : decode cX3_largest 35 = .ok (.iload_n 1, 1) := by decide +kernel
theorem dX3_largest_36 : decode cX3_largest 36 = .ok (.ireturn, 1) := by decide +kernel
theorem dX3_pairs_0 : decode cX3_pairs 0 = .ok (.iconst 0, 1) := by decide +kernel
theorem dX3_pairs_1 : decode cX3_pairs 1 = .ok (.istore_n 1, 1) := by decide +kernel
theorem dX3_pairs_2 : decode cX3_pairs 2 = .ok (.iconst 0, 1) := by decide +kernel
theorem dX3_pairs_3 : decode cX3_pairs 3 = .ok (.istore_n 2, 1) := by decide +kernel
theorem dX3_pairs_4 : decode cX3_pairs 4 = .ok (.iload_n 2, 1) := by decide +kernel
theorem dX3_pairs_5 : decode cX3_pairs 5 = .ok (.aload_n 0, 1) := by decide +kernel
theorem dX3_pairs_6 : decode cX3_pairs 6 = .ok (.getfield 19, 3) := by decide +kernel
theorem dX3_pairs_9 : decode cX3_pairs 9 = .ok (.if_icmp .ge 21, 3) := by decide +kernel
theorem dX3_pairs_12 : decode cX3_pairs 12 = .ok (.iload_n 1, 1) := by decide +kernel
theorem dX3_pairs_13 : decode cX3_pairs 13 = .ok (.aload_n 0, 1) := by decide +kernel
theorem dX3_pairs_14 : decode cX3_pairs 14 = .ok (.iload_n 2, 1) := by decide +kernel
theorem dX3_pairs_15 : decode cX3_pairs 15 = .ok (.invokevirtual 31, 3) := by decide +kernel
theorem dX3_pairs_18 : decode cX3_pairs 18 = .ok (.iconst 2, 1) := by decide +kernel
theorem dX3_pairs_19 : decode cX3_pairs 19 = .ok (.invokestatic 35, 3) := by decide +kernel
theorem dX3_pairs_22 : decode cX3_pairs 22 = .ok (.iadd, 1) := by decide +kernel
theorem dX3_pairs_23 : decode cX3_pairs 23 = .ok (.istore_n 1, 1) := by decide +kernel
theorem dX3_pairs_24 : decode cX3_pairs 24 = .ok (.iinc 2 1, 3) := by decide +kernel
theorem dX3_pairs_27 : decode cX3_pairs 27 = .ok (.goto (-23), 3) := by decide +kernel
theorem dX3_pairs_30 : decode cX3_pairs 30 = .ok (.iload_n 1, 1) := by decide +kernel
theorem dX3_pairs_31 : decode cX3_pairs 31 = .ok (.ireturn, 1) := by decide +kernel
theorem dX3_chainsOfProduct_0 : decode cX3_chainsOfProduct 0 = .ok (.iconst 0, 1) := by decide +kernel
theorem dX3_chainsOfProduct_1 : decode cX3_chainsOfProduct 1 = .ok (.istore_n 1, 1) := by decide +kernel
theorem dX3_chainsOfProduct_2 : decode cX3_chainsOfProduct 2 = .ok (.iconst 1, 1) := by decide +kernel
theorem dX3_chainsOfProduct_3 : decode cX3_chainsOfProduct 3 = .ok (.istore_n 2, 1) := by decide +kernel
theorem dX3_chainsOfProduct_4 : decode cX3_chainsOfProduct 4 = .ok (.iconst 0, 1) := by decide +kernel
theorem dX3_chainsOfProduct_5 : decode cX3_chainsOfProduct 5 = .ok (.istore_n 3, 1) := by decide +kernel
theorem dX3_chainsOfProduct_6 : decode cX3_chainsOfProduct 6 = .ok (.iload_n 3, 1) := by decide +kernel
theorem dX3_chainsOfProduct_7 : decode cX3_chainsOfProduct 7 = .ok (.aload_n 0, 1) := by decide +kernel
theorem dX3_chainsOfProduct_8 : decode cX3_chainsOfProduct 8 = .ok (.getfield 19, 3) := by decide +kernel
theorem dX3_chainsOfProduct_11 : decode cX3_chainsOfProduct 11 = .ok (.if_icmp .ge 49, 3) := by decide +kernel
theorem dX3_chainsOfProduct_14 : decode cX3_chainsOfProduct 14 = .ok (.aload_n 0, 1) := by decide +kernel
theorem dX3_chainsOfProduct_15 : decode cX3_chainsOfProduct 15 = .ok (.iload_n 3, 1) := by decide +kernel
theorem dX3_chainsOfProduct_16 : decode cX3_chainsOfProduct 16 = .ok (.invokevirtual 23, 3) := by decide +kernel
theorem dX3_chainsOfProduct_19 : decode cX3_chainsOfProduct 19 = .ok (.ifCond .eq 35, 3) := by decide +kernel
theorem dX3_chainsOfProduct_22 : decode cX3_chainsOfProduct 22 = .ok (.aload_n 0, 1) := by decide +kernel
theorem dX3_chainsOfProduct_23 : decode cX3_chainsOfProduct 23 = .ok (.iload_n 3, 1) := by decide +kernel
theorem dX3_chainsOfProduct_24 : decode cX3_chainsOfProduct 24 = .ok (.invokevirtual 31, 3) := by decide +kernel
theorem dX3_chainsOfProduct_27 : decode cX3_chainsOfProduct 27 = .ok (.istore 4, 2) := by decide +kernel
theorem dX3_chainsOfProduct_29 : decode cX3_chainsOfProduct 29 = .ok (.iload_n 1, 1) := by decide +kernel
theorem dX3_chainsOfProduct_30 : decode cX3_chainsOfProduct 30 = .ok (.iload 4, 2) := by decide +kernel
theorem dX3_chainsOfProduct_32 : decode cX3_chainsOfProduct 32 = .ok (.iconst 1, 1) := by decide +kernel
theorem dX3_chainsOfProduct_33 : decode cX3_chainsOfProduct 33 = .ok (.isub, 1) := by decide +kernel
theorem dX3_chainsOfProduct_34 : decode cX3_chainsOfProduct 34 = .ok (.iadd, 1) := by decide +kernel
theorem dX3_chainsOfProduct_35 : decode cX3_chainsOfProduct 35 = .ok (.istore_n 1, 1) := by decide +kernel
theorem dX3_chainsOfProduct_36 : decode cX3_chainsOfProduct 36 = .ok (.iload_n 2, 1) := by decide +kernel
theorem dX3_chainsOfProduct_37 : decode cX3_chainsOfProduct 37 = .ok (.iload_n 1, 1) := by decide +kernel
theorem dX3_chainsOfProduct_38 : decode cX3_chainsOfProduct 38 = .ok (.iload 4, 2) := by decide +kernel
theorem dX3_chainsOfProduct_40 : decode cX3_chainsOfProduct 40 = .ok (.iconst 1, 1) := by decide +kernel
theorem dX3_chainsOfProduct_41 : decode cX3_chainsOfProduct 41 = .ok (.isub, 1) := by decide +kernel
theorem dX3_chainsOfProduct_42 : decode cX3_chainsOfProduct 42 = .ok (.invokestatic 35, 3) := by decide +kernel
theorem dX3_chainsOfProduct_45 : decode cX3_chainsOfProduct 45 = .ok (.getstatic 39, 3) := by decide +kernel
theorem dX3_chainsOfProduct_48 : decode cX3_chainsOfProduct 48 = .ok (.iload 4, 2) := by decide +kernel
theorem dX3_chainsOfProduct_50 : decode cX3_chainsOfProduct 50 = .ok (.iaload, 1) := by decide +kernel
theorem dX3_chainsOfProduct_51 : decode cX3_chainsOfProduct 51 = .ok (.imul, 1) := by decide +kernel
theorem dX3_chainsOfProduct_52 : decode cX3_chainsOfProduct 52 = .ok (.imul, 1) := by decide +kernel
theorem dX3_chainsOfProduct_53 : decode cX3_chainsOfProduct 53 = .ok (.istore_n 2, 1) := by decide +kernel
theorem dX3_chainsOfProduct_54 : decode cX3_chainsOfProduct 54 = .ok (.iinc 3 1, 3) := by decide +kernel
theorem dX3_chainsOfProduct_57 : decode cX3_chainsOfProduct 57 = .ok (.goto (-51), 3) := by decide +kernel
theorem dX3_chainsOfProduct_60 : decode cX3_chainsOfProduct 60 = .ok (.iload_n 2, 1) := by decide +kernel
theorem dX3_chainsOfProduct_61 : decode cX3_chainsOfProduct 61 = .ok (.ireturn, 1) := by decide +kernel
theorem dX3_moebiusOfProduct_0 : decode cX3_moebiusOfProduct 0 = .ok (.iconst 1, 1) := by decide +kernel
theorem dX3_moebiusOfProduct_1 : decode cX3_moebiusOfProduct 1 = .ok (.istore_n 1, 1) := by decide +kernel
theorem dX3_moebiusOfProduct_2 : decode cX3_moebiusOfProduct 2 = .ok (.iconst 0, 1) := by decide +kernel
theorem dX3_moebiusOfProduct_3 : decode cX3_moebiusOfProduct 3 = .ok (.istore_n 2, 1) := by decide +kernel
theorem dX3_moebiusOfProduct_4 : decode cX3_moebiusOfProduct 4 = .ok (.iload_n 2, 1) := by decide +kernel
theorem dX3_moebiusOfProduct_5 : decode cX3_moebiusOfProduct 5 = .ok (.aload_n 0, 1) := by decide +kernel
theorem dX3_moebiusOfProduct_6 : decode cX3_moebiusOfProduct 6 = .ok (.getfield 19, 3) := by decide +kernel
theorem dX3_moebiusOfProduct_9 : decode cX3_moebiusOfProduct 9 = .ok (.if_icmp .ge 51, 3) := by decide +kernel
theorem dX3_moebiusOfProduct_12 : decode cX3_moebiusOfProduct 12 = .ok (.aload_n 0, 1) := by decide +kernel
theorem dX3_moebiusOfProduct_13 : decode cX3_moebiusOfProduct 13 = .ok (.iload_n 2, 1) := by decide +kernel
theorem dX3_moebiusOfProduct_14 : decode cX3_moebiusOfProduct 14 = .ok (.invokevirtual 23, 3) := by decide +kernel
theorem dX3_moebiusOfProduct_17 : decode cX3_moebiusOfProduct 17 = .ok (.ifCond .eq 37, 3) := by decide +kernel
theorem dX3_moebiusOfProduct_20 : decode cX3_moebiusOfProduct 20 = .ok (.aload_n 0, 1) := by decide +kernel
theorem dX3_moebiusOfProduct_21 : decode cX3_moebiusOfProduct 21 = .ok (.iload_n 2, 1) := by decide +kernel
theorem dX3_moebiusOfProduct_22 : decode cX3_moebiusOfProduct 22 = .ok (.invokevirtual 31, 3) := by decide +kernel
theorem dX3_moebiusOfProduct_25 : decode cX3_moebiusOfProduct 25 = .ok (.istore_n 3, 1) := by decide +kernel
theorem dX3_moebiusOfProduct_26 : decode cX3_moebiusOfProduct 26 = .ok (.iload_n 1, 1) := by decide +kernel
theorem dX3_moebiusOfProduct_27 : decode cX3_moebiusOfProduct 27 = .ok (.iload_n 3, 1) := by decide +kernel
theorem dX3_moebiusOfProduct_28 : decode cX3_moebiusOfProduct 28 = .ok (.iconst 2, 1) := by decide +kernel
theorem dX3_moebiusOfProduct_29 : decode cX3_moebiusOfProduct 29 = .ok (.irem, 1) := by decide +kernel
theorem dX3_moebiusOfProduct_30 : decode cX3_moebiusOfProduct 30 = .ok (.iconst 1, 1) := by decide +kernel
theorem dX3_moebiusOfProduct_31 : decode cX3_moebiusOfProduct 31 = .ok (.if_icmp .ne 13, 3) := by decide +kernel
theorem dX3_moebiusOfProduct_34 : decode cX3_moebiusOfProduct 34 = .ok (.getstatic 42, 3) := by decide +kernel
theorem dX3_moebiusOfProduct_37 : decode cX3_moebiusOfProduct 37 = .ok (.iload_n 3, 1) := by decide +kernel
theorem dX3_moebiusOfProduct_38 : decode cX3_moebiusOfProduct 38 = .ok (.iconst 1, 1) := by decide +kernel
theorem dX3_moebiusOfProduct_39 : decode cX3_moebiusOfProduct 39 = .ok (.isub, 1) := by decide +kernel
theorem dX3_moebiusOfProduct_40 : decode cX3_moebiusOfProduct 40 = .ok (.iaload, 1) := by decide +kernel
theorem dX3_moebiusOfProduct_41 : decode cX3_moebiusOfProduct 41 = .ok (.goto 11, 3) := by decide +kernel
theorem dX3_moebiusOfProduct_44 : decode cX3_moebiusOfProduct 44 = .ok (.getstatic 42, 3) := by decide +kernel
theorem dX3_moebiusOfProduct_47 : decode cX3_moebiusOfProduct 47 = .ok (.iload_n 3, 1) := by decide +kernel
theorem dX3_moebiusOfProduct_48 : decode cX3_moebiusOfProduct 48 = .ok (.iconst 1, 1) := by decide +kernel
theorem dX3_moebiusOfProduct_49 : decode cX3_moebiusOfProduct 49 = .ok (.isub, 1) := by decide +kernel
theorem dX3_moebiusOfProduct_50 : decode cX3_moebiusOfProduct 50 = .ok (.iaload, 1) := by decide +kernel
theorem dX3_moebiusOfProduct_51 : decode cX3_moebiusOfProduct 51 = .ok (.ineg, 1) := by decide +kernel
theorem dX3_moebiusOfProduct_52 : decode cX3_moebiusOfProduct 52 = .ok (.imul, 1) := by decide +kernel
theorem dX3_moebiusOfProduct_53 : decode cX3_moebiusOfProduct 53 = .ok (.istore_n 1, 1) := by decide +kernel
theorem dX3_moebiusOfProduct_54 : decode cX3_moebiusOfProduct 54 = .ok (.iinc 2 1, 3) := by decide +kernel
theorem dX3_moebiusOfProduct_57 : decode cX3_moebiusOfProduct 57 = .ok (.goto (-53), 3) := by decide +kernel
theorem dX3_moebiusOfProduct_60 : decode cX3_moebiusOfProduct 60 = .ok (.iload_n 1, 1) := by decide +kernel
theorem dX3_moebiusOfProduct_61 : decode cX3_moebiusOfProduct 61 = .ok (.ireturn, 1) := by decide +kernel
theorem dX3_sizeOfProduct_0 : decode cX3_sizeOfProduct 0 = .ok (.iconst 1, 1) := by decide +kernel
theorem dX3_sizeOfProduct_1 : decode cX3_sizeOfProduct 1 = .ok (.istore_n 1, 1) := by decide +kernel
theorem dX3_sizeOfProduct_2 : decode cX3_sizeOfProduct 2 = .ok (.iconst 0, 1) := by decide +kernel
theorem dX3_sizeOfProduct_3 : decode cX3_sizeOfProduct 3 = .ok (.istore_n 2, 1) := by decide +kernel
theorem dX3_sizeOfProduct_4 : decode cX3_sizeOfProduct 4 = .ok (.iload_n 2, 1) := by decide +kernel
theorem dX3_sizeOfProduct_5 : decode cX3_sizeOfProduct 5 = .ok (.aload_n 0, 1) := by decide +kernel
theorem dX3_sizeOfProduct_6 : decode cX3_sizeOfProduct 6 = .ok (.getfield 19, 3) := by decide +kernel
theorem dX3_sizeOfProduct_9 : decode cX3_sizeOfProduct 9 = .ok (.if_icmp .ge 21, 3) := by decide +kernel
theorem dX3_sizeOfProduct_12 : decode cX3_sizeOfProduct 12 = .ok (.iload_n 1, 1) := by decide +kernel
theorem dX3_sizeOfProduct_13 : decode cX3_sizeOfProduct 13 = .ok (.getstatic 42, 3) := by decide +kernel
theorem dX3_sizeOfProduct_16 : decode cX3_sizeOfProduct 16 = .ok (.aload_n 0, 1) := by decide +kernel
theorem dX3_sizeOfProduct_17 : decode cX3_sizeOfProduct 17 = .ok (.iload_n 2, 1) := by decide +kernel
theorem dX3_sizeOfProduct_18 : decode cX3_sizeOfProduct 18 = .ok (.invokevirtual 31, 3) := by decide +kernel
theorem dX3_sizeOfProduct_21 : decode cX3_sizeOfProduct 21 = .ok (.iaload, 1) := by decide +kernel
theorem dX3_sizeOfProduct_22 : decode cX3_sizeOfProduct 22 = .ok (.imul, 1) := by decide +kernel
theorem dX3_sizeOfProduct_23 : decode cX3_sizeOfProduct 23 = .ok (.istore_n 1, 1) := by decide +kernel
theorem dX3_sizeOfProduct_24 : decode cX3_sizeOfProduct 24 = .ok (.iinc 2 1, 3) := by decide +kernel
theorem dX3_sizeOfProduct_27 : decode cX3_sizeOfProduct 27 = .ok (.goto (-23), 3) := by decide +kernel
theorem dX3_sizeOfProduct_30 : decode cX3_sizeOfProduct 30 = .ok (.iload_n 1, 1) := by decide +kernel
theorem dX3_sizeOfProduct_31 : decode cX3_sizeOfProduct 31 = .ok (.ireturn, 1) := by decide +kernel
theorem dX4_init_0 : decode cX4_init 0 = .ok (.aload_n 0, 1) := by decide +kernel
theorem dX4_init_1 : decode cX4_init 1 = .ok (.invokespecial 3, 3) := by decide +kernel
theorem dX4_init_4 : decode cX4_init 4 = .ok (.aload_n 0, 1) := by decide +kernel
theorem dX4_init_5 : decode cX4_init 5 = .ok (.bipush 6, 2) := by decide +kernel
theorem dX4_init_7 : decode cX4_init 7 = .ok (.anewarray 9, 3) := by decide +kernel
theorem dX4_init_10 : decode cX4_init 10 = .ok (.putfield 11, 3) := by decide +kernel
theorem dX4_init_13 : decode cX4_init 13 = .ok (.iconst 0, 1) := by decide +kernel
theorem dX4_init_14 : decode cX4_init 14 = .ok (.istore_n 1, 1) := by decide +kernel
theorem dX4_init_15 : decode cX4_init 15 = .ok (.iload_n 1, 1) := by decide +kernel
theorem dX4_init_16 : decode cX4_init 16 = .ok (.iconst 5, 1) := by decide +kernel
theorem dX4_init_17 : decode cX4_init 17 = .ok (.if_icmp .gt 22, 3) := by decide +kernel
theorem dX4_init_20 : decode cX4_init 20 = .ok (.aload_n 0, 1) := by decide +kernel
theorem dX4_init_21 : decode cX4_init 21 = .ok (.getfield 11, 3) := by decide +kernel
theorem dX4_init_24 : decode cX4_init 24 = .ok (.iload_n 1, 1) := by decide +kernel
theorem dX4_init_25 : decode cX4_init 25 = .ok (.new 9, 3) := by decide +kernel
theorem dX4_init_28 : decode cX4_init 28 = .ok (.dup, 1) := by decide +kernel
theorem dX4_init_29 : decode cX4_init 29 = .ok (.invokespecial 17, 3) := by decide +kernel
theorem dX4_init_32 : decode cX4_init 32 = .ok (.aastore, 1) := by decide +kernel
theorem dX4_init_33 : decode cX4_init 33 = .ok (.iinc 1 1, 3) := by decide +kernel
theorem dX4_init_36 : decode cX4_init 36 = .ok (.goto (-21), 3) := by decide +kernel
theorem dX4_init_39 : decode cX4_init 39 = .ok (.aload_n 0, 1) := by decide +kernel
theorem dX4_init_40 : decode cX4_init 40 = .ok (.iconst 0, 1) := by decide +kernel
theorem dX4_init_41 : decode cX4_init 41 = .ok (.putfield 18, 3) := by decide +kernel
theorem dX4_init_44 : decode cX4_init 44 = .ok (.aload_n 0, 1) := by decide +kernel
theorem dX4_init_45 : decode cX4_init 45 = .ok (.iconst 0, 1) := by decide +kernel
theorem dX4_init_46 : decode cX4_init 46 = .ok (.putfield 22, 3) := by decide +kernel
theorem dX4_init_49 : decode cX4_init 49 = .ok (.return_, 1) := by decide +kernel
theorem dX4_prepare_0 : decode cX4_prepare 0 = .ok (.aload_n 0, 1) := by decide +kernel
theorem dX4_prepare_1 : decode cX4_prepare 1 = .ok (.getfield 11, 3) := by decide +kernel
theorem dX4_prepare_4 : decode cX4_prepare 4 = .ok (.aload_n 0, 1) := by decide +kernel
theorem dX4_prepare_5 : decode cX4_prepare 5 = .ok (.getfield 18, 3) := by decide +kernel
theorem dX4_prepare_8 : decode cX4_prepare 8 = .ok (.aaload, 1) := by decide +kernel
theorem dX4_prepare_9 : decode cX4_prepare 9 = .ok (.aload_n 1, 1) := by decide +kernel
theorem dX4_prepare_10 : decode cX4_prepare 10 = .ok (.invokevirtual 25, 3) := by decide +kernel
theorem dX4_prepare_13 : decode cX4_prepare 13 = .ok (.return_, 1) := by decide +kernel
theorem dX4_prepared_0 : decode cX4_prepared 0 = .ok (.aload_n 0, 1) := by decide +kernel
theorem dX4_prepared_1 : decode cX4_prepared 1 = .ok (.getfield 11, 3) := by decide +kernel
theorem dX4_prepared_4 : decode cX4_prepared 4 = .ok (.aload_n 0, 1) := by decide +kernel
theorem dX4_prepared_5 : decode cX4_prepared 5 = .ok (.getfield 18, 3) := by decide +kernel
theorem dX4_prepared_8 : decode cX4_prepared 8 = .ok (.aaload, 1) := by decide +kernel
theorem dX4_prepared_9 : decode cX4_prepared 9 = .ok (.areturn, 1) := by decide +kernel
theorem dX4_keep_0 : decode cX4_keep 0 = .ok (.aload_n 0, 1) := by decide +kernel
theorem dX4_keep_1 : decode cX4_keep 1 = .ok (.aload_n 0, 1) := by decide +kernel
theorem dX4_keep_2 : decode cX4_keep 2 = .ok (.getfield 18, 3) := by decide +kernel
theorem dX4_keep_5 : decode cX4_keep 5 = .ok (.iconst 5, 1) := by decide +kernel
theorem dX4_keep_6 : decode cX4_keep 6 = .ok (.if_icmp .ge 12, 3) := by decide +kernel
theorem dX4_keep_9 : decode cX4_keep 9 = .ok (.aload_n 0, 1) := by decide +kernel
theorem dX4_keep_10 : decode cX4_keep 10 = .ok (.getfield 18, 3) := by decide +kernel
theorem dX4_keep_13 : decode cX4_keep 13 = .ok (.iconst 1, 1) := by decide +kernel
theorem dX4_keep_14 : decode cX4_keep 14 = .ok (.iadd, 1) := by decide +kernel
theorem dX4_keep_15 : decode cX4_keep 15 = .ok (.goto 4, 3) := by decide +kernel
theorem dX4_keep_18 : decode cX4_keep 18 = .ok (.iconst 0, 1) := by decide +kernel
theorem dX4_keep_19 : decode cX4_keep 19 = .ok (.putfield 18, 3) := by decide +kernel
theorem dX4_keep_22 : decode cX4_keep 22 = .ok (.aload_n 0, 1) := by decide +kernel
theorem dX4_keep_23 : decode cX4_keep 23 = .ok (.aload_n 0, 1) := by decide +kernel
theorem dX4_keep_24 : decode cX4_keep 24 = .ok (.getfield 22, 3) := by decide +kernel
theorem dX4_keep_27 : decode cX4_keep 27 = .ok (.iconst 5, 1) := by decide +kernel
theorem dX4_keep_28 : decode cX4_keep 28 = .ok (.if_icmp .ge 12, 3) := by decide +kernel
theorem dX4_keep_31 : decode cX4_keep 31 = .ok (.aload_n 0, 1) := by decide +kernel
theorem dX4_keep_32 : decode cX4_keep 32 = .ok (.getfield 22, 3) := by decide +kernel
theorem dX4_keep_35 : decode cX4_keep 35 = .ok (.iconst 1, 1) := by decide +kernel
theorem dX4_keep_36 : decode cX4_keep 36 = .ok (.iadd, 1) := by decide +kernel
theorem dX4_keep_37 : decode cX4_keep 37 = .ok (.goto 4, 3) := by decide +kernel
theorem dX4_keep_40 : decode cX4_keep 40 = .ok (.iconst 5, 1) := by decide +kernel
theorem dX4_keep_41 : decode cX4_keep 41 = .ok (.putfield 22, 3) := by decide +kernel
theorem dX4_keep_44 : decode cX4_keep 44 = .ok (.return_, 1) := by decide +kernel
theorem dX4_stepBack_0 : decode cX4_stepBack 0 = .ok (.aload_n 0, 1) := by decide +kernel
theorem dX4_stepBack_1 : decode cX4_stepBack 1 = .ok (.aload_n 0, 1) := by decide +kernel
theorem dX4_stepBack_2 : decode cX4_stepBack 2 = .ok (.getfield 18, 3) := by decide +kernel
theorem dX4_stepBack_5 : decode cX4_stepBack 5 = .ok (.ifCond .le 12, 3) := by decide +kernel
theorem dX4_stepBack_8 : decode cX4_stepBack 8 = .ok (.aload_n 0, 1) := by decide +kernel
theorem dX4_stepBack_9 : decode cX4_stepBack 9 = .ok (.getfield 18, 3) := by decide +kernel
theorem dX4_stepBack_12 : decode cX4_stepBack 12 = .ok (.iconst 1, 1) := by decide +kernel
theorem dX4_stepBack_13 : decode cX4_stepBack 13 = .ok (.isub, 1) := by decide +kernel
theorem dX4_stepBack_14 : decode cX4_stepBack 14 = .ok (.goto 4, 3) := by decide +kernel
theorem dX4_stepBack_17 : decode cX4_stepBack 17 = .ok (.iconst 5, 1) := by decide +kernel
theorem dX4_stepBack_18 : decode cX4_stepBack 18 = .ok (.putfield 18, 3) := by decide +kernel
theorem dX4_stepBack_21 : decode cX4_stepBack 21 = .ok (.aload_n 0, 1) := by decide +kernel
theorem dX4_stepBack_22 : decode cX4_stepBack 22 = .ok (.dup, 1) := by decide +kernel
theorem dX4_stepBack_23 : decode cX4_stepBack 23 = .ok (.getfield 22, 3) := by decide +kernel
theorem dX4_stepBack_26 : decode cX4_stepBack 26 = .ok (.iconst 1, 1) := by decide +kernel
theorem dX4_stepBack_27 : decode cX4_stepBack 27 = .ok (.isub, 1) := by decide +kernel
theorem dX4_stepBack_28 : decode cX4_stepBack 28 = .ok (.putfield 22, 3) := by decide +kernel
theorem dX4_stepBack_31 : decode cX4_stepBack 31 = .ok (.return_, 1) := by decide +kernel
theorem dX5_init_0 : decode cX5_init 0 = .ok (.aload_n 0, 1) := by decide +kernel
theorem dX5_init_1 : decode cX5_init 1 = .ok (.invokespecial 3, 3) := by decide +kernel
theorem dX5_init_4 : decode cX5_init 4 = .ok (.aload_n 0, 1) := by decide +kernel
theorem dX5_init_5 : decode cX5_init 5 = .ok (.bipush 9, 2) := by decide +kernel
theorem dX5_init_7 : decode cX5_init 7 = .ok (.newarray .long, 2) := by decide +kernel
theorem dX5_init_9 : decode cX5_init 9 = .ok (.putfield 9, 3) := by decide +kernel
theorem dX5_init_12 : decode cX5_init 12 = .ok (.aload_n 0, 1) := by decide +kernel
theorem dX5_init_13 : decode cX5_init 13 = .ok (.bipush 9, 2) := by decide +kernel
theorem dX5_init_15 : decode cX5_init 15 = .ok (.newarray .long, 2) := by decide +kernel
theorem dX5_init_17 : decode cX5_init 17 = .ok (.putfield 15, 3) := by decide +kernel
theorem dX5_init_20 : decode cX5_init 20 = .ok (.aload_n 0, 1) := by decide +kernel
theorem dX5_init_21 : decode cX5_init 21 = .ok (.bipush 9, 2) := by decide +kernel
theorem dX5_init_23 : decode cX5_init 23 = .ok (.newarray .long, 2) := by decide +kernel
theorem dX5_init_25 : decode cX5_init 25 = .ok (.putfield 18, 3) := by decide +kernel
theorem dX5_init_28 : decode cX5_init 28 = .ok (.aload_n 0, 1) := by decide +kernel
theorem dX5_init_29 : decode cX5_init 29 = .ok (.bipush 9, 2) := by decide +kernel
theorem dX5_init_31 : decode cX5_init 31 = .ok (.bipush 9, 2) := by decide +kernel
theorem dX5_init_33 : decode cX5_init 33 = .ok (.multianewarray 21 2, 4) := by decide +kernel
theorem dX5_init_37 : decode cX5_init 37 = .ok (.putfield 23, 3) := by decide +kernel
theorem dX5_init_40 : decode cX5_init 40 = .ok (.aload_n 0, 1) := by decide +kernel
theorem dX5_init_41 : decode cX5_init 41 = .ok (.getfield 18, 3) := by decide +kernel
theorem dX5_init_44 : decode cX5_init 44 = .ok (.iconst 0, 1) := by decide +kernel
theorem dX5_init_45 : decode cX5_init 45 = .ok (.lconst 1, 1) := by decide +kernel
theorem dX5_init_46 : decode cX5_init 46 = .ok (.lastore, 1) := by decide +kernel
theorem dX5_init_47 : decode cX5_init 47 = .ok (.aload_n 0, 1) := by decide +kernel
theorem dX5_init_48 : decode cX5_init 48 = .ok (.getfield 23, 3) := by decide +kernel
theorem dX5_init_51 : decode cX5_init 51 = .ok (.iconst 0, 1) := by decide +kernel
theorem dX5_init_52 : decode cX5_init 52 = .ok (.aaload, 1) := by decide +kernel
theorem dX5_init_53 : decode cX5_init 53 = .ok (.iconst 0, 1) := by decide +kernel
theorem dX5_init_54 : decode cX5_init 54 = .ok (.lconst 1, 1) := by decide +kernel
theorem dX5_init_55 : decode cX5_init 55 = .ok (.lastore, 1) := by decide +kernel
theorem dX5_init_56 : decode cX5_init 56 = .ok (.return_, 1) := by decide +kernel
theorem dX5_convert_0 : decode cX5_convert 0 = .ok (.iconst 1, 1) := by decide +kernel
theorem dX5_convert_1 : decode cX5_convert 1 = .ok (.istore 4, 2) := by decide +kernel
theorem dX5_convert_3 : decode cX5_convert 3 = .ok (.iload 4, 2) := by decide +kernel
theorem dX5_convert_5 : decode cX5_convert 5 = .ok (.bipush 8, 2) := by decide +kernel
theorem dX5_convert_7 : decode cX5_convert 7 = .ok (.if_icmp .gt 49, 3) := by decide +kernel
theorem dX5_convert_10 : decode cX5_convert 10 = .ok (.aload_n 0, 1) := by decide +kernel
theorem dX5_convert_11 : decode cX5_convert 11 = .ok (.getfield 15, 3) := by decide +kernel
theorem dX5_convert_14 : decode cX5_convert 14 = .ok (.iload 4, 2) := by decide +kernel
theorem dX5_convert_16 : decode cX5_convert 16 = .ok (.aload_n 1, 1) := by decide +kernel
theorem dX5_convert_17 : decode cX5_convert 17 = .ok (.iload 4, 2) := by decide +kernel
theorem dX5_convert_19 : decode cX5_convert 19 = .ok (.iconst 1, 1) := by decide +kernel
theorem dX5_convert_20 : decode cX5_convert 20 = .ok (.isub, 1) := by decide +kernel
theorem dX5_convert_21 : decode cX5_convert 21 = .ok (.iaload, 1) := by decide +kernel
theorem dX5_convert_22 : decode cX5_convert 22 = .ok (.i2l, 1) := by decide +kernel
theorem dX5_convert_23 : decode cX5_convert 23 = .ok (.lastore, 1) := by decide +kernel
theorem dX5_convert_24 : decode cX5_convert 24 = .ok (.aload_n 0, 1) := by decide +kernel
theorem dX5_convert_25 : decode cX5_convert 25 = .ok (.getfield 18, 3) := by decide +kernel
theorem dX5_convert_28 : decode cX5_convert 28 = .ok (.iload 4, 2) := by decide +kernel
theorem dX5_convert_30 : decode cX5_convert 30 = .ok (.aload_n 0, 1) := by decide +kernel
theorem dX5_convert_31 : decode cX5_convert 31 = .ok (.getfield 15, 3) := by decide +kernel
theorem dX5_convert_34 : decode cX5_convert 34 = .ok (.iload 4, 2) := by decide +kernel
theorem dX5_convert_36 : decode cX5_convert 36 = .ok (.laload, 1) := by decide +kernel
theorem dX5_convert_37 : decode cX5_convert 37 = .ok (.aload_n 0, 1) := by decide +kernel
theorem dX5_convert_38 : decode cX5_convert 38 = .ok (.iload_n 2, 1) := by decide +kernel
theorem dX5_convert_39 : decode cX5_convert 39 = .ok (.iload 4, 2) := by decide +kernel
theorem dX5_convert_41 : decode cX5_convert 41 = .ok (.aload_n 0, 1) := by decide +kernel
theorem dX5_convert_42 : decode cX5_convert 42 = .ok (.getfield 15, 3) := by decide +kernel
theorem dX5_convert_45 : decode cX5_convert 45 = .ok (.invokevirtual 26, 3) := by decide +kernel
theorem dX5_convert_48 : decode cX5_convert 48 = .ok (.ladd, 1) := by decide +kernel
theorem dX5_convert_49 : decode cX5_convert 49 = .ok (.lastore, 1) := by decide +kernel
theorem dX5_convert_50 : decode cX5_convert 50 = .ok (.iinc 4 1, 3) := by decide +kernel
theorem dX5_convert_53 : decode cX5_convert 53 = .ok (.goto (-50), 3) := by decide +kernel
theorem dX5_convert_56 : decode cX5_convert 56 = .ok (.iconst 1, 1) := by decide +kernel
theorem dX5_convert_57 : decode cX5_convert 57 = .ok (.istore 4, 2) := by decide +kernel
theorem dX5_convert_59 : decode cX5_convert 59 = .ok (.iload 4, 2) := by decide +kernel
theorem dX5_convert_61 : decode cX5_convert 61 = .ok (.bipush 8, 2) := by decide +kernel
theorem dX5_convert_63 : decode cX5_convert 63 = .ok (.if_icmp .gt 35, 3) := by decide +kernel
theorem dX5_convert_66 : decode cX5_convert 66 = .ok (.aload_n 0, 1) := by decide +kernel
theorem dX5_convert_67 : decode cX5_convert 67 = .ok (.getfield 9, 3) := by decide +kernel
theorem dX5_convert_70 : decode cX5_convert 70 = .ok (.iload 4, 2) := by decide +kernel
theorem dX5_convert_72 : decode cX5_convert 72 = .ok (.aload_n 0, 1) := by decide +kernel
theorem dX5_convert_73 : decode cX5_convert 73 = .ok (.getfield 18, 3) := by decide +kernel
theorem dX5_convert_76 : decode cX5_convert 76 = .ok (.iload 4, 2) := by decide +kernel
theorem dX5_convert_78 : decode cX5_convert 78 = .ok (.laload, 1) := by decide +kernel
theorem dX5_convert_79 : decode cX5_convert 79 = .ok (.aload_n 0, 1) := by decide +kernel
theorem dX5_convert_80 : decode cX5_convert 80 = .ok (.iload_n 3, 1) := by decide +kernel
theorem dX5_convert_81 : decode cX5_convert 81 = .ok (.iload 4, 2) := by decide +kernel
theorem dX5_convert_83 : decode cX5_convert 83 = .ok (.aload_n 0, 1) := by decide +kernel
theorem dX5_convert_84 : decode cX5_convert 84 = .ok (.getfield 9, 3) := by decide +kernel
theorem dX5_convert_87 : decode cX5_convert 87 = .ok (.invokevirtual 26, 3) := by decide +kernel
theorem dX5_convert_90 : decode cX5_convert 90 = .ok (.lsub, 1) := by decide +kernel
theorem dX5_convert_91 : decode cX5_convert 91 = .ok (.lastore, 1) := by decide +kernel
theorem dX5_convert_92 : decode cX5_convert 92 = .ok (.iinc 4 1, 3) := by decide +kernel
theorem dX5_convert_95 : decode cX5_convert 95 = .ok (.goto (-36), 3) := by decide +kernel
theorem dX5_convert_98 : decode cX5_convert 98 = .ok (.return_, 1) := by decide +kernel
theorem dX5_remainder_0 : decode cX5_remainder 0 = .ok (.iload_n 1, 1) := by decide +kernel
theorem dX5_remainder_1 : decode cX5_remainder 1 = .ok (.ifCond .ne 5, 3) := by decide +kernel
theorem dX5_remainder_4 : decode cX5_remainder 4 = .ok (.lconst 0, 1) := by decide +kernel
theorem dX5_remainder_5 : decode cX5_remainder 5 = .ok (.lreturn, 1) := by decide +kernel
theorem dX5_remainder_6 : decode cX5_remainder 6 = .ok (.iload_n 1, 1) := by decide +kernel
theorem dX5_remainder_7 : decode cX5_remainder 7 = .ok (.iconst 1, 1) := by decide +kernel
theorem dX5_remainder_8 : decode cX5_remainder 8 = .ok (.if_icmp .ne 10, 3) := by decide +kernel
theorem dX5_remainder_11 : decode cX5_remainder 11 = .ok (.aload_n 0, 1) := by decide +kernel
theorem dX5_remainder_12 : decode cX5_remainder 12 = .ok (.iload_n 2, 1) := by decide +kernel
theorem dX5_remainder_13 : decode cX5_remainder 13 = .ok (.iconst 1, 1) := by decide +kernel
theorem dX5_remainder_14 : decode cX5_remainder 14 = .ok (.isub, 1) := by decide +kernel
theorem dX5_remainder_15 : decode cX5_remainder 15 = .ok (.invokevirtual 30, 3) := by decide +kernel
theorem dX5_remainder_18 : decode cX5_remainder 18 = .ok (.lconst 0, 1) := by decide +kernel
theorem dX5_remainder_19 : decode cX5_remainder 19 = .ok (.lstore 4, 2) := by decide +kernel
theorem dX5_remainder_21 : decode cX5_remainder 21 = .ok (.iconst 1, 1) := by decide +kernel
theorem dX5_remainder_22 : decode cX5_remainder 22 = .ok (.istore 6, 2) := by decide +kernel
theorem dX5_remainder_24 : decode cX5_remainder 24 = .ok (.iload 6, 2) := by decide +kernel
theorem dX5_remainder_26 : decode cX5_remainder 26 = .ok (.iload_n 2, 1) := by decide +kernel
theorem dX5_remainder_27 : decode cX5_remainder 27 = .ok (.if_icmp .ge 46, 3) := by decide +kernel
theorem dX5_remainder_30 : decode cX5_remainder 30 = .ok (.lload 4, 2) := by decide +kernel
theorem dX5_remainder_32 : decode cX5_remainder 32 = .ok (.aload_n 3, 1) := by decide +kernel
theorem dX5_remainder_33 : decode cX5_remainder 33 = .ok (.iload 6, 2) := by decide +kernel
theorem dX5_remainder_35 : decode cX5_remainder 35 = .ok (.laload, 1) := by decide +kernel
theorem dX5_remainder_36 : decode cX5_remainder 36 = .ok (.iload_n 1, 1) := by decide +kernel
theorem dX5_remainder_37 : decode cX5_remainder 37 = .ok (.iconst 1, 1) := by decide +kernel
theorem dX5_remainder_38 : decode cX5_remainder 38 = .ok (.if_icmp .ne 18, 3) := by decide +kernel
theorem dX5_remainder_41 : decode cX5_remainder 41 = .ok (.aload_n 0, 1) := by decide +kernel
theorem dX5_remainder_42 : decode cX5_remainder 42 = .ok (.getfield 23, 3) := by decide +kernel
theorem dX5_remainder_45 : decode cX5_remainder 45 = .ok (.iload 6, 2) := by decide +kernel
theorem dX5_remainder_47 : decode cX5_remainder 47 = .ok (.aaload, 1) := by decide +kernel
theorem dX5_remainder_48 : decode cX5_remainder 48 = .ok (.iload_n 2, 1) := by decide +kernel
theorem dX5_remainder_49 : decode cX5_remainder 49 = .ok (.iload 6, 2) := by decide +kernel
theorem dX5_remainder_51 : decode cX5_remainder 51 = .ok (.isub, 1) := by decide +kernel
theorem dX5_remainder_52 : decode cX5_remainder 52 = .ok (.laload, 1) := by decide +kernel
theorem dX5_remainder_53 : decode cX5_remainder 53 = .ok (.goto 10, 3) := by decide +kernel
theorem dX5_remainder_56 : decode cX5_remainder 56 = .ok (.aload_n 0, 1) := by decide +kernel
theorem dX5_remainder_57 : decode cX5_remainder 57 = .ok (.iload_n 2, 1) := by decide +kernel
theorem dX5_remainder_58 : decode cX5_remainder 58 = .ok (.iload 6, 2) := by decide +kernel
theorem dX5_remainder_60 : decode cX5_remainder 60 = .ok (.invokevirtual 34, 3) := by decide +kernel
theorem dX5_remainder_63 : decode cX5_remainder 63 = .ok (.lmul, 1) := by decide +kernel
theorem dX5_remainder_64 : decode cX5_remainder 64 = .ok (.ladd, 1) := by decide +kernel
theorem dX5_remainder_65 : decode cX5_remainder 65 = .ok (.lstore 4, 2) := by decide +kernel
theorem dX5_remainder_67 : decode cX5_remainder 67 = .ok (.iinc 6 1, 3) := by decide +kernel
theorem dX5_remainder_70 : decode cX5_remainder 70 = .ok (.goto (-46), 3) := by decide +kernel
theorem dX5_remainder_73 : decode cX5_remainder 73 = .ok (.lload 4, 2) := by decide +kernel
theorem dX5_remainder_75 : decode cX5_remainder 75 = .ok (.lreturn, 1) := by decide +kernel
theorem dX5_besides_0 : decode cX5_besides 0 = .ok (.iload_n 1, 1) := by decide +kernel
theorem dX5_besides_1 : decode cX5_besides 1 = .ok (.iconst 1, 1) := by decide +kernel
theorem dX5_besides_2 : decode cX5_besides 2 = .ok (.isub, 1) := by decide +kernel
theorem dX5_besides_3 : decode cX5_besides 3 = .ok (.iload_n 2, 1) := by decide +kernel
theorem dX5_besides_4 : decode cX5_besides 4 = .ok (.iconst 1, 1) := by decide +kernel
theorem dX5_besides_5 : decode cX5_besides 5 = .ok (.isub, 1) := by decide +kernel
theorem dX5_besides_6 : decode cX5_besides 6 = .ok (.invokestatic 38, 3) := by decide +kernel
theorem dX5_besides_9 : decode cX5_besides 9 = .ok (.i2l, 1) := by decide +kernel
theorem dX5_besides_10 : decode cX5_besides 10 = .ok (.aload_n 0, 1) := by decide +kernel
theorem dX5_besides_11 : decode cX5_besides 11 = .ok (.getfield 18, 3) := by decide +kernel
theorem dX5_besides_14 : decode cX5_besides 14 = .ok (.iload_n 1, 1) := by decide +kernel
theorem dX5_besides_15 : decode cX5_besides 15 = .ok (.iload_n 2, 1) := by decide +kernel
theorem dX5_besides_16 : decode cX5_besides 16 = .ok (.isub, 1) := by decide +kernel
theorem dX5_besides_17 : decode cX5_besides 17 = .ok (.laload, 1) := by decide +kernel
theorem dX5_besides_18 : decode cX5_besides 18 = .ok (.lmul, 1) := by decide +kernel
theorem dX5_besides_19 : decode cX5_besides 19 = .ok (.lreturn, 1) := by decide +kernel
theorem dX5_raise_0 : decode cX5_raise 0 = .ok (.iconst 1, 1) := by decide +kernel
theorem dX5_raise_1 : decode cX5_raise 1 = .ok (.istore_n 2, 1) := by decide +kernel
theorem dX5_raise_2 : decode cX5_raise 2 = .ok (.iload_n 2, 1) := by decide +kernel
theorem dX5_raise_3 : decode cX5_raise 3 = .ok (.iload_n 1, 1) := by decide +kernel
theorem dX5_raise_4 : decode cX5_raise 4 = .ok (.iadd, 1) := by decide +kernel
theorem dX5_raise_5 : decode cX5_raise 5 = .ok (.bipush 8, 2) := by decide +kernel
theorem dX5_raise_7 : decode cX5_raise 7 = .ok (.if_icmp .gt 59, 3) := by decide +kernel
theorem dX5_raise_10 : decode cX5_raise 10 = .ok (.lconst 0, 1) := by decide +kernel
theorem dX5_raise_11 : decode cX5_raise 11 = .ok (.lstore_n 3, 1) := by decide +kernel
theorem dX5_raise_12 : decode cX5_raise 12 = .ok (.iconst 0, 1) := by decide +kernel
theorem dX5_raise_13 : decode cX5_raise 13 = .ok (.istore 5, 2) := by decide +kernel
theorem dX5_raise_15 : decode cX5_raise 15 = .ok (.iload 5, 2) := by decide +kernel
theorem dX5_raise_17 : decode cX5_raise 17 = .ok (.iload_n 1, 1) := by decide +kernel
theorem dX5_raise_18 : decode cX5_raise 18 = .ok (.if_icmp .gt 33, 3) := by decide +kernel
theorem dX5_raise_21 : decode cX5_raise 21 = .ok (.lload_n 3, 1) := by decide +kernel
theorem dX5_raise_22 : decode cX5_raise 22 = .ok (.aload_n 0, 1) := by decide +kernel
theorem dX5_raise_23 : decode cX5_raise 23 = .ok (.getfield 18, 3) := by decide +kernel
theorem dX5_raise_26 : decode cX5_raise 26 = .ok (.iload 5, 2) := by decide +kernel
theorem dX5_raise_28 : decode cX5_raise 28 = .ok (.laload, 1) := by decide +kernel
theorem dX5_raise_29 : decode cX5_raise 29 = .ok (.aload_n 0, 1) := by decide +kernel
theorem dX5_raise_30 : decode cX5_raise 30 = .ok (.getfield 23, 3) := by decide +kernel
theorem dX5_raise_33 : decode cX5_raise 33 = .ok (.iload_n 2, 1) := by decide +kernel
theorem dX5_raise_34 : decode cX5_raise 34 = .ok (.iconst 1, 1) := by decide +kernel
theorem dX5_raise_35 : decode cX5_raise 35 = .ok (.isub, 1) := by decide +kernel
theorem dX5_raise_36 : decode cX5_raise 36 = .ok (.aaload, 1) := by decide +kernel
theorem dX5_raise_37 : decode cX5_raise 37 = .ok (.iload_n 1, 1) := by decide +kernel
theorem dX5_raise_38 : decode cX5_raise 38 = .ok (.iload 5, 2) := by decide +kernel
theorem dX5_raise_40 : decode cX5_raise 40 = .ok (.isub, 1) := by decide +kernel
theorem dX5_raise_41 : decode cX5_raise 41 = .ok (.laload, 1) := by decide +kernel
theorem dX5_raise_42 : decode cX5_raise 42 = .ok (.lmul, 1) := by decide +kernel
theorem dX5_raise_43 : decode cX5_raise 43 = .ok (.ladd, 1) := by decide +kernel
theorem dX5_raise_44 : decode cX5_raise 44 = .ok (.lstore_n 3, 1) := by decide +kernel
theorem dX5_raise_45 : decode cX5_raise 45 = .ok (.iinc 5 1, 3) := by decide +kernel
theorem dX5_raise_48 : decode cX5_raise 48 = .ok (.goto (-33), 3) := by decide +kernel
theorem dX5_raise_51 : decode cX5_raise 51 = .ok (.aload_n 0, 1) := by decide +kernel
theorem dX5_raise_52 : decode cX5_raise 52 = .ok (.getfield 23, 3) := by decide +kernel
theorem dX5_raise_55 : decode cX5_raise 55 = .ok (.iload_n 2, 1) := by decide +kernel
theorem dX5_raise_56 : decode cX5_raise 56 = .ok (.aaload, 1) := by decide +kernel
theorem dX5_raise_57 : decode cX5_raise 57 = .ok (.iload_n 1, 1) := by decide +kernel
theorem dX5_raise_58 : decode cX5_raise 58 = .ok (.lload_n 3, 1) := by decide +kernel
theorem dX5_raise_59 : decode cX5_raise 59 = .ok (.lastore, 1) := by decide +kernel
theorem dX5_raise_60 : decode cX5_raise 60 = .ok (.iinc 2 1, 3) := by decide +kernel
theorem dX5_raise_63 : decode cX5_raise 63 = .ok (.goto (-61), 3) := by decide +kernel
theorem dX5_raise_66 : decode cX5_raise 66 = .ok (.return_, 1) := by decide +kernel
theorem dX6_init_0 : decode cX6_init 0 = .ok (.aload_n 0, 1) := by decide +kernel
theorem dX6_init_1 : decode cX6_init 1 = .ok (.invokespecial 3, 3) := by decide +kernel
theorem dX6_init_4 : decode cX6_init 4 = .ok (.aload_n 0, 1) := by decide +kernel
theorem dX6_init_5 : decode cX6_init 5 = .ok (.iconst 4, 1) := by decide +kernel
theorem dX6_init_6 : decode cX6_init 6 = .ok (.putfield 9, 3) := by decide +kernel
theorem dX6_init_9 : decode cX6_init 9 = .ok (.aload_n 0, 1) := by decide +kernel
theorem dX6_init_10 : decode cX6_init 10 = .ok (.bipush 6, 2) := by decide +kernel
theorem dX6_init_12 : decode cX6_init 12 = .ok (.anewarray 15, 3) := by decide +kernel
theorem dX6_init_15 : decode cX6_init 15 = .ok (.putfield 17, 3) := by decide +kernel
theorem dX6_init_18 : decode cX6_init 18 = .ok (.iconst 0, 1) := by decide +kernel
theorem dX6_init_19 : decode cX6_init 19 = .ok (.istore_n 1, 1) := by decide +kernel
theorem dX6_init_20 : decode cX6_init 20 = .ok (.iload_n 1, 1) := by decide +kernel
theorem dX6_init_21 : decode cX6_init 21 = .ok (.bipush 6, 2) := by decide +kernel
theorem dX6_init_23 : decode cX6_init 23 = .ok (.if_icmp .ge 22, 3) := by decide +kernel
theorem dX6_init_26 : decode cX6_init 26 = .ok (.aload_n 0, 1) := by decide +kernel
theorem dX6_init_27 : decode cX6_init 27 = .ok (.getfield 17, 3) := by decide +kernel
theorem dX6_init_30 : decode cX6_init 30 = .ok (.iload_n 1, 1) := by decide +kernel
theorem dX6_init_31 : decode cX6_init 31 = .ok (.new 15, 3) := by decide +kernel
theorem dX6_init_34 : decode cX6_init 34 = .ok (.dup, 1) := by decide +kernel
theorem dX6_init_35 : decode cX6_init 35 = .ok (.invokespecial 21, 3) := by decide +kernel
theorem dX6_init_38 : decode cX6_init 38 = .ok (.aastore, 1) := by decide +kernel
theorem dX6_init_39 : decode cX6_init 39 = .ok (.iinc 1 1, 3) := by decide +kernel
theorem dX6_init_42 : decode cX6_init 42 = .ok (.goto (-22), 3) := by decide +kernel
theorem dX6_init_45 : decode cX6_init 45 = .ok (.aload_n 0, 1) := by decide +kernel
theorem dX6_init_46 : decode cX6_init 46 = .ok (.bipush 8, 2) := by decide +kernel
theorem dX6_init_48 : decode cX6_init 48 = .ok (.newarray .int, 2) := by decide +kernel
theorem dX6_init_50 : decode cX6_init 50 = .ok (.putfield 22, 3) := by decide +kernel
theorem dX6_init_53 : decode cX6_init 53 = .ok (.return_, 1) := by decide +kernel
theorem dX6_copy_0 : decode cX6_copy 0 = .ok (.aload_n 0, 1) := by decide +kernel
theorem dX6_copy_1 : decode cX6_copy 1 = .ok (.aload_n 1, 1) := by decide +kernel
theorem dX6_copy_2 : decode cX6_copy 2 = .ok (.getfield 9, 3) := by decide +kernel
theorem dX6_copy_5 : decode cX6_copy 5 = .ok (.putfield 9, 3) := by decide +kernel
theorem dX6_copy_8 : decode cX6_copy 8 = .ok (.iconst 0, 1) := by decide +kernel
theorem dX6_copy_9 : decode cX6_copy 9 = .ok (.istore_n 2, 1) := by decide +kernel
theorem dX6_copy_10 : decode cX6_copy 10 = .ok (.iload_n 2, 1) := by decide +kernel
theorem dX6_copy_11 : decode cX6_copy 11 = .ok (.bipush 6, 2) := by decide +kernel
theorem dX6_copy_13 : decode cX6_copy 13 = .ok (.if_icmp .ge 24, 3) := by decide +kernel
theorem dX6_copy_16 : decode cX6_copy 16 = .ok (.aload_n 0, 1) := by decide +kernel
theorem dX6_copy_17 : decode cX6_copy 17 = .ok (.getfield 17, 3) := by decide +kernel
theorem dX6_copy_20 : decode cX6_copy 20 = .ok (.iload_n 2, 1) := by decide +kernel
theorem dX6_copy_21 : decode cX6_copy 21 = .ok (.aaload, 1) := by decide +kernel
theorem dX6_copy_22 : decode cX6_copy 22 = .ok (.aload_n 1, 1) := by decide +kernel
theorem dX6_copy_23 : decode cX6_copy 23 = .ok (.getfield 17, 3) := by decide +kernel
theorem dX6_copy_26 : decode cX6_copy 26 = .ok (.iload_n 2, 1) := by decide +kernel
theorem dX6_copy_27 : decode cX6_copy 27 = .ok (.aaload, 1) := by decide +kernel
theorem dX6_copy_28 : decode cX6_copy 28 = .ok (.invokevirtual 26, 3) := by decide +kernel
theorem dX6_copy_31 : decode cX6_copy 31 = .ok (.iinc 2 1, 3) := by decide +kernel
theorem dX6_copy_34 : decode cX6_copy 34 = .ok (.goto (-24), 3) := by decide +kernel
theorem dX6_copy_37 : decode cX6_copy 37 = .ok (.iconst 0, 1) := by decide +kernel
theorem dX6_copy_38 : decode cX6_copy 38 = .ok (.istore_n 2, 1) := by decide +kernel
theorem dX6_copy_39 : decode cX6_copy 39 = .ok (.iload_n 2, 1) := by decide +kernel
theorem dX6_copy_40 : decode cX6_copy 40 = .ok (.bipush 8, 2) := by decide +kernel
theorem dX6_copy_42 : decode cX6_copy 42 = .ok (.if_icmp .ge 21, 3) := by decide +kernel
theorem dX6_copy_45 : decode cX6_copy 45 = .ok (.aload_n 0, 1) := by decide +kernel
theorem dX6_copy_46 : decode cX6_copy 46 = .ok (.getfield 22, 3) := by decide +kernel
theorem dX6_copy_49 : decode cX6_copy 49 = .ok (.iload_n 2, 1) := by decide +kernel
theorem dX6_copy_50 : decode cX6_copy 50 = .ok (.aload_n 1, 1) := by decide +kernel
theorem dX6_copy_51 : decode cX6_copy 51 = .ok (.getfield 22, 3) := by decide +kernel
theorem dX6_copy_54 : decode cX6_copy 54 = .ok (.iload_n 2, 1) := by decide +kernel
theorem dX6_copy_55 : decode cX6_copy 55 = .ok (.iaload, 1) := by decide +kernel
theorem dX6_copy_56 : decode cX6_copy 56 = .ok (.iastore, 1) := by decide +kernel
theorem dX6_copy_57 : decode cX6_copy 57 = .ok (.iinc 2 1, 3) := by decide +kernel
theorem dX6_copy_60 : decode cX6_copy 60 = .ok (.goto (-21), 3) := by decide +kernel
theorem dX6_copy_63 : decode cX6_copy 63 = .ok (.return_, 1) := by decide +kernel
theorem dX7_init_0 : decode cX7_init 0 = .ok (.aload_n 0, 1) := by decide +kernel
theorem dX7_init_1 : decode cX7_init 1 = .ok (.invokespecial 1, 3) := by decide +kernel
theorem dX7_init_4 : decode cX7_init 4 = .ok (.aload_n 0, 1) := by decide +kernel
theorem dX7_init_5 : decode cX7_init 5 = .ok (.new 7, 3) := by decide +kernel
theorem dX7_init_8 : decode cX7_init 8 = .ok (.dup, 1) := by decide +kernel
theorem dX7_init_9 : decode cX7_init 9 = .ok (.invokespecial 9, 3) := by decide +kernel
theorem dX7_init_12 : decode cX7_init 12 = .ok (.putfield 10, 3) := by decide +kernel
theorem dX7_init_15 : decode cX7_init 15 = .ok (.aload_n 0, 1) := by decide +kernel
theorem dX7_init_16 : decode cX7_init 16 = .ok (.new 16, 3) := by decide +kernel
theorem dX7_init_19 : decode cX7_init 19 = .ok (.dup, 1) := by decide +kernel
theorem dX7_init_20 : decode cX7_init 20 = .ok (.invokespecial 18, 3) := by decide +kernel
theorem dX7_init_23 : decode cX7_init 23 = .ok (.putfield 19, 3) := by decide +kernel
theorem dX7_init_26 : decode cX7_init 26 = .ok (.aload_n 0, 1) := by decide +kernel
theorem dX7_init_27 : decode cX7_init 27 = .ok (.new 23, 3) := by decide +kernel
theorem dX7_init_30 : decode cX7_init 30 = .ok (.dup, 1) := by decide +kernel
theorem dX7_init_31 : decode cX7_init 31 = .ok (.invokespecial 25, 3) := by decide +kernel
theorem dX7_init_34 : decode cX7_init 34 = .ok (.putfield 26, 3) := by decide +kernel
theorem dX7_init_37 : decode cX7_init 37 = .ok (.aload_n 0, 1) := by decide +kernel
theorem dX7_init_38 : decode cX7_init 38 = .ok (.new 30, 3) := by decide +kernel
theorem dX7_init_41 : decode cX7_init 41 = .ok (.dup, 1) := by decide +kernel
theorem dX7_init_42 : decode cX7_init 42 = .ok (.invokespecial 32, 3) := by decide +kernel
theorem dX7_init_45 : decode cX7_init 45 = .ok (.putfield 33, 3) := by decide +kernel
theorem dX7_init_48 : decode cX7_init 48 = .ok (.aload_n 0, 1) := by decide +kernel
theorem dX7_init_49 : decode cX7_init 49 = .ok (.iconst 0, 1) := by decide +kernel
theorem dX7_init_50 : decode cX7_init 50 = .ok (.putfield 37, 3) := by decide +kernel
theorem dX7_init_53 : decode cX7_init 53 = .ok (.aload_n 0, 1) := by decide +kernel
theorem dX7_init_54 : decode cX7_init 54 = .ok (.iconst 0, 1) := by decide +kernel
theorem dX7_init_55 : decode cX7_init 55 = .ok (.putfield 41, 3) := by decide +kernel
theorem dX7_init_58 : decode cX7_init 58 = .ok (.aload_n 0, 1) := by decide +kernel
theorem dX7_init_59 : decode cX7_init 59 = .ok (.iconst 0, 1) := by decide +kernel
theorem dX7_init_60 : decode cX7_init 60 = .ok (.putfield 44, 3) := by decide +kernel
theorem dX7_init_63 : decode cX7_init 63 = .ok (.return_, 1) := by decide +kernel
theorem dX7_points_0 : decode cX7_points 0 = .ok (.aload_n 0, 1) := by decide +kernel
theorem dX7_points_1 : decode cX7_points 1 = .ok (.getfield 19, 3) := by decide +kernel
theorem dX7_points_4 : decode cX7_points 4 = .ok (.aload_n 0, 1) := by decide +kernel
theorem dX7_points_5 : decode cX7_points 5 = .ok (.getfield 10, 3) := by decide +kernel
theorem dX7_points_8 : decode cX7_points 8 = .ok (.getfield 47, 3) := by decide +kernel
theorem dX7_points_11 : decode cX7_points 11 = .ok (.invokevirtual 51, 3) := by decide +kernel
theorem dX7_points_14 : decode cX7_points 14 = .ok (.aload_n 0, 1) := by decide +kernel
theorem dX7_points_15 : decode cX7_points 15 = .ok (.aload_n 0, 1) := by decide +kernel
theorem dX7_points_16 : decode cX7_points 16 = .ok (.getfield 10, 3) := by decide +kernel
theorem dX7_points_19 : decode cX7_points 19 = .ok (.iload_n 1, 1) := by decide +kernel
theorem dX7_points_20 : decode cX7_points 20 = .ok (.invokevirtual 55, 3) := by decide +kernel
theorem dX7_points_23 : decode cX7_points 23 = .ok (.invokevirtual 59, 3) := by decide +kernel
theorem dX7_points_26 : decode cX7_points 26 = .ok (.ireturn, 1) := by decide +kernel
theorem dX7_puts_0 : decode cX7_puts 0 = .ok (.aload_n 0, 1) := by decide +kernel
theorem dX7_puts_1 : decode cX7_puts 1 = .ok (.getfield 19, 3) := by decide +kernel
theorem dX7_puts_4 : decode cX7_puts 4 = .ok (.aload_n 0, 1) := by decide +kernel
theorem dX7_puts_5 : decode cX7_puts 5 = .ok (.getfield 10, 3) := by decide +kernel
theorem dX7_puts_8 : decode cX7_puts 8 = .ok (.getfield 47, 3) := by decide +kernel
theorem dX7_puts_11 : decode cX7_puts 11 = .ok (.invokevirtual 51, 3) := by decide +kernel
theorem dX7_puts_14 : decode cX7_puts 14 = .ok (.aload_n 0, 1) := by decide +kernel
theorem dX7_puts_15 : decode cX7_puts 15 = .ok (.aload_n 0, 1) := by decide +kernel
theorem dX7_puts_16 : decode cX7_puts 16 = .ok (.getfield 10, 3) := by decide +kernel
theorem dX7_puts_19 : decode cX7_puts 19 = .ok (.iload_n 1, 1) := by decide +kernel
theorem dX7_puts_20 : decode cX7_puts 20 = .ok (.iload_n 2, 1) := by decide +kernel
theorem dX7_puts_21 : decode cX7_puts 21 = .ok (.iload_n 3, 1) := by decide +kernel
theorem dX7_puts_22 : decode cX7_puts 22 = .ok (.invokevirtual 62, 3) := by decide +kernel
theorem dX7_puts_25 : decode cX7_puts 25 = .ok (.invokevirtual 59, 3) := by decide +kernel
theorem dX7_puts_28 : decode cX7_puts 28 = .ok (.ireturn, 1) := by decide +kernel
theorem dX7_meets_0 : decode cX7_meets 0 = .ok (.aload_n 0, 1) := by decide +kernel
theorem dX7_meets_1 : decode cX7_meets 1 = .ok (.getfield 19, 3) := by decide +kernel
theorem dX7_meets_4 : decode cX7_meets 4 = .ok (.aload_n 0, 1) := by decide +kernel
theorem dX7_meets_5 : decode cX7_meets 5 = .ok (.getfield 10, 3) := by decide +kernel
theorem dX7_meets_8 : decode cX7_meets 8 = .ok (.getfield 47, 3) := by decide +kernel
theorem dX7_meets_11 : decode cX7_meets 11 = .ok (.invokevirtual 51, 3) := by decide +kernel
theorem dX7_meets_14 : decode cX7_meets 14 = .ok (.aload_n 0, 1) := by decide +kernel
theorem dX7_meets_15 : decode cX7_meets 15 = .ok (.aload_n 0, 1) := by decide +kernel
theorem dX7_meets_16 : decode cX7_meets 16 = .ok (.getfield 10, 3) := by decide +kernel
theorem dX7_meets_19 : decode cX7_meets 19 = .ok (.iload_n 1, 1) := by decide +kernel
theorem dX7_meets_20 : decode cX7_meets 20 = .ok (.iload_n 2, 1) := by decide +kernel
theorem dX7_meets_21 : decode cX7_meets 21 = .ok (.iload_n 3, 1) := by decide +kernel
theorem dX7_meets_22 : decode cX7_meets 22 = .ok (.invokevirtual 66, 3) := by decide +kernel
theorem dX7_meets_25 : decode cX7_meets 25 = .ok (.invokevirtual 59, 3) := by decide +kernel
theorem dX7_meets_28 : decode cX7_meets 28 = .ok (.ireturn, 1) := by decide +kernel
theorem dX7_joins_0 : decode cX7_joins 0 = .ok (.aload_n 0, 1) := by decide +kernel
theorem dX7_joins_1 : decode cX7_joins 1 = .ok (.getfield 19, 3) := by decide +kernel
theorem dX7_joins_4 : decode cX7_joins 4 = .ok (.aload_n 0, 1) := by decide +kernel
theorem dX7_joins_5 : decode cX7_joins 5 = .ok (.getfield 10, 3) := by decide +kernel
theorem dX7_joins_8 : decode cX7_joins 8 = .ok (.getfield 47, 3) := by decide +kernel
theorem dX7_joins_11 : decode cX7_joins 11 = .ok (.invokevirtual 51, 3) := by decide +kernel
theorem dX7_joins_14 : decode cX7_joins 14 = .ok (.aload_n 0, 1) := by decide +kernel
theorem dX7_joins_15 : decode cX7_joins 15 = .ok (.aload_n 0, 1) := by decide +kernel
theorem dX7_joins_16 : decode cX7_joins 16 = .ok (.getfield 10, 3) := by decide +kernel
theorem dX7_joins_19 : decode cX7_joins 19 = .ok (.iload_n 1, 1) := by decide +kernel
theorem dX7_joins_20 : decode cX7_joins 20 = .ok (.iload_n 2, 1) := by decide +kernel
theorem dX7_joins_21 : decode cX7_joins 21 = .ok (.iload_n 3, 1) := by decide +kernel
theorem dX7_joins_22 : decode cX7_joins 22 = .ok (.invokevirtual 69, 3) := by decide +kernel
theorem dX7_joins_25 : decode cX7_joins 25 = .ok (.invokevirtual 59, 3) := by decide +kernel
theorem dX7_joins_28 : decode cX7_joins 28 = .ok (.ireturn, 1) := by decide +kernel
theorem dX7_complements_0 : decode cX7_complements 0 = .ok (.aload_n 0, 1) := by decide +kernel
theorem dX7_complements_1 : decode cX7_complements 1 = .ok (.getfield 19, 3) := by decide +kernel
theorem dX7_complements_4 : decode cX7_complements 4 = .ok (.aload_n 0, 1) := by decide +kernel
theorem dX7_complements_5 : decode cX7_complements 5 = .ok (.getfield 10, 3) := by decide +kernel
theorem dX7_complements_8 : decode cX7_complements 8 = .ok (.getfield 47, 3) := by decide +kernel
theorem dX7_complements_11 : decode cX7_complements 11 = .ok (.invokevirtual 51, 3) := by decide +kernel
theorem dX7_complements_14 : decode cX7_complements 14 = .ok (.aload_n 0, 1) := by decide +kernel
theorem dX7_complements_15 : decode cX7_complements 15 = .ok (.aload_n 0, 1) := by decide +kernel
theorem dX7_complements_16 : decode cX7_complements 16 = .ok (.getfield 10, 3) := by decide +kernel
theorem dX7_complements_19 : decode cX7_complements 19 = .ok (.iload_n 1, 1) := by decide +kernel
theorem dX7_complements_20 : decode cX7_complements 20 = .ok (.iload_n 2, 1) := by decide +kernel
theorem dX7_complements_21 : decode cX7_complements 21 = .ok (.invokevirtual 72, 3) := by decide +kernel
theorem dX7_complements_24 : decode cX7_complements 24 = .ok (.invokevirtual 59, 3) := by decide +kernel
theorem dX7_complements_27 : decode cX7_complements 27 = .ok (.ireturn, 1) := by decide +kernel
theorem dX7_turns_0 : decode cX7_turns 0 = .ok (.aload_n 0, 1) := by decide +kernel
theorem dX7_turns_1 : decode cX7_turns 1 = .ok (.getfield 19, 3) := by decide +kernel
theorem dX7_turns_4 : decode cX7_turns 4 = .ok (.aload_n 0, 1) := by decide +kernel
theorem dX7_turns_5 : decode cX7_turns 5 = .ok (.getfield 10, 3) := by decide +kernel
theorem dX7_turns_8 : decode cX7_turns 8 = .ok (.getfield 47, 3) := by decide +kernel
theorem dX7_turns_11 : decode cX7_turns 11 = .ok (.invokevirtual 51, 3) := by decide +kernel
theorem dX7_turns_14 : decode cX7_turns 14 = .ok (.aload_n 0, 1) := by decide +kernel
theorem dX7_turns_15 : decode cX7_turns 15 = .ok (.aload_n 0, 1) := by decide +kernel
theorem dX7_turns_16 : decode cX7_turns 16 = .ok (.getfield 10, 3) := by decide +kernel
theorem dX7_turns_19 : decode cX7_turns 19 = .ok (.iload_n 1, 1) := by decide +kernel
theorem dX7_turns_20 : decode cX7_turns 20 = .ok (.iload_n 2, 1) := by decide +kernel
theorem dX7_turns_21 : decode cX7_turns 21 = .ok (.invokevirtual 76, 3) := by decide +kernel
theorem dX7_turns_24 : decode cX7_turns 24 = .ok (.invokevirtual 59, 3) := by decide +kernel
theorem dX7_turns_27 : decode cX7_turns 27 = .ok (.ireturn, 1) := by decide +kernel
theorem dX7_takes_0 : decode cX7_takes 0 = .ok (.aload_n 0, 1) := by decide +kernel
theorem dX7_takes_1 : decode cX7_takes 1 = .ok (.getfield 19, 3) := by decide +kernel
theorem dX7_takes_4 : decode cX7_takes 4 = .ok (.aload_n 0, 1) := by decide +kernel
theorem dX7_takes_5 : decode cX7_takes 5 = .ok (.getfield 10, 3) := by decide +kernel
theorem dX7_takes_8 : decode cX7_takes 8 = .ok (.getfield 47, 3) := by decide +kernel
theorem dX7_takes_11 : decode cX7_takes 11 = .ok (.invokevirtual 51, 3) := by decide +kernel
theorem dX7_takes_14 : decode cX7_takes 14 = .ok (.aload_n 0, 1) := by decide +kernel
theorem dX7_takes_15 : decode cX7_takes 15 = .ok (.aload_n 0, 1) := by decide +kernel
theorem dX7_takes_16 : decode cX7_takes 16 = .ok (.getfield 10, 3) := by decide +kernel
theorem dX7_takes_19 : decode cX7_takes 19 = .ok (.iload_n 1, 1) := by decide +kernel
theorem dX7_takes_20 : decode cX7_takes 20 = .ok (.iload_n 2, 1) := by decide +kernel
theorem dX7_takes_21 : decode cX7_takes 21 = .ok (.invokevirtual 79, 3) := by decide +kernel
theorem dX7_takes_24 : decode cX7_takes 24 = .ok (.invokevirtual 59, 3) := by decide +kernel
theorem dX7_takes_27 : decode cX7_takes 27 = .ok (.ireturn, 1) := by decide +kernel
theorem dX7_of_0 : decode cX7_of 0 = .ok (.iload_n 1, 1) := by decide +kernel
theorem dX7_of_1 : decode cX7_of 1 = .ok (.invokestatic 82, 3) := by decide +kernel
theorem dX7_of_4 : decode cX7_of 4 = .ok (.ifCond .eq 13, 3) := by decide +kernel
theorem dX7_of_7 : decode cX7_of 7 = .ok (.iload_n 2, 1) := by decide +kernel
theorem dX7_of_8 : decode cX7_of 8 = .ok (.ifCond .lt 9, 3) := by decide +kernel
theorem dX7_of_11 : decode cX7_of 11 = .ok (.iload_n 2, 1) := by decide +kernel
theorem dX7_of_12 : decode cX7_of 12 = .ok (.bipush 6, 2) := by decide +kernel
theorem dX7_of_14 : decode cX7_of 14 = .ok (.if_icmp .lt 8, 3) := by decide +kernel
theorem dX7_of_17 : decode cX7_of 17 = .ok (.aload_n 0, 1) := by decide +kernel
theorem dX7_of_18 : decode cX7_of 18 = .ok (.invokevirtual 86, 3) := by decide +kernel
theorem dX7_of_21 : decode cX7_of 21 = .ok (.ireturn, 1) := by decide +kernel
theorem dX7_of_22 : decode cX7_of 22 = .ok (.aload_n 0, 1) := by decide +kernel
theorem dX7_of_23 : decode cX7_of 23 = .ok (.getfield 10, 3) := by decide +kernel
theorem dX7_of_26 : decode cX7_of 26 = .ok (.iload_n 1, 1) := by decide +kernel
theorem dX7_of_27 : decode cX7_of 27 = .ok (.iload_n 2, 1) := by decide +kernel
theorem dX7_of_28 : decode cX7_of 28 = .ok (.invokevirtual 90, 3) := by decide +kernel
theorem dX7_of_31 : decode cX7_of 31 = .ok (.ireturn, 1) := by decide +kernel
theorem dX7_row_0 : decode cX7_row 0 = .ok (.iload_n 1, 1) := by decide +kernel
theorem dX7_row_1 : decode cX7_row 1 = .ok (.invokestatic 82, 3) := by decide +kernel
theorem dX7_row_4 : decode cX7_row 4 = .ok (.ifCond .eq 14, 3) := by decide +kernel
theorem dX7_row_7 : decode cX7_row 7 = .ok (.aload_n 0, 1) := by decide +kernel
theorem dX7_row_8 : decode cX7_row 8 = .ok (.getfield 10, 3) := by decide +kernel
theorem dX7_row_11 : decode cX7_row 11 = .ok (.iload_n 2, 1) := by decide +kernel
theorem dX7_row_12 : decode cX7_row 12 = .ok (.invokevirtual 93, 3) := by decide +kernel
theorem dX7_row_15 : decode cX7_row 15 = .ok (.ifCond .ne 8, 3) := by decide +kernel
theorem dX7_row_18 : decode cX7_row 18 = .ok (.aload_n 0, 1) := by decide +kernel
theorem dX7_row_19 : decode cX7_row 19 = .ok (.invokevirtual 86, 3) := by decide +kernel
theorem dX7_row_22 : decode cX7_row 22 = .ok (.ireturn, 1) := by decide +kernel
theorem dX7_row_23 : decode cX7_row 23 = .ok (.aload_n 0, 1) := by decide +kernel
theorem dX7_row_24 : decode cX7_row 24 = .ok (.getfield 10, 3) := by decide +kernel
theorem dX7_row_27 : decode cX7_row 27 = .ok (.iload_n 1, 1) := by decide +kernel
theorem dX7_row_28 : decode cX7_row 28 = .ok (.invokevirtual 96, 3) := by decide +kernel
theorem dX7_row_31 : decode cX7_row 31 = .ok (.getfield 100, 3) := by decide +kernel
theorem dX7_row_34 : decode cX7_row 34 = .ok (.iload_n 2, 1) := by decide +kernel
theorem dX7_row_35 : decode cX7_row 35 = .ok (.iaload, 1) := by decide +kernel
theorem dX7_row_36 : decode cX7_row 36 = .ok (.ireturn, 1) := by decide +kernel
theorem dX7_below_0 : decode cX7_below 0 = .ok (.iload_n 1, 1) := by decide +kernel
theorem dX7_below_1 : decode cX7_below 1 = .ok (.invokestatic 82, 3) := by decide +kernel
theorem dX7_below_4 : decode cX7_below 4 = .ok (.ifCond .eq 10, 3) := by decide +kernel
theorem dX7_below_7 : decode cX7_below 7 = .ok (.iload_n 2, 1) := by decide +kernel
theorem dX7_below_8 : decode cX7_below 8 = .ok (.invokestatic 82, 3) := by decide +kernel
theorem dX7_below_11 : decode cX7_below 11 = .ok (.ifCond .ne 8, 3) := by decide +kernel
theorem dX7_below_14 : decode cX7_below 14 = .ok (.aload_n 0, 1) := by decide +kernel
theorem dX7_below_15 : decode cX7_below 15 = .ok (.invokevirtual 86, 3) := by decide +kernel
theorem dX7_below_18 : decode cX7_below 18 = .ok (.ireturn, 1) := by decide +kernel
theorem dX7_below_19 : decode cX7_below 19 = .ok (.aload_n 0, 1) := by decide +kernel
theorem dX7_below_20 : decode cX7_below 20 = .ok (.getfield 10, 3) := by decide +kernel
theorem dX7_below_23 : decode cX7_below 23 = .ok (.iload_n 1, 1) := by decide +kernel
theorem dX7_below_24 : decode cX7_below 24 = .ok (.invokevirtual 96, 3) := by decide +kernel
theorem dX7_below_27 : decode cX7_below 27 = .ok (.aload_n 0, 1) := by decide +kernel
theorem dX7_below_28 : decode cX7_below 28 = .ok (.getfield 10, 3) := by decide +kernel
theorem dX7_below_31 : decode cX7_below 31 = .ok (.iload_n 2, 1) := by decide +kernel
theorem dX7_below_32 : decode cX7_below 32 = .ok (.invokevirtual 96, 3) := by decide +kernel
theorem dX7_below_35 : decode cX7_below 35 = .ok (.invokevirtual 106, 3) := by decide +kernel
theorem dX7_below_38 : decode cX7_below 38 = .ok (.ifCond .eq 7, 3) := by decide +kernel
theorem dX7_below_41 : decode cX7_below 41 = .ok (.iconst 1, 1) := by decide +kernel
theorem dX7_below_42 : decode cX7_below 42 = .ok (.goto 4, 3) := by decide +kernel
theorem dX7_below_45 : decode cX7_below 45 = .ok (.iconst 0, 1) := by decide +kernel
theorem dX7_below_46 : decode cX7_below 46 = .ok (.ireturn, 1) := by decide +kernel
theorem dX7_count_0 : decode cX7_count 0 = .ok (.iload_n 1, 1) := by decide +kernel
theorem dX7_count_1 : decode cX7_count 1 = .ok (.ifCond .lt 9, 3) := by decide +kernel
theorem dX7_count_4 : decode cX7_count 4 = .ok (.iload_n 1, 1) := by decide +kernel
theorem dX7_count_5 : decode cX7_count 5 = .ok (.bipush 10, 2) := by decide +kernel
theorem dX7_count_7 : decode cX7_count 7 = .ok (.if_icmp .lt 8, 3) := by decide +kernel
theorem dX7_count_10 : decode cX7_count 10 = .ok (.aload_n 0, 1) := by decide +kernel
theorem dX7_count_11 : decode cX7_count 11 = .ok (.invokevirtual 86, 3) := by decide +kernel
theorem dX7_count_14 : decode cX7_count 14 = .ok (.ireturn, 1) := by decide +kernel
theorem dX7_count_15 : decode cX7_count 15 = .ok (.aload_n 0, 1) := by decide +kernel
theorem dX7_count_16 : decode cX7_count 16 = .ok (.getfield 10, 3) := by decide +kernel
theorem dX7_count_19 : decode cX7_count 19 = .ok (.iload_n 1, 1) := by decide +kernel
theorem dX7_count_20 : decode cX7_count 20 = .ok (.invokevirtual 110, 3) := by decide +kernel
theorem dX7_count_23 : decode cX7_count 23 = .ok (.ireturn, 1) := by decide +kernel
theorem dX7_evens_0 : decode cX7_evens 0 = .ok (.aload_n 0, 1) := by decide +kernel
theorem dX7_evens_1 : decode cX7_evens 1 = .ok (.getfield 10, 3) := by decide +kernel
theorem dX7_evens_4 : decode cX7_evens 4 = .ok (.getfield 47, 3) := by decide +kernel
theorem dX7_evens_7 : decode cX7_evens 7 = .ok (.getfield 113, 3) := by decide +kernel
theorem dX7_evens_10 : decode cX7_evens 10 = .ok (.istore_n 1, 1) := by decide +kernel
theorem dX7_evens_11 : decode cX7_evens 11 = .ok (.iload_n 1, 1) := by decide +kernel
theorem dX7_evens_12 : decode cX7_evens 12 = .ok (.iconst 2, 1) := by decide +kernel
theorem dX7_evens_13 : decode cX7_evens 13 = .ok (.irem, 1) := by decide +kernel
theorem dX7_evens_14 : decode cX7_evens 14 = .ok (.ifCond .ne 13, 3) := by decide +kernel
theorem dX7_evens_17 : decode cX7_evens 17 = .ok (.iload_n 1, 1) := by decide +kernel
theorem dX7_evens_18 : decode cX7_evens 18 = .ok (.iload_n 1, 1) := by decide +kernel
theorem dX7_evens_19 : decode cX7_evens 19 = .ok (.iconst 2, 1) := by decide +kernel
theorem dX7_evens_20 : decode cX7_evens 20 = .ok (.idiv, 1) := by decide +kernel
theorem dX7_evens_21 : decode cX7_evens 21 = .ok (.invokestatic 118, 3) := by decide +kernel
theorem dX7_evens_24 : decode cX7_evens 24 = .ok (.goto 7, 3) := by decide +kernel
theorem dX7_evens_27 : decode cX7_evens 27 = .ok (.aload_n 0, 1) := by decide +kernel
theorem dX7_evens_28 : decode cX7_evens 28 = .ok (.invokevirtual 121, 3) := by decide +kernel
theorem dX7_evens_31 : decode cX7_evens 31 = .ok (.ireturn, 1) := by decide +kernel
theorem dX7_covers_0 : decode cX7_covers 0 = .ok (.iload_n 1, 1) := by decide +kernel
theorem dX7_covers_1 : decode cX7_covers 1 = .ok (.invokestatic 82, 3) := by decide +kernel
theorem dX7_covers_4 : decode cX7_covers 4 = .ok (.ifCond .eq 7, 3) := by decide +kernel
theorem dX7_covers_7 : decode cX7_covers 7 = .ok (.iload_n 2, 1) := by decide +kernel
theorem dX7_covers_8 : decode cX7_covers 8 = .ok (.ifCond .ge 8, 3) := by decide +kernel
theorem dX7_covers_11 : decode cX7_covers 11 = .ok (.aload_n 0, 1) := by decide +kernel
theorem dX7_covers_12 : decode cX7_covers 12 = .ok (.invokevirtual 86, 3) := by decide +kernel
theorem dX7_covers_15 : decode cX7_covers 15 = .ok (.ireturn, 1) := by decide +kernel
theorem dX7_covers_16 : decode cX7_covers 16 = .ok (.aload_n 0, 1) := by decide +kernel
theorem dX7_covers_17 : decode cX7_covers 17 = .ok (.getfield 10, 3) := by decide +kernel
theorem dX7_covers_20 : decode cX7_covers 20 = .ok (.getfield 124, 3) := by decide +kernel
theorem dX7_covers_23 : decode cX7_covers 23 = .ok (.aload_n 0, 1) := by decide +kernel
theorem dX7_covers_24 : decode cX7_covers 24 = .ok (.getfield 10, 3) := by decide +kernel
theorem dX7_covers_27 : decode cX7_covers 27 = .ok (.iload_n 1, 1) := by decide +kernel
theorem dX7_covers_28 : decode cX7_covers 28 = .ok (.invokevirtual 96, 3) := by decide +kernel
theorem dX7_covers_31 : decode cX7_covers 31 = .ok (.iload_n 2, 1) := by decide +kernel
theorem dX7_covers_32 : decode cX7_covers 32 = .ok (.invokevirtual 128, 3) := by decide +kernel
theorem dX7_covers_35 : decode cX7_covers 35 = .ok (.ireturn, 1) := by decide +kernel
theorem dX7_mark_0 : decode cX7_mark 0 = .ok (.iload_n 1, 1) := by decide +kernel
theorem dX7_mark_1 : decode cX7_mark 1 = .ok (.invokestatic 82, 3) := by decide +kernel
theorem dX7_mark_4 : decode cX7_mark 4 = .ok (.ifCond .eq 10, 3) := by decide +kernel
theorem dX7_mark_7 : decode cX7_mark 7 = .ok (.iload_n 2, 1) := by decide +kernel
theorem dX7_mark_8 : decode cX7_mark 8 = .ok (.invokestatic 82, 3) := by decide +kernel
theorem dX7_mark_11 : decode cX7_mark 11 = .ok (.ifCond .ne 8, 3) := by decide +kernel
theorem dX7_mark_14 : decode cX7_mark 14 = .ok (.aload_n 0, 1) := by decide +kernel
theorem dX7_mark_15 : decode cX7_mark 15 = .ok (.invokevirtual 86, 3) := by decide +kernel
theorem dX7_mark_18 : decode cX7_mark 18 = .ok (.ireturn, 1) := by decide +kernel
theorem dX7_mark_19 : decode cX7_mark 19 = .ok (.aload_n 0, 1) := by decide +kernel
theorem dX7_mark_20 : decode cX7_mark 20 = .ok (.getfield 10, 3) := by decide +kernel
theorem dX7_mark_23 : decode cX7_mark 23 = .ok (.iload_n 1, 1) := by decide +kernel
theorem dX7_mark_24 : decode cX7_mark 24 = .ok (.invokevirtual 96, 3) := by decide +kernel
theorem dX7_mark_27 : decode cX7_mark 27 = .ok (.astore_n 3, 1) := by decide +kernel
theorem dX7_mark_28 : decode cX7_mark 28 = .ok (.aload_n 0, 1) := by decide +kernel
theorem dX7_mark_29 : decode cX7_mark 29 = .ok (.getfield 10, 3) := by decide +kernel
theorem dX7_mark_32 : decode cX7_mark 32 = .ok (.iload_n 2, 1) := by decide +kernel
theorem dX7_mark_33 : decode cX7_mark 33 = .ok (.invokevirtual 96, 3) := by decide +kernel
theorem dX7_mark_36 : decode cX7_mark 36 = .ok (.astore 4, 2) := by decide +kernel
theorem dX7_mark_38 : decode cX7_mark 38 = .ok (.aload_n 3, 1) := by decide +kernel
theorem dX7_mark_39 : decode cX7_mark 39 = .ok (.aload 4, 2) := by decide +kernel
theorem dX7_mark_41 : decode cX7_mark 41 = .ok (.invokevirtual 106, 3) := by decide +kernel
theorem dX7_mark_44 : decode cX7_mark 44 = .ok (.ifCond .eq 17, 3) := by decide +kernel
theorem dX7_mark_47 : decode cX7_mark 47 = .ok (.aload 4, 2) := by decide +kernel
theorem dX7_mark_49 : decode cX7_mark 49 = .ok (.invokevirtual 134, 3) := by decide +kernel
theorem dX7_mark_52 : decode cX7_mark 52 = .ok (.aload_n 3, 1) := by decide +kernel
theorem dX7_mark_53 : decode cX7_mark 53 = .ok (.invokevirtual 134, 3) := by decide +kernel
theorem dX7_mark_56 : decode cX7_mark 56 = .ok (.iconst 1, 1) := by decide +kernel
theorem dX7_mark_57 : decode cX7_mark 57 = .ok (.iadd, 1) := by decide +kernel
theorem dX7_mark_58 : decode cX7_mark 58 = .ok (.if_icmp .eq 8, 3) := by decide +kernel
theorem dX7_mark_61 : decode cX7_mark 61 = .ok (.aload_n 0, 1) := by decide +kernel
theorem dX7_mark_62 : decode cX7_mark 62 = .ok (.invokevirtual 121, 3) := by decide +kernel
theorem dX7_mark_65 : decode cX7_mark 65 = .ok (.ireturn, 1) := by decide +kernel
theorem dX7_mark_66 : decode cX7_mark 66 = .ok (.aload_n 3, 1) := by decide +kernel
theorem dX7_mark_67 : decode cX7_mark 67 = .ok (.aload 4, 2) := by decide +kernel
theorem dX7_mark_69 : decode cX7_mark 69 = .ok (.invokevirtual 137, 3) := by decide +kernel
theorem dX7_mark_72 : decode cX7_mark 72 = .ok (.ireturn, 1) := by decide +kernel
theorem dX7_chains_0 : decode cX7_chains 0 = .ok (.aload_n 0, 1) := by decide +kernel
theorem dX7_chains_1 : decode cX7_chains 1 = .ok (.iload_n 1, 1) := by decide +kernel
theorem dX7_chains_2 : decode cX7_chains 2 = .ok (.iload_n 2, 1) := by decide +kernel
theorem dX7_chains_3 : decode cX7_chains 3 = .ok (.invokevirtual 141, 3) := by decide +kernel
theorem dX7_chains_6 : decode cX7_chains 6 = .ok (.istore_n 3, 1) := by decide +kernel
theorem dX7_chains_7 : decode cX7_chains 7 = .ok (.iload_n 3, 1) := by decide +kernel
theorem dX7_chains_8 : decode cX7_chains 8 = .ok (.ifCond .ne 18, 3) := by decide +kernel
theorem dX7_chains_11 : decode cX7_chains 11 = .ok (.aload_n 0, 1) := by decide +kernel
theorem dX7_chains_12 : decode cX7_chains 12 = .ok (.getfield 10, 3) := by decide +kernel
theorem dX7_chains_15 : decode cX7_chains 15 = .ok (.iload_n 1, 1) := by decide +kernel
theorem dX7_chains_16 : decode cX7_chains 16 = .ok (.iload_n 2, 1) := by decide +kernel
theorem dX7_chains_17 : decode cX7_chains 17 = .ok (.invokevirtual 144, 3) := by decide +kernel
theorem dX7_chains_20 : decode cX7_chains 20 = .ok (.invokevirtual 148, 3) := by decide +kernel
theorem dX7_chains_23 : decode cX7_chains 23 = .ok (.goto 4, 3) := by decide +kernel
theorem dX7_chains_26 : decode cX7_chains 26 = .ok (.iload_n 3, 1) := by decide +kernel
theorem dX7_chains_27 : decode cX7_chains 27 = .ok (.ireturn, 1) := by decide +kernel
theorem dX7_marked_0 : decode cX7_marked 0 = .ok (.aload_n 0, 1) := by decide +kernel
theorem dX7_marked_1 : decode cX7_marked 1 = .ok (.iload_n 1, 1) := by decide +kernel
theorem dX7_marked_2 : decode cX7_marked 2 = .ok (.invokevirtual 151, 3) := by decide +kernel
theorem dX7_marked_5 : decode cX7_marked 5 = .ok (.ifCond .ne 8, 3) := by decide +kernel
theorem dX7_marked_8 : decode cX7_marked 8 = .ok (.aload_n 0, 1) := by decide +kernel
theorem dX7_marked_9 : decode cX7_marked 9 = .ok (.invokevirtual 86, 3) := by decide +kernel
theorem dX7_marked_12 : decode cX7_marked 12 = .ok (.ireturn, 1) := by decide +kernel
theorem dX7_marked_13 : decode cX7_marked 13 = .ok (.aload_n 0, 1) := by decide +kernel
theorem dX7_marked_14 : decode cX7_marked 14 = .ok (.getfield 10, 3) := by decide +kernel
theorem dX7_marked_17 : decode cX7_marked 17 = .ok (.iload_n 1, 1) := by decide +kernel
theorem dX7_marked_18 : decode cX7_marked 18 = .ok (.invokevirtual 154, 3) := by decide +kernel
theorem dX7_marked_21 : decode cX7_marked 21 = .ok (.ifCond .eq 7, 3) := by decide +kernel
theorem dX7_marked_24 : decode cX7_marked 24 = .ok (.iconst 1, 1) := by decide +kernel
theorem dX7_marked_25 : decode cX7_marked 25 = .ok (.goto 4, 3) := by decide +kernel
theorem dX7_marked_28 : decode cX7_marked 28 = .ok (.iconst 0, 1) := by decide +kernel
theorem dX7_marked_29 : decode cX7_marked 29 = .ok (.ireturn, 1) := by decide +kernel
theorem dX7_signed_0 : decode cX7_signed 0 = .ok (.aload_n 0, 1) := by decide +kernel
theorem dX7_signed_1 : decode cX7_signed 1 = .ok (.iload_n 1, 1) := by decide +kernel
theorem dX7_signed_2 : decode cX7_signed 2 = .ok (.iload_n 2, 1) := by decide +kernel
theorem dX7_signed_3 : decode cX7_signed 3 = .ok (.invokevirtual 141, 3) := by decide +kernel
theorem dX7_signed_6 : decode cX7_signed 6 = .ok (.istore_n 3, 1) := by decide +kernel
theorem dX7_signed_7 : decode cX7_signed 7 = .ok (.iload_n 3, 1) := by decide +kernel
theorem dX7_signed_8 : decode cX7_signed 8 = .ok (.ifCond .ne 18, 3) := by decide +kernel
theorem dX7_signed_11 : decode cX7_signed 11 = .ok (.aload_n 0, 1) := by decide +kernel
theorem dX7_signed_12 : decode cX7_signed 12 = .ok (.getfield 10, 3) := by decide +kernel
theorem dX7_signed_15 : decode cX7_signed 15 = .ok (.iload_n 1, 1) := by decide +kernel
theorem dX7_signed_16 : decode cX7_signed 16 = .ok (.iload_n 2, 1) := by decide +kernel
theorem dX7_signed_17 : decode cX7_signed 17 = .ok (.invokevirtual 144, 3) := by decide +kernel
theorem dX7_signed_20 : decode cX7_signed 20 = .ok (.invokevirtual 157, 3) := by decide +kernel
theorem dX7_signed_23 : decode cX7_signed 23 = .ok (.goto 4, 3) := by decide +kernel
theorem dX7_signed_26 : decode cX7_signed 26 = .ok (.iload_n 3, 1) := by decide +kernel
theorem dX7_signed_27 : decode cX7_signed 27 = .ok (.ireturn, 1) := by decide +kernel
theorem dX7_between_0 : decode cX7_between 0 = .ok (.aload_n 0, 1) := by decide +kernel
theorem dX7_between_1 : decode cX7_between 1 = .ok (.iload_n 1, 1) := by decide +kernel
theorem dX7_between_2 : decode cX7_between 2 = .ok (.iload_n 2, 1) := by decide +kernel
theorem dX7_between_3 : decode cX7_between 3 = .ok (.invokevirtual 141, 3) := by decide +kernel
theorem dX7_between_6 : decode cX7_between 6 = .ok (.istore_n 3, 1) := by decide +kernel
theorem dX7_between_7 : decode cX7_between 7 = .ok (.iload_n 3, 1) := by decide +kernel
theorem dX7_between_8 : decode cX7_between 8 = .ok (.ifCond .ne 18, 3) := by decide +kernel
theorem dX7_between_11 : decode cX7_between 11 = .ok (.aload_n 0, 1) := by decide +kernel
theorem dX7_between_12 : decode cX7_between 12 = .ok (.getfield 10, 3) := by decide +kernel
theorem dX7_between_15 : decode cX7_between 15 = .ok (.iload_n 1, 1) := by decide +kernel
theorem dX7_between_16 : decode cX7_between 16 = .ok (.iload_n 2, 1) := by decide +kernel
theorem dX7_between_17 : decode cX7_between 17 = .ok (.invokevirtual 144, 3) := by decide +kernel
theorem dX7_between_20 : decode cX7_between 20 = .ok (.invokevirtual 160, 3) := by decide +kernel
theorem dX7_between_23 : decode cX7_between 23 = .ok (.goto 4, 3) := by decide +kernel
theorem dX7_between_26 : decode cX7_between 26 = .ok (.iload_n 3, 1) := by decide +kernel
theorem dX7_between_27 : decode cX7_between 27 = .ok (.ireturn, 1) := by decide +kernel
theorem dX7_number_0 : decode cX7_number 0 = .ok (.aload_n 0, 1) := by decide +kernel
theorem dX7_number_1 : decode cX7_number 1 = .ok (.getfield 19, 3) := by decide +kernel
theorem dX7_number_4 : decode cX7_number 4 = .ok (.aload_n 0, 1) := by decide +kernel
theorem dX7_number_5 : decode cX7_number 5 = .ok (.getfield 10, 3) := by decide +kernel
theorem dX7_number_8 : decode cX7_number 8 = .ok (.getfield 47, 3) := by decide +kernel
theorem dX7_number_11 : decode cX7_number 11 = .ok (.invokevirtual 51, 3) := by decide +kernel
theorem dX7_number_14 : decode cX7_number 14 = .ok (.aload_n 0, 1) := by decide +kernel
theorem dX7_number_15 : decode cX7_number 15 = .ok (.aload_n 0, 1) := by decide +kernel
theorem dX7_number_16 : decode cX7_number 16 = .ok (.getfield 10, 3) := by decide +kernel
theorem dX7_number_19 : decode cX7_number 19 = .ok (.iload_n 1, 1) := by decide +kernel
theorem dX7_number_20 : decode cX7_number 20 = .ok (.iload_n 2, 1) := by decide +kernel
theorem dX7_number_21 : decode cX7_number 21 = .ok (.invokevirtual 163, 3) := by decide +kernel
theorem dX7_number_24 : decode cX7_number 24 = .ok (.invokevirtual 59, 3) := by decide +kernel
theorem dX7_number_27 : decode cX7_number 27 = .ok (.ireturn, 1) := by decide +kernel
theorem dX7_as_0 : decode cX7_as 0 = .ok (.iload_n 1, 1) := by decide +kernel
theorem dX7_as_1 : decode cX7_as 1 = .ok (.ifCond .lt 28, 3) := by decide +kernel
theorem dX7_as_4 : decode cX7_as 4 = .ok (.iload_n 1, 1) := by decide +kernel
theorem dX7_as_5 : decode cX7_as 5 = .ok (.iconst 3, 1) := by decide +kernel
theorem dX7_as_6 : decode cX7_as 6 = .ok (.if_icmp .ge 23, 3) := by decide +kernel
theorem dX7_as_9 : decode cX7_as 9 = .ok (.iload_n 2, 1) := by decide +kernel
theorem dX7_as_10 : decode cX7_as 10 = .ok (.ifCond .lt 19, 3) := by decide +kernel
theorem dX7_as_13 : decode cX7_as 13 = .ok (.iload_n 2, 1) := by decide +kernel
theorem dX7_as_14 : decode cX7_as 14 = .ok (.iconst 3, 1) := by decide +kernel
theorem dX7_as_15 : decode cX7_as 15 = .ok (.if_icmp .ge 14, 3) := by decide +kernel
theorem dX7_as_18 : decode cX7_as 18 = .ok (.iload_n 3, 1) := by decide +kernel
theorem dX7_as_19 : decode cX7_as 19 = .ok (.iconst 1, 1) := by decide +kernel
theorem dX7_as_20 : decode cX7_as 20 = .ok (.if_icmp .lt 9, 3) := by decide +kernel
theorem dX7_as_23 : decode cX7_as 23 = .ok (.iload_n 3, 1) := by decide +kernel
theorem dX7_as_24 : decode cX7_as 24 = .ok (.bipush 8, 2) := by decide +kernel
theorem dX7_as_26 : decode cX7_as 26 = .ok (.if_icmp .le 17, 3) := by decide +kernel
theorem dX7_as_29 : decode cX7_as 29 = .ok (.aload_n 0, 1) := by decide +kernel
theorem dX7_as_30 : decode cX7_as 30 = .ok (.dup, 1) := by decide +kernel
theorem dX7_as_31 : decode cX7_as 31 = .ok (.getfield 37, 3) := by decide +kernel
theorem dX7_as_34 : decode cX7_as 34 = .ok (.iconst 1, 1) := by decide +kernel
theorem dX7_as_35 : decode cX7_as 35 = .ok (.iadd, 1) := by decide +kernel
theorem dX7_as_36 : decode cX7_as 36 = .ok (.putfield 37, 3) := by decide +kernel
theorem dX7_as_39 : decode cX7_as 39 = .ok (.ldc2_w 166, 3) := by decide +kernel
theorem dX7_as_42 : decode cX7_as 42 = .ok (.lreturn, 1) := by decide +kernel
theorem dX7_as_43 : decode cX7_as 43 = .ok (.aload_n 0, 1) := by decide +kernel
theorem dX7_as_44 : decode cX7_as 44 = .ok (.getfield 33, 3) := by decide +kernel
theorem dX7_as_47 : decode cX7_as 47 = .ok (.aload_n 0, 1) := by decide +kernel
theorem dX7_as_48 : decode cX7_as 48 = .ok (.getfield 10, 3) := by decide +kernel
theorem dX7_as_51 : decode cX7_as 51 = .ok (.getfield 47, 3) := by decide +kernel
theorem dX7_as_54 : decode cX7_as 54 = .ok (.getfield 168, 3) := by decide +kernel
theorem dX7_as_57 : decode cX7_as 57 = .ok (.iload_n 1, 1) := by decide +kernel
theorem dX7_as_58 : decode cX7_as 58 = .ok (.iload_n 2, 1) := by decide +kernel
theorem dX7_as_59 : decode cX7_as 59 = .ok (.invokevirtual 171, 3) := by decide +kernel
theorem dX7_as_62 : decode cX7_as 62 = .ok (.aload_n 0, 1) := by decide +kernel
theorem dX7_as_63 : decode cX7_as 63 = .ok (.getfield 33, 3) := by decide +kernel
theorem dX7_as_66 : decode cX7_as 66 = .ok (.getfield 175, 3) := by decide +kernel
theorem dX7_as_69 : decode cX7_as 69 = .ok (.iload_n 3, 1) := by decide +kernel
theorem dX7_as_70 : decode cX7_as 70 = .ok (.laload, 1) := by decide +kernel
theorem dX7_as_71 : decode cX7_as 71 = .ok (.lreturn, 1) := by decide +kernel
theorem dX7_type_0 : decode cX7_type 0 = .ok (.iload_n 1, 1) := by decide +kernel
theorem dX7_type_1 : decode cX7_type 1 = .ok (.ifCond .lt 9, 3) := by decide +kernel
theorem dX7_type_4 : decode cX7_type 4 = .ok (.iload_n 1, 1) := by decide +kernel
theorem dX7_type_5 : decode cX7_type 5 = .ok (.bipush 127, 2) := by decide +kernel
theorem dX7_type_7 : decode cX7_type 7 = .ok (.if_icmp .le 8, 3) := by decide +kernel
theorem dX7_type_10 : decode cX7_type 10 = .ok (.aload_n 0, 1) := by decide +kernel
theorem dX7_type_11 : decode cX7_type 11 = .ok (.invokevirtual 86, 3) := by decide +kernel
theorem dX7_type_14 : decode cX7_type 14 = .ok (.ireturn, 1) := by decide +kernel
theorem dX7_type_15 : decode cX7_type 15 = .ok (.aload_n 0, 1) := by decide +kernel
theorem dX7_type_16 : decode cX7_type 16 = .ok (.getfield 26, 3) := by decide +kernel
theorem dX7_type_19 : decode cX7_type 19 = .ok (.getfield 179, 3) := by decide +kernel
theorem dX7_type_22 : decode cX7_type 22 = .ok (.bipush 120, 2) := by decide +kernel
theorem dX7_type_24 : decode cX7_type 24 = .ok (.if_icmp .lt 16, 3) := by decide +kernel
theorem dX7_type_27 : decode cX7_type 27 = .ok (.aload_n 0, 1) := by decide +kernel
theorem dX7_type_28 : decode cX7_type 28 = .ok (.dup, 1) := by decide +kernel
theorem dX7_type_29 : decode cX7_type 29 = .ok (.getfield 44, 3) := by decide +kernel
theorem dX7_type_32 : decode cX7_type 32 = .ok (.iconst 1, 1) := by decide +kernel
theorem dX7_type_33 : decode cX7_type 33 = .ok (.iadd, 1) := by decide +kernel
theorem dX7_type_34 : decode cX7_type 34 = .ok (.putfield 44, 3) := by decide +kernel
theorem dX7_type_37 : decode cX7_type 37 = .ok (.bipush (-4), 2) := by decide +kernel
theorem dX7_type_39 : decode cX7_type 39 = .ok (.ireturn, 1) := by decide +kernel
theorem dX7_type_40 : decode cX7_type 40 = .ok (.aload_n 0, 1) := by decide +kernel
theorem dX7_type_41 : decode cX7_type 41 = .ok (.getfield 26, 3) := by decide +kernel
theorem dX7_type_44 : decode cX7_type 44 = .ok (.iload_n 1, 1) := by decide +kernel
theorem dX7_type_45 : decode cX7_type 45 = .ok (.invokevirtual 182, 3) := by decide +kernel
theorem dX7_type_48 : decode cX7_type 48 = .ok (.aload_n 0, 1) := by decide +kernel
theorem dX7_type_49 : decode cX7_type 49 = .ok (.getfield 26, 3) := by decide +kernel
theorem dX7_type_52 : decode cX7_type 52 = .ok (.getfield 179, 3) := by decide +kernel
theorem dX7_type_55 : decode cX7_type 55 = .ok (.ireturn, 1) := by decide +kernel
theorem dX7_clear_0 : decode cX7_clear 0 = .ok (.aload_n 0, 1) := by decide +kernel
theorem dX7_clear_1 : decode cX7_clear 1 = .ok (.getfield 26, 3) := by decide +kernel
theorem dX7_clear_4 : decode cX7_clear 4 = .ok (.getfield 179, 3) := by decide +kernel
theorem dX7_clear_7 : decode cX7_clear 7 = .ok (.istore_n 1, 1) := by decide +kernel
theorem dX7_clear_8 : decode cX7_clear 8 = .ok (.aload_n 0, 1) := by decide +kernel
theorem dX7_clear_9 : decode cX7_clear 9 = .ok (.getfield 26, 3) := by decide +kernel
theorem dX7_clear_12 : decode cX7_clear 12 = .ok (.iconst 0, 1) := by decide +kernel
theorem dX7_clear_13 : decode cX7_clear 13 = .ok (.putfield 179, 3) := by decide +kernel
theorem dX7_clear_16 : decode cX7_clear 16 = .ok (.iload_n 1, 1) := by decide +kernel
theorem dX7_clear_17 : decode cX7_clear 17 = .ok (.ireturn, 1) := by decide +kernel
theorem dX7_does_0 : decode cX7_does 0 = .ok (.aload_n 0, 1) := by decide +kernel
theorem dX7_does_1 : decode cX7_does 1 = .ok (.getfield 26, 3) := by decide +kernel
theorem dX7_does_4 : decode cX7_does 4 = .ok (.invokevirtual 186, 3) := by decide +kernel
theorem dX7_does_7 : decode cX7_does 7 = .ok (.istore_n 1, 1) := by decide +kernel
theorem dX7_does_8 : decode cX7_does 8 = .ok (.iload_n 1, 1) := by decide +kernel
theorem dX7_does_9 : decode cX7_does 9 = .ok (.iconst (-1), 1) := by decide +kernel
theorem dX7_does_10 : decode cX7_does 10 = .ok (.if_icmp .eq 8, 3) := by decide +kernel
theorem dX7_does_13 : decode cX7_does 13 = .ok (.bipush (-10), 2) := by decide +kernel
theorem dX7_does_15 : decode cX7_does 15 = .ok (.iload_n 1, 1) := by decide +kernel
theorem dX7_does_16 : decode cX7_does 16 = .ok (.isub, 1) := by decide +kernel
theorem dX7_does_17 : decode cX7_does 17 = .ok (.ireturn, 1) := by decide +kernel
theorem dX7_does_18 : decode cX7_does 18 = .ok (.aload_n 0, 1) := by decide +kernel
theorem dX7_does_19 : decode cX7_does 19 = .ok (.getfield 19, 3) := by decide +kernel
theorem dX7_does_22 : decode cX7_does 22 = .ok (.aload_n 0, 1) := by decide +kernel
theorem dX7_does_23 : decode cX7_does 23 = .ok (.getfield 10, 3) := by decide +kernel
theorem dX7_does_26 : decode cX7_does 26 = .ok (.getfield 47, 3) := by decide +kernel
theorem dX7_does_29 : decode cX7_does 29 = .ok (.invokevirtual 51, 3) := by decide +kernel
theorem dX7_does_32 : decode cX7_does 32 = .ok (.iconst 0, 1) := by decide +kernel
theorem dX7_does_33 : decode cX7_does 33 = .ok (.istore_n 2, 1) := by decide +kernel
theorem dX7_does_34 : decode cX7_does 34 = .ok (.iload_n 2, 1) := by decide +kernel
theorem dX7_does_35 : decode cX7_does 35 = .ok (.aload_n 0, 1) := by decide +kernel
theorem dX7_does_36 : decode cX7_does 36 = .ok (.getfield 26, 3) := by decide +kernel
theorem dX7_does_39 : decode cX7_does 39 = .ok (.getfield 189, 3) := by decide +kernel
theorem dX7_does_42 : decode cX7_does 42 = .ok (.if_icmp .ge 60, 3) := by decide +kernel
theorem dX7_does_45 : decode cX7_does 45 = .ok (.aload_n 0, 1) := by decide +kernel
theorem dX7_does_46 : decode cX7_does 46 = .ok (.getfield 10, 3) := by decide +kernel
theorem dX7_does_49 : decode cX7_does 49 = .ok (.aload_n 0, 1) := by decide +kernel
theorem dX7_does_50 : decode cX7_does 50 = .ok (.getfield 26, 3) := by decide +kernel
theorem dX7_does_53 : decode cX7_does 53 = .ok (.getfield 192, 3) := by decide +kernel
theorem dX7_does_56 : decode cX7_does 56 = .ok (.iload_n 2, 1) := by decide +kernel
theorem dX7_does_57 : decode cX7_does 57 = .ok (.iaload, 1) := by decide +kernel
theorem dX7_does_58 : decode cX7_does 58 = .ok (.aload_n 0, 1) := by decide +kernel
theorem dX7_does_59 : decode cX7_does 59 = .ok (.getfield 26, 3) := by decide +kernel
theorem dX7_does_62 : decode cX7_does 62 = .ok (.getfield 195, 3) := by decide +kernel
theorem dX7_does_65 : decode cX7_does 65 = .ok (.iload_n 2, 1) := by decide +kernel
theorem dX7_does_66 : decode cX7_does 66 = .ok (.aaload, 1) := by decide +kernel
theorem dX7_does_67 : decode cX7_does 67 = .ok (.invokevirtual 199, 3) := by decide +kernel
theorem dX7_does_70 : decode cX7_does 70 = .ok (.ifCond .ge 26, 3) := by decide +kernel
theorem dX7_does_73 : decode cX7_does 73 = .ok (.aload_n 0, 1) := by decide +kernel
theorem dX7_does_74 : decode cX7_does 74 = .ok (.getfield 10, 3) := by decide +kernel
theorem dX7_does_77 : decode cX7_does 77 = .ok (.getfield 47, 3) := by decide +kernel
theorem dX7_does_80 : decode cX7_does 80 = .ok (.aload_n 0, 1) := by decide +kernel
theorem dX7_does_81 : decode cX7_does 81 = .ok (.getfield 19, 3) := by decide +kernel
theorem dX7_does_84 : decode cX7_does 84 = .ok (.invokevirtual 203, 3) := by decide +kernel
theorem dX7_does_87 : decode cX7_does 87 = .ok (.invokevirtual 207, 3) := by decide +kernel
theorem dX7_does_90 : decode cX7_does 90 = .ok (.sipush (-1000), 3) := by decide +kernel
theorem dX7_does_93 : decode cX7_does 93 = .ok (.iload_n 2, 1) := by decide +kernel
theorem dX7_does_94 : decode cX7_does 94 = .ok (.isub, 1) := by decide +kernel
theorem dX7_does_95 : decode cX7_does 95 = .ok (.ireturn, 1) := by decide +kernel
theorem dX7_does_96 : decode cX7_does 96 = .ok (.iinc 2 1, 3) := by decide +kernel
theorem dX7_does_99 : decode cX7_does 99 = .ok (.goto (-65), 3) := by decide +kernel
theorem dX7_does_102 : decode cX7_does 102 = .ok (.aload_n 0, 1) := by decide +kernel
theorem dX7_does_103 : decode cX7_does 103 = .ok (.getfield 19, 3) := by decide +kernel
theorem dX7_does_106 : decode cX7_does 106 = .ok (.invokevirtual 210, 3) := by decide +kernel
theorem dX7_does_109 : decode cX7_does 109 = .ok (.aload_n 0, 1) := by decide +kernel
theorem dX7_does_110 : decode cX7_does 110 = .ok (.getfield 26, 3) := by decide +kernel
theorem dX7_does_113 : decode cX7_does 113 = .ok (.getfield 189, 3) := by decide +kernel
theorem dX7_does_116 : decode cX7_does 116 = .ok (.ireturn, 1) := by decide +kernel
theorem dX7_back_0 : decode cX7_back 0 = .ok (.aload_n 0, 1) := by decide +kernel
theorem dX7_back_1 : decode cX7_back 1 = .ok (.getfield 19, 3) := by decide +kernel
theorem dX7_back_4 : decode cX7_back 4 = .ok (.getfield 213, 3) := by decide +kernel
theorem dX7_back_7 : decode cX7_back 7 = .ok (.ifCond .ne 8, 3) := by decide +kernel
theorem dX7_back_10 : decode cX7_back 10 = .ok (.aload_n 0, 1) := by decide +kernel
theorem dX7_back_11 : decode cX7_back 11 = .ok (.invokevirtual 121, 3) := by decide +kernel
theorem dX7_back_14 : decode cX7_back 14 = .ok (.ireturn, 1) := by decide +kernel
theorem dX7_back_15 : decode cX7_back 15 = .ok (.aload_n 0, 1) := by decide +kernel
theorem dX7_back_16 : decode cX7_back 16 = .ok (.getfield 19, 3) := by decide +kernel
theorem dX7_back_19 : decode cX7_back 19 = .ok (.invokevirtual 216, 3) := by decide +kernel
theorem dX7_back_22 : decode cX7_back 22 = .ok (.aload_n 0, 1) := by decide +kernel
theorem dX7_back_23 : decode cX7_back 23 = .ok (.getfield 10, 3) := by decide +kernel
theorem dX7_back_26 : decode cX7_back 26 = .ok (.getfield 47, 3) := by decide +kernel
theorem dX7_back_29 : decode cX7_back 29 = .ok (.aload_n 0, 1) := by decide +kernel
theorem dX7_back_30 : decode cX7_back 30 = .ok (.getfield 19, 3) := by decide +kernel
theorem dX7_back_33 : decode cX7_back 33 = .ok (.invokevirtual 203, 3) := by decide +kernel
theorem dX7_back_36 : decode cX7_back 36 = .ok (.invokevirtual 207, 3) := by decide +kernel
theorem dX7_back_39 : decode cX7_back 39 = .ok (.aload_n 0, 1) := by decide +kernel
theorem dX7_back_40 : decode cX7_back 40 = .ok (.getfield 19, 3) := by decide +kernel
theorem dX7_back_43 : decode cX7_back 43 = .ok (.getfield 213, 3) := by decide +kernel
theorem dX7_back_46 : decode cX7_back 46 = .ok (.ireturn, 1) := by decide +kernel
theorem dX7_told_0 : decode cX7_told 0 = .ok (.iload_n 1, 1) := by decide +kernel
theorem dX7_told_1 : decode cX7_told 1 = .ok (.ifCond .lt 8, 3) := by decide +kernel
theorem dX7_told_4 : decode cX7_told 4 = .ok (.iload_n 1, 1) := by decide +kernel
theorem dX7_told_5 : decode cX7_told 5 = .ok (.iconst 5, 1) := by decide +kernel
theorem dX7_told_6 : decode cX7_told 6 = .ok (.if_icmp .lt 8, 3) := by decide +kernel
theorem dX7_told_9 : decode cX7_told 9 = .ok (.aload_n 0, 1) := by decide +kernel
theorem dX7_told_10 : decode cX7_told 10 = .ok (.invokevirtual 86, 3) := by decide +kernel
theorem dX7_told_13 : decode cX7_told 13 = .ok (.ireturn, 1) := by decide +kernel
theorem dX7_told_14 : decode cX7_told 14 = .ok (.aload_n 0, 1) := by decide +kernel
theorem dX7_told_15 : decode cX7_told 15 = .ok (.iload_n 1, 1) := by decide +kernel
theorem dX7_told_16 : decode cX7_told 16 = .ok (.invokevirtual 219, 3) := by decide +kernel
theorem dX7_told_19 : decode cX7_told 19 = .ok (.ireturn, 1) := by decide +kernel
theorem dX7_digest_0 : decode cX7_digest 0 = .ok (.ldc2_w 222, 3) := by decide +kernel
theorem dX7_digest_3 : decode cX7_digest 3 = .ok (.lstore_n 1, 1) := by decide +kernel
theorem dX7_digest_4 : decode cX7_digest 4 = .ok (.iconst 0, 1) := by decide +kernel
theorem dX7_digest_5 : decode cX7_digest 5 = .ok (.istore_n 3, 1) := by decide +kernel
theorem dX7_digest_6 : decode cX7_digest 6 = .ok (.iload_n 3, 1) := by decide +kernel
theorem dX7_digest_7 : decode cX7_digest 7 = .ok (.iconst 5, 1) := by decide +kernel
theorem dX7_digest_8 : decode cX7_digest 8 = .ok (.if_icmp .ge 22, 3) := by decide +kernel
theorem dX7_digest_11 : decode cX7_digest 11 = .ok (.ldc2_w 224, 3) := by decide +kernel
theorem dX7_digest_14 : decode cX7_digest 14 = .ok (.lload_n 1, 1) := by decide +kernel
theorem dX7_digest_15 : decode cX7_digest 15 = .ok (.lmul, 1) := by decide +kernel
theorem dX7_digest_16 : decode cX7_digest 16 = .ok (.aload_n 0, 1) := by decide +kernel
theorem dX7_digest_17 : decode cX7_digest 17 = .ok (.iload_n 3, 1) := by decide +kernel
theorem dX7_digest_18 : decode cX7_digest 18 = .ok (.invokevirtual 219, 3) := by decide +kernel
theorem dX7_digest_21 : decode cX7_digest 21 = .ok (.i2l, 1) := by decide +kernel
theorem dX7_digest_22 : decode cX7_digest 22 = .ok (.ladd, 1) := by decide +kernel
theorem dX7_digest_23 : decode cX7_digest 23 = .ok (.lstore_n 1, 1) := by decide +kernel
theorem dX7_digest_24 : decode cX7_digest 24 = .ok (.iinc 3 1, 3) := by decide +kernel
theorem dX7_digest_27 : decode cX7_digest 27 = .ok (.goto (-21), 3) := by decide +kernel
theorem dX7_digest_30 : decode cX7_digest 30 = .ok (.iconst 0, 1) := by decide +kernel
theorem dX7_digest_31 : decode cX7_digest 31 = .ok (.istore_n 3, 1) := by decide +kernel
theorem dX7_digest_32 : decode cX7_digest 32 = .ok (.iload_n 3, 1) := by decide +kernel
theorem dX7_digest_33 : decode cX7_digest 33 = .ok (.bipush 10, 2) := by decide +kernel
theorem dX7_digest_35 : decode cX7_digest 35 = .ok (.if_icmp .ge 25, 3) := by decide +kernel
theorem dX7_digest_38 : decode cX7_digest 38 = .ok (.ldc2_w 224, 3) := by decide +kernel
theorem dX7_digest_41 : decode cX7_digest 41 = .ok (.lload_n 1, 1) := by decide +kernel
theorem dX7_digest_42 : decode cX7_digest 42 = .ok (.lmul, 1) := by decide +kernel
theorem dX7_digest_43 : decode cX7_digest 43 = .ok (.aload_n 0, 1) := by decide +kernel
theorem dX7_digest_44 : decode cX7_digest 44 = .ok (.getfield 10, 3) := by decide +kernel
theorem dX7_digest_47 : decode cX7_digest 47 = .ok (.iload_n 3, 1) := by decide +kernel
theorem dX7_digest_48 : decode cX7_digest 48 = .ok (.invokevirtual 110, 3) := by decide +kernel
theorem dX7_digest_51 : decode cX7_digest 51 = .ok (.i2l, 1) := by decide +kernel
theorem dX7_digest_52 : decode cX7_digest 52 = .ok (.ladd, 1) := by decide +kernel
theorem dX7_digest_53 : decode cX7_digest 53 = .ok (.lstore_n 1, 1) := by decide +kernel
theorem dX7_digest_54 : decode cX7_digest 54 = .ok (.iinc 3 1, 3) := by decide +kernel
theorem dX7_digest_57 : decode cX7_digest 57 = .ok (.goto (-25), 3) := by decide +kernel
theorem dX7_digest_60 : decode cX7_digest 60 = .ok (.iconst 0, 1) := by decide +kernel
theorem dX7_digest_61 : decode cX7_digest 61 = .ok (.istore_n 3, 1) := by decide +kernel
theorem dX7_digest_62 : decode cX7_digest 62 = .ok (.iload_n 3, 1) := by decide +kernel
theorem dX7_digest_63 : decode cX7_digest 63 = .ok (.bipush 6, 2) := by decide +kernel
theorem dX7_digest_65 : decode cX7_digest 65 = .ok (.if_icmp .ge 16, 3) := by decide +kernel
theorem dX7_digest_68 : decode cX7_digest 68 = .ok (.aload_n 0, 1) := by decide +kernel
theorem dX7_digest_69 : decode cX7_digest 69 = .ok (.lload_n 1, 1) := by decide +kernel
theorem dX7_digest_70 : decode cX7_digest 70 = .ok (.iload_n 3, 1) := by decide +kernel
theorem dX7_digest_71 : decode cX7_digest 71 = .ok (.invokevirtual 226, 3) := by decide +kernel
theorem dX7_digest_74 : decode cX7_digest 74 = .ok (.lstore_n 1, 1) := by decide +kernel
theorem dX7_digest_75 : decode cX7_digest 75 = .ok (.iinc 3 1, 3) := by decide +kernel
theorem dX7_digest_78 : decode cX7_digest 78 = .ok (.goto (-16), 3) := by decide +kernel
theorem dX7_digest_81 : decode cX7_digest 81 = .ok (.iconst 0, 1) := by decide +kernel
theorem dX7_digest_82 : decode cX7_digest 82 = .ok (.istore_n 3, 1) := by decide +kernel
theorem dX7_digest_83 : decode cX7_digest 83 = .ok (.iload_n 3, 1) := by decide +kernel
theorem dX7_digest_84 : decode cX7_digest 84 = .ok (.bipush 8, 2) := by decide +kernel
theorem dX7_digest_86 : decode cX7_digest 86 = .ok (.if_icmp .ge 29, 3) := by decide +kernel
theorem dX7_digest_89 : decode cX7_digest 89 = .ok (.ldc2_w 224, 3) := by decide +kernel
theorem dX7_digest_92 : decode cX7_digest 92 = .ok (.lload_n 1, 1) := by decide +kernel
theorem dX7_digest_93 : decode cX7_digest 93 = .ok (.lmul, 1) := by decide +kernel
theorem dX7_digest_94 : decode cX7_digest 94 = .ok (.aload_n 0, 1) := by decide +kernel
theorem dX7_digest_95 : decode cX7_digest 95 = .ok (.getfield 10, 3) := by decide +kernel
theorem dX7_digest_98 : decode cX7_digest 98 = .ok (.getfield 47, 3) := by decide +kernel
theorem dX7_digest_101 : decode cX7_digest 101 = .ok (.getfield 168, 3) := by decide +kernel
theorem dX7_digest_104 : decode cX7_digest 104 = .ok (.iload_n 3, 1) := by decide +kernel
theorem dX7_digest_105 : decode cX7_digest 105 = .ok (.iaload, 1) := by decide +kernel
theorem dX7_digest_106 : decode cX7_digest 106 = .ok (.i2l, 1) := by decide +kernel
theorem dX7_digest_107 : decode cX7_digest 107 = .ok (.ladd, 1) := by decide +kernel
theorem dX7_digest_108 : decode cX7_digest 108 = .ok (.lstore_n 1, 1) := by decide +kernel
theorem dX7_digest_109 : decode cX7_digest 109 = .ok (.iinc 3 1, 3) := by decide +kernel
theorem dX7_digest_112 : decode cX7_digest 112 = .ok (.goto (-29), 3) := by decide +kernel
theorem dX7_digest_115 : decode cX7_digest 115 = .ok (.aload_n 0, 1) := by decide +kernel
theorem dX7_digest_116 : decode cX7_digest 116 = .ok (.lload_n 1, 1) := by decide +kernel
theorem dX7_digest_117 : decode cX7_digest 117 = .ok (.iconst 0, 1) := by decide +kernel
theorem dX7_digest_118 : decode cX7_digest 118 = .ok (.iconst 1, 1) := by decide +kernel
theorem dX7_digest_119 : decode cX7_digest 119 = .ok (.invokevirtual 230, 3) := by decide +kernel
theorem dX7_digest_122 : decode cX7_digest 122 = .ok (.lstore_n 1, 1) := by decide +kernel
theorem dX7_digest_123 : decode cX7_digest 123 = .ok (.aload_n 0, 1) := by decide +kernel
theorem dX7_digest_124 : decode cX7_digest 124 = .ok (.lload_n 1, 1) := by decide +kernel
theorem dX7_digest_125 : decode cX7_digest 125 = .ok (.iconst 0, 1) := by decide +kernel
theorem dX7_digest_126 : decode cX7_digest 126 = .ok (.iconst 2, 1) := by decide +kernel
theorem dX7_digest_127 : decode cX7_digest 127 = .ok (.invokevirtual 230, 3) := by decide +kernel
theorem dX7_digest_130 : decode cX7_digest 130 = .ok (.lstore_n 1, 1) := by decide +kernel
theorem dX7_digest_131 : decode cX7_digest 131 = .ok (.aload_n 0, 1) := by decide +kernel
theorem dX7_digest_132 : decode cX7_digest 132 = .ok (.lload_n 1, 1) := by decide +kernel
theorem dX7_digest_133 : decode cX7_digest 133 = .ok (.iconst 1, 1) := by decide +kernel
theorem dX7_digest_134 : decode cX7_digest 134 = .ok (.iconst 0, 1) := by decide +kernel
theorem dX7_digest_135 : decode cX7_digest 135 = .ok (.invokevirtual 230, 3) := by decide +kernel
theorem dX7_digest_138 : decode cX7_digest 138 = .ok (.lstore_n 1, 1) := by decide +kernel
theorem dX7_digest_139 : decode cX7_digest 139 = .ok (.aload_n 0, 1) := by decide +kernel
theorem dX7_digest_140 : decode cX7_digest 140 = .ok (.lload_n 1, 1) := by decide +kernel
theorem dX7_digest_141 : decode cX7_digest 141 = .ok (.iconst 2, 1) := by decide +kernel
theorem dX7_digest_142 : decode cX7_digest 142 = .ok (.iconst 0, 1) := by decide +kernel
theorem dX7_digest_143 : decode cX7_digest 143 = .ok (.invokevirtual 230, 3) := by decide +kernel
theorem dX7_digest_146 : decode cX7_digest 146 = .ok (.lreturn, 1) := by decide +kernel
theorem dX7_digestSlot_0 : decode cX7_digestSlot 0 = .ok (.lload_n 1, 1) := by decide +kernel
theorem dX7_digestSlot_1 : decode cX7_digestSlot 1 = .ok (.lstore 4, 2) := by decide +kernel
theorem dX7_digestSlot_3 : decode cX7_digestSlot 3 = .ok (.iconst 0, 1) := by decide +kernel
theorem dX7_digestSlot_4 : decode cX7_digestSlot 4 = .ok (.istore 6, 2) := by decide +kernel
theorem dX7_digestSlot_6 : decode cX7_digestSlot 6 = .ok (.iload 6, 2) := by decide +kernel
theorem dX7_digestSlot_8 : decode cX7_digestSlot 8 = .ok (.bipush 6, 2) := by decide +kernel
theorem dX7_digestSlot_10 : decode cX7_digestSlot 10 = .ok (.if_icmp .ge 29, 3) := by decide +kernel
theorem dX7_digestSlot_13 : decode cX7_digestSlot 13 = .ok (.ldc2_w 224, 3) := by decide +kernel
theorem dX7_digestSlot_16 : decode cX7_digestSlot 16 = .ok (.lload 4, 2) := by decide +kernel
theorem dX7_digestSlot_18 : decode cX7_digestSlot 18 = .ok (.lmul, 1) := by decide +kernel
theorem dX7_digestSlot_19 : decode cX7_digestSlot 19 = .ok (.aload_n 0, 1) := by decide +kernel
theorem dX7_digestSlot_20 : decode cX7_digestSlot 20 = .ok (.getfield 10, 3) := by decide +kernel
theorem dX7_digestSlot_23 : decode cX7_digestSlot 23 = .ok (.iload_n 3, 1) := by decide +kernel
theorem dX7_digestSlot_24 : decode cX7_digestSlot 24 = .ok (.iload 6, 2) := by decide +kernel
theorem dX7_digestSlot_26 : decode cX7_digestSlot 26 = .ok (.invokevirtual 90, 3) := by decide +kernel
theorem dX7_digestSlot_29 : decode cX7_digestSlot 29 = .ok (.i2l, 1) := by decide +kernel
theorem dX7_digestSlot_30 : decode cX7_digestSlot 30 = .ok (.ladd, 1) := by decide +kernel
theorem dX7_digestSlot_31 : decode cX7_digestSlot 31 = .ok (.lstore 4, 2) := by decide +kernel
theorem dX7_digestSlot_33 : decode cX7_digestSlot 33 = .ok (.iinc 6 1, 3) := by decide +kernel
theorem dX7_digestSlot_36 : decode cX7_digestSlot 36 = .ok (.goto (-30), 3) := by decide +kernel
theorem dX7_digestSlot_39 : decode cX7_digestSlot 39 = .ok (.aload_n 0, 1) := by decide +kernel
theorem dX7_digestSlot_40 : decode cX7_digestSlot 40 = .ok (.getfield 10, 3) := by decide +kernel
theorem dX7_digestSlot_43 : decode cX7_digestSlot 43 = .ok (.iload_n 3, 1) := by decide +kernel
theorem dX7_digestSlot_44 : decode cX7_digestSlot 44 = .ok (.invokevirtual 96, 3) := by decide +kernel
theorem dX7_digestSlot_47 : decode cX7_digestSlot 47 = .ok (.astore 6, 2) := by decide +kernel
theorem dX7_digestSlot_49 : decode cX7_digestSlot 49 = .ok (.iconst 0, 1) := by decide +kernel
theorem dX7_digestSlot_50 : decode cX7_digestSlot 50 = .ok (.istore 7, 2) := by decide +kernel
theorem dX7_digestSlot_52 : decode cX7_digestSlot 52 = .ok (.iload 7, 2) := by decide +kernel
theorem dX7_digestSlot_54 : decode cX7_digestSlot 54 = .ok (.aload 6, 2) := by decide +kernel
theorem dX7_digestSlot_56 : decode cX7_digestSlot 56 = .ok (.getfield 234, 3) := by decide +kernel
theorem dX7_digestSlot_59 : decode cX7_digestSlot 59 = .ok (.if_icmp .ge 27, 3) := by decide +kernel
theorem dX7_digestSlot_62 : decode cX7_digestSlot 62 = .ok (.ldc2_w 224, 3) := by decide +kernel
theorem dX7_digestSlot_65 : decode cX7_digestSlot 65 = .ok (.lload 4, 2) := by decide +kernel
theorem dX7_digestSlot_67 : decode cX7_digestSlot 67 = .ok (.lmul, 1) := by decide +kernel
theorem dX7_digestSlot_68 : decode cX7_digestSlot 68 = .ok (.aload 6, 2) := by decide +kernel
theorem dX7_digestSlot_70 : decode cX7_digestSlot 70 = .ok (.getfield 100, 3) := by decide +kernel
theorem dX7_digestSlot_73 : decode cX7_digestSlot 73 = .ok (.iload 7, 2) := by decide +kernel
theorem dX7_digestSlot_75 : decode cX7_digestSlot 75 = .ok (.iaload, 1) := by decide +kernel
theorem dX7_digestSlot_76 : decode cX7_digestSlot 76 = .ok (.i2l, 1) := by decide +kernel
theorem dX7_digestSlot_77 : decode cX7_digestSlot 77 = .ok (.ladd, 1) := by decide +kernel
theorem dX7_digestSlot_78 : decode cX7_digestSlot 78 = .ok (.lstore 4, 2) := by decide +kernel
theorem dX7_digestSlot_80 : decode cX7_digestSlot 80 = .ok (.iinc 7 1, 3) := by decide +kernel
theorem dX7_digestSlot_83 : decode cX7_digestSlot 83 = .ok (.goto (-31), 3) := by decide +kernel
theorem dX7_digestSlot_86 : decode cX7_digestSlot 86 = .ok (.lload 4, 2) := by decide +kernel
theorem dX7_digestSlot_88 : decode cX7_digestSlot 88 = .ok (.lreturn, 1) := by decide +kernel
theorem dX7_digestKind_0 : decode cX7_digestKind 0 = .ok (.lload_n 1, 1) := by decide +kernel
theorem dX7_digestKind_1 : decode cX7_digestKind 1 = .ok (.lstore 5, 2) := by decide +kernel
theorem dX7_digestKind_3 : decode cX7_digestKind 3 = .ok (.aload_n 0, 1) := by decide +kernel
theorem dX7_digestKind_4 : decode cX7_digestKind 4 = .ok (.getfield 33, 3) := by decide +kernel
theorem dX7_digestKind_7 : decode cX7_digestKind 7 = .ok (.aload_n 0, 1) := by decide +kernel
theorem dX7_digestKind_8 : decode cX7_digestKind 8 = .ok (.getfield 10, 3) := by decide +kernel
theorem dX7_digestKind_11 : decode cX7_digestKind 11 = .ok (.getfield 47, 3) := by decide +kernel
theorem dX7_digestKind_14 : decode cX7_digestKind 14 = .ok (.getfield 168, 3) := by decide +kernel
theorem dX7_digestKind_17 : decode cX7_digestKind 17 = .ok (.iload_n 3, 1) := by decide +kernel
theorem dX7_digestKind_18 : decode cX7_digestKind 18 = .ok (.iload 4, 2) := by decide +kernel
theorem dX7_digestKind_20 : decode cX7_digestKind 20 = .ok (.invokevirtual 171, 3) := by decide +kernel
theorem dX7_digestKind_23 : decode cX7_digestKind 23 = .ok (.iconst 1, 1) := by decide +kernel
theorem dX7_digestKind_24 : decode cX7_digestKind 24 = .ok (.istore 7, 2) := by decide +kernel
theorem dX7_digestKind_26 : decode cX7_digestKind 26 = .ok (.iload 7, 2) := by decide +kernel
theorem dX7_digestKind_28 : decode cX7_digestKind 28 = .ok (.bipush 8, 2) := by decide +kernel
theorem dX7_digestKind_30 : decode cX7_digestKind 30 = .ok (.if_icmp .gt 28, 3) := by decide +kernel
theorem dX7_digestKind_33 : decode cX7_digestKind 33 = .ok (.ldc2_w 224, 3) := by decide +kernel
theorem dX7_digestKind_36 : decode cX7_digestKind 36 = .ok (.lload 5, 2) := by decide +kernel
theorem dX7_digestKind_38 : decode cX7_digestKind 38 = .ok (.lmul, 1) := by decide +kernel
theorem dX7_digestKind_39 : decode cX7_digestKind 39 = .ok (.aload_n 0, 1) := by decide +kernel
theorem dX7_digestKind_40 : decode cX7_digestKind 40 = .ok (.getfield 33, 3) := by decide +kernel
theorem dX7_digestKind_43 : decode cX7_digestKind 43 = .ok (.getfield 175, 3) := by decide +kernel
theorem dX7_digestKind_46 : decode cX7_digestKind 46 = .ok (.iload 7, 2) := by decide +kernel
theorem dX7_digestKind_48 : decode cX7_digestKind 48 = .ok (.laload, 1) := by decide +kernel
theorem dX7_digestKind_49 : decode cX7_digestKind 49 = .ok (.ladd, 1) := by decide +kernel
theorem dX7_digestKind_50 : decode cX7_digestKind 50 = .ok (.lstore 5, 2) := by decide +kernel
theorem dX7_digestKind_52 : decode cX7_digestKind 52 = .ok (.iinc 7 1, 3) := by decide +kernel
theorem dX7_digestKind_55 : decode cX7_digestKind 55 = .ok (.goto (-29), 3) := by decide +kernel
theorem dX7_digestKind_58 : decode cX7_digestKind 58 = .ok (.lload 5, 2) := by decide +kernel
theorem dX7_digestKind_60 : decode cX7_digestKind 60 = .ok (.lreturn, 1) := by decide +kernel
theorem dX7_toldValue_0 : decode cX7_toldValue 0 = .ok (.iload_n 1, 1) := by decide +kernel
theorem dX7_toldValue_1 : decode cX7_toldValue 1 = .ok (.tableswitch 54 0 3 #[31, 36, 41, 46], 31) := by decide +kernel
theorem dX7_toldValue_32 : decode cX7_toldValue 32 = .ok (.aload_n 0, 1) := by decide +kernel
theorem dX7_toldValue_33 : decode cX7_toldValue 33 = .ok (.getfield 37, 3) := by decide +kernel
theorem dX7_toldValue_36 : decode cX7_toldValue 36 = .ok (.ireturn, 1) := by decide +kernel
theorem dX7_toldValue_37 : decode cX7_toldValue 37 = .ok (.aload_n 0, 1) := by decide +kernel
theorem dX7_toldValue_38 : decode cX7_toldValue 38 = .ok (.getfield 41, 3) := by decide +kernel
theorem dX7_toldValue_41 : decode cX7_toldValue 41 = .ok (.ireturn, 1) := by decide +kernel
theorem dX7_toldValue_42 : decode cX7_toldValue 42 = .ok (.aload_n 0, 1) := by decide +kernel
theorem dX7_toldValue_43 : decode cX7_toldValue 43 = .ok (.getfield 44, 3) := by decide +kernel
theorem dX7_toldValue_46 : decode cX7_toldValue 46 = .ok (.ireturn, 1) := by decide +kernel
theorem dX7_toldValue_47 : decode cX7_toldValue 47 = .ok (.aload_n 0, 1) := by decide +kernel
theorem dX7_toldValue_48 : decode cX7_toldValue 48 = .ok (.getfield 26, 3) := by decide +kernel
theorem dX7_toldValue_51 : decode cX7_toldValue 51 = .ok (.getfield 179, 3) := by decide +kernel
theorem dX7_toldValue_54 : decode cX7_toldValue 54 = .ok (.ireturn, 1) := by decide +kernel
theorem dX7_toldValue_55 : decode cX7_toldValue 55 = .ok (.aload_n 0, 1) := by decide +kernel
theorem dX7_toldValue_56 : decode cX7_toldValue 56 = .ok (.getfield 19, 3) := by decide +kernel
theorem dX7_toldValue_59 : decode cX7_toldValue 59 = .ok (.getfield 213, 3) := by decide +kernel
theorem dX7_toldValue_62 : decode cX7_toldValue 62 = .ok (.ireturn, 1) := by decide +kernel
theorem dX7_settled_0 : decode cX7_settled 0 = .ok (.iload_n 1, 1) := by decide +kernel
theorem dX7_settled_1 : decode cX7_settled 1 = .ok (.bipush (-2), 2) := by decide +kernel
theorem dX7_settled_3 : decode cX7_settled 3 = .ok (.if_icmp .ne 16, 3) := by decide +kernel
theorem dX7_settled_6 : decode cX7_settled 6 = .ok (.aload_n 0, 1) := by decide +kernel
theorem dX7_settled_7 : decode cX7_settled 7 = .ok (.dup, 1) := by decide +kernel
theorem dX7_settled_8 : decode cX7_settled 8 = .ok (.getfield 37, 3) := by decide +kernel
theorem dX7_settled_11 : decode cX7_settled 11 = .ok (.iconst 1, 1) := by decide +kernel
theorem dX7_settled_12 : decode cX7_settled 12 = .ok (.iadd, 1) := by decide +kernel
theorem dX7_settled_13 : decode cX7_settled 13 = .ok (.putfield 37, 3) := by decide +kernel
theorem dX7_settled_16 : decode cX7_settled 16 = .ok (.goto 10, 3) := by decide +kernel
theorem dX7_settled_19 : decode cX7_settled 19 = .ok (.aload_n 0, 1) := by decide +kernel
theorem dX7_settled_20 : decode cX7_settled 20 = .ok (.getfield 19, 3) := by decide +kernel
theorem dX7_settled_23 : decode cX7_settled 23 = .ok (.invokevirtual 210, 3) := by decide +kernel
theorem dX7_settled_26 : decode cX7_settled 26 = .ok (.iload_n 1, 1) := by decide +kernel
theorem dX7_settled_27 : decode cX7_settled 27 = .ok (.ireturn, 1) := by decide +kernel
theorem dX7_bad_0 : decode cX7_bad 0 = .ok (.aload_n 0, 1) := by decide +kernel
theorem dX7_bad_1 : decode cX7_bad 1 = .ok (.dup, 1) := by decide +kernel
theorem dX7_bad_2 : decode cX7_bad 2 = .ok (.getfield 37, 3) := by decide +kernel
theorem dX7_bad_5 : decode cX7_bad 5 = .ok (.iconst 1, 1) := by decide +kernel
theorem dX7_bad_6 : decode cX7_bad 6 = .ok (.iadd, 1) := by decide +kernel
theorem dX7_bad_7 : decode cX7_bad 7 = .ok (.putfield 37, 3) := by decide +kernel
theorem dX7_bad_10 : decode cX7_bad 10 = .ok (.bipush (-2), 2) := by decide +kernel
theorem dX7_bad_12 : decode cX7_bad 12 = .ok (.ireturn, 1) := by decide +kernel
theorem dX7_no_0 : decode cX7_no 0 = .ok (.aload_n 0, 1) := by decide +kernel
theorem dX7_no_1 : decode cX7_no 1 = .ok (.dup, 1) := by decide +kernel
theorem dX7_no_2 : decode cX7_no 2 = .ok (.getfield 41, 3) := by decide +kernel
theorem dX7_no_5 : decode cX7_no 5 = .ok (.iconst 1, 1) := by decide +kernel
theorem dX7_no_6 : decode cX7_no 6 = .ok (.iadd, 1) := by decide +kernel
theorem dX7_no_7 : decode cX7_no 7 = .ok (.putfield 41, 3) := by decide +kernel
theorem dX7_no_10 : decode cX7_no 10 = .ok (.bipush (-3), 2) := by decide +kernel
theorem dX7_no_12 : decode cX7_no 12 = .ok (.ireturn, 1) := by decide +kernel
theorem dX7_intervalError_0 : decode cX7_intervalError 0 = .ok (.iload_n 1, 1) := by decide +kernel
theorem dX7_intervalError_1 : decode cX7_intervalError 1 = .ok (.invokestatic 82, 3) := by decide +kernel
theorem dX7_intervalError_4 : decode cX7_intervalError 4 = .ok (.ifCond .eq 10, 3) := by decide +kernel
theorem dX7_intervalError_7 : decode cX7_intervalError 7 = .ok (.iload_n 2, 1) := by decide +kernel
theorem dX7_intervalError_8 : decode cX7_intervalError 8 = .ok (.invokestatic 82, 3) := by decide +kernel
theorem dX7_intervalError_11 : decode cX7_intervalError 11 = .ok (.ifCond .ne 8, 3) := by decide +kernel
theorem dX7_intervalError_14 : decode cX7_intervalError 14 = .ok (.aload_n 0, 1) := by decide +kernel
theorem dX7_intervalError_15 : decode cX7_intervalError 15 = .ok (.invokevirtual 86, 3) := by decide +kernel
theorem dX7_intervalError_18 : decode cX7_intervalError 18 = .ok (.ireturn, 1) := by decide +kernel
theorem dX7_intervalError_19 : decode cX7_intervalError 19 = .ok (.aload_n 0, 1) := by decide +kernel
theorem dX7_intervalError_20 : decode cX7_intervalError 20 = .ok (.getfield 10, 3) := by decide +kernel
theorem dX7_intervalError_23 : decode cX7_intervalError 23 = .ok (.iload_n 1, 1) := by decide +kernel
theorem dX7_intervalError_24 : decode cX7_intervalError 24 = .ok (.invokevirtual 96, 3) := by decide +kernel
theorem dX7_intervalError_27 : decode cX7_intervalError 27 = .ok (.aload_n 0, 1) := by decide +kernel
theorem dX7_intervalError_28 : decode cX7_intervalError 28 = .ok (.getfield 10, 3) := by decide +kernel
theorem dX7_intervalError_31 : decode cX7_intervalError 31 = .ok (.iload_n 2, 1) := by decide +kernel
theorem dX7_intervalError_32 : decode cX7_intervalError 32 = .ok (.invokevirtual 96, 3) := by decide +kernel
theorem dX7_intervalError_35 : decode cX7_intervalError 35 = .ok (.invokevirtual 106, 3) := by decide +kernel
theorem dX7_intervalError_38 : decode cX7_intervalError 38 = .ok (.ifCond .eq 7, 3) := by decide +kernel
theorem dX7_intervalError_41 : decode cX7_intervalError 41 = .ok (.iconst 0, 1) := by decide +kernel
theorem dX7_intervalError_42 : decode cX7_intervalError 42 = .ok (.goto 7, 3) := by decide +kernel
theorem dX7_intervalError_45 : decode cX7_intervalError 45 = .ok (.aload_n 0, 1) := by decide +kernel
theorem dX7_intervalError_46 : decode cX7_intervalError 46 = .ok (.invokevirtual 121, 3) := by decide +kernel
theorem dX7_intervalError_49 : decode cX7_intervalError 49 = .ok (.ireturn, 1) := by decide +kernel
theorem dX7_isLabels_0 : decode cX7_isLabels 0 = .ok (.iload_n 1, 1) := by decide +kernel
theorem dX7_isLabels_1 : decode cX7_isLabels 1 = .ok (.ifCond .ge 5, 3) := by decide +kernel
theorem dX7_isLabels_4 : decode cX7_isLabels 4 = .ok (.iconst 0, 1) := by decide +kernel
theorem dX7_isLabels_5 : decode cX7_isLabels 5 = .ok (.ireturn, 1) := by decide +kernel
theorem dX7_isLabels_6 : decode cX7_isLabels 6 = .ok (.iload_n 1, 1) := by decide +kernel
theorem dX7_isLabels_7 : decode cX7_isLabels 7 = .ok (.istore_n 2, 1) := by decide +kernel
theorem dX7_isLabels_8 : decode cX7_isLabels 8 = .ok (.iconst 1, 1) := by decide +kernel
theorem dX7_isLabels_9 : decode cX7_isLabels 9 = .ok (.istore_n 3, 1) := by decide +kernel
theorem dX7_isLabels_10 : decode cX7_isLabels 10 = .ok (.iload_n 3, 1) := by decide +kernel
theorem dX7_isLabels_11 : decode cX7_isLabels 11 = .ok (.aload_n 0, 1) := by decide +kernel
theorem dX7_isLabels_12 : decode cX7_isLabels 12 = .ok (.getfield 10, 3) := by decide +kernel
theorem dX7_isLabels_15 : decode cX7_isLabels 15 = .ok (.getfield 47, 3) := by decide +kernel
theorem dX7_isLabels_18 : decode cX7_isLabels 18 = .ok (.getfield 113, 3) := by decide +kernel
theorem dX7_isLabels_21 : decode cX7_isLabels 21 = .ok (.if_icmp .ge 25, 3) := by decide +kernel
theorem dX7_isLabels_24 : decode cX7_isLabels 24 = .ok (.iload_n 2, 1) := by decide +kernel
theorem dX7_isLabels_25 : decode cX7_isLabels 25 = .ok (.bipush 10, 2) := by decide +kernel
theorem dX7_isLabels_27 : decode cX7_isLabels 27 = .ok (.irem, 1) := by decide +kernel
theorem dX7_isLabels_28 : decode cX7_isLabels 28 = .ok (.bipush 7, 2) := by decide +kernel
theorem dX7_isLabels_30 : decode cX7_isLabels 30 = .ok (.if_icmp .le 5, 3) := by decide +kernel
theorem dX7_isLabels_33 : decode cX7_isLabels 33 = .ok (.iconst 0, 1) := by decide +kernel
theorem dX7_isLabels_34 : decode cX7_isLabels 34 = .ok (.ireturn, 1) := by decide +kernel
theorem dX7_isLabels_35 : decode cX7_isLabels 35 = .ok (.iload_n 2, 1) := by decide +kernel
theorem dX7_isLabels_36 : decode cX7_isLabels 36 = .ok (.bipush 10, 2) := by decide +kernel
theorem dX7_isLabels_38 : decode cX7_isLabels 38 = .ok (.idiv, 1) := by decide +kernel
theorem dX7_isLabels_39 : decode cX7_isLabels 39 = .ok (.istore_n 2, 1) := by decide +kernel
theorem dX7_isLabels_40 : decode cX7_isLabels 40 = .ok (.iinc 3 1, 3) := by decide +kernel
theorem dX7_isLabels_43 : decode cX7_isLabels 43 = .ok (.goto (-33), 3) := by decide +kernel
theorem dX7_isLabels_46 : decode cX7_isLabels 46 = .ok (.iload_n 2, 1) := by decide +kernel
theorem dX7_isLabels_47 : decode cX7_isLabels 47 = .ok (.ifCond .ne 7, 3) := by decide +kernel
theorem dX7_isLabels_50 : decode cX7_isLabels 50 = .ok (.iconst 1, 1) := by decide +kernel
theorem dX7_isLabels_51 : decode cX7_isLabels 51 = .ok (.goto 4, 3) := by decide +kernel
theorem dX7_isLabels_54 : decode cX7_isLabels 54 = .ok (.iconst 0, 1) := by decide +kernel
theorem dX7_isLabels_55 : decode cX7_isLabels 55 = .ok (.ireturn, 1) := by decide +kernel
theorem dX7_isSlot_0 : decode cX7_isSlot 0 = .ok (.iload_n 0, 1) := by decide +kernel
theorem dX7_isSlot_1 : decode cX7_isSlot 1 = .ok (.ifCond .lt 13, 3) := by decide +kernel
theorem dX7_isSlot_4 : decode cX7_isSlot 4 = .ok (.iload_n 0, 1) := by decide +kernel
theorem dX7_isSlot_5 : decode cX7_isSlot 5 = .ok (.bipush 6, 2) := by decide +kernel
theorem dX7_isSlot_7 : decode cX7_isSlot 7 = .ok (.if_icmp .ge 7, 3) := by decide +kernel
theorem dX7_isSlot_10 : decode cX7_isSlot 10 = .ok (.iconst 1, 1) := by decide +kernel
theorem dX7_isSlot_11 : decode cX7_isSlot 11 = .ok (.goto 4, 3) := by decide +kernel
theorem dX7_isSlot_14 : decode cX7_isSlot 14 = .ok (.iconst 0, 1) := by decide +kernel
theorem dX7_isSlot_15 : decode cX7_isSlot 15 = .ok (.ireturn, 1) := by decide +kernel
theorem dX7_choose_0 : decode cX7_choose 0 = .ok (.iload_n 1, 1) := by decide +kernel
theorem dX7_choose_1 : decode cX7_choose 1 = .ok (.ifCond .lt 8, 3) := by decide +kernel
theorem dX7_choose_4 : decode cX7_choose 4 = .ok (.iload_n 1, 1) := by decide +kernel
theorem dX7_choose_5 : decode cX7_choose 5 = .ok (.iload_n 0, 1) := by decide +kernel
theorem dX7_choose_6 : decode cX7_choose 6 = .ok (.if_icmp .le 5, 3) := by decide +kernel
theorem dX7_choose_9 : decode cX7_choose 9 = .ok (.iconst 0, 1) := by decide +kernel
theorem dX7_choose_10 : decode cX7_choose 10 = .ok (.ireturn, 1) := by decide +kernel
theorem dX7_choose_11 : decode cX7_choose 11 = .ok (.iconst 1, 1) := by decide +kernel
theorem dX7_choose_12 : decode cX7_choose 12 = .ok (.istore_n 2, 1) := by decide +kernel
theorem dX7_choose_13 : decode cX7_choose 13 = .ok (.iconst 1, 1) := by decide +kernel
theorem dX7_choose_14 : decode cX7_choose 14 = .ok (.istore_n 3, 1) := by decide +kernel
theorem dX7_choose_15 : decode cX7_choose 15 = .ok (.iload_n 3, 1) := by decide +kernel
theorem dX7_choose_16 : decode cX7_choose 16 = .ok (.iload_n 1, 1) := by decide +kernel
theorem dX7_choose_17 : decode cX7_choose 17 = .ok (.if_icmp .gt 19, 3) := by decide +kernel
theorem dX7_choose_20 : decode cX7_choose 20 = .ok (.iload_n 2, 1) := by decide +kernel
theorem dX7_choose_21 : decode cX7_choose 21 = .ok (.iload_n 0, 1) := by decide +kernel
theorem dX7_choose_22 : decode cX7_choose 22 = .ok (.iload_n 1, 1) := by decide +kernel
theorem dX7_choose_23 : decode cX7_choose 23 = .ok (.isub, 1) := by decide +kernel
theorem dX7_choose_24 : decode cX7_choose 24 = .ok (.iload_n 3, 1) := by decide +kernel
theorem dX7_choose_25 : decode cX7_choose 25 = .ok (.iadd, 1) := by decide +kernel
theorem dX7_choose_26 : decode cX7_choose 26 = .ok (.imul, 1) := by decide +kernel
theorem dX7_choose_27 : decode cX7_choose 27 = .ok (.iload_n 3, 1) := by decide +kernel
theorem dX7_choose_28 : decode cX7_choose 28 = .ok (.idiv, 1) := by decide +kernel
theorem dX7_choose_29 : decode cX7_choose 29 = .ok (.istore_n 2, 1) := by decide +kernel
theorem dX7_choose_30 : decode cX7_choose 30 = .ok (.iinc 3 1, 3) := by decide +kernel
theorem dX7_choose_33 : decode cX7_choose 33 = .ok (.goto (-18), 3) := by decide +kernel
theorem dX7_choose_36 : decode cX7_choose 36 = .ok (.iload_n 2, 1) := by decide +kernel
theorem dX7_choose_37 : decode cX7_choose 37 = .ok (.ireturn, 1) := by decide +kernel
end
section
theorem dX8_init_0 : decode cX8_init 0 = .ok (.aload_n 0, 1) := by decide +kernel
theorem dX8_init_1 : decode cX8_init 1 = .ok (.invokespecial 1, 3) := by decide +kernel
theorem dX8_init_4 : decode cX8_init 4 = .ok (.aload_n 0, 1) := by decide +kernel
theorem dX8_init_5 : decode cX8_init 5 = .ok (.bipush 15, 2) := by decide +kernel
theorem dX8_init_7 : decode cX8_init 7 = .ok (.newarray .int, 2) := by decide +kernel
theorem dX8_init_9 : decode cX8_init 9 = .ok (.putfield 7, 3) := by decide +kernel
theorem dX8_init_12 : decode cX8_init 12 = .ok (.aload_n 0, 1) := by decide +kernel
theorem dX8_init_13 : decode cX8_init 13 = .ok (.bipush 15, 2) := by decide +kernel
theorem dX8_init_15 : decode cX8_init 15 = .ok (.newarray .int, 2) := by decide +kernel
theorem dX8_init_17 : decode cX8_init 17 = .ok (.putfield 13, 3) := by decide +kernel
theorem dX8_init_20 : decode cX8_init 20 = .ok (.aload_n 0, 1) := by decide +kernel
theorem dX8_init_21 : decode cX8_init 21 = .ok (.bipush 75, 2) := by decide +kernel
theorem dX8_init_23 : decode cX8_init 23 = .ok (.newarray .int, 2) := by decide +kernel
theorem dX8_init_25 : decode cX8_init 25 = .ok (.putfield 16, 3) := by decide +kernel
theorem dX8_init_28 : decode cX8_init 28 = .ok (.aload_n 0, 1) := by decide +kernel
theorem dX8_init_29 : decode cX8_init 29 = .ok (.iconst 3, 1) := by decide +kernel
theorem dX8_init_30 : decode cX8_init 30 = .ok (.newarray .int, 2) := by decide +kernel
theorem dX8_init_32 : decode cX8_init 32 = .ok (.putfield 19, 3) := by decide +kernel
theorem dX8_init_35 : decode cX8_init 35 = .ok (.aload_n 0, 1) := by decide +kernel
theorem dX8_init_36 : decode cX8_init 36 = .ok (.bipush 120, 2) := by decide +kernel
theorem dX8_init_38 : decode cX8_init 38 = .ok (.newarray .int, 2) := by decide +kernel
theorem dX8_init_40 : decode cX8_init 40 = .ok (.putfield 22, 3) := by decide +kernel
theorem dX8_init_43 : decode cX8_init 43 = .ok (.aload_n 0, 1) := by decide +kernel
theorem dX8_init_44 : decode cX8_init 44 = .ok (.bipush 8, 2) := by decide +kernel
theorem dX8_init_46 : decode cX8_init 46 = .ok (.newarray .int, 2) := by decide +kernel
theorem dX8_init_48 : decode cX8_init 48 = .ok (.putfield 25, 3) := by decide +kernel
theorem dX8_init_51 : decode cX8_init 51 = .ok (.aload_n 0, 1) := by decide +kernel
theorem dX8_init_52 : decode cX8_init 52 = .ok (.sipush 1430, 3) := by decide +kernel
theorem dX8_init_55 : decode cX8_init 55 = .ok (.newarray .int, 2) := by decide +kernel
theorem dX8_init_57 : decode cX8_init 57 = .ok (.putfield 28, 3) := by decide +kernel
theorem dX8_init_60 : decode cX8_init 60 = .ok (.aload_n 0, 1) := by decide +kernel
theorem dX8_init_61 : decode cX8_init 61 = .ok (.sipush 1430, 3) := by decide +kernel
theorem dX8_init_64 : decode cX8_init 64 = .ok (.newarray .int, 2) := by decide +kernel
theorem dX8_init_66 : decode cX8_init 66 = .ok (.putfield 31, 3) := by decide +kernel
theorem dX8_init_69 : decode cX8_init 69 = .ok (.aload_n 0, 1) := by decide +kernel
theorem dX8_init_70 : decode cX8_init 70 = .ok (.sipush 1430, 3) := by decide +kernel
theorem dX8_init_73 : decode cX8_init 73 = .ok (.newarray .int, 2) := by decide +kernel
theorem dX8_init_75 : decode cX8_init 75 = .ok (.putfield 34, 3) := by decide +kernel
theorem dX8_init_78 : decode cX8_init 78 = .ok (.aload_n 0, 1) := by decide +kernel
theorem dX8_init_79 : decode cX8_init 79 = .ok (.sipush 1430, 3) := by decide +kernel
theorem dX8_init_82 : decode cX8_init 82 = .ok (.newarray .int, 2) := by decide +kernel
theorem dX8_init_84 : decode cX8_init 84 = .ok (.putfield 37, 3) := by decide +kernel
theorem dX8_init_87 : decode cX8_init 87 = .ok (.aload_n 0, 1) := by decide +kernel
theorem dX8_init_88 : decode cX8_init 88 = .ok (.bipush 9, 2) := by decide +kernel
theorem dX8_init_90 : decode cX8_init 90 = .ok (.newarray .long, 2) := by decide +kernel
theorem dX8_init_92 : decode cX8_init 92 = .ok (.putfield 40, 3) := by decide +kernel
theorem dX8_init_95 : decode cX8_init 95 = .ok (.aload_n 0, 1) := by decide +kernel
theorem dX8_init_96 : decode cX8_init 96 = .ok (.bipush 9, 2) := by decide +kernel
theorem dX8_init_98 : decode cX8_init 98 = .ok (.newarray .long, 2) := by decide +kernel
theorem dX8_init_100 : decode cX8_init 100 = .ok (.putfield 44, 3) := by decide +kernel
theorem dX8_init_103 : decode cX8_init 103 = .ok (.aload_n 0, 1) := by decide +kernel
theorem dX8_init_104 : decode cX8_init 104 = .ok (.bipush 81, 2) := by decide +kernel
theorem dX8_init_106 : decode cX8_init 106 = .ok (.newarray .long, 2) := by decide +kernel
theorem dX8_init_108 : decode cX8_init 108 = .ok (.putfield 47, 3) := by decide +kernel
theorem dX8_init_111 : decode cX8_init 111 = .ok (.aload_n 0, 1) := by decide +kernel
theorem dX8_init_112 : decode cX8_init 112 = .ok (.bipush 60, 2) := by decide +kernel
theorem dX8_init_114 : decode cX8_init 114 = .ok (.newarray .int, 2) := by decide +kernel
theorem dX8_init_116 : decode cX8_init 116 = .ok (.putfield 50, 3) := by decide +kernel
theorem dX8_init_119 : decode cX8_init 119 = .ok (.aload_n 0, 1) := by decide +kernel
theorem dX8_init_120 : decode cX8_init 120 = .ok (.sipush 180, 3) := by decide +kernel
theorem dX8_init_123 : decode cX8_init 123 = .ok (.newarray .int, 2) := by decide +kernel
theorem dX8_init_125 : decode cX8_init 125 = .ok (.putfield 53, 3) := by decide +kernel
theorem dX8_init_128 : decode cX8_init 128 = .ok (.aload_n 0, 1) := by decide +kernel
theorem dX8_init_129 : decode cX8_init 129 = .ok (.iconst 4, 1) := by decide +kernel
theorem dX8_init_130 : decode cX8_init 130 = .ok (.invokevirtual 56, 3) := by decide +kernel
theorem dX8_init_133 : decode cX8_init 133 = .ok (.return_, 1) := by decide +kernel
theorem dX8_in_0 : decode cX8_in 0 = .ok (.iload_n 0, 1) := by decide +kernel
theorem dX8_in_1 : decode cX8_in 1 = .ok (.iload_n 1, 1) := by decide +kernel
theorem dX8_in_2 : decode cX8_in 2 = .ok (.if_icmp .lt 12, 3) := by decide +kernel
theorem dX8_in_5 : decode cX8_in 5 = .ok (.iload_n 0, 1) := by decide +kernel
theorem dX8_in_6 : decode cX8_in 6 = .ok (.iload_n 2, 1) := by decide +kernel
theorem dX8_in_7 : decode cX8_in 7 = .ok (.if_icmp .gt 7, 3) := by decide +kernel
theorem dX8_in_10 : decode cX8_in 10 = .ok (.iconst 1, 1) := by decide +kernel
theorem dX8_in_11 : decode cX8_in 11 = .ok (.goto 4, 3) := by decide +kernel
theorem dX8_in_14 : decode cX8_in 14 = .ok (.iconst 0, 1) := by decide +kernel
theorem dX8_in_15 : decode cX8_in 15 = .ok (.ireturn, 1) := by decide +kernel
theorem dX8_refuses_0 : decode cX8_refuses 0 = .ok (.aload_n 0, 1) := by decide +kernel
theorem dX8_refuses_1 : decode cX8_refuses 1 = .ok (.getfield 19, 3) := by decide +kernel
theorem dX8_refuses_4 : decode cX8_refuses 4 = .ok (.bipush (-2), 2) := by decide +kernel
theorem dX8_refuses_6 : decode cX8_refuses 6 = .ok (.iload_n 1, 1) := by decide +kernel
theorem dX8_refuses_7 : decode cX8_refuses 7 = .ok (.isub, 1) := by decide +kernel
theorem dX8_refuses_8 : decode cX8_refuses 8 = .ok (.dup2, 1) := by decide +kernel
theorem dX8_refuses_9 : decode cX8_refuses 9 = .ok (.iaload, 1) := by decide +kernel
theorem dX8_refuses_10 : decode cX8_refuses 10 = .ok (.iconst 1, 1) := by decide +kernel
theorem dX8_refuses_11 : decode cX8_refuses 11 = .ok (.iadd, 1) := by decide +kernel
theorem dX8_refuses_12 : decode cX8_refuses 12 = .ok (.iastore, 1) := by decide +kernel
theorem dX8_refuses_13 : decode cX8_refuses 13 = .ok (.iload_n 1, 1) := by decide +kernel
theorem dX8_refuses_14 : decode cX8_refuses 14 = .ok (.ireturn, 1) := by decide +kernel
theorem dX8_rowOf_0 : decode cX8_rowOf 0 = .ok (.iload_n 0, 1) := by decide +kernel
theorem dX8_rowOf_1 : decode cX8_rowOf 1 = .ok (.bipush 21, 2) := by decide +kernel
theorem dX8_rowOf_3 : decode cX8_rowOf 3 = .ok (.iconst 3, 1) := by decide +kernel
theorem dX8_rowOf_4 : decode cX8_rowOf 4 = .ok (.iload_n 1, 1) := by decide +kernel
theorem dX8_rowOf_5 : decode cX8_rowOf 5 = .ok (.imul, 1) := by decide +kernel
theorem dX8_rowOf_6 : decode cX8_rowOf 6 = .ok (.isub, 1) := by decide +kernel
theorem dX8_rowOf_7 : decode cX8_rowOf 7 = .ok (.ishr, 1) := by decide +kernel
theorem dX8_rowOf_8 : decode cX8_rowOf 8 = .ok (.bipush 7, 2) := by decide +kernel
theorem dX8_rowOf_10 : decode cX8_rowOf 10 = .ok (.iand, 1) := by decide +kernel
theorem dX8_rowOf_11 : decode cX8_rowOf 11 = .ok (.ireturn, 1) := by decide +kernel
theorem dX8_begin_0 : decode cX8_begin 0 = .ok (.aload_n 0, 1) := by decide +kernel
theorem dX8_begin_1 : decode cX8_begin 1 = .ok (.getfield 7, 3) := by decide +kernel
theorem dX8_begin_4 : decode cX8_begin 4 = .ok (.iconst 0, 1) := by decide +kernel
theorem dX8_begin_5 : decode cX8_begin 5 = .ok (.iload_n 1, 1) := by decide +kernel
theorem dX8_begin_6 : decode cX8_begin 6 = .ok (.iastore, 1) := by decide +kernel
theorem dX8_begin_7 : decode cX8_begin 7 = .ok (.iconst 0, 1) := by decide +kernel
theorem dX8_begin_8 : decode cX8_begin 8 = .ok (.istore_n 2, 1) := by decide +kernel
theorem dX8_begin_9 : decode cX8_begin 9 = .ok (.iconst 0, 1) := by decide +kernel
theorem dX8_begin_10 : decode cX8_begin 10 = .ok (.istore_n 3, 1) := by decide +kernel
theorem dX8_begin_11 : decode cX8_begin 11 = .ok (.iload_n 3, 1) := by decide +kernel
theorem dX8_begin_12 : decode cX8_begin 12 = .ok (.iload_n 1, 1) := by decide +kernel
theorem dX8_begin_13 : decode cX8_begin 13 = .ok (.if_icmp .ge 20, 3) := by decide +kernel
theorem dX8_begin_16 : decode cX8_begin 16 = .ok (.iload_n 2, 1) := by decide +kernel
theorem dX8_begin_17 : decode cX8_begin 17 = .ok (.iload_n 3, 1) := by decide +kernel
theorem dX8_begin_18 : decode cX8_begin 18 = .ok (.bipush 21, 2) := by decide +kernel
theorem dX8_begin_20 : decode cX8_begin 20 = .ok (.iconst 3, 1) := by decide +kernel
theorem dX8_begin_21 : decode cX8_begin 21 = .ok (.iload_n 3, 1) := by decide +kernel
theorem dX8_begin_22 : decode cX8_begin 22 = .ok (.imul, 1) := by decide +kernel
theorem dX8_begin_23 : decode cX8_begin 23 = .ok (.isub, 1) := by decide +kernel
theorem dX8_begin_24 : decode cX8_begin 24 = .ok (.ishl, 1) := by decide +kernel
theorem dX8_begin_25 : decode cX8_begin 25 = .ok (.ior, 1) := by decide +kernel
theorem dX8_begin_26 : decode cX8_begin 26 = .ok (.istore_n 2, 1) := by decide +kernel
theorem dX8_begin_27 : decode cX8_begin 27 = .ok (.iinc 3 1, 3) := by decide +kernel
theorem dX8_begin_30 : decode cX8_begin 30 = .ok (.goto (-19), 3) := by decide +kernel
theorem dX8_begin_33 : decode cX8_begin 33 = .ok (.iconst 0, 1) := by decide +kernel
theorem dX8_begin_34 : decode cX8_begin 34 = .ok (.istore_n 3, 1) := by decide +kernel
theorem dX8_begin_35 : decode cX8_begin 35 = .ok (.iload_n 3, 1) := by decide +kernel
theorem dX8_begin_36 : decode cX8_begin 36 = .ok (.bipush 6, 2) := by decide +kernel
theorem dX8_begin_38 : decode cX8_begin 38 = .ok (.if_icmp .ge 18, 3) := by decide +kernel
theorem dX8_begin_41 : decode cX8_begin 41 = .ok (.aload_n 0, 1) := by decide +kernel
theorem dX8_begin_42 : decode cX8_begin 42 = .ok (.getfield 7, 3) := by decide +kernel
theorem dX8_begin_45 : decode cX8_begin 45 = .ok (.iconst 1, 1) := by decide +kernel
theorem dX8_begin_46 : decode cX8_begin 46 = .ok (.iload_n 3, 1) := by decide +kernel
theorem dX8_begin_47 : decode cX8_begin 47 = .ok (.iadd, 1) := by decide +kernel
theorem dX8_begin_48 : decode cX8_begin 48 = .ok (.iload_n 2, 1) := by decide +kernel
theorem dX8_begin_49 : decode cX8_begin 49 = .ok (.iastore, 1) := by decide +kernel
theorem dX8_begin_50 : decode cX8_begin 50 = .ok (.iinc 3 1, 3) := by decide +kernel
theorem dX8_begin_53 : decode cX8_begin 53 = .ok (.goto (-18), 3) := by decide +kernel
theorem dX8_begin_56 : decode cX8_begin 56 = .ok (.return_, 1) := by decide +kernel
theorem dX8_packed_0 : decode cX8_packed 0 = .ok (.iconst 0, 1) := by decide +kernel
theorem dX8_packed_1 : decode cX8_packed 1 = .ok (.istore_n 1, 1) := by decide +kernel
theorem dX8_packed_2 : decode cX8_packed 2 = .ok (.iconst 0, 1) := by decide +kernel
theorem dX8_packed_3 : decode cX8_packed 3 = .ok (.istore_n 2, 1) := by decide +kernel
theorem dX8_packed_4 : decode cX8_packed 4 = .ok (.iload_n 2, 1) := by decide +kernel
theorem dX8_packed_5 : decode cX8_packed 5 = .ok (.aload_n 0, 1) := by decide +kernel
theorem dX8_packed_6 : decode cX8_packed 6 = .ok (.getfield 7, 3) := by decide +kernel
theorem dX8_packed_9 : decode cX8_packed 9 = .ok (.iconst 0, 1) := by decide +kernel
theorem dX8_packed_10 : decode cX8_packed 10 = .ok (.iaload, 1) := by decide +kernel
theorem dX8_packed_11 : decode cX8_packed 11 = .ok (.if_icmp .ge 59, 3) := by decide +kernel
theorem dX8_packed_14 : decode cX8_packed 14 = .ok (.iload_n 2, 1) := by decide +kernel
theorem dX8_packed_15 : decode cX8_packed 15 = .ok (.istore_n 3, 1) := by decide +kernel
theorem dX8_packed_16 : decode cX8_packed 16 = .ok (.iload_n 2, 1) := by decide +kernel
theorem dX8_packed_17 : decode cX8_packed 17 = .ok (.istore 4, 2) := by decide +kernel
theorem dX8_packed_19 : decode cX8_packed 19 = .ok (.iload 4, 2) := by decide +kernel
theorem dX8_packed_21 : decode cX8_packed 21 = .ok (.ifCond .lt 32, 3) := by decide +kernel
theorem dX8_packed_24 : decode cX8_packed 24 = .ok (.aload_n 0, 1) := by decide +kernel
theorem dX8_packed_25 : decode cX8_packed 25 = .ok (.getfield 25, 3) := by decide +kernel
theorem dX8_packed_28 : decode cX8_packed 28 = .ok (.iload 4, 2) := by decide +kernel
theorem dX8_packed_30 : decode cX8_packed 30 = .ok (.iaload, 1) := by decide +kernel
theorem dX8_packed_31 : decode cX8_packed 31 = .ok (.aload_n 0, 1) := by decide +kernel
theorem dX8_packed_32 : decode cX8_packed 32 = .ok (.getfield 25, 3) := by decide +kernel
theorem dX8_packed_35 : decode cX8_packed 35 = .ok (.iload_n 2, 1) := by decide +kernel
theorem dX8_packed_36 : decode cX8_packed 36 = .ok (.iaload, 1) := by decide +kernel
theorem dX8_packed_37 : decode cX8_packed 37 = .ok (.if_icmp .ne 8, 3) := by decide +kernel
theorem dX8_packed_40 : decode cX8_packed 40 = .ok (.iload 4, 2) := by decide +kernel
theorem dX8_packed_42 : decode cX8_packed 42 = .ok (.goto 4, 3) := by decide +kernel
theorem dX8_packed_45 : decode cX8_packed 45 = .ok (.iload_n 3, 1) := by decide +kernel
theorem dX8_packed_46 : decode cX8_packed 46 = .ok (.istore_n 3, 1) := by decide +kernel
theorem dX8_packed_47 : decode cX8_packed 47 = .ok (.iinc 4 (-1), 3) := by decide +kernel
theorem dX8_packed_50 : decode cX8_packed 50 = .ok (.goto (-31), 3) := by decide +kernel
theorem dX8_packed_53 : decode cX8_packed 53 = .ok (.iload_n 1, 1) := by decide +kernel
theorem dX8_packed_54 : decode cX8_packed 54 = .ok (.iload_n 3, 1) := by decide +kernel
theorem dX8_packed_55 : decode cX8_packed 55 = .ok (.bipush 21, 2) := by decide +kernel
theorem dX8_packed_57 : decode cX8_packed 57 = .ok (.iconst 3, 1) := by decide +kernel
theorem dX8_packed_58 : decode cX8_packed 58 = .ok (.iload_n 2, 1) := by decide +kernel
theorem dX8_packed_59 : decode cX8_packed 59 = .ok (.imul, 1) := by decide +kernel
theorem dX8_packed_60 : decode cX8_packed 60 = .ok (.isub, 1) := by decide +kernel
theorem dX8_packed_61 : decode cX8_packed 61 = .ok (.ishl, 1) := by decide +kernel
theorem dX8_packed_62 : decode cX8_packed 62 = .ok (.ior, 1) := by decide +kernel
theorem dX8_packed_63 : decode cX8_packed 63 = .ok (.istore_n 1, 1) := by decide +kernel
theorem dX8_packed_64 : decode cX8_packed 64 = .ok (.iinc 2 1, 3) := by decide +kernel
theorem dX8_packed_67 : decode cX8_packed 67 = .ok (.goto (-63), 3) := by decide +kernel
theorem dX8_packed_70 : decode cX8_packed 70 = .ok (.iload_n 1, 1) := by decide +kernel
theorem dX8_packed_71 : decode cX8_packed 71 = .ok (.ireturn, 1) := by decide +kernel
theorem dX8_unite_0 : decode cX8_unite 0 = .ok (.iconst 0, 1) := by decide +kernel
theorem dX8_unite_1 : decode cX8_unite 1 = .ok (.istore_n 3, 1) := by decide +kernel
theorem dX8_unite_2 : decode cX8_unite 2 = .ok (.iload_n 3, 1) := by decide +kernel
theorem dX8_unite_3 : decode cX8_unite 3 = .ok (.bipush 8, 2) := by decide +kernel
theorem dX8_unite_5 : decode cX8_unite 5 = .ok (.if_icmp .ge 35, 3) := by decide +kernel
theorem dX8_unite_8 : decode cX8_unite 8 = .ok (.aload_n 0, 1) := by decide +kernel
theorem dX8_unite_9 : decode cX8_unite 9 = .ok (.getfield 25, 3) := by decide +kernel
theorem dX8_unite_12 : decode cX8_unite 12 = .ok (.iload_n 3, 1) := by decide +kernel
theorem dX8_unite_13 : decode cX8_unite 13 = .ok (.aload_n 0, 1) := by decide +kernel
theorem dX8_unite_14 : decode cX8_unite 14 = .ok (.getfield 25, 3) := by decide +kernel
theorem dX8_unite_17 : decode cX8_unite 17 = .ok (.iload_n 3, 1) := by decide +kernel
theorem dX8_unite_18 : decode cX8_unite 18 = .ok (.iaload, 1) := by decide +kernel
theorem dX8_unite_19 : decode cX8_unite 19 = .ok (.iload_n 2, 1) := by decide +kernel
theorem dX8_unite_20 : decode cX8_unite 20 = .ok (.if_icmp .ne 7, 3) := by decide +kernel
theorem dX8_unite_23 : decode cX8_unite 23 = .ok (.iload_n 1, 1) := by decide +kernel
theorem dX8_unite_24 : decode cX8_unite 24 = .ok (.goto 9, 3) := by decide +kernel
theorem dX8_unite_27 : decode cX8_unite 27 = .ok (.aload_n 0, 1) := by decide +kernel
theorem dX8_unite_28 : decode cX8_unite 28 = .ok (.getfield 25, 3) := by decide +kernel
theorem dX8_unite_31 : decode cX8_unite 31 = .ok (.iload_n 3, 1) := by decide +kernel
theorem dX8_unite_32 : decode cX8_unite 32 = .ok (.iaload, 1) := by decide +kernel
theorem dX8_unite_33 : decode cX8_unite 33 = .ok (.iastore, 1) := by decide +kernel
theorem dX8_unite_34 : decode cX8_unite 34 = .ok (.iinc 3 1, 3) := by decide +kernel
theorem dX8_unite_37 : decode cX8_unite 37 = .ok (.goto (-35), 3) := by decide +kernel
theorem dX8_unite_40 : decode cX8_unite 40 = .ok (.return_, 1) := by decide +kernel
theorem dX8_uniteCrossing_0 : decode cX8_uniteCrossing 0 = .ok (.aload_n 0, 1) := by decide +kernel
theorem dX8_uniteCrossing_1 : decode cX8_uniteCrossing 1 = .ok (.getfield 7, 3) := by decide +kernel
theorem dX8_uniteCrossing_4 : decode cX8_uniteCrossing 4 = .ok (.iconst 0, 1) := by decide +kernel
theorem dX8_uniteCrossing_5 : decode cX8_uniteCrossing 5 = .ok (.iaload, 1) := by decide +kernel
theorem dX8_uniteCrossing_6 : decode cX8_uniteCrossing 6 = .ok (.istore_n 1, 1) := by decide +kernel
theorem dX8_uniteCrossing_7 : decode cX8_uniteCrossing 7 = .ok (.iconst 0, 1) := by decide +kernel
theorem dX8_uniteCrossing_8 : decode cX8_uniteCrossing 8 = .ok (.istore_n 2, 1) := by decide +kernel
theorem dX8_uniteCrossing_9 : decode cX8_uniteCrossing 9 = .ok (.iload_n 2, 1) := by decide +kernel
theorem dX8_uniteCrossing_10 : decode cX8_uniteCrossing 10 = .ok (.iload_n 1, 1) := by decide +kernel
theorem dX8_uniteCrossing_11 : decode cX8_uniteCrossing 11 = .ok (.if_icmp .ge 124, 3) := by decide +kernel
theorem dX8_uniteCrossing_14 : decode cX8_uniteCrossing 14 = .ok (.iload_n 2, 1) := by decide +kernel
theorem dX8_uniteCrossing_15 : decode cX8_uniteCrossing 15 = .ok (.iconst 1, 1) := by decide +kernel
theorem dX8_uniteCrossing_16 : decode cX8_uniteCrossing 16 = .ok (.iadd, 1) := by decide +kernel
theorem dX8_uniteCrossing_17 : decode cX8_uniteCrossing 17 = .ok (.istore_n 3, 1) := by decide +kernel
theorem dX8_uniteCrossing_18 : decode cX8_uniteCrossing 18 = .ok (.iload_n 3, 1) := by decide +kernel
theorem dX8_uniteCrossing_19 : decode cX8_uniteCrossing 19 = .ok (.iload_n 1, 1) := by decide +kernel
theorem dX8_uniteCrossing_20 : decode cX8_uniteCrossing 20 = .ok (.if_icmp .ge 109, 3) := by decide +kernel
theorem dX8_uniteCrossing_23 : decode cX8_uniteCrossing 23 = .ok (.iload_n 3, 1) := by decide +kernel
theorem dX8_uniteCrossing_24 : decode cX8_uniteCrossing 24 = .ok (.iconst 1, 1) := by decide +kernel
theorem dX8_uniteCrossing_25 : decode cX8_uniteCrossing 25 = .ok (.iadd, 1) := by decide +kernel
theorem dX8_uniteCrossing_26 : decode cX8_uniteCrossing 26 = .ok (.istore 4, 2) := by decide +kernel
theorem dX8_uniteCrossing_28 : decode cX8_uniteCrossing 28 = .ok (.iload 4, 2) := by decide +kernel
theorem dX8_uniteCrossing_30 : decode cX8_uniteCrossing 30 = .ok (.iload_n 1, 1) := by decide +kernel
theorem dX8_uniteCrossing_31 : decode cX8_uniteCrossing 31 = .ok (.if_icmp .ge 92, 3) := by decide +kernel
theorem dX8_uniteCrossing_34 : decode cX8_uniteCrossing 34 = .ok (.aload_n 0, 1) := by decide +kernel
theorem dX8_uniteCrossing_35 : decode cX8_uniteCrossing 35 = .ok (.getfield 25, 3) := by decide +kernel
theorem dX8_uniteCrossing_38 : decode cX8_uniteCrossing 38 = .ok (.iload_n 2, 1) := by decide +kernel
theorem dX8_uniteCrossing_39 : decode cX8_uniteCrossing 39 = .ok (.iaload, 1) := by decide +kernel
theorem dX8_uniteCrossing_40 : decode cX8_uniteCrossing 40 = .ok (.aload_n 0, 1) := by decide +kernel
theorem dX8_uniteCrossing_41 : decode cX8_uniteCrossing 41 = .ok (.getfield 25, 3) := by decide +kernel
theorem dX8_uniteCrossing_44 : decode cX8_uniteCrossing 44 = .ok (.iload_n 3, 1) := by decide +kernel
theorem dX8_uniteCrossing_45 : decode cX8_uniteCrossing 45 = .ok (.iaload, 1) := by decide +kernel
theorem dX8_uniteCrossing_46 : decode cX8_uniteCrossing 46 = .ok (.if_icmp .eq 77, 3) := by decide +kernel
theorem dX8_uniteCrossing_49 : decode cX8_uniteCrossing 49 = .ok (.iload 4, 2) := by decide +kernel
theorem dX8_uniteCrossing_51 : decode cX8_uniteCrossing 51 = .ok (.iconst 1, 1) := by decide +kernel
theorem dX8_uniteCrossing_52 : decode cX8_uniteCrossing 52 = .ok (.iadd, 1) := by decide +kernel
theorem dX8_uniteCrossing_53 : decode cX8_uniteCrossing 53 = .ok (.istore 5, 2) := by decide +kernel
theorem dX8_uniteCrossing_55 : decode cX8_uniteCrossing 55 = .ok (.iload 5, 2) := by decide +kernel
theorem dX8_uniteCrossing_57 : decode cX8_uniteCrossing 57 = .ok (.iload_n 1, 1) := by decide +kernel
theorem dX8_uniteCrossing_58 : decode cX8_uniteCrossing 58 = .ok (.if_icmp .ge 59, 3) := by decide +kernel
theorem dX8_uniteCrossing_61 : decode cX8_uniteCrossing 61 = .ok (.aload_n 0, 1) := by decide +kernel
theorem dX8_uniteCrossing_62 : decode cX8_uniteCrossing 62 = .ok (.getfield 25, 3) := by decide +kernel
theorem dX8_uniteCrossing_65 : decode cX8_uniteCrossing 65 = .ok (.iload_n 2, 1) := by decide +kernel
theorem dX8_uniteCrossing_66 : decode cX8_uniteCrossing 66 = .ok (.iaload, 1) := by decide +kernel
theorem dX8_uniteCrossing_67 : decode cX8_uniteCrossing 67 = .ok (.aload_n 0, 1) := by decide +kernel
theorem dX8_uniteCrossing_68 : decode cX8_uniteCrossing 68 = .ok (.getfield 25, 3) := by decide +kernel
theorem dX8_uniteCrossing_71 : decode cX8_uniteCrossing 71 = .ok (.iload 4, 2) := by decide +kernel
theorem dX8_uniteCrossing_73 : decode cX8_uniteCrossing 73 = .ok (.iaload, 1) := by decide +kernel
theorem dX8_uniteCrossing_74 : decode cX8_uniteCrossing 74 = .ok (.if_icmp .ne 43, 3) := by decide +kernel
theorem dX8_uniteCrossing_77 : decode cX8_uniteCrossing 77 = .ok (.aload_n 0, 1) := by decide +kernel
theorem dX8_uniteCrossing_78 : decode cX8_uniteCrossing 78 = .ok (.getfield 25, 3) := by decide +kernel
theorem dX8_uniteCrossing_81 : decode cX8_uniteCrossing 81 = .ok (.iload_n 3, 1) := by decide +kernel
theorem dX8_uniteCrossing_82 : decode cX8_uniteCrossing 82 = .ok (.iaload, 1) := by decide +kernel
theorem dX8_uniteCrossing_83 : decode cX8_uniteCrossing 83 = .ok (.aload_n 0, 1) := by decide +kernel
theorem dX8_uniteCrossing_84 : decode cX8_uniteCrossing 84 = .ok (.getfield 25, 3) := by decide +kernel
theorem dX8_uniteCrossing_87 : decode cX8_uniteCrossing 87 = .ok (.iload 5, 2) := by decide +kernel
theorem dX8_uniteCrossing_89 : decode cX8_uniteCrossing 89 = .ok (.iaload, 1) := by decide +kernel
theorem dX8_uniteCrossing_90 : decode cX8_uniteCrossing 90 = .ok (.if_icmp .ne 21, 3) := by decide +kernel
theorem dX8_uniteCrossing_93 : decode cX8_uniteCrossing 93 = .ok (.aload_n 0, 1) := by decide +kernel
theorem dX8_uniteCrossing_94 : decode cX8_uniteCrossing 94 = .ok (.aload_n 0, 1) := by decide +kernel
theorem dX8_uniteCrossing_95 : decode cX8_uniteCrossing 95 = .ok (.getfield 25, 3) := by decide +kernel
theorem dX8_uniteCrossing_98 : decode cX8_uniteCrossing 98 = .ok (.iload_n 2, 1) := by decide +kernel
theorem dX8_uniteCrossing_99 : decode cX8_uniteCrossing 99 = .ok (.iaload, 1) := by decide +kernel
theorem dX8_uniteCrossing_100 : decode cX8_uniteCrossing 100 = .ok (.aload_n 0, 1) := by decide +kernel
theorem dX8_uniteCrossing_101 : decode cX8_uniteCrossing 101 = .ok (.getfield 25, 3) := by decide +kernel
theorem dX8_uniteCrossing_104 : decode cX8_uniteCrossing 104 = .ok (.iload_n 3, 1) := by decide +kernel
theorem dX8_uniteCrossing_105 : decode cX8_uniteCrossing 105 = .ok (.iaload, 1) := by decide +kernel
theorem dX8_uniteCrossing_106 : decode cX8_uniteCrossing 106 = .ok (.invokevirtual 60, 3) := by decide +kernel
theorem dX8_uniteCrossing_109 : decode cX8_uniteCrossing 109 = .ok (.iconst 1, 1) := by decide +kernel
theorem dX8_uniteCrossing_110 : decode cX8_uniteCrossing 110 = .ok (.ireturn, 1) := by decide +kernel
theorem dX8_uniteCrossing_111 : decode cX8_uniteCrossing 111 = .ok (.iinc 5 1, 3) := by decide +kernel
theorem dX8_uniteCrossing_114 : decode cX8_uniteCrossing 114 = .ok (.goto (-59), 3) := by decide +kernel
theorem dX8_uniteCrossing_117 : decode cX8_uniteCrossing 117 = .ok (.iinc 4 1, 3) := by decide +kernel
theorem dX8_uniteCrossing_120 : decode cX8_uniteCrossing 120 = .ok (.goto (-92), 3) := by decide +kernel
theorem dX8_uniteCrossing_123 : decode cX8_uniteCrossing 123 = .ok (.iinc 3 1, 3) := by decide +kernel
theorem dX8_uniteCrossing_126 : decode cX8_uniteCrossing 126 = .ok (.goto (-108), 3) := by decide +kernel
theorem dX8_uniteCrossing_129 : decode cX8_uniteCrossing 129 = .ok (.iinc 2 1, 3) := by decide +kernel
theorem dX8_uniteCrossing_132 : decode cX8_uniteCrossing 132 = .ok (.goto (-123), 3) := by decide +kernel
theorem dX8_uniteCrossing_135 : decode cX8_uniteCrossing 135 = .ok (.iconst 0, 1) := by decide +kernel
theorem dX8_uniteCrossing_136 : decode cX8_uniteCrossing 136 = .ok (.ireturn, 1) := by decide +kernel
theorem dX8_isCrossing_0 : decode cX8_isCrossing 0 = .ok (.iconst 0, 1) := by decide +kernel
theorem dX8_isCrossing_1 : decode cX8_isCrossing 1 = .ok (.istore_n 2, 1) := by decide +kernel
theorem dX8_isCrossing_2 : decode cX8_isCrossing 2 = .ok (.iload_n 2, 1) := by decide +kernel
theorem dX8_isCrossing_3 : decode cX8_isCrossing 3 = .ok (.aload_n 0, 1) := by decide +kernel
theorem dX8_isCrossing_4 : decode cX8_isCrossing 4 = .ok (.getfield 7, 3) := by decide +kernel
theorem dX8_isCrossing_7 : decode cX8_isCrossing 7 = .ok (.iconst 0, 1) := by decide +kernel
theorem dX8_isCrossing_8 : decode cX8_isCrossing 8 = .ok (.iaload, 1) := by decide +kernel
theorem dX8_isCrossing_9 : decode cX8_isCrossing 9 = .ok (.if_icmp .ge 20, 3) := by decide +kernel
theorem dX8_isCrossing_12 : decode cX8_isCrossing 12 = .ok (.aload_n 0, 1) := by decide +kernel
theorem dX8_isCrossing_13 : decode cX8_isCrossing 13 = .ok (.getfield 25, 3) := by decide +kernel
theorem dX8_isCrossing_16 : decode cX8_isCrossing 16 = .ok (.iload_n 2, 1) := by decide +kernel
theorem dX8_isCrossing_17 : decode cX8_isCrossing 17 = .ok (.iload_n 1, 1) := by decide +kernel
theorem dX8_isCrossing_18 : decode cX8_isCrossing 18 = .ok (.iload_n 2, 1) := by decide +kernel
theorem dX8_isCrossing_19 : decode cX8_isCrossing 19 = .ok (.invokestatic 64, 3) := by decide +kernel
theorem dX8_isCrossing_22 : decode cX8_isCrossing 22 = .ok (.iastore, 1) := by decide +kernel
theorem dX8_isCrossing_23 : decode cX8_isCrossing 23 = .ok (.iinc 2 1, 3) := by decide +kernel
theorem dX8_isCrossing_26 : decode cX8_isCrossing 26 = .ok (.goto (-24), 3) := by decide +kernel
theorem dX8_isCrossing_29 : decode cX8_isCrossing 29 = .ok (.aload_n 0, 1) := by decide +kernel
theorem dX8_isCrossing_30 : decode cX8_isCrossing 30 = .ok (.invokevirtual 68, 3) := by decide +kernel
theorem dX8_isCrossing_33 : decode cX8_isCrossing 33 = .ok (.ireturn, 1) := by decide +kernel
theorem dX8_joined_0 : decode cX8_joined 0 = .ok (.iconst 0, 1) := by decide +kernel
theorem dX8_joined_1 : decode cX8_joined 1 = .ok (.istore_n 3, 1) := by decide +kernel
theorem dX8_joined_2 : decode cX8_joined 2 = .ok (.iload_n 3, 1) := by decide +kernel
theorem dX8_joined_3 : decode cX8_joined 3 = .ok (.aload_n 0, 1) := by decide +kernel
theorem dX8_joined_4 : decode cX8_joined 4 = .ok (.getfield 7, 3) := by decide +kernel
theorem dX8_joined_7 : decode cX8_joined 7 = .ok (.iconst 0, 1) := by decide +kernel
theorem dX8_joined_8 : decode cX8_joined 8 = .ok (.iaload, 1) := by decide +kernel
theorem dX8_joined_9 : decode cX8_joined 9 = .ok (.if_icmp .ge 20, 3) := by decide +kernel
theorem dX8_joined_12 : decode cX8_joined 12 = .ok (.aload_n 0, 1) := by decide +kernel
theorem dX8_joined_13 : decode cX8_joined 13 = .ok (.getfield 25, 3) := by decide +kernel
theorem dX8_joined_16 : decode cX8_joined 16 = .ok (.iload_n 3, 1) := by decide +kernel
theorem dX8_joined_17 : decode cX8_joined 17 = .ok (.iload_n 1, 1) := by decide +kernel
theorem dX8_joined_18 : decode cX8_joined 18 = .ok (.iload_n 3, 1) := by decide +kernel
theorem dX8_joined_19 : decode cX8_joined 19 = .ok (.invokestatic 64, 3) := by decide +kernel
theorem dX8_joined_22 : decode cX8_joined 22 = .ok (.iastore, 1) := by decide +kernel
theorem dX8_joined_23 : decode cX8_joined 23 = .ok (.iinc 3 1, 3) := by decide +kernel
theorem dX8_joined_26 : decode cX8_joined 26 = .ok (.goto (-24), 3) := by decide +kernel
theorem dX8_joined_29 : decode cX8_joined 29 = .ok (.iconst 0, 1) := by decide +kernel
theorem dX8_joined_30 : decode cX8_joined 30 = .ok (.istore_n 3, 1) := by decide +kernel
theorem dX8_joined_31 : decode cX8_joined 31 = .ok (.iload_n 3, 1) := by decide +kernel
theorem dX8_joined_32 : decode cX8_joined 32 = .ok (.aload_n 0, 1) := by decide +kernel
theorem dX8_joined_33 : decode cX8_joined 33 = .ok (.getfield 7, 3) := by decide +kernel
theorem dX8_joined_36 : decode cX8_joined 36 = .ok (.iconst 0, 1) := by decide +kernel
theorem dX8_joined_37 : decode cX8_joined 37 = .ok (.iaload, 1) := by decide +kernel
theorem dX8_joined_38 : decode cX8_joined 38 = .ok (.if_icmp .ge 29, 3) := by decide +kernel
theorem dX8_joined_41 : decode cX8_joined 41 = .ok (.aload_n 0, 1) := by decide +kernel
theorem dX8_joined_42 : decode cX8_joined 42 = .ok (.aload_n 0, 1) := by decide +kernel
theorem dX8_joined_43 : decode cX8_joined 43 = .ok (.getfield 25, 3) := by decide +kernel
theorem dX8_joined_46 : decode cX8_joined 46 = .ok (.iload_n 2, 1) := by decide +kernel
theorem dX8_joined_47 : decode cX8_joined 47 = .ok (.iload_n 3, 1) := by decide +kernel
theorem dX8_joined_48 : decode cX8_joined 48 = .ok (.invokestatic 64, 3) := by decide +kernel
theorem dX8_joined_51 : decode cX8_joined 51 = .ok (.iaload, 1) := by decide +kernel
theorem dX8_joined_52 : decode cX8_joined 52 = .ok (.aload_n 0, 1) := by decide +kernel
theorem dX8_joined_53 : decode cX8_joined 53 = .ok (.getfield 25, 3) := by decide +kernel
theorem dX8_joined_56 : decode cX8_joined 56 = .ok (.iload_n 3, 1) := by decide +kernel
theorem dX8_joined_57 : decode cX8_joined 57 = .ok (.iaload, 1) := by decide +kernel
theorem dX8_joined_58 : decode cX8_joined 58 = .ok (.invokevirtual 60, 3) := by decide +kernel
theorem dX8_joined_61 : decode cX8_joined 61 = .ok (.iinc 3 1, 3) := by decide +kernel
theorem dX8_joined_64 : decode cX8_joined 64 = .ok (.goto (-33), 3) := by decide +kernel
theorem dX8_joined_67 : decode cX8_joined 67 = .ok (.iconst 1, 1) := by decide +kernel
theorem dX8_joined_68 : decode cX8_joined 68 = .ok (.istore_n 3, 1) := by decide +kernel
theorem dX8_joined_69 : decode cX8_joined 69 = .ok (.iload_n 3, 1) := by decide +kernel
theorem dX8_joined_70 : decode cX8_joined 70 = .ok (.ifCond .eq 11, 3) := by decide +kernel
theorem dX8_joined_73 : decode cX8_joined 73 = .ok (.aload_n 0, 1) := by decide +kernel
theorem dX8_joined_74 : decode cX8_joined 74 = .ok (.invokevirtual 68, 3) := by decide +kernel
theorem dX8_joined_77 : decode cX8_joined 77 = .ok (.istore_n 3, 1) := by decide +kernel
theorem dX8_joined_78 : decode cX8_joined 78 = .ok (.goto (-9), 3) := by decide +kernel
theorem dX8_joined_81 : decode cX8_joined 81 = .ok (.aload_n 0, 1) := by decide +kernel
theorem dX8_joined_82 : decode cX8_joined 82 = .ok (.invokevirtual 72, 3) := by decide +kernel
theorem dX8_joined_85 : decode cX8_joined 85 = .ok (.ireturn, 1) := by decide +kernel
theorem dX8_met_0 : decode cX8_met 0 = .ok (.iconst 0, 1) := by decide +kernel
theorem dX8_met_1 : decode cX8_met 1 = .ok (.istore_n 3, 1) := by decide +kernel
theorem dX8_met_2 : decode cX8_met 2 = .ok (.iload_n 3, 1) := by decide +kernel
theorem dX8_met_3 : decode cX8_met 3 = .ok (.aload_n 0, 1) := by decide +kernel
theorem dX8_met_4 : decode cX8_met 4 = .ok (.getfield 7, 3) := by decide +kernel
theorem dX8_met_7 : decode cX8_met 7 = .ok (.iconst 0, 1) := by decide +kernel
theorem dX8_met_8 : decode cX8_met 8 = .ok (.iaload, 1) := by decide +kernel
theorem dX8_met_9 : decode cX8_met 9 = .ok (.if_icmp .ge 29, 3) := by decide +kernel
theorem dX8_met_12 : decode cX8_met 12 = .ok (.aload_n 0, 1) := by decide +kernel
theorem dX8_met_13 : decode cX8_met 13 = .ok (.getfield 25, 3) := by decide +kernel
theorem dX8_met_16 : decode cX8_met 16 = .ok (.iload_n 3, 1) := by decide +kernel
theorem dX8_met_17 : decode cX8_met 17 = .ok (.bipush 8, 2) := by decide +kernel
theorem dX8_met_19 : decode cX8_met 19 = .ok (.iload_n 1, 1) := by decide +kernel
theorem dX8_met_20 : decode cX8_met 20 = .ok (.iload_n 3, 1) := by decide +kernel
theorem dX8_met_21 : decode cX8_met 21 = .ok (.invokestatic 64, 3) := by decide +kernel
theorem dX8_met_24 : decode cX8_met 24 = .ok (.imul, 1) := by decide +kernel
theorem dX8_met_25 : decode cX8_met 25 = .ok (.iload_n 2, 1) := by decide +kernel
theorem dX8_met_26 : decode cX8_met 26 = .ok (.iload_n 3, 1) := by decide +kernel
theorem dX8_met_27 : decode cX8_met 27 = .ok (.invokestatic 64, 3) := by decide +kernel
theorem dX8_met_30 : decode cX8_met 30 = .ok (.iadd, 1) := by decide +kernel
theorem dX8_met_31 : decode cX8_met 31 = .ok (.iastore, 1) := by decide +kernel
theorem dX8_met_32 : decode cX8_met 32 = .ok (.iinc 3 1, 3) := by decide +kernel
theorem dX8_met_35 : decode cX8_met 35 = .ok (.goto (-33), 3) := by decide +kernel
theorem dX8_met_38 : decode cX8_met 38 = .ok (.aload_n 0, 1) := by decide +kernel
theorem dX8_met_39 : decode cX8_met 39 = .ok (.invokevirtual 72, 3) := by decide +kernel
theorem dX8_met_42 : decode cX8_met 42 = .ok (.ireturn, 1) := by decide +kernel
theorem dX8_turned_0 : decode cX8_turned 0 = .ok (.aload_n 0, 1) := by decide +kernel
theorem dX8_turned_1 : decode cX8_turned 1 = .ok (.getfield 7, 3) := by decide +kernel
theorem dX8_turned_4 : decode cX8_turned 4 = .ok (.iconst 0, 1) := by decide +kernel
theorem dX8_turned_5 : decode cX8_turned 5 = .ok (.iaload, 1) := by decide +kernel
theorem dX8_turned_6 : decode cX8_turned 6 = .ok (.istore_n 2, 1) := by decide +kernel
theorem dX8_turned_7 : decode cX8_turned 7 = .ok (.iconst 0, 1) := by decide +kernel
theorem dX8_turned_8 : decode cX8_turned 8 = .ok (.istore_n 3, 1) := by decide +kernel
theorem dX8_turned_9 : decode cX8_turned 9 = .ok (.iload_n 3, 1) := by decide +kernel
theorem dX8_turned_10 : decode cX8_turned 10 = .ok (.iload_n 2, 1) := by decide +kernel
theorem dX8_turned_11 : decode cX8_turned 11 = .ok (.if_icmp .ge 24, 3) := by decide +kernel
theorem dX8_turned_14 : decode cX8_turned 14 = .ok (.aload_n 0, 1) := by decide +kernel
theorem dX8_turned_15 : decode cX8_turned 15 = .ok (.getfield 25, 3) := by decide +kernel
theorem dX8_turned_18 : decode cX8_turned 18 = .ok (.iload_n 3, 1) := by decide +kernel
theorem dX8_turned_19 : decode cX8_turned 19 = .ok (.iconst 1, 1) := by decide +kernel
theorem dX8_turned_20 : decode cX8_turned 20 = .ok (.iadd, 1) := by decide +kernel
theorem dX8_turned_21 : decode cX8_turned 21 = .ok (.iload_n 2, 1) := by decide +kernel
theorem dX8_turned_22 : decode cX8_turned 22 = .ok (.irem, 1) := by decide +kernel
theorem dX8_turned_23 : decode cX8_turned 23 = .ok (.iload_n 1, 1) := by decide +kernel
theorem dX8_turned_24 : decode cX8_turned 24 = .ok (.iload_n 3, 1) := by decide +kernel
theorem dX8_turned_25 : decode cX8_turned 25 = .ok (.invokestatic 64, 3) := by decide +kernel
theorem dX8_turned_28 : decode cX8_turned 28 = .ok (.iastore, 1) := by decide +kernel
theorem dX8_turned_29 : decode cX8_turned 29 = .ok (.iinc 3 1, 3) := by decide +kernel
theorem dX8_turned_32 : decode cX8_turned 32 = .ok (.goto (-23), 3) := by decide +kernel
theorem dX8_turned_35 : decode cX8_turned 35 = .ok (.aload_n 0, 1) := by decide +kernel
theorem dX8_turned_36 : decode cX8_turned 36 = .ok (.invokevirtual 72, 3) := by decide +kernel
theorem dX8_turned_39 : decode cX8_turned 39 = .ok (.ireturn, 1) := by decide +kernel
theorem dX8_nextOf_0 : decode cX8_nextOf 0 = .ok (.iload_n 2, 1) := by decide +kernel
theorem dX8_nextOf_1 : decode cX8_nextOf 1 = .ok (.iconst 1, 1) := by decide +kernel
theorem dX8_nextOf_2 : decode cX8_nextOf 2 = .ok (.iadd, 1) := by decide +kernel
theorem dX8_nextOf_3 : decode cX8_nextOf 3 = .ok (.aload_n 0, 1) := by decide +kernel
theorem dX8_nextOf_4 : decode cX8_nextOf 4 = .ok (.getfield 7, 3) := by decide +kernel
theorem dX8_nextOf_7 : decode cX8_nextOf 7 = .ok (.iconst 0, 1) := by decide +kernel
theorem dX8_nextOf_8 : decode cX8_nextOf 8 = .ok (.iaload, 1) := by decide +kernel
theorem dX8_nextOf_9 : decode cX8_nextOf 9 = .ok (.irem, 1) := by decide +kernel
theorem dX8_nextOf_10 : decode cX8_nextOf 10 = .ok (.istore_n 3, 1) := by decide +kernel
theorem dX8_nextOf_11 : decode cX8_nextOf 11 = .ok (.iload_n 1, 1) := by decide +kernel
theorem dX8_nextOf_12 : decode cX8_nextOf 12 = .ok (.iload_n 3, 1) := by decide +kernel
theorem dX8_nextOf_13 : decode cX8_nextOf 13 = .ok (.invokestatic 64, 3) := by decide +kernel
theorem dX8_nextOf_16 : decode cX8_nextOf 16 = .ok (.iload_n 1, 1) := by decide +kernel
theorem dX8_nextOf_17 : decode cX8_nextOf 17 = .ok (.iload_n 2, 1) := by decide +kernel
theorem dX8_nextOf_18 : decode cX8_nextOf 18 = .ok (.invokestatic 64, 3) := by decide +kernel
theorem dX8_nextOf_21 : decode cX8_nextOf 21 = .ok (.if_icmp .eq 17, 3) := by decide +kernel
theorem dX8_nextOf_24 : decode cX8_nextOf 24 = .ok (.iload_n 3, 1) := by decide +kernel
theorem dX8_nextOf_25 : decode cX8_nextOf 25 = .ok (.iconst 1, 1) := by decide +kernel
theorem dX8_nextOf_26 : decode cX8_nextOf 26 = .ok (.iadd, 1) := by decide +kernel
theorem dX8_nextOf_27 : decode cX8_nextOf 27 = .ok (.aload_n 0, 1) := by decide +kernel
theorem dX8_nextOf_28 : decode cX8_nextOf 28 = .ok (.getfield 7, 3) := by decide +kernel
theorem dX8_nextOf_31 : decode cX8_nextOf 31 = .ok (.iconst 0, 1) := by decide +kernel
theorem dX8_nextOf_32 : decode cX8_nextOf 32 = .ok (.iaload, 1) := by decide +kernel
theorem dX8_nextOf_33 : decode cX8_nextOf 33 = .ok (.irem, 1) := by decide +kernel
theorem dX8_nextOf_34 : decode cX8_nextOf 34 = .ok (.istore_n 3, 1) := by decide +kernel
theorem dX8_nextOf_35 : decode cX8_nextOf 35 = .ok (.goto (-24), 3) := by decide +kernel
theorem dX8_nextOf_38 : decode cX8_nextOf 38 = .ok (.iload_n 3, 1) := by decide +kernel
theorem dX8_nextOf_39 : decode cX8_nextOf 39 = .ok (.ireturn, 1) := by decide +kernel
theorem dX8_complement_0 : decode cX8_complement 0 = .ok (.aload_n 0, 1) := by decide +kernel
theorem dX8_complement_1 : decode cX8_complement 1 = .ok (.getfield 7, 3) := by decide +kernel
theorem dX8_complement_4 : decode cX8_complement 4 = .ok (.iconst 0, 1) := by decide +kernel
theorem dX8_complement_5 : decode cX8_complement 5 = .ok (.iaload, 1) := by decide +kernel
theorem dX8_complement_6 : decode cX8_complement 6 = .ok (.istore_n 2, 1) := by decide +kernel
theorem dX8_complement_7 : decode cX8_complement 7 = .ok (.iconst 0, 1) := by decide +kernel
theorem dX8_complement_8 : decode cX8_complement 8 = .ok (.istore_n 3, 1) := by decide +kernel
theorem dX8_complement_9 : decode cX8_complement 9 = .ok (.iload_n 3, 1) := by decide +kernel
theorem dX8_complement_10 : decode cX8_complement 10 = .ok (.iload_n 2, 1) := by decide +kernel
theorem dX8_complement_11 : decode cX8_complement 11 = .ok (.if_icmp .ge 16, 3) := by decide +kernel
theorem dX8_complement_14 : decode cX8_complement 14 = .ok (.aload_n 0, 1) := by decide +kernel
theorem dX8_complement_15 : decode cX8_complement 15 = .ok (.getfield 25, 3) := by decide +kernel
theorem dX8_complement_18 : decode cX8_complement 18 = .ok (.iload_n 3, 1) := by decide +kernel
theorem dX8_complement_19 : decode cX8_complement 19 = .ok (.iload_n 3, 1) := by decide +kernel
theorem dX8_complement_20 : decode cX8_complement 20 = .ok (.iastore, 1) := by decide +kernel
theorem dX8_complement_21 : decode cX8_complement 21 = .ok (.iinc 3 1, 3) := by decide +kernel
theorem dX8_complement_24 : decode cX8_complement 24 = .ok (.goto (-15), 3) := by decide +kernel
theorem dX8_complement_27 : decode cX8_complement 27 = .ok (.iconst 0, 1) := by decide +kernel
theorem dX8_complement_28 : decode cX8_complement 28 = .ok (.istore_n 3, 1) := by decide +kernel
theorem dX8_complement_29 : decode cX8_complement 29 = .ok (.iload_n 3, 1) := by decide +kernel
theorem dX8_complement_30 : decode cX8_complement 30 = .ok (.iload_n 2, 1) := by decide +kernel
theorem dX8_complement_31 : decode cX8_complement 31 = .ok (.if_icmp .ge 36, 3) := by decide +kernel
theorem dX8_complement_34 : decode cX8_complement 34 = .ok (.aload_n 0, 1) := by decide +kernel
theorem dX8_complement_35 : decode cX8_complement 35 = .ok (.aload_n 0, 1) := by decide +kernel
theorem dX8_complement_36 : decode cX8_complement 36 = .ok (.getfield 25, 3) := by decide +kernel
theorem dX8_complement_39 : decode cX8_complement 39 = .ok (.aload_n 0, 1) := by decide +kernel
theorem dX8_complement_40 : decode cX8_complement 40 = .ok (.iload_n 1, 1) := by decide +kernel
theorem dX8_complement_41 : decode cX8_complement 41 = .ok (.iload_n 3, 1) := by decide +kernel
theorem dX8_complement_42 : decode cX8_complement 42 = .ok (.invokevirtual 76, 3) := by decide +kernel
theorem dX8_complement_45 : decode cX8_complement 45 = .ok (.iload_n 2, 1) := by decide +kernel
theorem dX8_complement_46 : decode cX8_complement 46 = .ok (.iadd, 1) := by decide +kernel
theorem dX8_complement_47 : decode cX8_complement 47 = .ok (.iconst 1, 1) := by decide +kernel
theorem dX8_complement_48 : decode cX8_complement 48 = .ok (.isub, 1) := by decide +kernel
theorem dX8_complement_49 : decode cX8_complement 49 = .ok (.iload_n 2, 1) := by decide +kernel
theorem dX8_complement_50 : decode cX8_complement 50 = .ok (.irem, 1) := by decide +kernel
theorem dX8_complement_51 : decode cX8_complement 51 = .ok (.iaload, 1) := by decide +kernel
theorem dX8_complement_52 : decode cX8_complement 52 = .ok (.aload_n 0, 1) := by decide +kernel
theorem dX8_complement_53 : decode cX8_complement 53 = .ok (.getfield 25, 3) := by decide +kernel
theorem dX8_complement_56 : decode cX8_complement 56 = .ok (.iload_n 3, 1) := by decide +kernel
theorem dX8_complement_57 : decode cX8_complement 57 = .ok (.iaload, 1) := by decide +kernel
theorem dX8_complement_58 : decode cX8_complement 58 = .ok (.invokevirtual 60, 3) := by decide +kernel
theorem dX8_complement_61 : decode cX8_complement 61 = .ok (.iinc 3 1, 3) := by decide +kernel
theorem dX8_complement_64 : decode cX8_complement 64 = .ok (.goto (-35), 3) := by decide +kernel
theorem dX8_complement_67 : decode cX8_complement 67 = .ok (.aload_n 0, 1) := by decide +kernel
theorem dX8_complement_68 : decode cX8_complement 68 = .ok (.invokevirtual 72, 3) := by decide +kernel
theorem dX8_complement_71 : decode cX8_complement 71 = .ok (.ireturn, 1) := by decide +kernel
theorem dX8_rankOf_0 : decode cX8_rankOf 0 = .ok (.iconst 0, 1) := by decide +kernel
theorem dX8_rankOf_1 : decode cX8_rankOf 1 = .ok (.istore_n 2, 1) := by decide +kernel
theorem dX8_rankOf_2 : decode cX8_rankOf 2 = .ok (.iconst 0, 1) := by decide +kernel
theorem dX8_rankOf_3 : decode cX8_rankOf 3 = .ok (.istore_n 3, 1) := by decide +kernel
theorem dX8_rankOf_4 : decode cX8_rankOf 4 = .ok (.iload_n 3, 1) := by decide +kernel
theorem dX8_rankOf_5 : decode cX8_rankOf 5 = .ok (.aload_n 0, 1) := by decide +kernel
theorem dX8_rankOf_6 : decode cX8_rankOf 6 = .ok (.getfield 7, 3) := by decide +kernel
theorem dX8_rankOf_9 : decode cX8_rankOf 9 = .ok (.iconst 0, 1) := by decide +kernel
theorem dX8_rankOf_10 : decode cX8_rankOf 10 = .ok (.iaload, 1) := by decide +kernel
theorem dX8_rankOf_11 : decode cX8_rankOf 11 = .ok (.if_icmp .ge 26, 3) := by decide +kernel
theorem dX8_rankOf_14 : decode cX8_rankOf 14 = .ok (.iload_n 2, 1) := by decide +kernel
theorem dX8_rankOf_15 : decode cX8_rankOf 15 = .ok (.iload_n 1, 1) := by decide +kernel
theorem dX8_rankOf_16 : decode cX8_rankOf 16 = .ok (.iload_n 3, 1) := by decide +kernel
theorem dX8_rankOf_17 : decode cX8_rankOf 17 = .ok (.invokestatic 64, 3) := by decide +kernel
theorem dX8_rankOf_20 : decode cX8_rankOf 20 = .ok (.iload_n 3, 1) := by decide +kernel
theorem dX8_rankOf_21 : decode cX8_rankOf 21 = .ok (.if_icmp .ne 7, 3) := by decide +kernel
theorem dX8_rankOf_24 : decode cX8_rankOf 24 = .ok (.iconst 0, 1) := by decide +kernel
theorem dX8_rankOf_25 : decode cX8_rankOf 25 = .ok (.goto 4, 3) := by decide +kernel
theorem dX8_rankOf_28 : decode cX8_rankOf 28 = .ok (.iconst 1, 1) := by decide +kernel
theorem dX8_rankOf_29 : decode cX8_rankOf 29 = .ok (.iadd, 1) := by decide +kernel
theorem dX8_rankOf_30 : decode cX8_rankOf 30 = .ok (.istore_n 2, 1) := by decide +kernel
theorem dX8_rankOf_31 : decode cX8_rankOf 31 = .ok (.iinc 3 1, 3) := by decide +kernel
theorem dX8_rankOf_34 : decode cX8_rankOf 34 = .ok (.goto (-30), 3) := by decide +kernel
theorem dX8_rankOf_37 : decode cX8_rankOf 37 = .ok (.iload_n 2, 1) := by decide +kernel
theorem dX8_rankOf_38 : decode cX8_rankOf 38 = .ok (.ireturn, 1) := by decide +kernel
theorem dX8_isBelow_0 : decode cX8_isBelow 0 = .ok (.iconst 1, 1) := by decide +kernel
theorem dX8_isBelow_1 : decode cX8_isBelow 1 = .ok (.istore_n 3, 1) := by decide +kernel
theorem dX8_isBelow_2 : decode cX8_isBelow 2 = .ok (.iconst 0, 1) := by decide +kernel
theorem dX8_isBelow_3 : decode cX8_isBelow 3 = .ok (.istore 4, 2) := by decide +kernel
theorem dX8_isBelow_5 : decode cX8_isBelow 5 = .ok (.iload 4, 2) := by decide +kernel
theorem dX8_isBelow_7 : decode cX8_isBelow 7 = .ok (.aload_n 0, 1) := by decide +kernel
theorem dX8_isBelow_8 : decode cX8_isBelow 8 = .ok (.getfield 7, 3) := by decide +kernel
theorem dX8_isBelow_11 : decode cX8_isBelow 11 = .ok (.iconst 0, 1) := by decide +kernel
theorem dX8_isBelow_12 : decode cX8_isBelow 12 = .ok (.iaload, 1) := by decide +kernel
theorem dX8_isBelow_13 : decode cX8_isBelow 13 = .ok (.if_icmp .ge 38, 3) := by decide +kernel
theorem dX8_isBelow_16 : decode cX8_isBelow 16 = .ok (.iload_n 3, 1) := by decide +kernel
theorem dX8_isBelow_17 : decode cX8_isBelow 17 = .ok (.ifCond .eq 34, 3) := by decide +kernel
theorem dX8_isBelow_20 : decode cX8_isBelow 20 = .ok (.iload_n 2, 1) := by decide +kernel
theorem dX8_isBelow_21 : decode cX8_isBelow 21 = .ok (.iload 4, 2) := by decide +kernel
theorem dX8_isBelow_23 : decode cX8_isBelow 23 = .ok (.invokestatic 64, 3) := by decide +kernel
theorem dX8_isBelow_26 : decode cX8_isBelow 26 = .ok (.iload_n 2, 1) := by decide +kernel
theorem dX8_isBelow_27 : decode cX8_isBelow 27 = .ok (.iload_n 1, 1) := by decide +kernel
theorem dX8_isBelow_28 : decode cX8_isBelow 28 = .ok (.iload 4, 2) := by decide +kernel
theorem dX8_isBelow_30 : decode cX8_isBelow 30 = .ok (.invokestatic 64, 3) := by decide +kernel
theorem dX8_isBelow_33 : decode cX8_isBelow 33 = .ok (.invokestatic 64, 3) := by decide +kernel
theorem dX8_isBelow_36 : decode cX8_isBelow 36 = .ok (.if_icmp .ne 7, 3) := by decide +kernel
theorem dX8_isBelow_39 : decode cX8_isBelow 39 = .ok (.iconst 1, 1) := by decide +kernel
theorem dX8_isBelow_40 : decode cX8_isBelow 40 = .ok (.goto 4, 3) := by decide +kernel
theorem dX8_isBelow_43 : decode cX8_isBelow 43 = .ok (.iconst 0, 1) := by decide +kernel
theorem dX8_isBelow_44 : decode cX8_isBelow 44 = .ok (.istore_n 3, 1) := by decide +kernel
theorem dX8_isBelow_45 : decode cX8_isBelow 45 = .ok (.iinc 4 1, 3) := by decide +kernel
theorem dX8_isBelow_48 : decode cX8_isBelow 48 = .ok (.goto (-43), 3) := by decide +kernel
theorem dX8_isBelow_51 : decode cX8_isBelow 51 = .ok (.iload_n 3, 1) := by decide +kernel
theorem dX8_isBelow_52 : decode cX8_isBelow 52 = .ok (.ireturn, 1) := by decide +kernel
theorem dX8_isWell_0 : decode cX8_isWell 0 = .ok (.iconst 1, 1) := by decide +kernel
theorem dX8_isWell_1 : decode cX8_isWell 1 = .ok (.istore_n 2, 1) := by decide +kernel
theorem dX8_isWell_2 : decode cX8_isWell 2 = .ok (.iconst 0, 1) := by decide +kernel
theorem dX8_isWell_3 : decode cX8_isWell 3 = .ok (.istore_n 3, 1) := by decide +kernel
theorem dX8_isWell_4 : decode cX8_isWell 4 = .ok (.iload_n 3, 1) := by decide +kernel
theorem dX8_isWell_5 : decode cX8_isWell 5 = .ok (.aload_n 0, 1) := by decide +kernel
theorem dX8_isWell_6 : decode cX8_isWell 6 = .ok (.getfield 7, 3) := by decide +kernel
theorem dX8_isWell_9 : decode cX8_isWell 9 = .ok (.iconst 0, 1) := by decide +kernel
theorem dX8_isWell_10 : decode cX8_isWell 10 = .ok (.iaload, 1) := by decide +kernel
theorem dX8_isWell_11 : decode cX8_isWell 11 = .ok (.if_icmp .ge 43, 3) := by decide +kernel
theorem dX8_isWell_14 : decode cX8_isWell 14 = .ok (.iload_n 2, 1) := by decide +kernel
theorem dX8_isWell_15 : decode cX8_isWell 15 = .ok (.ifCond .eq 39, 3) := by decide +kernel
theorem dX8_isWell_18 : decode cX8_isWell 18 = .ok (.iload_n 1, 1) := by decide +kernel
theorem dX8_isWell_19 : decode cX8_isWell 19 = .ok (.iload_n 3, 1) := by decide +kernel
theorem dX8_isWell_20 : decode cX8_isWell 20 = .ok (.invokestatic 64, 3) := by decide +kernel
theorem dX8_isWell_23 : decode cX8_isWell 23 = .ok (.istore 4, 2) := by decide +kernel
theorem dX8_isWell_25 : decode cX8_isWell 25 = .ok (.iload 4, 2) := by decide +kernel
theorem dX8_isWell_27 : decode cX8_isWell 27 = .ok (.iload_n 3, 1) := by decide +kernel
theorem dX8_isWell_28 : decode cX8_isWell 28 = .ok (.if_icmp .gt 18, 3) := by decide +kernel
theorem dX8_isWell_31 : decode cX8_isWell 31 = .ok (.iload_n 1, 1) := by decide +kernel
theorem dX8_isWell_32 : decode cX8_isWell 32 = .ok (.iload 4, 2) := by decide +kernel
theorem dX8_isWell_34 : decode cX8_isWell 34 = .ok (.invokestatic 64, 3) := by decide +kernel
theorem dX8_isWell_37 : decode cX8_isWell 37 = .ok (.iload 4, 2) := by decide +kernel
theorem dX8_isWell_39 : decode cX8_isWell 39 = .ok (.if_icmp .ne 7, 3) := by decide +kernel
theorem dX8_isWell_42 : decode cX8_isWell 42 = .ok (.iconst 1, 1) := by decide +kernel
theorem dX8_isWell_43 : decode cX8_isWell 43 = .ok (.goto 4, 3) := by decide +kernel
theorem dX8_isWell_46 : decode cX8_isWell 46 = .ok (.iconst 0, 1) := by decide +kernel
theorem dX8_isWell_47 : decode cX8_isWell 47 = .ok (.istore_n 2, 1) := by decide +kernel
theorem dX8_isWell_48 : decode cX8_isWell 48 = .ok (.iinc 3 1, 3) := by decide +kernel
theorem dX8_isWell_51 : decode cX8_isWell 51 = .ok (.goto (-47), 3) := by decide +kernel
theorem dX8_isWell_54 : decode cX8_isWell 54 = .ok (.iload_n 2, 1) := by decide +kernel
theorem dX8_isWell_55 : decode cX8_isWell 55 = .ok (.ifCond .eq 15, 3) := by decide +kernel
theorem dX8_isWell_58 : decode cX8_isWell 58 = .ok (.aload_n 0, 1) := by decide +kernel
theorem dX8_isWell_59 : decode cX8_isWell 59 = .ok (.iload_n 1, 1) := by decide +kernel
theorem dX8_isWell_60 : decode cX8_isWell 60 = .ok (.invokevirtual 79, 3) := by decide +kernel
theorem dX8_isWell_63 : decode cX8_isWell 63 = .ok (.ifCond .ne 7, 3) := by decide +kernel
theorem dX8_isWell_66 : decode cX8_isWell 66 = .ok (.iconst 1, 1) := by decide +kernel
theorem dX8_isWell_67 : decode cX8_isWell 67 = .ok (.goto 4, 3) := by decide +kernel
theorem dX8_isWell_70 : decode cX8_isWell 70 = .ok (.iconst 0, 1) := by decide +kernel
theorem dX8_isWell_71 : decode cX8_isWell 71 = .ok (.ireturn, 1) := by decide +kernel
theorem dX8_lay_0 : decode cX8_lay 0 = .ok (.aload_n 0, 1) := by decide +kernel
theorem dX8_lay_1 : decode cX8_lay 1 = .ok (.getfield 83, 3) := by decide +kernel
theorem dX8_lay_4 : decode cX8_lay 4 = .ok (.aload_n 0, 1) := by decide +kernel
theorem dX8_lay_5 : decode cX8_lay 5 = .ok (.getfield 7, 3) := by decide +kernel
theorem dX8_lay_8 : decode cX8_lay 8 = .ok (.iconst 0, 1) := by decide +kernel
theorem dX8_lay_9 : decode cX8_lay 9 = .ok (.iaload, 1) := by decide +kernel
theorem dX8_lay_10 : decode cX8_lay 10 = .ok (.if_icmp .ne 4, 3) := by decide +kernel
theorem dX8_lay_13 : decode cX8_lay 13 = .ok (.return_, 1) := by decide +kernel
theorem dX8_lay_14 : decode cX8_lay 14 = .ok (.aload_n 0, 1) := by decide +kernel
theorem dX8_lay_15 : decode cX8_lay 15 = .ok (.aload_n 0, 1) := by decide +kernel
theorem dX8_lay_16 : decode cX8_lay 16 = .ok (.getfield 7, 3) := by decide +kernel
theorem dX8_lay_19 : decode cX8_lay 19 = .ok (.iconst 0, 1) := by decide +kernel
theorem dX8_lay_20 : decode cX8_lay 20 = .ok (.iaload, 1) := by decide +kernel
theorem dX8_lay_21 : decode cX8_lay 21 = .ok (.putfield 83, 3) := by decide +kernel
theorem dX8_lay_24 : decode cX8_lay 24 = .ok (.aload_n 0, 1) := by decide +kernel
theorem dX8_lay_25 : decode cX8_lay 25 = .ok (.iconst 0, 1) := by decide +kernel
theorem dX8_lay_26 : decode cX8_lay 26 = .ok (.putfield 87, 3) := by decide +kernel
theorem dX8_lay_29 : decode cX8_lay 29 = .ok (.aload_n 0, 1) := by decide +kernel
theorem dX8_lay_30 : decode cX8_lay 30 = .ok (.getfield 7, 3) := by decide +kernel
theorem dX8_lay_33 : decode cX8_lay 33 = .ok (.iconst 0, 1) := by decide +kernel
theorem dX8_lay_34 : decode cX8_lay 34 = .ok (.iaload, 1) := by decide +kernel
theorem dX8_lay_35 : decode cX8_lay 35 = .ok (.istore_n 1, 1) := by decide +kernel
theorem dX8_lay_36 : decode cX8_lay 36 = .ok (.iconst 0, 1) := by decide +kernel
theorem dX8_lay_37 : decode cX8_lay 37 = .ok (.istore_n 2, 1) := by decide +kernel
theorem dX8_lay_38 : decode cX8_lay 38 = .ok (.iconst 1, 1) := by decide +kernel
theorem dX8_lay_39 : decode cX8_lay 39 = .ok (.istore_n 3, 1) := by decide +kernel
theorem dX8_lay_40 : decode cX8_lay 40 = .ok (.iload_n 3, 1) := by decide +kernel
theorem dX8_lay_41 : decode cX8_lay 41 = .ok (.ifCond .eq 121, 3) := by decide +kernel
theorem dX8_lay_44 : decode cX8_lay 44 = .ok (.aload_n 0, 1) := by decide +kernel
theorem dX8_lay_45 : decode cX8_lay 45 = .ok (.iload_n 2, 1) := by decide +kernel
theorem dX8_lay_46 : decode cX8_lay 46 = .ok (.invokevirtual 90, 3) := by decide +kernel
theorem dX8_lay_49 : decode cX8_lay 49 = .ok (.ifCond .eq 37, 3) := by decide +kernel
theorem dX8_lay_52 : decode cX8_lay 52 = .ok (.aload_n 0, 1) := by decide +kernel
theorem dX8_lay_53 : decode cX8_lay 53 = .ok (.getfield 28, 3) := by decide +kernel
theorem dX8_lay_56 : decode cX8_lay 56 = .ok (.aload_n 0, 1) := by decide +kernel
theorem dX8_lay_57 : decode cX8_lay 57 = .ok (.getfield 87, 3) := by decide +kernel
theorem dX8_lay_60 : decode cX8_lay 60 = .ok (.iload_n 2, 1) := by decide +kernel
theorem dX8_lay_61 : decode cX8_lay 61 = .ok (.iastore, 1) := by decide +kernel
theorem dX8_lay_62 : decode cX8_lay 62 = .ok (.aload_n 0, 1) := by decide +kernel
theorem dX8_lay_63 : decode cX8_lay 63 = .ok (.getfield 31, 3) := by decide +kernel
theorem dX8_lay_66 : decode cX8_lay 66 = .ok (.aload_n 0, 1) := by decide +kernel
theorem dX8_lay_67 : decode cX8_lay 67 = .ok (.getfield 87, 3) := by decide +kernel
theorem dX8_lay_70 : decode cX8_lay 70 = .ok (.aload_n 0, 1) := by decide +kernel
theorem dX8_lay_71 : decode cX8_lay 71 = .ok (.iload_n 2, 1) := by decide +kernel
theorem dX8_lay_72 : decode cX8_lay 72 = .ok (.invokevirtual 93, 3) := by decide +kernel
theorem dX8_lay_75 : decode cX8_lay 75 = .ok (.iastore, 1) := by decide +kernel
theorem dX8_lay_76 : decode cX8_lay 76 = .ok (.aload_n 0, 1) := by decide +kernel
theorem dX8_lay_77 : decode cX8_lay 77 = .ok (.dup, 1) := by decide +kernel
theorem dX8_lay_78 : decode cX8_lay 78 = .ok (.getfield 87, 3) := by decide +kernel
theorem dX8_lay_81 : decode cX8_lay 81 = .ok (.iconst 1, 1) := by decide +kernel
theorem dX8_lay_82 : decode cX8_lay 82 = .ok (.iadd, 1) := by decide +kernel
theorem dX8_lay_83 : decode cX8_lay 83 = .ok (.putfield 87, 3) := by decide +kernel
theorem dX8_lay_86 : decode cX8_lay 86 = .ok (.iload_n 1, 1) := by decide +kernel
theorem dX8_lay_87 : decode cX8_lay 87 = .ok (.iconst 1, 1) := by decide +kernel
theorem dX8_lay_88 : decode cX8_lay 88 = .ok (.isub, 1) := by decide +kernel
theorem dX8_lay_89 : decode cX8_lay 89 = .ok (.istore 4, 2) := by decide +kernel
theorem dX8_lay_91 : decode cX8_lay 91 = .ok (.iload 4, 2) := by decide +kernel
theorem dX8_lay_93 : decode cX8_lay 93 = .ok (.ifCond .le 35, 3) := by decide +kernel
theorem dX8_lay_96 : decode cX8_lay 96 = .ok (.iload_n 2, 1) := by decide +kernel
theorem dX8_lay_97 : decode cX8_lay 97 = .ok (.iload 4, 2) := by decide +kernel
theorem dX8_lay_99 : decode cX8_lay 99 = .ok (.invokestatic 64, 3) := by decide +kernel
theorem dX8_lay_102 : decode cX8_lay 102 = .ok (.iload 4, 2) := by decide +kernel
theorem dX8_lay_104 : decode cX8_lay 104 = .ok (.if_icmp .ne 24, 3) := by decide +kernel
theorem dX8_lay_107 : decode cX8_lay 107 = .ok (.iload_n 2, 1) := by decide +kernel
theorem dX8_lay_108 : decode cX8_lay 108 = .ok (.bipush 7, 2) := by decide +kernel
theorem dX8_lay_110 : decode cX8_lay 110 = .ok (.bipush 21, 2) := by decide +kernel
theorem dX8_lay_112 : decode cX8_lay 112 = .ok (.iconst 3, 1) := by decide +kernel
theorem dX8_lay_113 : decode cX8_lay 113 = .ok (.iload 4, 2) := by decide +kernel
theorem dX8_lay_115 : decode cX8_lay 115 = .ok (.imul, 1) := by decide +kernel
theorem dX8_lay_116 : decode cX8_lay 116 = .ok (.isub, 1) := by decide +kernel
theorem dX8_lay_117 : decode cX8_lay 117 = .ok (.ishl, 1) := by decide +kernel
theorem dX8_lay_118 : decode cX8_lay 118 = .ok (.iconst (-1), 1) := by decide +kernel
theorem dX8_lay_119 : decode cX8_lay 119 = .ok (.ixor, 1) := by decide +kernel
theorem dX8_lay_120 : decode cX8_lay 120 = .ok (.iand, 1) := by decide +kernel
theorem dX8_lay_121 : decode cX8_lay 121 = .ok (.istore_n 2, 1) := by decide +kernel
theorem dX8_lay_122 : decode cX8_lay 122 = .ok (.iinc 4 (-1), 3) := by decide +kernel
theorem dX8_lay_125 : decode cX8_lay 125 = .ok (.goto (-34), 3) := by decide +kernel
theorem dX8_lay_128 : decode cX8_lay 128 = .ok (.iload 4, 2) := by decide +kernel
theorem dX8_lay_130 : decode cX8_lay 130 = .ok (.ifCond .le 7, 3) := by decide +kernel
theorem dX8_lay_133 : decode cX8_lay 133 = .ok (.iconst 1, 1) := by decide +kernel
theorem dX8_lay_134 : decode cX8_lay 134 = .ok (.goto 4, 3) := by decide +kernel
theorem dX8_lay_137 : decode cX8_lay 137 = .ok (.iconst 0, 1) := by decide +kernel
theorem dX8_lay_138 : decode cX8_lay 138 = .ok (.istore_n 3, 1) := by decide +kernel
theorem dX8_lay_139 : decode cX8_lay 139 = .ok (.iload_n 2, 1) := by decide +kernel
theorem dX8_lay_140 : decode cX8_lay 140 = .ok (.iload_n 3, 1) := by decide +kernel
theorem dX8_lay_141 : decode cX8_lay 141 = .ok (.ifCond .eq 15, 3) := by decide +kernel
theorem dX8_lay_144 : decode cX8_lay 144 = .ok (.iconst 1, 1) := by decide +kernel
theorem dX8_lay_145 : decode cX8_lay 145 = .ok (.bipush 21, 2) := by decide +kernel
theorem dX8_lay_147 : decode cX8_lay 147 = .ok (.iconst 3, 1) := by decide +kernel
theorem dX8_lay_148 : decode cX8_lay 148 = .ok (.iload 4, 2) := by decide +kernel
theorem dX8_lay_150 : decode cX8_lay 150 = .ok (.imul, 1) := by decide +kernel
theorem dX8_lay_151 : decode cX8_lay 151 = .ok (.isub, 1) := by decide +kernel
theorem dX8_lay_152 : decode cX8_lay 152 = .ok (.ishl, 1) := by decide +kernel
theorem dX8_lay_153 : decode cX8_lay 153 = .ok (.goto 4, 3) := by decide +kernel
theorem dX8_lay_156 : decode cX8_lay 156 = .ok (.iconst 0, 1) := by decide +kernel
theorem dX8_lay_157 : decode cX8_lay 157 = .ok (.iadd, 1) := by decide +kernel
theorem dX8_lay_158 : decode cX8_lay 158 = .ok (.istore_n 2, 1) := by decide +kernel
theorem dX8_lay_159 : decode cX8_lay 159 = .ok (.goto (-119), 3) := by decide +kernel
theorem dX8_lay_162 : decode cX8_lay 162 = .ok (.return_, 1) := by decide +kernel
theorem dX8_numberOf_0 : decode cX8_numberOf 0 = .ok (.aload_n 0, 1) := by decide +kernel
theorem dX8_numberOf_1 : decode cX8_numberOf 1 = .ok (.invokevirtual 97, 3) := by decide +kernel
theorem dX8_numberOf_4 : decode cX8_numberOf 4 = .ok (.iconst 0, 1) := by decide +kernel
theorem dX8_numberOf_5 : decode cX8_numberOf 5 = .ok (.istore_n 2, 1) := by decide +kernel
theorem dX8_numberOf_6 : decode cX8_numberOf 6 = .ok (.aload_n 0, 1) := by decide +kernel
theorem dX8_numberOf_7 : decode cX8_numberOf 7 = .ok (.getfield 87, 3) := by decide +kernel
theorem dX8_numberOf_10 : decode cX8_numberOf 10 = .ok (.iconst 1, 1) := by decide +kernel
theorem dX8_numberOf_11 : decode cX8_numberOf 11 = .ok (.isub, 1) := by decide +kernel
theorem dX8_numberOf_12 : decode cX8_numberOf 12 = .ok (.istore_n 3, 1) := by decide +kernel
theorem dX8_numberOf_13 : decode cX8_numberOf 13 = .ok (.iload_n 2, 1) := by decide +kernel
theorem dX8_numberOf_14 : decode cX8_numberOf 14 = .ok (.iload_n 3, 1) := by decide +kernel
theorem dX8_numberOf_15 : decode cX8_numberOf 15 = .ok (.if_icmp .ge 35, 3) := by decide +kernel
theorem dX8_numberOf_18 : decode cX8_numberOf 18 = .ok (.iload_n 2, 1) := by decide +kernel
theorem dX8_numberOf_19 : decode cX8_numberOf 19 = .ok (.iload_n 3, 1) := by decide +kernel
theorem dX8_numberOf_20 : decode cX8_numberOf 20 = .ok (.iadd, 1) := by decide +kernel
theorem dX8_numberOf_21 : decode cX8_numberOf 21 = .ok (.iconst 2, 1) := by decide +kernel
theorem dX8_numberOf_22 : decode cX8_numberOf 22 = .ok (.idiv, 1) := by decide +kernel
theorem dX8_numberOf_23 : decode cX8_numberOf 23 = .ok (.istore 4, 2) := by decide +kernel
theorem dX8_numberOf_25 : decode cX8_numberOf 25 = .ok (.aload_n 0, 1) := by decide +kernel
theorem dX8_numberOf_26 : decode cX8_numberOf 26 = .ok (.getfield 28, 3) := by decide +kernel
theorem dX8_numberOf_29 : decode cX8_numberOf 29 = .ok (.iload 4, 2) := by decide +kernel
theorem dX8_numberOf_31 : decode cX8_numberOf 31 = .ok (.iaload, 1) := by decide +kernel
theorem dX8_numberOf_32 : decode cX8_numberOf 32 = .ok (.iload_n 1, 1) := by decide +kernel
theorem dX8_numberOf_33 : decode cX8_numberOf 33 = .ok (.if_icmp .ge 11, 3) := by decide +kernel
theorem dX8_numberOf_36 : decode cX8_numberOf 36 = .ok (.iload 4, 2) := by decide +kernel
theorem dX8_numberOf_38 : decode cX8_numberOf 38 = .ok (.iconst 1, 1) := by decide +kernel
theorem dX8_numberOf_39 : decode cX8_numberOf 39 = .ok (.iadd, 1) := by decide +kernel
theorem dX8_numberOf_40 : decode cX8_numberOf 40 = .ok (.istore_n 2, 1) := by decide +kernel
theorem dX8_numberOf_41 : decode cX8_numberOf 41 = .ok (.goto 6, 3) := by decide +kernel
theorem dX8_numberOf_44 : decode cX8_numberOf 44 = .ok (.iload 4, 2) := by decide +kernel
theorem dX8_numberOf_46 : decode cX8_numberOf 46 = .ok (.istore_n 3, 1) := by decide +kernel
theorem dX8_numberOf_47 : decode cX8_numberOf 47 = .ok (.goto (-34), 3) := by decide +kernel
theorem dX8_numberOf_50 : decode cX8_numberOf 50 = .ok (.iload_n 2, 1) := by decide +kernel
theorem dX8_numberOf_51 : decode cX8_numberOf 51 = .ok (.ireturn, 1) := by decide +kernel
theorem dX8_isSlot_0 : decode cX8_isSlot 0 = .ok (.iload_n 0, 1) := by decide +kernel
theorem dX8_isSlot_1 : decode cX8_isSlot 1 = .ok (.iconst 0, 1) := by decide +kernel
theorem dX8_isSlot_2 : decode cX8_isSlot 2 = .ok (.iconst 5, 1) := by decide +kernel
theorem dX8_isSlot_3 : decode cX8_isSlot 3 = .ok (.invokestatic 100, 3) := by decide +kernel
theorem dX8_isSlot_6 : decode cX8_isSlot 6 = .ok (.ireturn, 1) := by decide +kernel
theorem dX8_isPoint_0 : decode cX8_isPoint 0 = .ok (.iload_n 1, 1) := by decide +kernel
theorem dX8_isPoint_1 : decode cX8_isPoint 1 = .ok (.iconst 0, 1) := by decide +kernel
theorem dX8_isPoint_2 : decode cX8_isPoint 2 = .ok (.aload_n 0, 1) := by decide +kernel
theorem dX8_isPoint_3 : decode cX8_isPoint 3 = .ok (.getfield 7, 3) := by decide +kernel
theorem dX8_isPoint_6 : decode cX8_isPoint 6 = .ok (.iconst 0, 1) := by decide +kernel
theorem dX8_isPoint_7 : decode cX8_isPoint 7 = .ok (.iaload, 1) := by decide +kernel
theorem dX8_isPoint_8 : decode cX8_isPoint 8 = .ok (.iconst 1, 1) := by decide +kernel
theorem dX8_isPoint_9 : decode cX8_isPoint 9 = .ok (.isub, 1) := by decide +kernel
theorem dX8_isPoint_10 : decode cX8_isPoint 10 = .ok (.invokestatic 100, 3) := by decide +kernel
theorem dX8_isPoint_13 : decode cX8_isPoint 13 = .ok (.ireturn, 1) := by decide +kernel
theorem dX8_doPoints_0 : decode cX8_doPoints 0 = .ok (.iload_n 1, 1) := by decide +kernel
theorem dX8_doPoints_1 : decode cX8_doPoints 1 = .ok (.iconst 1, 1) := by decide +kernel
theorem dX8_doPoints_2 : decode cX8_doPoints 2 = .ok (.bipush 8, 2) := by decide +kernel
theorem dX8_doPoints_4 : decode cX8_doPoints 4 = .ok (.invokestatic 100, 3) := by decide +kernel
theorem dX8_doPoints_7 : decode cX8_doPoints 7 = .ok (.ifCond .ne 6, 3) := by decide +kernel
theorem dX8_doPoints_10 : decode cX8_doPoints 10 = .ok (.bipush (-2), 2) := by decide +kernel
theorem dX8_doPoints_12 : decode cX8_doPoints 12 = .ok (.ireturn, 1) := by decide +kernel
theorem dX8_doPoints_13 : decode cX8_doPoints 13 = .ok (.aload_n 0, 1) := by decide +kernel
theorem dX8_doPoints_14 : decode cX8_doPoints 14 = .ok (.getfield 7, 3) := by decide +kernel
theorem dX8_doPoints_17 : decode cX8_doPoints 17 = .ok (.iconst 0, 1) := by decide +kernel
theorem dX8_doPoints_18 : decode cX8_doPoints 18 = .ok (.iaload, 1) := by decide +kernel
theorem dX8_doPoints_19 : decode cX8_doPoints 19 = .ok (.istore_n 2, 1) := by decide +kernel
theorem dX8_doPoints_20 : decode cX8_doPoints 20 = .ok (.aload_n 0, 1) := by decide +kernel
theorem dX8_doPoints_21 : decode cX8_doPoints 21 = .ok (.iload_n 1, 1) := by decide +kernel
theorem dX8_doPoints_22 : decode cX8_doPoints 22 = .ok (.invokevirtual 56, 3) := by decide +kernel
theorem dX8_doPoints_25 : decode cX8_doPoints 25 = .ok (.iload_n 2, 1) := by decide +kernel
theorem dX8_doPoints_26 : decode cX8_doPoints 26 = .ok (.ireturn, 1) := by decide +kernel
theorem dX8_put_0 : decode cX8_put 0 = .ok (.aload_n 0, 1) := by decide +kernel
theorem dX8_put_1 : decode cX8_put 1 = .ok (.getfield 7, 3) := by decide +kernel
theorem dX8_put_4 : decode cX8_put 4 = .ok (.iconst 1, 1) := by decide +kernel
theorem dX8_put_5 : decode cX8_put 5 = .ok (.iload_n 1, 1) := by decide +kernel
theorem dX8_put_6 : decode cX8_put 6 = .ok (.iadd, 1) := by decide +kernel
theorem dX8_put_7 : decode cX8_put 7 = .ok (.iload_n 2, 1) := by decide +kernel
theorem dX8_put_8 : decode cX8_put 8 = .ok (.iastore, 1) := by decide +kernel
theorem dX8_put_9 : decode cX8_put 9 = .ok (.aload_n 0, 1) := by decide +kernel
theorem dX8_put_10 : decode cX8_put 10 = .ok (.iload_n 2, 1) := by decide +kernel
theorem dX8_put_11 : decode cX8_put 11 = .ok (.invokevirtual 93, 3) := by decide +kernel
theorem dX8_put_14 : decode cX8_put 14 = .ok (.ireturn, 1) := by decide +kernel
theorem dX8_doPuts_0 : decode cX8_doPuts 0 = .ok (.iload_n 1, 1) := by decide +kernel
theorem dX8_doPuts_1 : decode cX8_doPuts 1 = .ok (.invokestatic 104, 3) := by decide +kernel
theorem dX8_doPuts_4 : decode cX8_doPuts 4 = .ok (.ifCond .eq 19, 3) := by decide +kernel
theorem dX8_doPuts_7 : decode cX8_doPuts 7 = .ok (.aload_n 0, 1) := by decide +kernel
theorem dX8_doPuts_8 : decode cX8_doPuts 8 = .ok (.iload_n 2, 1) := by decide +kernel
theorem dX8_doPuts_9 : decode cX8_doPuts 9 = .ok (.invokevirtual 107, 3) := by decide +kernel
theorem dX8_doPuts_12 : decode cX8_doPuts 12 = .ok (.ifCond .eq 11, 3) := by decide +kernel
theorem dX8_doPuts_15 : decode cX8_doPuts 15 = .ok (.aload_n 0, 1) := by decide +kernel
theorem dX8_doPuts_16 : decode cX8_doPuts 16 = .ok (.iload_n 3, 1) := by decide +kernel
theorem dX8_doPuts_17 : decode cX8_doPuts 17 = .ok (.invokevirtual 107, 3) := by decide +kernel
theorem dX8_doPuts_20 : decode cX8_doPuts 20 = .ok (.ifCond .ne 6, 3) := by decide +kernel
theorem dX8_doPuts_23 : decode cX8_doPuts 23 = .ok (.bipush (-2), 2) := by decide +kernel
theorem dX8_doPuts_25 : decode cX8_doPuts 25 = .ok (.ireturn, 1) := by decide +kernel
theorem dX8_doPuts_26 : decode cX8_doPuts 26 = .ok (.iconst 0, 1) := by decide +kernel
theorem dX8_doPuts_27 : decode cX8_doPuts 27 = .ok (.istore 4, 2) := by decide +kernel
theorem dX8_doPuts_29 : decode cX8_doPuts 29 = .ok (.iload 4, 2) := by decide +kernel
theorem dX8_doPuts_31 : decode cX8_doPuts 31 = .ok (.aload_n 0, 1) := by decide +kernel
theorem dX8_doPuts_32 : decode cX8_doPuts 32 = .ok (.getfield 7, 3) := by decide +kernel
theorem dX8_doPuts_35 : decode cX8_doPuts 35 = .ok (.iconst 0, 1) := by decide +kernel
theorem dX8_doPuts_36 : decode cX8_doPuts 36 = .ok (.iaload, 1) := by decide +kernel
theorem dX8_doPuts_37 : decode cX8_doPuts 37 = .ok (.if_icmp .ge 18, 3) := by decide +kernel
theorem dX8_doPuts_40 : decode cX8_doPuts 40 = .ok (.aload_n 0, 1) := by decide +kernel
theorem dX8_doPuts_41 : decode cX8_doPuts 41 = .ok (.getfield 25, 3) := by decide +kernel
theorem dX8_doPuts_44 : decode cX8_doPuts 44 = .ok (.iload 4, 2) := by decide +kernel
theorem dX8_doPuts_46 : decode cX8_doPuts 46 = .ok (.iload 4, 2) := by decide +kernel
theorem dX8_doPuts_48 : decode cX8_doPuts 48 = .ok (.iastore, 1) := by decide +kernel
theorem dX8_doPuts_49 : decode cX8_doPuts 49 = .ok (.iinc 4 1, 3) := by decide +kernel
theorem dX8_doPuts_52 : decode cX8_doPuts 52 = .ok (.goto (-23), 3) := by decide +kernel
theorem dX8_doPuts_55 : decode cX8_doPuts 55 = .ok (.aload_n 0, 1) := by decide +kernel
theorem dX8_doPuts_56 : decode cX8_doPuts 56 = .ok (.getfield 25, 3) := by decide +kernel
theorem dX8_doPuts_59 : decode cX8_doPuts 59 = .ok (.iload_n 2, 1) := by decide +kernel
theorem dX8_doPuts_60 : decode cX8_doPuts 60 = .ok (.iload_n 3, 1) := by decide +kernel
theorem dX8_doPuts_61 : decode cX8_doPuts 61 = .ok (.iastore, 1) := by decide +kernel
theorem dX8_doPuts_62 : decode cX8_doPuts 62 = .ok (.aload_n 0, 1) := by decide +kernel
theorem dX8_doPuts_63 : decode cX8_doPuts 63 = .ok (.iload_n 1, 1) := by decide +kernel
theorem dX8_doPuts_64 : decode cX8_doPuts 64 = .ok (.aload_n 0, 1) := by decide +kernel
theorem dX8_doPuts_65 : decode cX8_doPuts 65 = .ok (.aload_n 0, 1) := by decide +kernel
theorem dX8_doPuts_66 : decode cX8_doPuts 66 = .ok (.getfield 7, 3) := by decide +kernel
theorem dX8_doPuts_69 : decode cX8_doPuts 69 = .ok (.iconst 1, 1) := by decide +kernel
theorem dX8_doPuts_70 : decode cX8_doPuts 70 = .ok (.iload_n 1, 1) := by decide +kernel
theorem dX8_doPuts_71 : decode cX8_doPuts 71 = .ok (.iadd, 1) := by decide +kernel
theorem dX8_doPuts_72 : decode cX8_doPuts 72 = .ok (.iaload, 1) := by decide +kernel
theorem dX8_doPuts_73 : decode cX8_doPuts 73 = .ok (.aload_n 0, 1) := by decide +kernel
theorem dX8_doPuts_74 : decode cX8_doPuts 74 = .ok (.invokevirtual 72, 3) := by decide +kernel
theorem dX8_doPuts_77 : decode cX8_doPuts 77 = .ok (.invokevirtual 110, 3) := by decide +kernel
theorem dX8_doPuts_80 : decode cX8_doPuts 80 = .ok (.invokevirtual 113, 3) := by decide +kernel
theorem dX8_doPuts_83 : decode cX8_doPuts 83 = .ok (.ireturn, 1) := by decide +kernel
theorem dX8_doMeets_0 : decode cX8_doMeets 0 = .ok (.iload_n 1, 1) := by decide +kernel
theorem dX8_doMeets_1 : decode cX8_doMeets 1 = .ok (.invokestatic 104, 3) := by decide +kernel
theorem dX8_doMeets_4 : decode cX8_doMeets 4 = .ok (.ifCond .eq 45, 3) := by decide +kernel
theorem dX8_doMeets_7 : decode cX8_doMeets 7 = .ok (.iload_n 2, 1) := by decide +kernel
theorem dX8_doMeets_8 : decode cX8_doMeets 8 = .ok (.invokestatic 104, 3) := by decide +kernel
theorem dX8_doMeets_11 : decode cX8_doMeets 11 = .ok (.ifCond .eq 38, 3) := by decide +kernel
theorem dX8_doMeets_14 : decode cX8_doMeets 14 = .ok (.iload_n 3, 1) := by decide +kernel
theorem dX8_doMeets_15 : decode cX8_doMeets 15 = .ok (.invokestatic 104, 3) := by decide +kernel
theorem dX8_doMeets_18 : decode cX8_doMeets 18 = .ok (.ifCond .eq 31, 3) := by decide +kernel
theorem dX8_doMeets_21 : decode cX8_doMeets 21 = .ok (.aload_n 0, 1) := by decide +kernel
theorem dX8_doMeets_22 : decode cX8_doMeets 22 = .ok (.iload_n 1, 1) := by decide +kernel
theorem dX8_doMeets_23 : decode cX8_doMeets 23 = .ok (.aload_n 0, 1) := by decide +kernel
theorem dX8_doMeets_24 : decode cX8_doMeets 24 = .ok (.aload_n 0, 1) := by decide +kernel
theorem dX8_doMeets_25 : decode cX8_doMeets 25 = .ok (.getfield 7, 3) := by decide +kernel
theorem dX8_doMeets_28 : decode cX8_doMeets 28 = .ok (.iconst 1, 1) := by decide +kernel
theorem dX8_doMeets_29 : decode cX8_doMeets 29 = .ok (.iload_n 2, 1) := by decide +kernel
theorem dX8_doMeets_30 : decode cX8_doMeets 30 = .ok (.iadd, 1) := by decide +kernel
theorem dX8_doMeets_31 : decode cX8_doMeets 31 = .ok (.iaload, 1) := by decide +kernel
theorem dX8_doMeets_32 : decode cX8_doMeets 32 = .ok (.aload_n 0, 1) := by decide +kernel
theorem dX8_doMeets_33 : decode cX8_doMeets 33 = .ok (.getfield 7, 3) := by decide +kernel
theorem dX8_doMeets_36 : decode cX8_doMeets 36 = .ok (.iconst 1, 1) := by decide +kernel
theorem dX8_doMeets_37 : decode cX8_doMeets 37 = .ok (.iload_n 3, 1) := by decide +kernel
theorem dX8_doMeets_38 : decode cX8_doMeets 38 = .ok (.iadd, 1) := by decide +kernel
theorem dX8_doMeets_39 : decode cX8_doMeets 39 = .ok (.iaload, 1) := by decide +kernel
theorem dX8_doMeets_40 : decode cX8_doMeets 40 = .ok (.invokevirtual 116, 3) := by decide +kernel
theorem dX8_doMeets_43 : decode cX8_doMeets 43 = .ok (.invokevirtual 113, 3) := by decide +kernel
theorem dX8_doMeets_46 : decode cX8_doMeets 46 = .ok (.goto 5, 3) := by decide +kernel
theorem dX8_doMeets_49 : decode cX8_doMeets 49 = .ok (.bipush (-2), 2) := by decide +kernel
theorem dX8_doMeets_51 : decode cX8_doMeets 51 = .ok (.ireturn, 1) := by decide +kernel
theorem dX8_doJoins_0 : decode cX8_doJoins 0 = .ok (.iload_n 1, 1) := by decide +kernel
theorem dX8_doJoins_1 : decode cX8_doJoins 1 = .ok (.invokestatic 104, 3) := by decide +kernel
theorem dX8_doJoins_4 : decode cX8_doJoins 4 = .ok (.ifCond .eq 45, 3) := by decide +kernel
theorem dX8_doJoins_7 : decode cX8_doJoins 7 = .ok (.iload_n 2, 1) := by decide +kernel
theorem dX8_doJoins_8 : decode cX8_doJoins 8 = .ok (.invokestatic 104, 3) := by decide +kernel
theorem dX8_doJoins_11 : decode cX8_doJoins 11 = .ok (.ifCond .eq 38, 3) := by decide +kernel
theorem dX8_doJoins_14 : decode cX8_doJoins 14 = .ok (.iload_n 3, 1) := by decide +kernel
theorem dX8_doJoins_15 : decode cX8_doJoins 15 = .ok (.invokestatic 104, 3) := by decide +kernel
theorem dX8_doJoins_18 : decode cX8_doJoins 18 = .ok (.ifCond .eq 31, 3) := by decide +kernel
theorem dX8_doJoins_21 : decode cX8_doJoins 21 = .ok (.aload_n 0, 1) := by decide +kernel
theorem dX8_doJoins_22 : decode cX8_doJoins 22 = .ok (.iload_n 1, 1) := by decide +kernel
theorem dX8_doJoins_23 : decode cX8_doJoins 23 = .ok (.aload_n 0, 1) := by decide +kernel
theorem dX8_doJoins_24 : decode cX8_doJoins 24 = .ok (.aload_n 0, 1) := by decide +kernel
theorem dX8_doJoins_25 : decode cX8_doJoins 25 = .ok (.getfield 7, 3) := by decide +kernel
theorem dX8_doJoins_28 : decode cX8_doJoins 28 = .ok (.iconst 1, 1) := by decide +kernel
theorem dX8_doJoins_29 : decode cX8_doJoins 29 = .ok (.iload_n 2, 1) := by decide +kernel
theorem dX8_doJoins_30 : decode cX8_doJoins 30 = .ok (.iadd, 1) := by decide +kernel
theorem dX8_doJoins_31 : decode cX8_doJoins 31 = .ok (.iaload, 1) := by decide +kernel
theorem dX8_doJoins_32 : decode cX8_doJoins 32 = .ok (.aload_n 0, 1) := by decide +kernel
theorem dX8_doJoins_33 : decode cX8_doJoins 33 = .ok (.getfield 7, 3) := by decide +kernel
theorem dX8_doJoins_36 : decode cX8_doJoins 36 = .ok (.iconst 1, 1) := by decide +kernel
theorem dX8_doJoins_37 : decode cX8_doJoins 37 = .ok (.iload_n 3, 1) := by decide +kernel
theorem dX8_doJoins_38 : decode cX8_doJoins 38 = .ok (.iadd, 1) := by decide +kernel
theorem dX8_doJoins_39 : decode cX8_doJoins 39 = .ok (.iaload, 1) := by decide +kernel
theorem dX8_doJoins_40 : decode cX8_doJoins 40 = .ok (.invokevirtual 110, 3) := by decide +kernel
theorem dX8_doJoins_43 : decode cX8_doJoins 43 = .ok (.invokevirtual 113, 3) := by decide +kernel
theorem dX8_doJoins_46 : decode cX8_doJoins 46 = .ok (.goto 5, 3) := by decide +kernel
theorem dX8_doJoins_49 : decode cX8_doJoins 49 = .ok (.bipush (-2), 2) := by decide +kernel
theorem dX8_doJoins_51 : decode cX8_doJoins 51 = .ok (.ireturn, 1) := by decide +kernel
theorem dX8_doComplements_0 : decode cX8_doComplements 0 = .ok (.iload_n 1, 1) := by decide +kernel
theorem dX8_doComplements_1 : decode cX8_doComplements 1 = .ok (.invokestatic 104, 3) := by decide +kernel
theorem dX8_doComplements_4 : decode cX8_doComplements 4 = .ok (.ifCond .eq 30, 3) := by decide +kernel
theorem dX8_doComplements_7 : decode cX8_doComplements 7 = .ok (.iload_n 2, 1) := by decide +kernel
theorem dX8_doComplements_8 : decode cX8_doComplements 8 = .ok (.invokestatic 104, 3) := by decide +kernel
theorem dX8_doComplements_11 : decode cX8_doComplements 11 = .ok (.ifCond .eq 23, 3) := by decide +kernel
theorem dX8_doComplements_14 : decode cX8_doComplements 14 = .ok (.aload_n 0, 1) := by decide +kernel
theorem dX8_doComplements_15 : decode cX8_doComplements 15 = .ok (.iload_n 1, 1) := by decide +kernel
theorem dX8_doComplements_16 : decode cX8_doComplements 16 = .ok (.aload_n 0, 1) := by decide +kernel
theorem dX8_doComplements_17 : decode cX8_doComplements 17 = .ok (.aload_n 0, 1) := by decide +kernel
theorem dX8_doComplements_18 : decode cX8_doComplements 18 = .ok (.getfield 7, 3) := by decide +kernel
theorem dX8_doComplements_21 : decode cX8_doComplements 21 = .ok (.iconst 1, 1) := by decide +kernel
theorem dX8_doComplements_22 : decode cX8_doComplements 22 = .ok (.iload_n 2, 1) := by decide +kernel
theorem dX8_doComplements_23 : decode cX8_doComplements 23 = .ok (.iadd, 1) := by decide +kernel
theorem dX8_doComplements_24 : decode cX8_doComplements 24 = .ok (.iaload, 1) := by decide +kernel
theorem dX8_doComplements_25 : decode cX8_doComplements 25 = .ok (.invokevirtual 119, 3) := by decide +kernel
theorem dX8_doComplements_28 : decode cX8_doComplements 28 = .ok (.invokevirtual 113, 3) := by decide +kernel
theorem dX8_doComplements_31 : decode cX8_doComplements 31 = .ok (.goto 5, 3) := by decide +kernel
theorem dX8_doComplements_34 : decode cX8_doComplements 34 = .ok (.bipush (-2), 2) := by decide +kernel
theorem dX8_doComplements_36 : decode cX8_doComplements 36 = .ok (.ireturn, 1) := by decide +kernel
theorem dX8_doTurns_0 : decode cX8_doTurns 0 = .ok (.iload_n 1, 1) := by decide +kernel
theorem dX8_doTurns_1 : decode cX8_doTurns 1 = .ok (.invokestatic 104, 3) := by decide +kernel
theorem dX8_doTurns_4 : decode cX8_doTurns 4 = .ok (.ifCond .eq 10, 3) := by decide +kernel
theorem dX8_doTurns_7 : decode cX8_doTurns 7 = .ok (.iload_n 2, 1) := by decide +kernel
theorem dX8_doTurns_8 : decode cX8_doTurns 8 = .ok (.invokestatic 104, 3) := by decide +kernel
theorem dX8_doTurns_11 : decode cX8_doTurns 11 = .ok (.ifCond .ne 6, 3) := by decide +kernel
theorem dX8_doTurns_14 : decode cX8_doTurns 14 = .ok (.bipush (-2), 2) := by decide +kernel
theorem dX8_doTurns_16 : decode cX8_doTurns 16 = .ok (.ireturn, 1) := by decide +kernel
theorem dX8_doTurns_17 : decode cX8_doTurns 17 = .ok (.aload_n 0, 1) := by decide +kernel
theorem dX8_doTurns_18 : decode cX8_doTurns 18 = .ok (.getfield 7, 3) := by decide +kernel
theorem dX8_doTurns_21 : decode cX8_doTurns 21 = .ok (.iconst 1, 1) := by decide +kernel
theorem dX8_doTurns_22 : decode cX8_doTurns 22 = .ok (.iload_n 1, 1) := by decide +kernel
theorem dX8_doTurns_23 : decode cX8_doTurns 23 = .ok (.iadd, 1) := by decide +kernel
theorem dX8_doTurns_24 : decode cX8_doTurns 24 = .ok (.aload_n 0, 1) := by decide +kernel
theorem dX8_doTurns_25 : decode cX8_doTurns 25 = .ok (.aload_n 0, 1) := by decide +kernel
theorem dX8_doTurns_26 : decode cX8_doTurns 26 = .ok (.getfield 7, 3) := by decide +kernel
theorem dX8_doTurns_29 : decode cX8_doTurns 29 = .ok (.iconst 1, 1) := by decide +kernel
theorem dX8_doTurns_30 : decode cX8_doTurns 30 = .ok (.iload_n 2, 1) := by decide +kernel
theorem dX8_doTurns_31 : decode cX8_doTurns 31 = .ok (.iadd, 1) := by decide +kernel
theorem dX8_doTurns_32 : decode cX8_doTurns 32 = .ok (.iaload, 1) := by decide +kernel
theorem dX8_doTurns_33 : decode cX8_doTurns 33 = .ok (.invokevirtual 122, 3) := by decide +kernel
theorem dX8_doTurns_36 : decode cX8_doTurns 36 = .ok (.iastore, 1) := by decide +kernel
theorem dX8_doTurns_37 : decode cX8_doTurns 37 = .ok (.aload_n 0, 1) := by decide +kernel
theorem dX8_doTurns_38 : decode cX8_doTurns 38 = .ok (.aload_n 0, 1) := by decide +kernel
theorem dX8_doTurns_39 : decode cX8_doTurns 39 = .ok (.getfield 7, 3) := by decide +kernel
theorem dX8_doTurns_42 : decode cX8_doTurns 42 = .ok (.iconst 1, 1) := by decide +kernel
theorem dX8_doTurns_43 : decode cX8_doTurns 43 = .ok (.iload_n 1, 1) := by decide +kernel
theorem dX8_doTurns_44 : decode cX8_doTurns 44 = .ok (.iadd, 1) := by decide +kernel
theorem dX8_doTurns_45 : decode cX8_doTurns 45 = .ok (.iaload, 1) := by decide +kernel
theorem dX8_doTurns_46 : decode cX8_doTurns 46 = .ok (.invokevirtual 125, 3) := by decide +kernel
theorem dX8_doTurns_49 : decode cX8_doTurns 49 = .ok (.ireturn, 1) := by decide +kernel
theorem dX8_doTakes_0 : decode cX8_doTakes 0 = .ok (.aload_n 0, 1) := by decide +kernel
theorem dX8_doTakes_1 : decode cX8_doTakes 1 = .ok (.invokevirtual 97, 3) := by decide +kernel
theorem dX8_doTakes_4 : decode cX8_doTakes 4 = .ok (.iload_n 1, 1) := by decide +kernel
theorem dX8_doTakes_5 : decode cX8_doTakes 5 = .ok (.invokestatic 104, 3) := by decide +kernel
theorem dX8_doTakes_8 : decode cX8_doTakes 8 = .ok (.ifCond .eq 31, 3) := by decide +kernel
theorem dX8_doTakes_11 : decode cX8_doTakes 11 = .ok (.iload_n 2, 1) := by decide +kernel
theorem dX8_doTakes_12 : decode cX8_doTakes 12 = .ok (.iconst 0, 1) := by decide +kernel
theorem dX8_doTakes_13 : decode cX8_doTakes 13 = .ok (.aload_n 0, 1) := by decide +kernel
theorem dX8_doTakes_14 : decode cX8_doTakes 14 = .ok (.getfield 87, 3) := by decide +kernel
theorem dX8_doTakes_17 : decode cX8_doTakes 17 = .ok (.iconst 1, 1) := by decide +kernel
theorem dX8_doTakes_18 : decode cX8_doTakes 18 = .ok (.isub, 1) := by decide +kernel
theorem dX8_doTakes_19 : decode cX8_doTakes 19 = .ok (.invokestatic 100, 3) := by decide +kernel
theorem dX8_doTakes_22 : decode cX8_doTakes 22 = .ok (.ifCond .eq 17, 3) := by decide +kernel
theorem dX8_doTakes_25 : decode cX8_doTakes 25 = .ok (.aload_n 0, 1) := by decide +kernel
theorem dX8_doTakes_26 : decode cX8_doTakes 26 = .ok (.iload_n 1, 1) := by decide +kernel
theorem dX8_doTakes_27 : decode cX8_doTakes 27 = .ok (.aload_n 0, 1) := by decide +kernel
theorem dX8_doTakes_28 : decode cX8_doTakes 28 = .ok (.getfield 28, 3) := by decide +kernel
theorem dX8_doTakes_31 : decode cX8_doTakes 31 = .ok (.iload_n 2, 1) := by decide +kernel
theorem dX8_doTakes_32 : decode cX8_doTakes 32 = .ok (.iaload, 1) := by decide +kernel
theorem dX8_doTakes_33 : decode cX8_doTakes 33 = .ok (.invokevirtual 113, 3) := by decide +kernel
theorem dX8_doTakes_36 : decode cX8_doTakes 36 = .ok (.goto 5, 3) := by decide +kernel
theorem dX8_doTakes_39 : decode cX8_doTakes 39 = .ok (.bipush (-2), 2) := by decide +kernel
theorem dX8_doTakes_41 : decode cX8_doTakes 41 = .ok (.ireturn, 1) := by decide +kernel
theorem dX8_doNumber_0 : decode cX8_doNumber 0 = .ok (.iload_n 1, 1) := by decide +kernel
theorem dX8_doNumber_1 : decode cX8_doNumber 1 = .ok (.iconst 1, 1) := by decide +kernel
theorem dX8_doNumber_2 : decode cX8_doNumber 2 = .ok (.bipush 8, 2) := by decide +kernel
theorem dX8_doNumber_4 : decode cX8_doNumber 4 = .ok (.invokestatic 100, 3) := by decide +kernel
theorem dX8_doNumber_7 : decode cX8_doNumber 7 = .ok (.ifCond .eq 14, 3) := by decide +kernel
theorem dX8_doNumber_10 : decode cX8_doNumber 10 = .ok (.iload_n 2, 1) := by decide +kernel
theorem dX8_doNumber_11 : decode cX8_doNumber 11 = .ok (.bipush (-9), 2) := by decide +kernel
theorem dX8_doNumber_13 : decode cX8_doNumber 13 = .ok (.bipush 9, 2) := by decide +kernel
theorem dX8_doNumber_15 : decode cX8_doNumber 15 = .ok (.invokestatic 100, 3) := by decide +kernel
theorem dX8_doNumber_18 : decode cX8_doNumber 18 = .ok (.ifCond .ne 6, 3) := by decide +kernel
theorem dX8_doNumber_21 : decode cX8_doNumber 21 = .ok (.bipush (-2), 2) := by decide +kernel
theorem dX8_doNumber_23 : decode cX8_doNumber 23 = .ok (.ireturn, 1) := by decide +kernel
theorem dX8_doNumber_24 : decode cX8_doNumber 24 = .ok (.aload_n 0, 1) := by decide +kernel
theorem dX8_doNumber_25 : decode cX8_doNumber 25 = .ok (.getfield 7, 3) := by decide +kernel
theorem dX8_doNumber_28 : decode cX8_doNumber 28 = .ok (.bipush 7, 2) := by decide +kernel
theorem dX8_doNumber_30 : decode cX8_doNumber 30 = .ok (.iload_n 1, 1) := by decide +kernel
theorem dX8_doNumber_31 : decode cX8_doNumber 31 = .ok (.iadd, 1) := by decide +kernel
theorem dX8_doNumber_32 : decode cX8_doNumber 32 = .ok (.iconst 1, 1) := by decide +kernel
theorem dX8_doNumber_33 : decode cX8_doNumber 33 = .ok (.isub, 1) := by decide +kernel
theorem dX8_doNumber_34 : decode cX8_doNumber 34 = .ok (.iaload, 1) := by decide +kernel
theorem dX8_doNumber_35 : decode cX8_doNumber 35 = .ok (.istore_n 3, 1) := by decide +kernel
theorem dX8_doNumber_36 : decode cX8_doNumber 36 = .ok (.aload_n 0, 1) := by decide +kernel
theorem dX8_doNumber_37 : decode cX8_doNumber 37 = .ok (.getfield 7, 3) := by decide +kernel
theorem dX8_doNumber_40 : decode cX8_doNumber 40 = .ok (.bipush 7, 2) := by decide +kernel
theorem dX8_doNumber_42 : decode cX8_doNumber 42 = .ok (.iload_n 1, 1) := by decide +kernel
theorem dX8_doNumber_43 : decode cX8_doNumber 43 = .ok (.iadd, 1) := by decide +kernel
theorem dX8_doNumber_44 : decode cX8_doNumber 44 = .ok (.iconst 1, 1) := by decide +kernel
theorem dX8_doNumber_45 : decode cX8_doNumber 45 = .ok (.isub, 1) := by decide +kernel
theorem dX8_doNumber_46 : decode cX8_doNumber 46 = .ok (.iload_n 2, 1) := by decide +kernel
theorem dX8_doNumber_47 : decode cX8_doNumber 47 = .ok (.iastore, 1) := by decide +kernel
theorem dX8_doNumber_48 : decode cX8_doNumber 48 = .ok (.iload_n 3, 1) := by decide +kernel
theorem dX8_doNumber_49 : decode cX8_doNumber 49 = .ok (.bipush 100, 2) := by decide +kernel
theorem dX8_doNumber_51 : decode cX8_doNumber 51 = .ok (.iadd, 1) := by decide +kernel
theorem dX8_doNumber_52 : decode cX8_doNumber 52 = .ok (.ireturn, 1) := by decide +kernel
theorem dX8_hold_0 : decode cX8_hold 0 = .ok (.iconst 0, 1) := by decide +kernel
theorem dX8_hold_1 : decode cX8_hold 1 = .ok (.istore_n 1, 1) := by decide +kernel
theorem dX8_hold_2 : decode cX8_hold 2 = .ok (.iload_n 1, 1) := by decide +kernel
theorem dX8_hold_3 : decode cX8_hold 3 = .ok (.bipush 15, 2) := by decide +kernel
theorem dX8_hold_5 : decode cX8_hold 5 = .ok (.if_icmp .ge 21, 3) := by decide +kernel
theorem dX8_hold_8 : decode cX8_hold 8 = .ok (.aload_n 0, 1) := by decide +kernel
theorem dX8_hold_9 : decode cX8_hold 9 = .ok (.getfield 13, 3) := by decide +kernel
theorem dX8_hold_12 : decode cX8_hold 12 = .ok (.iload_n 1, 1) := by decide +kernel
theorem dX8_hold_13 : decode cX8_hold 13 = .ok (.aload_n 0, 1) := by decide +kernel
theorem dX8_hold_14 : decode cX8_hold 14 = .ok (.getfield 7, 3) := by decide +kernel
theorem dX8_hold_17 : decode cX8_hold 17 = .ok (.iload_n 1, 1) := by decide +kernel
theorem dX8_hold_18 : decode cX8_hold 18 = .ok (.iaload, 1) := by decide +kernel
theorem dX8_hold_19 : decode cX8_hold 19 = .ok (.iastore, 1) := by decide +kernel
theorem dX8_hold_20 : decode cX8_hold 20 = .ok (.iinc 1 1, 3) := by decide +kernel
theorem dX8_hold_23 : decode cX8_hold 23 = .ok (.goto (-21), 3) := by decide +kernel
theorem dX8_hold_26 : decode cX8_hold 26 = .ok (.return_, 1) := by decide +kernel
theorem dX8_push_0 : decode cX8_push 0 = .ok (.aload_n 0, 1) := by decide +kernel
theorem dX8_push_1 : decode cX8_push 1 = .ok (.getfield 128, 3) := by decide +kernel
theorem dX8_push_4 : decode cX8_push 4 = .ok (.iconst 5, 1) := by decide +kernel
theorem dX8_push_5 : decode cX8_push 5 = .ok (.if_icmp .ne 42, 3) := by decide +kernel
theorem dX8_push_8 : decode cX8_push 8 = .ok (.iconst 0, 1) := by decide +kernel
theorem dX8_push_9 : decode cX8_push 9 = .ok (.istore_n 1, 1) := by decide +kernel
theorem dX8_push_10 : decode cX8_push 10 = .ok (.iload_n 1, 1) := by decide +kernel
theorem dX8_push_11 : decode cX8_push 11 = .ok (.bipush 60, 2) := by decide +kernel
theorem dX8_push_13 : decode cX8_push 13 = .ok (.if_icmp .ge 24, 3) := by decide +kernel
theorem dX8_push_16 : decode cX8_push 16 = .ok (.aload_n 0, 1) := by decide +kernel
theorem dX8_push_17 : decode cX8_push 17 = .ok (.getfield 16, 3) := by decide +kernel
theorem dX8_push_20 : decode cX8_push 20 = .ok (.iload_n 1, 1) := by decide +kernel
theorem dX8_push_21 : decode cX8_push 21 = .ok (.aload_n 0, 1) := by decide +kernel
theorem dX8_push_22 : decode cX8_push 22 = .ok (.getfield 16, 3) := by decide +kernel
theorem dX8_push_25 : decode cX8_push 25 = .ok (.iload_n 1, 1) := by decide +kernel
theorem dX8_push_26 : decode cX8_push 26 = .ok (.bipush 15, 2) := by decide +kernel
theorem dX8_push_28 : decode cX8_push 28 = .ok (.iadd, 1) := by decide +kernel
theorem dX8_push_29 : decode cX8_push 29 = .ok (.iaload, 1) := by decide +kernel
theorem dX8_push_30 : decode cX8_push 30 = .ok (.iastore, 1) := by decide +kernel
theorem dX8_push_31 : decode cX8_push 31 = .ok (.iinc 1 1, 3) := by decide +kernel
theorem dX8_push_34 : decode cX8_push 34 = .ok (.goto (-24), 3) := by decide +kernel
theorem dX8_push_37 : decode cX8_push 37 = .ok (.aload_n 0, 1) := by decide +kernel
theorem dX8_push_38 : decode cX8_push 38 = .ok (.dup, 1) := by decide +kernel
theorem dX8_push_39 : decode cX8_push 39 = .ok (.getfield 128, 3) := by decide +kernel
theorem dX8_push_42 : decode cX8_push 42 = .ok (.iconst 1, 1) := by decide +kernel
theorem dX8_push_43 : decode cX8_push 43 = .ok (.isub, 1) := by decide +kernel
theorem dX8_push_44 : decode cX8_push 44 = .ok (.putfield 128, 3) := by decide +kernel
theorem dX8_push_47 : decode cX8_push 47 = .ok (.iconst 0, 1) := by decide +kernel
theorem dX8_push_48 : decode cX8_push 48 = .ok (.istore_n 1, 1) := by decide +kernel
theorem dX8_push_49 : decode cX8_push 49 = .ok (.iload_n 1, 1) := by decide +kernel
theorem dX8_push_50 : decode cX8_push 50 = .ok (.bipush 15, 2) := by decide +kernel
theorem dX8_push_52 : decode cX8_push 52 = .ok (.if_icmp .ge 29, 3) := by decide +kernel
theorem dX8_push_55 : decode cX8_push 55 = .ok (.aload_n 0, 1) := by decide +kernel
theorem dX8_push_56 : decode cX8_push 56 = .ok (.getfield 16, 3) := by decide +kernel
theorem dX8_push_59 : decode cX8_push 59 = .ok (.bipush 15, 2) := by decide +kernel
theorem dX8_push_61 : decode cX8_push 61 = .ok (.aload_n 0, 1) := by decide +kernel
theorem dX8_push_62 : decode cX8_push 62 = .ok (.getfield 128, 3) := by decide +kernel
theorem dX8_push_65 : decode cX8_push 65 = .ok (.imul, 1) := by decide +kernel
theorem dX8_push_66 : decode cX8_push 66 = .ok (.iload_n 1, 1) := by decide +kernel
theorem dX8_push_67 : decode cX8_push 67 = .ok (.iadd, 1) := by decide +kernel
theorem dX8_push_68 : decode cX8_push 68 = .ok (.aload_n 0, 1) := by decide +kernel
theorem dX8_push_69 : decode cX8_push 69 = .ok (.getfield 13, 3) := by decide +kernel
theorem dX8_push_72 : decode cX8_push 72 = .ok (.iload_n 1, 1) := by decide +kernel
theorem dX8_push_73 : decode cX8_push 73 = .ok (.iaload, 1) := by decide +kernel
theorem dX8_push_74 : decode cX8_push 74 = .ok (.iastore, 1) := by decide +kernel
theorem dX8_push_75 : decode cX8_push 75 = .ok (.iinc 1 1, 3) := by decide +kernel
theorem dX8_push_78 : decode cX8_push 78 = .ok (.goto (-29), 3) := by decide +kernel
theorem dX8_push_81 : decode cX8_push 81 = .ok (.aload_n 0, 1) := by decide +kernel
theorem dX8_push_82 : decode cX8_push 82 = .ok (.dup, 1) := by decide +kernel
theorem dX8_push_83 : decode cX8_push 83 = .ok (.getfield 128, 3) := by decide +kernel
theorem dX8_push_86 : decode cX8_push 86 = .ok (.iconst 1, 1) := by decide +kernel
theorem dX8_push_87 : decode cX8_push 87 = .ok (.iadd, 1) := by decide +kernel
theorem dX8_push_88 : decode cX8_push 88 = .ok (.putfield 128, 3) := by decide +kernel
theorem dX8_push_91 : decode cX8_push 91 = .ok (.return_, 1) := by decide +kernel
theorem dX8_ends_0 : decode cX8_ends 0 = .ok (.iload_n 1, 1) := by decide +kernel
theorem dX8_ends_1 : decode cX8_ends 1 = .ok (.ifCond .ge 9, 3) := by decide +kernel
theorem dX8_ends_4 : decode cX8_ends 4 = .ok (.aload_n 0, 1) := by decide +kernel
theorem dX8_ends_5 : decode cX8_ends 5 = .ok (.iload_n 1, 1) := by decide +kernel
theorem dX8_ends_6 : decode cX8_ends 6 = .ok (.invokevirtual 131, 3) := by decide +kernel
theorem dX8_ends_9 : decode cX8_ends 9 = .ok (.ireturn, 1) := by decide +kernel
theorem dX8_ends_10 : decode cX8_ends 10 = .ok (.aload_n 0, 1) := by decide +kernel
theorem dX8_ends_11 : decode cX8_ends 11 = .ok (.invokevirtual 134, 3) := by decide +kernel
theorem dX8_ends_14 : decode cX8_ends 14 = .ok (.iload_n 1, 1) := by decide +kernel
theorem dX8_ends_15 : decode cX8_ends 15 = .ok (.ireturn, 1) := by decide +kernel
theorem dX8_points_0 : decode cX8_points 0 = .ok (.aload_n 0, 1) := by decide +kernel
theorem dX8_points_1 : decode cX8_points 1 = .ok (.invokevirtual 137, 3) := by decide +kernel
theorem dX8_points_4 : decode cX8_points 4 = .ok (.aload_n 0, 1) := by decide +kernel
theorem dX8_points_5 : decode cX8_points 5 = .ok (.aload_n 0, 1) := by decide +kernel
theorem dX8_points_6 : decode cX8_points 6 = .ok (.iload_n 1, 1) := by decide +kernel
theorem dX8_points_7 : decode cX8_points 7 = .ok (.invokevirtual 140, 3) := by decide +kernel
theorem dX8_points_10 : decode cX8_points 10 = .ok (.invokevirtual 143, 3) := by decide +kernel
theorem dX8_points_13 : decode cX8_points 13 = .ok (.ireturn, 1) := by decide +kernel
theorem dX8_puts_0 : decode cX8_puts 0 = .ok (.aload_n 0, 1) := by decide +kernel
theorem dX8_puts_1 : decode cX8_puts 1 = .ok (.invokevirtual 137, 3) := by decide +kernel
theorem dX8_puts_4 : decode cX8_puts 4 = .ok (.aload_n 0, 1) := by decide +kernel
theorem dX8_puts_5 : decode cX8_puts 5 = .ok (.aload_n 0, 1) := by decide +kernel
theorem dX8_puts_6 : decode cX8_puts 6 = .ok (.iload_n 1, 1) := by decide +kernel
theorem dX8_puts_7 : decode cX8_puts 7 = .ok (.iload_n 2, 1) := by decide +kernel
theorem dX8_puts_8 : decode cX8_puts 8 = .ok (.iload_n 3, 1) := by decide +kernel
theorem dX8_puts_9 : decode cX8_puts 9 = .ok (.invokevirtual 146, 3) := by decide +kernel
theorem dX8_puts_12 : decode cX8_puts 12 = .ok (.invokevirtual 143, 3) := by decide +kernel
theorem dX8_puts_15 : decode cX8_puts 15 = .ok (.ireturn, 1) := by decide +kernel
theorem dX8_meets_0 : decode cX8_meets 0 = .ok (.aload_n 0, 1) := by decide +kernel
theorem dX8_meets_1 : decode cX8_meets 1 = .ok (.invokevirtual 137, 3) := by decide +kernel
theorem dX8_meets_4 : decode cX8_meets 4 = .ok (.aload_n 0, 1) := by decide +kernel
theorem dX8_meets_5 : decode cX8_meets 5 = .ok (.aload_n 0, 1) := by decide +kernel
theorem dX8_meets_6 : decode cX8_meets 6 = .ok (.iload_n 1, 1) := by decide +kernel
theorem dX8_meets_7 : decode cX8_meets 7 = .ok (.iload_n 2, 1) := by decide +kernel
theorem dX8_meets_8 : decode cX8_meets 8 = .ok (.iload_n 3, 1) := by decide +kernel
theorem dX8_meets_9 : decode cX8_meets 9 = .ok (.invokevirtual 150, 3) := by decide +kernel
theorem dX8_meets_12 : decode cX8_meets 12 = .ok (.invokevirtual 143, 3) := by decide +kernel
theorem dX8_meets_15 : decode cX8_meets 15 = .ok (.ireturn, 1) := by decide +kernel
theorem dX8_joins_0 : decode cX8_joins 0 = .ok (.aload_n 0, 1) := by decide +kernel
theorem dX8_joins_1 : decode cX8_joins 1 = .ok (.invokevirtual 137, 3) := by decide +kernel
theorem dX8_joins_4 : decode cX8_joins 4 = .ok (.aload_n 0, 1) := by decide +kernel
theorem dX8_joins_5 : decode cX8_joins 5 = .ok (.aload_n 0, 1) := by decide +kernel
theorem dX8_joins_6 : decode cX8_joins 6 = .ok (.iload_n 1, 1) := by decide +kernel
theorem dX8_joins_7 : decode cX8_joins 7 = .ok (.iload_n 2, 1) := by decide +kernel
theorem dX8_joins_8 : decode cX8_joins 8 = .ok (.iload_n 3, 1) := by decide +kernel
theorem dX8_joins_9 : decode cX8_joins 9 = .ok (.invokevirtual 153, 3) := by decide +kernel
theorem dX8_joins_12 : decode cX8_joins 12 = .ok (.invokevirtual 143, 3) := by decide +kernel
theorem dX8_joins_15 : decode cX8_joins 15 = .ok (.ireturn, 1) := by decide +kernel
theorem dX8_complements_0 : decode cX8_complements 0 = .ok (.aload_n 0, 1) := by decide +kernel
theorem dX8_complements_1 : decode cX8_complements 1 = .ok (.invokevirtual 137, 3) := by decide +kernel
theorem dX8_complements_4 : decode cX8_complements 4 = .ok (.aload_n 0, 1) := by decide +kernel
theorem dX8_complements_5 : decode cX8_complements 5 = .ok (.aload_n 0, 1) := by decide +kernel
theorem dX8_complements_6 : decode cX8_complements 6 = .ok (.iload_n 1, 1) := by decide +kernel
theorem dX8_complements_7 : decode cX8_complements 7 = .ok (.iload_n 2, 1) := by decide +kernel
theorem dX8_complements_8 : decode cX8_complements 8 = .ok (.invokevirtual 156, 3) := by decide +kernel
theorem dX8_complements_11 : decode cX8_complements 11 = .ok (.invokevirtual 143, 3) := by decide +kernel
theorem dX8_complements_14 : decode cX8_complements 14 = .ok (.ireturn, 1) := by decide +kernel
theorem dX8_turns_0 : decode cX8_turns 0 = .ok (.aload_n 0, 1) := by decide +kernel
theorem dX8_turns_1 : decode cX8_turns 1 = .ok (.invokevirtual 137, 3) := by decide +kernel
theorem dX8_turns_4 : decode cX8_turns 4 = .ok (.aload_n 0, 1) := by decide +kernel
theorem dX8_turns_5 : decode cX8_turns 5 = .ok (.aload_n 0, 1) := by decide +kernel
theorem dX8_turns_6 : decode cX8_turns 6 = .ok (.iload_n 1, 1) := by decide +kernel
theorem dX8_turns_7 : decode cX8_turns 7 = .ok (.iload_n 2, 1) := by decide +kernel
theorem dX8_turns_8 : decode cX8_turns 8 = .ok (.invokevirtual 159, 3) := by decide +kernel
theorem dX8_turns_11 : decode cX8_turns 11 = .ok (.invokevirtual 143, 3) := by decide +kernel
theorem dX8_turns_14 : decode cX8_turns 14 = .ok (.ireturn, 1) := by decide +kernel
theorem dX8_takes_0 : decode cX8_takes 0 = .ok (.aload_n 0, 1) := by decide +kernel
theorem dX8_takes_1 : decode cX8_takes 1 = .ok (.invokevirtual 137, 3) := by decide +kernel
theorem dX8_takes_4 : decode cX8_takes 4 = .ok (.aload_n 0, 1) := by decide +kernel
theorem dX8_takes_5 : decode cX8_takes 5 = .ok (.aload_n 0, 1) := by decide +kernel
theorem dX8_takes_6 : decode cX8_takes 6 = .ok (.iload_n 1, 1) := by decide +kernel
theorem dX8_takes_7 : decode cX8_takes 7 = .ok (.iload_n 2, 1) := by decide +kernel
theorem dX8_takes_8 : decode cX8_takes 8 = .ok (.invokevirtual 162, 3) := by decide +kernel
theorem dX8_takes_11 : decode cX8_takes 11 = .ok (.invokevirtual 143, 3) := by decide +kernel
theorem dX8_takes_14 : decode cX8_takes 14 = .ok (.ireturn, 1) := by decide +kernel
theorem dX8_number_0 : decode cX8_number 0 = .ok (.aload_n 0, 1) := by decide +kernel
theorem dX8_number_1 : decode cX8_number 1 = .ok (.invokevirtual 137, 3) := by decide +kernel
theorem dX8_number_4 : decode cX8_number 4 = .ok (.aload_n 0, 1) := by decide +kernel
theorem dX8_number_5 : decode cX8_number 5 = .ok (.aload_n 0, 1) := by decide +kernel
theorem dX8_number_6 : decode cX8_number 6 = .ok (.iload_n 1, 1) := by decide +kernel
theorem dX8_number_7 : decode cX8_number 7 = .ok (.iload_n 2, 1) := by decide +kernel
theorem dX8_number_8 : decode cX8_number 8 = .ok (.invokevirtual 165, 3) := by decide +kernel
theorem dX8_number_11 : decode cX8_number 11 = .ok (.invokevirtual 143, 3) := by decide +kernel
theorem dX8_number_14 : decode cX8_number 14 = .ok (.ireturn, 1) := by decide +kernel
theorem dX8_back_0 : decode cX8_back 0 = .ok (.aload_n 0, 1) := by decide +kernel
theorem dX8_back_1 : decode cX8_back 1 = .ok (.getfield 128, 3) := by decide +kernel
theorem dX8_back_4 : decode cX8_back 4 = .ok (.ifCond .ne 10, 3) := by decide +kernel
theorem dX8_back_7 : decode cX8_back 7 = .ok (.aload_n 0, 1) := by decide +kernel
theorem dX8_back_8 : decode cX8_back 8 = .ok (.bipush (-3), 2) := by decide +kernel
theorem dX8_back_10 : decode cX8_back 10 = .ok (.invokevirtual 131, 3) := by decide +kernel
theorem dX8_back_13 : decode cX8_back 13 = .ok (.ireturn, 1) := by decide +kernel
theorem dX8_back_14 : decode cX8_back 14 = .ok (.aload_n 0, 1) := by decide +kernel
theorem dX8_back_15 : decode cX8_back 15 = .ok (.dup, 1) := by decide +kernel
theorem dX8_back_16 : decode cX8_back 16 = .ok (.getfield 128, 3) := by decide +kernel
theorem dX8_back_19 : decode cX8_back 19 = .ok (.iconst 1, 1) := by decide +kernel
theorem dX8_back_20 : decode cX8_back 20 = .ok (.isub, 1) := by decide +kernel
theorem dX8_back_21 : decode cX8_back 21 = .ok (.putfield 128, 3) := by decide +kernel
theorem dX8_back_24 : decode cX8_back 24 = .ok (.iconst 0, 1) := by decide +kernel
theorem dX8_back_25 : decode cX8_back 25 = .ok (.istore_n 1, 1) := by decide +kernel
theorem dX8_back_26 : decode cX8_back 26 = .ok (.iload_n 1, 1) := by decide +kernel
theorem dX8_back_27 : decode cX8_back 27 = .ok (.bipush 15, 2) := by decide +kernel
theorem dX8_back_29 : decode cX8_back 29 = .ok (.if_icmp .ge 29, 3) := by decide +kernel
theorem dX8_back_32 : decode cX8_back 32 = .ok (.aload_n 0, 1) := by decide +kernel
theorem dX8_back_33 : decode cX8_back 33 = .ok (.getfield 7, 3) := by decide +kernel
theorem dX8_back_36 : decode cX8_back 36 = .ok (.iload_n 1, 1) := by decide +kernel
theorem dX8_back_37 : decode cX8_back 37 = .ok (.aload_n 0, 1) := by decide +kernel
theorem dX8_back_38 : decode cX8_back 38 = .ok (.getfield 16, 3) := by decide +kernel
theorem dX8_back_41 : decode cX8_back 41 = .ok (.bipush 15, 2) := by decide +kernel
theorem dX8_back_43 : decode cX8_back 43 = .ok (.aload_n 0, 1) := by decide +kernel
theorem dX8_back_44 : decode cX8_back 44 = .ok (.getfield 128, 3) := by decide +kernel
theorem dX8_back_47 : decode cX8_back 47 = .ok (.imul, 1) := by decide +kernel
theorem dX8_back_48 : decode cX8_back 48 = .ok (.iload_n 1, 1) := by decide +kernel
theorem dX8_back_49 : decode cX8_back 49 = .ok (.iadd, 1) := by decide +kernel
theorem dX8_back_50 : decode cX8_back 50 = .ok (.iaload, 1) := by decide +kernel
theorem dX8_back_51 : decode cX8_back 51 = .ok (.iastore, 1) := by decide +kernel
theorem dX8_back_52 : decode cX8_back 52 = .ok (.iinc 1 1, 3) := by decide +kernel
theorem dX8_back_55 : decode cX8_back 55 = .ok (.goto (-29), 3) := by decide +kernel
theorem dX8_back_58 : decode cX8_back 58 = .ok (.aload_n 0, 1) := by decide +kernel
theorem dX8_back_59 : decode cX8_back 59 = .ok (.getfield 128, 3) := by decide +kernel
theorem dX8_back_62 : decode cX8_back 62 = .ok (.ireturn, 1) := by decide +kernel
theorem dX8_sizeOf_0 : decode cX8_sizeOf 0 = .ok (.iconst 0, 1) := by decide +kernel
theorem dX8_sizeOf_1 : decode cX8_sizeOf 1 = .ok (.istore_n 3, 1) := by decide +kernel
theorem dX8_sizeOf_2 : decode cX8_sizeOf 2 = .ok (.iconst 0, 1) := by decide +kernel
theorem dX8_sizeOf_3 : decode cX8_sizeOf 3 = .ok (.istore 4, 2) := by decide +kernel
theorem dX8_sizeOf_5 : decode cX8_sizeOf 5 = .ok (.iload 4, 2) := by decide +kernel
theorem dX8_sizeOf_7 : decode cX8_sizeOf 7 = .ok (.aload_n 0, 1) := by decide +kernel
theorem dX8_sizeOf_8 : decode cX8_sizeOf 8 = .ok (.getfield 7, 3) := by decide +kernel
theorem dX8_sizeOf_11 : decode cX8_sizeOf 11 = .ok (.iconst 0, 1) := by decide +kernel
theorem dX8_sizeOf_12 : decode cX8_sizeOf 12 = .ok (.iaload, 1) := by decide +kernel
theorem dX8_sizeOf_13 : decode cX8_sizeOf 13 = .ok (.if_icmp .ge 31, 3) := by decide +kernel
theorem dX8_sizeOf_16 : decode cX8_sizeOf 16 = .ok (.iload_n 3, 1) := by decide +kernel
theorem dX8_sizeOf_17 : decode cX8_sizeOf 17 = .ok (.iload_n 1, 1) := by decide +kernel
theorem dX8_sizeOf_18 : decode cX8_sizeOf 18 = .ok (.iload 4, 2) := by decide +kernel
theorem dX8_sizeOf_20 : decode cX8_sizeOf 20 = .ok (.invokestatic 64, 3) := by decide +kernel
theorem dX8_sizeOf_23 : decode cX8_sizeOf 23 = .ok (.iload_n 1, 1) := by decide +kernel
theorem dX8_sizeOf_24 : decode cX8_sizeOf 24 = .ok (.iload_n 2, 1) := by decide +kernel
theorem dX8_sizeOf_25 : decode cX8_sizeOf 25 = .ok (.invokestatic 64, 3) := by decide +kernel
theorem dX8_sizeOf_28 : decode cX8_sizeOf 28 = .ok (.if_icmp .ne 7, 3) := by decide +kernel
theorem dX8_sizeOf_31 : decode cX8_sizeOf 31 = .ok (.iconst 1, 1) := by decide +kernel
theorem dX8_sizeOf_32 : decode cX8_sizeOf 32 = .ok (.goto 4, 3) := by decide +kernel
theorem dX8_sizeOf_35 : decode cX8_sizeOf 35 = .ok (.iconst 0, 1) := by decide +kernel
theorem dX8_sizeOf_36 : decode cX8_sizeOf 36 = .ok (.iadd, 1) := by decide +kernel
theorem dX8_sizeOf_37 : decode cX8_sizeOf 37 = .ok (.istore_n 3, 1) := by decide +kernel
theorem dX8_sizeOf_38 : decode cX8_sizeOf 38 = .ok (.iinc 4 1, 3) := by decide +kernel
theorem dX8_sizeOf_41 : decode cX8_sizeOf 41 = .ok (.goto (-36), 3) := by decide +kernel
theorem dX8_sizeOf_44 : decode cX8_sizeOf 44 = .ok (.iload_n 3, 1) := by decide +kernel
theorem dX8_sizeOf_45 : decode cX8_sizeOf 45 = .ok (.ireturn, 1) := by decide +kernel
theorem dX8_blocks_0 : decode cX8_blocks 0 = .ok (.iconst 0, 1) := by decide +kernel
theorem dX8_blocks_1 : decode cX8_blocks 1 = .ok (.istore_n 3, 1) := by decide +kernel
theorem dX8_blocks_2 : decode cX8_blocks 2 = .ok (.iconst 0, 1) := by decide +kernel
theorem dX8_blocks_3 : decode cX8_blocks 3 = .ok (.istore 4, 2) := by decide +kernel
theorem dX8_blocks_5 : decode cX8_blocks 5 = .ok (.iconst 0, 1) := by decide +kernel
theorem dX8_blocks_6 : decode cX8_blocks 6 = .ok (.istore 5, 2) := by decide +kernel
theorem dX8_blocks_8 : decode cX8_blocks 8 = .ok (.iload 5, 2) := by decide +kernel
theorem dX8_blocks_10 : decode cX8_blocks 10 = .ok (.aload_n 0, 1) := by decide +kernel
theorem dX8_blocks_11 : decode cX8_blocks 11 = .ok (.getfield 7, 3) := by decide +kernel
theorem dX8_blocks_14 : decode cX8_blocks 14 = .ok (.iconst 0, 1) := by decide +kernel
theorem dX8_blocks_15 : decode cX8_blocks 15 = .ok (.iaload, 1) := by decide +kernel
theorem dX8_blocks_16 : decode cX8_blocks 16 = .ok (.if_icmp .ge 48, 3) := by decide +kernel
theorem dX8_blocks_19 : decode cX8_blocks 19 = .ok (.aload_n 0, 1) := by decide +kernel
theorem dX8_blocks_20 : decode cX8_blocks 20 = .ok (.iload_n 1, 1) := by decide +kernel
theorem dX8_blocks_21 : decode cX8_blocks 21 = .ok (.iload 5, 2) := by decide +kernel
theorem dX8_blocks_23 : decode cX8_blocks 23 = .ok (.invokevirtual 168, 3) := by decide +kernel
theorem dX8_blocks_26 : decode cX8_blocks 26 = .ok (.istore 6, 2) := by decide +kernel
theorem dX8_blocks_28 : decode cX8_blocks 28 = .ok (.iload_n 3, 1) := by decide +kernel
theorem dX8_blocks_29 : decode cX8_blocks 29 = .ok (.iload 6, 2) := by decide +kernel
theorem dX8_blocks_31 : decode cX8_blocks 31 = .ok (.iconst 1, 1) := by decide +kernel
theorem dX8_blocks_32 : decode cX8_blocks 32 = .ok (.if_icmp .ne 7, 3) := by decide +kernel
theorem dX8_blocks_35 : decode cX8_blocks 35 = .ok (.iconst 1, 1) := by decide +kernel
theorem dX8_blocks_36 : decode cX8_blocks 36 = .ok (.goto 4, 3) := by decide +kernel
theorem dX8_blocks_39 : decode cX8_blocks 39 = .ok (.iconst 0, 1) := by decide +kernel
theorem dX8_blocks_40 : decode cX8_blocks 40 = .ok (.iadd, 1) := by decide +kernel
theorem dX8_blocks_41 : decode cX8_blocks 41 = .ok (.istore_n 3, 1) := by decide +kernel
theorem dX8_blocks_42 : decode cX8_blocks 42 = .ok (.iload 6, 2) := by decide +kernel
theorem dX8_blocks_44 : decode cX8_blocks 44 = .ok (.iload 4, 2) := by decide +kernel
theorem dX8_blocks_46 : decode cX8_blocks 46 = .ok (.if_icmp .le 8, 3) := by decide +kernel
theorem dX8_blocks_49 : decode cX8_blocks 49 = .ok (.iload 6, 2) := by decide +kernel
theorem dX8_blocks_51 : decode cX8_blocks 51 = .ok (.goto 5, 3) := by decide +kernel
theorem dX8_blocks_54 : decode cX8_blocks 54 = .ok (.iload 4, 2) := by decide +kernel
theorem dX8_blocks_56 : decode cX8_blocks 56 = .ok (.istore 4, 2) := by decide +kernel
theorem dX8_blocks_58 : decode cX8_blocks 58 = .ok (.iinc 5 1, 3) := by decide +kernel
theorem dX8_blocks_61 : decode cX8_blocks 61 = .ok (.goto (-53), 3) := by decide +kernel
theorem dX8_blocks_64 : decode cX8_blocks 64 = .ok (.iload_n 2, 1) := by decide +kernel
theorem dX8_blocks_65 : decode cX8_blocks 65 = .ok (.ifCond .eq 8, 3) := by decide +kernel
theorem dX8_blocks_68 : decode cX8_blocks 68 = .ok (.iload 4, 2) := by decide +kernel
theorem dX8_blocks_70 : decode cX8_blocks 70 = .ok (.goto 4, 3) := by decide +kernel
theorem dX8_blocks_73 : decode cX8_blocks 73 = .ok (.iload_n 3, 1) := by decide +kernel
theorem dX8_blocks_74 : decode cX8_blocks 74 = .ok (.ireturn, 1) := by decide +kernel
theorem dX8_covering_0 : decode cX8_covering 0 = .ok (.aload_n 0, 1) := by decide +kernel
theorem dX8_covering_1 : decode cX8_covering 1 = .ok (.invokevirtual 97, 3) := by decide +kernel
theorem dX8_covering_4 : decode cX8_covering 4 = .ok (.aload_n 0, 1) := by decide +kernel
theorem dX8_covering_5 : decode cX8_covering 5 = .ok (.iload_n 1, 1) := by decide +kernel
theorem dX8_covering_6 : decode cX8_covering 6 = .ok (.invokevirtual 93, 3) := by decide +kernel
theorem dX8_covering_9 : decode cX8_covering 9 = .ok (.istore_n 3, 1) := by decide +kernel
theorem dX8_covering_10 : decode cX8_covering 10 = .ok (.iconst 0, 1) := by decide +kernel
theorem dX8_covering_11 : decode cX8_covering 11 = .ok (.istore 4, 2) := by decide +kernel
theorem dX8_covering_13 : decode cX8_covering 13 = .ok (.iconst 0, 1) := by decide +kernel
theorem dX8_covering_14 : decode cX8_covering 14 = .ok (.istore 5, 2) := by decide +kernel
theorem dX8_covering_16 : decode cX8_covering 16 = .ok (.iload 5, 2) := by decide +kernel
theorem dX8_covering_18 : decode cX8_covering 18 = .ok (.aload_n 0, 1) := by decide +kernel
theorem dX8_covering_19 : decode cX8_covering 19 = .ok (.getfield 87, 3) := by decide +kernel
theorem dX8_covering_22 : decode cX8_covering 22 = .ok (.if_icmp .ge 99, 3) := by decide +kernel
theorem dX8_covering_25 : decode cX8_covering 25 = .ok (.iload_n 2, 1) := by decide +kernel
theorem dX8_covering_26 : decode cX8_covering 26 = .ok (.ifCond .eq 39, 3) := by decide +kernel
theorem dX8_covering_29 : decode cX8_covering 29 = .ok (.aload_n 0, 1) := by decide +kernel
theorem dX8_covering_30 : decode cX8_covering 30 = .ok (.getfield 31, 3) := by decide +kernel
theorem dX8_covering_33 : decode cX8_covering 33 = .ok (.iload 5, 2) := by decide +kernel
theorem dX8_covering_35 : decode cX8_covering 35 = .ok (.iaload, 1) := by decide +kernel
theorem dX8_covering_36 : decode cX8_covering 36 = .ok (.iload_n 3, 1) := by decide +kernel
theorem dX8_covering_37 : decode cX8_covering 37 = .ok (.iconst 1, 1) := by decide +kernel
theorem dX8_covering_38 : decode cX8_covering 38 = .ok (.iadd, 1) := by decide +kernel
theorem dX8_covering_39 : decode cX8_covering 39 = .ok (.if_icmp .ne 22, 3) := by decide +kernel
theorem dX8_covering_42 : decode cX8_covering 42 = .ok (.aload_n 0, 1) := by decide +kernel
theorem dX8_covering_43 : decode cX8_covering 43 = .ok (.iload_n 1, 1) := by decide +kernel
theorem dX8_covering_44 : decode cX8_covering 44 = .ok (.aload_n 0, 1) := by decide +kernel
theorem dX8_covering_45 : decode cX8_covering 45 = .ok (.getfield 28, 3) := by decide +kernel
theorem dX8_covering_48 : decode cX8_covering 48 = .ok (.iload 5, 2) := by decide +kernel
theorem dX8_covering_50 : decode cX8_covering 50 = .ok (.iaload, 1) := by decide +kernel
theorem dX8_covering_51 : decode cX8_covering 51 = .ok (.invokevirtual 171, 3) := by decide +kernel
theorem dX8_covering_54 : decode cX8_covering 54 = .ok (.ifCond .eq 7, 3) := by decide +kernel
theorem dX8_covering_57 : decode cX8_covering 57 = .ok (.iconst 1, 1) := by decide +kernel
theorem dX8_covering_58 : decode cX8_covering 58 = .ok (.goto 40, 3) := by decide +kernel
theorem dX8_covering_61 : decode cX8_covering 61 = .ok (.iconst 0, 1) := by decide +kernel
theorem dX8_covering_62 : decode cX8_covering 62 = .ok (.goto 36, 3) := by decide +kernel
theorem dX8_covering_65 : decode cX8_covering 65 = .ok (.aload_n 0, 1) := by decide +kernel
theorem dX8_covering_66 : decode cX8_covering 66 = .ok (.getfield 31, 3) := by decide +kernel
theorem dX8_covering_69 : decode cX8_covering 69 = .ok (.iload 5, 2) := by decide +kernel
theorem dX8_covering_71 : decode cX8_covering 71 = .ok (.iaload, 1) := by decide +kernel
theorem dX8_covering_72 : decode cX8_covering 72 = .ok (.iload_n 3, 1) := by decide +kernel
theorem dX8_covering_73 : decode cX8_covering 73 = .ok (.iconst 1, 1) := by decide +kernel
theorem dX8_covering_74 : decode cX8_covering 74 = .ok (.isub, 1) := by decide +kernel
theorem dX8_covering_75 : decode cX8_covering 75 = .ok (.if_icmp .ne 22, 3) := by decide +kernel
theorem dX8_covering_78 : decode cX8_covering 78 = .ok (.aload_n 0, 1) := by decide +kernel
theorem dX8_covering_79 : decode cX8_covering 79 = .ok (.aload_n 0, 1) := by decide +kernel
theorem dX8_covering_80 : decode cX8_covering 80 = .ok (.getfield 28, 3) := by decide +kernel
theorem dX8_covering_83 : decode cX8_covering 83 = .ok (.iload 5, 2) := by decide +kernel
theorem dX8_covering_85 : decode cX8_covering 85 = .ok (.iaload, 1) := by decide +kernel
theorem dX8_covering_86 : decode cX8_covering 86 = .ok (.iload_n 1, 1) := by decide +kernel
theorem dX8_covering_87 : decode cX8_covering 87 = .ok (.invokevirtual 171, 3) := by decide +kernel
theorem dX8_covering_90 : decode cX8_covering 90 = .ok (.ifCond .eq 7, 3) := by decide +kernel
theorem dX8_covering_93 : decode cX8_covering 93 = .ok (.iconst 1, 1) := by decide +kernel
theorem dX8_covering_94 : decode cX8_covering 94 = .ok (.goto 4, 3) := by decide +kernel
theorem dX8_covering_97 : decode cX8_covering 97 = .ok (.iconst 0, 1) := by decide +kernel
theorem dX8_covering_98 : decode cX8_covering 98 = .ok (.istore 6, 2) := by decide +kernel
theorem dX8_covering_100 : decode cX8_covering 100 = .ok (.iload 4, 2) := by decide +kernel
theorem dX8_covering_102 : decode cX8_covering 102 = .ok (.iload 6, 2) := by decide +kernel
theorem dX8_covering_104 : decode cX8_covering 104 = .ok (.ifCond .eq 7, 3) := by decide +kernel
theorem dX8_covering_107 : decode cX8_covering 107 = .ok (.iconst 1, 1) := by decide +kernel
theorem dX8_covering_108 : decode cX8_covering 108 = .ok (.goto 4, 3) := by decide +kernel
theorem dX8_covering_111 : decode cX8_covering 111 = .ok (.iconst 0, 1) := by decide +kernel
theorem dX8_covering_112 : decode cX8_covering 112 = .ok (.iadd, 1) := by decide +kernel
theorem dX8_covering_113 : decode cX8_covering 113 = .ok (.istore 4, 2) := by decide +kernel
theorem dX8_covering_115 : decode cX8_covering 115 = .ok (.iinc 5 1, 3) := by decide +kernel
theorem dX8_covering_118 : decode cX8_covering 118 = .ok (.goto (-102), 3) := by decide +kernel
theorem dX8_covering_121 : decode cX8_covering 121 = .ok (.iload 4, 2) := by decide +kernel
theorem dX8_covering_123 : decode cX8_covering 123 = .ok (.ireturn, 1) := by decide +kernel
theorem dX8_ofPart_0 : decode cX8_ofPart 0 = .ok (.iload_n 2, 1) := by decide +kernel
theorem dX8_ofPart_1 : decode cX8_ofPart 1 = .ok (.tableswitch 57 0 3 #[31, 37, 43, 50], 31) := by decide +kernel
theorem dX8_ofPart_32 : decode cX8_ofPart 32 = .ok (.aload_n 0, 1) := by decide +kernel
theorem dX8_ofPart_33 : decode cX8_ofPart 33 = .ok (.iload_n 1, 1) := by decide +kernel
theorem dX8_ofPart_34 : decode cX8_ofPart 34 = .ok (.invokevirtual 125, 3) := by decide +kernel
theorem dX8_ofPart_37 : decode cX8_ofPart 37 = .ok (.ireturn, 1) := by decide +kernel
theorem dX8_ofPart_38 : decode cX8_ofPart 38 = .ok (.aload_n 0, 1) := by decide +kernel
theorem dX8_ofPart_39 : decode cX8_ofPart 39 = .ok (.iload_n 1, 1) := by decide +kernel
theorem dX8_ofPart_40 : decode cX8_ofPart 40 = .ok (.invokevirtual 93, 3) := by decide +kernel
theorem dX8_ofPart_43 : decode cX8_ofPart 43 = .ok (.ireturn, 1) := by decide +kernel
theorem dX8_ofPart_44 : decode cX8_ofPart 44 = .ok (.aload_n 0, 1) := by decide +kernel
theorem dX8_ofPart_45 : decode cX8_ofPart 45 = .ok (.iload_n 1, 1) := by decide +kernel
theorem dX8_ofPart_46 : decode cX8_ofPart 46 = .ok (.iconst 0, 1) := by decide +kernel
theorem dX8_ofPart_47 : decode cX8_ofPart 47 = .ok (.invokevirtual 175, 3) := by decide +kernel
theorem dX8_ofPart_50 : decode cX8_ofPart 50 = .ok (.ireturn, 1) := by decide +kernel
theorem dX8_ofPart_51 : decode cX8_ofPart 51 = .ok (.aload_n 0, 1) := by decide +kernel
theorem dX8_ofPart_52 : decode cX8_ofPart 52 = .ok (.iload_n 1, 1) := by decide +kernel
theorem dX8_ofPart_53 : decode cX8_ofPart 53 = .ok (.iconst 1, 1) := by decide +kernel
theorem dX8_ofPart_54 : decode cX8_ofPart 54 = .ok (.invokevirtual 175, 3) := by decide +kernel
theorem dX8_ofPart_57 : decode cX8_ofPart 57 = .ok (.ireturn, 1) := by decide +kernel
theorem dX8_ofPart_58 : decode cX8_ofPart 58 = .ok (.aload_n 0, 1) := by decide +kernel
theorem dX8_ofPart_59 : decode cX8_ofPart 59 = .ok (.iload_n 1, 1) := by decide +kernel
theorem dX8_ofPart_60 : decode cX8_ofPart 60 = .ok (.iload_n 2, 1) := by decide +kernel
theorem dX8_ofPart_61 : decode cX8_ofPart 61 = .ok (.iconst 4, 1) := by decide +kernel
theorem dX8_ofPart_62 : decode cX8_ofPart 62 = .ok (.if_icmp .ne 7, 3) := by decide +kernel
theorem dX8_ofPart_65 : decode cX8_ofPart 65 = .ok (.iconst 1, 1) := by decide +kernel
theorem dX8_ofPart_66 : decode cX8_ofPart 66 = .ok (.goto 4, 3) := by decide +kernel
theorem dX8_ofPart_69 : decode cX8_ofPart 69 = .ok (.iconst 0, 1) := by decide +kernel
theorem dX8_ofPart_70 : decode cX8_ofPart 70 = .ok (.invokevirtual 179, 3) := by decide +kernel
theorem dX8_ofPart_73 : decode cX8_ofPart 73 = .ok (.ireturn, 1) := by decide +kernel
theorem dX8_of_0 : decode cX8_of 0 = .ok (.iload_n 1, 1) := by decide +kernel
theorem dX8_of_1 : decode cX8_of 1 = .ok (.invokestatic 104, 3) := by decide +kernel
theorem dX8_of_4 : decode cX8_of 4 = .ok (.ifCond .eq 28, 3) := by decide +kernel
theorem dX8_of_7 : decode cX8_of 7 = .ok (.iload_n 2, 1) := by decide +kernel
theorem dX8_of_8 : decode cX8_of 8 = .ok (.iconst 0, 1) := by decide +kernel
theorem dX8_of_9 : decode cX8_of 9 = .ok (.iconst 5, 1) := by decide +kernel
theorem dX8_of_10 : decode cX8_of 10 = .ok (.invokestatic 100, 3) := by decide +kernel
theorem dX8_of_13 : decode cX8_of 13 = .ok (.ifCond .eq 19, 3) := by decide +kernel
theorem dX8_of_16 : decode cX8_of 16 = .ok (.aload_n 0, 1) := by decide +kernel
theorem dX8_of_17 : decode cX8_of 17 = .ok (.aload_n 0, 1) := by decide +kernel
theorem dX8_of_18 : decode cX8_of 18 = .ok (.getfield 7, 3) := by decide +kernel
theorem dX8_of_21 : decode cX8_of 21 = .ok (.iconst 1, 1) := by decide +kernel
theorem dX8_of_22 : decode cX8_of 22 = .ok (.iload_n 1, 1) := by decide +kernel
theorem dX8_of_23 : decode cX8_of 23 = .ok (.iadd, 1) := by decide +kernel
theorem dX8_of_24 : decode cX8_of 24 = .ok (.iaload, 1) := by decide +kernel
theorem dX8_of_25 : decode cX8_of 25 = .ok (.iload_n 2, 1) := by decide +kernel
theorem dX8_of_26 : decode cX8_of 26 = .ok (.invokevirtual 182, 3) := by decide +kernel
theorem dX8_of_29 : decode cX8_of 29 = .ok (.goto 9, 3) := by decide +kernel
theorem dX8_of_32 : decode cX8_of 32 = .ok (.aload_n 0, 1) := by decide +kernel
theorem dX8_of_33 : decode cX8_of 33 = .ok (.bipush (-2), 2) := by decide +kernel
theorem dX8_of_35 : decode cX8_of 35 = .ok (.invokevirtual 131, 3) := by decide +kernel
theorem dX8_of_38 : decode cX8_of 38 = .ok (.ireturn, 1) := by decide +kernel
theorem dX8_row_0 : decode cX8_row 0 = .ok (.iload_n 1, 1) := by decide +kernel
theorem dX8_row_1 : decode cX8_row 1 = .ok (.invokestatic 104, 3) := by decide +kernel
theorem dX8_row_4 : decode cX8_row 4 = .ok (.ifCond .eq 26, 3) := by decide +kernel
theorem dX8_row_7 : decode cX8_row 7 = .ok (.aload_n 0, 1) := by decide +kernel
theorem dX8_row_8 : decode cX8_row 8 = .ok (.iload_n 2, 1) := by decide +kernel
theorem dX8_row_9 : decode cX8_row 9 = .ok (.invokevirtual 107, 3) := by decide +kernel
theorem dX8_row_12 : decode cX8_row 12 = .ok (.ifCond .eq 18, 3) := by decide +kernel
theorem dX8_row_15 : decode cX8_row 15 = .ok (.aload_n 0, 1) := by decide +kernel
theorem dX8_row_16 : decode cX8_row 16 = .ok (.getfield 7, 3) := by decide +kernel
theorem dX8_row_19 : decode cX8_row 19 = .ok (.iconst 1, 1) := by decide +kernel
theorem dX8_row_20 : decode cX8_row 20 = .ok (.iload_n 1, 1) := by decide +kernel
theorem dX8_row_21 : decode cX8_row 21 = .ok (.iadd, 1) := by decide +kernel
theorem dX8_row_22 : decode cX8_row 22 = .ok (.iaload, 1) := by decide +kernel
theorem dX8_row_23 : decode cX8_row 23 = .ok (.iload_n 2, 1) := by decide +kernel
theorem dX8_row_24 : decode cX8_row 24 = .ok (.invokestatic 64, 3) := by decide +kernel
theorem dX8_row_27 : decode cX8_row 27 = .ok (.goto 9, 3) := by decide +kernel
theorem dX8_row_30 : decode cX8_row 30 = .ok (.aload_n 0, 1) := by decide +kernel
theorem dX8_row_31 : decode cX8_row 31 = .ok (.bipush (-2), 2) := by decide +kernel
theorem dX8_row_33 : decode cX8_row 33 = .ok (.invokevirtual 131, 3) := by decide +kernel
theorem dX8_row_36 : decode cX8_row 36 = .ok (.ireturn, 1) := by decide +kernel
theorem dX8_below_0 : decode cX8_below 0 = .ok (.iload_n 1, 1) := by decide +kernel
theorem dX8_below_1 : decode cX8_below 1 = .ok (.invokestatic 104, 3) := by decide +kernel
theorem dX8_below_4 : decode cX8_below 4 = .ok (.ifCond .eq 10, 3) := by decide +kernel
theorem dX8_below_7 : decode cX8_below 7 = .ok (.iload_n 2, 1) := by decide +kernel
theorem dX8_below_8 : decode cX8_below 8 = .ok (.invokestatic 104, 3) := by decide +kernel
theorem dX8_below_11 : decode cX8_below 11 = .ok (.ifCond .ne 10, 3) := by decide +kernel
theorem dX8_below_14 : decode cX8_below 14 = .ok (.aload_n 0, 1) := by decide +kernel
theorem dX8_below_15 : decode cX8_below 15 = .ok (.bipush (-2), 2) := by decide +kernel
theorem dX8_below_17 : decode cX8_below 17 = .ok (.invokevirtual 131, 3) := by decide +kernel
theorem dX8_below_20 : decode cX8_below 20 = .ok (.ireturn, 1) := by decide +kernel
theorem dX8_below_21 : decode cX8_below 21 = .ok (.aload_n 0, 1) := by decide +kernel
theorem dX8_below_22 : decode cX8_below 22 = .ok (.aload_n 0, 1) := by decide +kernel
theorem dX8_below_23 : decode cX8_below 23 = .ok (.getfield 7, 3) := by decide +kernel
theorem dX8_below_26 : decode cX8_below 26 = .ok (.iconst 1, 1) := by decide +kernel
theorem dX8_below_27 : decode cX8_below 27 = .ok (.iload_n 1, 1) := by decide +kernel
theorem dX8_below_28 : decode cX8_below 28 = .ok (.iadd, 1) := by decide +kernel
theorem dX8_below_29 : decode cX8_below 29 = .ok (.iaload, 1) := by decide +kernel
theorem dX8_below_30 : decode cX8_below 30 = .ok (.aload_n 0, 1) := by decide +kernel
theorem dX8_below_31 : decode cX8_below 31 = .ok (.getfield 7, 3) := by decide +kernel
theorem dX8_below_34 : decode cX8_below 34 = .ok (.iconst 1, 1) := by decide +kernel
theorem dX8_below_35 : decode cX8_below 35 = .ok (.iload_n 2, 1) := by decide +kernel
theorem dX8_below_36 : decode cX8_below 36 = .ok (.iadd, 1) := by decide +kernel
theorem dX8_below_37 : decode cX8_below 37 = .ok (.iaload, 1) := by decide +kernel
theorem dX8_below_38 : decode cX8_below 38 = .ok (.invokevirtual 171, 3) := by decide +kernel
theorem dX8_below_41 : decode cX8_below 41 = .ok (.ifCond .eq 7, 3) := by decide +kernel
theorem dX8_below_44 : decode cX8_below 44 = .ok (.iconst 1, 1) := by decide +kernel
theorem dX8_below_45 : decode cX8_below 45 = .ok (.goto 4, 3) := by decide +kernel
theorem dX8_below_48 : decode cX8_below 48 = .ok (.iconst 0, 1) := by decide +kernel
theorem dX8_below_49 : decode cX8_below 49 = .ok (.ireturn, 1) := by decide +kernel
theorem dX8_counted_0 : decode cX8_counted 0 = .ok (.aload_n 0, 1) := by decide +kernel
theorem dX8_counted_1 : decode cX8_counted 1 = .ok (.invokevirtual 97, 3) := by decide +kernel
theorem dX8_counted_4 : decode cX8_counted 4 = .ok (.iload_n 1, 1) := by decide +kernel
theorem dX8_counted_5 : decode cX8_counted 5 = .ok (.iconst 2, 1) := by decide +kernel
theorem dX8_counted_6 : decode cX8_counted 6 = .ok (.if_icmp .ge 21, 3) := by decide +kernel
theorem dX8_counted_9 : decode cX8_counted 9 = .ok (.iload_n 1, 1) := by decide +kernel
theorem dX8_counted_10 : decode cX8_counted 10 = .ok (.ifCond .ne 12, 3) := by decide +kernel
theorem dX8_counted_13 : decode cX8_counted 13 = .ok (.aload_n 0, 1) := by decide +kernel
theorem dX8_counted_14 : decode cX8_counted 14 = .ok (.getfield 7, 3) := by decide +kernel
theorem dX8_counted_17 : decode cX8_counted 17 = .ok (.iconst 0, 1) := by decide +kernel
theorem dX8_counted_18 : decode cX8_counted 18 = .ok (.iaload, 1) := by decide +kernel
theorem dX8_counted_19 : decode cX8_counted 19 = .ok (.goto 7, 3) := by decide +kernel
theorem dX8_counted_22 : decode cX8_counted 22 = .ok (.aload_n 0, 1) := by decide +kernel
theorem dX8_counted_23 : decode cX8_counted 23 = .ok (.getfield 87, 3) := by decide +kernel
theorem dX8_counted_26 : decode cX8_counted 26 = .ok (.ireturn, 1) := by decide +kernel
theorem dX8_counted_27 : decode cX8_counted 27 = .ok (.iconst 0, 1) := by decide +kernel
theorem dX8_counted_28 : decode cX8_counted 28 = .ok (.istore_n 2, 1) := by decide +kernel
theorem dX8_counted_29 : decode cX8_counted 29 = .ok (.iconst 0, 1) := by decide +kernel
theorem dX8_counted_30 : decode cX8_counted 30 = .ok (.istore_n 3, 1) := by decide +kernel
theorem dX8_counted_31 : decode cX8_counted 31 = .ok (.iload_n 3, 1) := by decide +kernel
theorem dX8_counted_32 : decode cX8_counted 32 = .ok (.aload_n 0, 1) := by decide +kernel
theorem dX8_counted_33 : decode cX8_counted 33 = .ok (.getfield 87, 3) := by decide +kernel
theorem dX8_counted_36 : decode cX8_counted 36 = .ok (.if_icmp .ge 29, 3) := by decide +kernel
theorem dX8_counted_39 : decode cX8_counted 39 = .ok (.iload_n 2, 1) := by decide +kernel
theorem dX8_counted_40 : decode cX8_counted 40 = .ok (.aload_n 0, 1) := by decide +kernel
theorem dX8_counted_41 : decode cX8_counted 41 = .ok (.getfield 31, 3) := by decide +kernel
theorem dX8_counted_44 : decode cX8_counted 44 = .ok (.iload_n 3, 1) := by decide +kernel
theorem dX8_counted_45 : decode cX8_counted 45 = .ok (.iaload, 1) := by decide +kernel
theorem dX8_counted_46 : decode cX8_counted 46 = .ok (.iload_n 1, 1) := by decide +kernel
theorem dX8_counted_47 : decode cX8_counted 47 = .ok (.iconst 2, 1) := by decide +kernel
theorem dX8_counted_48 : decode cX8_counted 48 = .ok (.isub, 1) := by decide +kernel
theorem dX8_counted_49 : decode cX8_counted 49 = .ok (.if_icmp .ne 7, 3) := by decide +kernel
theorem dX8_counted_52 : decode cX8_counted 52 = .ok (.iconst 1, 1) := by decide +kernel
theorem dX8_counted_53 : decode cX8_counted 53 = .ok (.goto 4, 3) := by decide +kernel
theorem dX8_counted_56 : decode cX8_counted 56 = .ok (.iconst 0, 1) := by decide +kernel
theorem dX8_counted_57 : decode cX8_counted 57 = .ok (.iadd, 1) := by decide +kernel
theorem dX8_counted_58 : decode cX8_counted 58 = .ok (.istore_n 2, 1) := by decide +kernel
theorem dX8_counted_59 : decode cX8_counted 59 = .ok (.iinc 3 1, 3) := by decide +kernel
theorem dX8_counted_62 : decode cX8_counted 62 = .ok (.goto (-31), 3) := by decide +kernel
theorem dX8_counted_65 : decode cX8_counted 65 = .ok (.iload_n 2, 1) := by decide +kernel
theorem dX8_counted_66 : decode cX8_counted 66 = .ok (.ireturn, 1) := by decide +kernel
theorem dX8_count_0 : decode cX8_count 0 = .ok (.iload_n 1, 1) := by decide +kernel
theorem dX8_count_1 : decode cX8_count 1 = .ok (.iconst 0, 1) := by decide +kernel
theorem dX8_count_2 : decode cX8_count 2 = .ok (.bipush 9, 2) := by decide +kernel
theorem dX8_count_4 : decode cX8_count 4 = .ok (.invokestatic 100, 3) := by decide +kernel
theorem dX8_count_7 : decode cX8_count 7 = .ok (.ifCond .eq 11, 3) := by decide +kernel
theorem dX8_count_10 : decode cX8_count 10 = .ok (.aload_n 0, 1) := by decide +kernel
theorem dX8_count_11 : decode cX8_count 11 = .ok (.iload_n 1, 1) := by decide +kernel
theorem dX8_count_12 : decode cX8_count 12 = .ok (.invokevirtual 185, 3) := by decide +kernel
theorem dX8_count_15 : decode cX8_count 15 = .ok (.goto 9, 3) := by decide +kernel
theorem dX8_count_18 : decode cX8_count 18 = .ok (.aload_n 0, 1) := by decide +kernel
theorem dX8_count_19 : decode cX8_count 19 = .ok (.bipush (-2), 2) := by decide +kernel
theorem dX8_count_21 : decode cX8_count 21 = .ok (.invokevirtual 131, 3) := by decide +kernel
theorem dX8_count_24 : decode cX8_count 24 = .ok (.ireturn, 1) := by decide +kernel
theorem dX8_evens_0 : decode cX8_evens 0 = .ok (.aload_n 0, 1) := by decide +kernel
theorem dX8_evens_1 : decode cX8_evens 1 = .ok (.getfield 7, 3) := by decide +kernel
theorem dX8_evens_4 : decode cX8_evens 4 = .ok (.iconst 0, 1) := by decide +kernel
theorem dX8_evens_5 : decode cX8_evens 5 = .ok (.iaload, 1) := by decide +kernel
theorem dX8_evens_6 : decode cX8_evens 6 = .ok (.iconst 2, 1) := by decide +kernel
theorem dX8_evens_7 : decode cX8_evens 7 = .ok (.irem, 1) := by decide +kernel
theorem dX8_evens_8 : decode cX8_evens 8 = .ok (.iconst 1, 1) := by decide +kernel
theorem dX8_evens_9 : decode cX8_evens 9 = .ok (.if_icmp .ne 10, 3) := by decide +kernel
theorem dX8_evens_12 : decode cX8_evens 12 = .ok (.aload_n 0, 1) := by decide +kernel
theorem dX8_evens_13 : decode cX8_evens 13 = .ok (.bipush (-3), 2) := by decide +kernel
theorem dX8_evens_15 : decode cX8_evens 15 = .ok (.invokevirtual 131, 3) := by decide +kernel
theorem dX8_evens_18 : decode cX8_evens 18 = .ok (.ireturn, 1) := by decide +kernel
theorem dX8_evens_19 : decode cX8_evens 19 = .ok (.aload_n 0, 1) := by decide +kernel
theorem dX8_evens_20 : decode cX8_evens 20 = .ok (.invokevirtual 97, 3) := by decide +kernel
theorem dX8_evens_23 : decode cX8_evens 23 = .ok (.iconst 0, 1) := by decide +kernel
theorem dX8_evens_24 : decode cX8_evens 24 = .ok (.istore_n 1, 1) := by decide +kernel
theorem dX8_evens_25 : decode cX8_evens 25 = .ok (.iconst 0, 1) := by decide +kernel
theorem dX8_evens_26 : decode cX8_evens 26 = .ok (.istore_n 2, 1) := by decide +kernel
theorem dX8_evens_27 : decode cX8_evens 27 = .ok (.iload_n 2, 1) := by decide +kernel
theorem dX8_evens_28 : decode cX8_evens 28 = .ok (.aload_n 0, 1) := by decide +kernel
theorem dX8_evens_29 : decode cX8_evens 29 = .ok (.getfield 87, 3) := by decide +kernel
theorem dX8_evens_32 : decode cX8_evens 32 = .ok (.if_icmp .ge 62, 3) := by decide +kernel
theorem dX8_evens_35 : decode cX8_evens 35 = .ok (.aload_n 0, 1) := by decide +kernel
theorem dX8_evens_36 : decode cX8_evens 36 = .ok (.getfield 28, 3) := by decide +kernel
theorem dX8_evens_39 : decode cX8_evens 39 = .ok (.iload_n 2, 1) := by decide +kernel
theorem dX8_evens_40 : decode cX8_evens 40 = .ok (.iaload, 1) := by decide +kernel
theorem dX8_evens_41 : decode cX8_evens 41 = .ok (.istore_n 3, 1) := by decide +kernel
theorem dX8_evens_42 : decode cX8_evens 42 = .ok (.iconst 0, 1) := by decide +kernel
theorem dX8_evens_43 : decode cX8_evens 43 = .ok (.istore 4, 2) := by decide +kernel
theorem dX8_evens_45 : decode cX8_evens 45 = .ok (.iload 4, 2) := by decide +kernel
theorem dX8_evens_47 : decode cX8_evens 47 = .ok (.aload_n 0, 1) := by decide +kernel
theorem dX8_evens_48 : decode cX8_evens 48 = .ok (.getfield 7, 3) := by decide +kernel
theorem dX8_evens_51 : decode cX8_evens 51 = .ok (.iconst 0, 1) := by decide +kernel
theorem dX8_evens_52 : decode cX8_evens 52 = .ok (.iaload, 1) := by decide +kernel
theorem dX8_evens_53 : decode cX8_evens 53 = .ok (.iconst 2, 1) := by decide +kernel
theorem dX8_evens_54 : decode cX8_evens 54 = .ok (.idiv, 1) := by decide +kernel
theorem dX8_evens_55 : decode cX8_evens 55 = .ok (.if_icmp .ge 15, 3) := by decide +kernel
theorem dX8_evens_58 : decode cX8_evens 58 = .ok (.aload_n 0, 1) := by decide +kernel
theorem dX8_evens_59 : decode cX8_evens 59 = .ok (.iload_n 3, 1) := by decide +kernel
theorem dX8_evens_60 : decode cX8_evens 60 = .ok (.invokevirtual 122, 3) := by decide +kernel
theorem dX8_evens_63 : decode cX8_evens 63 = .ok (.istore_n 3, 1) := by decide +kernel
theorem dX8_evens_64 : decode cX8_evens 64 = .ok (.iinc 4 1, 3) := by decide +kernel
theorem dX8_evens_67 : decode cX8_evens 67 = .ok (.goto (-22), 3) := by decide +kernel
theorem dX8_evens_70 : decode cX8_evens 70 = .ok (.iload_n 1, 1) := by decide +kernel
theorem dX8_evens_71 : decode cX8_evens 71 = .ok (.iload_n 3, 1) := by decide +kernel
theorem dX8_evens_72 : decode cX8_evens 72 = .ok (.aload_n 0, 1) := by decide +kernel
theorem dX8_evens_73 : decode cX8_evens 73 = .ok (.getfield 28, 3) := by decide +kernel
theorem dX8_evens_76 : decode cX8_evens 76 = .ok (.iload_n 2, 1) := by decide +kernel
theorem dX8_evens_77 : decode cX8_evens 77 = .ok (.iaload, 1) := by decide +kernel
theorem dX8_evens_78 : decode cX8_evens 78 = .ok (.if_icmp .ne 7, 3) := by decide +kernel
theorem dX8_evens_81 : decode cX8_evens 81 = .ok (.iconst 1, 1) := by decide +kernel
theorem dX8_evens_82 : decode cX8_evens 82 = .ok (.goto 4, 3) := by decide +kernel
theorem dX8_evens_85 : decode cX8_evens 85 = .ok (.iconst 0, 1) := by decide +kernel
theorem dX8_evens_86 : decode cX8_evens 86 = .ok (.iadd, 1) := by decide +kernel
theorem dX8_evens_87 : decode cX8_evens 87 = .ok (.istore_n 1, 1) := by decide +kernel
theorem dX8_evens_88 : decode cX8_evens 88 = .ok (.iinc 2 1, 3) := by decide +kernel
theorem dX8_evens_91 : decode cX8_evens 91 = .ok (.goto (-64), 3) := by decide +kernel
theorem dX8_evens_94 : decode cX8_evens 94 = .ok (.iload_n 1, 1) := by decide +kernel
theorem dX8_evens_95 : decode cX8_evens 95 = .ok (.ireturn, 1) := by decide +kernel
theorem dX8_covers_0 : decode cX8_covers 0 = .ok (.iload_n 1, 1) := by decide +kernel
theorem dX8_covers_1 : decode cX8_covers 1 = .ok (.invokestatic 104, 3) := by decide +kernel
theorem dX8_covers_4 : decode cX8_covers 4 = .ok (.ifCond .eq 7, 3) := by decide +kernel
theorem dX8_covers_7 : decode cX8_covers 7 = .ok (.iload_n 2, 1) := by decide +kernel
theorem dX8_covers_8 : decode cX8_covers 8 = .ok (.ifCond .ge 10, 3) := by decide +kernel
theorem dX8_covers_11 : decode cX8_covers 11 = .ok (.aload_n 0, 1) := by decide +kernel
theorem dX8_covers_12 : decode cX8_covers 12 = .ok (.bipush (-2), 2) := by decide +kernel
theorem dX8_covers_14 : decode cX8_covers 14 = .ok (.invokevirtual 131, 3) := by decide +kernel
theorem dX8_covers_17 : decode cX8_covers 17 = .ok (.ireturn, 1) := by decide +kernel
theorem dX8_covers_18 : decode cX8_covers 18 = .ok (.aload_n 0, 1) := by decide +kernel
theorem dX8_covers_19 : decode cX8_covers 19 = .ok (.invokevirtual 97, 3) := by decide +kernel
theorem dX8_covers_22 : decode cX8_covers 22 = .ok (.aload_n 0, 1) := by decide +kernel
theorem dX8_covers_23 : decode cX8_covers 23 = .ok (.getfield 7, 3) := by decide +kernel
theorem dX8_covers_26 : decode cX8_covers 26 = .ok (.iconst 1, 1) := by decide +kernel
theorem dX8_covers_27 : decode cX8_covers 27 = .ok (.iload_n 1, 1) := by decide +kernel
theorem dX8_covers_28 : decode cX8_covers 28 = .ok (.iadd, 1) := by decide +kernel
theorem dX8_covers_29 : decode cX8_covers 29 = .ok (.iaload, 1) := by decide +kernel
theorem dX8_covers_30 : decode cX8_covers 30 = .ok (.istore_n 3, 1) := by decide +kernel
theorem dX8_covers_31 : decode cX8_covers 31 = .ok (.iload_n 2, 1) := by decide +kernel
theorem dX8_covers_32 : decode cX8_covers 32 = .ok (.istore 4, 2) := by decide +kernel
theorem dX8_covers_34 : decode cX8_covers 34 = .ok (.iconst 0, 1) := by decide +kernel
theorem dX8_covers_35 : decode cX8_covers 35 = .ok (.istore 5, 2) := by decide +kernel
theorem dX8_covers_37 : decode cX8_covers 37 = .ok (.iload 5, 2) := by decide +kernel
theorem dX8_covers_39 : decode cX8_covers 39 = .ok (.aload_n 0, 1) := by decide +kernel
theorem dX8_covers_40 : decode cX8_covers 40 = .ok (.getfield 87, 3) := by decide +kernel
theorem dX8_covers_43 : decode cX8_covers 43 = .ok (.if_icmp .ge 52, 3) := by decide +kernel
theorem dX8_covers_46 : decode cX8_covers 46 = .ok (.aload_n 0, 1) := by decide +kernel
theorem dX8_covers_47 : decode cX8_covers 47 = .ok (.getfield 31, 3) := by decide +kernel
theorem dX8_covers_50 : decode cX8_covers 50 = .ok (.iload 5, 2) := by decide +kernel
theorem dX8_covers_52 : decode cX8_covers 52 = .ok (.iaload, 1) := by decide +kernel
theorem dX8_covers_53 : decode cX8_covers 53 = .ok (.aload_n 0, 1) := by decide +kernel
theorem dX8_covers_54 : decode cX8_covers 54 = .ok (.iload_n 3, 1) := by decide +kernel
theorem dX8_covers_55 : decode cX8_covers 55 = .ok (.invokevirtual 93, 3) := by decide +kernel
theorem dX8_covers_58 : decode cX8_covers 58 = .ok (.iconst 1, 1) := by decide +kernel
theorem dX8_covers_59 : decode cX8_covers 59 = .ok (.iadd, 1) := by decide +kernel
theorem dX8_covers_60 : decode cX8_covers 60 = .ok (.if_icmp .ne 29, 3) := by decide +kernel
theorem dX8_covers_63 : decode cX8_covers 63 = .ok (.aload_n 0, 1) := by decide +kernel
theorem dX8_covers_64 : decode cX8_covers 64 = .ok (.iload_n 3, 1) := by decide +kernel
theorem dX8_covers_65 : decode cX8_covers 65 = .ok (.aload_n 0, 1) := by decide +kernel
theorem dX8_covers_66 : decode cX8_covers 66 = .ok (.getfield 28, 3) := by decide +kernel
theorem dX8_covers_69 : decode cX8_covers 69 = .ok (.iload 5, 2) := by decide +kernel
theorem dX8_covers_71 : decode cX8_covers 71 = .ok (.iaload, 1) := by decide +kernel
theorem dX8_covers_72 : decode cX8_covers 72 = .ok (.invokevirtual 171, 3) := by decide +kernel
theorem dX8_covers_75 : decode cX8_covers 75 = .ok (.ifCond .eq 14, 3) := by decide +kernel
theorem dX8_covers_78 : decode cX8_covers 78 = .ok (.iload 4, 2) := by decide +kernel
theorem dX8_covers_80 : decode cX8_covers 80 = .ok (.ifCond .ne 6, 3) := by decide +kernel
theorem dX8_covers_83 : decode cX8_covers 83 = .ok (.iload 5, 2) := by decide +kernel
theorem dX8_covers_85 : decode cX8_covers 85 = .ok (.ireturn, 1) := by decide +kernel
theorem dX8_covers_86 : decode cX8_covers 86 = .ok (.iinc 4 (-1), 3) := by decide +kernel
theorem dX8_covers_89 : decode cX8_covers 89 = .ok (.iinc 5 1, 3) := by decide +kernel
theorem dX8_covers_92 : decode cX8_covers 92 = .ok (.goto (-55), 3) := by decide +kernel
theorem dX8_covers_95 : decode cX8_covers 95 = .ok (.iconst (-1), 1) := by decide +kernel
theorem dX8_covers_96 : decode cX8_covers 96 = .ok (.ireturn, 1) := by decide +kernel
theorem dX8_markOf_0 : decode cX8_markOf 0 = .ok (.iconst 0, 1) := by decide +kernel
theorem dX8_markOf_1 : decode cX8_markOf 1 = .ok (.istore_n 3, 1) := by decide +kernel
theorem dX8_markOf_2 : decode cX8_markOf 2 = .ok (.iload_n 1, 1) := by decide +kernel
theorem dX8_markOf_3 : decode cX8_markOf 3 = .ok (.iload_n 3, 1) := by decide +kernel
theorem dX8_markOf_4 : decode cX8_markOf 4 = .ok (.invokestatic 64, 3) := by decide +kernel
theorem dX8_markOf_7 : decode cX8_markOf 7 = .ok (.iload_n 3, 1) := by decide +kernel
theorem dX8_markOf_8 : decode cX8_markOf 8 = .ok (.if_icmp .ne 12, 3) := by decide +kernel
theorem dX8_markOf_11 : decode cX8_markOf 11 = .ok (.iload_n 2, 1) := by decide +kernel
theorem dX8_markOf_12 : decode cX8_markOf 12 = .ok (.iload_n 3, 1) := by decide +kernel
theorem dX8_markOf_13 : decode cX8_markOf 13 = .ok (.invokestatic 64, 3) := by decide +kernel
theorem dX8_markOf_16 : decode cX8_markOf 16 = .ok (.iload_n 3, 1) := by decide +kernel
theorem dX8_markOf_17 : decode cX8_markOf 17 = .ok (.if_icmp .ne 9, 3) := by decide +kernel
theorem dX8_markOf_20 : decode cX8_markOf 20 = .ok (.iinc 3 1, 3) := by decide +kernel
theorem dX8_markOf_23 : decode cX8_markOf 23 = .ok (.goto (-21), 3) := by decide +kernel
theorem dX8_markOf_26 : decode cX8_markOf 26 = .ok (.iload_n 3, 1) := by decide +kernel
theorem dX8_markOf_27 : decode cX8_markOf 27 = .ok (.iconst 1, 1) := by decide +kernel
theorem dX8_markOf_28 : decode cX8_markOf 28 = .ok (.isub, 1) := by decide +kernel
theorem dX8_markOf_29 : decode cX8_markOf 29 = .ok (.istore 4, 2) := by decide +kernel
theorem dX8_markOf_31 : decode cX8_markOf 31 = .ok (.iload_n 1, 1) := by decide +kernel
theorem dX8_markOf_32 : decode cX8_markOf 32 = .ok (.iload 4, 2) := by decide +kernel
theorem dX8_markOf_34 : decode cX8_markOf 34 = .ok (.invokestatic 64, 3) := by decide +kernel
theorem dX8_markOf_37 : decode cX8_markOf 37 = .ok (.iload_n 2, 1) := by decide +kernel
theorem dX8_markOf_38 : decode cX8_markOf 38 = .ok (.iload_n 3, 1) := by decide +kernel
theorem dX8_markOf_39 : decode cX8_markOf 39 = .ok (.invokestatic 64, 3) := by decide +kernel
theorem dX8_markOf_42 : decode cX8_markOf 42 = .ok (.if_icmp .eq 9, 3) := by decide +kernel
theorem dX8_markOf_45 : decode cX8_markOf 45 = .ok (.iinc 4 (-1), 3) := by decide +kernel
theorem dX8_markOf_48 : decode cX8_markOf 48 = .ok (.goto (-17), 3) := by decide +kernel
theorem dX8_markOf_51 : decode cX8_markOf 51 = .ok (.iload 4, 2) := by decide +kernel
theorem dX8_markOf_53 : decode cX8_markOf 53 = .ok (.ireturn, 1) := by decide +kernel
theorem dX8_mark_0 : decode cX8_mark 0 = .ok (.iload_n 1, 1) := by decide +kernel
theorem dX8_mark_1 : decode cX8_mark 1 = .ok (.invokestatic 104, 3) := by decide +kernel
theorem dX8_mark_4 : decode cX8_mark 4 = .ok (.ifCond .eq 10, 3) := by decide +kernel
theorem dX8_mark_7 : decode cX8_mark 7 = .ok (.iload_n 2, 1) := by decide +kernel
theorem dX8_mark_8 : decode cX8_mark 8 = .ok (.invokestatic 104, 3) := by decide +kernel
theorem dX8_mark_11 : decode cX8_mark 11 = .ok (.ifCond .ne 10, 3) := by decide +kernel
theorem dX8_mark_14 : decode cX8_mark 14 = .ok (.aload_n 0, 1) := by decide +kernel
theorem dX8_mark_15 : decode cX8_mark 15 = .ok (.bipush (-2), 2) := by decide +kernel
theorem dX8_mark_17 : decode cX8_mark 17 = .ok (.invokevirtual 131, 3) := by decide +kernel
theorem dX8_mark_20 : decode cX8_mark 20 = .ok (.ireturn, 1) := by decide +kernel
theorem dX8_mark_21 : decode cX8_mark 21 = .ok (.aload_n 0, 1) := by decide +kernel
theorem dX8_mark_22 : decode cX8_mark 22 = .ok (.getfield 7, 3) := by decide +kernel
theorem dX8_mark_25 : decode cX8_mark 25 = .ok (.iconst 1, 1) := by decide +kernel
theorem dX8_mark_26 : decode cX8_mark 26 = .ok (.iload_n 1, 1) := by decide +kernel
theorem dX8_mark_27 : decode cX8_mark 27 = .ok (.iadd, 1) := by decide +kernel
theorem dX8_mark_28 : decode cX8_mark 28 = .ok (.iaload, 1) := by decide +kernel
theorem dX8_mark_29 : decode cX8_mark 29 = .ok (.istore_n 3, 1) := by decide +kernel
theorem dX8_mark_30 : decode cX8_mark 30 = .ok (.aload_n 0, 1) := by decide +kernel
theorem dX8_mark_31 : decode cX8_mark 31 = .ok (.getfield 7, 3) := by decide +kernel
theorem dX8_mark_34 : decode cX8_mark 34 = .ok (.iconst 1, 1) := by decide +kernel
theorem dX8_mark_35 : decode cX8_mark 35 = .ok (.iload_n 2, 1) := by decide +kernel
theorem dX8_mark_36 : decode cX8_mark 36 = .ok (.iadd, 1) := by decide +kernel
theorem dX8_mark_37 : decode cX8_mark 37 = .ok (.iaload, 1) := by decide +kernel
theorem dX8_mark_38 : decode cX8_mark 38 = .ok (.istore 4, 2) := by decide +kernel
theorem dX8_mark_40 : decode cX8_mark 40 = .ok (.aload_n 0, 1) := by decide +kernel
theorem dX8_mark_41 : decode cX8_mark 41 = .ok (.iload 4, 2) := by decide +kernel
theorem dX8_mark_43 : decode cX8_mark 43 = .ok (.invokevirtual 93, 3) := by decide +kernel
theorem dX8_mark_46 : decode cX8_mark 46 = .ok (.aload_n 0, 1) := by decide +kernel
theorem dX8_mark_47 : decode cX8_mark 47 = .ok (.iload_n 3, 1) := by decide +kernel
theorem dX8_mark_48 : decode cX8_mark 48 = .ok (.invokevirtual 93, 3) := by decide +kernel
theorem dX8_mark_51 : decode cX8_mark 51 = .ok (.iconst 1, 1) := by decide +kernel
theorem dX8_mark_52 : decode cX8_mark 52 = .ok (.iadd, 1) := by decide +kernel
theorem dX8_mark_53 : decode cX8_mark 53 = .ok (.if_icmp .ne 23, 3) := by decide +kernel
theorem dX8_mark_56 : decode cX8_mark 56 = .ok (.aload_n 0, 1) := by decide +kernel
theorem dX8_mark_57 : decode cX8_mark 57 = .ok (.iload_n 3, 1) := by decide +kernel
theorem dX8_mark_58 : decode cX8_mark 58 = .ok (.iload 4, 2) := by decide +kernel
theorem dX8_mark_60 : decode cX8_mark 60 = .ok (.invokevirtual 171, 3) := by decide +kernel
theorem dX8_mark_63 : decode cX8_mark 63 = .ok (.ifCond .eq 13, 3) := by decide +kernel
theorem dX8_mark_66 : decode cX8_mark 66 = .ok (.aload_n 0, 1) := by decide +kernel
theorem dX8_mark_67 : decode cX8_mark 67 = .ok (.iload_n 3, 1) := by decide +kernel
theorem dX8_mark_68 : decode cX8_mark 68 = .ok (.iload 4, 2) := by decide +kernel
theorem dX8_mark_70 : decode cX8_mark 70 = .ok (.invokevirtual 188, 3) := by decide +kernel
theorem dX8_mark_73 : decode cX8_mark 73 = .ok (.goto 9, 3) := by decide +kernel
theorem dX8_mark_76 : decode cX8_mark 76 = .ok (.aload_n 0, 1) := by decide +kernel
theorem dX8_mark_77 : decode cX8_mark 77 = .ok (.bipush (-3), 2) := by decide +kernel
theorem dX8_mark_79 : decode cX8_mark 79 = .ok (.invokevirtual 131, 3) := by decide +kernel
theorem dX8_mark_82 : decode cX8_mark 82 = .ok (.ireturn, 1) := by decide +kernel
theorem dX8_chainsBy_0 : decode cX8_chainsBy 0 = .ok (.aload_n 0, 1) := by decide +kernel
theorem dX8_chainsBy_1 : decode cX8_chainsBy 1 = .ok (.invokevirtual 97, 3) := by decide +kernel
theorem dX8_chainsBy_4 : decode cX8_chainsBy 4 = .ok (.aload_n 0, 1) := by decide +kernel
theorem dX8_chainsBy_5 : decode cX8_chainsBy 5 = .ok (.iload_n 1, 1) := by decide +kernel
theorem dX8_chainsBy_6 : decode cX8_chainsBy 6 = .ok (.invokevirtual 93, 3) := by decide +kernel
theorem dX8_chainsBy_9 : decode cX8_chainsBy 9 = .ok (.istore 4, 2) := by decide +kernel
theorem dX8_chainsBy_11 : decode cX8_chainsBy 11 = .ok (.aload_n 0, 1) := by decide +kernel
theorem dX8_chainsBy_12 : decode cX8_chainsBy 12 = .ok (.iload_n 2, 1) := by decide +kernel
theorem dX8_chainsBy_13 : decode cX8_chainsBy 13 = .ok (.invokevirtual 93, 3) := by decide +kernel
theorem dX8_chainsBy_16 : decode cX8_chainsBy 16 = .ok (.istore 5, 2) := by decide +kernel
theorem dX8_chainsBy_18 : decode cX8_chainsBy 18 = .ok (.iconst 0, 1) := by decide +kernel
theorem dX8_chainsBy_19 : decode cX8_chainsBy 19 = .ok (.istore 6, 2) := by decide +kernel
theorem dX8_chainsBy_21 : decode cX8_chainsBy 21 = .ok (.iload 6, 2) := by decide +kernel
theorem dX8_chainsBy_23 : decode cX8_chainsBy 23 = .ok (.aload_n 0, 1) := by decide +kernel
theorem dX8_chainsBy_24 : decode cX8_chainsBy 24 = .ok (.getfield 87, 3) := by decide +kernel
theorem dX8_chainsBy_27 : decode cX8_chainsBy 27 = .ok (.if_icmp .ge 32, 3) := by decide +kernel
theorem dX8_chainsBy_30 : decode cX8_chainsBy 30 = .ok (.aload_n 0, 1) := by decide +kernel
theorem dX8_chainsBy_31 : decode cX8_chainsBy 31 = .ok (.getfield 34, 3) := by decide +kernel
theorem dX8_chainsBy_34 : decode cX8_chainsBy 34 = .ok (.iload 6, 2) := by decide +kernel
theorem dX8_chainsBy_36 : decode cX8_chainsBy 36 = .ok (.aload_n 0, 1) := by decide +kernel
theorem dX8_chainsBy_37 : decode cX8_chainsBy 37 = .ok (.getfield 28, 3) := by decide +kernel
theorem dX8_chainsBy_40 : decode cX8_chainsBy 40 = .ok (.iload 6, 2) := by decide +kernel
theorem dX8_chainsBy_42 : decode cX8_chainsBy 42 = .ok (.iaload, 1) := by decide +kernel
theorem dX8_chainsBy_43 : decode cX8_chainsBy 43 = .ok (.iload_n 1, 1) := by decide +kernel
theorem dX8_chainsBy_44 : decode cX8_chainsBy 44 = .ok (.if_icmp .ne 7, 3) := by decide +kernel
theorem dX8_chainsBy_47 : decode cX8_chainsBy 47 = .ok (.iconst 1, 1) := by decide +kernel
theorem dX8_chainsBy_48 : decode cX8_chainsBy 48 = .ok (.goto 4, 3) := by decide +kernel
theorem dX8_chainsBy_51 : decode cX8_chainsBy 51 = .ok (.iconst 0, 1) := by decide +kernel
theorem dX8_chainsBy_52 : decode cX8_chainsBy 52 = .ok (.iastore, 1) := by decide +kernel
theorem dX8_chainsBy_53 : decode cX8_chainsBy 53 = .ok (.iinc 6 1, 3) := by decide +kernel
theorem dX8_chainsBy_56 : decode cX8_chainsBy 56 = .ok (.goto (-35), 3) := by decide +kernel
theorem dX8_chainsBy_59 : decode cX8_chainsBy 59 = .ok (.iconst 1, 1) := by decide +kernel
theorem dX8_chainsBy_60 : decode cX8_chainsBy 60 = .ok (.istore 6, 2) := by decide +kernel
theorem dX8_chainsBy_62 : decode cX8_chainsBy 62 = .ok (.iload 4, 2) := by decide +kernel
theorem dX8_chainsBy_64 : decode cX8_chainsBy 64 = .ok (.iconst 1, 1) := by decide +kernel
theorem dX8_chainsBy_65 : decode cX8_chainsBy 65 = .ok (.iadd, 1) := by decide +kernel
theorem dX8_chainsBy_66 : decode cX8_chainsBy 66 = .ok (.istore 7, 2) := by decide +kernel
theorem dX8_chainsBy_68 : decode cX8_chainsBy 68 = .ok (.iload 7, 2) := by decide +kernel
theorem dX8_chainsBy_70 : decode cX8_chainsBy 70 = .ok (.iload 5, 2) := by decide +kernel
theorem dX8_chainsBy_72 : decode cX8_chainsBy 72 = .ok (.if_icmp .ge 16, 3) := by decide +kernel
theorem dX8_chainsBy_75 : decode cX8_chainsBy 75 = .ok (.iload 6, 2) := by decide +kernel
theorem dX8_chainsBy_77 : decode cX8_chainsBy 77 = .ok (.bipush 10, 2) := by decide +kernel
theorem dX8_chainsBy_79 : decode cX8_chainsBy 79 = .ok (.imul, 1) := by decide +kernel
theorem dX8_chainsBy_80 : decode cX8_chainsBy 80 = .ok (.istore 6, 2) := by decide +kernel
theorem dX8_chainsBy_82 : decode cX8_chainsBy 82 = .ok (.iinc 7 1, 3) := by decide +kernel
theorem dX8_chainsBy_85 : decode cX8_chainsBy 85 = .ok (.goto (-17), 3) := by decide +kernel
theorem dX8_chainsBy_88 : decode cX8_chainsBy 88 = .ok (.iload 4, 2) := by decide +kernel
theorem dX8_chainsBy_90 : decode cX8_chainsBy 90 = .ok (.istore 7, 2) := by decide +kernel
theorem dX8_chainsBy_92 : decode cX8_chainsBy 92 = .ok (.iload 7, 2) := by decide +kernel
theorem dX8_chainsBy_94 : decode cX8_chainsBy 94 = .ok (.iload 5, 2) := by decide +kernel
theorem dX8_chainsBy_96 : decode cX8_chainsBy 96 = .ok (.if_icmp .ge 103, 3) := by decide +kernel
theorem dX8_chainsBy_99 : decode cX8_chainsBy 99 = .ok (.iconst 0, 1) := by decide +kernel
theorem dX8_chainsBy_100 : decode cX8_chainsBy 100 = .ok (.istore 8, 2) := by decide +kernel
theorem dX8_chainsBy_102 : decode cX8_chainsBy 102 = .ok (.iload 8, 2) := by decide +kernel
theorem dX8_chainsBy_104 : decode cX8_chainsBy 104 = .ok (.aload_n 0, 1) := by decide +kernel
theorem dX8_chainsBy_105 : decode cX8_chainsBy 105 = .ok (.getfield 87, 3) := by decide +kernel
theorem dX8_chainsBy_108 : decode cX8_chainsBy 108 = .ok (.if_icmp .ge 68, 3) := by decide +kernel
theorem dX8_chainsBy_111 : decode cX8_chainsBy 111 = .ok (.aload_n 0, 1) := by decide +kernel
theorem dX8_chainsBy_112 : decode cX8_chainsBy 112 = .ok (.getfield 31, 3) := by decide +kernel
theorem dX8_chainsBy_115 : decode cX8_chainsBy 115 = .ok (.iload 8, 2) := by decide +kernel
theorem dX8_chainsBy_117 : decode cX8_chainsBy 117 = .ok (.iaload, 1) := by decide +kernel
theorem dX8_chainsBy_118 : decode cX8_chainsBy 118 = .ok (.iload 7, 2) := by decide +kernel
theorem dX8_chainsBy_120 : decode cX8_chainsBy 120 = .ok (.iconst 1, 1) := by decide +kernel
theorem dX8_chainsBy_121 : decode cX8_chainsBy 121 = .ok (.iadd, 1) := by decide +kernel
theorem dX8_chainsBy_122 : decode cX8_chainsBy 122 = .ok (.if_icmp .ne 48, 3) := by decide +kernel
theorem dX8_chainsBy_125 : decode cX8_chainsBy 125 = .ok (.aload_n 0, 1) := by decide +kernel
theorem dX8_chainsBy_126 : decode cX8_chainsBy 126 = .ok (.aload_n 0, 1) := by decide +kernel
theorem dX8_chainsBy_127 : decode cX8_chainsBy 127 = .ok (.getfield 28, 3) := by decide +kernel
theorem dX8_chainsBy_130 : decode cX8_chainsBy 130 = .ok (.iload 8, 2) := by decide +kernel
theorem dX8_chainsBy_132 : decode cX8_chainsBy 132 = .ok (.iaload, 1) := by decide +kernel
theorem dX8_chainsBy_133 : decode cX8_chainsBy 133 = .ok (.iload_n 2, 1) := by decide +kernel
theorem dX8_chainsBy_134 : decode cX8_chainsBy 134 = .ok (.invokevirtual 171, 3) := by decide +kernel
theorem dX8_chainsBy_137 : decode cX8_chainsBy 137 = .ok (.ifCond .eq 33, 3) := by decide +kernel
theorem dX8_chainsBy_140 : decode cX8_chainsBy 140 = .ok (.aload_n 0, 1) := by decide +kernel
theorem dX8_chainsBy_141 : decode cX8_chainsBy 141 = .ok (.getfield 34, 3) := by decide +kernel
theorem dX8_chainsBy_144 : decode cX8_chainsBy 144 = .ok (.iload 8, 2) := by decide +kernel
theorem dX8_chainsBy_146 : decode cX8_chainsBy 146 = .ok (.aload_n 0, 1) := by decide +kernel
theorem dX8_chainsBy_147 : decode cX8_chainsBy 147 = .ok (.iload 8, 2) := by decide +kernel
theorem dX8_chainsBy_149 : decode cX8_chainsBy 149 = .ok (.iload 7, 2) := by decide +kernel
theorem dX8_chainsBy_151 : decode cX8_chainsBy 151 = .ok (.iload_n 3, 1) := by decide +kernel
theorem dX8_chainsBy_152 : decode cX8_chainsBy 152 = .ok (.ifCond .ge 7, 3) := by decide +kernel
theorem dX8_chainsBy_155 : decode cX8_chainsBy 155 = .ok (.iconst (-1), 1) := by decide +kernel
theorem dX8_chainsBy_156 : decode cX8_chainsBy 156 = .ok (.goto 10, 3) := by decide +kernel
theorem dX8_chainsBy_159 : decode cX8_chainsBy 159 = .ok (.iload_n 3, 1) := by decide +kernel
theorem dX8_chainsBy_160 : decode cX8_chainsBy 160 = .ok (.iload 6, 2) := by decide +kernel
theorem dX8_chainsBy_162 : decode cX8_chainsBy 162 = .ok (.idiv, 1) := by decide +kernel
theorem dX8_chainsBy_163 : decode cX8_chainsBy 163 = .ok (.bipush 10, 2) := by decide +kernel
theorem dX8_chainsBy_165 : decode cX8_chainsBy 165 = .ok (.irem, 1) := by decide +kernel
theorem dX8_chainsBy_166 : decode cX8_chainsBy 166 = .ok (.invokevirtual 191, 3) := by decide +kernel
theorem dX8_chainsBy_169 : decode cX8_chainsBy 169 = .ok (.iastore, 1) := by decide +kernel
theorem dX8_chainsBy_170 : decode cX8_chainsBy 170 = .ok (.iinc 8 1, 3) := by decide +kernel
theorem dX8_chainsBy_173 : decode cX8_chainsBy 173 = .ok (.goto (-71), 3) := by decide +kernel
theorem dX8_chainsBy_176 : decode cX8_chainsBy 176 = .ok (.iload 6, 2) := by decide +kernel
theorem dX8_chainsBy_178 : decode cX8_chainsBy 178 = .ok (.iconst 1, 1) := by decide +kernel
theorem dX8_chainsBy_179 : decode cX8_chainsBy 179 = .ok (.if_icmp .le 11, 3) := by decide +kernel
theorem dX8_chainsBy_182 : decode cX8_chainsBy 182 = .ok (.iload 6, 2) := by decide +kernel
theorem dX8_chainsBy_184 : decode cX8_chainsBy 184 = .ok (.bipush 10, 2) := by decide +kernel
theorem dX8_chainsBy_186 : decode cX8_chainsBy 186 = .ok (.idiv, 1) := by decide +kernel
theorem dX8_chainsBy_187 : decode cX8_chainsBy 187 = .ok (.goto 4, 3) := by decide +kernel
theorem dX8_chainsBy_190 : decode cX8_chainsBy 190 = .ok (.iconst 1, 1) := by decide +kernel
theorem dX8_chainsBy_191 : decode cX8_chainsBy 191 = .ok (.istore 6, 2) := by decide +kernel
theorem dX8_chainsBy_193 : decode cX8_chainsBy 193 = .ok (.iinc 7 1, 3) := by decide +kernel
theorem dX8_chainsBy_196 : decode cX8_chainsBy 196 = .ok (.goto (-104), 3) := by decide +kernel
theorem dX8_chainsBy_199 : decode cX8_chainsBy 199 = .ok (.aload_n 0, 1) := by decide +kernel
theorem dX8_chainsBy_200 : decode cX8_chainsBy 200 = .ok (.getfield 34, 3) := by decide +kernel
theorem dX8_chainsBy_203 : decode cX8_chainsBy 203 = .ok (.aload_n 0, 1) := by decide +kernel
theorem dX8_chainsBy_204 : decode cX8_chainsBy 204 = .ok (.iload_n 2, 1) := by decide +kernel
theorem dX8_chainsBy_205 : decode cX8_chainsBy 205 = .ok (.invokevirtual 125, 3) := by decide +kernel
theorem dX8_chainsBy_208 : decode cX8_chainsBy 208 = .ok (.iaload, 1) := by decide +kernel
theorem dX8_chainsBy_209 : decode cX8_chainsBy 209 = .ok (.ireturn, 1) := by decide +kernel
theorem dX8_waysTo_0 : decode cX8_waysTo 0 = .ok (.iconst 0, 1) := by decide +kernel
theorem dX8_waysTo_1 : decode cX8_waysTo 1 = .ok (.istore 4, 2) := by decide +kernel
theorem dX8_waysTo_3 : decode cX8_waysTo 3 = .ok (.iconst 0, 1) := by decide +kernel
theorem dX8_waysTo_4 : decode cX8_waysTo 4 = .ok (.istore 5, 2) := by decide +kernel
theorem dX8_waysTo_6 : decode cX8_waysTo 6 = .ok (.iload 5, 2) := by decide +kernel
theorem dX8_waysTo_8 : decode cX8_waysTo 8 = .ok (.aload_n 0, 1) := by decide +kernel
theorem dX8_waysTo_9 : decode cX8_waysTo 9 = .ok (.getfield 87, 3) := by decide +kernel
theorem dX8_waysTo_12 : decode cX8_waysTo 12 = .ok (.if_icmp .ge 92, 3) := by decide +kernel
theorem dX8_waysTo_15 : decode cX8_waysTo 15 = .ok (.aload_n 0, 1) := by decide +kernel
theorem dX8_waysTo_16 : decode cX8_waysTo 16 = .ok (.getfield 31, 3) := by decide +kernel
theorem dX8_waysTo_19 : decode cX8_waysTo 19 = .ok (.iload 5, 2) := by decide +kernel
theorem dX8_waysTo_21 : decode cX8_waysTo 21 = .ok (.iaload, 1) := by decide +kernel
theorem dX8_waysTo_22 : decode cX8_waysTo 22 = .ok (.iload_n 2, 1) := by decide +kernel
theorem dX8_waysTo_23 : decode cX8_waysTo 23 = .ok (.if_icmp .ne 75, 3) := by decide +kernel
theorem dX8_waysTo_26 : decode cX8_waysTo 26 = .ok (.aload_n 0, 1) := by decide +kernel
theorem dX8_waysTo_27 : decode cX8_waysTo 27 = .ok (.getfield 34, 3) := by decide +kernel
theorem dX8_waysTo_30 : decode cX8_waysTo 30 = .ok (.iload 5, 2) := by decide +kernel
theorem dX8_waysTo_32 : decode cX8_waysTo 32 = .ok (.iaload, 1) := by decide +kernel
theorem dX8_waysTo_33 : decode cX8_waysTo 33 = .ok (.ifCond .le 65, 3) := by decide +kernel
theorem dX8_waysTo_36 : decode cX8_waysTo 36 = .ok (.aload_n 0, 1) := by decide +kernel
theorem dX8_waysTo_37 : decode cX8_waysTo 37 = .ok (.aload_n 0, 1) := by decide +kernel
theorem dX8_waysTo_38 : decode cX8_waysTo 38 = .ok (.getfield 28, 3) := by decide +kernel
theorem dX8_waysTo_41 : decode cX8_waysTo 41 = .ok (.iload 5, 2) := by decide +kernel
theorem dX8_waysTo_43 : decode cX8_waysTo 43 = .ok (.iaload, 1) := by decide +kernel
theorem dX8_waysTo_44 : decode cX8_waysTo 44 = .ok (.aload_n 0, 1) := by decide +kernel
theorem dX8_waysTo_45 : decode cX8_waysTo 45 = .ok (.getfield 28, 3) := by decide +kernel
theorem dX8_waysTo_48 : decode cX8_waysTo 48 = .ok (.iload_n 1, 1) := by decide +kernel
theorem dX8_waysTo_49 : decode cX8_waysTo 49 = .ok (.iaload, 1) := by decide +kernel
theorem dX8_waysTo_50 : decode cX8_waysTo 50 = .ok (.invokevirtual 171, 3) := by decide +kernel
theorem dX8_waysTo_53 : decode cX8_waysTo 53 = .ok (.ifCond .eq 45, 3) := by decide +kernel
theorem dX8_waysTo_56 : decode cX8_waysTo 56 = .ok (.iload 4, 2) := by decide +kernel
theorem dX8_waysTo_58 : decode cX8_waysTo 58 = .ok (.iload_n 3, 1) := by decide +kernel
theorem dX8_waysTo_59 : decode cX8_waysTo 59 = .ok (.iconst (-1), 1) := by decide +kernel
theorem dX8_waysTo_60 : decode cX8_waysTo 60 = .ok (.if_icmp .eq 24, 3) := by decide +kernel
theorem dX8_waysTo_63 : decode cX8_waysTo 63 = .ok (.aload_n 0, 1) := by decide +kernel
theorem dX8_waysTo_64 : decode cX8_waysTo 64 = .ok (.aload_n 0, 1) := by decide +kernel
theorem dX8_waysTo_65 : decode cX8_waysTo 65 = .ok (.getfield 28, 3) := by decide +kernel
theorem dX8_waysTo_68 : decode cX8_waysTo 68 = .ok (.iload 5, 2) := by decide +kernel
theorem dX8_waysTo_70 : decode cX8_waysTo 70 = .ok (.iaload, 1) := by decide +kernel
theorem dX8_waysTo_71 : decode cX8_waysTo 71 = .ok (.aload_n 0, 1) := by decide +kernel
theorem dX8_waysTo_72 : decode cX8_waysTo 72 = .ok (.getfield 28, 3) := by decide +kernel
theorem dX8_waysTo_75 : decode cX8_waysTo 75 = .ok (.iload_n 1, 1) := by decide +kernel
theorem dX8_waysTo_76 : decode cX8_waysTo 76 = .ok (.iaload, 1) := by decide +kernel
theorem dX8_waysTo_77 : decode cX8_waysTo 77 = .ok (.invokevirtual 188, 3) := by decide +kernel
theorem dX8_waysTo_80 : decode cX8_waysTo 80 = .ok (.iload_n 3, 1) := by decide +kernel
theorem dX8_waysTo_81 : decode cX8_waysTo 81 = .ok (.if_icmp .ne 13, 3) := by decide +kernel
theorem dX8_waysTo_84 : decode cX8_waysTo 84 = .ok (.aload_n 0, 1) := by decide +kernel
theorem dX8_waysTo_85 : decode cX8_waysTo 85 = .ok (.getfield 34, 3) := by decide +kernel
theorem dX8_waysTo_88 : decode cX8_waysTo 88 = .ok (.iload 5, 2) := by decide +kernel
theorem dX8_waysTo_90 : decode cX8_waysTo 90 = .ok (.iaload, 1) := by decide +kernel
theorem dX8_waysTo_91 : decode cX8_waysTo 91 = .ok (.goto 4, 3) := by decide +kernel
theorem dX8_waysTo_94 : decode cX8_waysTo 94 = .ok (.iconst 0, 1) := by decide +kernel
theorem dX8_waysTo_95 : decode cX8_waysTo 95 = .ok (.iadd, 1) := by decide +kernel
theorem dX8_waysTo_96 : decode cX8_waysTo 96 = .ok (.istore 4, 2) := by decide +kernel
theorem dX8_waysTo_98 : decode cX8_waysTo 98 = .ok (.iinc 5 1, 3) := by decide +kernel
theorem dX8_waysTo_101 : decode cX8_waysTo 101 = .ok (.goto (-95), 3) := by decide +kernel
theorem dX8_waysTo_104 : decode cX8_waysTo 104 = .ok (.iload 4, 2) := by decide +kernel
theorem dX8_waysTo_106 : decode cX8_waysTo 106 = .ok (.ireturn, 1) := by decide +kernel
theorem dX8_refusedOf_0 : decode cX8_refusedOf 0 = .ok (.iload_n 1, 1) := by decide +kernel
theorem dX8_refusedOf_1 : decode cX8_refusedOf 1 = .ok (.invokestatic 104, 3) := by decide +kernel
theorem dX8_refusedOf_4 : decode cX8_refusedOf 4 = .ok (.ifCond .eq 10, 3) := by decide +kernel
theorem dX8_refusedOf_7 : decode cX8_refusedOf 7 = .ok (.iload_n 2, 1) := by decide +kernel
theorem dX8_refusedOf_8 : decode cX8_refusedOf 8 = .ok (.invokestatic 104, 3) := by decide +kernel
theorem dX8_refusedOf_11 : decode cX8_refusedOf 11 = .ok (.ifCond .ne 10, 3) := by decide +kernel
theorem dX8_refusedOf_14 : decode cX8_refusedOf 14 = .ok (.aload_n 0, 1) := by decide +kernel
theorem dX8_refusedOf_15 : decode cX8_refusedOf 15 = .ok (.bipush (-2), 2) := by decide +kernel
theorem dX8_refusedOf_17 : decode cX8_refusedOf 17 = .ok (.invokevirtual 131, 3) := by decide +kernel
theorem dX8_refusedOf_20 : decode cX8_refusedOf 20 = .ok (.ireturn, 1) := by decide +kernel
theorem dX8_refusedOf_21 : decode cX8_refusedOf 21 = .ok (.aload_n 0, 1) := by decide +kernel
theorem dX8_refusedOf_22 : decode cX8_refusedOf 22 = .ok (.aload_n 0, 1) := by decide +kernel
theorem dX8_refusedOf_23 : decode cX8_refusedOf 23 = .ok (.getfield 7, 3) := by decide +kernel
theorem dX8_refusedOf_26 : decode cX8_refusedOf 26 = .ok (.iconst 1, 1) := by decide +kernel
theorem dX8_refusedOf_27 : decode cX8_refusedOf 27 = .ok (.iload_n 1, 1) := by decide +kernel
theorem dX8_refusedOf_28 : decode cX8_refusedOf 28 = .ok (.iadd, 1) := by decide +kernel
theorem dX8_refusedOf_29 : decode cX8_refusedOf 29 = .ok (.iaload, 1) := by decide +kernel
theorem dX8_refusedOf_30 : decode cX8_refusedOf 30 = .ok (.aload_n 0, 1) := by decide +kernel
theorem dX8_refusedOf_31 : decode cX8_refusedOf 31 = .ok (.getfield 7, 3) := by decide +kernel
theorem dX8_refusedOf_34 : decode cX8_refusedOf 34 = .ok (.iconst 1, 1) := by decide +kernel
theorem dX8_refusedOf_35 : decode cX8_refusedOf 35 = .ok (.iload_n 2, 1) := by decide +kernel
theorem dX8_refusedOf_36 : decode cX8_refusedOf 36 = .ok (.iadd, 1) := by decide +kernel
theorem dX8_refusedOf_37 : decode cX8_refusedOf 37 = .ok (.iaload, 1) := by decide +kernel
theorem dX8_refusedOf_38 : decode cX8_refusedOf 38 = .ok (.invokevirtual 171, 3) := by decide +kernel
theorem dX8_refusedOf_41 : decode cX8_refusedOf 41 = .ok (.ifCond .eq 7, 3) := by decide +kernel
theorem dX8_refusedOf_44 : decode cX8_refusedOf 44 = .ok (.iconst 0, 1) := by decide +kernel
theorem dX8_refusedOf_45 : decode cX8_refusedOf 45 = .ok (.goto 9, 3) := by decide +kernel
theorem dX8_refusedOf_48 : decode cX8_refusedOf 48 = .ok (.aload_n 0, 1) := by decide +kernel
theorem dX8_refusedOf_49 : decode cX8_refusedOf 49 = .ok (.bipush (-3), 2) := by decide +kernel
theorem dX8_refusedOf_51 : decode cX8_refusedOf 51 = .ok (.invokevirtual 131, 3) := by decide +kernel
theorem dX8_refusedOf_54 : decode cX8_refusedOf 54 = .ok (.ireturn, 1) := by decide +kernel
theorem dX8_chains_0 : decode cX8_chains 0 = .ok (.aload_n 0, 1) := by decide +kernel
theorem dX8_chains_1 : decode cX8_chains 1 = .ok (.iload_n 1, 1) := by decide +kernel
theorem dX8_chains_2 : decode cX8_chains 2 = .ok (.iload_n 2, 1) := by decide +kernel
theorem dX8_chains_3 : decode cX8_chains 3 = .ok (.invokevirtual 194, 3) := by decide +kernel
theorem dX8_chains_6 : decode cX8_chains 6 = .ok (.istore_n 3, 1) := by decide +kernel
theorem dX8_chains_7 : decode cX8_chains 7 = .ok (.iload_n 3, 1) := by decide +kernel
theorem dX8_chains_8 : decode cX8_chains 8 = .ok (.ifCond .ge 7, 3) := by decide +kernel
theorem dX8_chains_11 : decode cX8_chains 11 = .ok (.iload_n 3, 1) := by decide +kernel
theorem dX8_chains_12 : decode cX8_chains 12 = .ok (.goto 24, 3) := by decide +kernel
theorem dX8_chains_15 : decode cX8_chains 15 = .ok (.aload_n 0, 1) := by decide +kernel
theorem dX8_chains_16 : decode cX8_chains 16 = .ok (.aload_n 0, 1) := by decide +kernel
theorem dX8_chains_17 : decode cX8_chains 17 = .ok (.getfield 7, 3) := by decide +kernel
theorem dX8_chains_20 : decode cX8_chains 20 = .ok (.iconst 1, 1) := by decide +kernel
theorem dX8_chains_21 : decode cX8_chains 21 = .ok (.iload_n 1, 1) := by decide +kernel
theorem dX8_chains_22 : decode cX8_chains 22 = .ok (.iadd, 1) := by decide +kernel
theorem dX8_chains_23 : decode cX8_chains 23 = .ok (.iaload, 1) := by decide +kernel
theorem dX8_chains_24 : decode cX8_chains 24 = .ok (.aload_n 0, 1) := by decide +kernel
theorem dX8_chains_25 : decode cX8_chains 25 = .ok (.getfield 7, 3) := by decide +kernel
theorem dX8_chains_28 : decode cX8_chains 28 = .ok (.iconst 1, 1) := by decide +kernel
theorem dX8_chains_29 : decode cX8_chains 29 = .ok (.iload_n 2, 1) := by decide +kernel
theorem dX8_chains_30 : decode cX8_chains 30 = .ok (.iadd, 1) := by decide +kernel
theorem dX8_chains_31 : decode cX8_chains 31 = .ok (.iaload, 1) := by decide +kernel
theorem dX8_chains_32 : decode cX8_chains 32 = .ok (.iconst (-1), 1) := by decide +kernel
theorem dX8_chains_33 : decode cX8_chains 33 = .ok (.invokevirtual 197, 3) := by decide +kernel
theorem dX8_chains_36 : decode cX8_chains 36 = .ok (.ireturn, 1) := by decide +kernel
theorem dX8_marked_0 : decode cX8_marked 0 = .ok (.iconst 1, 1) := by decide +kernel
theorem dX8_marked_1 : decode cX8_marked 1 = .ok (.istore_n 2, 1) := by decide +kernel
theorem dX8_marked_2 : decode cX8_marked 2 = .ok (.iload_n 1, 1) := by decide +kernel
theorem dX8_marked_3 : decode cX8_marked 3 = .ok (.ifCond .lt 7, 3) := by decide +kernel
theorem dX8_marked_6 : decode cX8_marked 6 = .ok (.iconst 1, 1) := by decide +kernel
theorem dX8_marked_7 : decode cX8_marked 7 = .ok (.goto 4, 3) := by decide +kernel
theorem dX8_marked_10 : decode cX8_marked 10 = .ok (.iconst 0, 1) := by decide +kernel
theorem dX8_marked_11 : decode cX8_marked 11 = .ok (.istore_n 3, 1) := by decide +kernel
theorem dX8_marked_12 : decode cX8_marked 12 = .ok (.iload_n 1, 1) := by decide +kernel
theorem dX8_marked_13 : decode cX8_marked 13 = .ok (.istore 4, 2) := by decide +kernel
theorem dX8_marked_15 : decode cX8_marked 15 = .ok (.iconst 1, 1) := by decide +kernel
theorem dX8_marked_16 : decode cX8_marked 16 = .ok (.istore 5, 2) := by decide +kernel
theorem dX8_marked_18 : decode cX8_marked 18 = .ok (.iload 5, 2) := by decide +kernel
theorem dX8_marked_20 : decode cX8_marked 20 = .ok (.aload_n 0, 1) := by decide +kernel
theorem dX8_marked_21 : decode cX8_marked 21 = .ok (.getfield 7, 3) := by decide +kernel
theorem dX8_marked_24 : decode cX8_marked 24 = .ok (.iconst 0, 1) := by decide +kernel
theorem dX8_marked_25 : decode cX8_marked 25 = .ok (.iaload, 1) := by decide +kernel
theorem dX8_marked_26 : decode cX8_marked 26 = .ok (.if_icmp .ge 41, 3) := by decide +kernel
theorem dX8_marked_29 : decode cX8_marked 29 = .ok (.iload_n 2, 1) := by decide +kernel
theorem dX8_marked_30 : decode cX8_marked 30 = .ok (.bipush 10, 2) := by decide +kernel
theorem dX8_marked_32 : decode cX8_marked 32 = .ok (.imul, 1) := by decide +kernel
theorem dX8_marked_33 : decode cX8_marked 33 = .ok (.istore_n 2, 1) := by decide +kernel
theorem dX8_marked_34 : decode cX8_marked 34 = .ok (.iload_n 3, 1) := by decide +kernel
theorem dX8_marked_35 : decode cX8_marked 35 = .ok (.ifCond .eq 17, 3) := by decide +kernel
theorem dX8_marked_38 : decode cX8_marked 38 = .ok (.iload 4, 2) := by decide +kernel
theorem dX8_marked_40 : decode cX8_marked 40 = .ok (.bipush 10, 2) := by decide +kernel
theorem dX8_marked_42 : decode cX8_marked 42 = .ok (.irem, 1) := by decide +kernel
theorem dX8_marked_43 : decode cX8_marked 43 = .ok (.bipush 8, 2) := by decide +kernel
theorem dX8_marked_45 : decode cX8_marked 45 = .ok (.if_icmp .ge 7, 3) := by decide +kernel
theorem dX8_marked_48 : decode cX8_marked 48 = .ok (.iconst 1, 1) := by decide +kernel
theorem dX8_marked_49 : decode cX8_marked 49 = .ok (.goto 4, 3) := by decide +kernel
theorem dX8_marked_52 : decode cX8_marked 52 = .ok (.iconst 0, 1) := by decide +kernel
theorem dX8_marked_53 : decode cX8_marked 53 = .ok (.istore_n 3, 1) := by decide +kernel
theorem dX8_marked_54 : decode cX8_marked 54 = .ok (.iload 4, 2) := by decide +kernel
theorem dX8_marked_56 : decode cX8_marked 56 = .ok (.bipush 10, 2) := by decide +kernel
theorem dX8_marked_58 : decode cX8_marked 58 = .ok (.idiv, 1) := by decide +kernel
theorem dX8_marked_59 : decode cX8_marked 59 = .ok (.istore 4, 2) := by decide +kernel
theorem dX8_marked_61 : decode cX8_marked 61 = .ok (.iinc 5 1, 3) := by decide +kernel
theorem dX8_marked_64 : decode cX8_marked 64 = .ok (.goto (-46), 3) := by decide +kernel
theorem dX8_marked_67 : decode cX8_marked 67 = .ok (.iload_n 3, 1) := by decide +kernel
theorem dX8_marked_68 : decode cX8_marked 68 = .ok (.ifCond .eq 8, 3) := by decide +kernel
theorem dX8_marked_71 : decode cX8_marked 71 = .ok (.iload_n 1, 1) := by decide +kernel
theorem dX8_marked_72 : decode cX8_marked 72 = .ok (.iload_n 2, 1) := by decide +kernel
theorem dX8_marked_73 : decode cX8_marked 73 = .ok (.if_icmp .lt 10, 3) := by decide +kernel
theorem dX8_marked_76 : decode cX8_marked 76 = .ok (.aload_n 0, 1) := by decide +kernel
theorem dX8_marked_77 : decode cX8_marked 77 = .ok (.bipush (-2), 2) := by decide +kernel
theorem dX8_marked_79 : decode cX8_marked 79 = .ok (.invokevirtual 131, 3) := by decide +kernel
theorem dX8_marked_82 : decode cX8_marked 82 = .ok (.ireturn, 1) := by decide +kernel
theorem dX8_marked_83 : decode cX8_marked 83 = .ok (.aload_n 0, 1) := by decide +kernel
theorem dX8_marked_84 : decode cX8_marked 84 = .ok (.invokevirtual 97, 3) := by decide +kernel
theorem dX8_marked_87 : decode cX8_marked 87 = .ok (.aload_n 0, 1) := by decide +kernel
theorem dX8_marked_88 : decode cX8_marked 88 = .ok (.aload_n 0, 1) := by decide +kernel
theorem dX8_marked_89 : decode cX8_marked 89 = .ok (.getfield 28, 3) := by decide +kernel
theorem dX8_marked_92 : decode cX8_marked 92 = .ok (.aload_n 0, 1) := by decide +kernel
theorem dX8_marked_93 : decode cX8_marked 93 = .ok (.getfield 87, 3) := by decide +kernel
theorem dX8_marked_96 : decode cX8_marked 96 = .ok (.iconst 1, 1) := by decide +kernel
theorem dX8_marked_97 : decode cX8_marked 97 = .ok (.isub, 1) := by decide +kernel
theorem dX8_marked_98 : decode cX8_marked 98 = .ok (.iaload, 1) := by decide +kernel
theorem dX8_marked_99 : decode cX8_marked 99 = .ok (.aload_n 0, 1) := by decide +kernel
theorem dX8_marked_100 : decode cX8_marked 100 = .ok (.getfield 28, 3) := by decide +kernel
theorem dX8_marked_103 : decode cX8_marked 103 = .ok (.iconst 0, 1) := by decide +kernel
theorem dX8_marked_104 : decode cX8_marked 104 = .ok (.iaload, 1) := by decide +kernel
theorem dX8_marked_105 : decode cX8_marked 105 = .ok (.iload_n 1, 1) := by decide +kernel
theorem dX8_marked_106 : decode cX8_marked 106 = .ok (.invokevirtual 197, 3) := by decide +kernel
theorem dX8_marked_109 : decode cX8_marked 109 = .ok (.ireturn, 1) := by decide +kernel
theorem dX8_signed_0 : decode cX8_signed 0 = .ok (.aload_n 0, 1) := by decide +kernel
theorem dX8_signed_1 : decode cX8_signed 1 = .ok (.iload_n 1, 1) := by decide +kernel
theorem dX8_signed_2 : decode cX8_signed 2 = .ok (.iload_n 2, 1) := by decide +kernel
theorem dX8_signed_3 : decode cX8_signed 3 = .ok (.invokevirtual 194, 3) := by decide +kernel
theorem dX8_signed_6 : decode cX8_signed 6 = .ok (.istore_n 3, 1) := by decide +kernel
theorem dX8_signed_7 : decode cX8_signed 7 = .ok (.iload_n 3, 1) := by decide +kernel
theorem dX8_signed_8 : decode cX8_signed 8 = .ok (.ifCond .ge 5, 3) := by decide +kernel
theorem dX8_signed_11 : decode cX8_signed 11 = .ok (.iload_n 3, 1) := by decide +kernel
theorem dX8_signed_12 : decode cX8_signed 12 = .ok (.ireturn, 1) := by decide +kernel
theorem dX8_signed_13 : decode cX8_signed 13 = .ok (.aload_n 0, 1) := by decide +kernel
theorem dX8_signed_14 : decode cX8_signed 14 = .ok (.invokevirtual 97, 3) := by decide +kernel
theorem dX8_signed_17 : decode cX8_signed 17 = .ok (.aload_n 0, 1) := by decide +kernel
theorem dX8_signed_18 : decode cX8_signed 18 = .ok (.getfield 7, 3) := by decide +kernel
theorem dX8_signed_21 : decode cX8_signed 21 = .ok (.iconst 1, 1) := by decide +kernel
theorem dX8_signed_22 : decode cX8_signed 22 = .ok (.iload_n 1, 1) := by decide +kernel
theorem dX8_signed_23 : decode cX8_signed 23 = .ok (.iadd, 1) := by decide +kernel
theorem dX8_signed_24 : decode cX8_signed 24 = .ok (.iaload, 1) := by decide +kernel
theorem dX8_signed_25 : decode cX8_signed 25 = .ok (.istore 4, 2) := by decide +kernel
theorem dX8_signed_27 : decode cX8_signed 27 = .ok (.aload_n 0, 1) := by decide +kernel
theorem dX8_signed_28 : decode cX8_signed 28 = .ok (.getfield 7, 3) := by decide +kernel
theorem dX8_signed_31 : decode cX8_signed 31 = .ok (.iconst 1, 1) := by decide +kernel
theorem dX8_signed_32 : decode cX8_signed 32 = .ok (.iload_n 2, 1) := by decide +kernel
theorem dX8_signed_33 : decode cX8_signed 33 = .ok (.iadd, 1) := by decide +kernel
theorem dX8_signed_34 : decode cX8_signed 34 = .ok (.iaload, 1) := by decide +kernel
theorem dX8_signed_35 : decode cX8_signed 35 = .ok (.istore 5, 2) := by decide +kernel
theorem dX8_signed_37 : decode cX8_signed 37 = .ok (.iconst 0, 1) := by decide +kernel
theorem dX8_signed_38 : decode cX8_signed 38 = .ok (.istore 6, 2) := by decide +kernel
theorem dX8_signed_40 : decode cX8_signed 40 = .ok (.iload 6, 2) := by decide +kernel
theorem dX8_signed_42 : decode cX8_signed 42 = .ok (.aload_n 0, 1) := by decide +kernel
theorem dX8_signed_43 : decode cX8_signed 43 = .ok (.getfield 87, 3) := by decide +kernel
theorem dX8_signed_46 : decode cX8_signed 46 = .ok (.if_icmp .ge 17, 3) := by decide +kernel
theorem dX8_signed_49 : decode cX8_signed 49 = .ok (.aload_n 0, 1) := by decide +kernel
theorem dX8_signed_50 : decode cX8_signed 50 = .ok (.getfield 37, 3) := by decide +kernel
theorem dX8_signed_53 : decode cX8_signed 53 = .ok (.iload 6, 2) := by decide +kernel
theorem dX8_signed_55 : decode cX8_signed 55 = .ok (.iconst 0, 1) := by decide +kernel
theorem dX8_signed_56 : decode cX8_signed 56 = .ok (.iastore, 1) := by decide +kernel
theorem dX8_signed_57 : decode cX8_signed 57 = .ok (.iinc 6 1, 3) := by decide +kernel
theorem dX8_signed_60 : decode cX8_signed 60 = .ok (.goto (-20), 3) := by decide +kernel
theorem dX8_signed_63 : decode cX8_signed 63 = .ok (.aload_n 0, 1) := by decide +kernel
theorem dX8_signed_64 : decode cX8_signed 64 = .ok (.iload 4, 2) := by decide +kernel
theorem dX8_signed_66 : decode cX8_signed 66 = .ok (.invokevirtual 93, 3) := by decide +kernel
theorem dX8_signed_69 : decode cX8_signed 69 = .ok (.istore 6, 2) := by decide +kernel
theorem dX8_signed_71 : decode cX8_signed 71 = .ok (.iload 6, 2) := by decide +kernel
theorem dX8_signed_73 : decode cX8_signed 73 = .ok (.aload_n 0, 1) := by decide +kernel
theorem dX8_signed_74 : decode cX8_signed 74 = .ok (.iload 5, 2) := by decide +kernel
theorem dX8_signed_76 : decode cX8_signed 76 = .ok (.invokevirtual 93, 3) := by decide +kernel
theorem dX8_signed_79 : decode cX8_signed 79 = .ok (.if_icmp .gt 100, 3) := by decide +kernel
theorem dX8_signed_82 : decode cX8_signed 82 = .ok (.iconst 0, 1) := by decide +kernel
theorem dX8_signed_83 : decode cX8_signed 83 = .ok (.istore 7, 2) := by decide +kernel
theorem dX8_signed_85 : decode cX8_signed 85 = .ok (.iload 7, 2) := by decide +kernel
theorem dX8_signed_87 : decode cX8_signed 87 = .ok (.aload_n 0, 1) := by decide +kernel
theorem dX8_signed_88 : decode cX8_signed 88 = .ok (.getfield 87, 3) := by decide +kernel
theorem dX8_signed_91 : decode cX8_signed 91 = .ok (.if_icmp .ge 82, 3) := by decide +kernel
theorem dX8_signed_94 : decode cX8_signed 94 = .ok (.aload_n 0, 1) := by decide +kernel
theorem dX8_signed_95 : decode cX8_signed 95 = .ok (.getfield 31, 3) := by decide +kernel
theorem dX8_signed_98 : decode cX8_signed 98 = .ok (.iload 7, 2) := by decide +kernel
theorem dX8_signed_100 : decode cX8_signed 100 = .ok (.iaload, 1) := by decide +kernel
theorem dX8_signed_101 : decode cX8_signed 101 = .ok (.iload 6, 2) := by decide +kernel
theorem dX8_signed_103 : decode cX8_signed 103 = .ok (.if_icmp .ne 64, 3) := by decide +kernel
theorem dX8_signed_106 : decode cX8_signed 106 = .ok (.aload_n 0, 1) := by decide +kernel
theorem dX8_signed_107 : decode cX8_signed 107 = .ok (.iload 4, 2) := by decide +kernel
theorem dX8_signed_109 : decode cX8_signed 109 = .ok (.aload_n 0, 1) := by decide +kernel
theorem dX8_signed_110 : decode cX8_signed 110 = .ok (.getfield 28, 3) := by decide +kernel
theorem dX8_signed_113 : decode cX8_signed 113 = .ok (.iload 7, 2) := by decide +kernel
theorem dX8_signed_115 : decode cX8_signed 115 = .ok (.iaload, 1) := by decide +kernel
theorem dX8_signed_116 : decode cX8_signed 116 = .ok (.invokevirtual 171, 3) := by decide +kernel
theorem dX8_signed_119 : decode cX8_signed 119 = .ok (.ifCond .eq 48, 3) := by decide +kernel
theorem dX8_signed_122 : decode cX8_signed 122 = .ok (.aload_n 0, 1) := by decide +kernel
theorem dX8_signed_123 : decode cX8_signed 123 = .ok (.aload_n 0, 1) := by decide +kernel
theorem dX8_signed_124 : decode cX8_signed 124 = .ok (.getfield 28, 3) := by decide +kernel
theorem dX8_signed_127 : decode cX8_signed 127 = .ok (.iload 7, 2) := by decide +kernel
theorem dX8_signed_129 : decode cX8_signed 129 = .ok (.iaload, 1) := by decide +kernel
theorem dX8_signed_130 : decode cX8_signed 130 = .ok (.iload 5, 2) := by decide +kernel
theorem dX8_signed_132 : decode cX8_signed 132 = .ok (.invokevirtual 171, 3) := by decide +kernel
theorem dX8_signed_135 : decode cX8_signed 135 = .ok (.ifCond .eq 32, 3) := by decide +kernel
theorem dX8_signed_138 : decode cX8_signed 138 = .ok (.aload_n 0, 1) := by decide +kernel
theorem dX8_signed_139 : decode cX8_signed 139 = .ok (.getfield 37, 3) := by decide +kernel
theorem dX8_signed_142 : decode cX8_signed 142 = .ok (.iload 7, 2) := by decide +kernel
theorem dX8_signed_144 : decode cX8_signed 144 = .ok (.aload_n 0, 1) := by decide +kernel
theorem dX8_signed_145 : decode cX8_signed 145 = .ok (.getfield 28, 3) := by decide +kernel
theorem dX8_signed_148 : decode cX8_signed 148 = .ok (.iload 7, 2) := by decide +kernel
theorem dX8_signed_150 : decode cX8_signed 150 = .ok (.iaload, 1) := by decide +kernel
theorem dX8_signed_151 : decode cX8_signed 151 = .ok (.iload 4, 2) := by decide +kernel
theorem dX8_signed_153 : decode cX8_signed 153 = .ok (.if_icmp .ne 7, 3) := by decide +kernel
theorem dX8_signed_156 : decode cX8_signed 156 = .ok (.iconst 1, 1) := by decide +kernel
theorem dX8_signed_157 : decode cX8_signed 157 = .ok (.goto 9, 3) := by decide +kernel
theorem dX8_signed_160 : decode cX8_signed 160 = .ok (.aload_n 0, 1) := by decide +kernel
theorem dX8_signed_161 : decode cX8_signed 161 = .ok (.iload 7, 2) := by decide +kernel
theorem dX8_signed_163 : decode cX8_signed 163 = .ok (.invokevirtual 200, 3) := by decide +kernel
theorem dX8_signed_166 : decode cX8_signed 166 = .ok (.iastore, 1) := by decide +kernel
theorem dX8_signed_167 : decode cX8_signed 167 = .ok (.iinc 7 1, 3) := by decide +kernel
theorem dX8_signed_170 : decode cX8_signed 170 = .ok (.goto (-85), 3) := by decide +kernel
theorem dX8_signed_173 : decode cX8_signed 173 = .ok (.iinc 6 1, 3) := by decide +kernel
theorem dX8_signed_176 : decode cX8_signed 176 = .ok (.goto (-105), 3) := by decide +kernel
theorem dX8_signed_179 : decode cX8_signed 179 = .ok (.aload_n 0, 1) := by decide +kernel
theorem dX8_signed_180 : decode cX8_signed 180 = .ok (.getfield 37, 3) := by decide +kernel
theorem dX8_signed_183 : decode cX8_signed 183 = .ok (.aload_n 0, 1) := by decide +kernel
theorem dX8_signed_184 : decode cX8_signed 184 = .ok (.iload 5, 2) := by decide +kernel
theorem dX8_signed_186 : decode cX8_signed 186 = .ok (.invokevirtual 125, 3) := by decide +kernel
theorem dX8_signed_189 : decode cX8_signed 189 = .ok (.iaload, 1) := by decide +kernel
theorem dX8_signed_190 : decode cX8_signed 190 = .ok (.ireturn, 1) := by decide +kernel
theorem dX8_signTo_0 : decode cX8_signTo 0 = .ok (.iconst 0, 1) := by decide +kernel
theorem dX8_signTo_1 : decode cX8_signTo 1 = .ok (.istore_n 2, 1) := by decide +kernel
theorem dX8_signTo_2 : decode cX8_signTo 2 = .ok (.iconst 0, 1) := by decide +kernel
theorem dX8_signTo_3 : decode cX8_signTo 3 = .ok (.istore_n 3, 1) := by decide +kernel
theorem dX8_signTo_4 : decode cX8_signTo 4 = .ok (.iload_n 3, 1) := by decide +kernel
theorem dX8_signTo_5 : decode cX8_signTo 5 = .ok (.aload_n 0, 1) := by decide +kernel
theorem dX8_signTo_6 : decode cX8_signTo 6 = .ok (.getfield 87, 3) := by decide +kernel
theorem dX8_signTo_9 : decode cX8_signTo 9 = .ok (.if_icmp .ge 55, 3) := by decide +kernel
theorem dX8_signTo_12 : decode cX8_signTo 12 = .ok (.iload_n 2, 1) := by decide +kernel
theorem dX8_signTo_13 : decode cX8_signTo 13 = .ok (.aload_n 0, 1) := by decide +kernel
theorem dX8_signTo_14 : decode cX8_signTo 14 = .ok (.getfield 37, 3) := by decide +kernel
theorem dX8_signTo_17 : decode cX8_signTo 17 = .ok (.iload_n 3, 1) := by decide +kernel
theorem dX8_signTo_18 : decode cX8_signTo 18 = .ok (.iaload, 1) := by decide +kernel
theorem dX8_signTo_19 : decode cX8_signTo 19 = .ok (.ifCond .eq 36, 3) := by decide +kernel
theorem dX8_signTo_22 : decode cX8_signTo 22 = .ok (.iload_n 3, 1) := by decide +kernel
theorem dX8_signTo_23 : decode cX8_signTo 23 = .ok (.iload_n 1, 1) := by decide +kernel
theorem dX8_signTo_24 : decode cX8_signTo 24 = .ok (.if_icmp .eq 31, 3) := by decide +kernel
theorem dX8_signTo_27 : decode cX8_signTo 27 = .ok (.aload_n 0, 1) := by decide +kernel
theorem dX8_signTo_28 : decode cX8_signTo 28 = .ok (.aload_n 0, 1) := by decide +kernel
theorem dX8_signTo_29 : decode cX8_signTo 29 = .ok (.getfield 28, 3) := by decide +kernel
theorem dX8_signTo_32 : decode cX8_signTo 32 = .ok (.iload_n 3, 1) := by decide +kernel
theorem dX8_signTo_33 : decode cX8_signTo 33 = .ok (.iaload, 1) := by decide +kernel
theorem dX8_signTo_34 : decode cX8_signTo 34 = .ok (.aload_n 0, 1) := by decide +kernel
theorem dX8_signTo_35 : decode cX8_signTo 35 = .ok (.getfield 28, 3) := by decide +kernel
theorem dX8_signTo_38 : decode cX8_signTo 38 = .ok (.iload_n 1, 1) := by decide +kernel
theorem dX8_signTo_39 : decode cX8_signTo 39 = .ok (.iaload, 1) := by decide +kernel
theorem dX8_signTo_40 : decode cX8_signTo 40 = .ok (.invokevirtual 171, 3) := by decide +kernel
theorem dX8_signTo_43 : decode cX8_signTo 43 = .ok (.ifCond .eq 12, 3) := by decide +kernel
theorem dX8_signTo_46 : decode cX8_signTo 46 = .ok (.aload_n 0, 1) := by decide +kernel
theorem dX8_signTo_47 : decode cX8_signTo 47 = .ok (.getfield 37, 3) := by decide +kernel
theorem dX8_signTo_50 : decode cX8_signTo 50 = .ok (.iload_n 3, 1) := by decide +kernel
theorem dX8_signTo_51 : decode cX8_signTo 51 = .ok (.iaload, 1) := by decide +kernel
theorem dX8_signTo_52 : decode cX8_signTo 52 = .ok (.goto 4, 3) := by decide +kernel
theorem dX8_signTo_55 : decode cX8_signTo 55 = .ok (.iconst 0, 1) := by decide +kernel
theorem dX8_signTo_56 : decode cX8_signTo 56 = .ok (.isub, 1) := by decide +kernel
theorem dX8_signTo_57 : decode cX8_signTo 57 = .ok (.istore_n 2, 1) := by decide +kernel
theorem dX8_signTo_58 : decode cX8_signTo 58 = .ok (.iinc 3 1, 3) := by decide +kernel
theorem dX8_signTo_61 : decode cX8_signTo 61 = .ok (.goto (-57), 3) := by decide +kernel
theorem dX8_signTo_64 : decode cX8_signTo 64 = .ok (.iload_n 2, 1) := by decide +kernel
theorem dX8_signTo_65 : decode cX8_signTo 65 = .ok (.ireturn, 1) := by decide +kernel
theorem dX8_between_0 : decode cX8_between 0 = .ok (.aload_n 0, 1) := by decide +kernel
theorem dX8_between_1 : decode cX8_between 1 = .ok (.iload_n 1, 1) := by decide +kernel
theorem dX8_between_2 : decode cX8_between 2 = .ok (.iload_n 2, 1) := by decide +kernel
theorem dX8_between_3 : decode cX8_between 3 = .ok (.invokevirtual 194, 3) := by decide +kernel
theorem dX8_between_6 : decode cX8_between 6 = .ok (.istore_n 3, 1) := by decide +kernel
theorem dX8_between_7 : decode cX8_between 7 = .ok (.iload_n 3, 1) := by decide +kernel
theorem dX8_between_8 : decode cX8_between 8 = .ok (.ifCond .ge 5, 3) := by decide +kernel
theorem dX8_between_11 : decode cX8_between 11 = .ok (.iload_n 3, 1) := by decide +kernel
theorem dX8_between_12 : decode cX8_between 12 = .ok (.ireturn, 1) := by decide +kernel
theorem dX8_between_13 : decode cX8_between 13 = .ok (.aload_n 0, 1) := by decide +kernel
theorem dX8_between_14 : decode cX8_between 14 = .ok (.invokevirtual 97, 3) := by decide +kernel
theorem dX8_between_17 : decode cX8_between 17 = .ok (.iconst 0, 1) := by decide +kernel
theorem dX8_between_18 : decode cX8_between 18 = .ok (.istore 4, 2) := by decide +kernel
theorem dX8_between_20 : decode cX8_between 20 = .ok (.iconst 0, 1) := by decide +kernel
theorem dX8_between_21 : decode cX8_between 21 = .ok (.istore 5, 2) := by decide +kernel
theorem dX8_between_23 : decode cX8_between 23 = .ok (.iload 5, 2) := by decide +kernel
theorem dX8_between_25 : decode cX8_between 25 = .ok (.aload_n 0, 1) := by decide +kernel
theorem dX8_between_26 : decode cX8_between 26 = .ok (.getfield 87, 3) := by decide +kernel
theorem dX8_between_29 : decode cX8_between 29 = .ok (.if_icmp .ge 63, 3) := by decide +kernel
theorem dX8_between_32 : decode cX8_between 32 = .ok (.iload 4, 2) := by decide +kernel
theorem dX8_between_34 : decode cX8_between 34 = .ok (.aload_n 0, 1) := by decide +kernel
theorem dX8_between_35 : decode cX8_between 35 = .ok (.aload_n 0, 1) := by decide +kernel
theorem dX8_between_36 : decode cX8_between 36 = .ok (.getfield 7, 3) := by decide +kernel
theorem dX8_between_39 : decode cX8_between 39 = .ok (.iconst 1, 1) := by decide +kernel
theorem dX8_between_40 : decode cX8_between 40 = .ok (.iload_n 1, 1) := by decide +kernel
theorem dX8_between_41 : decode cX8_between 41 = .ok (.iadd, 1) := by decide +kernel
theorem dX8_between_42 : decode cX8_between 42 = .ok (.iaload, 1) := by decide +kernel
theorem dX8_between_43 : decode cX8_between 43 = .ok (.aload_n 0, 1) := by decide +kernel
theorem dX8_between_44 : decode cX8_between 44 = .ok (.getfield 28, 3) := by decide +kernel
theorem dX8_between_47 : decode cX8_between 47 = .ok (.iload 5, 2) := by decide +kernel
theorem dX8_between_49 : decode cX8_between 49 = .ok (.iaload, 1) := by decide +kernel
theorem dX8_between_50 : decode cX8_between 50 = .ok (.invokevirtual 171, 3) := by decide +kernel
theorem dX8_between_53 : decode cX8_between 53 = .ok (.ifCond .eq 29, 3) := by decide +kernel
theorem dX8_between_56 : decode cX8_between 56 = .ok (.aload_n 0, 1) := by decide +kernel
theorem dX8_between_57 : decode cX8_between 57 = .ok (.aload_n 0, 1) := by decide +kernel
theorem dX8_between_58 : decode cX8_between 58 = .ok (.getfield 28, 3) := by decide +kernel
theorem dX8_between_61 : decode cX8_between 61 = .ok (.iload 5, 2) := by decide +kernel
theorem dX8_between_63 : decode cX8_between 63 = .ok (.iaload, 1) := by decide +kernel
theorem dX8_between_64 : decode cX8_between 64 = .ok (.aload_n 0, 1) := by decide +kernel
theorem dX8_between_65 : decode cX8_between 65 = .ok (.getfield 7, 3) := by decide +kernel
theorem dX8_between_68 : decode cX8_between 68 = .ok (.iconst 1, 1) := by decide +kernel
theorem dX8_between_69 : decode cX8_between 69 = .ok (.iload_n 2, 1) := by decide +kernel
theorem dX8_between_70 : decode cX8_between 70 = .ok (.iadd, 1) := by decide +kernel
theorem dX8_between_71 : decode cX8_between 71 = .ok (.iaload, 1) := by decide +kernel
theorem dX8_between_72 : decode cX8_between 72 = .ok (.invokevirtual 171, 3) := by decide +kernel
theorem dX8_between_75 : decode cX8_between 75 = .ok (.ifCond .eq 7, 3) := by decide +kernel
theorem dX8_between_78 : decode cX8_between 78 = .ok (.iconst 1, 1) := by decide +kernel
theorem dX8_between_79 : decode cX8_between 79 = .ok (.goto 4, 3) := by decide +kernel
theorem dX8_between_82 : decode cX8_between 82 = .ok (.iconst 0, 1) := by decide +kernel
theorem dX8_between_83 : decode cX8_between 83 = .ok (.iadd, 1) := by decide +kernel
theorem dX8_between_84 : decode cX8_between 84 = .ok (.istore 4, 2) := by decide +kernel
theorem dX8_between_86 : decode cX8_between 86 = .ok (.iinc 5 1, 3) := by decide +kernel
theorem dX8_between_89 : decode cX8_between 89 = .ok (.goto (-66), 3) := by decide +kernel
theorem dX8_between_92 : decode cX8_between 92 = .ok (.iload 4, 2) := by decide +kernel
theorem dX8_between_94 : decode cX8_between 94 = .ok (.ireturn, 1) := by decide +kernel
theorem dX8_findPowers_0 : decode cX8_findPowers 0 = .ok (.iconst 0, 1) := by decide +kernel
theorem dX8_findPowers_1 : decode cX8_findPowers 1 = .ok (.istore_n 2, 1) := by decide +kernel
theorem dX8_findPowers_2 : decode cX8_findPowers 2 = .ok (.iload_n 2, 1) := by decide +kernel
theorem dX8_findPowers_3 : decode cX8_findPowers 3 = .ok (.bipush 8, 2) := by decide +kernel
theorem dX8_findPowers_5 : decode cX8_findPowers 5 = .ok (.if_icmp .gt 98, 3) := by decide +kernel
theorem dX8_findPowers_8 : decode cX8_findPowers 8 = .ok (.iconst 0, 1) := by decide +kernel
theorem dX8_findPowers_9 : decode cX8_findPowers 9 = .ok (.istore_n 3, 1) := by decide +kernel
theorem dX8_findPowers_10 : decode cX8_findPowers 10 = .ok (.iload_n 3, 1) := by decide +kernel
theorem dX8_findPowers_11 : decode cX8_findPowers 11 = .ok (.iload_n 1, 1) := by decide +kernel
theorem dX8_findPowers_12 : decode cX8_findPowers 12 = .ok (.if_icmp .gt 85, 3) := by decide +kernel
theorem dX8_findPowers_15 : decode cX8_findPowers 15 = .ok (.iload_n 2, 1) := by decide +kernel
theorem dX8_findPowers_16 : decode cX8_findPowers 16 = .ok (.ifCond .ne 11, 3) := by decide +kernel
theorem dX8_findPowers_19 : decode cX8_findPowers 19 = .ok (.iload_n 3, 1) := by decide +kernel
theorem dX8_findPowers_20 : decode cX8_findPowers 20 = .ok (.ifCond .ne 7, 3) := by decide +kernel
theorem dX8_findPowers_23 : decode cX8_findPowers 23 = .ok (.lconst 1, 1) := by decide +kernel
theorem dX8_findPowers_24 : decode cX8_findPowers 24 = .ok (.goto 4, 3) := by decide +kernel
theorem dX8_findPowers_27 : decode cX8_findPowers 27 = .ok (.lconst 0, 1) := by decide +kernel
theorem dX8_findPowers_28 : decode cX8_findPowers 28 = .ok (.lstore 4, 2) := by decide +kernel
theorem dX8_findPowers_30 : decode cX8_findPowers 30 = .ok (.iconst 0, 1) := by decide +kernel
theorem dX8_findPowers_31 : decode cX8_findPowers 31 = .ok (.istore 6, 2) := by decide +kernel
theorem dX8_findPowers_33 : decode cX8_findPowers 33 = .ok (.iload 6, 2) := by decide +kernel
theorem dX8_findPowers_35 : decode cX8_findPowers 35 = .ok (.iload_n 3, 1) := by decide +kernel
theorem dX8_findPowers_36 : decode cX8_findPowers 36 = .ok (.if_icmp .gt 42, 3) := by decide +kernel
theorem dX8_findPowers_39 : decode cX8_findPowers 39 = .ok (.iload_n 2, 1) := by decide +kernel
theorem dX8_findPowers_40 : decode cX8_findPowers 40 = .ok (.ifCond .le 38, 3) := by decide +kernel
theorem dX8_findPowers_43 : decode cX8_findPowers 43 = .ok (.lload 4, 2) := by decide +kernel
theorem dX8_findPowers_45 : decode cX8_findPowers 45 = .ok (.aload_n 0, 1) := by decide +kernel
theorem dX8_findPowers_46 : decode cX8_findPowers 46 = .ok (.getfield 40, 3) := by decide +kernel
theorem dX8_findPowers_49 : decode cX8_findPowers 49 = .ok (.iload 6, 2) := by decide +kernel
theorem dX8_findPowers_51 : decode cX8_findPowers 51 = .ok (.laload, 1) := by decide +kernel
theorem dX8_findPowers_52 : decode cX8_findPowers 52 = .ok (.aload_n 0, 1) := by decide +kernel
theorem dX8_findPowers_53 : decode cX8_findPowers 53 = .ok (.getfield 47, 3) := by decide +kernel
theorem dX8_findPowers_56 : decode cX8_findPowers 56 = .ok (.bipush 9, 2) := by decide +kernel
theorem dX8_findPowers_58 : decode cX8_findPowers 58 = .ok (.iload_n 2, 1) := by decide +kernel
theorem dX8_findPowers_59 : decode cX8_findPowers 59 = .ok (.iconst 1, 1) := by decide +kernel
theorem dX8_findPowers_60 : decode cX8_findPowers 60 = .ok (.isub, 1) := by decide +kernel
theorem dX8_findPowers_61 : decode cX8_findPowers 61 = .ok (.imul, 1) := by decide +kernel
theorem dX8_findPowers_62 : decode cX8_findPowers 62 = .ok (.iload_n 3, 1) := by decide +kernel
theorem dX8_findPowers_63 : decode cX8_findPowers 63 = .ok (.iadd, 1) := by decide +kernel
theorem dX8_findPowers_64 : decode cX8_findPowers 64 = .ok (.iload 6, 2) := by decide +kernel
theorem dX8_findPowers_66 : decode cX8_findPowers 66 = .ok (.isub, 1) := by decide +kernel
theorem dX8_findPowers_67 : decode cX8_findPowers 67 = .ok (.laload, 1) := by decide +kernel
theorem dX8_findPowers_68 : decode cX8_findPowers 68 = .ok (.lmul, 1) := by decide +kernel
theorem dX8_findPowers_69 : decode cX8_findPowers 69 = .ok (.ladd, 1) := by decide +kernel
theorem dX8_findPowers_70 : decode cX8_findPowers 70 = .ok (.lstore 4, 2) := by decide +kernel
theorem dX8_findPowers_72 : decode cX8_findPowers 72 = .ok (.iinc 6 1, 3) := by decide +kernel
theorem dX8_findPowers_75 : decode cX8_findPowers 75 = .ok (.goto (-42), 3) := by decide +kernel
theorem dX8_findPowers_78 : decode cX8_findPowers 78 = .ok (.aload_n 0, 1) := by decide +kernel
theorem dX8_findPowers_79 : decode cX8_findPowers 79 = .ok (.getfield 47, 3) := by decide +kernel
theorem dX8_findPowers_82 : decode cX8_findPowers 82 = .ok (.bipush 9, 2) := by decide +kernel
theorem dX8_findPowers_84 : decode cX8_findPowers 84 = .ok (.iload_n 2, 1) := by decide +kernel
theorem dX8_findPowers_85 : decode cX8_findPowers 85 = .ok (.imul, 1) := by decide +kernel
theorem dX8_findPowers_86 : decode cX8_findPowers 86 = .ok (.iload_n 3, 1) := by decide +kernel
theorem dX8_findPowers_87 : decode cX8_findPowers 87 = .ok (.iadd, 1) := by decide +kernel
theorem dX8_findPowers_88 : decode cX8_findPowers 88 = .ok (.lload 4, 2) := by decide +kernel
theorem dX8_findPowers_90 : decode cX8_findPowers 90 = .ok (.lastore, 1) := by decide +kernel
theorem dX8_findPowers_91 : decode cX8_findPowers 91 = .ok (.iinc 3 1, 3) := by decide +kernel
theorem dX8_findPowers_94 : decode cX8_findPowers 94 = .ok (.goto (-84), 3) := by decide +kernel
theorem dX8_findPowers_97 : decode cX8_findPowers 97 = .ok (.iinc 2 1, 3) := by decide +kernel
theorem dX8_findPowers_100 : decode cX8_findPowers 100 = .ok (.goto (-98), 3) := by decide +kernel
theorem dX8_findPowers_103 : decode cX8_findPowers 103 = .ok (.return_, 1) := by decide +kernel
theorem dX8_choose_0 : decode cX8_choose 0 = .ok (.lconst 1, 1) := by decide +kernel
theorem dX8_choose_1 : decode cX8_choose 1 = .ok (.lstore_n 2, 1) := by decide +kernel
theorem dX8_choose_2 : decode cX8_choose 2 = .ok (.iconst 0, 1) := by decide +kernel
theorem dX8_choose_3 : decode cX8_choose 3 = .ok (.istore 4, 2) := by decide +kernel
theorem dX8_choose_5 : decode cX8_choose 5 = .ok (.iload 4, 2) := by decide +kernel
theorem dX8_choose_7 : decode cX8_choose 7 = .ok (.iload_n 1, 1) := by decide +kernel
theorem dX8_choose_8 : decode cX8_choose 8 = .ok (.if_icmp .ge 23, 3) := by decide +kernel
theorem dX8_choose_11 : decode cX8_choose 11 = .ok (.lload_n 2, 1) := by decide +kernel
theorem dX8_choose_12 : decode cX8_choose 12 = .ok (.iload_n 0, 1) := by decide +kernel
theorem dX8_choose_13 : decode cX8_choose 13 = .ok (.iload 4, 2) := by decide +kernel
theorem dX8_choose_15 : decode cX8_choose 15 = .ok (.isub, 1) := by decide +kernel
theorem dX8_choose_16 : decode cX8_choose 16 = .ok (.i2l, 1) := by decide +kernel
theorem dX8_choose_17 : decode cX8_choose 17 = .ok (.lmul, 1) := by decide +kernel
theorem dX8_choose_18 : decode cX8_choose 18 = .ok (.iload 4, 2) := by decide +kernel
theorem dX8_choose_20 : decode cX8_choose 20 = .ok (.iconst 1, 1) := by decide +kernel
theorem dX8_choose_21 : decode cX8_choose 21 = .ok (.iadd, 1) := by decide +kernel
theorem dX8_choose_22 : decode cX8_choose 22 = .ok (.i2l, 1) := by decide +kernel
theorem dX8_choose_23 : decode cX8_choose 23 = .ok (.ldiv, 1) := by decide +kernel
theorem dX8_choose_24 : decode cX8_choose 24 = .ok (.lstore_n 2, 1) := by decide +kernel
theorem dX8_choose_25 : decode cX8_choose 25 = .ok (.iinc 4 1, 3) := by decide +kernel
theorem dX8_choose_28 : decode cX8_choose 28 = .ok (.goto (-23), 3) := by decide +kernel
theorem dX8_choose_31 : decode cX8_choose 31 = .ok (.lload_n 2, 1) := by decide +kernel
theorem dX8_choose_32 : decode cX8_choose 32 = .ok (.lreturn, 1) := by decide +kernel
theorem dX8_timesOf_0 : decode cX8_timesOf 0 = .ok (.iload_n 1, 1) := by decide +kernel
theorem dX8_timesOf_1 : decode cX8_timesOf 1 = .ok (.iconst 1, 1) := by decide +kernel
theorem dX8_timesOf_2 : decode cX8_timesOf 2 = .ok (.if_icmp .ne 19, 3) := by decide +kernel
theorem dX8_timesOf_5 : decode cX8_timesOf 5 = .ok (.aload_n 0, 1) := by decide +kernel
theorem dX8_timesOf_6 : decode cX8_timesOf 6 = .ok (.getfield 47, 3) := by decide +kernel
theorem dX8_timesOf_9 : decode cX8_timesOf 9 = .ok (.bipush 9, 2) := by decide +kernel
theorem dX8_timesOf_11 : decode cX8_timesOf 11 = .ok (.iload_n 3, 1) := by decide +kernel
theorem dX8_timesOf_12 : decode cX8_timesOf 12 = .ok (.imul, 1) := by decide +kernel
theorem dX8_timesOf_13 : decode cX8_timesOf 13 = .ok (.iload_n 2, 1) := by decide +kernel
theorem dX8_timesOf_14 : decode cX8_timesOf 14 = .ok (.iadd, 1) := by decide +kernel
theorem dX8_timesOf_15 : decode cX8_timesOf 15 = .ok (.iload_n 3, 1) := by decide +kernel
theorem dX8_timesOf_16 : decode cX8_timesOf 16 = .ok (.isub, 1) := by decide +kernel
theorem dX8_timesOf_17 : decode cX8_timesOf 17 = .ok (.laload, 1) := by decide +kernel
theorem dX8_timesOf_18 : decode cX8_timesOf 18 = .ok (.goto 21, 3) := by decide +kernel
theorem dX8_timesOf_21 : decode cX8_timesOf 21 = .ok (.iload_n 2, 1) := by decide +kernel
theorem dX8_timesOf_22 : decode cX8_timesOf 22 = .ok (.iconst 1, 1) := by decide +kernel
theorem dX8_timesOf_23 : decode cX8_timesOf 23 = .ok (.isub, 1) := by decide +kernel
theorem dX8_timesOf_24 : decode cX8_timesOf 24 = .ok (.iload_n 3, 1) := by decide +kernel
theorem dX8_timesOf_25 : decode cX8_timesOf 25 = .ok (.iconst 1, 1) := by decide +kernel
theorem dX8_timesOf_26 : decode cX8_timesOf 26 = .ok (.isub, 1) := by decide +kernel
theorem dX8_timesOf_27 : decode cX8_timesOf 27 = .ok (.invokestatic 203, 3) := by decide +kernel
theorem dX8_timesOf_30 : decode cX8_timesOf 30 = .ok (.aload_n 0, 1) := by decide +kernel
theorem dX8_timesOf_31 : decode cX8_timesOf 31 = .ok (.getfield 40, 3) := by decide +kernel
theorem dX8_timesOf_34 : decode cX8_timesOf 34 = .ok (.iload_n 2, 1) := by decide +kernel
theorem dX8_timesOf_35 : decode cX8_timesOf 35 = .ok (.iload_n 3, 1) := by decide +kernel
theorem dX8_timesOf_36 : decode cX8_timesOf 36 = .ok (.isub, 1) := by decide +kernel
theorem dX8_timesOf_37 : decode cX8_timesOf 37 = .ok (.laload, 1) := by decide +kernel
theorem dX8_timesOf_38 : decode cX8_timesOf 38 = .ok (.lmul, 1) := by decide +kernel
theorem dX8_timesOf_39 : decode cX8_timesOf 39 = .ok (.lreturn, 1) := by decide +kernel
theorem dX8_asOf_0 : decode cX8_asOf 0 = .ok (.iload_n 1, 1) := by decide +kernel
theorem dX8_asOf_1 : decode cX8_asOf 1 = .ok (.iload_n 2, 1) := by decide +kernel
theorem dX8_asOf_2 : decode cX8_asOf 2 = .ok (.if_icmp .ne 16, 3) := by decide +kernel
theorem dX8_asOf_5 : decode cX8_asOf 5 = .ok (.aload_n 0, 1) := by decide +kernel
theorem dX8_asOf_6 : decode cX8_asOf 6 = .ok (.getfield 7, 3) := by decide +kernel
theorem dX8_asOf_9 : decode cX8_asOf 9 = .ok (.bipush 7, 2) := by decide +kernel
theorem dX8_asOf_11 : decode cX8_asOf 11 = .ok (.iload_n 3, 1) := by decide +kernel
theorem dX8_asOf_12 : decode cX8_asOf 12 = .ok (.iadd, 1) := by decide +kernel
theorem dX8_asOf_13 : decode cX8_asOf 13 = .ok (.iconst 1, 1) := by decide +kernel
theorem dX8_asOf_14 : decode cX8_asOf 14 = .ok (.isub, 1) := by decide +kernel
theorem dX8_asOf_15 : decode cX8_asOf 15 = .ok (.iaload, 1) := by decide +kernel
theorem dX8_asOf_16 : decode cX8_asOf 16 = .ok (.i2l, 1) := by decide +kernel
theorem dX8_asOf_17 : decode cX8_asOf 17 = .ok (.lreturn, 1) := by decide +kernel
theorem dX8_asOf_18 : decode cX8_asOf 18 = .ok (.aload_n 0, 1) := by decide +kernel
theorem dX8_asOf_19 : decode cX8_asOf 19 = .ok (.getfield 40, 3) := by decide +kernel
theorem dX8_asOf_22 : decode cX8_asOf 22 = .ok (.iconst 0, 1) := by decide +kernel
theorem dX8_asOf_23 : decode cX8_asOf 23 = .ok (.lconst 1, 1) := by decide +kernel
theorem dX8_asOf_24 : decode cX8_asOf 24 = .ok (.lastore, 1) := by decide +kernel
theorem dX8_asOf_25 : decode cX8_asOf 25 = .ok (.iconst 1, 1) := by decide +kernel
theorem dX8_asOf_26 : decode cX8_asOf 26 = .ok (.istore 4, 2) := by decide +kernel
theorem dX8_asOf_28 : decode cX8_asOf 28 = .ok (.iload 4, 2) := by decide +kernel
theorem dX8_asOf_30 : decode cX8_asOf 30 = .ok (.iload_n 3, 1) := by decide +kernel
theorem dX8_asOf_31 : decode cX8_asOf 31 = .ok (.if_icmp .gt 101, 3) := by decide +kernel
theorem dX8_asOf_34 : decode cX8_asOf 34 = .ok (.iload_n 1, 1) := by decide +kernel
theorem dX8_asOf_35 : decode cX8_asOf 35 = .ok (.ifCond .ne 26, 3) := by decide +kernel
theorem dX8_asOf_38 : decode cX8_asOf 38 = .ok (.aload_n 0, 1) := by decide +kernel
theorem dX8_asOf_39 : decode cX8_asOf 39 = .ok (.getfield 40, 3) := by decide +kernel
theorem dX8_asOf_42 : decode cX8_asOf 42 = .ok (.iload 4, 2) := by decide +kernel
theorem dX8_asOf_44 : decode cX8_asOf 44 = .ok (.aload_n 0, 1) := by decide +kernel
theorem dX8_asOf_45 : decode cX8_asOf 45 = .ok (.getfield 7, 3) := by decide +kernel
theorem dX8_asOf_48 : decode cX8_asOf 48 = .ok (.bipush 7, 2) := by decide +kernel
theorem dX8_asOf_50 : decode cX8_asOf 50 = .ok (.iload 4, 2) := by decide +kernel
theorem dX8_asOf_52 : decode cX8_asOf 52 = .ok (.iadd, 1) := by decide +kernel
theorem dX8_asOf_53 : decode cX8_asOf 53 = .ok (.iconst 1, 1) := by decide +kernel
theorem dX8_asOf_54 : decode cX8_asOf 54 = .ok (.isub, 1) := by decide +kernel
theorem dX8_asOf_55 : decode cX8_asOf 55 = .ok (.iaload, 1) := by decide +kernel
theorem dX8_asOf_56 : decode cX8_asOf 56 = .ok (.i2l, 1) := by decide +kernel
theorem dX8_asOf_57 : decode cX8_asOf 57 = .ok (.lastore, 1) := by decide +kernel
theorem dX8_asOf_58 : decode cX8_asOf 58 = .ok (.goto 68, 3) := by decide +kernel
theorem dX8_asOf_61 : decode cX8_asOf 61 = .ok (.aload_n 0, 1) := by decide +kernel
theorem dX8_asOf_62 : decode cX8_asOf 62 = .ok (.iload 4, 2) := by decide +kernel
theorem dX8_asOf_64 : decode cX8_asOf 64 = .ok (.iconst 1, 1) := by decide +kernel
theorem dX8_asOf_65 : decode cX8_asOf 65 = .ok (.isub, 1) := by decide +kernel
theorem dX8_asOf_66 : decode cX8_asOf 66 = .ok (.invokevirtual 207, 3) := by decide +kernel
theorem dX8_asOf_69 : decode cX8_asOf 69 = .ok (.aload_n 0, 1) := by decide +kernel
theorem dX8_asOf_70 : decode cX8_asOf 70 = .ok (.getfield 40, 3) := by decide +kernel
theorem dX8_asOf_73 : decode cX8_asOf 73 = .ok (.iload 4, 2) := by decide +kernel
theorem dX8_asOf_75 : decode cX8_asOf 75 = .ok (.lconst 0, 1) := by decide +kernel
theorem dX8_asOf_76 : decode cX8_asOf 76 = .ok (.lastore, 1) := by decide +kernel
theorem dX8_asOf_77 : decode cX8_asOf 77 = .ok (.iconst 1, 1) := by decide +kernel
theorem dX8_asOf_78 : decode cX8_asOf 78 = .ok (.istore 5, 2) := by decide +kernel
theorem dX8_asOf_80 : decode cX8_asOf 80 = .ok (.iload 5, 2) := by decide +kernel
theorem dX8_asOf_82 : decode cX8_asOf 82 = .ok (.iload 4, 2) := by decide +kernel
theorem dX8_asOf_84 : decode cX8_asOf 84 = .ok (.if_icmp .gt 42, 3) := by decide +kernel
theorem dX8_asOf_87 : decode cX8_asOf 87 = .ok (.aload_n 0, 1) := by decide +kernel
theorem dX8_asOf_88 : decode cX8_asOf 88 = .ok (.getfield 40, 3) := by decide +kernel
theorem dX8_asOf_91 : decode cX8_asOf 91 = .ok (.iload 4, 2) := by decide +kernel
theorem dX8_asOf_93 : decode cX8_asOf 93 = .ok (.dup2, 1) := by decide +kernel
theorem dX8_asOf_94 : decode cX8_asOf 94 = .ok (.laload, 1) := by decide +kernel
theorem dX8_asOf_95 : decode cX8_asOf 95 = .ok (.aload_n 0, 1) := by decide +kernel
theorem dX8_asOf_96 : decode cX8_asOf 96 = .ok (.getfield 7, 3) := by decide +kernel
theorem dX8_asOf_99 : decode cX8_asOf 99 = .ok (.bipush 7, 2) := by decide +kernel
theorem dX8_asOf_101 : decode cX8_asOf 101 = .ok (.iload 5, 2) := by decide +kernel
theorem dX8_asOf_103 : decode cX8_asOf 103 = .ok (.iadd, 1) := by decide +kernel
theorem dX8_asOf_104 : decode cX8_asOf 104 = .ok (.iconst 1, 1) := by decide +kernel
theorem dX8_asOf_105 : decode cX8_asOf 105 = .ok (.isub, 1) := by decide +kernel
theorem dX8_asOf_106 : decode cX8_asOf 106 = .ok (.iaload, 1) := by decide +kernel
theorem dX8_asOf_107 : decode cX8_asOf 107 = .ok (.i2l, 1) := by decide +kernel
theorem dX8_asOf_108 : decode cX8_asOf 108 = .ok (.aload_n 0, 1) := by decide +kernel
theorem dX8_asOf_109 : decode cX8_asOf 109 = .ok (.iload_n 1, 1) := by decide +kernel
theorem dX8_asOf_110 : decode cX8_asOf 110 = .ok (.iload 4, 2) := by decide +kernel
theorem dX8_asOf_112 : decode cX8_asOf 112 = .ok (.iload 5, 2) := by decide +kernel
theorem dX8_asOf_114 : decode cX8_asOf 114 = .ok (.invokevirtual 210, 3) := by decide +kernel
theorem dX8_asOf_117 : decode cX8_asOf 117 = .ok (.lmul, 1) := by decide +kernel
theorem dX8_asOf_118 : decode cX8_asOf 118 = .ok (.ladd, 1) := by decide +kernel
theorem dX8_asOf_119 : decode cX8_asOf 119 = .ok (.lastore, 1) := by decide +kernel
theorem dX8_asOf_120 : decode cX8_asOf 120 = .ok (.iinc 5 1, 3) := by decide +kernel
theorem dX8_asOf_123 : decode cX8_asOf 123 = .ok (.goto (-43), 3) := by decide +kernel
theorem dX8_asOf_126 : decode cX8_asOf 126 = .ok (.iinc 4 1, 3) := by decide +kernel
theorem dX8_asOf_129 : decode cX8_asOf 129 = .ok (.goto (-101), 3) := by decide +kernel
theorem dX8_asOf_132 : decode cX8_asOf 132 = .ok (.iload_n 2, 1) := by decide +kernel
theorem dX8_asOf_133 : decode cX8_asOf 133 = .ok (.ifCond .ne 10, 3) := by decide +kernel
theorem dX8_asOf_136 : decode cX8_asOf 136 = .ok (.aload_n 0, 1) := by decide +kernel
theorem dX8_asOf_137 : decode cX8_asOf 137 = .ok (.getfield 40, 3) := by decide +kernel
theorem dX8_asOf_140 : decode cX8_asOf 140 = .ok (.iload_n 3, 1) := by decide +kernel
theorem dX8_asOf_141 : decode cX8_asOf 141 = .ok (.laload, 1) := by decide +kernel
theorem dX8_asOf_142 : decode cX8_asOf 142 = .ok (.lreturn, 1) := by decide +kernel
theorem dX8_asOf_143 : decode cX8_asOf 143 = .ok (.iconst 1, 1) := by decide +kernel
theorem dX8_asOf_144 : decode cX8_asOf 144 = .ok (.istore 4, 2) := by decide +kernel
theorem dX8_asOf_146 : decode cX8_asOf 146 = .ok (.iload 4, 2) := by decide +kernel
theorem dX8_asOf_148 : decode cX8_asOf 148 = .ok (.iload_n 3, 1) := by decide +kernel
theorem dX8_asOf_149 : decode cX8_asOf 149 = .ok (.if_icmp .gt 74, 3) := by decide +kernel
theorem dX8_asOf_152 : decode cX8_asOf 152 = .ok (.aload_n 0, 1) := by decide +kernel
theorem dX8_asOf_153 : decode cX8_asOf 153 = .ok (.iload 4, 2) := by decide +kernel
theorem dX8_asOf_155 : decode cX8_asOf 155 = .ok (.iconst 1, 1) := by decide +kernel
theorem dX8_asOf_156 : decode cX8_asOf 156 = .ok (.isub, 1) := by decide +kernel
theorem dX8_asOf_157 : decode cX8_asOf 157 = .ok (.invokevirtual 207, 3) := by decide +kernel
theorem dX8_asOf_160 : decode cX8_asOf 160 = .ok (.aload_n 0, 1) := by decide +kernel
theorem dX8_asOf_161 : decode cX8_asOf 161 = .ok (.getfield 44, 3) := by decide +kernel
theorem dX8_asOf_164 : decode cX8_asOf 164 = .ok (.iload 4, 2) := by decide +kernel
theorem dX8_asOf_166 : decode cX8_asOf 166 = .ok (.aload_n 0, 1) := by decide +kernel
theorem dX8_asOf_167 : decode cX8_asOf 167 = .ok (.getfield 40, 3) := by decide +kernel
theorem dX8_asOf_170 : decode cX8_asOf 170 = .ok (.iload 4, 2) := by decide +kernel
theorem dX8_asOf_172 : decode cX8_asOf 172 = .ok (.laload, 1) := by decide +kernel
theorem dX8_asOf_173 : decode cX8_asOf 173 = .ok (.lastore, 1) := by decide +kernel
theorem dX8_asOf_174 : decode cX8_asOf 174 = .ok (.iconst 1, 1) := by decide +kernel
theorem dX8_asOf_175 : decode cX8_asOf 175 = .ok (.istore 5, 2) := by decide +kernel
theorem dX8_asOf_177 : decode cX8_asOf 177 = .ok (.iload 5, 2) := by decide +kernel
theorem dX8_asOf_179 : decode cX8_asOf 179 = .ok (.iload 4, 2) := by decide +kernel
theorem dX8_asOf_181 : decode cX8_asOf 181 = .ok (.if_icmp .ge 36, 3) := by decide +kernel
theorem dX8_asOf_184 : decode cX8_asOf 184 = .ok (.aload_n 0, 1) := by decide +kernel
theorem dX8_asOf_185 : decode cX8_asOf 185 = .ok (.getfield 44, 3) := by decide +kernel
theorem dX8_asOf_188 : decode cX8_asOf 188 = .ok (.iload 4, 2) := by decide +kernel
theorem dX8_asOf_190 : decode cX8_asOf 190 = .ok (.dup2, 1) := by decide +kernel
theorem dX8_asOf_191 : decode cX8_asOf 191 = .ok (.laload, 1) := by decide +kernel
theorem dX8_asOf_192 : decode cX8_asOf 192 = .ok (.aload_n 0, 1) := by decide +kernel
theorem dX8_asOf_193 : decode cX8_asOf 193 = .ok (.getfield 44, 3) := by decide +kernel
theorem dX8_asOf_196 : decode cX8_asOf 196 = .ok (.iload 5, 2) := by decide +kernel
theorem dX8_asOf_198 : decode cX8_asOf 198 = .ok (.laload, 1) := by decide +kernel
theorem dX8_asOf_199 : decode cX8_asOf 199 = .ok (.aload_n 0, 1) := by decide +kernel
theorem dX8_asOf_200 : decode cX8_asOf 200 = .ok (.iload_n 2, 1) := by decide +kernel
theorem dX8_asOf_201 : decode cX8_asOf 201 = .ok (.iload 4, 2) := by decide +kernel
theorem dX8_asOf_203 : decode cX8_asOf 203 = .ok (.iload 5, 2) := by decide +kernel
theorem dX8_asOf_205 : decode cX8_asOf 205 = .ok (.invokevirtual 210, 3) := by decide +kernel
theorem dX8_asOf_208 : decode cX8_asOf 208 = .ok (.lmul, 1) := by decide +kernel
theorem dX8_asOf_209 : decode cX8_asOf 209 = .ok (.lsub, 1) := by decide +kernel
theorem dX8_asOf_210 : decode cX8_asOf 210 = .ok (.lastore, 1) := by decide +kernel
theorem dX8_asOf_211 : decode cX8_asOf 211 = .ok (.iinc 5 1, 3) := by decide +kernel
theorem dX8_asOf_214 : decode cX8_asOf 214 = .ok (.goto (-37), 3) := by decide +kernel
theorem dX8_asOf_217 : decode cX8_asOf 217 = .ok (.iinc 4 1, 3) := by decide +kernel
theorem dX8_asOf_220 : decode cX8_asOf 220 = .ok (.goto (-74), 3) := by decide +kernel
theorem dX8_asOf_223 : decode cX8_asOf 223 = .ok (.aload_n 0, 1) := by decide +kernel
theorem dX8_asOf_224 : decode cX8_asOf 224 = .ok (.getfield 44, 3) := by decide +kernel
theorem dX8_asOf_227 : decode cX8_asOf 227 = .ok (.iload_n 3, 1) := by decide +kernel
theorem dX8_asOf_228 : decode cX8_asOf 228 = .ok (.laload, 1) := by decide +kernel
theorem dX8_asOf_229 : decode cX8_asOf 229 = .ok (.lreturn, 1) := by decide +kernel
theorem dX8_as_0 : decode cX8_as 0 = .ok (.iload_n 1, 1) := by decide +kernel
theorem dX8_as_1 : decode cX8_as 1 = .ok (.iconst 0, 1) := by decide +kernel
theorem dX8_as_2 : decode cX8_as 2 = .ok (.iconst 2, 1) := by decide +kernel
theorem dX8_as_3 : decode cX8_as 3 = .ok (.invokestatic 100, 3) := by decide +kernel
theorem dX8_as_6 : decode cX8_as 6 = .ok (.ifCond .eq 22, 3) := by decide +kernel
theorem dX8_as_9 : decode cX8_as 9 = .ok (.iload_n 2, 1) := by decide +kernel
theorem dX8_as_10 : decode cX8_as 10 = .ok (.iconst 0, 1) := by decide +kernel
theorem dX8_as_11 : decode cX8_as 11 = .ok (.iconst 2, 1) := by decide +kernel
theorem dX8_as_12 : decode cX8_as 12 = .ok (.invokestatic 100, 3) := by decide +kernel
theorem dX8_as_15 : decode cX8_as 15 = .ok (.ifCond .eq 13, 3) := by decide +kernel
theorem dX8_as_18 : decode cX8_as 18 = .ok (.iload_n 3, 1) := by decide +kernel
theorem dX8_as_19 : decode cX8_as 19 = .ok (.iconst 1, 1) := by decide +kernel
theorem dX8_as_20 : decode cX8_as 20 = .ok (.bipush 8, 2) := by decide +kernel
theorem dX8_as_22 : decode cX8_as 22 = .ok (.invokestatic 100, 3) := by decide +kernel
theorem dX8_as_25 : decode cX8_as 25 = .ok (.ifCond .ne 17, 3) := by decide +kernel
theorem dX8_as_28 : decode cX8_as 28 = .ok (.aload_n 0, 1) := by decide +kernel
theorem dX8_as_29 : decode cX8_as 29 = .ok (.getfield 19, 3) := by decide +kernel
theorem dX8_as_32 : decode cX8_as 32 = .ok (.iconst 0, 1) := by decide +kernel
theorem dX8_as_33 : decode cX8_as 33 = .ok (.dup2, 1) := by decide +kernel
theorem dX8_as_34 : decode cX8_as 34 = .ok (.iaload, 1) := by decide +kernel
theorem dX8_as_35 : decode cX8_as 35 = .ok (.iconst 1, 1) := by decide +kernel
theorem dX8_as_36 : decode cX8_as 36 = .ok (.iadd, 1) := by decide +kernel
theorem dX8_as_37 : decode cX8_as 37 = .ok (.iastore, 1) := by decide +kernel
theorem dX8_as_38 : decode cX8_as 38 = .ok (.ldc2_w 214, 3) := by decide +kernel
theorem dX8_as_41 : decode cX8_as 41 = .ok (.lreturn, 1) := by decide +kernel
theorem dX8_as_42 : decode cX8_as 42 = .ok (.aload_n 0, 1) := by decide +kernel
theorem dX8_as_43 : decode cX8_as 43 = .ok (.iload_n 1, 1) := by decide +kernel
theorem dX8_as_44 : decode cX8_as 44 = .ok (.iload_n 2, 1) := by decide +kernel
theorem dX8_as_45 : decode cX8_as 45 = .ok (.iload_n 3, 1) := by decide +kernel
theorem dX8_as_46 : decode cX8_as 46 = .ok (.invokevirtual 216, 3) := by decide +kernel
theorem dX8_as_49 : decode cX8_as 49 = .ok (.lreturn, 1) := by decide +kernel
theorem dX8_type_0 : decode cX8_type 0 = .ok (.iload_n 1, 1) := by decide +kernel
theorem dX8_type_1 : decode cX8_type 1 = .ok (.iconst 0, 1) := by decide +kernel
theorem dX8_type_2 : decode cX8_type 2 = .ok (.bipush 127, 2) := by decide +kernel
theorem dX8_type_4 : decode cX8_type 4 = .ok (.invokestatic 100, 3) := by decide +kernel
theorem dX8_type_7 : decode cX8_type 7 = .ok (.ifCond .ne 10, 3) := by decide +kernel
theorem dX8_type_10 : decode cX8_type 10 = .ok (.aload_n 0, 1) := by decide +kernel
theorem dX8_type_11 : decode cX8_type 11 = .ok (.bipush (-2), 2) := by decide +kernel
theorem dX8_type_13 : decode cX8_type 13 = .ok (.invokevirtual 131, 3) := by decide +kernel
theorem dX8_type_16 : decode cX8_type 16 = .ok (.ireturn, 1) := by decide +kernel
theorem dX8_type_17 : decode cX8_type 17 = .ok (.aload_n 0, 1) := by decide +kernel
theorem dX8_type_18 : decode cX8_type 18 = .ok (.getfield 219, 3) := by decide +kernel
theorem dX8_type_21 : decode cX8_type 21 = .ok (.bipush 120, 2) := by decide +kernel
theorem dX8_type_23 : decode cX8_type 23 = .ok (.if_icmp .ne 10, 3) := by decide +kernel
theorem dX8_type_26 : decode cX8_type 26 = .ok (.aload_n 0, 1) := by decide +kernel
theorem dX8_type_27 : decode cX8_type 27 = .ok (.bipush (-4), 2) := by decide +kernel
theorem dX8_type_29 : decode cX8_type 29 = .ok (.invokevirtual 131, 3) := by decide +kernel
theorem dX8_type_32 : decode cX8_type 32 = .ok (.ireturn, 1) := by decide +kernel
theorem dX8_type_33 : decode cX8_type 33 = .ok (.aload_n 0, 1) := by decide +kernel
theorem dX8_type_34 : decode cX8_type 34 = .ok (.getfield 22, 3) := by decide +kernel
theorem dX8_type_37 : decode cX8_type 37 = .ok (.aload_n 0, 1) := by decide +kernel
theorem dX8_type_38 : decode cX8_type 38 = .ok (.getfield 219, 3) := by decide +kernel
theorem dX8_type_41 : decode cX8_type 41 = .ok (.iload_n 1, 1) := by decide +kernel
theorem dX8_type_42 : decode cX8_type 42 = .ok (.iastore, 1) := by decide +kernel
theorem dX8_type_43 : decode cX8_type 43 = .ok (.aload_n 0, 1) := by decide +kernel
theorem dX8_type_44 : decode cX8_type 44 = .ok (.dup, 1) := by decide +kernel
theorem dX8_type_45 : decode cX8_type 45 = .ok (.getfield 219, 3) := by decide +kernel
theorem dX8_type_48 : decode cX8_type 48 = .ok (.iconst 1, 1) := by decide +kernel
theorem dX8_type_49 : decode cX8_type 49 = .ok (.iadd, 1) := by decide +kernel
theorem dX8_type_50 : decode cX8_type 50 = .ok (.putfield 219, 3) := by decide +kernel
theorem dX8_type_53 : decode cX8_type 53 = .ok (.aload_n 0, 1) := by decide +kernel
theorem dX8_type_54 : decode cX8_type 54 = .ok (.getfield 219, 3) := by decide +kernel
theorem dX8_type_57 : decode cX8_type 57 = .ok (.ireturn, 1) := by decide +kernel
theorem dX8_clear_0 : decode cX8_clear 0 = .ok (.aload_n 0, 1) := by decide +kernel
theorem dX8_clear_1 : decode cX8_clear 1 = .ok (.getfield 219, 3) := by decide +kernel
theorem dX8_clear_4 : decode cX8_clear 4 = .ok (.istore_n 1, 1) := by decide +kernel
theorem dX8_clear_5 : decode cX8_clear 5 = .ok (.aload_n 0, 1) := by decide +kernel
theorem dX8_clear_6 : decode cX8_clear 6 = .ok (.iconst 0, 1) := by decide +kernel
theorem dX8_clear_7 : decode cX8_clear 7 = .ok (.putfield 219, 3) := by decide +kernel
theorem dX8_clear_10 : decode cX8_clear 10 = .ok (.iload_n 1, 1) := by decide +kernel
theorem dX8_clear_11 : decode cX8_clear 11 = .ok (.ireturn, 1) := by decide +kernel
theorem dX8_here_0 : decode cX8_here 0 = .ok (.aload_n 0, 1) := by decide +kernel
theorem dX8_here_1 : decode cX8_here 1 = .ok (.getfield 222, 3) := by decide +kernel
theorem dX8_here_4 : decode cX8_here 4 = .ok (.aload_n 0, 1) := by decide +kernel
theorem dX8_here_5 : decode cX8_here 5 = .ok (.getfield 219, 3) := by decide +kernel
theorem dX8_here_8 : decode cX8_here 8 = .ok (.if_icmp .ge 30, 3) := by decide +kernel
theorem dX8_here_11 : decode cX8_here 11 = .ok (.aload_n 0, 1) := by decide +kernel
theorem dX8_here_12 : decode cX8_here 12 = .ok (.getfield 22, 3) := by decide +kernel
theorem dX8_here_15 : decode cX8_here 15 = .ok (.aload_n 0, 1) := by decide +kernel
theorem dX8_here_16 : decode cX8_here 16 = .ok (.getfield 222, 3) := by decide +kernel
theorem dX8_here_19 : decode cX8_here 19 = .ok (.iaload, 1) := by decide +kernel
theorem dX8_here_20 : decode cX8_here 20 = .ok (.bipush 32, 2) := by decide +kernel
theorem dX8_here_22 : decode cX8_here 22 = .ok (.if_icmp .ne 16, 3) := by decide +kernel
theorem dX8_here_25 : decode cX8_here 25 = .ok (.aload_n 0, 1) := by decide +kernel
theorem dX8_here_26 : decode cX8_here 26 = .ok (.dup, 1) := by decide +kernel
theorem dX8_here_27 : decode cX8_here 27 = .ok (.getfield 222, 3) := by decide +kernel
theorem dX8_here_30 : decode cX8_here 30 = .ok (.iconst 1, 1) := by decide +kernel
theorem dX8_here_31 : decode cX8_here 31 = .ok (.iadd, 1) := by decide +kernel
theorem dX8_here_32 : decode cX8_here 32 = .ok (.putfield 222, 3) := by decide +kernel
theorem dX8_here_35 : decode cX8_here 35 = .ok (.goto (-35), 3) := by decide +kernel
theorem dX8_here_38 : decode cX8_here 38 = .ok (.aload_n 0, 1) := by decide +kernel
theorem dX8_here_39 : decode cX8_here 39 = .ok (.getfield 222, 3) := by decide +kernel
theorem dX8_here_42 : decode cX8_here 42 = .ok (.aload_n 0, 1) := by decide +kernel
theorem dX8_here_43 : decode cX8_here 43 = .ok (.getfield 219, 3) := by decide +kernel
theorem dX8_here_46 : decode cX8_here 46 = .ok (.if_icmp .ge 15, 3) := by decide +kernel
theorem dX8_here_49 : decode cX8_here 49 = .ok (.aload_n 0, 1) := by decide +kernel
theorem dX8_here_50 : decode cX8_here 50 = .ok (.getfield 22, 3) := by decide +kernel
theorem dX8_here_53 : decode cX8_here 53 = .ok (.aload_n 0, 1) := by decide +kernel
theorem dX8_here_54 : decode cX8_here 54 = .ok (.getfield 222, 3) := by decide +kernel
theorem dX8_here_57 : decode cX8_here 57 = .ok (.iaload, 1) := by decide +kernel
theorem dX8_here_58 : decode cX8_here 58 = .ok (.goto 4, 3) := by decide +kernel
theorem dX8_here_61 : decode cX8_here 61 = .ok (.iconst (-1), 1) := by decide +kernel
theorem dX8_here_62 : decode cX8_here 62 = .ok (.ireturn, 1) := by decide +kernel
theorem dX8_must_0 : decode cX8_must 0 = .ok (.aload_n 0, 1) := by decide +kernel
theorem dX8_must_1 : decode cX8_must 1 = .ok (.getfield 225, 3) := by decide +kernel
theorem dX8_must_4 : decode cX8_must 4 = .ok (.iconst (-1), 1) := by decide +kernel
theorem dX8_must_5 : decode cX8_must 5 = .ok (.if_icmp .ne 15, 3) := by decide +kernel
theorem dX8_must_8 : decode cX8_must 8 = .ok (.iload_n 1, 1) := by decide +kernel
theorem dX8_must_9 : decode cX8_must 9 = .ok (.ifCond .ne 11, 3) := by decide +kernel
theorem dX8_must_12 : decode cX8_must 12 = .ok (.aload_n 0, 1) := by decide +kernel
theorem dX8_must_13 : decode cX8_must 13 = .ok (.aload_n 0, 1) := by decide +kernel
theorem dX8_must_14 : decode cX8_must 14 = .ok (.getfield 222, 3) := by decide +kernel
theorem dX8_must_17 : decode cX8_must 17 = .ok (.putfield 225, 3) := by decide +kernel
theorem dX8_must_20 : decode cX8_must 20 = .ok (.return_, 1) := by decide +kernel
theorem dX8_isFigure_0 : decode cX8_isFigure 0 = .ok (.aload_n 0, 1) := by decide +kernel
theorem dX8_isFigure_1 : decode cX8_isFigure 1 = .ok (.getfield 222, 3) := by decide +kernel
theorem dX8_isFigure_4 : decode cX8_isFigure 4 = .ok (.aload_n 0, 1) := by decide +kernel
theorem dX8_isFigure_5 : decode cX8_isFigure 5 = .ok (.getfield 219, 3) := by decide +kernel
theorem dX8_isFigure_8 : decode cX8_isFigure 8 = .ok (.if_icmp .ge 26, 3) := by decide +kernel
theorem dX8_isFigure_11 : decode cX8_isFigure 11 = .ok (.aload_n 0, 1) := by decide +kernel
theorem dX8_isFigure_12 : decode cX8_isFigure 12 = .ok (.getfield 22, 3) := by decide +kernel
theorem dX8_isFigure_15 : decode cX8_isFigure 15 = .ok (.aload_n 0, 1) := by decide +kernel
theorem dX8_isFigure_16 : decode cX8_isFigure 16 = .ok (.getfield 222, 3) := by decide +kernel
theorem dX8_isFigure_19 : decode cX8_isFigure 19 = .ok (.iaload, 1) := by decide +kernel
theorem dX8_isFigure_20 : decode cX8_isFigure 20 = .ok (.bipush 48, 2) := by decide +kernel
theorem dX8_isFigure_22 : decode cX8_isFigure 22 = .ok (.bipush 57, 2) := by decide +kernel
theorem dX8_isFigure_24 : decode cX8_isFigure 24 = .ok (.invokestatic 100, 3) := by decide +kernel
theorem dX8_isFigure_27 : decode cX8_isFigure 27 = .ok (.ifCond .eq 7, 3) := by decide +kernel
theorem dX8_isFigure_30 : decode cX8_isFigure 30 = .ok (.iconst 1, 1) := by decide +kernel
theorem dX8_isFigure_31 : decode cX8_isFigure 31 = .ok (.goto 4, 3) := by decide +kernel
theorem dX8_isFigure_34 : decode cX8_isFigure 34 = .ok (.iconst 0, 1) := by decide +kernel
theorem dX8_isFigure_35 : decode cX8_isFigure 35 = .ok (.ireturn, 1) := by decide +kernel
theorem dX8_plain_0 : decode cX8_plain 0 = .ok (.aload_n 0, 1) := by decide +kernel
theorem dX8_plain_1 : decode cX8_plain 1 = .ok (.aload_n 0, 1) := by decide +kernel
theorem dX8_plain_2 : decode cX8_plain 2 = .ok (.invokevirtual 228, 3) := by decide +kernel
theorem dX8_plain_5 : decode cX8_plain 5 = .ok (.invokevirtual 231, 3) := by decide +kernel
theorem dX8_plain_8 : decode cX8_plain 8 = .ok (.iconst 0, 1) := by decide +kernel
theorem dX8_plain_9 : decode cX8_plain 9 = .ok (.istore_n 1, 1) := by decide +kernel
theorem dX8_plain_10 : decode cX8_plain 10 = .ok (.iconst 0, 1) := by decide +kernel
theorem dX8_plain_11 : decode cX8_plain 11 = .ok (.istore_n 2, 1) := by decide +kernel
theorem dX8_plain_12 : decode cX8_plain 12 = .ok (.iload_n 2, 1) := by decide +kernel
theorem dX8_plain_13 : decode cX8_plain 13 = .ok (.iconst 4, 1) := by decide +kernel
theorem dX8_plain_14 : decode cX8_plain 14 = .ok (.if_icmp .ge 52, 3) := by decide +kernel
theorem dX8_plain_17 : decode cX8_plain 17 = .ok (.aload_n 0, 1) := by decide +kernel
theorem dX8_plain_18 : decode cX8_plain 18 = .ok (.invokevirtual 228, 3) := by decide +kernel
theorem dX8_plain_21 : decode cX8_plain 21 = .ok (.ifCond .eq 45, 3) := by decide +kernel
theorem dX8_plain_24 : decode cX8_plain 24 = .ok (.aload_n 0, 1) := by decide +kernel
theorem dX8_plain_25 : decode cX8_plain 25 = .ok (.getfield 225, 3) := by decide +kernel
theorem dX8_plain_28 : decode cX8_plain 28 = .ok (.iconst (-1), 1) := by decide +kernel
theorem dX8_plain_29 : decode cX8_plain 29 = .ok (.if_icmp .ne 37, 3) := by decide +kernel
theorem dX8_plain_32 : decode cX8_plain 32 = .ok (.bipush 10, 2) := by decide +kernel
theorem dX8_plain_34 : decode cX8_plain 34 = .ok (.iload_n 1, 1) := by decide +kernel
theorem dX8_plain_35 : decode cX8_plain 35 = .ok (.imul, 1) := by decide +kernel
theorem dX8_plain_36 : decode cX8_plain 36 = .ok (.aload_n 0, 1) := by decide +kernel
theorem dX8_plain_37 : decode cX8_plain 37 = .ok (.getfield 22, 3) := by decide +kernel
theorem dX8_plain_40 : decode cX8_plain 40 = .ok (.aload_n 0, 1) := by decide +kernel
theorem dX8_plain_41 : decode cX8_plain 41 = .ok (.getfield 222, 3) := by decide +kernel
theorem dX8_plain_44 : decode cX8_plain 44 = .ok (.iaload, 1) := by decide +kernel
theorem dX8_plain_45 : decode cX8_plain 45 = .ok (.iadd, 1) := by decide +kernel
theorem dX8_plain_46 : decode cX8_plain 46 = .ok (.bipush 48, 2) := by decide +kernel
theorem dX8_plain_48 : decode cX8_plain 48 = .ok (.isub, 1) := by decide +kernel
theorem dX8_plain_49 : decode cX8_plain 49 = .ok (.istore_n 1, 1) := by decide +kernel
theorem dX8_plain_50 : decode cX8_plain 50 = .ok (.aload_n 0, 1) := by decide +kernel
theorem dX8_plain_51 : decode cX8_plain 51 = .ok (.dup, 1) := by decide +kernel
theorem dX8_plain_52 : decode cX8_plain 52 = .ok (.getfield 222, 3) := by decide +kernel
theorem dX8_plain_55 : decode cX8_plain 55 = .ok (.iconst 1, 1) := by decide +kernel
theorem dX8_plain_56 : decode cX8_plain 56 = .ok (.iadd, 1) := by decide +kernel
theorem dX8_plain_57 : decode cX8_plain 57 = .ok (.putfield 222, 3) := by decide +kernel
theorem dX8_plain_60 : decode cX8_plain 60 = .ok (.iinc 2 1, 3) := by decide +kernel
theorem dX8_plain_63 : decode cX8_plain 63 = .ok (.goto (-51), 3) := by decide +kernel
theorem dX8_plain_66 : decode cX8_plain 66 = .ok (.aload_n 0, 1) := by decide +kernel
theorem dX8_plain_67 : decode cX8_plain 67 = .ok (.aload_n 0, 1) := by decide +kernel
theorem dX8_plain_68 : decode cX8_plain 68 = .ok (.invokevirtual 228, 3) := by decide +kernel
theorem dX8_plain_71 : decode cX8_plain 71 = .ok (.ifCond .ne 7, 3) := by decide +kernel
theorem dX8_plain_74 : decode cX8_plain 74 = .ok (.iconst 1, 1) := by decide +kernel
theorem dX8_plain_75 : decode cX8_plain 75 = .ok (.goto 4, 3) := by decide +kernel
theorem dX8_plain_78 : decode cX8_plain 78 = .ok (.iconst 0, 1) := by decide +kernel
theorem dX8_plain_79 : decode cX8_plain 79 = .ok (.invokevirtual 231, 3) := by decide +kernel
theorem dX8_plain_82 : decode cX8_plain 82 = .ok (.iload_n 1, 1) := by decide +kernel
theorem dX8_plain_83 : decode cX8_plain 83 = .ok (.ireturn, 1) := by decide +kernel
theorem dX8_read_0 : decode cX8_read 0 = .ok (.aload_n 0, 1) := by decide +kernel
theorem dX8_read_1 : decode cX8_read 1 = .ok (.invokevirtual 235, 3) := by decide +kernel
theorem dX8_read_4 : decode cX8_read 4 = .ok (.bipush 45, 2) := by decide +kernel
theorem dX8_read_6 : decode cX8_read 6 = .ok (.if_icmp .ne 23, 3) := by decide +kernel
theorem dX8_read_9 : decode cX8_read 9 = .ok (.iload_n 1, 1) := by decide +kernel
theorem dX8_read_10 : decode cX8_read 10 = .ok (.ifCond .eq 19, 3) := by decide +kernel
theorem dX8_read_13 : decode cX8_read 13 = .ok (.aload_n 0, 1) := by decide +kernel
theorem dX8_read_14 : decode cX8_read 14 = .ok (.dup, 1) := by decide +kernel
theorem dX8_read_15 : decode cX8_read 15 = .ok (.getfield 222, 3) := by decide +kernel
theorem dX8_read_18 : decode cX8_read 18 = .ok (.iconst 1, 1) := by decide +kernel
theorem dX8_read_19 : decode cX8_read 19 = .ok (.iadd, 1) := by decide +kernel
theorem dX8_read_20 : decode cX8_read 20 = .ok (.putfield 222, 3) := by decide +kernel
theorem dX8_read_23 : decode cX8_read 23 = .ok (.aload_n 0, 1) := by decide +kernel
theorem dX8_read_24 : decode cX8_read 24 = .ok (.invokevirtual 238, 3) := by decide +kernel
theorem dX8_read_27 : decode cX8_read 27 = .ok (.ineg, 1) := by decide +kernel
theorem dX8_read_28 : decode cX8_read 28 = .ok (.ireturn, 1) := by decide +kernel
theorem dX8_read_29 : decode cX8_read 29 = .ok (.aload_n 0, 1) := by decide +kernel
theorem dX8_read_30 : decode cX8_read 30 = .ok (.invokevirtual 238, 3) := by decide +kernel
theorem dX8_read_33 : decode cX8_read 33 = .ok (.ireturn, 1) := by decide +kernel
theorem dX8_numbersOf_0 : decode cX8_numbersOf 0 = .ok (.iload_n 0, 1) := by decide +kernel
theorem dX8_numbersOf_1 : decode cX8_numbersOf 1 = .ok (.tableswitch 81 106 120 #[79, 77, 81, 79, 75, 81, 79, 81, 81, 81, 77, 77, 81, 81, 77], 75) := by decide +kernel
theorem dX8_numbersOf_76 : decode cX8_numbersOf 76 = .ok (.iconst 1, 1) := by decide +kernel
theorem dX8_numbersOf_77 : decode cX8_numbersOf 77 = .ok (.ireturn, 1) := by decide +kernel
theorem dX8_numbersOf_78 : decode cX8_numbersOf 78 = .ok (.iconst 2, 1) := by decide +kernel
theorem dX8_numbersOf_79 : decode cX8_numbersOf 79 = .ok (.ireturn, 1) := by decide +kernel
theorem dX8_numbersOf_80 : decode cX8_numbersOf 80 = .ok (.iconst 3, 1) := by decide +kernel
theorem dX8_numbersOf_81 : decode cX8_numbersOf 81 = .ok (.ireturn, 1) := by decide +kernel
theorem dX8_numbersOf_82 : decode cX8_numbersOf 82 = .ok (.iconst (-1), 1) := by decide +kernel
theorem dX8_numbersOf_83 : decode cX8_numbersOf 83 = .ok (.ireturn, 1) := by decide +kernel
theorem dX8_readOrder_0 : decode cX8_readOrder 0 = .ok (.aload_n 0, 1) := by decide +kernel
theorem dX8_readOrder_1 : decode cX8_readOrder 1 = .ok (.invokevirtual 235, 3) := by decide +kernel
theorem dX8_readOrder_4 : decode cX8_readOrder 4 = .ok (.istore_n 1, 1) := by decide +kernel
theorem dX8_readOrder_5 : decode cX8_readOrder 5 = .ok (.iload_n 1, 1) := by decide +kernel
theorem dX8_readOrder_6 : decode cX8_readOrder 6 = .ok (.invokestatic 241, 3) := by decide +kernel
theorem dX8_readOrder_9 : decode cX8_readOrder 9 = .ok (.istore_n 2, 1) := by decide +kernel
theorem dX8_readOrder_10 : decode cX8_readOrder 10 = .ok (.aload_n 0, 1) := by decide +kernel
theorem dX8_readOrder_11 : decode cX8_readOrder 11 = .ok (.iload_n 2, 1) := by decide +kernel
theorem dX8_readOrder_12 : decode cX8_readOrder 12 = .ok (.iconst (-1), 1) := by decide +kernel
theorem dX8_readOrder_13 : decode cX8_readOrder 13 = .ok (.if_icmp .eq 7, 3) := by decide +kernel
theorem dX8_readOrder_16 : decode cX8_readOrder 16 = .ok (.iconst 1, 1) := by decide +kernel
theorem dX8_readOrder_17 : decode cX8_readOrder 17 = .ok (.goto 4, 3) := by decide +kernel
theorem dX8_readOrder_20 : decode cX8_readOrder 20 = .ok (.iconst 0, 1) := by decide +kernel
theorem dX8_readOrder_21 : decode cX8_readOrder 21 = .ok (.invokevirtual 231, 3) := by decide +kernel
theorem dX8_readOrder_24 : decode cX8_readOrder 24 = .ok (.aload_n 0, 1) := by decide +kernel
theorem dX8_readOrder_25 : decode cX8_readOrder 25 = .ok (.dup, 1) := by decide +kernel
theorem dX8_readOrder_26 : decode cX8_readOrder 26 = .ok (.getfield 222, 3) := by decide +kernel
theorem dX8_readOrder_29 : decode cX8_readOrder 29 = .ok (.iconst 1, 1) := by decide +kernel
theorem dX8_readOrder_30 : decode cX8_readOrder 30 = .ok (.iadd, 1) := by decide +kernel
theorem dX8_readOrder_31 : decode cX8_readOrder 31 = .ok (.putfield 222, 3) := by decide +kernel
theorem dX8_readOrder_34 : decode cX8_readOrder 34 = .ok (.iconst 0, 1) := by decide +kernel
theorem dX8_readOrder_35 : decode cX8_readOrder 35 = .ok (.istore_n 3, 1) := by decide +kernel
theorem dX8_readOrder_36 : decode cX8_readOrder 36 = .ok (.iload_n 3, 1) := by decide +kernel
theorem dX8_readOrder_37 : decode cX8_readOrder 37 = .ok (.iload_n 2, 1) := by decide +kernel
theorem dX8_readOrder_38 : decode cX8_readOrder 38 = .ok (.if_icmp .ge 50, 3) := by decide +kernel
theorem dX8_readOrder_41 : decode cX8_readOrder 41 = .ok (.aload_n 0, 1) := by decide +kernel
theorem dX8_readOrder_42 : decode cX8_readOrder 42 = .ok (.getfield 225, 3) := by decide +kernel
theorem dX8_readOrder_45 : decode cX8_readOrder 45 = .ok (.iconst (-1), 1) := by decide +kernel
theorem dX8_readOrder_46 : decode cX8_readOrder 46 = .ok (.if_icmp .ne 42, 3) := by decide +kernel
theorem dX8_readOrder_49 : decode cX8_readOrder 49 = .ok (.aload_n 0, 1) := by decide +kernel
theorem dX8_readOrder_50 : decode cX8_readOrder 50 = .ok (.getfield 53, 3) := by decide +kernel
theorem dX8_readOrder_53 : decode cX8_readOrder 53 = .ok (.iconst 3, 1) := by decide +kernel
theorem dX8_readOrder_54 : decode cX8_readOrder 54 = .ok (.aload_n 0, 1) := by decide +kernel
theorem dX8_readOrder_55 : decode cX8_readOrder 55 = .ok (.getfield 244, 3) := by decide +kernel
theorem dX8_readOrder_58 : decode cX8_readOrder 58 = .ok (.imul, 1) := by decide +kernel
theorem dX8_readOrder_59 : decode cX8_readOrder 59 = .ok (.iload_n 3, 1) := by decide +kernel
theorem dX8_readOrder_60 : decode cX8_readOrder 60 = .ok (.iadd, 1) := by decide +kernel
theorem dX8_readOrder_61 : decode cX8_readOrder 61 = .ok (.aload_n 0, 1) := by decide +kernel
theorem dX8_readOrder_62 : decode cX8_readOrder 62 = .ok (.iload_n 1, 1) := by decide +kernel
theorem dX8_readOrder_63 : decode cX8_readOrder 63 = .ok (.bipush 120, 2) := by decide +kernel
theorem dX8_readOrder_65 : decode cX8_readOrder 65 = .ok (.if_icmp .ne 12, 3) := by decide +kernel
theorem dX8_readOrder_68 : decode cX8_readOrder 68 = .ok (.iload_n 3, 1) := by decide +kernel
theorem dX8_readOrder_69 : decode cX8_readOrder 69 = .ok (.iconst 1, 1) := by decide +kernel
theorem dX8_readOrder_70 : decode cX8_readOrder 70 = .ok (.if_icmp .ne 7, 3) := by decide +kernel
theorem dX8_readOrder_73 : decode cX8_readOrder 73 = .ok (.iconst 1, 1) := by decide +kernel
theorem dX8_readOrder_74 : decode cX8_readOrder 74 = .ok (.goto 4, 3) := by decide +kernel
theorem dX8_readOrder_77 : decode cX8_readOrder 77 = .ok (.iconst 0, 1) := by decide +kernel
theorem dX8_readOrder_78 : decode cX8_readOrder 78 = .ok (.invokevirtual 247, 3) := by decide +kernel
theorem dX8_readOrder_81 : decode cX8_readOrder 81 = .ok (.iastore, 1) := by decide +kernel
theorem dX8_readOrder_82 : decode cX8_readOrder 82 = .ok (.iinc 3 1, 3) := by decide +kernel
theorem dX8_readOrder_85 : decode cX8_readOrder 85 = .ok (.goto (-49), 3) := by decide +kernel
theorem dX8_readOrder_88 : decode cX8_readOrder 88 = .ok (.aload_n 0, 1) := by decide +kernel
theorem dX8_readOrder_89 : decode cX8_readOrder 89 = .ok (.getfield 225, 3) := by decide +kernel
theorem dX8_readOrder_92 : decode cX8_readOrder 92 = .ok (.iconst (-1), 1) := by decide +kernel
theorem dX8_readOrder_93 : decode cX8_readOrder 93 = .ok (.if_icmp .ne 10, 3) := by decide +kernel
theorem dX8_readOrder_96 : decode cX8_readOrder 96 = .ok (.aload_n 0, 1) := by decide +kernel
theorem dX8_readOrder_97 : decode cX8_readOrder 97 = .ok (.invokevirtual 235, 3) := by decide +kernel
theorem dX8_readOrder_100 : decode cX8_readOrder 100 = .ok (.goto 5, 3) := by decide +kernel
theorem dX8_readOrder_103 : decode cX8_readOrder 103 = .ok (.bipush 59, 2) := by decide +kernel
theorem dX8_readOrder_105 : decode cX8_readOrder 105 = .ok (.istore_n 3, 1) := by decide +kernel
theorem dX8_readOrder_106 : decode cX8_readOrder 106 = .ok (.aload_n 0, 1) := by decide +kernel
theorem dX8_readOrder_107 : decode cX8_readOrder 107 = .ok (.iload_n 3, 1) := by decide +kernel
theorem dX8_readOrder_108 : decode cX8_readOrder 108 = .ok (.bipush 59, 2) := by decide +kernel
theorem dX8_readOrder_110 : decode cX8_readOrder 110 = .ok (.if_icmp .ne 7, 3) := by decide +kernel
theorem dX8_readOrder_113 : decode cX8_readOrder 113 = .ok (.iconst 1, 1) := by decide +kernel
theorem dX8_readOrder_114 : decode cX8_readOrder 114 = .ok (.goto 4, 3) := by decide +kernel
theorem dX8_readOrder_117 : decode cX8_readOrder 117 = .ok (.iconst 0, 1) := by decide +kernel
theorem dX8_readOrder_118 : decode cX8_readOrder 118 = .ok (.invokevirtual 231, 3) := by decide +kernel
theorem dX8_readOrder_121 : decode cX8_readOrder 121 = .ok (.aload_n 0, 1) := by decide +kernel
theorem dX8_readOrder_122 : decode cX8_readOrder 122 = .ok (.getfield 50, 3) := by decide +kernel
theorem dX8_readOrder_125 : decode cX8_readOrder 125 = .ok (.aload_n 0, 1) := by decide +kernel
theorem dX8_readOrder_126 : decode cX8_readOrder 126 = .ok (.getfield 244, 3) := by decide +kernel
theorem dX8_readOrder_129 : decode cX8_readOrder 129 = .ok (.iload_n 1, 1) := by decide +kernel
theorem dX8_readOrder_130 : decode cX8_readOrder 130 = .ok (.iastore, 1) := by decide +kernel
theorem dX8_readOrder_131 : decode cX8_readOrder 131 = .ok (.aload_n 0, 1) := by decide +kernel
theorem dX8_readOrder_132 : decode cX8_readOrder 132 = .ok (.dup, 1) := by decide +kernel
theorem dX8_readOrder_133 : decode cX8_readOrder 133 = .ok (.getfield 222, 3) := by decide +kernel
theorem dX8_readOrder_136 : decode cX8_readOrder 136 = .ok (.iconst 1, 1) := by decide +kernel
theorem dX8_readOrder_137 : decode cX8_readOrder 137 = .ok (.iadd, 1) := by decide +kernel
theorem dX8_readOrder_138 : decode cX8_readOrder 138 = .ok (.putfield 222, 3) := by decide +kernel
theorem dX8_readOrder_141 : decode cX8_readOrder 141 = .ok (.aload_n 0, 1) := by decide +kernel
theorem dX8_readOrder_142 : decode cX8_readOrder 142 = .ok (.dup, 1) := by decide +kernel
theorem dX8_readOrder_143 : decode cX8_readOrder 143 = .ok (.getfield 244, 3) := by decide +kernel
theorem dX8_readOrder_146 : decode cX8_readOrder 146 = .ok (.iconst 1, 1) := by decide +kernel
theorem dX8_readOrder_147 : decode cX8_readOrder 147 = .ok (.iadd, 1) := by decide +kernel
theorem dX8_readOrder_148 : decode cX8_readOrder 148 = .ok (.putfield 244, 3) := by decide +kernel
theorem dX8_readOrder_151 : decode cX8_readOrder 151 = .ok (.return_, 1) := by decide +kernel
theorem dX8_doOrder_0 : decode cX8_doOrder 0 = .ok (.aload_n 0, 1) := by decide +kernel
theorem dX8_doOrder_1 : decode cX8_doOrder 1 = .ok (.getfield 53, 3) := by decide +kernel
theorem dX8_doOrder_4 : decode cX8_doOrder 4 = .ok (.iconst 3, 1) := by decide +kernel
theorem dX8_doOrder_5 : decode cX8_doOrder 5 = .ok (.iload_n 1, 1) := by decide +kernel
theorem dX8_doOrder_6 : decode cX8_doOrder 6 = .ok (.imul, 1) := by decide +kernel
theorem dX8_doOrder_7 : decode cX8_doOrder 7 = .ok (.iaload, 1) := by decide +kernel
theorem dX8_doOrder_8 : decode cX8_doOrder 8 = .ok (.istore_n 2, 1) := by decide +kernel
theorem dX8_doOrder_9 : decode cX8_doOrder 9 = .ok (.aload_n 0, 1) := by decide +kernel
theorem dX8_doOrder_10 : decode cX8_doOrder 10 = .ok (.getfield 53, 3) := by decide +kernel
theorem dX8_doOrder_13 : decode cX8_doOrder 13 = .ok (.iconst 3, 1) := by decide +kernel
theorem dX8_doOrder_14 : decode cX8_doOrder 14 = .ok (.iload_n 1, 1) := by decide +kernel
theorem dX8_doOrder_15 : decode cX8_doOrder 15 = .ok (.imul, 1) := by decide +kernel
theorem dX8_doOrder_16 : decode cX8_doOrder 16 = .ok (.iconst 1, 1) := by decide +kernel
theorem dX8_doOrder_17 : decode cX8_doOrder 17 = .ok (.iadd, 1) := by decide +kernel
theorem dX8_doOrder_18 : decode cX8_doOrder 18 = .ok (.iaload, 1) := by decide +kernel
theorem dX8_doOrder_19 : decode cX8_doOrder 19 = .ok (.istore_n 3, 1) := by decide +kernel
theorem dX8_doOrder_20 : decode cX8_doOrder 20 = .ok (.aload_n 0, 1) := by decide +kernel
theorem dX8_doOrder_21 : decode cX8_doOrder 21 = .ok (.getfield 53, 3) := by decide +kernel
theorem dX8_doOrder_24 : decode cX8_doOrder 24 = .ok (.iconst 3, 1) := by decide +kernel
theorem dX8_doOrder_25 : decode cX8_doOrder 25 = .ok (.iload_n 1, 1) := by decide +kernel
theorem dX8_doOrder_26 : decode cX8_doOrder 26 = .ok (.imul, 1) := by decide +kernel
theorem dX8_doOrder_27 : decode cX8_doOrder 27 = .ok (.iconst 2, 1) := by decide +kernel
theorem dX8_doOrder_28 : decode cX8_doOrder 28 = .ok (.iadd, 1) := by decide +kernel
theorem dX8_doOrder_29 : decode cX8_doOrder 29 = .ok (.iaload, 1) := by decide +kernel
theorem dX8_doOrder_30 : decode cX8_doOrder 30 = .ok (.istore 4, 2) := by decide +kernel
theorem dX8_doOrder_32 : decode cX8_doOrder 32 = .ok (.aload_n 0, 1) := by decide +kernel
theorem dX8_doOrder_33 : decode cX8_doOrder 33 = .ok (.getfield 50, 3) := by decide +kernel
theorem dX8_doOrder_36 : decode cX8_doOrder 36 = .ok (.iload_n 1, 1) := by decide +kernel
theorem dX8_doOrder_37 : decode cX8_doOrder 37 = .ok (.iaload, 1) := by decide +kernel
theorem dX8_doOrder_38 : decode cX8_doOrder 38 = .ok (.tableswitch 116 106 117 #[86, 95, 116, 77, 62, 116, 68, 116, 116, 116, 102, 109], 62) := by decide +kernel
theorem dX8_doOrder_100 : decode cX8_doOrder 100 = .ok (.aload_n 0, 1) := by decide +kernel
theorem dX8_doOrder_101 : decode cX8_doOrder 101 = .ok (.iload_n 2, 1) := by decide +kernel
theorem dX8_doOrder_102 : decode cX8_doOrder 102 = .ok (.invokevirtual 140, 3) := by decide +kernel
theorem dX8_doOrder_105 : decode cX8_doOrder 105 = .ok (.ireturn, 1) := by decide +kernel
theorem dX8_doOrder_106 : decode cX8_doOrder 106 = .ok (.aload_n 0, 1) := by decide +kernel
theorem dX8_doOrder_107 : decode cX8_doOrder 107 = .ok (.iload_n 2, 1) := by decide +kernel
theorem dX8_doOrder_108 : decode cX8_doOrder 108 = .ok (.iload_n 3, 1) := by decide +kernel
theorem dX8_doOrder_109 : decode cX8_doOrder 109 = .ok (.iload 4, 2) := by decide +kernel
theorem dX8_doOrder_111 : decode cX8_doOrder 111 = .ok (.invokevirtual 146, 3) := by decide +kernel
theorem dX8_doOrder_114 : decode cX8_doOrder 114 = .ok (.ireturn, 1) := by decide +kernel
theorem dX8_doOrder_115 : decode cX8_doOrder 115 = .ok (.aload_n 0, 1) := by decide +kernel
theorem dX8_doOrder_116 : decode cX8_doOrder 116 = .ok (.iload_n 2, 1) := by decide +kernel
theorem dX8_doOrder_117 : decode cX8_doOrder 117 = .ok (.iload_n 3, 1) := by decide +kernel
theorem dX8_doOrder_118 : decode cX8_doOrder 118 = .ok (.iload 4, 2) := by decide +kernel
theorem dX8_doOrder_120 : decode cX8_doOrder 120 = .ok (.invokevirtual 150, 3) := by decide +kernel
theorem dX8_doOrder_123 : decode cX8_doOrder 123 = .ok (.ireturn, 1) := by decide +kernel
theorem dX8_doOrder_124 : decode cX8_doOrder 124 = .ok (.aload_n 0, 1) := by decide +kernel
theorem dX8_doOrder_125 : decode cX8_doOrder 125 = .ok (.iload_n 2, 1) := by decide +kernel
theorem dX8_doOrder_126 : decode cX8_doOrder 126 = .ok (.iload_n 3, 1) := by decide +kernel
theorem dX8_doOrder_127 : decode cX8_doOrder 127 = .ok (.iload 4, 2) := by decide +kernel
theorem dX8_doOrder_129 : decode cX8_doOrder 129 = .ok (.invokevirtual 153, 3) := by decide +kernel
theorem dX8_doOrder_132 : decode cX8_doOrder 132 = .ok (.ireturn, 1) := by decide +kernel
theorem dX8_doOrder_133 : decode cX8_doOrder 133 = .ok (.aload_n 0, 1) := by decide +kernel
theorem dX8_doOrder_134 : decode cX8_doOrder 134 = .ok (.iload_n 2, 1) := by decide +kernel
theorem dX8_doOrder_135 : decode cX8_doOrder 135 = .ok (.iload_n 3, 1) := by decide +kernel
theorem dX8_doOrder_136 : decode cX8_doOrder 136 = .ok (.invokevirtual 156, 3) := by decide +kernel
theorem dX8_doOrder_139 : decode cX8_doOrder 139 = .ok (.ireturn, 1) := by decide +kernel
theorem dX8_doOrder_140 : decode cX8_doOrder 140 = .ok (.aload_n 0, 1) := by decide +kernel
theorem dX8_doOrder_141 : decode cX8_doOrder 141 = .ok (.iload_n 2, 1) := by decide +kernel
theorem dX8_doOrder_142 : decode cX8_doOrder 142 = .ok (.iload_n 3, 1) := by decide +kernel
theorem dX8_doOrder_143 : decode cX8_doOrder 143 = .ok (.invokevirtual 159, 3) := by decide +kernel
theorem dX8_doOrder_146 : decode cX8_doOrder 146 = .ok (.ireturn, 1) := by decide +kernel
theorem dX8_doOrder_147 : decode cX8_doOrder 147 = .ok (.aload_n 0, 1) := by decide +kernel
theorem dX8_doOrder_148 : decode cX8_doOrder 148 = .ok (.iload_n 2, 1) := by decide +kernel
theorem dX8_doOrder_149 : decode cX8_doOrder 149 = .ok (.iload_n 3, 1) := by decide +kernel
theorem dX8_doOrder_150 : decode cX8_doOrder 150 = .ok (.invokevirtual 162, 3) := by decide +kernel
theorem dX8_doOrder_153 : decode cX8_doOrder 153 = .ok (.ireturn, 1) := by decide +kernel
theorem dX8_doOrder_154 : decode cX8_doOrder 154 = .ok (.aload_n 0, 1) := by decide +kernel
theorem dX8_doOrder_155 : decode cX8_doOrder 155 = .ok (.iload_n 2, 1) := by decide +kernel
theorem dX8_doOrder_156 : decode cX8_doOrder 156 = .ok (.iload_n 3, 1) := by decide +kernel
theorem dX8_doOrder_157 : decode cX8_doOrder 157 = .ok (.invokevirtual 165, 3) := by decide +kernel
theorem dX8_doOrder_160 : decode cX8_doOrder 160 = .ok (.ireturn, 1) := by decide +kernel
theorem dX8_does_0 : decode cX8_does 0 = .ok (.aload_n 0, 1) := by decide +kernel
theorem dX8_does_1 : decode cX8_does 1 = .ok (.iconst 0, 1) := by decide +kernel
theorem dX8_does_2 : decode cX8_does 2 = .ok (.putfield 222, 3) := by decide +kernel
theorem dX8_does_5 : decode cX8_does 5 = .ok (.aload_n 0, 1) := by decide +kernel
theorem dX8_does_6 : decode cX8_does 6 = .ok (.iconst (-1), 1) := by decide +kernel
theorem dX8_does_7 : decode cX8_does 7 = .ok (.putfield 225, 3) := by decide +kernel
theorem dX8_does_10 : decode cX8_does 10 = .ok (.aload_n 0, 1) := by decide +kernel
theorem dX8_does_11 : decode cX8_does 11 = .ok (.iconst 0, 1) := by decide +kernel
theorem dX8_does_12 : decode cX8_does 12 = .ok (.putfield 244, 3) := by decide +kernel
theorem dX8_does_15 : decode cX8_does 15 = .ok (.aload_n 0, 1) := by decide +kernel
theorem dX8_does_16 : decode cX8_does 16 = .ok (.aload_n 0, 1) := by decide +kernel
theorem dX8_does_17 : decode cX8_does 17 = .ok (.invokevirtual 235, 3) := by decide +kernel
theorem dX8_does_20 : decode cX8_does 20 = .ok (.iconst (-1), 1) := by decide +kernel
theorem dX8_does_21 : decode cX8_does 21 = .ok (.if_icmp .eq 7, 3) := by decide +kernel
theorem dX8_does_24 : decode cX8_does 24 = .ok (.iconst 1, 1) := by decide +kernel
theorem dX8_does_25 : decode cX8_does 25 = .ok (.goto 4, 3) := by decide +kernel
theorem dX8_does_28 : decode cX8_does 28 = .ok (.iconst 0, 1) := by decide +kernel
theorem dX8_does_29 : decode cX8_does 29 = .ok (.invokevirtual 231, 3) := by decide +kernel
theorem dX8_does_32 : decode cX8_does 32 = .ok (.aload_n 0, 1) := by decide +kernel
theorem dX8_does_33 : decode cX8_does 33 = .ok (.getfield 225, 3) := by decide +kernel
theorem dX8_does_36 : decode cX8_does 36 = .ok (.iconst (-1), 1) := by decide +kernel
theorem dX8_does_37 : decode cX8_does 37 = .ok (.if_icmp .ne 18, 3) := by decide +kernel
theorem dX8_does_40 : decode cX8_does 40 = .ok (.aload_n 0, 1) := by decide +kernel
theorem dX8_does_41 : decode cX8_does 41 = .ok (.invokevirtual 235, 3) := by decide +kernel
theorem dX8_does_44 : decode cX8_does 44 = .ok (.iconst (-1), 1) := by decide +kernel
theorem dX8_does_45 : decode cX8_does 45 = .ok (.if_icmp .eq 10, 3) := by decide +kernel
theorem dX8_does_48 : decode cX8_does 48 = .ok (.aload_n 0, 1) := by decide +kernel
theorem dX8_does_49 : decode cX8_does 49 = .ok (.invokevirtual 251, 3) := by decide +kernel
theorem dX8_does_52 : decode cX8_does 52 = .ok (.goto (-20), 3) := by decide +kernel
theorem dX8_does_55 : decode cX8_does 55 = .ok (.aload_n 0, 1) := by decide +kernel
theorem dX8_does_56 : decode cX8_does 56 = .ok (.getfield 225, 3) := by decide +kernel
theorem dX8_does_59 : decode cX8_does 59 = .ok (.iconst (-1), 1) := by decide +kernel
theorem dX8_does_60 : decode cX8_does 60 = .ok (.if_icmp .eq 11, 3) := by decide +kernel
theorem dX8_does_63 : decode cX8_does 63 = .ok (.bipush (-10), 2) := by decide +kernel
theorem dX8_does_65 : decode cX8_does 65 = .ok (.aload_n 0, 1) := by decide +kernel
theorem dX8_does_66 : decode cX8_does 66 = .ok (.getfield 225, 3) := by decide +kernel
theorem dX8_does_69 : decode cX8_does 69 = .ok (.isub, 1) := by decide +kernel
theorem dX8_does_70 : decode cX8_does 70 = .ok (.ireturn, 1) := by decide +kernel
theorem dX8_does_71 : decode cX8_does 71 = .ok (.aload_n 0, 1) := by decide +kernel
theorem dX8_does_72 : decode cX8_does 72 = .ok (.invokevirtual 137, 3) := by decide +kernel
theorem dX8_does_75 : decode cX8_does 75 = .ok (.iconst 0, 1) := by decide +kernel
theorem dX8_does_76 : decode cX8_does 76 = .ok (.istore_n 1, 1) := by decide +kernel
theorem dX8_does_77 : decode cX8_does 77 = .ok (.iload_n 1, 1) := by decide +kernel
theorem dX8_does_78 : decode cX8_does 78 = .ok (.aload_n 0, 1) := by decide +kernel
theorem dX8_does_79 : decode cX8_does 79 = .ok (.getfield 244, 3) := by decide +kernel
theorem dX8_does_82 : decode cX8_does 82 = .ok (.if_icmp .ge 49, 3) := by decide +kernel
theorem dX8_does_85 : decode cX8_does 85 = .ok (.aload_n 0, 1) := by decide +kernel
theorem dX8_does_86 : decode cX8_does 86 = .ok (.iload_n 1, 1) := by decide +kernel
theorem dX8_does_87 : decode cX8_does 87 = .ok (.invokevirtual 254, 3) := by decide +kernel
theorem dX8_does_90 : decode cX8_does 90 = .ok (.ifCond .ge 35, 3) := by decide +kernel
theorem dX8_does_93 : decode cX8_does 93 = .ok (.iconst 0, 1) := by decide +kernel
theorem dX8_does_94 : decode cX8_does 94 = .ok (.istore_n 2, 1) := by decide +kernel
theorem dX8_does_95 : decode cX8_does 95 = .ok (.iload_n 2, 1) := by decide +kernel
theorem dX8_does_96 : decode cX8_does 96 = .ok (.bipush 15, 2) := by decide +kernel
theorem dX8_does_98 : decode cX8_does 98 = .ok (.if_icmp .ge 21, 3) := by decide +kernel
theorem dX8_does_101 : decode cX8_does 101 = .ok (.aload_n 0, 1) := by decide +kernel
theorem dX8_does_102 : decode cX8_does 102 = .ok (.getfield 7, 3) := by decide +kernel
theorem dX8_does_105 : decode cX8_does 105 = .ok (.iload_n 2, 1) := by decide +kernel
theorem dX8_does_106 : decode cX8_does 106 = .ok (.aload_n 0, 1) := by decide +kernel
theorem dX8_does_107 : decode cX8_does 107 = .ok (.getfield 13, 3) := by decide +kernel
theorem dX8_does_110 : decode cX8_does 110 = .ok (.iload_n 2, 1) := by decide +kernel
theorem dX8_does_111 : decode cX8_does 111 = .ok (.iaload, 1) := by decide +kernel
theorem dX8_does_112 : decode cX8_does 112 = .ok (.iastore, 1) := by decide +kernel
theorem dX8_does_113 : decode cX8_does 113 = .ok (.iinc 2 1, 3) := by decide +kernel
theorem dX8_does_116 : decode cX8_does 116 = .ok (.goto (-21), 3) := by decide +kernel
theorem dX8_does_119 : decode cX8_does 119 = .ok (.sipush (-1000), 3) := by decide +kernel
theorem dX8_does_122 : decode cX8_does 122 = .ok (.iload_n 1, 1) := by decide +kernel
theorem dX8_does_123 : decode cX8_does 123 = .ok (.isub, 1) := by decide +kernel
theorem dX8_does_124 : decode cX8_does 124 = .ok (.ireturn, 1) := by decide +kernel
theorem dX8_does_125 : decode cX8_does 125 = .ok (.iinc 1 1, 3) := by decide +kernel
theorem dX8_does_128 : decode cX8_does 128 = .ok (.goto (-51), 3) := by decide +kernel
theorem dX8_does_131 : decode cX8_does 131 = .ok (.aload_n 0, 1) := by decide +kernel
theorem dX8_does_132 : decode cX8_does 132 = .ok (.invokevirtual 134, 3) := by decide +kernel
theorem dX8_does_135 : decode cX8_does 135 = .ok (.aload_n 0, 1) := by decide +kernel
theorem dX8_does_136 : decode cX8_does 136 = .ok (.getfield 244, 3) := by decide +kernel
theorem dX8_does_139 : decode cX8_does 139 = .ok (.ireturn, 1) := by decide +kernel
theorem dX8_toldOf_0 : decode cX8_toldOf 0 = .ok (.iload_n 1, 1) := by decide +kernel
theorem dX8_toldOf_1 : decode cX8_toldOf 1 = .ok (.iconst 3, 1) := by decide +kernel
theorem dX8_toldOf_2 : decode cX8_toldOf 2 = .ok (.if_icmp .ge 12, 3) := by decide +kernel
theorem dX8_toldOf_5 : decode cX8_toldOf 5 = .ok (.aload_n 0, 1) := by decide +kernel
theorem dX8_toldOf_6 : decode cX8_toldOf 6 = .ok (.getfield 19, 3) := by decide +kernel
theorem dX8_toldOf_9 : decode cX8_toldOf 9 = .ok (.iload_n 1, 1) := by decide +kernel
theorem dX8_toldOf_10 : decode cX8_toldOf 10 = .ok (.iaload, 1) := by decide +kernel
theorem dX8_toldOf_11 : decode cX8_toldOf 11 = .ok (.goto 19, 3) := by decide +kernel
theorem dX8_toldOf_14 : decode cX8_toldOf 14 = .ok (.iload_n 1, 1) := by decide +kernel
theorem dX8_toldOf_15 : decode cX8_toldOf 15 = .ok (.iconst 3, 1) := by decide +kernel
theorem dX8_toldOf_16 : decode cX8_toldOf 16 = .ok (.if_icmp .ne 10, 3) := by decide +kernel
theorem dX8_toldOf_19 : decode cX8_toldOf 19 = .ok (.aload_n 0, 1) := by decide +kernel
theorem dX8_toldOf_20 : decode cX8_toldOf 20 = .ok (.getfield 219, 3) := by decide +kernel
theorem dX8_toldOf_23 : decode cX8_toldOf 23 = .ok (.goto 7, 3) := by decide +kernel
theorem dX8_toldOf_26 : decode cX8_toldOf 26 = .ok (.aload_n 0, 1) := by decide +kernel
theorem dX8_toldOf_27 : decode cX8_toldOf 27 = .ok (.getfield 128, 3) := by decide +kernel
theorem dX8_toldOf_30 : decode cX8_toldOf 30 = .ok (.ireturn, 1) := by decide +kernel
theorem dX8_told_0 : decode cX8_told 0 = .ok (.iload_n 1, 1) := by decide +kernel
theorem dX8_told_1 : decode cX8_told 1 = .ok (.iconst 0, 1) := by decide +kernel
theorem dX8_told_2 : decode cX8_told 2 = .ok (.iconst 4, 1) := by decide +kernel
theorem dX8_told_3 : decode cX8_told 3 = .ok (.invokestatic 100, 3) := by decide +kernel
theorem dX8_told_6 : decode cX8_told 6 = .ok (.ifCond .eq 11, 3) := by decide +kernel
theorem dX8_told_9 : decode cX8_told 9 = .ok (.aload_n 0, 1) := by decide +kernel
theorem dX8_told_10 : decode cX8_told 10 = .ok (.iload_n 1, 1) := by decide +kernel
theorem dX8_told_11 : decode cX8_told 11 = .ok (.invokevirtual 257, 3) := by decide +kernel
theorem dX8_told_14 : decode cX8_told 14 = .ok (.goto 9, 3) := by decide +kernel
theorem dX8_told_17 : decode cX8_told 17 = .ok (.aload_n 0, 1) := by decide +kernel
theorem dX8_told_18 : decode cX8_told 18 = .ok (.bipush (-2), 2) := by decide +kernel
theorem dX8_told_20 : decode cX8_told 20 = .ok (.invokevirtual 131, 3) := by decide +kernel
theorem dX8_told_23 : decode cX8_told 23 = .ok (.ireturn, 1) := by decide +kernel
theorem dX8_mix_0 : decode cX8_mix 0 = .ok (.aload_n 0, 1) := by decide +kernel
theorem dX8_mix_1 : decode cX8_mix 1 = .ok (.ldc2_w 260, 3) := by decide +kernel
theorem dX8_mix_4 : decode cX8_mix 4 = .ok (.aload_n 0, 1) := by decide +kernel
theorem dX8_mix_5 : decode cX8_mix 5 = .ok (.getfield 262, 3) := by decide +kernel
theorem dX8_mix_8 : decode cX8_mix 8 = .ok (.lmul, 1) := by decide +kernel
theorem dX8_mix_9 : decode cX8_mix 9 = .ok (.lload_n 1, 1) := by decide +kernel
theorem dX8_mix_10 : decode cX8_mix 10 = .ok (.ladd, 1) := by decide +kernel
theorem dX8_mix_11 : decode cX8_mix 11 = .ok (.putfield 262, 3) := by decide +kernel
theorem dX8_mix_14 : decode cX8_mix 14 = .ok (.return_, 1) := by decide +kernel
theorem dX8_digest_0 : decode cX8_digest 0 = .ok (.aload_n 0, 1) := by decide +kernel
theorem dX8_digest_1 : decode cX8_digest 1 = .ok (.ldc2_w 266, 3) := by decide +kernel
theorem dX8_digest_4 : decode cX8_digest 4 = .ok (.putfield 262, 3) := by decide +kernel
theorem dX8_digest_7 : decode cX8_digest 7 = .ok (.iconst 0, 1) := by decide +kernel
theorem dX8_digest_8 : decode cX8_digest 8 = .ok (.istore_n 1, 1) := by decide +kernel
theorem dX8_digest_9 : decode cX8_digest 9 = .ok (.iload_n 1, 1) := by decide +kernel
theorem dX8_digest_10 : decode cX8_digest 10 = .ok (.iconst 5, 1) := by decide +kernel
theorem dX8_digest_11 : decode cX8_digest 11 = .ok (.if_icmp .ge 19, 3) := by decide +kernel
theorem dX8_digest_14 : decode cX8_digest 14 = .ok (.aload_n 0, 1) := by decide +kernel
theorem dX8_digest_15 : decode cX8_digest 15 = .ok (.aload_n 0, 1) := by decide +kernel
theorem dX8_digest_16 : decode cX8_digest 16 = .ok (.iload_n 1, 1) := by decide +kernel
theorem dX8_digest_17 : decode cX8_digest 17 = .ok (.invokevirtual 257, 3) := by decide +kernel
theorem dX8_digest_20 : decode cX8_digest 20 = .ok (.i2l, 1) := by decide +kernel
theorem dX8_digest_21 : decode cX8_digest 21 = .ok (.invokevirtual 268, 3) := by decide +kernel
theorem dX8_digest_24 : decode cX8_digest 24 = .ok (.iinc 1 1, 3) := by decide +kernel
theorem dX8_digest_27 : decode cX8_digest 27 = .ok (.goto (-18), 3) := by decide +kernel
theorem dX8_digest_30 : decode cX8_digest 30 = .ok (.iconst 0, 1) := by decide +kernel
theorem dX8_digest_31 : decode cX8_digest 31 = .ok (.istore_n 1, 1) := by decide +kernel
theorem dX8_digest_32 : decode cX8_digest 32 = .ok (.iload_n 1, 1) := by decide +kernel
theorem dX8_digest_33 : decode cX8_digest 33 = .ok (.bipush 10, 2) := by decide +kernel
theorem dX8_digest_35 : decode cX8_digest 35 = .ok (.if_icmp .ge 19, 3) := by decide +kernel
theorem dX8_digest_38 : decode cX8_digest 38 = .ok (.aload_n 0, 1) := by decide +kernel
theorem dX8_digest_39 : decode cX8_digest 39 = .ok (.aload_n 0, 1) := by decide +kernel
theorem dX8_digest_40 : decode cX8_digest 40 = .ok (.iload_n 1, 1) := by decide +kernel
theorem dX8_digest_41 : decode cX8_digest 41 = .ok (.invokevirtual 185, 3) := by decide +kernel
theorem dX8_digest_44 : decode cX8_digest 44 = .ok (.i2l, 1) := by decide +kernel
theorem dX8_digest_45 : decode cX8_digest 45 = .ok (.invokevirtual 268, 3) := by decide +kernel
theorem dX8_digest_48 : decode cX8_digest 48 = .ok (.iinc 1 1, 3) := by decide +kernel
theorem dX8_digest_51 : decode cX8_digest 51 = .ok (.goto (-19), 3) := by decide +kernel
theorem dX8_digest_54 : decode cX8_digest 54 = .ok (.iconst 0, 1) := by decide +kernel
theorem dX8_digest_55 : decode cX8_digest 55 = .ok (.istore_n 1, 1) := by decide +kernel
theorem dX8_digest_56 : decode cX8_digest 56 = .ok (.iload_n 1, 1) := by decide +kernel
theorem dX8_digest_57 : decode cX8_digest 57 = .ok (.bipush 6, 2) := by decide +kernel
theorem dX8_digest_59 : decode cX8_digest 59 = .ok (.if_icmp .ge 76, 3) := by decide +kernel
theorem dX8_digest_62 : decode cX8_digest 62 = .ok (.iconst 0, 1) := by decide +kernel
theorem dX8_digest_63 : decode cX8_digest 63 = .ok (.istore_n 2, 1) := by decide +kernel
theorem dX8_digest_64 : decode cX8_digest 64 = .ok (.iload_n 2, 1) := by decide +kernel
theorem dX8_digest_65 : decode cX8_digest 65 = .ok (.bipush 6, 2) := by decide +kernel
theorem dX8_digest_67 : decode cX8_digest 67 = .ok (.if_icmp .ge 27, 3) := by decide +kernel
theorem dX8_digest_70 : decode cX8_digest 70 = .ok (.aload_n 0, 1) := by decide +kernel
theorem dX8_digest_71 : decode cX8_digest 71 = .ok (.aload_n 0, 1) := by decide +kernel
theorem dX8_digest_72 : decode cX8_digest 72 = .ok (.aload_n 0, 1) := by decide +kernel
theorem dX8_digest_73 : decode cX8_digest 73 = .ok (.getfield 7, 3) := by decide +kernel
theorem dX8_digest_76 : decode cX8_digest 76 = .ok (.iconst 1, 1) := by decide +kernel
theorem dX8_digest_77 : decode cX8_digest 77 = .ok (.iload_n 1, 1) := by decide +kernel
theorem dX8_digest_78 : decode cX8_digest 78 = .ok (.iadd, 1) := by decide +kernel
theorem dX8_digest_79 : decode cX8_digest 79 = .ok (.iaload, 1) := by decide +kernel
theorem dX8_digest_80 : decode cX8_digest 80 = .ok (.iload_n 2, 1) := by decide +kernel
theorem dX8_digest_81 : decode cX8_digest 81 = .ok (.invokevirtual 182, 3) := by decide +kernel
theorem dX8_digest_84 : decode cX8_digest 84 = .ok (.i2l, 1) := by decide +kernel
theorem dX8_digest_85 : decode cX8_digest 85 = .ok (.invokevirtual 268, 3) := by decide +kernel
theorem dX8_digest_88 : decode cX8_digest 88 = .ok (.iinc 2 1, 3) := by decide +kernel
theorem dX8_digest_91 : decode cX8_digest 91 = .ok (.goto (-27), 3) := by decide +kernel
theorem dX8_digest_94 : decode cX8_digest 94 = .ok (.iconst 0, 1) := by decide +kernel
theorem dX8_digest_95 : decode cX8_digest 95 = .ok (.istore_n 2, 1) := by decide +kernel
theorem dX8_digest_96 : decode cX8_digest 96 = .ok (.iload_n 2, 1) := by decide +kernel
theorem dX8_digest_97 : decode cX8_digest 97 = .ok (.aload_n 0, 1) := by decide +kernel
theorem dX8_digest_98 : decode cX8_digest 98 = .ok (.getfield 7, 3) := by decide +kernel
theorem dX8_digest_101 : decode cX8_digest 101 = .ok (.iconst 0, 1) := by decide +kernel
theorem dX8_digest_102 : decode cX8_digest 102 = .ok (.iaload, 1) := by decide +kernel
theorem dX8_digest_103 : decode cX8_digest 103 = .ok (.if_icmp .ge 26, 3) := by decide +kernel
theorem dX8_digest_106 : decode cX8_digest 106 = .ok (.aload_n 0, 1) := by decide +kernel
theorem dX8_digest_107 : decode cX8_digest 107 = .ok (.aload_n 0, 1) := by decide +kernel
theorem dX8_digest_108 : decode cX8_digest 108 = .ok (.getfield 7, 3) := by decide +kernel
theorem dX8_digest_111 : decode cX8_digest 111 = .ok (.iconst 1, 1) := by decide +kernel
theorem dX8_digest_112 : decode cX8_digest 112 = .ok (.iload_n 1, 1) := by decide +kernel
theorem dX8_digest_113 : decode cX8_digest 113 = .ok (.iadd, 1) := by decide +kernel
theorem dX8_digest_114 : decode cX8_digest 114 = .ok (.iaload, 1) := by decide +kernel
theorem dX8_digest_115 : decode cX8_digest 115 = .ok (.iload_n 2, 1) := by decide +kernel
theorem dX8_digest_116 : decode cX8_digest 116 = .ok (.invokestatic 64, 3) := by decide +kernel
theorem dX8_digest_119 : decode cX8_digest 119 = .ok (.i2l, 1) := by decide +kernel
theorem dX8_digest_120 : decode cX8_digest 120 = .ok (.invokevirtual 268, 3) := by decide +kernel
theorem dX8_digest_123 : decode cX8_digest 123 = .ok (.iinc 2 1, 3) := by decide +kernel
theorem dX8_digest_126 : decode cX8_digest 126 = .ok (.goto (-30), 3) := by decide +kernel
theorem dX8_digest_129 : decode cX8_digest 129 = .ok (.iinc 1 1, 3) := by decide +kernel
theorem dX8_digest_132 : decode cX8_digest 132 = .ok (.goto (-76), 3) := by decide +kernel
theorem dX8_digest_135 : decode cX8_digest 135 = .ok (.iconst 0, 1) := by decide +kernel
theorem dX8_digest_136 : decode cX8_digest 136 = .ok (.istore_n 1, 1) := by decide +kernel
theorem dX8_digest_137 : decode cX8_digest 137 = .ok (.iload_n 1, 1) := by decide +kernel
theorem dX8_digest_138 : decode cX8_digest 138 = .ok (.bipush 8, 2) := by decide +kernel
theorem dX8_digest_140 : decode cX8_digest 140 = .ok (.if_icmp .ge 23, 3) := by decide +kernel
theorem dX8_digest_143 : decode cX8_digest 143 = .ok (.aload_n 0, 1) := by decide +kernel
theorem dX8_digest_144 : decode cX8_digest 144 = .ok (.aload_n 0, 1) := by decide +kernel
theorem dX8_digest_145 : decode cX8_digest 145 = .ok (.getfield 7, 3) := by decide +kernel
theorem dX8_digest_148 : decode cX8_digest 148 = .ok (.bipush 7, 2) := by decide +kernel
theorem dX8_digest_150 : decode cX8_digest 150 = .ok (.iload_n 1, 1) := by decide +kernel
theorem dX8_digest_151 : decode cX8_digest 151 = .ok (.iadd, 1) := by decide +kernel
theorem dX8_digest_152 : decode cX8_digest 152 = .ok (.iaload, 1) := by decide +kernel
theorem dX8_digest_153 : decode cX8_digest 153 = .ok (.i2l, 1) := by decide +kernel
theorem dX8_digest_154 : decode cX8_digest 154 = .ok (.invokevirtual 268, 3) := by decide +kernel
theorem dX8_digest_157 : decode cX8_digest 157 = .ok (.iinc 1 1, 3) := by decide +kernel
theorem dX8_digest_160 : decode cX8_digest 160 = .ok (.goto (-23), 3) := by decide +kernel
theorem dX8_digest_163 : decode cX8_digest 163 = .ok (.iconst 0, 1) := by decide +kernel
theorem dX8_digest_164 : decode cX8_digest 164 = .ok (.istore_n 1, 1) := by decide +kernel
theorem dX8_digest_165 : decode cX8_digest 165 = .ok (.iload_n 1, 1) := by decide +kernel
theorem dX8_digest_166 : decode cX8_digest 166 = .ok (.iconst 4, 1) := by decide +kernel
theorem dX8_digest_167 : decode cX8_digest 167 = .ok (.if_icmp .ge 53, 3) := by decide +kernel
theorem dX8_digest_170 : decode cX8_digest 170 = .ok (.iconst 1, 1) := by decide +kernel
theorem dX8_digest_171 : decode cX8_digest 171 = .ok (.istore_n 2, 1) := by decide +kernel
theorem dX8_digest_172 : decode cX8_digest 172 = .ok (.iload_n 2, 1) := by decide +kernel
theorem dX8_digest_173 : decode cX8_digest 173 = .ok (.bipush 8, 2) := by decide +kernel
theorem dX8_digest_175 : decode cX8_digest 175 = .ok (.if_icmp .gt 39, 3) := by decide +kernel
theorem dX8_digest_178 : decode cX8_digest 178 = .ok (.aload_n 0, 1) := by decide +kernel
theorem dX8_digest_179 : decode cX8_digest 179 = .ok (.iload_n 1, 1) := by decide +kernel
theorem dX8_digest_180 : decode cX8_digest 180 = .ok (.iconst 2, 1) := by decide +kernel
theorem dX8_digest_181 : decode cX8_digest 181 = .ok (.if_icmp .ge 15, 3) := by decide +kernel
theorem dX8_digest_184 : decode cX8_digest 184 = .ok (.aload_n 0, 1) := by decide +kernel
theorem dX8_digest_185 : decode cX8_digest 185 = .ok (.iconst 0, 1) := by decide +kernel
theorem dX8_digest_186 : decode cX8_digest 186 = .ok (.iload_n 1, 1) := by decide +kernel
theorem dX8_digest_187 : decode cX8_digest 187 = .ok (.iconst 1, 1) := by decide +kernel
theorem dX8_digest_188 : decode cX8_digest 188 = .ok (.iadd, 1) := by decide +kernel
theorem dX8_digest_189 : decode cX8_digest 189 = .ok (.iload_n 2, 1) := by decide +kernel
theorem dX8_digest_190 : decode cX8_digest 190 = .ok (.invokevirtual 216, 3) := by decide +kernel
theorem dX8_digest_193 : decode cX8_digest 193 = .ok (.goto 12, 3) := by decide +kernel
theorem dX8_digest_196 : decode cX8_digest 196 = .ok (.aload_n 0, 1) := by decide +kernel
theorem dX8_digest_197 : decode cX8_digest 197 = .ok (.iload_n 1, 1) := by decide +kernel
theorem dX8_digest_198 : decode cX8_digest 198 = .ok (.iconst 1, 1) := by decide +kernel
theorem dX8_digest_199 : decode cX8_digest 199 = .ok (.isub, 1) := by decide +kernel
theorem dX8_digest_200 : decode cX8_digest 200 = .ok (.iconst 0, 1) := by decide +kernel
theorem dX8_digest_201 : decode cX8_digest 201 = .ok (.iload_n 2, 1) := by decide +kernel
theorem dX8_digest_202 : decode cX8_digest 202 = .ok (.invokevirtual 216, 3) := by decide +kernel
theorem dX8_digest_205 : decode cX8_digest 205 = .ok (.invokevirtual 268, 3) := by decide +kernel
theorem dX8_digest_208 : decode cX8_digest 208 = .ok (.iinc 2 1, 3) := by decide +kernel
theorem dX8_digest_211 : decode cX8_digest 211 = .ok (.goto (-39), 3) := by decide +kernel
theorem dX8_digest_214 : decode cX8_digest 214 = .ok (.iinc 1 1, 3) := by decide +kernel
theorem dX8_digest_217 : decode cX8_digest 217 = .ok (.goto (-52), 3) := by decide +kernel
theorem dX8_digest_220 : decode cX8_digest 220 = .ok (.aload_n 0, 1) := by decide +kernel
theorem dX8_digest_221 : decode cX8_digest 221 = .ok (.getfield 262, 3) := by decide +kernel
theorem dX8_digest_224 : decode cX8_digest 224 = .ok (.lreturn, 1) := by decide +kernel
end
section
theorem dL_law_0 : decode cL_law 0 = .ok (.new 7, 3) := by decide +kernel
theorem dL_law_3 : decode cL_law 3 = .ok (.dup, 1) := by decide +kernel
theorem dL_law_4 : decode cL_law 4 = .ok (.invokespecial 9, 3) := by decide +kernel
theorem dL_law_7 : decode cL_law 7 = .ok (.astore_n 1, 1) := by decide +kernel
theorem dL_law_8 : decode cL_law 8 = .ok (.new 10, 3) := by decide +kernel
theorem dL_law_11 : decode cL_law 11 = .ok (.dup, 1) := by decide +kernel
theorem dL_law_12 : decode cL_law 12 = .ok (.invokespecial 12, 3) := by decide +kernel
theorem dL_law_15 : decode cL_law 15 = .ok (.astore_n 2, 1) := by decide +kernel
theorem dL_law_16 : decode cL_law 16 = .ok (.iconst 0, 1) := by decide +kernel
theorem dL_law_17 : decode cL_law 17 = .ok (.istore_n 3, 1) := by decide +kernel
theorem dL_law_18 : decode cL_law 18 = .ok (.iload_n 3, 1) := by decide +kernel
theorem dL_law_19 : decode cL_law 19 = .ok (.aload_n 0, 1) := by decide +kernel
theorem dL_law_20 : decode cL_law 20 = .ok (.arraylength, 1) := by decide +kernel
theorem dL_law_21 : decode cL_law 21 = .ok (.iconst 4, 1) := by decide +kernel
theorem dL_law_22 : decode cL_law 22 = .ok (.isub, 1) := by decide +kernel
theorem dL_law_23 : decode cL_law 23 = .ok (.if_icmp .gt 885, 3) := by decide +kernel
theorem dL_law_26 : decode cL_law 26 = .ok (.aload_n 0, 1) := by decide +kernel
theorem dL_law_27 : decode cL_law 27 = .ok (.iload_n 3, 1) := by decide +kernel
theorem dL_law_28 : decode cL_law 28 = .ok (.iaload, 1) := by decide +kernel
theorem dL_law_29 : decode cL_law 29 = .ok (.bipush 31, 2) := by decide +kernel
theorem dL_law_31 : decode cL_law 31 = .ok (.iand, 1) := by decide +kernel
theorem dL_law_32 : decode cL_law 32 = .ok (.tableswitch 870 0 25 #[120, 143, 186, 229, 272, 305, 338, 371, 404, 437, 470, 493, 506, 539, 572, 605, 628, 661, 694, 727, 771, 794, 807, 820, 833, 856], 120) := by decide +kernel
theorem dL_law_152 : decode cL_law 152 = .ok (.aload_n 1, 1) := by decide +kernel
theorem dL_law_153 : decode cL_law 153 = .ok (.aload_n 0, 1) := by decide +kernel
theorem dL_law_154 : decode cL_law 154 = .ok (.iload_n 3, 1) := by decide +kernel
theorem dL_law_155 : decode cL_law 155 = .ok (.iconst 1, 1) := by decide +kernel
theorem dL_law_156 : decode cL_law 156 = .ok (.iadd, 1) := by decide +kernel
theorem dL_law_157 : decode cL_law 157 = .ok (.iaload, 1) := by decide +kernel
theorem dL_law_158 : decode cL_law 158 = .ok (.invokevirtual 13, 3) := by decide +kernel
theorem dL_law_161 : decode cL_law 161 = .ok (.aload_n 2, 1) := by decide +kernel
theorem dL_law_162 : decode cL_law 162 = .ok (.aload_n 0, 1) := by decide +kernel
theorem dL_law_163 : decode cL_law 163 = .ok (.iload_n 3, 1) := by decide +kernel
theorem dL_law_164 : decode cL_law 164 = .ok (.iconst 1, 1) := by decide +kernel
theorem dL_law_165 : decode cL_law 165 = .ok (.iadd, 1) := by decide +kernel
theorem dL_law_166 : decode cL_law 166 = .ok (.iaload, 1) := by decide +kernel
theorem dL_law_167 : decode cL_law 167 = .ok (.invokevirtual 17, 3) := by decide +kernel
theorem dL_law_170 : decode cL_law 170 = .ok (.if_icmp .eq 732, 3) := by decide +kernel
theorem dL_law_173 : decode cL_law 173 = .ok (.iconst 0, 1) := by decide +kernel
theorem dL_law_174 : decode cL_law 174 = .ok (.ireturn, 1) := by decide +kernel
theorem dL_law_175 : decode cL_law 175 = .ok (.aload_n 1, 1) := by decide +kernel
theorem dL_law_176 : decode cL_law 176 = .ok (.aload_n 0, 1) := by decide +kernel
theorem dL_law_177 : decode cL_law 177 = .ok (.iload_n 3, 1) := by decide +kernel
theorem dL_law_178 : decode cL_law 178 = .ok (.iconst 1, 1) := by decide +kernel
theorem dL_law_179 : decode cL_law 179 = .ok (.iadd, 1) := by decide +kernel
theorem dL_law_180 : decode cL_law 180 = .ok (.iaload, 1) := by decide +kernel
theorem dL_law_181 : decode cL_law 181 = .ok (.aload_n 0, 1) := by decide +kernel
theorem dL_law_182 : decode cL_law 182 = .ok (.iload_n 3, 1) := by decide +kernel
theorem dL_law_183 : decode cL_law 183 = .ok (.iconst 2, 1) := by decide +kernel
theorem dL_law_184 : decode cL_law 184 = .ok (.iadd, 1) := by decide +kernel
theorem dL_law_185 : decode cL_law 185 = .ok (.iaload, 1) := by decide +kernel
theorem dL_law_186 : decode cL_law 186 = .ok (.aload_n 0, 1) := by decide +kernel
theorem dL_law_187 : decode cL_law 187 = .ok (.iload_n 3, 1) := by decide +kernel
theorem dL_law_188 : decode cL_law 188 = .ok (.iconst 3, 1) := by decide +kernel
theorem dL_law_189 : decode cL_law 189 = .ok (.iadd, 1) := by decide +kernel
theorem dL_law_190 : decode cL_law 190 = .ok (.iaload, 1) := by decide +kernel
theorem dL_law_191 : decode cL_law 191 = .ok (.invokevirtual 18, 3) := by decide +kernel
theorem dL_law_194 : decode cL_law 194 = .ok (.aload_n 2, 1) := by decide +kernel
theorem dL_law_195 : decode cL_law 195 = .ok (.aload_n 0, 1) := by decide +kernel
theorem dL_law_196 : decode cL_law 196 = .ok (.iload_n 3, 1) := by decide +kernel
theorem dL_law_197 : decode cL_law 197 = .ok (.iconst 1, 1) := by decide +kernel
theorem dL_law_198 : decode cL_law 198 = .ok (.iadd, 1) := by decide +kernel
theorem dL_law_199 : decode cL_law 199 = .ok (.iaload, 1) := by decide +kernel
theorem dL_law_200 : decode cL_law 200 = .ok (.aload_n 0, 1) := by decide +kernel
theorem dL_law_201 : decode cL_law 201 = .ok (.iload_n 3, 1) := by decide +kernel
theorem dL_law_202 : decode cL_law 202 = .ok (.iconst 2, 1) := by decide +kernel
theorem dL_law_203 : decode cL_law 203 = .ok (.iadd, 1) := by decide +kernel
theorem dL_law_204 : decode cL_law 204 = .ok (.iaload, 1) := by decide +kernel
theorem dL_law_205 : decode cL_law 205 = .ok (.aload_n 0, 1) := by decide +kernel
theorem dL_law_206 : decode cL_law 206 = .ok (.iload_n 3, 1) := by decide +kernel
theorem dL_law_207 : decode cL_law 207 = .ok (.iconst 3, 1) := by decide +kernel
theorem dL_law_208 : decode cL_law 208 = .ok (.iadd, 1) := by decide +kernel
theorem dL_law_209 : decode cL_law 209 = .ok (.iaload, 1) := by decide +kernel
theorem dL_law_210 : decode cL_law 210 = .ok (.invokevirtual 22, 3) := by decide +kernel
theorem dL_law_213 : decode cL_law 213 = .ok (.if_icmp .eq 689, 3) := by decide +kernel
theorem dL_law_216 : decode cL_law 216 = .ok (.iconst 0, 1) := by decide +kernel
theorem dL_law_217 : decode cL_law 217 = .ok (.ireturn, 1) := by decide +kernel
theorem dL_law_218 : decode cL_law 218 = .ok (.aload_n 1, 1) := by decide +kernel
theorem dL_law_219 : decode cL_law 219 = .ok (.aload_n 0, 1) := by decide +kernel
theorem dL_law_220 : decode cL_law 220 = .ok (.iload_n 3, 1) := by decide +kernel
theorem dL_law_221 : decode cL_law 221 = .ok (.iconst 1, 1) := by decide +kernel
theorem dL_law_222 : decode cL_law 222 = .ok (.iadd, 1) := by decide +kernel
theorem dL_law_223 : decode cL_law 223 = .ok (.iaload, 1) := by decide +kernel
theorem dL_law_224 : decode cL_law 224 = .ok (.aload_n 0, 1) := by decide +kernel
theorem dL_law_225 : decode cL_law 225 = .ok (.iload_n 3, 1) := by decide +kernel
theorem dL_law_226 : decode cL_law 226 = .ok (.iconst 2, 1) := by decide +kernel
theorem dL_law_227 : decode cL_law 227 = .ok (.iadd, 1) := by decide +kernel
theorem dL_law_228 : decode cL_law 228 = .ok (.iaload, 1) := by decide +kernel
theorem dL_law_229 : decode cL_law 229 = .ok (.aload_n 0, 1) := by decide +kernel
theorem dL_law_230 : decode cL_law 230 = .ok (.iload_n 3, 1) := by decide +kernel
theorem dL_law_231 : decode cL_law 231 = .ok (.iconst 3, 1) := by decide +kernel
theorem dL_law_232 : decode cL_law 232 = .ok (.iadd, 1) := by decide +kernel
theorem dL_law_233 : decode cL_law 233 = .ok (.iaload, 1) := by decide +kernel
theorem dL_law_234 : decode cL_law 234 = .ok (.invokevirtual 23, 3) := by decide +kernel
theorem dL_law_237 : decode cL_law 237 = .ok (.aload_n 2, 1) := by decide +kernel
theorem dL_law_238 : decode cL_law 238 = .ok (.aload_n 0, 1) := by decide +kernel
theorem dL_law_239 : decode cL_law 239 = .ok (.iload_n 3, 1) := by decide +kernel
theorem dL_law_240 : decode cL_law 240 = .ok (.iconst 1, 1) := by decide +kernel
theorem dL_law_241 : decode cL_law 241 = .ok (.iadd, 1) := by decide +kernel
theorem dL_law_242 : decode cL_law 242 = .ok (.iaload, 1) := by decide +kernel
theorem dL_law_243 : decode cL_law 243 = .ok (.aload_n 0, 1) := by decide +kernel
theorem dL_law_244 : decode cL_law 244 = .ok (.iload_n 3, 1) := by decide +kernel
theorem dL_law_245 : decode cL_law 245 = .ok (.iconst 2, 1) := by decide +kernel
theorem dL_law_246 : decode cL_law 246 = .ok (.iadd, 1) := by decide +kernel
theorem dL_law_247 : decode cL_law 247 = .ok (.iaload, 1) := by decide +kernel
theorem dL_law_248 : decode cL_law 248 = .ok (.aload_n 0, 1) := by decide +kernel
theorem dL_law_249 : decode cL_law 249 = .ok (.iload_n 3, 1) := by decide +kernel
theorem dL_law_250 : decode cL_law 250 = .ok (.iconst 3, 1) := by decide +kernel
theorem dL_law_251 : decode cL_law 251 = .ok (.iadd, 1) := by decide +kernel
theorem dL_law_252 : decode cL_law 252 = .ok (.iaload, 1) := by decide +kernel
theorem dL_law_253 : decode cL_law 253 = .ok (.invokevirtual 26, 3) := by decide +kernel
theorem dL_law_256 : decode cL_law 256 = .ok (.if_icmp .eq 646, 3) := by decide +kernel
theorem dL_law_259 : decode cL_law 259 = .ok (.iconst 0, 1) := by decide +kernel
theorem dL_law_260 : decode cL_law 260 = .ok (.ireturn, 1) := by decide +kernel
theorem dL_law_261 : decode cL_law 261 = .ok (.aload_n 1, 1) := by decide +kernel
theorem dL_law_262 : decode cL_law 262 = .ok (.aload_n 0, 1) := by decide +kernel
theorem dL_law_263 : decode cL_law 263 = .ok (.iload_n 3, 1) := by decide +kernel
theorem dL_law_264 : decode cL_law 264 = .ok (.iconst 1, 1) := by decide +kernel
theorem dL_law_265 : decode cL_law 265 = .ok (.iadd, 1) := by decide +kernel
theorem dL_law_266 : decode cL_law 266 = .ok (.iaload, 1) := by decide +kernel
theorem dL_law_267 : decode cL_law 267 = .ok (.aload_n 0, 1) := by decide +kernel
theorem dL_law_268 : decode cL_law 268 = .ok (.iload_n 3, 1) := by decide +kernel
theorem dL_law_269 : decode cL_law 269 = .ok (.iconst 2, 1) := by decide +kernel
theorem dL_law_270 : decode cL_law 270 = .ok (.iadd, 1) := by decide +kernel
theorem dL_law_271 : decode cL_law 271 = .ok (.iaload, 1) := by decide +kernel
theorem dL_law_272 : decode cL_law 272 = .ok (.aload_n 0, 1) := by decide +kernel
theorem dL_law_273 : decode cL_law 273 = .ok (.iload_n 3, 1) := by decide +kernel
theorem dL_law_274 : decode cL_law 274 = .ok (.iconst 3, 1) := by decide +kernel
theorem dL_law_275 : decode cL_law 275 = .ok (.iadd, 1) := by decide +kernel
theorem dL_law_276 : decode cL_law 276 = .ok (.iaload, 1) := by decide +kernel
theorem dL_law_277 : decode cL_law 277 = .ok (.invokevirtual 27, 3) := by decide +kernel
theorem dL_law_280 : decode cL_law 280 = .ok (.aload_n 2, 1) := by decide +kernel
theorem dL_law_281 : decode cL_law 281 = .ok (.aload_n 0, 1) := by decide +kernel
theorem dL_law_282 : decode cL_law 282 = .ok (.iload_n 3, 1) := by decide +kernel
theorem dL_law_283 : decode cL_law 283 = .ok (.iconst 1, 1) := by decide +kernel
theorem dL_law_284 : decode cL_law 284 = .ok (.iadd, 1) := by decide +kernel
theorem dL_law_285 : decode cL_law 285 = .ok (.iaload, 1) := by decide +kernel
theorem dL_law_286 : decode cL_law 286 = .ok (.aload_n 0, 1) := by decide +kernel
theorem dL_law_287 : decode cL_law 287 = .ok (.iload_n 3, 1) := by decide +kernel
theorem dL_law_288 : decode cL_law 288 = .ok (.iconst 2, 1) := by decide +kernel
theorem dL_law_289 : decode cL_law 289 = .ok (.iadd, 1) := by decide +kernel
theorem dL_law_290 : decode cL_law 290 = .ok (.iaload, 1) := by decide +kernel
theorem dL_law_291 : decode cL_law 291 = .ok (.aload_n 0, 1) := by decide +kernel
theorem dL_law_292 : decode cL_law 292 = .ok (.iload_n 3, 1) := by decide +kernel
theorem dL_law_293 : decode cL_law 293 = .ok (.iconst 3, 1) := by decide +kernel
theorem dL_law_294 : decode cL_law 294 = .ok (.iadd, 1) := by decide +kernel
theorem dL_law_295 : decode cL_law 295 = .ok (.iaload, 1) := by decide +kernel
theorem dL_law_296 : decode cL_law 296 = .ok (.invokevirtual 30, 3) := by decide +kernel
theorem dL_law_299 : decode cL_law 299 = .ok (.if_icmp .eq 603, 3) := by decide +kernel
theorem dL_law_302 : decode cL_law 302 = .ok (.iconst 0, 1) := by decide +kernel
theorem dL_law_303 : decode cL_law 303 = .ok (.ireturn, 1) := by decide +kernel
theorem dL_law_304 : decode cL_law 304 = .ok (.aload_n 1, 1) := by decide +kernel
theorem dL_law_305 : decode cL_law 305 = .ok (.aload_n 0, 1) := by decide +kernel
theorem dL_law_306 : decode cL_law 306 = .ok (.iload_n 3, 1) := by decide +kernel
theorem dL_law_307 : decode cL_law 307 = .ok (.iconst 1, 1) := by decide +kernel
theorem dL_law_308 : decode cL_law 308 = .ok (.iadd, 1) := by decide +kernel
theorem dL_law_309 : decode cL_law 309 = .ok (.iaload, 1) := by decide +kernel
theorem dL_law_310 : decode cL_law 310 = .ok (.aload_n 0, 1) := by decide +kernel
theorem dL_law_311 : decode cL_law 311 = .ok (.iload_n 3, 1) := by decide +kernel
theorem dL_law_312 : decode cL_law 312 = .ok (.iconst 2, 1) := by decide +kernel
theorem dL_law_313 : decode cL_law 313 = .ok (.iadd, 1) := by decide +kernel
theorem dL_law_314 : decode cL_law 314 = .ok (.iaload, 1) := by decide +kernel
theorem dL_law_315 : decode cL_law 315 = .ok (.invokevirtual 31, 3) := by decide +kernel
theorem dL_law_318 : decode cL_law 318 = .ok (.aload_n 2, 1) := by decide +kernel
theorem dL_law_319 : decode cL_law 319 = .ok (.aload_n 0, 1) := by decide +kernel
theorem dL_law_320 : decode cL_law 320 = .ok (.iload_n 3, 1) := by decide +kernel
theorem dL_law_321 : decode cL_law 321 = .ok (.iconst 1, 1) := by decide +kernel
theorem dL_law_322 : decode cL_law 322 = .ok (.iadd, 1) := by decide +kernel
theorem dL_law_323 : decode cL_law 323 = .ok (.iaload, 1) := by decide +kernel
theorem dL_law_324 : decode cL_law 324 = .ok (.aload_n 0, 1) := by decide +kernel
theorem dL_law_325 : decode cL_law 325 = .ok (.iload_n 3, 1) := by decide +kernel
theorem dL_law_326 : decode cL_law 326 = .ok (.iconst 2, 1) := by decide +kernel
theorem dL_law_327 : decode cL_law 327 = .ok (.iadd, 1) := by decide +kernel
theorem dL_law_328 : decode cL_law 328 = .ok (.iaload, 1) := by decide +kernel
theorem dL_law_329 : decode cL_law 329 = .ok (.invokevirtual 35, 3) := by decide +kernel
theorem dL_law_332 : decode cL_law 332 = .ok (.if_icmp .eq 570, 3) := by decide +kernel
theorem dL_law_335 : decode cL_law 335 = .ok (.iconst 0, 1) := by decide +kernel
theorem dL_law_336 : decode cL_law 336 = .ok (.ireturn, 1) := by decide +kernel
theorem dL_law_337 : decode cL_law 337 = .ok (.aload_n 1, 1) := by decide +kernel
theorem dL_law_338 : decode cL_law 338 = .ok (.aload_n 0, 1) := by decide +kernel
theorem dL_law_339 : decode cL_law 339 = .ok (.iload_n 3, 1) := by decide +kernel
theorem dL_law_340 : decode cL_law 340 = .ok (.iconst 1, 1) := by decide +kernel
theorem dL_law_341 : decode cL_law 341 = .ok (.iadd, 1) := by decide +kernel
theorem dL_law_342 : decode cL_law 342 = .ok (.iaload, 1) := by decide +kernel
theorem dL_law_343 : decode cL_law 343 = .ok (.aload_n 0, 1) := by decide +kernel
theorem dL_law_344 : decode cL_law 344 = .ok (.iload_n 3, 1) := by decide +kernel
theorem dL_law_345 : decode cL_law 345 = .ok (.iconst 2, 1) := by decide +kernel
theorem dL_law_346 : decode cL_law 346 = .ok (.iadd, 1) := by decide +kernel
theorem dL_law_347 : decode cL_law 347 = .ok (.iaload, 1) := by decide +kernel
theorem dL_law_348 : decode cL_law 348 = .ok (.invokevirtual 36, 3) := by decide +kernel
theorem dL_law_351 : decode cL_law 351 = .ok (.aload_n 2, 1) := by decide +kernel
theorem dL_law_352 : decode cL_law 352 = .ok (.aload_n 0, 1) := by decide +kernel
theorem dL_law_353 : decode cL_law 353 = .ok (.iload_n 3, 1) := by decide +kernel
theorem dL_law_354 : decode cL_law 354 = .ok (.iconst 1, 1) := by decide +kernel
theorem dL_law_355 : decode cL_law 355 = .ok (.iadd, 1) := by decide +kernel
theorem dL_law_356 : decode cL_law 356 = .ok (.iaload, 1) := by decide +kernel
theorem dL_law_357 : decode cL_law 357 = .ok (.aload_n 0, 1) := by decide +kernel
theorem dL_law_358 : decode cL_law 358 = .ok (.iload_n 3, 1) := by decide +kernel
theorem dL_law_359 : decode cL_law 359 = .ok (.iconst 2, 1) := by decide +kernel
theorem dL_law_360 : decode cL_law 360 = .ok (.iadd, 1) := by decide +kernel
theorem dL_law_361 : decode cL_law 361 = .ok (.iaload, 1) := by decide +kernel
theorem dL_law_362 : decode cL_law 362 = .ok (.invokevirtual 39, 3) := by decide +kernel
theorem dL_law_365 : decode cL_law 365 = .ok (.if_icmp .eq 537, 3) := by decide +kernel
theorem dL_law_368 : decode cL_law 368 = .ok (.iconst 0, 1) := by decide +kernel
theorem dL_law_369 : decode cL_law 369 = .ok (.ireturn, 1) := by decide +kernel
theorem dL_law_370 : decode cL_law 370 = .ok (.aload_n 1, 1) := by decide +kernel
theorem dL_law_371 : decode cL_law 371 = .ok (.aload_n 0, 1) := by decide +kernel
theorem dL_law_372 : decode cL_law 372 = .ok (.iload_n 3, 1) := by decide +kernel
theorem dL_law_373 : decode cL_law 373 = .ok (.iconst 1, 1) := by decide +kernel
theorem dL_law_374 : decode cL_law 374 = .ok (.iadd, 1) := by decide +kernel
theorem dL_law_375 : decode cL_law 375 = .ok (.iaload, 1) := by decide +kernel
theorem dL_law_376 : decode cL_law 376 = .ok (.aload_n 0, 1) := by decide +kernel
theorem dL_law_377 : decode cL_law 377 = .ok (.iload_n 3, 1) := by decide +kernel
theorem dL_law_378 : decode cL_law 378 = .ok (.iconst 2, 1) := by decide +kernel
theorem dL_law_379 : decode cL_law 379 = .ok (.iadd, 1) := by decide +kernel
theorem dL_law_380 : decode cL_law 380 = .ok (.iaload, 1) := by decide +kernel
theorem dL_law_381 : decode cL_law 381 = .ok (.invokevirtual 40, 3) := by decide +kernel
theorem dL_law_384 : decode cL_law 384 = .ok (.aload_n 2, 1) := by decide +kernel
theorem dL_law_385 : decode cL_law 385 = .ok (.aload_n 0, 1) := by decide +kernel
theorem dL_law_386 : decode cL_law 386 = .ok (.iload_n 3, 1) := by decide +kernel
theorem dL_law_387 : decode cL_law 387 = .ok (.iconst 1, 1) := by decide +kernel
theorem dL_law_388 : decode cL_law 388 = .ok (.iadd, 1) := by decide +kernel
theorem dL_law_389 : decode cL_law 389 = .ok (.iaload, 1) := by decide +kernel
theorem dL_law_390 : decode cL_law 390 = .ok (.aload_n 0, 1) := by decide +kernel
theorem dL_law_391 : decode cL_law 391 = .ok (.iload_n 3, 1) := by decide +kernel
theorem dL_law_392 : decode cL_law 392 = .ok (.iconst 2, 1) := by decide +kernel
theorem dL_law_393 : decode cL_law 393 = .ok (.iadd, 1) := by decide +kernel
theorem dL_law_394 : decode cL_law 394 = .ok (.iaload, 1) := by decide +kernel
theorem dL_law_395 : decode cL_law 395 = .ok (.invokevirtual 43, 3) := by decide +kernel
theorem dL_law_398 : decode cL_law 398 = .ok (.if_icmp .eq 504, 3) := by decide +kernel
theorem dL_law_401 : decode cL_law 401 = .ok (.iconst 0, 1) := by decide +kernel
theorem dL_law_402 : decode cL_law 402 = .ok (.ireturn, 1) := by decide +kernel
theorem dL_law_403 : decode cL_law 403 = .ok (.aload_n 1, 1) := by decide +kernel
theorem dL_law_404 : decode cL_law 404 = .ok (.aload_n 0, 1) := by decide +kernel
theorem dL_law_405 : decode cL_law 405 = .ok (.iload_n 3, 1) := by decide +kernel
theorem dL_law_406 : decode cL_law 406 = .ok (.iconst 1, 1) := by decide +kernel
theorem dL_law_407 : decode cL_law 407 = .ok (.iadd, 1) := by decide +kernel
theorem dL_law_408 : decode cL_law 408 = .ok (.iaload, 1) := by decide +kernel
theorem dL_law_409 : decode cL_law 409 = .ok (.aload_n 0, 1) := by decide +kernel
theorem dL_law_410 : decode cL_law 410 = .ok (.iload_n 3, 1) := by decide +kernel
theorem dL_law_411 : decode cL_law 411 = .ok (.iconst 2, 1) := by decide +kernel
theorem dL_law_412 : decode cL_law 412 = .ok (.iadd, 1) := by decide +kernel
theorem dL_law_413 : decode cL_law 413 = .ok (.iaload, 1) := by decide +kernel
theorem dL_law_414 : decode cL_law 414 = .ok (.invokevirtual 44, 3) := by decide +kernel
theorem dL_law_417 : decode cL_law 417 = .ok (.aload_n 2, 1) := by decide +kernel
theorem dL_law_418 : decode cL_law 418 = .ok (.aload_n 0, 1) := by decide +kernel
theorem dL_law_419 : decode cL_law 419 = .ok (.iload_n 3, 1) := by decide +kernel
theorem dL_law_420 : decode cL_law 420 = .ok (.iconst 1, 1) := by decide +kernel
theorem dL_law_421 : decode cL_law 421 = .ok (.iadd, 1) := by decide +kernel
theorem dL_law_422 : decode cL_law 422 = .ok (.iaload, 1) := by decide +kernel
theorem dL_law_423 : decode cL_law 423 = .ok (.aload_n 0, 1) := by decide +kernel
theorem dL_law_424 : decode cL_law 424 = .ok (.iload_n 3, 1) := by decide +kernel
theorem dL_law_425 : decode cL_law 425 = .ok (.iconst 2, 1) := by decide +kernel
theorem dL_law_426 : decode cL_law 426 = .ok (.iadd, 1) := by decide +kernel
theorem dL_law_427 : decode cL_law 427 = .ok (.iaload, 1) := by decide +kernel
theorem dL_law_428 : decode cL_law 428 = .ok (.invokevirtual 47, 3) := by decide +kernel
theorem dL_law_431 : decode cL_law 431 = .ok (.if_icmp .eq 471, 3) := by decide +kernel
theorem dL_law_434 : decode cL_law 434 = .ok (.iconst 0, 1) := by decide +kernel
theorem dL_law_435 : decode cL_law 435 = .ok (.ireturn, 1) := by decide +kernel
theorem dL_law_436 : decode cL_law 436 = .ok (.aload_n 1, 1) := by decide +kernel
theorem dL_law_437 : decode cL_law 437 = .ok (.aload_n 0, 1) := by decide +kernel
theorem dL_law_438 : decode cL_law 438 = .ok (.iload_n 3, 1) := by decide +kernel
theorem dL_law_439 : decode cL_law 439 = .ok (.iconst 1, 1) := by decide +kernel
theorem dL_law_440 : decode cL_law 440 = .ok (.iadd, 1) := by decide +kernel
theorem dL_law_441 : decode cL_law 441 = .ok (.iaload, 1) := by decide +kernel
theorem dL_law_442 : decode cL_law 442 = .ok (.aload_n 0, 1) := by decide +kernel
theorem dL_law_443 : decode cL_law 443 = .ok (.iload_n 3, 1) := by decide +kernel
theorem dL_law_444 : decode cL_law 444 = .ok (.iconst 2, 1) := by decide +kernel
theorem dL_law_445 : decode cL_law 445 = .ok (.iadd, 1) := by decide +kernel
theorem dL_law_446 : decode cL_law 446 = .ok (.iaload, 1) := by decide +kernel
theorem dL_law_447 : decode cL_law 447 = .ok (.invokevirtual 48, 3) := by decide +kernel
theorem dL_law_450 : decode cL_law 450 = .ok (.aload_n 2, 1) := by decide +kernel
theorem dL_law_451 : decode cL_law 451 = .ok (.aload_n 0, 1) := by decide +kernel
theorem dL_law_452 : decode cL_law 452 = .ok (.iload_n 3, 1) := by decide +kernel
theorem dL_law_453 : decode cL_law 453 = .ok (.iconst 1, 1) := by decide +kernel
theorem dL_law_454 : decode cL_law 454 = .ok (.iadd, 1) := by decide +kernel
theorem dL_law_455 : decode cL_law 455 = .ok (.iaload, 1) := by decide +kernel
theorem dL_law_456 : decode cL_law 456 = .ok (.aload_n 0, 1) := by decide +kernel
theorem dL_law_457 : decode cL_law 457 = .ok (.iload_n 3, 1) := by decide +kernel
theorem dL_law_458 : decode cL_law 458 = .ok (.iconst 2, 1) := by decide +kernel
theorem dL_law_459 : decode cL_law 459 = .ok (.iadd, 1) := by decide +kernel
theorem dL_law_460 : decode cL_law 460 = .ok (.iaload, 1) := by decide +kernel
theorem dL_law_461 : decode cL_law 461 = .ok (.invokevirtual 51, 3) := by decide +kernel
theorem dL_law_464 : decode cL_law 464 = .ok (.if_icmp .eq 438, 3) := by decide +kernel
theorem dL_law_467 : decode cL_law 467 = .ok (.iconst 0, 1) := by decide +kernel
theorem dL_law_468 : decode cL_law 468 = .ok (.ireturn, 1) := by decide +kernel
theorem dL_law_469 : decode cL_law 469 = .ok (.aload_n 1, 1) := by decide +kernel
theorem dL_law_470 : decode cL_law 470 = .ok (.aload_n 0, 1) := by decide +kernel
theorem dL_law_471 : decode cL_law 471 = .ok (.iload_n 3, 1) := by decide +kernel
theorem dL_law_472 : decode cL_law 472 = .ok (.iconst 1, 1) := by decide +kernel
theorem dL_law_473 : decode cL_law 473 = .ok (.iadd, 1) := by decide +kernel
theorem dL_law_474 : decode cL_law 474 = .ok (.iaload, 1) := by decide +kernel
theorem dL_law_475 : decode cL_law 475 = .ok (.aload_n 0, 1) := by decide +kernel
theorem dL_law_476 : decode cL_law 476 = .ok (.iload_n 3, 1) := by decide +kernel
theorem dL_law_477 : decode cL_law 477 = .ok (.iconst 2, 1) := by decide +kernel
theorem dL_law_478 : decode cL_law 478 = .ok (.iadd, 1) := by decide +kernel
theorem dL_law_479 : decode cL_law 479 = .ok (.iaload, 1) := by decide +kernel
theorem dL_law_480 : decode cL_law 480 = .ok (.invokevirtual 52, 3) := by decide +kernel
theorem dL_law_483 : decode cL_law 483 = .ok (.aload_n 2, 1) := by decide +kernel
theorem dL_law_484 : decode cL_law 484 = .ok (.aload_n 0, 1) := by decide +kernel
theorem dL_law_485 : decode cL_law 485 = .ok (.iload_n 3, 1) := by decide +kernel
theorem dL_law_486 : decode cL_law 486 = .ok (.iconst 1, 1) := by decide +kernel
theorem dL_law_487 : decode cL_law 487 = .ok (.iadd, 1) := by decide +kernel
theorem dL_law_488 : decode cL_law 488 = .ok (.iaload, 1) := by decide +kernel
theorem dL_law_489 : decode cL_law 489 = .ok (.aload_n 0, 1) := by decide +kernel
theorem dL_law_490 : decode cL_law 490 = .ok (.iload_n 3, 1) := by decide +kernel
theorem dL_law_491 : decode cL_law 491 = .ok (.iconst 2, 1) := by decide +kernel
theorem dL_law_492 : decode cL_law 492 = .ok (.iadd, 1) := by decide +kernel
theorem dL_law_493 : decode cL_law 493 = .ok (.iaload, 1) := by decide +kernel
theorem dL_law_494 : decode cL_law 494 = .ok (.invokevirtual 55, 3) := by decide +kernel
theorem dL_law_497 : decode cL_law 497 = .ok (.if_icmp .eq 405, 3) := by decide +kernel
theorem dL_law_500 : decode cL_law 500 = .ok (.iconst 0, 1) := by decide +kernel
theorem dL_law_501 : decode cL_law 501 = .ok (.ireturn, 1) := by decide +kernel
theorem dL_law_502 : decode cL_law 502 = .ok (.aload_n 1, 1) := by decide +kernel
theorem dL_law_503 : decode cL_law 503 = .ok (.aload_n 0, 1) := by decide +kernel
theorem dL_law_504 : decode cL_law 504 = .ok (.iload_n 3, 1) := by decide +kernel
theorem dL_law_505 : decode cL_law 505 = .ok (.iconst 1, 1) := by decide +kernel
theorem dL_law_506 : decode cL_law 506 = .ok (.iadd, 1) := by decide +kernel
theorem dL_law_507 : decode cL_law 507 = .ok (.iaload, 1) := by decide +kernel
theorem dL_law_508 : decode cL_law 508 = .ok (.invokevirtual 56, 3) := by decide +kernel
theorem dL_law_511 : decode cL_law 511 = .ok (.aload_n 2, 1) := by decide +kernel
theorem dL_law_512 : decode cL_law 512 = .ok (.aload_n 0, 1) := by decide +kernel
theorem dL_law_513 : decode cL_law 513 = .ok (.iload_n 3, 1) := by decide +kernel
theorem dL_law_514 : decode cL_law 514 = .ok (.iconst 1, 1) := by decide +kernel
theorem dL_law_515 : decode cL_law 515 = .ok (.iadd, 1) := by decide +kernel
theorem dL_law_516 : decode cL_law 516 = .ok (.iaload, 1) := by decide +kernel
theorem dL_law_517 : decode cL_law 517 = .ok (.invokevirtual 59, 3) := by decide +kernel
theorem dL_law_520 : decode cL_law 520 = .ok (.if_icmp .eq 382, 3) := by decide +kernel
theorem dL_law_523 : decode cL_law 523 = .ok (.iconst 0, 1) := by decide +kernel
theorem dL_law_524 : decode cL_law 524 = .ok (.ireturn, 1) := by decide +kernel
theorem dL_law_525 : decode cL_law 525 = .ok (.aload_n 1, 1) := by decide +kernel
theorem dL_law_526 : decode cL_law 526 = .ok (.invokevirtual 60, 3) := by decide +kernel
theorem dL_law_529 : decode cL_law 529 = .ok (.aload_n 2, 1) := by decide +kernel
theorem dL_law_530 : decode cL_law 530 = .ok (.invokevirtual 64, 3) := by decide +kernel
theorem dL_law_533 : decode cL_law 533 = .ok (.if_icmp .eq 369, 3) := by decide +kernel
theorem dL_law_536 : decode cL_law 536 = .ok (.iconst 0, 1) := by decide +kernel
theorem dL_law_537 : decode cL_law 537 = .ok (.ireturn, 1) := by decide +kernel
theorem dL_law_538 : decode cL_law 538 = .ok (.aload_n 1, 1) := by decide +kernel
theorem dL_law_539 : decode cL_law 539 = .ok (.aload_n 0, 1) := by decide +kernel
theorem dL_law_540 : decode cL_law 540 = .ok (.iload_n 3, 1) := by decide +kernel
theorem dL_law_541 : decode cL_law 541 = .ok (.iconst 1, 1) := by decide +kernel
theorem dL_law_542 : decode cL_law 542 = .ok (.iadd, 1) := by decide +kernel
theorem dL_law_543 : decode cL_law 543 = .ok (.iaload, 1) := by decide +kernel
theorem dL_law_544 : decode cL_law 544 = .ok (.aload_n 0, 1) := by decide +kernel
theorem dL_law_545 : decode cL_law 545 = .ok (.iload_n 3, 1) := by decide +kernel
theorem dL_law_546 : decode cL_law 546 = .ok (.iconst 2, 1) := by decide +kernel
theorem dL_law_547 : decode cL_law 547 = .ok (.iadd, 1) := by decide +kernel
theorem dL_law_548 : decode cL_law 548 = .ok (.iaload, 1) := by decide +kernel
theorem dL_law_549 : decode cL_law 549 = .ok (.invokevirtual 65, 3) := by decide +kernel
theorem dL_law_552 : decode cL_law 552 = .ok (.aload_n 2, 1) := by decide +kernel
theorem dL_law_553 : decode cL_law 553 = .ok (.aload_n 0, 1) := by decide +kernel
theorem dL_law_554 : decode cL_law 554 = .ok (.iload_n 3, 1) := by decide +kernel
theorem dL_law_555 : decode cL_law 555 = .ok (.iconst 1, 1) := by decide +kernel
theorem dL_law_556 : decode cL_law 556 = .ok (.iadd, 1) := by decide +kernel
theorem dL_law_557 : decode cL_law 557 = .ok (.iaload, 1) := by decide +kernel
theorem dL_law_558 : decode cL_law 558 = .ok (.aload_n 0, 1) := by decide +kernel
theorem dL_law_559 : decode cL_law 559 = .ok (.iload_n 3, 1) := by decide +kernel
theorem dL_law_560 : decode cL_law 560 = .ok (.iconst 2, 1) := by decide +kernel
theorem dL_law_561 : decode cL_law 561 = .ok (.iadd, 1) := by decide +kernel
theorem dL_law_562 : decode cL_law 562 = .ok (.iaload, 1) := by decide +kernel
theorem dL_law_563 : decode cL_law 563 = .ok (.invokevirtual 68, 3) := by decide +kernel
theorem dL_law_566 : decode cL_law 566 = .ok (.if_icmp .eq 336, 3) := by decide +kernel
theorem dL_law_569 : decode cL_law 569 = .ok (.iconst 0, 1) := by decide +kernel
theorem dL_law_570 : decode cL_law 570 = .ok (.ireturn, 1) := by decide +kernel
theorem dL_law_571 : decode cL_law 571 = .ok (.aload_n 1, 1) := by decide +kernel
theorem dL_law_572 : decode cL_law 572 = .ok (.aload_n 0, 1) := by decide +kernel
theorem dL_law_573 : decode cL_law 573 = .ok (.iload_n 3, 1) := by decide +kernel
theorem dL_law_574 : decode cL_law 574 = .ok (.iconst 1, 1) := by decide +kernel
theorem dL_law_575 : decode cL_law 575 = .ok (.iadd, 1) := by decide +kernel
theorem dL_law_576 : decode cL_law 576 = .ok (.iaload, 1) := by decide +kernel
theorem dL_law_577 : decode cL_law 577 = .ok (.aload_n 0, 1) := by decide +kernel
theorem dL_law_578 : decode cL_law 578 = .ok (.iload_n 3, 1) := by decide +kernel
theorem dL_law_579 : decode cL_law 579 = .ok (.iconst 2, 1) := by decide +kernel
theorem dL_law_580 : decode cL_law 580 = .ok (.iadd, 1) := by decide +kernel
theorem dL_law_581 : decode cL_law 581 = .ok (.iaload, 1) := by decide +kernel
theorem dL_law_582 : decode cL_law 582 = .ok (.invokevirtual 69, 3) := by decide +kernel
theorem dL_law_585 : decode cL_law 585 = .ok (.aload_n 2, 1) := by decide +kernel
theorem dL_law_586 : decode cL_law 586 = .ok (.aload_n 0, 1) := by decide +kernel
theorem dL_law_587 : decode cL_law 587 = .ok (.iload_n 3, 1) := by decide +kernel
theorem dL_law_588 : decode cL_law 588 = .ok (.iconst 1, 1) := by decide +kernel
theorem dL_law_589 : decode cL_law 589 = .ok (.iadd, 1) := by decide +kernel
theorem dL_law_590 : decode cL_law 590 = .ok (.iaload, 1) := by decide +kernel
theorem dL_law_591 : decode cL_law 591 = .ok (.aload_n 0, 1) := by decide +kernel
theorem dL_law_592 : decode cL_law 592 = .ok (.iload_n 3, 1) := by decide +kernel
theorem dL_law_593 : decode cL_law 593 = .ok (.iconst 2, 1) := by decide +kernel
theorem dL_law_594 : decode cL_law 594 = .ok (.iadd, 1) := by decide +kernel
theorem dL_law_595 : decode cL_law 595 = .ok (.iaload, 1) := by decide +kernel
theorem dL_law_596 : decode cL_law 596 = .ok (.invokevirtual 72, 3) := by decide +kernel
theorem dL_law_599 : decode cL_law 599 = .ok (.if_icmp .eq 303, 3) := by decide +kernel
theorem dL_law_602 : decode cL_law 602 = .ok (.iconst 0, 1) := by decide +kernel
theorem dL_law_603 : decode cL_law 603 = .ok (.ireturn, 1) := by decide +kernel
theorem dL_law_604 : decode cL_law 604 = .ok (.aload_n 1, 1) := by decide +kernel
theorem dL_law_605 : decode cL_law 605 = .ok (.aload_n 0, 1) := by decide +kernel
theorem dL_law_606 : decode cL_law 606 = .ok (.iload_n 3, 1) := by decide +kernel
theorem dL_law_607 : decode cL_law 607 = .ok (.iconst 1, 1) := by decide +kernel
theorem dL_law_608 : decode cL_law 608 = .ok (.iadd, 1) := by decide +kernel
theorem dL_law_609 : decode cL_law 609 = .ok (.iaload, 1) := by decide +kernel
theorem dL_law_610 : decode cL_law 610 = .ok (.aload_n 0, 1) := by decide +kernel
theorem dL_law_611 : decode cL_law 611 = .ok (.iload_n 3, 1) := by decide +kernel
theorem dL_law_612 : decode cL_law 612 = .ok (.iconst 2, 1) := by decide +kernel
theorem dL_law_613 : decode cL_law 613 = .ok (.iadd, 1) := by decide +kernel
theorem dL_law_614 : decode cL_law 614 = .ok (.iaload, 1) := by decide +kernel
theorem dL_law_615 : decode cL_law 615 = .ok (.invokevirtual 73, 3) := by decide +kernel
theorem dL_law_618 : decode cL_law 618 = .ok (.aload_n 2, 1) := by decide +kernel
theorem dL_law_619 : decode cL_law 619 = .ok (.aload_n 0, 1) := by decide +kernel
theorem dL_law_620 : decode cL_law 620 = .ok (.iload_n 3, 1) := by decide +kernel
theorem dL_law_621 : decode cL_law 621 = .ok (.iconst 1, 1) := by decide +kernel
theorem dL_law_622 : decode cL_law 622 = .ok (.iadd, 1) := by decide +kernel
theorem dL_law_623 : decode cL_law 623 = .ok (.iaload, 1) := by decide +kernel
theorem dL_law_624 : decode cL_law 624 = .ok (.aload_n 0, 1) := by decide +kernel
theorem dL_law_625 : decode cL_law 625 = .ok (.iload_n 3, 1) := by decide +kernel
theorem dL_law_626 : decode cL_law 626 = .ok (.iconst 2, 1) := by decide +kernel
theorem dL_law_627 : decode cL_law 627 = .ok (.iadd, 1) := by decide +kernel
theorem dL_law_628 : decode cL_law 628 = .ok (.iaload, 1) := by decide +kernel
theorem dL_law_629 : decode cL_law 629 = .ok (.invokevirtual 76, 3) := by decide +kernel
theorem dL_law_632 : decode cL_law 632 = .ok (.if_icmp .eq 270, 3) := by decide +kernel
theorem dL_law_635 : decode cL_law 635 = .ok (.iconst 0, 1) := by decide +kernel
theorem dL_law_636 : decode cL_law 636 = .ok (.ireturn, 1) := by decide +kernel
theorem dL_law_637 : decode cL_law 637 = .ok (.aload_n 1, 1) := by decide +kernel
theorem dL_law_638 : decode cL_law 638 = .ok (.aload_n 0, 1) := by decide +kernel
theorem dL_law_639 : decode cL_law 639 = .ok (.iload_n 3, 1) := by decide +kernel
theorem dL_law_640 : decode cL_law 640 = .ok (.iconst 1, 1) := by decide +kernel
theorem dL_law_641 : decode cL_law 641 = .ok (.iadd, 1) := by decide +kernel
theorem dL_law_642 : decode cL_law 642 = .ok (.iaload, 1) := by decide +kernel
theorem dL_law_643 : decode cL_law 643 = .ok (.invokevirtual 77, 3) := by decide +kernel
theorem dL_law_646 : decode cL_law 646 = .ok (.aload_n 2, 1) := by decide +kernel
theorem dL_law_647 : decode cL_law 647 = .ok (.aload_n 0, 1) := by decide +kernel
theorem dL_law_648 : decode cL_law 648 = .ok (.iload_n 3, 1) := by decide +kernel
theorem dL_law_649 : decode cL_law 649 = .ok (.iconst 1, 1) := by decide +kernel
theorem dL_law_650 : decode cL_law 650 = .ok (.iadd, 1) := by decide +kernel
theorem dL_law_651 : decode cL_law 651 = .ok (.iaload, 1) := by decide +kernel
theorem dL_law_652 : decode cL_law 652 = .ok (.invokevirtual 80, 3) := by decide +kernel
theorem dL_law_655 : decode cL_law 655 = .ok (.if_icmp .eq 247, 3) := by decide +kernel
theorem dL_law_658 : decode cL_law 658 = .ok (.iconst 0, 1) := by decide +kernel
theorem dL_law_659 : decode cL_law 659 = .ok (.ireturn, 1) := by decide +kernel
theorem dL_law_660 : decode cL_law 660 = .ok (.aload_n 1, 1) := by decide +kernel
theorem dL_law_661 : decode cL_law 661 = .ok (.aload_n 0, 1) := by decide +kernel
theorem dL_law_662 : decode cL_law 662 = .ok (.iload_n 3, 1) := by decide +kernel
theorem dL_law_663 : decode cL_law 663 = .ok (.iconst 1, 1) := by decide +kernel
theorem dL_law_664 : decode cL_law 664 = .ok (.iadd, 1) := by decide +kernel
theorem dL_law_665 : decode cL_law 665 = .ok (.iaload, 1) := by decide +kernel
theorem dL_law_666 : decode cL_law 666 = .ok (.aload_n 0, 1) := by decide +kernel
theorem dL_law_667 : decode cL_law 667 = .ok (.iload_n 3, 1) := by decide +kernel
theorem dL_law_668 : decode cL_law 668 = .ok (.iconst 2, 1) := by decide +kernel
theorem dL_law_669 : decode cL_law 669 = .ok (.iadd, 1) := by decide +kernel
theorem dL_law_670 : decode cL_law 670 = .ok (.iaload, 1) := by decide +kernel
theorem dL_law_671 : decode cL_law 671 = .ok (.invokevirtual 81, 3) := by decide +kernel
theorem dL_law_674 : decode cL_law 674 = .ok (.aload_n 2, 1) := by decide +kernel
theorem dL_law_675 : decode cL_law 675 = .ok (.aload_n 0, 1) := by decide +kernel
theorem dL_law_676 : decode cL_law 676 = .ok (.iload_n 3, 1) := by decide +kernel
theorem dL_law_677 : decode cL_law 677 = .ok (.iconst 1, 1) := by decide +kernel
theorem dL_law_678 : decode cL_law 678 = .ok (.iadd, 1) := by decide +kernel
theorem dL_law_679 : decode cL_law 679 = .ok (.iaload, 1) := by decide +kernel
theorem dL_law_680 : decode cL_law 680 = .ok (.aload_n 0, 1) := by decide +kernel
theorem dL_law_681 : decode cL_law 681 = .ok (.iload_n 3, 1) := by decide +kernel
theorem dL_law_682 : decode cL_law 682 = .ok (.iconst 2, 1) := by decide +kernel
theorem dL_law_683 : decode cL_law 683 = .ok (.iadd, 1) := by decide +kernel
theorem dL_law_684 : decode cL_law 684 = .ok (.iaload, 1) := by decide +kernel
theorem dL_law_685 : decode cL_law 685 = .ok (.invokevirtual 84, 3) := by decide +kernel
theorem dL_law_688 : decode cL_law 688 = .ok (.if_icmp .eq 214, 3) := by decide +kernel
theorem dL_law_691 : decode cL_law 691 = .ok (.iconst 0, 1) := by decide +kernel
theorem dL_law_692 : decode cL_law 692 = .ok (.ireturn, 1) := by decide +kernel
theorem dL_law_693 : decode cL_law 693 = .ok (.aload_n 1, 1) := by decide +kernel
theorem dL_law_694 : decode cL_law 694 = .ok (.aload_n 0, 1) := by decide +kernel
theorem dL_law_695 : decode cL_law 695 = .ok (.iload_n 3, 1) := by decide +kernel
theorem dL_law_696 : decode cL_law 696 = .ok (.iconst 1, 1) := by decide +kernel
theorem dL_law_697 : decode cL_law 697 = .ok (.iadd, 1) := by decide +kernel
theorem dL_law_698 : decode cL_law 698 = .ok (.iaload, 1) := by decide +kernel
theorem dL_law_699 : decode cL_law 699 = .ok (.aload_n 0, 1) := by decide +kernel
theorem dL_law_700 : decode cL_law 700 = .ok (.iload_n 3, 1) := by decide +kernel
theorem dL_law_701 : decode cL_law 701 = .ok (.iconst 2, 1) := by decide +kernel
theorem dL_law_702 : decode cL_law 702 = .ok (.iadd, 1) := by decide +kernel
theorem dL_law_703 : decode cL_law 703 = .ok (.iaload, 1) := by decide +kernel
theorem dL_law_704 : decode cL_law 704 = .ok (.invokevirtual 85, 3) := by decide +kernel
theorem dL_law_707 : decode cL_law 707 = .ok (.aload_n 2, 1) := by decide +kernel
theorem dL_law_708 : decode cL_law 708 = .ok (.aload_n 0, 1) := by decide +kernel
theorem dL_law_709 : decode cL_law 709 = .ok (.iload_n 3, 1) := by decide +kernel
theorem dL_law_710 : decode cL_law 710 = .ok (.iconst 1, 1) := by decide +kernel
theorem dL_law_711 : decode cL_law 711 = .ok (.iadd, 1) := by decide +kernel
theorem dL_law_712 : decode cL_law 712 = .ok (.iaload, 1) := by decide +kernel
theorem dL_law_713 : decode cL_law 713 = .ok (.aload_n 0, 1) := by decide +kernel
theorem dL_law_714 : decode cL_law 714 = .ok (.iload_n 3, 1) := by decide +kernel
theorem dL_law_715 : decode cL_law 715 = .ok (.iconst 2, 1) := by decide +kernel
theorem dL_law_716 : decode cL_law 716 = .ok (.iadd, 1) := by decide +kernel
theorem dL_law_717 : decode cL_law 717 = .ok (.iaload, 1) := by decide +kernel
theorem dL_law_718 : decode cL_law 718 = .ok (.invokevirtual 88, 3) := by decide +kernel
theorem dL_law_721 : decode cL_law 721 = .ok (.if_icmp .eq 181, 3) := by decide +kernel
theorem dL_law_724 : decode cL_law 724 = .ok (.iconst 0, 1) := by decide +kernel
theorem dL_law_725 : decode cL_law 725 = .ok (.ireturn, 1) := by decide +kernel
theorem dL_law_726 : decode cL_law 726 = .ok (.aload_n 1, 1) := by decide +kernel
theorem dL_law_727 : decode cL_law 727 = .ok (.aload_n 0, 1) := by decide +kernel
theorem dL_law_728 : decode cL_law 728 = .ok (.iload_n 3, 1) := by decide +kernel
theorem dL_law_729 : decode cL_law 729 = .ok (.iconst 1, 1) := by decide +kernel
theorem dL_law_730 : decode cL_law 730 = .ok (.iadd, 1) := by decide +kernel
theorem dL_law_731 : decode cL_law 731 = .ok (.iaload, 1) := by decide +kernel
theorem dL_law_732 : decode cL_law 732 = .ok (.aload_n 0, 1) := by decide +kernel
theorem dL_law_733 : decode cL_law 733 = .ok (.iload_n 3, 1) := by decide +kernel
theorem dL_law_734 : decode cL_law 734 = .ok (.iconst 2, 1) := by decide +kernel
theorem dL_law_735 : decode cL_law 735 = .ok (.iadd, 1) := by decide +kernel
theorem dL_law_736 : decode cL_law 736 = .ok (.iaload, 1) := by decide +kernel
theorem dL_law_737 : decode cL_law 737 = .ok (.invokevirtual 89, 3) := by decide +kernel
theorem dL_law_740 : decode cL_law 740 = .ok (.aload_n 2, 1) := by decide +kernel
theorem dL_law_741 : decode cL_law 741 = .ok (.aload_n 0, 1) := by decide +kernel
theorem dL_law_742 : decode cL_law 742 = .ok (.iload_n 3, 1) := by decide +kernel
theorem dL_law_743 : decode cL_law 743 = .ok (.iconst 1, 1) := by decide +kernel
theorem dL_law_744 : decode cL_law 744 = .ok (.iadd, 1) := by decide +kernel
theorem dL_law_745 : decode cL_law 745 = .ok (.iaload, 1) := by decide +kernel
theorem dL_law_746 : decode cL_law 746 = .ok (.aload_n 0, 1) := by decide +kernel
theorem dL_law_747 : decode cL_law 747 = .ok (.iload_n 3, 1) := by decide +kernel
theorem dL_law_748 : decode cL_law 748 = .ok (.iconst 2, 1) := by decide +kernel
theorem dL_law_749 : decode cL_law 749 = .ok (.iadd, 1) := by decide +kernel
theorem dL_law_750 : decode cL_law 750 = .ok (.iaload, 1) := by decide +kernel
theorem dL_law_751 : decode cL_law 751 = .ok (.invokevirtual 92, 3) := by decide +kernel
theorem dL_law_754 : decode cL_law 754 = .ok (.if_icmp .eq 148, 3) := by decide +kernel
theorem dL_law_757 : decode cL_law 757 = .ok (.iconst 0, 1) := by decide +kernel
theorem dL_law_758 : decode cL_law 758 = .ok (.ireturn, 1) := by decide +kernel
theorem dL_law_759 : decode cL_law 759 = .ok (.aload_n 1, 1) := by decide +kernel
theorem dL_law_760 : decode cL_law 760 = .ok (.aload_n 0, 1) := by decide +kernel
theorem dL_law_761 : decode cL_law 761 = .ok (.iload_n 3, 1) := by decide +kernel
theorem dL_law_762 : decode cL_law 762 = .ok (.iconst 1, 1) := by decide +kernel
theorem dL_law_763 : decode cL_law 763 = .ok (.iadd, 1) := by decide +kernel
theorem dL_law_764 : decode cL_law 764 = .ok (.iaload, 1) := by decide +kernel
theorem dL_law_765 : decode cL_law 765 = .ok (.aload_n 0, 1) := by decide +kernel
theorem dL_law_766 : decode cL_law 766 = .ok (.iload_n 3, 1) := by decide +kernel
theorem dL_law_767 : decode cL_law 767 = .ok (.iconst 2, 1) := by decide +kernel
theorem dL_law_768 : decode cL_law 768 = .ok (.iadd, 1) := by decide +kernel
theorem dL_law_769 : decode cL_law 769 = .ok (.iaload, 1) := by decide +kernel
theorem dL_law_770 : decode cL_law 770 = .ok (.aload_n 0, 1) := by decide +kernel
theorem dL_law_771 : decode cL_law 771 = .ok (.iload_n 3, 1) := by decide +kernel
theorem dL_law_772 : decode cL_law 772 = .ok (.iconst 3, 1) := by decide +kernel
theorem dL_law_773 : decode cL_law 773 = .ok (.iadd, 1) := by decide +kernel
theorem dL_law_774 : decode cL_law 774 = .ok (.iaload, 1) := by decide +kernel
theorem dL_law_775 : decode cL_law 775 = .ok (.invokevirtual 93, 3) := by decide +kernel
theorem dL_law_778 : decode cL_law 778 = .ok (.aload_n 2, 1) := by decide +kernel
theorem dL_law_779 : decode cL_law 779 = .ok (.aload_n 0, 1) := by decide +kernel
theorem dL_law_780 : decode cL_law 780 = .ok (.iload_n 3, 1) := by decide +kernel
theorem dL_law_781 : decode cL_law 781 = .ok (.iconst 1, 1) := by decide +kernel
theorem dL_law_782 : decode cL_law 782 = .ok (.iadd, 1) := by decide +kernel
theorem dL_law_783 : decode cL_law 783 = .ok (.iaload, 1) := by decide +kernel
theorem dL_law_784 : decode cL_law 784 = .ok (.aload_n 0, 1) := by decide +kernel
theorem dL_law_785 : decode cL_law 785 = .ok (.iload_n 3, 1) := by decide +kernel
theorem dL_law_786 : decode cL_law 786 = .ok (.iconst 2, 1) := by decide +kernel
theorem dL_law_787 : decode cL_law 787 = .ok (.iadd, 1) := by decide +kernel
theorem dL_law_788 : decode cL_law 788 = .ok (.iaload, 1) := by decide +kernel
theorem dL_law_789 : decode cL_law 789 = .ok (.aload_n 0, 1) := by decide +kernel
theorem dL_law_790 : decode cL_law 790 = .ok (.iload_n 3, 1) := by decide +kernel
theorem dL_law_791 : decode cL_law 791 = .ok (.iconst 3, 1) := by decide +kernel
theorem dL_law_792 : decode cL_law 792 = .ok (.iadd, 1) := by decide +kernel
theorem dL_law_793 : decode cL_law 793 = .ok (.iaload, 1) := by decide +kernel
theorem dL_law_794 : decode cL_law 794 = .ok (.invokevirtual 97, 3) := by decide +kernel
theorem dL_law_797 : decode cL_law 797 = .ok (.lcmp, 1) := by decide +kernel
theorem dL_law_798 : decode cL_law 798 = .ok (.ifCond .eq 104, 3) := by decide +kernel
theorem dL_law_801 : decode cL_law 801 = .ok (.iconst 0, 1) := by decide +kernel
theorem dL_law_802 : decode cL_law 802 = .ok (.ireturn, 1) := by decide +kernel
theorem dL_law_803 : decode cL_law 803 = .ok (.aload_n 1, 1) := by decide +kernel
theorem dL_law_804 : decode cL_law 804 = .ok (.aload_n 0, 1) := by decide +kernel
theorem dL_law_805 : decode cL_law 805 = .ok (.iload_n 3, 1) := by decide +kernel
theorem dL_law_806 : decode cL_law 806 = .ok (.iconst 1, 1) := by decide +kernel
theorem dL_law_807 : decode cL_law 807 = .ok (.iadd, 1) := by decide +kernel
theorem dL_law_808 : decode cL_law 808 = .ok (.iaload, 1) := by decide +kernel
theorem dL_law_809 : decode cL_law 809 = .ok (.invokevirtual 98, 3) := by decide +kernel
theorem dL_law_812 : decode cL_law 812 = .ok (.aload_n 2, 1) := by decide +kernel
theorem dL_law_813 : decode cL_law 813 = .ok (.aload_n 0, 1) := by decide +kernel
theorem dL_law_814 : decode cL_law 814 = .ok (.iload_n 3, 1) := by decide +kernel
theorem dL_law_815 : decode cL_law 815 = .ok (.iconst 1, 1) := by decide +kernel
theorem dL_law_816 : decode cL_law 816 = .ok (.iadd, 1) := by decide +kernel
theorem dL_law_817 : decode cL_law 817 = .ok (.iaload, 1) := by decide +kernel
theorem dL_law_818 : decode cL_law 818 = .ok (.invokevirtual 101, 3) := by decide +kernel
theorem dL_law_821 : decode cL_law 821 = .ok (.if_icmp .eq 81, 3) := by decide +kernel
theorem dL_law_824 : decode cL_law 824 = .ok (.iconst 0, 1) := by decide +kernel
theorem dL_law_825 : decode cL_law 825 = .ok (.ireturn, 1) := by decide +kernel
theorem dL_law_826 : decode cL_law 826 = .ok (.aload_n 1, 1) := by decide +kernel
theorem dL_law_827 : decode cL_law 827 = .ok (.invokevirtual 102, 3) := by decide +kernel
theorem dL_law_830 : decode cL_law 830 = .ok (.aload_n 2, 1) := by decide +kernel
theorem dL_law_831 : decode cL_law 831 = .ok (.invokevirtual 105, 3) := by decide +kernel
theorem dL_law_834 : decode cL_law 834 = .ok (.if_icmp .eq 68, 3) := by decide +kernel
theorem dL_law_837 : decode cL_law 837 = .ok (.iconst 0, 1) := by decide +kernel
theorem dL_law_838 : decode cL_law 838 = .ok (.ireturn, 1) := by decide +kernel
theorem dL_law_839 : decode cL_law 839 = .ok (.aload_n 1, 1) := by decide +kernel
theorem dL_law_840 : decode cL_law 840 = .ok (.invokevirtual 106, 3) := by decide +kernel
theorem dL_law_843 : decode cL_law 843 = .ok (.aload_n 2, 1) := by decide +kernel
theorem dL_law_844 : decode cL_law 844 = .ok (.invokevirtual 109, 3) := by decide +kernel
theorem dL_law_847 : decode cL_law 847 = .ok (.if_icmp .eq 55, 3) := by decide +kernel
theorem dL_law_850 : decode cL_law 850 = .ok (.iconst 0, 1) := by decide +kernel
theorem dL_law_851 : decode cL_law 851 = .ok (.ireturn, 1) := by decide +kernel
theorem dL_law_852 : decode cL_law 852 = .ok (.aload_n 1, 1) := by decide +kernel
theorem dL_law_853 : decode cL_law 853 = .ok (.invokevirtual 110, 3) := by decide +kernel
theorem dL_law_856 : decode cL_law 856 = .ok (.aload_n 2, 1) := by decide +kernel
theorem dL_law_857 : decode cL_law 857 = .ok (.invokevirtual 113, 3) := by decide +kernel
theorem dL_law_860 : decode cL_law 860 = .ok (.if_icmp .eq 42, 3) := by decide +kernel
theorem dL_law_863 : decode cL_law 863 = .ok (.iconst 0, 1) := by decide +kernel
theorem dL_law_864 : decode cL_law 864 = .ok (.ireturn, 1) := by decide +kernel
theorem dL_law_865 : decode cL_law 865 = .ok (.aload_n 1, 1) := by decide +kernel
theorem dL_law_866 : decode cL_law 866 = .ok (.aload_n 0, 1) := by decide +kernel
theorem dL_law_867 : decode cL_law 867 = .ok (.iload_n 3, 1) := by decide +kernel
theorem dL_law_868 : decode cL_law 868 = .ok (.iconst 1, 1) := by decide +kernel
theorem dL_law_869 : decode cL_law 869 = .ok (.iadd, 1) := by decide +kernel
theorem dL_law_870 : decode cL_law 870 = .ok (.iaload, 1) := by decide +kernel
theorem dL_law_871 : decode cL_law 871 = .ok (.invokevirtual 114, 3) := by decide +kernel
theorem dL_law_874 : decode cL_law 874 = .ok (.aload_n 2, 1) := by decide +kernel
theorem dL_law_875 : decode cL_law 875 = .ok (.aload_n 0, 1) := by decide +kernel
theorem dL_law_876 : decode cL_law 876 = .ok (.iload_n 3, 1) := by decide +kernel
theorem dL_law_877 : decode cL_law 877 = .ok (.iconst 1, 1) := by decide +kernel
theorem dL_law_878 : decode cL_law 878 = .ok (.iadd, 1) := by decide +kernel
theorem dL_law_879 : decode cL_law 879 = .ok (.iaload, 1) := by decide +kernel
theorem dL_law_880 : decode cL_law 880 = .ok (.invokevirtual 117, 3) := by decide +kernel
theorem dL_law_883 : decode cL_law 883 = .ok (.if_icmp .eq 19, 3) := by decide +kernel
theorem dL_law_886 : decode cL_law 886 = .ok (.iconst 0, 1) := by decide +kernel
theorem dL_law_887 : decode cL_law 887 = .ok (.ireturn, 1) := by decide +kernel
theorem dL_law_888 : decode cL_law 888 = .ok (.aload_n 1, 1) := by decide +kernel
theorem dL_law_889 : decode cL_law 889 = .ok (.invokevirtual 118, 3) := by decide +kernel
theorem dL_law_892 : decode cL_law 892 = .ok (.aload_n 2, 1) := by decide +kernel
theorem dL_law_893 : decode cL_law 893 = .ok (.invokevirtual 122, 3) := by decide +kernel
theorem dL_law_896 : decode cL_law 896 = .ok (.lcmp, 1) := by decide +kernel
theorem dL_law_897 : decode cL_law 897 = .ok (.ifCond .eq 5, 3) := by decide +kernel
theorem dL_law_900 : decode cL_law 900 = .ok (.iconst 0, 1) := by decide +kernel
theorem dL_law_901 : decode cL_law 901 = .ok (.ireturn, 1) := by decide +kernel
theorem dL_law_902 : decode cL_law 902 = .ok (.iinc 3 4, 3) := by decide +kernel
theorem dL_law_905 : decode cL_law 905 = .ok (.goto (-887), 3) := by decide +kernel
theorem dL_law_908 : decode cL_law 908 = .ok (.iconst 1, 1) := by decide +kernel
theorem dL_law_909 : decode cL_law 909 = .ok (.ireturn, 1) := by decide +kernel
end
section
/-! THE ABSTRACT MACHINE of this proof. Abstract addresses 0, 1, 2 are the two static rows and the script (read only, tag 6); k + 3 is the k-th cell made since the law began. A cell is an array (tag, length, contents) or an object (class, fields). -/
def gT : List Cond := lw_tbl.filter goodWord
theorem gm {w : Cond} (h : w ∈ lw_tbl) (hg : goodWord w = true) : w ∈ gT := List.mem_filter.mpr ⟨h, hg⟩
abbrev aE : Type := (Nat × vp_A) ⊕ (Nat × List Value)
abbrev aH : Type := Nat → aE
abbrev aM : Type := (Nat → ClassId) × (Nat × Nat × Nat × Nat)
abbrev aB (M : aM) : Nat := M.2.2.2.2
def aR (M : aM) (k : Nat) : Nat := match k with
  | 0 => M.2.1
  | 1 => M.2.2.1
  | 2 => M.2.2.2.1
  | k + 3 => aB M + k
def vm (M : aM) (v : Value) : Value := match v with
  | .ref a => .ref (aR M a)
  | v => v
def dm (M : aM) (d : vp_A) : vp_A := match d with
  | (n, .inr (.inr (.inr (.inr f)))) => (n, .inr (.inr (.inr (.inr (fun i => (f i).map (aR M))))))
  | d => d
def tE (M : aM) (e : aE) : va_E := match e with
  | .inl (t, d) => .inl (M.1 t, dm M d)
  | .inr (ci, fs) => .inr (ci, fs.map (vm M))
def aT (M : aM) : List (ClassId × FieldType) := [(M.1 0, .int), (M.1 1, .long), (M.1 2, .array .int), (M.1 3, .array .long), (M.1 4, .object RX3), (M.1 5, .object RX6)]
abbrev junk : aE := .inr (1000, [])
def hs (h : aH) (a : Nat) (e : aE) : aH := fun k => if k = a then e else h k
theorem hs_eq (h : aH) (a : Nat) (e : aE) : hs h a e a = e := if_pos rfl
theorem hs_ne {h : aH} {a k : Nat} {e : aE} (q : k ≠ a) : hs h a e k = h k := if_neg q
theorem hs_hs (h : aH) (a : Nat) (e e' : aE) : hs (hs h a e) a e' = hs h a e' := by
  funext k
  by_cases q : k = a <;> simp [hs, q]
theorem hs_self {h : aH} {a : Nat} {e : aE} (q : h a = e) : hs h a e = h := by
  funext k
  by_cases z : k = a
  · subst z; simp [hs, q]
  · simp [hs, z]
theorem hs_comm (h : aH) {a b : Nat} (e e' : aE) (q : a ≠ b) : hs (hs h a e) b e' = hs (hs h b e') a e := by
  funext k
  by_cases z : k = a
  · subst z; simp [hs, q]
  · simp [hs, z]
abbrev aSw (M : aM) : Nat → Prop := fun q => aB M ≤ q
/-- a row that is only read: nothing is known of its cell but its class and numbers -/
def RoAt (M : aM) (k : Nat) (e : aE) (H : Heap) : Prop := ∃ (n : Nat) (f : Nat → Int32) (cell : Cell), e = .inl (6, (n, .inl f)) ∧ H[aR M k]? = some cell ∧ cell.cls = M.1 (6 + k) ∧ cell.vm ≠ .unknown ∧ (∀ j, cell.vm ≠ .statics j) ∧ n ≤ cell.slots.size ∧ cell.slots.size.toInt32 = Int32.ofNat n ∧ ∀ j, j < n → cell.slots[j]? = some (.int (f j))
def Rep (D : va_G) (M : aM) (N : Nat) (h : aH) (H : Heap) : Prop :=
  3 ≤ N ∧ H.size + 3 = aB M + N ∧ (M.2.1 < aB M ∧ M.2.2.1 < aB M ∧ M.2.2.2.1 < aB M) ∧ (∀ k, k < 3 → RoAt M k (h k) H) ∧ (∀ k, N ≤ k → h k = junk) ∧ ∀ k, 3 ≤ k → k < N → va_at D vwCl (aR M k, tE M (h k)) H
theorem aR_lt {M : aM} {k : Nat} (hc : M.2.1 < aB M ∧ M.2.2.1 < aB M ∧ M.2.2.2.1 < aB M) (hk : k < 3) : aR M k < aB M := by
  match k, hk with
  | 0, _ => exact hc.1
  | 1, _ => exact hc.2.1
  | 2, _ => exact hc.2.2
theorem RoAt.kept {M : aM} {k : Nat} {e : aE} {H H1 : Heap} (r : RoAt M k e H) (q : H1[aR M k]? = H[aR M k]?) : RoAt M k e H1 := by
  obtain ⟨n, f, cell, a, b, c⟩ := r
  exact ⟨n, f, cell, a, by rw [q, b], c⟩
theorem aR_new {M : aM} {N : Nat} {H : Heap} (h3 : 3 ≤ N) (hz : H.size + 3 = aB M + N) : aR M N = H.size := by
  obtain ⟨k, rfl⟩ : ∃ k, N = k + 3 := ⟨N - 3, by omega⟩
  show aB M + k = _
  omega
theorem aR_inj {M : aM} {j k : Nat} (hc : M.2.1 < aB M ∧ M.2.2.1 < aB M ∧ M.2.2.2.1 < aB M) (hk : 3 ≤ k) (hjk : j ≠ k) : aR M j ≠ aR M k := by
  obtain ⟨k, rfl⟩ : ∃ q, k = q + 3 := ⟨k - 3, by omega⟩
  obtain ⟨h1, h2, h3⟩ := hc
  match j, hjk with
  | 0, _ => exact fun q => by have q : M.2.1 = aB M + k := q; omega
  | 1, _ => exact fun q => by have q : M.2.2.1 = aB M + k := q; omega
  | 2, _ => exact fun q => by have q : M.2.2.2.1 = aB M + k := q; omega
  | j + 3, hjk => exact fun q => by have q : aB M + j = aB M + k := q; omega
theorem aR_base {M : aM} {k : Nat} (hk : 3 ≤ k) : aB M ≤ aR M k := by
  obtain ⟨k, rfl⟩ : ∃ q, k = q + 3 := ⟨k - 3, by omega⟩
  exact Nat.le_add_right _ _
theorem Rep.set {D : va_G} {M : aM} {N k : Nat} {h : aH} {H H1 : Heap} {e : aE} (R : Rep D M N h H) (hk : 3 ≤ k) (hN : k < N) (he : va_at D vwCl (aR M k, tE M e) H1) (hz : H1.size = H.size) (ho : ∀ q, q ≠ aR M k → H1[q]? = H[q]?) : Rep D M N (hs h k e) H1 := by
  obtain ⟨r1, r2, r3, r4, r5, r6⟩ := R
  refine ⟨r1, by rw [hz]; exact r2, r3, fun j hj => ?_, fun j hj => ?_, fun j hj3 hj => ?_⟩
  · rw [hs_ne (by omega)]; exact (r4 j hj).kept (ho _ (aR_inj r3 hk (by omega)))
  · rw [hs_ne (by omega)]; exact r5 j hj
  · by_cases q : j = k
    · subst q; rw [hs_eq]; exact he
    · rw [hs_ne q]; exact (r6 j hj3 hj).kept (ho _ (aR_inj r3 hk q))
theorem Rep.push {D : va_G} {M : aM} {N : Nat} {h : aH} {H H1 : Heap} {e : aE} (R : Rep D M N h H) (he : va_at D vwCl (H.size, tE M e) H1) (hz : H1.size = H.size + 1) (ho : ∀ q, q < H.size → H1[q]? = H[q]?) : Rep D M (N + 1) (hs h N e) H1 := by
  obtain ⟨r1, r2, r3, r4, r5, r6⟩ := R
  refine ⟨by omega, by rw [hz]; omega, r3, fun j hj => ?_, fun j hj => ?_, fun j hj3 hj => ?_⟩
  · rw [hs_ne (by omega)]; exact (r4 j hj).kept (ho _ (by have := aR_lt r3 hj; omega))
  · rw [hs_ne (by omega)]; exact r5 j (by omega)
  · by_cases q : j = N
    · subst q; rw [hs_eq, aR_new r1 r2]; exact he
    · rw [hs_ne q]; exact (r6 j hj3 (by omega)).kept (ho _ (r6 j hj3 (by omega)).lt)
theorem Rep.lt_o {D : va_G} {M : aM} {N k ci : Nat} {h : aH} {H : Heap} {fs : List Value} {q : vw_C} (R : Rep D M N h H) (hk : h k = .inr (ci, fs)) (hc : vwCl[ci]? = some q) : 3 ≤ k ∧ k < N := by
  obtain ⟨r1, r2, r3, r4, r5, r6⟩ := R
  refine ⟨?_, ?_⟩
  · rcases Nat.lt_or_ge k 3 with z | z
    · obtain ⟨n, f, _, hx, -⟩ := r4 k z; rw [hx] at hk; cases hk
    · exact z
  · rcases Nat.lt_or_ge k N with z | z
    · exact z
    · rw [r5 k z] at hk; cases hk; cases hc
theorem Rep.lt_a {D : va_G} {M : aM} {N k t : Nat} {h : aH} {H : Heap} {x : vp_A} (R : Rep D M N h H) (hk : h k = .inl (t, x)) : k < N ∧ (t ≠ 6 → 3 ≤ k) := by
  obtain ⟨r1, r2, r3, r4, r5, r6⟩ := R
  refine ⟨?_, fun ht => ?_⟩
  · rcases Nat.lt_or_ge k N with z | z
    · exact z
    · rw [r5 k z] at hk; cases hk
  · rcases Nat.lt_or_ge k 3 with z | z
    · obtain ⟨n, f, _, hx, -⟩ := r4 k z; rw [hx] at hk; cases hk; exact absurd rfl ht
    · exact z
theorem Rep.o {D : va_G} {M : aM} {N k ci : Nat} {h : aH} {H : Heap} {fs : List Value} {q : vw_C} (R : Rep D M N h H) (hk : h k = .inr (ci, fs)) (hc : vwCl[ci]? = some q) : va_P D vwCl [(aR M k, .inr (ci, fs.map (vm M)))] H := by
  have z := R.lt_o hk hc
  have r := R.2.2.2.2.2 k z.1 z.2
  rw [hk] at r
  intro j x hx
  match j, hx with
  | 0, hx => cases hx; exact r
theorem Rep.a {D : va_G} {M : aM} {N k t : Nat} {h : aH} {H : Heap} {x : vp_A} (R : Rep D M N h H) (hk : h k = .inl (t, x)) (h3 : 3 ≤ k) : va_P D vwCl [(aR M k, .inl (M.1 t, dm M x))] H := by
  have z := (R.lt_a hk).1
  have r := R.2.2.2.2.2 k h3 z
  rw [hk] at r
  intro j x hx
  match j, hx with
  | 0, hx => cases hx; exact r
/-! locals by place -/
def lg : List (Option Value) → Nat → Option Value
  | [], _ => none
  | a :: _, 0 => a
  | _ :: t, i + 1 => lg t i
def lset : List (Option Value) → Nat → Value → List (Option Value)
  | [], _, _ => []
  | _ :: t, 0, v => some v :: t
  | a :: t, i + 1, v => a :: lset t i v
def lset2 : List (Option Value) → Nat → Value → List (Option Value)
  | [], _, _ => []
  | _ :: [], 0, v => some v :: []
  | _ :: _ :: t, 0, v => some v :: none :: t
  | a :: t, i + 1, v => a :: lset2 t i v
def okst (ls : List (Option Value)) (i : Nat) : Bool := match i with
  | 0 => true
  | j + 1 => match lg ls j with
    | some v => v.category == 1
    | none => true
def aL (M : aM) (n : Nat) (ls : List (Option Value)) (lsA : Array Slot) : Prop := lsA.size = n ∧ lv_wf lsA ∧ ∀ i v, lg ls i = some v → lsA[i]? = some (.val (vm M v))
theorem vm_cat (M : aM) (v : Value) : (vm M v).category = v.category := by cases v <;> rfl
theorem lg_lset : ∀ (ls : List (Option Value)) (i j : Nat) (v w : Value), lg (lset ls i v) j = some w → (j = i ∧ w = v) ∨ (j ≠ i ∧ lg ls j = some w)
  | [], _, _, _, _, h => by cases h
  | _ :: t, 0, 0, v, w, h => by cases h; exact Or.inl ⟨rfl, rfl⟩
  | _ :: t, 0, j + 1, v, w, h => Or.inr ⟨by omega, h⟩
  | a :: t, i + 1, 0, v, w, h => Or.inr ⟨by omega, h⟩
  | a :: t, i + 1, j + 1, v, w, h => by
    rcases lg_lset t i j v w h with ⟨h1, h2⟩ | ⟨h1, h2⟩
    · exact Or.inl ⟨by omega, h2⟩
    · exact Or.inr ⟨by omega, h2⟩
theorem lg_lset2 : ∀ (ls : List (Option Value)) (i j : Nat) (v w : Value), lg (lset2 ls i v) j = some w → (j = i ∧ w = v) ∨ (j ≠ i ∧ j ≠ i + 1 ∧ lg ls j = some w)
  | [], _, _, _, _, h => by cases h
  | _ :: [], 0, 0, v, w, h => by cases h; exact Or.inl ⟨rfl, rfl⟩
  | _ :: [], 0, j + 1, v, w, h => by cases h
  | _ :: _ :: t, 0, 0, v, w, h => by cases h; exact Or.inl ⟨rfl, rfl⟩
  | _ :: _ :: t, 0, 1, v, w, h => by cases h
  | _ :: _ :: t, 0, j + 2, v, w, h => Or.inr ⟨by omega, by omega, h⟩
  | a :: [], i + 1, 0, v, w, h => Or.inr ⟨by omega, by omega, h⟩
  | a :: [], i + 1, j + 1, v, w, h => by cases h
  | a :: b :: t, i + 1, 0, v, w, h => Or.inr ⟨by omega, by omega, h⟩
  | a :: b :: t, i + 1, j + 1, v, w, h => by
    rcases lg_lset2 (b :: t) i j v w h with ⟨h1, h2⟩ | ⟨h1, h3, h2⟩
    · exact Or.inl ⟨by omega, h2⟩
    · exact Or.inr ⟨by omega, by omega, h2⟩
def aA (M : aM) (n : Nat) (ls : List (Option Value)) : List (Nat × Value) := (List.range n).filterMap (fun i => (lg ls i).map (fun v => (i, vm M v)))
theorem aA_mem {M : aM} {n : Nat} {ls : List (Option Value)} {i : Nat} {v : Value} (h : lg ls i = some v) (hn : i < n) : (i, vm M v) ∈ aA M n ls := List.mem_filterMap.mpr ⟨i, List.mem_range.mpr hn, by rw [h]; rfl⟩
theorem aL.has {M : aM} {n : Nat} {ls : List (Option Value)} {lsA : Array Slot} (h : aL M n ls lsA) : lv_has lsA n (aA M n ls) := by
  refine ⟨h.1, h.2.1, fun q hq => ?_⟩
  obtain ⟨i, -, hi⟩ := List.mem_filterMap.mp hq
  cases hv : lg ls i with
  | none => rw [hv] at hi; cases hi
  | some v => rw [hv] at hi; cases hi; exact h.2.2 i v hv
theorem aL.lt {M : aM} {n : Nat} {ls : List (Option Value)} {lsA : Array Slot} (h : aL M n ls lsA) {i : Nat} {v : Value} (hv : lg ls i = some v) : i < n := by
  have := (Array.getElem?_eq_some_iff.mp (h.2.2 i v hv)).1
  rw [h.1] at this
  exact this
theorem okst_spec {ls : List (Option Value)} {i j : Nat} {v : Value} (h : okst ls i = true) (hj : j + 1 = i) (hv : lg ls j = some v) : v.category = 1 := by
  subst hj
  simp only [okst, hv] at h
  simpa using h
theorem aL.set1 {M : aM} {n : Nat} {ls : List (Option Value)} {lsA lsB : Array Slot} {i : Nat} {v : Value} (h : aL M n ls lsA) (ho : okst ls i = true) (hB : lv_has lsB n ((i, vm M v) :: (aA M n ls).filter (fun q => !(q.1 == i) && !(q.1 + 1 == i && q.2.category == 2)))) : aL M n (lset ls i v) lsB := by
  refine ⟨hB.1, hB.2.1, fun j w hw => ?_⟩
  rcases lg_lset ls i j v w hw with ⟨rfl, rfl⟩ | ⟨h1, h2⟩
  · exact hB.2.2 (j, vm M w) List.mem_cons_self
  · refine hB.2.2 (j, vm M w) (List.mem_cons_of_mem _ (List.mem_filter.mpr ⟨aA_mem h2 (h.lt h2), ?_⟩))
    by_cases q : j + 1 = i
    · have := okst_spec ho q h2
      simp [h1, vm_cat, this]
    · simp [h1, q]
theorem aL.set2 {M : aM} {n : Nat} {ls : List (Option Value)} {lsA lsB : Array Slot} {i : Nat} {v : Value} (h : aL M n ls lsA) (ho : okst ls i = true) (hB : lv_has lsB n ((i, vm M v) :: (aA M n ls).filter (fun q => !(q.1 == i) && (!(q.1 == i + 1) && !(q.1 + 1 == i && q.2.category == 2))))) : aL M n (lset2 ls i v) lsB := by
  refine ⟨hB.1, hB.2.1, fun j w hw => ?_⟩
  rcases lg_lset2 ls i j v w hw with ⟨rfl, rfl⟩ | ⟨h1, h3, h2⟩
  · exact hB.2.2 (j, vm M w) List.mem_cons_self
  · refine hB.2.2 (j, vm M w) (List.mem_cons_of_mem _ (List.mem_filter.mpr ⟨aA_mem h2 (h.lt h2), ?_⟩))
    by_cases q : j + 1 = i
    · have := okst_spec ho q h2
      simp [h1, h3, vm_cat, this]
    · simp [h1, h3, q]
def alocs : List Value → Nat → List (Option Value)
  | [], n => List.replicate n none
  | v :: vs, n => if v.category = 2 then some v :: none :: alocs vs (n - 2) else some v :: alocs vs (n - 1)
theorem lg_rep : ∀ (n i : Nat), lg (List.replicate n none) i = none
  | 0, _ => rfl
  | n + 1, 0 => rfl
  | n + 1, i + 1 => lg_rep n i
theorem alocs_args (M : aM) : ∀ (vs : List Value) (n o i : Nat) (v : Value), lg (alocs vs n) i = some v → (o + i, vm M v) ∈ lv_args o (vs.map (vm M))
  | [], n, o, i, v, h => by rw [alocs, lg_rep] at h; cases h
  | x :: vs, n, o, i, v, h => by
    unfold alocs at h
    rw [List.map_cons]
    unfold lv_args
    by_cases hc : x.category = 2
    · rw [if_pos hc] at h
      rw [if_pos (by rw [vm_cat]; exact hc)]
      match i, h with
      | 0, h => cases h; exact List.mem_cons_self
      | 1, h => cases h
      | i + 2, h =>
        have := alocs_args M vs (n - 2) (o + 2) i v h
        rw [show o + 2 + i = o + (i + 2) by omega] at this
        exact List.mem_cons_of_mem _ this
    · rw [if_neg hc] at h
      rw [if_neg (by rw [vm_cat]; exact hc)]
      match i, h with
      | 0, h => cases h; exact List.mem_cons_self
      | i + 1, h =>
        have := alocs_args M vs (n - 1) (o + 1) i v h
        rw [show o + 1 + i = o + (i + 1) by omega] at this
        exact List.mem_cons_of_mem _ this
/-! methods: name, code, locals, answer, level (calls inside), cells, slots -/
abbrev aY : Type := MethodName × ByteArray × Nat × Option FieldType × Nat × Nat × Nat
abbrev aP : Type := Option Value → Nat → aH → Prop
def aRm (Y : aY) : Room := { frames := Y.2.2.2.2.1, cells := Y.2.2.2.2.2.1, slots := Y.2.2.2.2.2.2, locals := 38 * Y.2.2.2.2.1 }
def aWs (Y : aY) : List Cond := .code Y.1 Y.2.1 Y.2.2.1 Y.2.2.2.1 :: gT
def nM : List (String × Nat × MethodName) := [(RX0, 44, yX7_isSlot), (RX3, 35, yX7_choose), (RX0, 137, yX7_choose), (RX5, 38, yX7_choose)]
def nF : List (String × Nat × String) := [(RX0, 77, "CATALAN"), (RX3, 39, "LONG_CHAINS"), (RX3, 42, "CATALAN")]
def aNs (s : State) : Prop := (∀ q ∈ nM, va_Nw (.methodLinkNest q.1 q.2.1 q.2.2 RX7) s) ∧ (∀ q ∈ nF, va_Nw (.fieldLinkNest q.1 q.2.1 RX7 q.2.2 "[I" RX7) s) ∧ va_AO RX3 s ∧ va_AO RX6 s ∧ (Cond.arrayOver (.array .int)).before #[] s = true ∧ (Cond.arrayOver (.array .long)).before #[] s = true
def aSt (M : aM) (s : State) : Prop := (va_Z RX7 "CATALAN" "[I" (.ref (aR M 0)) (aSw M) s s.heap ∧ ∀ k, k < 3 → ArrOfT s (M.1 (6 + k)) .int) ∧ va_Z RX7 "LONG_CHAINS" "[I" (.ref (aR M 1)) (aSw M) s s.heap ∧ aNs s
def RK (ret : Option FieldType) (ins : Instr) (r : Option Value) : Prop :=
  (ret = none ∧ ins = .return_ ∧ r = none) ∨ (∃ v, ret = some .int ∧ ins = .ireturn ∧ r = some (.int v)) ∨ (∃ v, ret = some .boolean ∧ ins = .ireturn ∧ r = some (.int v) ∧ narrow .boolean (.int v) = .int v) ∨ (∃ v, ret = some .long ∧ ins = .lreturn ∧ r = some (.long v)) ∨ (∃ t a, ret = some (.object t) ∧ ins = .areturn ∧ r = some (.ref a))
def aCx (Y : aY) (P : aP) (D : va_G) (M : aM) (p : Program) (l : Launch) (e : Env) (R : Room) (s : State) (m : MethodId) (args : Array Value) (below : List Frame) (meth : Method) (c : Code) (Z : State → Prop) : Prop :=
  p.tables.exec = Jvm.exec ∧ c.code = Y.2.1 ∧ c.maxLocals = Y.2.2.1 ∧ s.vm.findClass Y.1.cls = some m.cls ∧ (∀ w ∈ gT, w.before args s = true) ∧ va_K D vwCl (aT M) s ∧ aSt M s ∧ (Y.1.name = "<init>" → meth.name = "<init>") ∧ (Y.2.2.2.2.1 ≤ R.frames ∧ 38 * Y.2.2.2.2.1 ≤ R.locals) ∧
  ∀ (r : Option Value) (ins : Instr) (pc N' : Nat) (h' : aH) (H : Heap) (locs : List Loc) (cells slots : Nat) (lsA : Array Slot), RK Y.2.2.2.1 ins r → P r N' h' → decode Y.2.1 pc = .ok (ins, 1) → Rep D M N' h' H → va_S (aSw M) s.heap H locs → cells ≤ R.cells → slots ≤ R.slots → W p l e R s m args below meth c H locs cells slots Z (F0 m pc lsA (r.toList.map (vm M)))
/-- THE JUDGEMENT: from the place pc of Y, with these locals, stack and heap, the method comes to its end, with P -/
def AW (Y : aY) (pc : Nat) (ls : List (Option Value)) (st : List Value) (N : Nat) (u : Nat × Nat) (h : aH) (P : aP) : Prop :=
  ∀ (D : va_G) (M : aM) (p : Program) (l : Launch) (e : Env) (R : Room) (s : State) (m : MethodId) (args : Array Value) (below : List Frame) (meth : Method) (c : Code) (Z : State → Prop), aCx Y P D M p l e R s m args below meth c Z →
    ∀ (H : Heap) (locs : List Loc) (cells slots : Nat) (lsA : Array Slot), Rep D M N h H → va_S (aSw M) s.heap H locs → cells + u.1 ≤ R.cells → slots + u.2 ≤ R.slots → aL M Y.2.2.1 ls lsA →
      W p l e R s m args below meth c H locs cells slots Z (F0 m pc lsA (st.map (vm M)))
def aPc (D : va_G) (M : aM) (as : List Value) (N : Nat) (h : aH) : Array Value → State → Prop := fun a U => a = (as.map (vm M)).toArray ∧ Rep D M N h U.heap ∧ va_K D vwCl (aT M) U ∧ aSt M U
def aQc (D : va_G) (M : aM) (P : aP) : Array Value → State → Outcome → State → Prop := fun _ st o t => ∃ (r : Option Value) (N' : Nat) (h' : aH), o = .returned (r.map (vm M)) ∧ P r N' h' ∧ Rep D M N' h' t.heap ∧ st.heap.size ≤ t.heap.size ∧ ∀ q, q < st.heap.size → ¬ aSw M q → t.heap[q]? = st.heap[q]?
/-- a method, from its call to its end -/
def AM (Y : aY) (as : List Value) (N : Nat) (h : aH) (P : aP) : Prop :=
  ∀ (D : va_G) (M : aM) (l : Launch), Met l Y.1 (aWs Y) (aRm Y) (aPc D M as N h) (aQc D M P) Y.2.2.2.2.2.1 Y.2.2.2.2.2.2 (aSw M)

section AWR
variable {Y : aY} {pc : Nat} {ls : List (Option Value)} {st : List Value} {N : Nat} {u : Nat × Nat} {h : aH} {P : aP}
theorem AW.iconst {n : Int} (q : Nat) (hd : decode Y.2.1 pc = .ok (.iconst n, 1)) (hq : pc + 1 = q) (v : Int32) (hv : Int32.ofInt n = v) (k : AW Y q ls (.int v :: st) N u h P) : AW Y pc ls (st) N u h P := by
  subst hq
  intro D M p l e R s m args below meth c Z C H locs cells slots lsA hR hS h1 h2 hL
  exact lv_iconst C.1 C.2.1 hd hv (k D M p l e R s m args below meth c Z C H locs cells slots lsA hR hS h1 h2 hL)
theorem AW.bipush {n : Int} (q : Nat) (hd : decode Y.2.1 pc = .ok (.bipush n, 2)) (hq : pc + 2 = q) (v : Int32) (hv : (Int8.ofInt n).toInt32 = v) (k : AW Y q ls (.int v :: st) N u h P) : AW Y pc ls (st) N u h P := by
  subst hq
  intro D M p l e R s m args below meth c Z C H locs cells slots lsA hR hS h1 h2 hL
  exact lv_bipush C.1 C.2.1 hd hv (k D M p l e R s m args below meth c Z C H locs cells slots lsA hR hS h1 h2 hL)
theorem AW.sipush {n : Int} (q : Nat) (hd : decode Y.2.1 pc = .ok (.sipush n, 3)) (hq : pc + 3 = q) (v : Int32) (hv : (Int16.ofInt n).toInt32 = v) (k : AW Y q ls (.int v :: st) N u h P) : AW Y pc ls (st) N u h P := by
  subst hq
  intro D M p l e R s m args below meth c Z C H locs cells slots lsA hR hS h1 h2 hL
  exact lv_sipush C.1 C.2.1 hd hv (k D M p l e R s m args below meth c Z C H locs cells slots lsA hR hS h1 h2 hL)
theorem AW.lconst {n : Fin 2} (q : Nat) (hd : decode Y.2.1 pc = .ok (.lconst n, 1)) (hq : pc + 1 = q) (v : Int64) (hv : Int64.ofNat (n : Nat) = v) (k : AW Y q ls (.long v :: st) N u h P) : AW Y pc ls (st) N u h P := by
  subst hq
  intro D M p l e R s m args below meth c Z C H locs cells slots lsA hR hS h1 h2 hL
  exact lv_lconst C.1 C.2.1 hd hv (k D M p l e R s m args below meth c Z C H locs cells slots lsA hR hS h1 h2 hL)
theorem AW.ldc2 {i : Nat} {v : Int64} (q : Nat) (hd : decode Y.2.1 pc = .ok (.ldc2_w i, 3)) (hq : pc + 3 = q) (hw : Jvm.Cond.constantLong Y.1.cls i v ∈ gT) (k : AW Y q ls (.long v :: st) N u h P) : AW Y pc ls (st) N u h P := by
  subst hq
  intro D M p l e R s m args below meth c Z C H locs cells slots lsA hR hS h1 h2 hL
  exact lv_ldc2 C.1 C.2.1 C.2.2.2.1 (C.2.2.2.2.1 _ hw) hd (k D M p l e R s m args below meth c Z C H locs cells slots lsA hR hS h1 h2 hL)
theorem AW.iload_n {n : Fin 4} {x : Int32} (q : Nat) (hd : decode Y.2.1 pc = .ok (.iload_n n, 1)) (hq : pc + 1 = q) (hl : lg ls (n : Nat) = some (.int x)) (k : AW Y q ls (.int x :: st) N u h P) : AW Y pc ls (st) N u h P := by
  subst hq
  intro D M p l e R s m args below meth c Z C H locs cells slots lsA hR hS h1 h2 hL
  exact lv_iload_n C.1 C.2.1 hd rfl (hL.2.2 _ _ hl) (k D M p l e R s m args below meth c Z C H locs cells slots lsA hR hS h1 h2 hL)
theorem AW.iload {i : Nat} {x : Int32} (q : Nat) (hd : decode Y.2.1 pc = .ok (.iload i, 2)) (hq : pc + 2 = q) (hl : lg ls i = some (.int x)) (k : AW Y q ls (.int x :: st) N u h P) : AW Y pc ls (st) N u h P := by
  subst hq
  intro D M p l e R s m args below meth c Z C H locs cells slots lsA hR hS h1 h2 hL
  exact lv_iload C.1 C.2.1 hd (hL.2.2 _ _ hl) (k D M p l e R s m args below meth c Z C H locs cells slots lsA hR hS h1 h2 hL)
theorem AW.lload_n {n : Fin 4} {x : Int64} (q : Nat) (hd : decode Y.2.1 pc = .ok (.lload_n n, 1)) (hq : pc + 1 = q) (hl : lg ls (n : Nat) = some (.long x)) (k : AW Y q ls (.long x :: st) N u h P) : AW Y pc ls (st) N u h P := by
  subst hq
  intro D M p l e R s m args below meth c Z C H locs cells slots lsA hR hS h1 h2 hL
  exact lv_lload_n C.1 C.2.1 hd rfl (hL.2.2 _ _ hl) (k D M p l e R s m args below meth c Z C H locs cells slots lsA hR hS h1 h2 hL)
theorem AW.lload {i : Nat} {x : Int64} (q : Nat) (hd : decode Y.2.1 pc = .ok (.lload i, 2)) (hq : pc + 2 = q) (hl : lg ls i = some (.long x)) (k : AW Y q ls (.long x :: st) N u h P) : AW Y pc ls (st) N u h P := by
  subst hq
  intro D M p l e R s m args below meth c Z C H locs cells slots lsA hR hS h1 h2 hL
  exact lv_lload C.1 C.2.1 hd (hL.2.2 _ _ hl) (k D M p l e R s m args below meth c Z C H locs cells slots lsA hR hS h1 h2 hL)
theorem AW.aload_n {n : Fin 4} {x : Nat} (q : Nat) (hd : decode Y.2.1 pc = .ok (.aload_n n, 1)) (hq : pc + 1 = q) (hl : lg ls (n : Nat) = some (.ref x)) (k : AW Y q ls (.ref x :: st) N u h P) : AW Y pc ls (st) N u h P := by
  subst hq
  intro D M p l e R s m args below meth c Z C H locs cells slots lsA hR hS h1 h2 hL
  exact lv_aload_n C.1 C.2.1 hd rfl (hL.2.2 _ _ hl) (k D M p l e R s m args below meth c Z C H locs cells slots lsA hR hS h1 h2 hL)
theorem AW.aload {i : Nat} {x : Nat} (q : Nat) (hd : decode Y.2.1 pc = .ok (.aload i, 2)) (hq : pc + 2 = q) (hl : lg ls i = some (.ref x)) (k : AW Y q ls (.ref x :: st) N u h P) : AW Y pc ls (st) N u h P := by
  subst hq
  intro D M p l e R s m args below meth c Z C H locs cells slots lsA hR hS h1 h2 hL
  exact lv_aload C.1 C.2.1 hd (hL.2.2 _ _ hl) (k D M p l e R s m args below meth c Z C H locs cells slots lsA hR hS h1 h2 hL)
theorem AW.istore_n {n : Fin 4} {x : Int32} (q : Nat) (hd : decode Y.2.1 pc = .ok (.istore_n n, 1)) (hq : pc + 1 = q) (hi : (n : Nat) < Y.2.2.1) (ho : okst ls (n : Nat) = true) (k : AW Y q (lset ls (n : Nat) (.int x)) st N u h P) : AW Y pc ls (.int x :: st) N u h P := by
  subst hq
  intro D M p l e R s m args below meth c Z C H locs cells slots lsA hR hS h1 h2 hL
  exact lv_istore_n C.1 C.2.1 hd rfl hL.has hi rfl (fun ls1 hL1 => k D M p l e R s m args below meth c Z C H locs cells slots ls1 hR hS h1 h2 (hL.set1 (v := .int x) ho hL1))
theorem AW.istore {i : Nat} {x : Int32} (q : Nat) (hd : decode Y.2.1 pc = .ok (.istore i, 2)) (hq : pc + 2 = q) (hi : i < Y.2.2.1) (ho : okst ls i = true) (k : AW Y q (lset ls i (.int x)) st N u h P) : AW Y pc ls (.int x :: st) N u h P := by
  subst hq
  intro D M p l e R s m args below meth c Z C H locs cells slots lsA hR hS h1 h2 hL
  exact lv_istore C.1 C.2.1 hd hL.has hi rfl (fun ls1 hL1 => k D M p l e R s m args below meth c Z C H locs cells slots ls1 hR hS h1 h2 (hL.set1 (v := .int x) ho hL1))
theorem AW.astore_n {n : Fin 4} {x : Nat} (q : Nat) (hd : decode Y.2.1 pc = .ok (.astore_n n, 1)) (hq : pc + 1 = q) (hi : (n : Nat) < Y.2.2.1) (ho : okst ls (n : Nat) = true) (k : AW Y q (lset ls (n : Nat) (.ref x)) st N u h P) : AW Y pc ls (.ref x :: st) N u h P := by
  subst hq
  intro D M p l e R s m args below meth c Z C H locs cells slots lsA hR hS h1 h2 hL
  exact lv_astore_n C.1 C.2.1 hd rfl hL.has hi rfl (fun ls1 hL1 => k D M p l e R s m args below meth c Z C H locs cells slots ls1 hR hS h1 h2 (hL.set1 (v := .ref x) ho hL1))
theorem AW.astore {i : Nat} {x : Nat} (q : Nat) (hd : decode Y.2.1 pc = .ok (.astore i, 2)) (hq : pc + 2 = q) (hi : i < Y.2.2.1) (ho : okst ls i = true) (k : AW Y q (lset ls i (.ref x)) st N u h P) : AW Y pc ls (.ref x :: st) N u h P := by
  subst hq
  intro D M p l e R s m args below meth c Z C H locs cells slots lsA hR hS h1 h2 hL
  exact lv_astore C.1 C.2.1 hd hL.has hi rfl (fun ls1 hL1 => k D M p l e R s m args below meth c Z C H locs cells slots ls1 hR hS h1 h2 (hL.set1 (v := .ref x) ho hL1))
theorem AW.lstore_n {n : Fin 4} {x : Int64} (q : Nat) (hd : decode Y.2.1 pc = .ok (.lstore_n n, 1)) (hq : pc + 1 = q) (hi : (n : Nat) + 1 < Y.2.2.1) (ho : okst ls (n : Nat) = true) (k : AW Y q (lset2 ls (n : Nat) (.long x)) st N u h P) : AW Y pc ls (.long x :: st) N u h P := by
  subst hq
  intro D M p l e R s m args below meth c Z C H locs cells slots lsA hR hS h1 h2 hL
  exact lv_lstore_n C.1 C.2.1 hd rfl hL.has hi rfl (fun ls1 hL1 => k D M p l e R s m args below meth c Z C H locs cells slots ls1 hR hS h1 h2 (hL.set2 (v := .long x) ho hL1))
theorem AW.lstore {i : Nat} {x : Int64} (q : Nat) (hd : decode Y.2.1 pc = .ok (.lstore i, 2)) (hq : pc + 2 = q) (hi : i + 1 < Y.2.2.1) (ho : okst ls i = true) (k : AW Y q (lset2 ls i (.long x)) st N u h P) : AW Y pc ls (.long x :: st) N u h P := by
  subst hq
  intro D M p l e R s m args below meth c Z C H locs cells slots lsA hR hS h1 h2 hL
  exact lv_lstore C.1 C.2.1 hd hL.has hi rfl (fun ls1 hL1 => k D M p l e R s m args below meth c Z C H locs cells slots ls1 hR hS h1 h2 (hL.set2 (v := .long x) ho hL1))
theorem AW.iinc {i : Nat} {n : Int} {x : Int32} (q : Nat) (hd : decode Y.2.1 pc = .ok (.iinc i n, 3)) (hq : pc + 3 = q) (hl : lg ls i = some (.int x)) (d v : Int32) (hd2 : Int32.ofInt n = d) (hv : x + d = v) (ho : okst ls i = true) (k : AW Y q (lset ls i (.int v)) st N u h P) : AW Y pc ls st N u h P := by
  subst hq
  subst hd2
  intro D M p l e R s m args below meth c Z C H locs cells slots lsA hR hS h1 h2 hL
  obtain ⟨j, hj⟩ := List.getElem?_of_mem (aA_mem (M := M) hl (hL.lt hl))
  exact lv_iinc C.1 C.2.1 hd hL.has hj hv (hL.lt hl) rfl (fun ls1 hL1 => k D M p l e R s m args below meth c Z C H locs cells slots ls1 hR hS h1 h2 (hL.set1 (v := .int v) ho hL1))
theorem AW.iadd {x y : Int32} (q : Nat) (hd : decode Y.2.1 pc = .ok (.iadd, 1)) (hq : pc + 1 = q)  (k : AW Y q ls (.int (x + y) :: st) N u h P) : AW Y pc ls (.int y :: .int x :: st) N u h P := by
  subst hq
  intro D M p l e R s m args below meth c Z C H locs cells slots lsA hR hS h1 h2 hL
  exact lv_iadd C.1 C.2.1 hd (k D M p l e R s m args below meth c Z C H locs cells slots lsA hR hS h1 h2 hL)
theorem AW.isub {x y : Int32} (q : Nat) (hd : decode Y.2.1 pc = .ok (.isub, 1)) (hq : pc + 1 = q)  (k : AW Y q ls (.int (x - y) :: st) N u h P) : AW Y pc ls (.int y :: .int x :: st) N u h P := by
  subst hq
  intro D M p l e R s m args below meth c Z C H locs cells slots lsA hR hS h1 h2 hL
  exact lv_isub C.1 C.2.1 hd (k D M p l e R s m args below meth c Z C H locs cells slots lsA hR hS h1 h2 hL)
theorem AW.imul {x y : Int32} (q : Nat) (hd : decode Y.2.1 pc = .ok (.imul, 1)) (hq : pc + 1 = q)  (k : AW Y q ls (.int (x * y) :: st) N u h P) : AW Y pc ls (.int y :: .int x :: st) N u h P := by
  subst hq
  intro D M p l e R s m args below meth c Z C H locs cells slots lsA hR hS h1 h2 hL
  exact lv_imul C.1 C.2.1 hd (k D M p l e R s m args below meth c Z C H locs cells slots lsA hR hS h1 h2 hL)
theorem AW.iand {x y : Int32} (q : Nat) (hd : decode Y.2.1 pc = .ok (.iand, 1)) (hq : pc + 1 = q)  (k : AW Y q ls (.int (x &&& y) :: st) N u h P) : AW Y pc ls (.int y :: .int x :: st) N u h P := by
  subst hq
  intro D M p l e R s m args below meth c Z C H locs cells slots lsA hR hS h1 h2 hL
  exact lv_iand C.1 C.2.1 hd (k D M p l e R s m args below meth c Z C H locs cells slots lsA hR hS h1 h2 hL)
theorem AW.ior {x y : Int32} (q : Nat) (hd : decode Y.2.1 pc = .ok (.ior, 1)) (hq : pc + 1 = q)  (k : AW Y q ls (.int (x ||| y) :: st) N u h P) : AW Y pc ls (.int y :: .int x :: st) N u h P := by
  subst hq
  intro D M p l e R s m args below meth c Z C H locs cells slots lsA hR hS h1 h2 hL
  exact lv_ior C.1 C.2.1 hd (k D M p l e R s m args below meth c Z C H locs cells slots lsA hR hS h1 h2 hL)
theorem AW.ixor {x y : Int32} (q : Nat) (hd : decode Y.2.1 pc = .ok (.ixor, 1)) (hq : pc + 1 = q)  (k : AW Y q ls (.int (x ^^^ y) :: st) N u h P) : AW Y pc ls (.int y :: .int x :: st) N u h P := by
  subst hq
  intro D M p l e R s m args below meth c Z C H locs cells slots lsA hR hS h1 h2 hL
  exact lv_ixor C.1 C.2.1 hd (k D M p l e R s m args below meth c Z C H locs cells slots lsA hR hS h1 h2 hL)
theorem AW.idiv {x y : Int32} (q : Nat) (hd : decode Y.2.1 pc = .ok (.idiv, 1)) (hq : pc + 1 = q) (hne : ¬ y = 0) (k : AW Y q ls (.int (x / y) :: st) N u h P) : AW Y pc ls (.int y :: .int x :: st) N u h P := by
  subst hq
  intro D M p l e R s m args below meth c Z C H locs cells slots lsA hR hS h1 h2 hL
  exact lv_idiv C.1 C.2.1 hd hne (k D M p l e R s m args below meth c Z C H locs cells slots lsA hR hS h1 h2 hL)
theorem AW.ladd {x y : Int64} (q : Nat) (hd : decode Y.2.1 pc = .ok (.ladd, 1)) (hq : pc + 1 = q)  (k : AW Y q ls (.long (x + y) :: st) N u h P) : AW Y pc ls (.long y :: .long x :: st) N u h P := by
  subst hq
  intro D M p l e R s m args below meth c Z C H locs cells slots lsA hR hS h1 h2 hL
  exact lv_ladd C.1 C.2.1 hd (k D M p l e R s m args below meth c Z C H locs cells slots lsA hR hS h1 h2 hL)
theorem AW.lsub {x y : Int64} (q : Nat) (hd : decode Y.2.1 pc = .ok (.lsub, 1)) (hq : pc + 1 = q)  (k : AW Y q ls (.long (x - y) :: st) N u h P) : AW Y pc ls (.long y :: .long x :: st) N u h P := by
  subst hq
  intro D M p l e R s m args below meth c Z C H locs cells slots lsA hR hS h1 h2 hL
  exact lv_lsub C.1 C.2.1 hd (k D M p l e R s m args below meth c Z C H locs cells slots lsA hR hS h1 h2 hL)
theorem AW.lmul {x y : Int64} (q : Nat) (hd : decode Y.2.1 pc = .ok (.lmul, 1)) (hq : pc + 1 = q)  (k : AW Y q ls (.long (x * y) :: st) N u h P) : AW Y pc ls (.long y :: .long x :: st) N u h P := by
  subst hq
  intro D M p l e R s m args below meth c Z C H locs cells slots lsA hR hS h1 h2 hL
  exact lv_lmul C.1 C.2.1 hd (k D M p l e R s m args below meth c Z C H locs cells slots lsA hR hS h1 h2 hL)
theorem AW.ldiv {x y : Int64} (q : Nat) (hd : decode Y.2.1 pc = .ok (.ldiv, 1)) (hq : pc + 1 = q) (hne : ¬ y = 0) (k : AW Y q ls (.long (x / y) :: st) N u h P) : AW Y pc ls (.long y :: .long x :: st) N u h P := by
  subst hq
  intro D M p l e R s m args below meth c Z C H locs cells slots lsA hR hS h1 h2 hL
  exact lv_ldiv C.1 C.2.1 hd hne (k D M p l e R s m args below meth c Z C H locs cells slots lsA hR hS h1 h2 hL)
theorem AW.irem {x y : Int32} (q : Nat) (hd : decode Y.2.1 pc = .ok (.irem, 1)) (hq : pc + 1 = q) (hne : ¬ y = 0) (k : AW Y q ls (.int (x - x / y * y) :: st) N u h P) : AW Y pc ls (.int y :: .int x :: st) N u h P := by
  subst hq
  intro D M p l e R s m args below meth c Z C H locs cells slots lsA hR hS h1 h2 hL
  exact lv_irem C.1 C.2.1 hd hne (k D M p l e R s m args below meth c Z C H locs cells slots lsA hR hS h1 h2 hL)
theorem AW.ineg {x : Int32} (q : Nat) (hd : decode Y.2.1 pc = .ok (.ineg, 1)) (hq : pc + 1 = q)  (k : AW Y q ls (.int (-x) :: st) N u h P) : AW Y pc ls (.int x :: st) N u h P := by
  subst hq
  intro D M p l e R s m args below meth c Z C H locs cells slots lsA hR hS h1 h2 hL
  exact lv_ineg C.1 C.2.1 hd (k D M p l e R s m args below meth c Z C H locs cells slots lsA hR hS h1 h2 hL)
theorem AW.ishl {x y : Int32} (q : Nat) (hd : decode Y.2.1 pc = .ok (.ishl, 1)) (hq : pc + 1 = q)  (k : AW Y q ls (.int (x <<< (y &&& 31)) :: st) N u h P) : AW Y pc ls (.int y :: .int x :: st) N u h P := by
  subst hq
  intro D M p l e R s m args below meth c Z C H locs cells slots lsA hR hS h1 h2 hL
  exact lv_ishl C.1 C.2.1 hd (k D M p l e R s m args below meth c Z C H locs cells slots lsA hR hS h1 h2 hL)
theorem AW.ishr {x y : Int32} (q : Nat) (hd : decode Y.2.1 pc = .ok (.ishr, 1)) (hq : pc + 1 = q)  (k : AW Y q ls (.int (x >>> (y &&& 31)) :: st) N u h P) : AW Y pc ls (.int y :: .int x :: st) N u h P := by
  subst hq
  intro D M p l e R s m args below meth c Z C H locs cells slots lsA hR hS h1 h2 hL
  exact lv_ishr C.1 C.2.1 hd (k D M p l e R s m args below meth c Z C H locs cells slots lsA hR hS h1 h2 hL)
theorem AW.i2l {x : Int32} (q : Nat) (hd : decode Y.2.1 pc = .ok (.i2l, 1)) (hq : pc + 1 = q)  (k : AW Y q ls (.long x.toInt64 :: st) N u h P) : AW Y pc ls (.int x :: st) N u h P := by
  subst hq
  intro D M p l e R s m args below meth c Z C H locs cells slots lsA hR hS h1 h2 hL
  exact lv_i2l C.1 C.2.1 hd rfl (k D M p l e R s m args below meth c Z C H locs cells slots lsA hR hS h1 h2 hL)
theorem AW.lcmp {x y : Int64} (q : Nat) (hd : decode Y.2.1 pc = .ok (.lcmp, 1)) (hq : pc + 1 = q)  (k : AW Y q ls (.int (lg_cmp x y) :: st) N u h P) : AW Y pc ls (.long y :: .long x :: st) N u h P := by
  subst hq
  intro D M p l e R s m args below meth c Z C H locs cells slots lsA hR hS h1 h2 hL
  exact W.lcmp C.1 C.2.1 hd (k D M p l e R s m args below meth c Z C H locs cells slots lsA hR hS h1 h2 hL)
theorem AW.dup {v : Value} (q : Nat) (hd : decode Y.2.1 pc = .ok (.dup, 1)) (hq : pc + 1 = q) (hv : v.category = 1) (k : AW Y q ls (v :: v :: st) N u h P) : AW Y pc ls (v :: st) N u h P := by
  subst hq
  intro D M p l e R s m args below meth c Z C H locs cells slots lsA hR hS h1 h2 hL
  exact lv_dup C.1 C.2.1 hd (by rw [vm_cat]; exact hv) (k D M p l e R s m args below meth c Z C H locs cells slots lsA hR hS h1 h2 hL)
theorem AW.pop {v : Value} (q : Nat) (hd : decode Y.2.1 pc = .ok (.pop, 1)) (hq : pc + 1 = q) (hv : v.category = 1) (k : AW Y q ls (st) N u h P) : AW Y pc ls (v :: st) N u h P := by
  subst hq
  intro D M p l e R s m args below meth c Z C H locs cells slots lsA hR hS h1 h2 hL
  exact lv_pop C.1 C.2.1 hd (by rw [vm_cat]; exact hv) (k D M p l e R s m args below meth c Z C H locs cells slots lsA hR hS h1 h2 hL)
theorem AW.dup2 {v w : Value} (q : Nat) (hd : decode Y.2.1 pc = .ok (.dup2, 1)) (hq : pc + 1 = q) (hv : v.category = 1) (hw : w.category = 1) (k : AW Y q ls (v :: w :: v :: w :: st) N u h P) : AW Y pc ls (v :: w :: st) N u h P := by
  subst hq
  intro D M p l e R s m args below meth c Z C H locs cells slots lsA hR hS h1 h2 hL
  exact lv_dup2_11 C.1 C.2.1 hd (by rw [vm_cat]; exact hv) (by rw [vm_cat]; exact hw) (k D M p l e R s m args below meth c Z C H locs cells slots lsA hR hS h1 h2 hL)
theorem AW.topi {x : Int32} (y : Int32) (e : x = y) (k : AW Y pc ls (.int y :: st) N u h P) : AW Y pc ls (.int x :: st) N u h P := by subst e; exact k
theorem AW.topl {x : Int64} (y : Int64) (e : x = y) (k : AW Y pc ls (.long y :: st) N u h P) : AW Y pc ls (.long x :: st) N u h P := by subst e; exact k
theorem AW.stk (st' : List Value) (e : st = st') (k : AW Y pc ls st' N u h P) : AW Y pc ls st N u h P := by subst e; exact k
theorem AW.heap (h' : aH) (e : h = h') (k : AW Y pc ls st N u h' P) : AW Y pc ls st N u h P := by subst e; exact k
theorem AW.loc (ls' : List (Option Value)) (e : ∀ i v, lg ls' i = some v → lg ls i = some v) (k : AW Y pc ls' st N u h P) : AW Y pc ls st N u h P := by
  intro D M p l e' R s m args below meth c Z C H locs cells slots lsA hR hS h1 h2 hL
  exact k D M p l e' R s m args below meth c Z C H locs cells slots lsA hR hS h1 h2 ⟨hL.1, hL.2.1, fun i v hv => hL.2.2 i v (e i v hv)⟩
theorem AW.pcq (q : Nat) (e : pc = q) (k : AW Y q ls st N u h P) : AW Y pc ls st N u h P := by subst e; exact k
theorem AW.icmp_eq {x y : Int32} {off : Int} (t q : Nat) (hd : decode Y.2.1 pc = .ok (.if_icmp .eq off, 3)) (ht : (pc : Int) + off = (t : Int)) (hq : pc + 3 = q) (kt : x = y → AW Y t ls st N u h P) (kf : ¬ x = y → AW Y q ls st N u h P) : AW Y pc ls (.int y :: .int x :: st) N u h P := by
  subst hq
  intro D M p l e R s m args below meth c Z C H locs cells slots lsA hR hS h1 h2 hL
  exact lv_icmp_eq C.1 C.2.1 hd ht (fun z => kt z D M p l e R s m args below meth c Z C H locs cells slots lsA hR hS h1 h2 hL) (fun z => kf z D M p l e R s m args below meth c Z C H locs cells slots lsA hR hS h1 h2 hL)
theorem AW.if_eq {x : Int32} {off : Int} (t q : Nat) (hd : decode Y.2.1 pc = .ok (.ifCond .eq off, 3)) (ht : (pc : Int) + off = (t : Int)) (hq : pc + 3 = q) (kt : x = 0 → AW Y t ls st N u h P) (kf : ¬ x = 0 → AW Y q ls st N u h P) : AW Y pc ls (.int x :: st) N u h P := by
  subst hq
  intro D M p l e R s m args below meth c Z C H locs cells slots lsA hR hS h1 h2 hL
  exact lv_if_eq C.1 C.2.1 hd ht (fun z => kt z D M p l e R s m args below meth c Z C H locs cells slots lsA hR hS h1 h2 hL) (fun z => kf z D M p l e R s m args below meth c Z C H locs cells slots lsA hR hS h1 h2 hL)
theorem AW.icmp_ne {x y : Int32} {off : Int} (t q : Nat) (hd : decode Y.2.1 pc = .ok (.if_icmp .ne off, 3)) (ht : (pc : Int) + off = (t : Int)) (hq : pc + 3 = q) (kt : ¬ x = y → AW Y t ls st N u h P) (kf : x = y → AW Y q ls st N u h P) : AW Y pc ls (.int y :: .int x :: st) N u h P := by
  subst hq
  intro D M p l e R s m args below meth c Z C H locs cells slots lsA hR hS h1 h2 hL
  exact lv_icmp_ne C.1 C.2.1 hd ht (fun z => kt z D M p l e R s m args below meth c Z C H locs cells slots lsA hR hS h1 h2 hL) (fun z => kf z D M p l e R s m args below meth c Z C H locs cells slots lsA hR hS h1 h2 hL)
theorem AW.if_ne {x : Int32} {off : Int} (t q : Nat) (hd : decode Y.2.1 pc = .ok (.ifCond .ne off, 3)) (ht : (pc : Int) + off = (t : Int)) (hq : pc + 3 = q) (kt : ¬ x = 0 → AW Y t ls st N u h P) (kf : x = 0 → AW Y q ls st N u h P) : AW Y pc ls (.int x :: st) N u h P := by
  subst hq
  intro D M p l e R s m args below meth c Z C H locs cells slots lsA hR hS h1 h2 hL
  exact lv_if_ne C.1 C.2.1 hd ht (fun z => kt z D M p l e R s m args below meth c Z C H locs cells slots lsA hR hS h1 h2 hL) (fun z => kf z D M p l e R s m args below meth c Z C H locs cells slots lsA hR hS h1 h2 hL)
theorem AW.icmp_lt {x y : Int32} {off : Int} (t q : Nat) (hd : decode Y.2.1 pc = .ok (.if_icmp .lt off, 3)) (ht : (pc : Int) + off = (t : Int)) (hq : pc + 3 = q) (kt : x < y → AW Y t ls st N u h P) (kf : ¬ x < y → AW Y q ls st N u h P) : AW Y pc ls (.int y :: .int x :: st) N u h P := by
  subst hq
  intro D M p l e R s m args below meth c Z C H locs cells slots lsA hR hS h1 h2 hL
  exact lv_icmp_lt C.1 C.2.1 hd ht (fun z => kt z D M p l e R s m args below meth c Z C H locs cells slots lsA hR hS h1 h2 hL) (fun z => kf z D M p l e R s m args below meth c Z C H locs cells slots lsA hR hS h1 h2 hL)
theorem AW.if_lt {x : Int32} {off : Int} (t q : Nat) (hd : decode Y.2.1 pc = .ok (.ifCond .lt off, 3)) (ht : (pc : Int) + off = (t : Int)) (hq : pc + 3 = q) (kt : x < 0 → AW Y t ls st N u h P) (kf : ¬ x < 0 → AW Y q ls st N u h P) : AW Y pc ls (.int x :: st) N u h P := by
  subst hq
  intro D M p l e R s m args below meth c Z C H locs cells slots lsA hR hS h1 h2 hL
  exact lv_if_lt C.1 C.2.1 hd ht (fun z => kt z D M p l e R s m args below meth c Z C H locs cells slots lsA hR hS h1 h2 hL) (fun z => kf z D M p l e R s m args below meth c Z C H locs cells slots lsA hR hS h1 h2 hL)
theorem AW.icmp_ge {x y : Int32} {off : Int} (t q : Nat) (hd : decode Y.2.1 pc = .ok (.if_icmp .ge off, 3)) (ht : (pc : Int) + off = (t : Int)) (hq : pc + 3 = q) (kt : y ≤ x → AW Y t ls st N u h P) (kf : ¬ y ≤ x → AW Y q ls st N u h P) : AW Y pc ls (.int y :: .int x :: st) N u h P := by
  subst hq
  intro D M p l e R s m args below meth c Z C H locs cells slots lsA hR hS h1 h2 hL
  exact lv_icmp_ge C.1 C.2.1 hd ht (fun z => kt z D M p l e R s m args below meth c Z C H locs cells slots lsA hR hS h1 h2 hL) (fun z => kf z D M p l e R s m args below meth c Z C H locs cells slots lsA hR hS h1 h2 hL)
theorem AW.if_ge {x : Int32} {off : Int} (t q : Nat) (hd : decode Y.2.1 pc = .ok (.ifCond .ge off, 3)) (ht : (pc : Int) + off = (t : Int)) (hq : pc + 3 = q) (kt : 0 ≤ x → AW Y t ls st N u h P) (kf : ¬ 0 ≤ x → AW Y q ls st N u h P) : AW Y pc ls (.int x :: st) N u h P := by
  subst hq
  intro D M p l e R s m args below meth c Z C H locs cells slots lsA hR hS h1 h2 hL
  exact lv_if_ge C.1 C.2.1 hd ht (fun z => kt z D M p l e R s m args below meth c Z C H locs cells slots lsA hR hS h1 h2 hL) (fun z => kf z D M p l e R s m args below meth c Z C H locs cells slots lsA hR hS h1 h2 hL)
theorem AW.icmp_gt {x y : Int32} {off : Int} (t q : Nat) (hd : decode Y.2.1 pc = .ok (.if_icmp .gt off, 3)) (ht : (pc : Int) + off = (t : Int)) (hq : pc + 3 = q) (kt : y < x → AW Y t ls st N u h P) (kf : ¬ y < x → AW Y q ls st N u h P) : AW Y pc ls (.int y :: .int x :: st) N u h P := by
  subst hq
  intro D M p l e R s m args below meth c Z C H locs cells slots lsA hR hS h1 h2 hL
  exact lv_icmp_gt C.1 C.2.1 hd ht (fun z => kt z D M p l e R s m args below meth c Z C H locs cells slots lsA hR hS h1 h2 hL) (fun z => kf z D M p l e R s m args below meth c Z C H locs cells slots lsA hR hS h1 h2 hL)
theorem AW.if_gt {x : Int32} {off : Int} (t q : Nat) (hd : decode Y.2.1 pc = .ok (.ifCond .gt off, 3)) (ht : (pc : Int) + off = (t : Int)) (hq : pc + 3 = q) (kt : 0 < x → AW Y t ls st N u h P) (kf : ¬ 0 < x → AW Y q ls st N u h P) : AW Y pc ls (.int x :: st) N u h P := by
  subst hq
  intro D M p l e R s m args below meth c Z C H locs cells slots lsA hR hS h1 h2 hL
  exact lv_if_gt C.1 C.2.1 hd ht (fun z => kt z D M p l e R s m args below meth c Z C H locs cells slots lsA hR hS h1 h2 hL) (fun z => kf z D M p l e R s m args below meth c Z C H locs cells slots lsA hR hS h1 h2 hL)
theorem AW.icmp_le {x y : Int32} {off : Int} (t q : Nat) (hd : decode Y.2.1 pc = .ok (.if_icmp .le off, 3)) (ht : (pc : Int) + off = (t : Int)) (hq : pc + 3 = q) (kt : x ≤ y → AW Y t ls st N u h P) (kf : ¬ x ≤ y → AW Y q ls st N u h P) : AW Y pc ls (.int y :: .int x :: st) N u h P := by
  subst hq
  intro D M p l e R s m args below meth c Z C H locs cells slots lsA hR hS h1 h2 hL
  exact lv_icmp_le C.1 C.2.1 hd ht (fun z => kt z D M p l e R s m args below meth c Z C H locs cells slots lsA hR hS h1 h2 hL) (fun z => kf z D M p l e R s m args below meth c Z C H locs cells slots lsA hR hS h1 h2 hL)
theorem AW.if_le {x : Int32} {off : Int} (t q : Nat) (hd : decode Y.2.1 pc = .ok (.ifCond .le off, 3)) (ht : (pc : Int) + off = (t : Int)) (hq : pc + 3 = q) (kt : x ≤ 0 → AW Y t ls st N u h P) (kf : ¬ x ≤ 0 → AW Y q ls st N u h P) : AW Y pc ls (.int x :: st) N u h P := by
  subst hq
  intro D M p l e R s m args below meth c Z C H locs cells slots lsA hR hS h1 h2 hL
  exact lv_if_le C.1 C.2.1 hd ht (fun z => kt z D M p l e R s m args below meth c Z C H locs cells slots lsA hR hS h1 h2 hL) (fun z => kf z D M p l e R s m args below meth c Z C H locs cells slots lsA hR hS h1 h2 hL)
theorem AW.goto {off : Int} (t : Nat) (hd : decode Y.2.1 pc = .ok (.goto off, 3)) (ht : (pc : Int) + off = (t : Int)) (k : AW Y t ls st N u h P) : AW Y pc ls st N u h P := by
  intro D M p l e R s m args below meth c Z C H locs cells slots lsA hR hS h1 h2 hL
  exact lv_goto C.1 C.2.1 hd ht (k D M p l e R s m args below meth c Z C H locs cells slots lsA hR hS h1 h2 hL)
theorem AW.tsOut {dflt lo hi : Int} {offs : Array Int} {len : Nat} {x : Int32} (t : Nat) (hd : decode Y.2.1 pc = .ok (.tableswitch dflt lo hi offs, len)) (hx : x.toInt < lo ∨ hi < x.toInt) (ht : (pc : Int) + dflt = (t : Int)) (k : AW Y t ls st N u h P) : AW Y pc ls (.int x :: st) N u h P := by
  intro D M p l e R s m args below meth c Z C H locs cells slots lsA hR hS h1 h2 hL
  exact lv_tableOut C.1 C.2.1 hd hx ht (k D M p l e R s m args below meth c Z C H locs cells slots lsA hR hS h1 h2 hL)
theorem AW.tsIn {dflt lo hi : Int} {offs : Array Int} {len : Nat} {x : Int32} {off : Int} (t : Nat) (hd : decode Y.2.1 pc = .ok (.tableswitch dflt lo hi offs, len)) (hlo : ¬ x.toInt < lo) (hhi : ¬ hi < x.toInt) (ho : offs[(x.toInt - lo).toNat]? = some off) (ht : (pc : Int) + off = (t : Int)) (k : AW Y t ls st N u h P) : AW Y pc ls (.int x :: st) N u h P := by
  intro D M p l e R s m args below meth c Z C H locs cells slots lsA hR hS h1 h2 hL
  exact lv_tableIn C.1 C.2.1 hd hlo hhi ho ht (k D M p l e R s m args below meth c Z C H locs cells slots lsA hR hS h1 h2 hL)
def FL (own : String) (idx ci k : Nat) (ty : FieldType) (fin : Bool) : Prop := ∃ (C : String) (T : u_T) (n : Nat) (ty0 : Nat → FieldType), vwCl[ci]? = some (C, T, n) ∧ k < n ∧ Cond.fieldLink own idx C (T k).2.1 (T k).2.2.1 ∈ gT ∧ (T k).1 = C ∧ (∀ w ∈ u_ws C T n, w ∈ gT) ∧ (∀ j, j < n → parseFieldDescriptor (T j).2.2.1 = some (ty0 j)) ∧ (∀ a, a < n → ∀ b, b < n → a ≠ b → (T a).2.1 ≠ (T b).2.1) ∧ ty0 k = ty ∧ (T k).2.2.2 = fin
theorem AW.getfield {idx ci k a : Nat} {ty : FieldType} {fin : Bool} {fs : List Value} {v : Value} (q : Nat) (hd : decode Y.2.1 pc = .ok (.getfield idx, 3)) (hq : pc + 3 = q) (hf : FL Y.1.cls idx ci k ty fin) (ha : h a = .inr (ci, fs)) (hv : fs[k]? = some v) (kk : AW Y q ls (v :: st) N u h P) : AW Y pc ls (.ref a :: st) N u h P := by
  subst hq
  obtain ⟨C0, T, n, ty0, hc, hk, hlk, hT, hin, -⟩ := hf
  intro D M p l e R s m args below meth c Z C H locs cells slots lsA hR hS h1 h2 hL
  exact va_get (a := aR M a) C.1 C.2.1 C.2.2.2.2.1 hin C.2.2.2.1 C.2.2.2.2.2.1 (hR.o ha hc) 0 rfl hc k hk (C.2.2.2.2.1 _ hlk) (fun x hx => by rw [hT] at hx; exact hx) (v := vm M v) (by rw [List.getElem?_map, hv]; rfl) hd (kk D M p l e R s m args below meth c Z C H locs cells slots lsA hR hS h1 h2 hL)
theorem AW.putfield {idx ci k a : Nat} {ty : FieldType} {fs : List Value} {v : Value} (q : Nat) (hd : decode Y.2.1 pc = .ok (.putfield idx, 3)) (hq : pc + 3 = q) (hf : FL Y.1.cls idx ci k ty false) (ha : h a = .inr (ci, fs)) (hl : k < fs.length) (hn : ∀ M, narrow ty (vm M v) = vm M v ∧ fits ty (vm M v) = true) (kk : AW Y q ls st N u (hs h a (.inr (ci, fs.set k v))) P) : AW Y pc ls (v :: .ref a :: st) N u h P := by
  subst hq
  obtain ⟨C0, T, n, ty0, hc, hk, hlk, hT, hin, hty, hnm, hty0, hfin⟩ := hf
  intro D M p l e R s m args below meth c Z C H locs cells slots lsA hR hS h1 h2 hL
  have hts := C.2.2.2.2.1
  have hK := C.2.2.2.2.2.1
  have hap := va_apart (own := Y.1.cls) hts hin ty0 hty hnm hK hc
  obtain ⟨r, hr1, cell, q1, q2, q3, q4⟩ := hR.o ha hc 0 _ rfl
  have hr : r = (C0, T, n) := Option.some.inj (hr1.symm.trans hc)
  subst hr
  obtain ⟨hSl, hfc, kC, hkC, hkind⟩ := hK.1 ci _ hc
  obtain ⟨cf, kf, fi, f, hi, hsl⟩ := hSl k hk
  have hlay := hts _ (hin _ (u_in_lay hk))
  unfold u_lay at hlay
  obtain ⟨h3, hN⟩ := hR.lt_o ha hc
  have hsame : ∀ x, s.fieldFound? (T k).1 (T k).2.1 (T k).2.2.1 = some x → s.fieldFound? C0 (T k).2.1 (T k).2.2.1 = some x := fun x hx => by rw [hT] at hx; exact hx
  have hst := (u_facts hfc hkC (u_lays hts hin hk) hi).1
  have htk : parseFieldDescriptor (T k).2.2.1 = some ty := by rw [hty k hk, hty0]
  rw [if_neg (by rw [hfin]; decide)] at hlay
  have h6 := u_store hfc hkC hkind hlay hi htk (hn M).1 (hn M).2
  refine W.putK C.1 C.2.1 (f := f) ⟨C.2.2.2.1, hts _ hlk, ⟨_, _, _, hsame _ hi⟩, hst⟩ (by rw [q2]; exact h6) q1 q3 (by rw [hsl]; exact k2_hasslot (q4 k hk)) rfl rfl hd fun H' e1 e2 e3 => ?_
  rw [hsl] at e1
  refine kk D M p l e R s m args below meth c Z C H' _ cells slots lsA (hR.set h3 hN ⟨_, hc, t_OB.to (V := updV (vp_V (fs.map (vm M))) k (vm M v)) ⟨_, e1, q2, q3, t_set q4 hap hk _⟩ (fun j _ => ?_)⟩ e2 e3) (hS.put e2 e3 (aR_base h3)) h1 h2 hL
  rw [vp_updV_set (by rw [List.length_map]; exact hl), ← List.map_set]
theorem AW.putfieldF {idx ci k a : Nat} {ty : FieldType} {fs : List Value} {v : Value} (q : Nat) (hd : decode Y.2.1 pc = .ok (.putfield idx, 3)) (hq : pc + 3 = q) (hf : FL Y.1.cls idx ci k ty true) (ha : h a = .inr (ci, fs)) (hl : k < fs.length) (hn : ∀ M, narrow ty (vm M v) = vm M v ∧ fits ty (vm M v) = true) (hini : Y.1.name = "<init>") (hdc : (vwCl[ci]?).map (fun q => q.1) = some Y.1.cls) (kk : AW Y q ls st N u (hs h a (.inr (ci, fs.set k v))) P) : AW Y pc ls (v :: .ref a :: st) N u h P := by
  subst hq
  obtain ⟨C0, T, n, ty0, hc, hk, hlk, hT, hin, hty, hnm, hty0, hfin⟩ := hf
  intro D M p l e R s m args below meth c Z C H locs cells slots lsA hR hS h1 h2 hL
  have hts := C.2.2.2.2.1
  have hK := C.2.2.2.2.2.1
  have hap := va_apart (own := Y.1.cls) hts hin ty0 hty hnm hK hc
  obtain ⟨r, hr1, cell, q1, q2, q3, q4⟩ := hR.o ha hc 0 _ rfl
  have hr : r = (C0, T, n) := Option.some.inj (hr1.symm.trans hc)
  subst hr
  obtain ⟨hSl, hfc, kC, hkC, hkind⟩ := hK.1 ci _ hc
  obtain ⟨cf, kf, fi, f, hi, hsl⟩ := hSl k hk
  have hlay := hts _ (hin _ (u_in_lay hk))
  unfold u_lay at hlay
  obtain ⟨h3, hN⟩ := hR.lt_o ha hc
  have hsame : ∀ x, s.fieldFound? (T k).1 (T k).2.1 (T k).2.2.1 = some x → s.fieldFound? C0 (T k).2.1 (T k).2.2.1 = some x := fun x hx => by rw [hT] at hx; exact hx
  have hst := (u_facts hfc hkC (u_lays hts hin hk) hi).1
  have htk : parseFieldDescriptor (T k).2.2.1 = some ty := by rw [hty k hk, hty0]
  rw [if_pos hfin] at hlay
  have hC0 : C0 = Y.1.cls := by rw [hc] at hdc; exact Option.some.inj hdc
  have hcf : m.cls = cf := by
    obtain ⟨_, _, c', _, _, _, -, -, hf', -, -, -, hown2, -⟩ := Cond.laysFinal_spec hlay
    have e1 : c' = cf := by have := hi.symm.trans hf'; simp at this; exact this.1.symm
    rw [hT, hC0] at hown2
    rw [← e1]; exact Option.some.inj (C.2.2.2.1.symm.trans hown2)
  have h6 := u_fits hfc hkC hkind (Or.inr hlay) hi htk (hn M).1 (hn M).2
  refine W.putFinK C.1 C.2.1 C.2.2.2.1 (hts _ hlk) (hsame _ hi) hst hcf (C.2.2.2.2.2.2.2.1 hini) (by rw [q2]; exact h6) q1 q3 (by rw [hsl]; exact k2_hasslot (q4 k hk)) rfl rfl hd fun H' e1 e2 e3 => ?_
  rw [hsl] at e1
  refine kk D M p l e R s m args below meth c Z C H' _ cells slots lsA (hR.set h3 hN ⟨_, hc, t_OB.to (V := updV (vp_V (fs.map (vm M))) k (vm M v)) ⟨_, e1, q2, q3, t_set q4 hap hk _⟩ (fun j _ => ?_)⟩ e2 e3) (hS.put e2 e3 (aR_base h3)) h1 h2 hL
  rw [vp_updV_set (by rw [List.length_map]; exact hl), ← List.map_set]
theorem AW.getCat {idx : Nat} (q : Nat) (hd : decode Y.2.1 pc = .ok (.getstatic idx, 3)) (hq : pc + 3 = q) (hw : (Y.1.cls, idx, "CATALAN") ∈ nF) (kk : AW Y q ls (.ref 0 :: st) N u h P) : AW Y pc ls st N u h P := by
  subst hq
  intro D M p l e R s m args below meth c Z C H locs cells slots lsA hR hS h1 h2 hL
  exact va_getsN C.1 C.2.1 C.2.2.2.2.2.2.1.1.1 hS C.2.2.2.1 (va_Nw.use rfl (C.2.2.2.2.2.2.1.2.2.2.1 _ hw)) (fun x hx => hx) hd (kk D M p l e R s m args below meth c Z C H locs cells slots lsA hR hS h1 h2 hL)
theorem AW.getLong {idx : Nat} (q : Nat) (hd : decode Y.2.1 pc = .ok (.getstatic idx, 3)) (hq : pc + 3 = q) (hw : (Y.1.cls, idx, "LONG_CHAINS") ∈ nF) (kk : AW Y q ls (.ref 1 :: st) N u h P) : AW Y pc ls st N u h P := by
  subst hq
  intro D M p l e R s m args below meth c Z C H locs cells slots lsA hR hS h1 h2 hL
  exact va_getsN C.1 C.2.1 C.2.2.2.2.2.2.1.2.1 hS C.2.2.2.1 (va_Nw.use rfl (C.2.2.2.2.2.2.1.2.2.2.1 _ hw)) (fun x hx => hx) hd (kk D M p l e R s m args below meth c Z C H locs cells slots lsA hR hS h1 h2 hL)
/-- an index, read as a number -/
def ix (i : Int32) (j : Nat) : Prop := ¬ i < 0 ∧ i.toNatClampNeg = j
theorem ix_nI {j : Nat} (h : j < 2 ^ 31) : ix (nI j) j := ⟨nI_pos h, nI_clamp h⟩
theorem ix.in {i : Int32} {j n : Nat} (h : ix i j) (hj : j < n) : vp_in i n := fun q => by
  rcases q with q | q
  · exact h.1 q
  · rw [h.2] at q; omega
theorem Rep.rd {D : va_G} {M : aM} {N k t n : Nat} {h : aH} {H : Heap} {f : Nat → Int32} {s : State} (R : Rep D M N h H) (hK : va_K D vwCl (aT M) s) (hSt : aSt M s) (hk : h k = .inl (t, (n, .inl f))) (ht : t = 0 ∨ t = 6) : ∃ cell : Cell, H[aR M k]? = some cell ∧ s.isArrayOf cell .int ∧ cell.vm ≠ .unknown ∧ n ≤ cell.slots.size ∧ cell.slots.size.toInt32 = Int32.ofNat n ∧ ∀ j, j < n → cell.slots[j]? = some (.int (f j)) := by
  rcases Nat.lt_or_ge k 3 with z | z
  · obtain ⟨n', f', cell, e1, e2, e3, e4, e5, e6, e7, e8⟩ := R.2.2.2.1 k z
    rw [hk] at e1
    cases e1
    refine ⟨cell, e2, ⟨e5, ?_⟩, e4, e6, e7, e8⟩
    rw [e3]
    exact (hSt.1.2 k z 0 (fun _ => .null)).2
  · have P := R.a hk z 0 _ rfl
    have hA : ArrOfT s (M.1 t) .int := by
      rcases ht with rfl | rfl
      · exact (hK.2 0 _ rfl).1
      · exact hSt.1.2 0 (by decide)
    exact ⟨_, P, hA n (fun j => .int (f j)), (fun q => by cases q), Nat.le_of_eq (arrV_size _ _ _).symm, (by rw [show (vp_cell (M.1 t) (dm M (n, .inl f))).slots.size = n from arrV_size _ _ _] <;> rfl), fun j hj => arrV_read _ _ hj⟩
theorem AW.iaload {a t n : Nat} {f : Nat → Int32} {i : Int32} (q j : Nat) (hd : decode Y.2.1 pc = .ok (.iaload, 1)) (hq : pc + 1 = q) (ha : h a = .inl (t, (n, .inl f))) (ht : t = 0 ∨ t = 6) (hi : ix i j) (hj : j < n) (kk : AW Y q ls (.int (f j) :: st) N u h P) : AW Y pc ls (.int i :: .ref a :: st) N u h P := by
  subst hq
  intro D M p l e R s m args below meth c Z C H locs cells slots lsA hR hS h1 h2 hL
  obtain ⟨cell, g1, g2, g3, g4, g5, g6⟩ := hR.rd C.2.2.2.2.2.1 C.2.2.2.2.2.2.1 ha ht
  exact W.iald (v := .int (f j)) C.1 C.2.1 g1 g2 g3 (fun q => by rcases q with q | q; exact hi.1 q; rw [hi.2] at q; omega) (by rw [hi.2]; exact g6 j hj) rfl rfl hd (kk D M p l e R s m args below meth c Z C H locs cells slots lsA hR hS h1 h2 hL)
theorem AW.laload {a t n : Nat} {f : Nat → Int64} {i : Int32} (q j : Nat) (hd : decode Y.2.1 pc = .ok (.laload, 1)) (hq : pc + 1 = q) (ha : h a = .inl (t, (n, .inr (.inl f)))) (ht : t = 1) (hi : ix i j) (hj : j < n) (kk : AW Y q ls (.long (f j) :: st) N u h P) : AW Y pc ls (.int i :: .ref a :: st) N u h P := by
  subst hq
  subst ht
  intro D M p l e R s m args below meth c Z C H locs cells slots lsA hR hS h1 h2 hL
  refine va_lald (a := aR M a) C.1 C.2.1 C.2.2.2.2.2.1 (hR.a ha ((hR.lt_a ha).2 (by decide))) 0 1 rfl rfl (hi.in hj) hd ?_
  rw [hi.2]
  exact kk D M p l e R s m args below meth c Z C H locs cells slots lsA hR hS h1 h2 hL
theorem AW.iastore {a n : Nat} {f : Nat → Int32} {i : Int32} {x : Int32} (q j : Nat) (hd : decode Y.2.1 pc = .ok (.iastore, 1)) (hq : pc + 1 = q) (ha : h a = .inl (0, (n, .inl f))) (hi : ix i j) (hj : j < n) (kk : AW Y q ls st N u (hs h a (.inl (0, (n, .inl (upd f j x))))) P) : AW Y pc ls (.int x :: .int i :: .ref a :: st) N u h P := by
  subst hq
  intro D M p l e R s m args below meth c Z C H locs cells slots lsA hR hS h1 h2 hL
  obtain ⟨hN, h3⟩ := hR.lt_a ha
  have h3 := h3 (by decide)
  have hP := hR.a ha h3 0 _ rfl
  have hK := C.2.2.2.2.2.1
  refine W.iast C.1 C.2.1 hP ((hK.2 0 _ rfl).1 n (fun j => .int (f j))) (fun q => by cases q) (by show ¬ (i < 0 ∨ (arrV _ _ _).slots.size ≤ _); rw [arrV_size]; exact hi.in hj) rfl rfl hd fun H1 e1 e2 e3 => ?_
  refine kk D M p l e R s m args below meth c Z C H1 _ cells slots lsA (hR.set h3 hN ?_ e2 e3) (hS.put e2 e3 (aR_base h3)) h1 h2 hL
  show H1[aR M a]? = some (vp_cell _ _)
  rw [e1]
  show some ((vp_cell (M.1 0) (n, .inl f)).setSlot _ _) = some (vp_cell (M.1 0) (n, .inl (upd f j x)))
  rw [vp_cell_i, vp_cell_i, arrV_store]
  congr 2
  funext z
  rw [hi.2]
  by_cases hz : z = j
  · subst hz
    simp [updV, upd, vp_updL]
  · simp [updV, upd, vp_updL, hz]
theorem AW.lastore {a n : Nat} {f : Nat → Int64} {i : Int32} {x : Int64} (q j : Nat) (hd : decode Y.2.1 pc = .ok (.lastore, 1)) (hq : pc + 1 = q) (ha : h a = .inl (1, (n, .inr (.inl f)))) (hi : ix i j) (hj : j < n) (kk : AW Y q ls st N u (hs h a (.inl (1, (n, .inr (.inl (vp_updL f j x)))))) P) : AW Y pc ls (.long x :: .int i :: .ref a :: st) N u h P := by
  subst hq
  intro D M p l e R s m args below meth c Z C H locs cells slots lsA hR hS h1 h2 hL
  obtain ⟨hN, h3⟩ := hR.lt_a ha
  have h3 := h3 (by decide)
  have hP := hR.a ha h3 0 _ rfl
  have hK := C.2.2.2.2.2.1
  refine W.last C.1 C.2.1 hP ((hK.2 1 _ rfl).1 n (fun j => .long (f j))) (fun q => by cases q) (by show ¬ (i < 0 ∨ (arrV _ _ _).slots.size ≤ _); rw [arrV_size]; exact hi.in hj) rfl rfl hd fun H1 e1 e2 e3 => ?_
  refine kk D M p l e R s m args below meth c Z C H1 _ cells slots lsA (hR.set h3 hN ?_ e2 e3) (hS.put e2 e3 (aR_base h3)) h1 h2 hL
  show H1[aR M a]? = some (vp_cell _ _)
  rw [e1]
  show some ((vp_cell (M.1 1) (n, .inr (.inl f))).setSlot _ _) = some (vp_cell (M.1 1) (n, .inr (.inl (vp_updL f j x))))
  rw [vp_cell_l, vp_cell_l, arrV_store]
  congr 2
  funext z
  rw [hi.2]
  by_cases hz : z = j
  · subst hz
    simp [updV, upd, vp_updL]
  · simp [updV, upd, vp_updL, hz]
theorem AW.aaload {a t n b : Nat} {f : Nat → Option Nat} {i : Int32} {ty : FieldType} (q j : Nat) (hd : decode Y.2.1 pc = .ok (.aaload, 1)) (hq : pc + 1 = q) (ha : h a = .inl (t, (n, .inr (.inr (.inr (.inr f)))))) (ht : ∀ M, (aT M)[t]? = some (M.1 t, ty)) (hty : ty.isReference = true) (hi : ix i j) (hj : j < n) (hb : f j = some b) (kk : AW Y q ls (.ref b :: st) N u h P) : AW Y pc ls (.int i :: .ref a :: st) N u h P := by
  subst hq
  intro D M p l e R s m args below meth c Z C H locs cells slots lsA hR hS h1 h2 hL
  have h3 : 3 ≤ a := by
    rcases Nat.lt_or_ge a 3 with z | z
    · obtain ⟨_, _, _, hx, -⟩ := hR.2.2.2.1 a z
      rw [ha] at hx
      cases hx
    · exact z
  have hP := hR.a ha h3 0 _ rfl
  have hK := C.2.2.2.2.2.1
  refine W.aald (v := .ref (aR M b)) (ty := ty) C.1 C.2.1 hP ((hK.2 t _ (ht M)).1 n (fun j => va_rf ((f j).map (aR M)))) hty (fun q => by cases q) (by show ¬ (i < 0 ∨ (arrV _ _ _).slots.size ≤ _); rw [arrV_size]; exact hi.in hj) (by show (arrV _ _ _).slots[_]? = _; rw [arrV_read _ _ (by rw [hi.2]; exact hj), hi.2]; show some (va_rf ((f j).map (aR M))) = _; rw [hb]; rfl) rfl rfl hd ?_
  exact kk D M p l e R s m args below meth c Z C H locs cells slots lsA hR hS h1 h2 hL
theorem AW.arraylength {a t n : Nat} {x : Nat → Int32} (q : Nat) (hd : decode Y.2.1 pc = .ok (.arraylength, 1)) (hq : pc + 1 = q) (ha : h a = .inl (t, (n, .inl x))) (ht : t = 0 ∨ t = 6) (kk : AW Y q ls (.int (Int32.ofNat n) :: st) N u h P) : AW Y pc ls (.ref a :: st) N u h P := by
  subst hq
  intro D M p l e R s m args below meth c Z C H locs cells slots lsA hR hS h1 h2 hL
  obtain ⟨cell, g1, g2, g3, g4, g5, g6⟩ := hR.rd C.2.2.2.2.2.1 C.2.2.2.2.2.2.1 ha ht
  exact W.alen (n := Int32.ofNat n) C.1 C.2.1 g1 g2 g5 rfl rfl hd (kk D M p l e R s m args below meth c Z C H locs cells slots lsA hR hS h1 h2 hL)
theorem AW.iret {v : Int32} (hd : decode Y.2.1 pc = .ok (.ireturn, 1)) (hr : Y.2.2.2.1 = some .int) (hP : P (some (.int v)) N h) : AW Y pc ls [.int v] N u h P := by
  intro D M p l e R s m args below meth c Z C H locs cells slots lsA hR hS h1 h2 hL
  exact C.2.2.2.2.2.2.2.2.2 _ _ pc N h H locs cells slots lsA (Or.inr (Or.inl ⟨v, hr, rfl, rfl⟩)) hP hd hR hS (by omega) (by omega)
theorem AW.zret {v : Int32} (hd : decode Y.2.1 pc = .ok (.ireturn, 1)) (hr : Y.2.2.2.1 = some .boolean) (hz : narrow .boolean (.int v) = .int v) (hP : P (some (.int v)) N h) : AW Y pc ls [.int v] N u h P := by
  intro D M p l e R s m args below meth c Z C H locs cells slots lsA hR hS h1 h2 hL
  exact C.2.2.2.2.2.2.2.2.2 _ _ pc N h H locs cells slots lsA (Or.inr (Or.inr (Or.inl ⟨v, hr, rfl, rfl, hz⟩))) hP hd hR hS (by omega) (by omega)
theorem AW.lret {v : Int64} (hd : decode Y.2.1 pc = .ok (.lreturn, 1)) (hr : Y.2.2.2.1 = some .long) (hP : P (some (.long v)) N h) : AW Y pc ls [.long v] N u h P := by
  intro D M p l e R s m args below meth c Z C H locs cells slots lsA hR hS h1 h2 hL
  exact C.2.2.2.2.2.2.2.2.2 _ _ pc N h H locs cells slots lsA (Or.inr (Or.inr (Or.inr (Or.inl ⟨v, hr, rfl, rfl⟩)))) hP hd hR hS (by omega) (by omega)
theorem AW.vret  (hd : decode Y.2.1 pc = .ok (.return_, 1)) (hr : Y.2.2.2.1 = none) (hP : P (none) N h) : AW Y pc ls [] N u h P := by
  intro D M p l e R s m args below meth c Z C H locs cells slots lsA hR hS h1 h2 hL
  exact C.2.2.2.2.2.2.2.2.2 _ _ pc N h H locs cells slots lsA (Or.inl ⟨hr, rfl, rfl⟩) hP hd hR hS (by omega) (by omega)
theorem AW.aret {a : Nat} {t : String} (hd : decode Y.2.1 pc = .ok (.areturn, 1)) (hr : Y.2.2.2.1 = some (.object t)) (hP : P (some (.ref a)) N h) : AW Y pc ls [.ref a] N u h P := by
  intro D M p l e R s m args below meth c Z C H locs cells slots lsA hR hS h1 h2 hL
  exact C.2.2.2.2.2.2.2.2.2 _ _ pc N h H locs cells slots lsA (Or.inr (Or.inr (Or.inr (Or.inr ⟨t, a, hr, rfl, rfl⟩)))) hP hd hR hS (by omega) (by omega)
end AWR
end
section
theorem lw_good : ∀ w ∈ gT, goodWord w = true := fun _ h => (List.mem_filter.mp h).2
/-- what is said of a method once: its words are in the table, its class is not special, it takes n -/
def MI (Y : aY) (n : Nat) : Prop := Cond.code Y.1 Y.2.1 Y.2.2.1 Y.2.2.2.1 ∈ gT ∧ Cond.initialized Y.1.cls ∈ gT ∧ (Y.1.cls ≠ "java/lang/invoke/MethodHandle" ∧ Y.1.cls ≠ "java/lang/invoke/VarHandle") ∧ (parseMethodDescriptor Y.1.desc).map (fun d => d.parameters.length) = some n
def MV (Y : aY) : Prop := Cond.instanceMethod Y.1 ∈ gT ∧ Cond.selects Y.1.cls Y.1 Y.1 ∈ gT
theorem MI.good {Y : aY} {n : Nat} (h : MI Y n) : GoodIn gT (aWs Y) := fun w hw => by
  rcases List.mem_cons.mp hw with rfl | q
  · exact ⟨h.1, good_of_word (lw_good _ h.1)⟩
  · exact ⟨q, good_of_word (lw_good _ q)⟩
theorem MI.cb {Y' : aY} {n : Nat} (hm : MI Y' n) {R : Room} {s : State} {args : Array Value} {own : String} {idx : Nat} (hts : ∀ w ∈ gT, w.before args s = true) (hl : Cond.methodLink own idx Y'.1 ∈ gT) (hr : (aRm Y').frames + 1 ≤ R.frames ∧ 8 + (Y'.2.2.1 + 11) + (aRm Y').locals ≤ R.locals) :
    CallB R s args own idx Y'.1 Y'.2.1 Y'.2.2.1 Y'.2.2.2.1 (aWs Y') (aRm Y') Y'.2.2.2.2.2.1 Y'.2.2.2.2.2.2 n :=
  callB_of n hts hm.good rfl rfl rfl (hts _ hm.2.1) (hts _ hl) ⟨hm.2.2.1.1, hm.2.2.1.2, hm.2.2.2⟩ hr
/-- the callee's room is in the caller's: its level is lower -/
def LO (Y' Y : aY) : Prop := Y'.2.2.2.2.1 < Y.2.2.2.2.1 ∧ Y'.2.2.1 ≤ 19
theorem LO.room {Y' Y : aY} {R : Room} (h : LO Y' Y) (hR : Y.2.2.2.2.1 ≤ R.frames ∧ 38 * Y.2.2.2.2.1 ≤ R.locals) : (aRm Y').frames + 1 ≤ R.frames ∧ 8 + (Y'.2.2.1 + 11) + (aRm Y').locals ≤ R.locals := by
  obtain ⟨h1, h2⟩ := h
  show Y'.2.2.2.2.1 + 1 ≤ R.frames ∧ 8 + (Y'.2.2.1 + 11) + 38 * Y'.2.2.2.2.1 ≤ R.locals
  omega
theorem aPc_blind {D : va_G} {M : aM} {as : List Value} {N : Nat} {h : aH} : FrameBlind (aPc D M as N h) := fun a U g mk q => ⟨q.1, q.2.1, va_K.moved (u := U) (U := U.calling g mk a) (Vm.Alike.refl U.vm) q.2.2.1, ⟨⟨va_Z.moved (u := U) (U := U.calling g mk a) (Vm.Alike.refl U.vm) q.2.2.2.1.1, fun k hk => arrOfT_moved (u := U) (E := U.calling g mk a) (Vm.Alike.refl U.vm) (q.2.2.2.1.2 k hk)⟩, va_Z.moved (u := U) (U := U.calling g mk a) (Vm.Alike.refl U.vm) q.2.2.2.2.1, fun z hz => va_Nw.same rfl rfl (q.2.2.2.2.2.1 z hz), fun z hz => va_Nw.same rfl rfl (q.2.2.2.2.2.2.1 z hz), va_AO.moved (u := U) (U := U.calling g mk a) (Vm.Alike.refl U.vm) q.2.2.2.2.2.2.2.1, va_AO.moved (u := U) (U := U.calling g mk a) (Vm.Alike.refl U.vm) q.2.2.2.2.2.2.2.2.1, over_moved (u := U) (E := U.calling g mk a) (Vm.Alike.refl U.vm) q.2.2.2.2.2.2.2.2.2.1, over_moved (u := U) (E := U.calling g mk a) (Vm.Alike.refl U.vm) q.2.2.2.2.2.2.2.2.2.2⟩⟩
theorem aPc_of {D : va_G} {M : aM} {as : List Value} {N : Nat} {h : aH} {s U : State} {H : Heap} {locs : List Loc} {As : List Value} (hK : va_K D vwCl (aT M) s) (hSt : aSt M s) (hR : Rep D M N h H) (hS : va_S (aSw M) s.heap H locs) (hU : U.heap = H) (hW : s.WarmedH U.vm) (hAs : As = as.map (vm M)) : aPc D M as N h As.toArray U := by
  refine ⟨by rw [hAs], by rw [hU]; exact hR, va_K.moved hW.alike hK, ⟨?_, fun k hk => arrOfT_moved hW.alike (hSt.1.2 k hk)⟩, ?_, fun z hz => va_Nw.warmM hW (hSt.2.2.1 z hz), fun z hz => va_Nw.warmF hW (hSt.2.2.2.1 z hz), hSt.2.2.2.2.1.moved hW.alike, hSt.2.2.2.2.2.1.moved hW.alike, over_moved hW.alike hSt.2.2.2.2.2.2.1, over_moved hW.alike hSt.2.2.2.2.2.2.2⟩
  · rw [hU]; exact (hSt.1.1.moved hW.alike).kept hS.2.1
  · rw [hU]; exact (hSt.2.1.moved hW.alike).kept hS.2.1
def psh (r : Option Value) (st : List Value) : List Value := match r with
  | some v => v :: st
  | none => st
theorem psh_map (M : aM) (r : Option Value) (st : List Value) : (r.map (vm M)).toList ++ st.map (vm M) = (psh r st).map (vm M) := by cases r <;> rfl
section AWC
variable {Y : aY} {pc : Nat} {ls : List (Option Value)} {st : List Value} {N : Nat} {u : Nat × Nat} {h : aH} {P : aP}
/-- behind a call -/
theorem aw_back {Y' : aY} {D : va_G} {M : aM} {p : Program} {l : Launch} {e : Env} {R : Room} {s : State} {m : MethodId} {args : Array Value} {below : List Frame} {meth : Method} {c : Code} {Z : State → Prop} {H : Heap} {locs : List Loc} {cells slots : Nat} {lsA : Array Slot} {st0 : List Value} {a : Array Value} (C : aCx Y P D M p l e R s m args below meth c Z) (hS : va_S (aSw M) s.heap H locs) (h1 : cells + (u.1 + Y'.2.2.2.2.2.1) ≤ R.cells) (h2 : slots + (u.2 + Y'.2.2.2.2.2.2) ≤ R.slots) (hL : aL M Y.2.2.1 ls lsA)
    (hr : va_Run p l e R s m args below meth c H locs cells slots Y'.2.2.2.2.2.1 Y'.2.2.2.2.2.2 (F0 m pc lsA st0) (st.map (vm M)) (aQc D M (fun r N' h' => AW Y (pc + 3) ls (psh r st) N' u h' P) a) (aSw M)) : W p l e R s m args below meth c H locs cells slots Z (F0 m pc lsA st0) := by
  intro T hT X
  obtain ⟨v, st₀, t, T', L, h0, X', hLq, e1, e2, ⟨r, N', h', hv, hp, hRt, hsz, hfr⟩, step⟩ := hr T hT X
  cases hv
  rw [h0] at hfr hsz
  have hS' : va_S (aSw M) s.heap T'.heap (locs ++ L) := by
    have hz : H.size ≤ T'.heap.size := by rw [e1]; exact hsz
    refine ⟨Nat.le_trans hS.1 hz, fun q q1 q2 => ?_, fun q hq => ?_⟩
    · rw [e1, hfr q (Nat.lt_of_lt_of_le q1 hS.1) q2]; exact hS.2.1 q q1 q2
    · rcases List.mem_append.mp hq with q1 | q1
      · exact hS.2.2 q q1
      · exact hLq q q1
  obtain ⟨t2, a1, b1⟩ := hp D M p l e R s m args below meth c Z C T'.heap (locs ++ L) (cells + Y'.2.2.2.2.2.1) (slots + Y'.2.2.2.2.2.2) lsA (by rw [e1]; exact hRt) hS' (by omega) (by omega) hL T' rfl X'
  refine ⟨t2, step t2 ?_, b1⟩
  rw [psh_map]
  exact a1

theorem AW.callV {Y' : aY} {idx n ci a : Nat} {as fs : List Value} (q : Nat) (hd : decode Y.2.1 pc = .ok (.invokevirtual idx, 3)) (hq : pc + 3 = q) (hm : MI Y' n) (hv : MV Y') (hl : Cond.methodLink Y.1.cls idx Y'.1 ∈ gT) (ho : LO Y' Y) (ha : h a = .inr (ci, fs)) (hci : (vwCl[ci]?).map (fun q => q.1) = some Y'.1.cls) (hn : as.length = n) (hw : (st.map fun v => v.category).sum ≤ 8) (st0 : List Value) (hst : st0 = as.reverse ++ .ref a :: st)
    (hM : AM Y' (.ref a :: as) N h (fun r N' h' => AW Y q ls (psh r st) N' u h' P)) : AW Y pc ls st0 N (u.1 + Y'.2.2.2.2.2.1, u.2 + Y'.2.2.2.2.2.2) h P := by
  subst hq
  intro D M p l e R s m args below meth c Z C H locs cells slots lsA hR hS h1 h2 hL
  refine aw_back (Y' := Y') (u := u) (st := st) C hS (by have := h1; dsimp only at this; omega) (by have := h2; dsimp only at this; omega) hL (a := (Value.ref (aR M a) :: as.map (vm M)).toArray) ?_
  obtain ⟨cq, hcq⟩ : ∃ cq, vwCl[ci]? = some cq := by
    cases hx : vwCl[ci]? with
    | none => rw [hx] at hci; cases hci
    | some cq => exact ⟨cq, rfl⟩
  have hcn : cq.1 = Y'.1.cls := by rw [hcq] at hci; exact Option.some.inj hci
  have hts := C.2.2.2.2.1
  refine va_runV (n := n) (C := Y'.1.cls) (b := aR M a) (As := as.map (vm M)) (rest := st.map (vm M)) ⟨C.1, C.2.1, C.2.2.1, C.2.2.2.1, hts⟩ (hM D M l) ⟨hm.cb hts hl (ho.room C.2.2.2.2.2.2.2.2.1), hts _ hv.1, hts _ hv.2⟩ ⟨aPc_blind, ?_, fun U hU hW => aPc_of C.2.2.2.2.2.1 C.2.2.2.2.2.2.1 hR hS hU hW rfl⟩ rfl (by rw [List.length_map]; exact hn) hL.1 (by rw [hst, List.map_append, List.map_reverse]; rfl) (lv_room (by rw [List.map_map]; exact (by rw [show ((fun v => v.category) ∘ vm M) = (fun v : Value => v.category) from funext fun v => vm_cat M v]; exact hw))) hd ⟨by omega, by omega⟩
  rw [← hcn]
  exact va_recv C.2.2.2.2.2.1 (hR.o ha hcq) (q0 := 0) hcq rfl
theorem AW.callS {Y' : aY} {idx n : Nat} {as : List Value} (q : Nat) (hd : decode Y.2.1 pc = .ok (.invokestatic idx, 3)) (hq : pc + 3 = q) (hm : MI Y' n) (hv : Cond.static Y'.1 ∈ gT) (hl : Cond.methodLink Y.1.cls idx Y'.1 ∈ gT) (ho : LO Y' Y) (hn : as.length = n) (hw : (st.map fun v => v.category).sum ≤ 8) (st0 : List Value) (hst : st0 = as.reverse ++ st)
    (hM : AM Y' as N h (fun r N' h' => AW Y q ls (psh r st) N' u h' P)) : AW Y pc ls st0 N (u.1 + Y'.2.2.2.2.2.1, u.2 + Y'.2.2.2.2.2.2) h P := by
  subst hq
  intro D M p l e R s m args below meth c Z C H locs cells slots lsA hR hS h1 h2 hL
  refine aw_back (Y' := Y') (u := u) (st := st) C hS (by have := h1; dsimp only at this; omega) (by have := h2; dsimp only at this; omega) hL (a := (as.map (vm M)).toArray) ?_
  have hts := C.2.2.2.2.1
  exact va_runS (n := n) (As := as.map (vm M)) (rest := st.map (vm M)) ⟨C.1, C.2.1, C.2.2.1, C.2.2.2.1, hts⟩ (hM D M l) ⟨hm.cb hts hl (ho.room C.2.2.2.2.2.2.2.2.1), hts _ hv⟩ ⟨aPc_blind, fun U hU hW => aPc_of C.2.2.2.2.2.1 C.2.2.2.2.2.2.1 hR hS hU hW rfl⟩ rfl (by rw [List.length_map]; exact hn) hL.1 (by rw [hst, List.map_append, List.map_reverse]) (lv_room (by rw [List.map_map]; exact (by rw [show ((fun v => v.category) ∘ vm M) = (fun v : Value => v.category) from funext fun v => vm_cat M v]; exact hw))) hd ⟨by omega, by omega⟩
theorem AW.callSN {Y' : aY} {idx n : Nat} {as : List Value} (q : Nat) (hd : decode Y.2.1 pc = .ok (.invokestatic idx, 3)) (hq : pc + 3 = q) (hm : MI Y' n) (hv : Cond.static Y'.1 ∈ gT) (hl : (Y.1.cls, idx, Y'.1) ∈ nM) (ho : LO Y' Y) (hn : as.length = n) (hw : (st.map fun v => v.category).sum ≤ 8) (st0 : List Value) (hst : st0 = as.reverse ++ st)
    (hM : AM Y' as N h (fun r N' h' => AW Y q ls (psh r st) N' u h' P)) : AW Y pc ls st0 N (u.1 + Y'.2.2.2.2.2.1, u.2 + Y'.2.2.2.2.2.2) h P := by
  subst hq
  intro D M p l e R s m args below meth c Z C H locs cells slots lsA hR hS h1 h2 hL
  refine aw_back (Y' := Y') (u := u) (st := st) C hS (by have := h1; dsimp only at this; omega) (by have := h2; dsimp only at this; omega) hL (a := (as.map (vm M)).toArray) ?_
  have hts := C.2.2.2.2.1
  have hnw : va_Nw (.methodLinkNest Y.1.cls idx Y'.1 RX7) s := C.2.2.2.2.2.2.1.2.2.1 _ hl
  exact va_runSN (n := n) (As := as.map (vm M)) (rest := st.map (vm M)) (ws := aWs Y') ⟨C.1, C.2.1, C.2.2.1, C.2.2.2.1, hts⟩ (hM D M l) ⟨va_cnB n hts hm.good rfl rfl rfl hnw (hts _ hm.2.1) ⟨hm.2.2.1.1, hm.2.2.1.2, hm.2.2.2⟩ (ho.room C.2.2.2.2.2.2.2.2.1), hts _ hv, trivial⟩ ⟨aPc_blind, fun U hU hW => aPc_of C.2.2.2.2.2.1 C.2.2.2.2.2.2.1 hR hS hU hW rfl⟩ rfl (by rw [List.length_map]; exact hn) hL.1 (by rw [hst, List.map_append, List.map_reverse]) (lv_room (by rw [List.map_map]; exact (by rw [show ((fun v => v.category) ∘ vm M) = (fun v : Value => v.category) from funext fun v => vm_cat M v]; exact hw))) hd ⟨by omega, by omega⟩
theorem AW.callI {Y' : aY} {idx n a : Nat} {as : List Value} (q : Nat) (hd : decode Y.2.1 pc = .ok (.invokespecial idx, 3)) (hq : pc + 3 = q) (hm : MI Y' n) (hi : Y'.1.name = "<init>") (hr0 : Y'.2.2.2.1 = none) (hv : Cond.instanceMethod Y'.1 ∈ gT) (hl : Cond.methodLink Y.1.cls idx Y'.1 ∈ gT) (ho : LO Y' Y) (hn : as.length = n) (hw : (st.map fun v => v.category).sum ≤ 8) (st0 : List Value) (hst : st0 = as.reverse ++ .ref a :: st)
    (hM : AM Y' (.ref a :: as) N h (fun r N' h' => AW Y q ls (psh r st) N' u h' P)) : AW Y pc ls st0 N (u.1 + Y'.2.2.2.2.2.1, u.2 + Y'.2.2.2.2.2.2) h P := by
  subst hq
  intro D M p l e R s m args below meth c Z C H locs cells slots lsA hR hS h1 h2 hL
  refine aw_back (Y' := Y') (u := u) (st := st) C hS (by have := h1; dsimp only at this; omega) (by have := h2; dsimp only at this; omega) hL (a := (Value.ref (aR M a) :: as.map (vm M)).toArray) ?_
  have hts := C.2.2.2.2.1
  have hcb := hm.cb (own := Y.1.cls) (idx := idx) hts hl (ho.room C.2.2.2.2.2.2.2.2.1)
  rw [hr0] at hcb
  exact va_runI (n := n) (b := aR M a) (As := as.map (vm M)) (rest := st.map (vm M)) ⟨C.1, C.2.1, C.2.2.1, C.2.2.2.1, hts⟩ (hM D M l) ⟨hcb, hi, hts _ hv⟩ ⟨aPc_blind, fun U hU hW => aPc_of C.2.2.2.2.2.1 C.2.2.2.2.2.2.1 hR hS hU hW rfl⟩ rfl (by rw [List.length_map]; exact hn) hL.1 (by rw [hst, List.map_append, List.map_reverse]; rfl) (lv_room (by rw [List.map_map]; exact (by rw [show ((fun v => v.category) ∘ vm M) = (fun v : Value => v.category) from funext fun v => vm_cat M v]; exact hw))) hd ⟨by omega, by omega⟩
theorem AW.objInit {idx a : Nat} (q : Nat) (hd : decode Y.2.1 pc = .ok (.invokespecial idx, 3)) (hq : pc + 3 = q) (hl : Cond.methodLink Y.1.cls idx Lib.objectInit ∈ gT) (hi : Cond.instanceMethod Lib.objectInit ∈ gT) (hc : Cond.code Lib.objectInit ⟨#[0xb1]⟩ 1 none ∈ gT) (hw : (st.map fun v => v.category).sum ≤ 8) (hlv : 1 ≤ Y.2.2.2.2.1) (k : AW Y q ls st N u h P) : AW Y pc ls (.ref a :: st) N u h P := by
  subst hq
  intro D M p l e R s m args below meth c Z C H locs cells slots lsA hR hS h1 h2 hL
  have hts := C.2.2.2.2.1
  have hw2 : 2 * (F0 m pc lsA ((Value.ref a :: st).map (vm M))).monitorRoom + ((st.map (vm M)).map fun v => v.category).sum ≤ 8 := lv_room (by rw [List.map_map]; exact (by rw [show ((fun v => v.category) ∘ vm M) = (fun v : Value => v.category) from funext fun v => vm_cat M v]; exact hw))
  have hRm := C.2.2.2.2.2.2.2.2.1
  refine W.objInit C.1 C.2.1 C.2.2.2.1 (hts _ hl) (hts _ hi) (hts _ hc) rfl (by rw [C.2.2.1]; exact hL.1) rfl hd (by omega) (by omega) ?_
  exact k D M p l e R s m args below meth c Z C H locs cells slots lsA hR hS h1 h2 hL
end AWC
/-- a method, out of the walk of its body -/
theorem AM.of {Y : aY} {as : List Value} {N : Nat} {h : aH} {P : aP} (hy : plainName Y.1.cls = true) (hsz : (lg_sl as).length ≤ Y.2.2.1) (k : AW Y 0 (alocs as Y.2.2.1) [] N (Y.2.2.2.2.2.1, Y.2.2.2.2.2.2) h P) : AM Y as N h P := by
  intro D M l
  refine Met.ofW (cc := Y.2.1) (maxL := Y.2.2.1) (ret := Y.2.2.2.1) hy rfl ?_
  intro p e s m args below meth c s₁ B hml hv
  obtain ⟨rfl, hR, hK, hSt⟩ := hv
  have hts := atoms_spec (ws := aWs Y) B.pre
  have hlen : (lg_sl (as.map (vm M))).length = (lg_sl as).length := by
    simp only [lg_sl, List.flatMap_map, vm_cat, List.length_flatMap, List.map_map]
    congr 1
    refine List.map_congr_left fun v _ => ?_
    by_cases q : v.category = 2 <;> simp [q, vm_cat]
  have hl := lv_entry (as.map (vm M)) (n := Y.2.2.1) (by rw [hlen]; exact hsz)
  rw [lg_entry_eq]
  refine k D M p l e _ s m _ below meth c _ ⟨B.exec, B.bytes, hml, findClass_of_methodNamed B.named, fun w hw => hts w (List.mem_cons_of_mem _ hw), hK, hSt, fun q => (name_of_methodNamed B.named B.method).1.trans q, ⟨Nat.le_refl _, Nat.le_refl _⟩, ?_⟩ s.heap [] 0 0 _ hR va_S.rf (by show 0 + _ ≤ _; rw [Nat.zero_add]; exact Nat.le_refl _) (by show 0 + _ ≤ _; rw [Nat.zero_add]; exact Nat.le_refl _) ⟨hl.1, hl.2.1, fun i v hv => hl.2.2 (i, vm M v) (by have := alocs_args M as _ 0 i v hv; rw [Nat.zero_add] at this; exact this)⟩
  intro r ins pc N' h' H locs cells slots lsA hk hP hd hR' hS' hc hs
  refine W.widen (k := Y.2.2.2.2.2.1) (n := Y.2.2.2.2.2.2) hc hs ?_
  have hr := B.returns
  have hq : ∀ t : State, t.heap = H → s.WarmedH t.vm → aQc D M P ((as.map (vm M)).toArray) s (.returned (r.map (vm M))) t := fun t ht hW => ⟨r, N', h', rfl, hP, by rw [ht]; exact hR', by rw [ht]; exact hS'.1, fun q h1 h2 => by rw [ht]; exact hS'.2.1 q h1 h2⟩
  have hlk := B.notSynchronized
  rcases hk with ⟨e1, rfl, rfl⟩ | ⟨v, e1, rfl, rfl⟩ | ⟨v, e1, rfl, rfl, hz⟩ | ⟨v, e1, rfl, rfl⟩ | ⟨t, a, e1, rfl, rfl⟩
  · exact W.vret B.exec B.bytes (hr.trans e1) hq hS'.2.2 hd
  · exact W.iret B.exec B.bytes (hr.trans e1) hq hS'.2.2 hd
  · exact W.zret B.exec B.bytes (hr.trans e1) hz hq hS'.2.2 hd
  · exact W.lret B.exec B.bytes (hr.trans e1) hq hS'.2.2 hd
  · exact W.aret B.exec B.bytes (hr.trans e1) (Or.inl ⟨t, rfl⟩) (Or.inr ⟨aR M a, rfl⟩) hq hS'.2.2 hd
end
section
section AWN
variable {Y : aY} {pc : Nat} {ls : List (Option Value)} {st : List Value} {N : Nat} {u : Nat × Nat} {h : aH} {P : aP}
theorem AW.new {idx ci n : Nat} {C0 : String} {T : u_T} (ty0 : Nat → FieldType) (fs : List Value) (q : Nat) (hd : decode Y.2.1 pc = .ok (.new idx, 3)) (hq : pc + 3 = q) (hcl : Cond.classLink Y.1.cls idx C0 ∈ gT) (hin : Cond.instantiable C0 n ∈ gT) (hini : Cond.initialized C0 ∈ gT) (hc : vwCl[ci]? = some (C0, T, n)) (hty : ∀ k, k < n → parseFieldDescriptor (T k).2.2.1 = some (ty0 k)) (hws : ∀ w ∈ u_ws C0 T n, w ∈ gT) (hfs : ∀ j, j < n → defaultValue (ty0 j) = vp_V fs j) (hv : ∀ M, fs.map (vm M) = fs) (kk : AW Y q ls (.ref N :: st) (N + 1) u (hs h N (.inr (ci, fs))) P) : AW Y pc ls st N (u.1 + 1, u.2 + n) h P := by
  subst hq
  intro D M p l e R s m args below meth c Z C H locs cells slots lsA hR hS h1 h2 hL
  have hts := C.2.2.2.2.1
  have hK := C.2.2.2.2.2.1
  have hKn := hK.1 ci _ hc
  dsimp only at h1 h2
  refine W.newcK C.1 C.2.1 C.2.2.2.1 (hts _ hcl) (hts _ hin) (hts _ hini) rfl hd (by omega) (by omega) hKn.2.1 rfl fun H1 kC hkC e1 z1 o1 => ?_
  have k := kk D M p l e R s m args below meth c Z C H1 locs (cells + 1) (slots + n) lsA (hR.push ⟨_, hc, by rw [hv]; exact (u_born ty0 hts hws hKn hkC e1 hty).to hfs⟩ z1 o1) ⟨Nat.le_trans hS.1 (by omega), fun x q1 q2 => (o1 x (Nat.lt_of_lt_of_le q1 hS.1)).trans (hS.2.1 x q1 q2), hS.2.2⟩ (by omega) (by omega) hL
  rw [List.map_cons, show vm M (.ref N) = .ref H.size from congrArg Value.ref (aR_new hR.1 hR.2.1)] at k
  exact k
theorem AW.newI {i : Int32} (n q : Nat) (hd : decode Y.2.1 pc = .ok (.newarray .int, 2)) (hq : pc + 2 = q) (ha : Cond.arrayClass .int ∈ gT) (hi : ix i n) (hn : n ≤ 10000) (kk : AW Y q ls (.ref N :: st) (N + 1) u (hs h N (.inl (0, (n, .inl (fun _ => 0))))) P) : AW Y pc ls (.int i :: st) N (u.1 + 1, u.2 + n) h P := by
  subst hq
  intro D M p l e R s m args below meth c Z C H locs cells slots lsA hR hS h1 h2 hL
  have hts := C.2.2.2.2.1
  have hK := C.2.2.2.2.2.1
  dsimp only at h1 h2
  have hcb : componentBytes (newarray.typeOf .int) ≤ 8 := by decide
  refine va_newaK C.1 C.2.1 (atype := .int) (hts _ ha) rfl hd rfl hi.1 hi.2 (Nat.le_trans (Nat.mul_le_mul hn hcb) (Nat.le_of_ble_eq_true rfl)) (by omega) (by omega) rfl fun H1 cA e1 z1 o1 hAr hNm => ?_
  have hcA : cA = M.1 0 := Option.some.inj (hNm.symm.trans (hK.2 0 _ rfl).2)
  subst hcA
  have k := kk D M p l e R s m args below meth c Z C H1 locs (cells + 1) (slots + n) lsA (hR.push (by show H1[H.size]? = some (vp_cell _ _); rw [e1]; rfl) z1 o1) ⟨Nat.le_trans hS.1 (by omega), fun x q1 q2 => (o1 x (Nat.lt_of_lt_of_le q1 hS.1)).trans (hS.2.1 x q1 q2), hS.2.2⟩ (by omega) (by omega) hL
  rw [List.map_cons, show vm M (.ref N) = .ref H.size from congrArg Value.ref (aR_new hR.1 hR.2.1)] at k
  exact k
theorem AW.newL {i : Int32} (n q : Nat) (hd : decode Y.2.1 pc = .ok (.newarray .long, 2)) (hq : pc + 2 = q) (ha : Cond.arrayClass .long ∈ gT) (hi : ix i n) (hn : n ≤ 10000) (kk : AW Y q ls (.ref N :: st) (N + 1) u (hs h N (.inl (1, (n, .inr (.inl (fun _ => 0)))))) P) : AW Y pc ls (.int i :: st) N (u.1 + 1, u.2 + n) h P := by
  subst hq
  intro D M p l e R s m args below meth c Z C H locs cells slots lsA hR hS h1 h2 hL
  have hts := C.2.2.2.2.1
  have hK := C.2.2.2.2.2.1
  dsimp only at h1 h2
  have hcb : componentBytes (newarray.typeOf .long) ≤ 8 := by decide
  refine va_newaK C.1 C.2.1 (atype := .long) (hts _ ha) rfl hd rfl hi.1 hi.2 (Nat.le_trans (Nat.mul_le_mul hn hcb) (Nat.le_of_ble_eq_true rfl)) (by omega) (by omega) rfl fun H1 cA e1 z1 o1 hAr hNm => ?_
  have hcA : cA = M.1 1 := Option.some.inj (hNm.symm.trans (hK.2 1 _ rfl).2)
  subst hcA
  have k := kk D M p l e R s m args below meth c Z C H1 locs (cells + 1) (slots + n) lsA (hR.push (by show H1[H.size]? = some (vp_cell _ _); rw [e1]; rfl) z1 o1) ⟨Nat.le_trans hS.1 (by omega), fun x q1 q2 => (o1 x (Nat.lt_of_lt_of_le q1 hS.1)).trans (hS.2.1 x q1 q2), hS.2.2⟩ (by omega) (by omega) hL
  rw [List.map_cons, show vm M (.ref N) = .ref H.size from congrArg Value.ref (aR_new hR.1 hR.2.1)] at k
  exact k
theorem AW.anew {i : Int32} {idx : Nat} {C0 : String} (t n q : Nat) (hd : decode Y.2.1 pc = .ok (.anewarray idx, 3)) (hq : pc + 3 = q) (hcl : Cond.classLink Y.1.cls idx C0 ∈ gT) (ha : C0 = RX3 ∨ C0 = RX6) (ht : ∀ M, (aT M)[t]? = some (M.1 t, .object C0)) (hi : ix i n) (hn : n ≤ 10000) (kk : AW Y q ls (.ref N :: st) (N + 1) u (hs h N (.inl (t, (n, .inr (.inr (.inr (.inr (fun _ => none)))))))) P) : AW Y pc ls (.int i :: st) N (u.1 + 1, u.2 + n) h P := by
  subst hq
  intro D M p l e R s m args below meth c Z C H locs cells slots lsA hR hS h1 h2 hL
  have hts := C.2.2.2.2.1
  have hK := C.2.2.2.2.2.1
  have hov : (Cond.arrayOver (.object C0)).before args s = true := by
    rcases ha with rfl | rfl
    · exact C.2.2.2.2.2.2.1.2.2.2.2.1.use
    · exact C.2.2.2.2.2.2.1.2.2.2.2.2.1.use
  dsimp only at h1 h2
  refine W.anew C.1 C.2.1 C.2.2.2.1 (hts _ hcl) (hov) rfl hd rfl hi.1 (by rw [hi.2]; omega) (by omega) (by rw [hi.2]; omega) fun cA kA comp g1 g2 g3 g4 => ?_
  obtain ⟨kA', comp', w1, w2, w3, w4⟩ := (hK.2 t _ (ht M)).2
  have hcA : cA = M.1 t := Option.some.inj (g1.symm.trans w4)
  subst hcA
  rw [hi.2]
  have k := kk D M p l e R s m args below meth c Z C (H.push { cls := M.1 t, slots := Array.replicate n .null, vm := .none }) locs (cells + 1) (slots + n) lsA (hR.push (by
      show _ = some (vp_cell _ (dm M (n, .inr (.inr (.inr (.inr (fun _ => none)))))))
      rw [show vp_cell (M.1 t) (dm M (n, .inr (.inr (.inr (.inr (fun _ => none)))))) = arrV (M.1 t) n (fun _ => .null) from rfl, ← arrV_new]
      simp) (by simp) (fun x hx => by rw [Array.getElem?_push, if_neg (Nat.ne_of_lt hx)])) ⟨Nat.le_trans hS.1 (by simp), fun x q1 q2 => by
      rw [Array.getElem?_push, if_neg (Nat.ne_of_lt (Nat.lt_of_lt_of_le q1 hS.1))]
      exact hS.2.1 x q1 q2, hS.2.2⟩ (by omega) (by omega) hL
  rw [List.map_cons, show vm M (.ref N) = .ref H.size from congrArg Value.ref (aR_new hR.1 hR.2.1)] at k
  exact k
theorem AW.aastore {a t n b ci : Nat} {f : Nat → Option Nat} {i : Int32} {fs : List Value} {r : vw_C} (q j : Nat) (hd : decode Y.2.1 pc = .ok (.aastore, 1)) (hq : pc + 1 = q) (ha : h a = .inl (t, (n, .inr (.inr (.inr (.inr f)))))) (ht6 : t ≠ 6) (ht : ∀ M, (aT M)[t]? = some (M.1 t, .object r.1)) (hb : h b = .inr (ci, fs)) (hc : vwCl[ci]? = some r) (hi : ix i j) (hj : j < n) (kk : AW Y q ls st N u (hs h a (.inl (t, (n, .inr (.inr (.inr (.inr (va_up f j (some b))))))))) P) : AW Y pc ls (.ref b :: .int i :: .ref a :: st) N u h P := by
  subst hq
  intro D M p l e R s m args below meth c Z C H locs cells slots lsA hR hS h1 h2 hL
  obtain ⟨hN, h3⟩ := hR.lt_a ha
  have h3 := h3 ht6
  have hP := hR.a ha h3 0 _ rfl
  have hK := C.2.2.2.2.2.1
  obtain ⟨r', hr', cellV, g1, g2, g3, -⟩ := hR.o hb hc 0 _ rfl
  have hcls := (hK.1 ci r hc).2
  obtain ⟨kA, comp, k1, k2, k3, -⟩ := (hK.2 t _ (ht M)).2
  have hcomp : comp = D.1 ci := Option.some.inj (k3.symm.trans hcls.1)
  subst hcomp
  obtain ⟨kC, hkC, -⟩ := hcls.2
  refine W.aast C.1 C.2.1 hP (fun q h => by cases h) (fun h => by cases h) k1 k2 rfl hkC ⟨hi.1, by show _ < (arrV _ _ _).slots.size; rw [arrV_size, hi.2]; exact hj⟩ g1 (fun q h => by rw [g3] at h; cases h) (by rw [g2]; exact hkC) (by rw [g2]; exact va_assign hcls) rfl rfl hd fun H1 e1 e2 e3 => ?_
  refine kk D M p l e R s m args below meth c Z C H1 _ cells slots lsA (hR.set h3 hN ?_ e2 e3) (hS.put e2 e3 (aR_base h3)) h1 h2 hL
  show H1[aR M a]? = some (vp_cell _ _)
  rw [e1]
  show some ((vp_cell (M.1 t) (n, .inr (.inr (.inr (.inr (fun i => (f i).map (aR M))))))).setSlot _ _) = some (vp_cell (M.1 t) (n, .inr (.inr (.inr (.inr (fun i => (va_up f j (some b) i).map (aR M)))))))
  rw [vp_cell_q, vp_cell_q, arrV_store]
  congr 2
  funext z
  rw [hi.2]
  by_cases hz : z = j
  · subst hz
    simp [updV, va_up, va_rf]
  · simp [updV, va_up, hz]
theorem outer_eq (c : ClassId) (N h0 : Nat) : ∀ i : Nat, Jvm.Free.Multi.outerC c N h0 i = arrV c N (fun j => va_rf (if j < i then some (h0 + 1 + j) else none))
  | 0 => by
    show ({ cls := c, slots := Array.replicate N .null, vm := .none } : Cell) = _
    rw [arrV_new]
    refine congrArg (arrV c N) (funext fun j => ?_)
    simp [va_rf]
  | i + 1 => by
    show (Jvm.Free.Multi.outerC c N h0 i).setSlot i (.ref (h0 + 1 + i)) = _
    rw [outer_eq c N h0 i, arrV_store]
    refine congrArg (arrV c N) (funext fun j => ?_)
    by_cases e : j = i
    · subst e
      simp [updV, va_rf]
    · by_cases q : j < i
      · simp [updV, e, q, Nat.lt_succ_of_lt q]
      · simp [updV, e, q, show ¬ j < i + 1 by omega]
def hm2 (h : aH) (N n : Nat) (o e : aE) : aH := fun k => if k = N then o else if N < k ∧ k ≤ N + n then e else h k
theorem Rep.push2 {D : va_G} {M : aM} {N n : Nat} {h : aH} {H H1 : Heap} {o e : aE} (R : Rep D M N h H) (ho : va_at D vwCl (H.size, tE M o) H1) (he : ∀ j, j < n → va_at D vwCl (H.size + 1 + j, tE M e) H1) (hz : H1.size = H.size + 1 + n) (hq : ∀ q, q < H.size → H1[q]? = H[q]?) : Rep D M (N + 1 + n) (hm2 h N n o e) H1 := by
  obtain ⟨r1, r2, r3, r4, r5, r6⟩ := R
  refine ⟨by omega, by rw [hz]; omega, r3, fun j hj => ?_, fun j hj => ?_, fun j hj3 hj => ?_⟩
  · unfold hm2; rw [if_neg (by omega), if_neg (by omega)]; exact (r4 j hj).kept (hq _ (by have := aR_lt r3 hj; omega))
  · unfold hm2; rw [if_neg (by omega), if_neg (by omega)]; exact r5 j (by omega)
  · by_cases q : j = N
    · subst q; unfold hm2; rw [if_pos rfl, aR_new r1 r2]; exact ho
    · by_cases q2 : N < j ∧ j ≤ N + n
      · unfold hm2; rw [if_neg q, if_pos q2]
        have ha : aR M j = H.size + 1 + (j - N - 1) := by
          obtain ⟨k, rfl⟩ : ∃ k, j = k + 3 := ⟨j - 3, by omega⟩
          show aB M + k = _
          omega
        rw [ha]
        exact he _ (by omega)
      · unfold hm2; rw [if_neg q, if_neg q2]; exact (r6 j hj3 (by omega)).kept (hq _ (r6 j hj3 (by omega)).lt)
theorem aR_out (M : aM) (N n : Nat) (h3 : 3 ≤ N) {H : Heap} (hz : H.size + 3 = aB M + N) (i : Nat) : (if i < n then some (N + 1 + i) else none : Option Nat).map (aR M) = if i < n then some (H.size + 1 + i) else none := by
  by_cases q : i < n
  · rw [if_pos q, if_pos q]
    obtain ⟨k, hk⟩ : ∃ k, N + 1 + i = k + 3 := ⟨N + 1 + i - 3, by omega⟩
    rw [hk]
    show some (aB M + k) = _
    congr 1
    omega
  · rw [if_neg q, if_neg q]; rfl
theorem AW.mnaI {i i2 : Int32} {idx : Nat} (n k q : Nat) (hd : decode Y.2.1 pc = .ok (.multianewarray idx 2, 4)) (hq : pc + 4 = q) (hcl : Cond.classLink Y.1.cls idx ("[" ++ (FieldType.array .int).toString) ∈ gT) (hac : Cond.arrayClass .int ∈ gT) (hi : ix i n) (hi2 : ix i2 k) (hn : n ≤ 1000) (hk : k ≤ 1000) (kk : AW Y q ls (.ref N :: st) (N + 1 + n) u (hm2 h N n (.inl (2, (n, .inr (.inr (.inr (.inr (fun i => if i < n then some (N + 1 + i) else none))))))) (.inl (0, (k, .inl (fun _ => 0))))) P) : AW Y pc ls (.int i2 :: .int i :: st) N (u.1 + 1 + n, u.2 + n + n * k) h P := by
  subst hq
  intro D M p l e R s m args below meth c Z C H locs cells slots lsA hR hS h1 h2 hL
  have hts := C.2.2.2.2.1
  have hK := C.2.2.2.2.2.1
  dsimp only at h1 h2
  intro T hT X
  have hb := C.2.1
  have hcb : componentBytes .int ≤ 8 := by decide
  obtain ⟨vm₁, cA, comp, -, fA, fC, hO, hI, X', step⟩ := X.multianewarray2F C.1 C.2.2.2.1 (hts _ hcl) (over_moved (Vm.Alike.refl s.vm) C.2.2.2.2.2.2.1.2.2.2.2.2.2.1) (hts _ hac) (g := F0 m pc lsA _) rfl (by rw [hb]; exact hd) rfl hi.1 hi2.1 (by rw [hi.2]; omega) (by rw [hi2.2]; exact Nat.le_trans (Nat.mul_le_mul hk hcb) (Nat.le_of_ble_eq_true rfl)) (by rw [hi2.2]; omega) (by decide) (by decide) (by rw [hi.2]; omega) (by rw [hi.2, hi2.2]; omega)
  rw [hi.2, hi2.2] at X' step
  have hcA : cA = M.1 2 := Option.some.inj (fA.symm.trans (hK.2 2 _ rfl).2)
  have hcC : comp = M.1 0 := Option.some.inj (fC.symm.trans (hK.2 0 _ rfl).2)
  subst hcA
  subst hcC
  have hTs : (T.setVm vm₁).heap = H := hT
  obtain ⟨g1, g2, -⟩ := Jvm.Free.Multi.fill_facts (T.setVm vm₁) (M.1 2) (M.1 0) n k (defaultValue .int) n
  rw [hTs] at g1 g2
  have g4 := fun (x : Nat) (hx : x < H.size) => Jvm.Free.Multi.fill_old (T.setVm vm₁) (M.1 2) (M.1 0) n k (defaultValue .int) (a := x) (by rw [hTs]; exact hx) n
  rw [hTs] at g4
  have g3 := fun (j : Nat) (hj : j < n) => Jvm.Free.Multi.fill_inner (T.setVm vm₁) (M.1 2) (M.1 0) n k (defaultValue .int) n j hj
  rw [hTs] at g3
  have hR' := hR.push2 (n := n) (o := .inl (2, (n, .inr (.inr (.inr (.inr (fun i => if i < n then some (N + 1 + i) else none))))))) (e := .inl (0, (k, .inl (fun _ => 0)))) (by
      show _ = some (vp_cell _ (n, .inr (.inr (.inr (.inr (fun i => ((if i < n then some (N + 1 + i) else none : Option Nat)).map (aR M)))))))
      rw [g2, outer_eq, vp_cell_q]
      congr 2
      funext z
      rw [aR_out M N n hR.1 hR.2.1 z]) (fun j hj => by
      show _ = some (vp_cell _ (k, .inl (fun _ => 0)))
      rw [g3 j hj]
      exact congrArg some (by rw [vp_cell_i, ← arrV_new]; rfl)) g1 g4
  obtain ⟨t, a1, b1⟩ := kk D M p l e R s m args below meth c Z C _ locs (cells + 1 + n) (slots + n + n * k) lsA hR' ⟨Nat.le_trans hS.1 (by rw [g1]; omega), fun x q1 q2 => (g4 x (Nat.lt_of_lt_of_le q1 hS.1)).trans (hS.2.1 x q1 q2), hS.2.2⟩ (by omega) (by omega) hL _ rfl X'
  rw [List.map_cons, show vm M (.ref N) = .ref H.size from congrArg Value.ref (aR_new hR.1 hR.2.1)] at a1
  refine ⟨t, step t ?_, b1⟩
  rw [hT]
  exact a1
theorem AW.mnaL {i i2 : Int32} {idx : Nat} (n k q : Nat) (hd : decode Y.2.1 pc = .ok (.multianewarray idx 2, 4)) (hq : pc + 4 = q) (hcl : Cond.classLink Y.1.cls idx ("[" ++ (FieldType.array .long).toString) ∈ gT) (hac : Cond.arrayClass .long ∈ gT) (hi : ix i n) (hi2 : ix i2 k) (hn : n ≤ 1000) (hk : k ≤ 1000) (kk : AW Y q ls (.ref N :: st) (N + 1 + n) u (hm2 h N n (.inl (3, (n, .inr (.inr (.inr (.inr (fun i => if i < n then some (N + 1 + i) else none))))))) (.inl (1, (k, .inr (.inl (fun _ => 0)))))) P) : AW Y pc ls (.int i2 :: .int i :: st) N (u.1 + 1 + n, u.2 + n + n * k) h P := by
  subst hq
  intro D M p l e R s m args below meth c Z C H locs cells slots lsA hR hS h1 h2 hL
  have hts := C.2.2.2.2.1
  have hK := C.2.2.2.2.2.1
  dsimp only at h1 h2
  intro T hT X
  have hb := C.2.1
  have hcb : componentBytes .long ≤ 8 := by decide
  obtain ⟨vm₁, cA, comp, -, fA, fC, hO, hI, X', step⟩ := X.multianewarray2F C.1 C.2.2.2.1 (hts _ hcl) (over_moved (Vm.Alike.refl s.vm) C.2.2.2.2.2.2.1.2.2.2.2.2.2.2) (hts _ hac) (g := F0 m pc lsA _) rfl (by rw [hb]; exact hd) rfl hi.1 hi2.1 (by rw [hi.2]; omega) (by rw [hi2.2]; exact Nat.le_trans (Nat.mul_le_mul hk hcb) (Nat.le_of_ble_eq_true rfl)) (by rw [hi2.2]; omega) (by decide) (by decide) (by rw [hi.2]; omega) (by rw [hi.2, hi2.2]; omega)
  rw [hi.2, hi2.2] at X' step
  have hcA : cA = M.1 3 := Option.some.inj (fA.symm.trans (hK.2 3 _ rfl).2)
  have hcC : comp = M.1 1 := Option.some.inj (fC.symm.trans (hK.2 1 _ rfl).2)
  subst hcA
  subst hcC
  have hTs : (T.setVm vm₁).heap = H := hT
  obtain ⟨g1, g2, -⟩ := Jvm.Free.Multi.fill_facts (T.setVm vm₁) (M.1 3) (M.1 1) n k (defaultValue .long) n
  rw [hTs] at g1 g2
  have g4 := fun (x : Nat) (hx : x < H.size) => Jvm.Free.Multi.fill_old (T.setVm vm₁) (M.1 3) (M.1 1) n k (defaultValue .long) (a := x) (by rw [hTs]; exact hx) n
  rw [hTs] at g4
  have g3 := fun (j : Nat) (hj : j < n) => Jvm.Free.Multi.fill_inner (T.setVm vm₁) (M.1 3) (M.1 1) n k (defaultValue .long) n j hj
  rw [hTs] at g3
  have hR' := hR.push2 (n := n) (o := .inl (3, (n, .inr (.inr (.inr (.inr (fun i => if i < n then some (N + 1 + i) else none))))))) (e := .inl (1, (k, .inr (.inl (fun _ => 0))))) (by
      show _ = some (vp_cell _ (n, .inr (.inr (.inr (.inr (fun i => ((if i < n then some (N + 1 + i) else none : Option Nat)).map (aR M)))))))
      rw [g2, outer_eq, vp_cell_q]
      congr 2
      funext z
      rw [aR_out M N n hR.1 hR.2.1 z]) (fun j hj => by
      show _ = some (vp_cell _ (k, .inr (.inl (fun _ => 0))))
      rw [g3 j hj]
      exact congrArg some (by rw [vp_cell_l, ← arrV_new]; rfl)) g1 g4
  obtain ⟨t, a1, b1⟩ := kk D M p l e R s m args below meth c Z C _ locs (cells + 1 + n) (slots + n + n * k) lsA hR' ⟨Nat.le_trans hS.1 (by rw [g1]; omega), fun x q1 q2 => (g4 x (Nat.lt_of_lt_of_le q1 hS.1)).trans (hS.2.1 x q1 q2), hS.2.2⟩ (by omega) (by omega) hL _ rfl X'
  rw [List.map_cons, show vm M (.ref N) = .ref H.size from congrArg Value.ref (aR_new hR.1 hR.2.1)] at a1
  refine ⟨t, step t ?_, b1⟩
  rw [hT]
  exact a1
end AWN
end
