-- ===== PART A: goes FIRST, ahead of the names: the tables' words, and 'selects' of the private methods out of them =====
/-- a private method of a class that the tables say can be made, by its rows of tables_1 -/
def lw_okq (q : MethodName × Nat) : Prop := (q.1.cls ≠ "java/lang/invoke/MethodHandle" ∧ q.1.cls ≠ "java/lang/invoke/VarHandle") ∧ Cond.instantiable q.1.cls q.2 ∈ tables_1 ∧ Cond.privateMethod q.1 ∈ tables_1 ∧ Cond.instanceMethod q.1 ∈ tables_1
theorem lw_p0 : lw_okq (⟨"QuietByYard$Floor", "neighbour", "(II)I"⟩, 7) := ⟨⟨by decide +kernel, by decide +kernel⟩, List.mem_of_getElem? (i := 200) (by decide +kernel), List.mem_of_getElem? (i := 214) (by decide +kernel), List.mem_of_getElem? (i := 215) (by decide +kernel)⟩
theorem lw_p1 : lw_okq (⟨"QuietByYard$Text", "step", "()V"⟩, 7) := ⟨⟨by decide +kernel, by decide +kernel⟩, List.mem_of_getElem? (i := 23) (by decide +kernel), List.mem_of_getElem? (i := 357) (by decide +kernel), List.mem_of_getElem? (i := 358) (by decide +kernel)⟩
theorem lw_p2 : lw_okq (⟨"QuietByYard$Text", "stepNumber", "()V"⟩, 7) := ⟨⟨by decide +kernel, by decide +kernel⟩, List.mem_of_getElem? (i := 23) (by decide +kernel), List.mem_of_getElem? (i := 364) (by decide +kernel), List.mem_of_getElem? (i := 365) (by decide +kernel)⟩
theorem lw_p3 : lw_okq (⟨"QuietByYard$Text", "mayBegin", "(LQuietByYard$House;I)Z"⟩, 7) := ⟨⟨by decide +kernel, by decide +kernel⟩, List.mem_of_getElem? (i := 23) (by decide +kernel), List.mem_of_getElem? (i := 369) (by decide +kernel), List.mem_of_getElem? (i := 370) (by decide +kernel)⟩
theorem lw_p4 : lw_okq (⟨"QuietByYard$Text", "tellItem", "(LQuietByYard$House;)Z"⟩, 7) := ⟨⟨by decide +kernel, by decide +kernel⟩, List.mem_of_getElem? (i := 23) (by decide +kernel), List.mem_of_getElem? (i := 377) (by decide +kernel), List.mem_of_getElem? (i := 378) (by decide +kernel)⟩
theorem lw_p5 : lw_okq (⟨"QuietByYard$Text", "least", "(II)I"⟩, 7) := ⟨⟨by decide +kernel, by decide +kernel⟩, List.mem_of_getElem? (i := 23) (by decide +kernel), List.mem_of_getElem? (i := 384) (by decide +kernel), List.mem_of_getElem? (i := 385) (by decide +kernel)⟩
theorem lw_p6 : lw_okq (⟨"QuietByYard$Text", "enter", "(LQuietByYard$House;I)V"⟩, 7) := ⟨⟨by decide +kernel, by decide +kernel⟩, List.mem_of_getElem? (i := 23) (by decide +kernel), List.mem_of_getElem? (i := 391) (by decide +kernel), List.mem_of_getElem? (i := 392) (by decide +kernel)⟩
theorem lw_p7 : lw_okq (⟨"QuietByYard", "startAnew", "()V"⟩, 15) := ⟨⟨by decide +kernel, by decide +kernel⟩, List.mem_of_getElem? (i := 15) (by decide +kernel), List.mem_of_getElem? (i := 424) (by decide +kernel), List.mem_of_getElem? (i := 425) (by decide +kernel)⟩
theorem lw_p8 : lw_okq (⟨"QuietByYard$Floor", "spreadOut", "(II)V"⟩, 7) := ⟨⟨by decide +kernel, by decide +kernel⟩, List.mem_of_getElem? (i := 200) (by decide +kernel), List.mem_of_getElem? (i := 483) (by decide +kernel), List.mem_of_getElem? (i := 484) (by decide +kernel)⟩
theorem lw_p9 : lw_okq (⟨"QuietByYard$Floor", "weighSteps", "()V"⟩, 7) := ⟨⟨by decide +kernel, by decide +kernel⟩, List.mem_of_getElem? (i := 200) (by decide +kernel), List.mem_of_getElem? (i := 488) (by decide +kernel), List.mem_of_getElem? (i := 489) (by decide +kernel)⟩
theorem lw_p10 : lw_okq (⟨"QuietByYard$Floor", "taken", "(II)I"⟩, 7) := ⟨⟨by decide +kernel, by decide +kernel⟩, List.mem_of_getElem? (i := 200) (by decide +kernel), List.mem_of_getElem? (i := 492) (by decide +kernel), List.mem_of_getElem? (i := 493) (by decide +kernel)⟩
theorem lw_p11 : lw_okq (⟨"QuietByYard$Floor", "sound", "(I)V"⟩, 7) := ⟨⟨by decide +kernel, by decide +kernel⟩, List.mem_of_getElem? (i := 200) (by decide +kernel), List.mem_of_getElem? (i := 515) (by decide +kernel), List.mem_of_getElem? (i := 516) (by decide +kernel)⟩
theorem lw_p12 : lw_okq (⟨"QuietByYard$Floor", "passOn", "(III)Z"⟩, 7) := ⟨⟨by decide +kernel, by decide +kernel⟩, List.mem_of_getElem? (i := 200) (by decide +kernel), List.mem_of_getElem? (i := 519) (by decide +kernel), List.mem_of_getElem? (i := 520) (by decide +kernel)⟩
theorem lw_p13 : lw_okq (⟨"QuietByYard$Shelf", "hasPlace", "(I)Z"⟩, 2) := ⟨⟨by decide +kernel, by decide +kernel⟩, List.mem_of_getElem? (i := 172) (by decide +kernel), List.mem_of_getElem? (i := 555) (by decide +kernel), List.mem_of_getElem? (i := 556) (by decide +kernel)⟩
theorem lw_p14 : lw_okq (⟨"QuietByYard", "passHour", "(LQuietByYard$Moment;)V"⟩, 15) := ⟨⟨by decide +kernel, by decide +kernel⟩, List.mem_of_getElem? (i := 15) (by decide +kernel), List.mem_of_getElem? (i := 588) (by decide +kernel), List.mem_of_getElem? (i := 589) (by decide +kernel)⟩
theorem lw_p15 : lw_okq (⟨"QuietByYard", "firstThrough", "()I"⟩, 15) := ⟨⟨by decide +kernel, by decide +kernel⟩, List.mem_of_getElem? (i := 15) (by decide +kernel), List.mem_of_getElem? (i := 637) (by decide +kernel), List.mem_of_getElem? (i := 638) (by decide +kernel)⟩
def lw_privs_1 : List (MethodName × Nat) := [(⟨"QuietByYard$Floor", "neighbour", "(II)I"⟩, 7), (⟨"QuietByYard$Text", "step", "()V"⟩, 7), (⟨"QuietByYard$Text", "stepNumber", "()V"⟩, 7), (⟨"QuietByYard$Text", "mayBegin", "(LQuietByYard$House;I)Z"⟩, 7), (⟨"QuietByYard$Text", "tellItem", "(LQuietByYard$House;)Z"⟩, 7), (⟨"QuietByYard$Text", "least", "(II)I"⟩, 7), (⟨"QuietByYard$Text", "enter", "(LQuietByYard$House;I)V"⟩, 7), (⟨"QuietByYard", "startAnew", "()V"⟩, 15), (⟨"QuietByYard$Floor", "spreadOut", "(II)V"⟩, 7), (⟨"QuietByYard$Floor", "weighSteps", "()V"⟩, 7), (⟨"QuietByYard$Floor", "taken", "(II)I"⟩, 7), (⟨"QuietByYard$Floor", "sound", "(I)V"⟩, 7), (⟨"QuietByYard$Floor", "passOn", "(III)Z"⟩, 7), (⟨"QuietByYard$Shelf", "hasPlace", "(I)Z"⟩, 2), (⟨"QuietByYard", "passHour", "(LQuietByYard$Moment;)V"⟩, 15), (⟨"QuietByYard", "firstThrough", "()I"⟩, 15)]
theorem lw_r1 : ∀ q ∈ lw_privs_1, lw_okq q := List.forall_mem_cons.mpr ⟨lw_p0, List.forall_mem_cons.mpr ⟨lw_p1, List.forall_mem_cons.mpr ⟨lw_p2, List.forall_mem_cons.mpr ⟨lw_p3, List.forall_mem_cons.mpr ⟨lw_p4, List.forall_mem_cons.mpr ⟨lw_p5, List.forall_mem_cons.mpr ⟨lw_p6, List.forall_mem_cons.mpr ⟨lw_p7, List.forall_mem_cons.mpr ⟨lw_p8, List.forall_mem_cons.mpr ⟨lw_p9, List.forall_mem_cons.mpr ⟨lw_p10, List.forall_mem_cons.mpr ⟨lw_p11, List.forall_mem_cons.mpr ⟨lw_p12, List.forall_mem_cons.mpr ⟨lw_p13, List.forall_mem_cons.mpr ⟨lw_p14, List.forall_mem_cons.mpr ⟨lw_p15, fun _ h => absurd h List.not_mem_nil⟩⟩⟩⟩⟩⟩⟩⟩⟩⟩⟩⟩⟩⟩⟩⟩
theorem lw_p16 : lw_okq (⟨"QuietByYard", "wholeBits", "()I"⟩, 15) := ⟨⟨by decide +kernel, by decide +kernel⟩, List.mem_of_getElem? (i := 15) (by decide +kernel), List.mem_of_getElem? (i := 645) (by decide +kernel), List.mem_of_getElem? (i := 646) (by decide +kernel)⟩
theorem lw_p17 : lw_okq (⟨"QuietByYard$Buyer", "tryLaying", "(IILQuietByYard$Moment;)Z"⟩, 4) := ⟨⟨by decide +kernel, by decide +kernel⟩, List.mem_of_getElem? (i := 254) (by decide +kernel), List.mem_of_getElem? (i := 663) (by decide +kernel), List.mem_of_getElem? (i := 664) (by decide +kernel)⟩
theorem lw_p18 : lw_okq (⟨"QuietByYard$Buyer", "rankOf", "(I)I"⟩, 4) := ⟨⟨by decide +kernel, by decide +kernel⟩, List.mem_of_getElem? (i := 254) (by decide +kernel), List.mem_of_getElem? (i := 667) (by decide +kernel), List.mem_of_getElem? (i := 668) (by decide +kernel)⟩
theorem lw_p19 : lw_okq (⟨"QuietByYard", "strengthsAt", "(I)I"⟩, 15) := ⟨⟨by decide +kernel, by decide +kernel⟩, List.mem_of_getElem? (i := 15) (by decide +kernel), List.mem_of_getElem? (i := 718) (by decide +kernel), List.mem_of_getElem? (i := 719) (by decide +kernel)⟩
theorem lw_p20 : lw_okq (⟨"QuietByYard", "walkOn", "(II)V"⟩, 15) := ⟨⟨by decide +kernel, by decide +kernel⟩, List.mem_of_getElem? (i := 15) (by decide +kernel), List.mem_of_getElem? (i := 745) (by decide +kernel), List.mem_of_getElem? (i := 746) (by decide +kernel)⟩
theorem lw_p21 : lw_okq (⟨"QuietByYard", "tapsAgreeWithSham", "(I)Z"⟩, 15) := ⟨⟨by decide +kernel, by decide +kernel⟩, List.mem_of_getElem? (i := 15) (by decide +kernel), List.mem_of_getElem? (i := 761) (by decide +kernel), List.mem_of_getElem? (i := 762) (by decide +kernel)⟩
theorem lw_p22 : lw_okq (⟨"QuietByYard", "asSheet", "(I)I"⟩, 15) := ⟨⟨by decide +kernel, by decide +kernel⟩, List.mem_of_getElem? (i := 15) (by decide +kernel), List.mem_of_getElem? (i := 781) (by decide +kernel), List.mem_of_getElem? (i := 782) (by decide +kernel)⟩
theorem lw_p23 : lw_okq (⟨"QuietByYard", "asChurch", "(I)I"⟩, 15) := ⟨⟨by decide +kernel, by decide +kernel⟩, List.mem_of_getElem? (i := 15) (by decide +kernel), List.mem_of_getElem? (i := 785) (by decide +kernel), List.mem_of_getElem? (i := 786) (by decide +kernel)⟩
theorem lw_p24 : lw_okq (⟨"QuietByYard", "asSnow", "(I)I"⟩, 15) := ⟨⟨by decide +kernel, by decide +kernel⟩, List.mem_of_getElem? (i := 15) (by decide +kernel), List.mem_of_getElem? (i := 790) (by decide +kernel), List.mem_of_getElem? (i := 791) (by decide +kernel)⟩
theorem lw_p25 : lw_okq (⟨"QuietByYard", "asCrypt", "(I)I"⟩, 15) := ⟨⟨by decide +kernel, by decide +kernel⟩, List.mem_of_getElem? (i := 15) (by decide +kernel), List.mem_of_getElem? (i := 795) (by decide +kernel), List.mem_of_getElem? (i := 796) (by decide +kernel)⟩
theorem lw_p26 : lw_okq (⟨"QuietByYard", "asSlush", "(I)I"⟩, 15) := ⟨⟨by decide +kernel, by decide +kernel⟩, List.mem_of_getElem? (i := 15) (by decide +kernel), List.mem_of_getElem? (i := 800) (by decide +kernel), List.mem_of_getElem? (i := 801) (by decide +kernel)⟩
theorem lw_p27 : lw_okq (⟨"QuietByYard", "asBell", "(I)I"⟩, 15) := ⟨⟨by decide +kernel, by decide +kernel⟩, List.mem_of_getElem? (i := 15) (by decide +kernel), List.mem_of_getElem? (i := 805) (by decide +kernel), List.mem_of_getElem? (i := 806) (by decide +kernel)⟩
theorem lw_p28 : lw_okq (⟨"QuietByYardModel", "bare", "()V"⟩, 43) := ⟨⟨by decide +kernel, by decide +kernel⟩, List.mem_of_getElem? (i := 828) (by decide +kernel), List.mem_of_getElem? (i := 834) (by decide +kernel), List.mem_of_getElem? (i := 835) (by decide +kernel)⟩
theorem lw_p29 : lw_okq (⟨"QuietByYardModel", "next", "()V"⟩, 43) := ⟨⟨by decide +kernel, by decide +kernel⟩, List.mem_of_getElem? (i := 828) (by decide +kernel), List.mem_of_getElem? (i := 983) (by decide +kernel), List.mem_of_getElem? (i := 984) (by decide +kernel)⟩
theorem lw_p30 : lw_okq (⟨"QuietByYardModel", "letterAt", "(I)I"⟩, 43) := ⟨⟨by decide +kernel, by decide +kernel⟩, List.mem_of_getElem? (i := 828) (by decide +kernel), List.mem_of_getElem? (i := 987) (by decide +kernel), List.mem_of_getElem? (i := 988) (by decide +kernel)⟩
theorem lw_p31 : lw_okq (⟨"QuietByYardModel", "readItem", "(Z)V"⟩, 43) := ⟨⟨by decide +kernel, by decide +kernel⟩, List.mem_of_getElem? (i := 828) (by decide +kernel), List.mem_of_getElem? (i := 991) (by decide +kernel), List.mem_of_getElem? (i := 992) (by decide +kernel)⟩
def lw_privs_2 : List (MethodName × Nat) := [(⟨"QuietByYard", "wholeBits", "()I"⟩, 15), (⟨"QuietByYard$Buyer", "tryLaying", "(IILQuietByYard$Moment;)Z"⟩, 4), (⟨"QuietByYard$Buyer", "rankOf", "(I)I"⟩, 4), (⟨"QuietByYard", "strengthsAt", "(I)I"⟩, 15), (⟨"QuietByYard", "walkOn", "(II)V"⟩, 15), (⟨"QuietByYard", "tapsAgreeWithSham", "(I)Z"⟩, 15), (⟨"QuietByYard", "asSheet", "(I)I"⟩, 15), (⟨"QuietByYard", "asChurch", "(I)I"⟩, 15), (⟨"QuietByYard", "asSnow", "(I)I"⟩, 15), (⟨"QuietByYard", "asCrypt", "(I)I"⟩, 15), (⟨"QuietByYard", "asSlush", "(I)I"⟩, 15), (⟨"QuietByYard", "asBell", "(I)I"⟩, 15), (⟨"QuietByYardModel", "bare", "()V"⟩, 43), (⟨"QuietByYardModel", "next", "()V"⟩, 43), (⟨"QuietByYardModel", "letterAt", "(I)I"⟩, 43), (⟨"QuietByYardModel", "readItem", "(Z)V"⟩, 43)]
theorem lw_r2 : ∀ q ∈ lw_privs_2, lw_okq q := List.forall_mem_cons.mpr ⟨lw_p16, List.forall_mem_cons.mpr ⟨lw_p17, List.forall_mem_cons.mpr ⟨lw_p18, List.forall_mem_cons.mpr ⟨lw_p19, List.forall_mem_cons.mpr ⟨lw_p20, List.forall_mem_cons.mpr ⟨lw_p21, List.forall_mem_cons.mpr ⟨lw_p22, List.forall_mem_cons.mpr ⟨lw_p23, List.forall_mem_cons.mpr ⟨lw_p24, List.forall_mem_cons.mpr ⟨lw_p25, List.forall_mem_cons.mpr ⟨lw_p26, List.forall_mem_cons.mpr ⟨lw_p27, List.forall_mem_cons.mpr ⟨lw_p28, List.forall_mem_cons.mpr ⟨lw_p29, List.forall_mem_cons.mpr ⟨lw_p30, List.forall_mem_cons.mpr ⟨lw_p31, fun _ h => absurd h List.not_mem_nil⟩⟩⟩⟩⟩⟩⟩⟩⟩⟩⟩⟩⟩⟩⟩⟩
theorem lw_p32 : lw_okq (⟨"QuietByYardModel", "readYard", "(Z)V"⟩, 43) := ⟨⟨by decide +kernel, by decide +kernel⟩, List.mem_of_getElem? (i := 828) (by decide +kernel), List.mem_of_getElem? (i := 995) (by decide +kernel), List.mem_of_getElem? (i := 996) (by decide +kernel)⟩
theorem lw_p33 : lw_okq (⟨"QuietByYardModel", "must", "(Z)V"⟩, 43) := ⟨⟨by decide +kernel, by decide +kernel⟩, List.mem_of_getElem? (i := 828) (by decide +kernel), List.mem_of_getElem? (i := 999) (by decide +kernel), List.mem_of_getElem? (i := 1000) (by decide +kernel)⟩
theorem lw_p34 : lw_okq (⟨"QuietByYardModel", "readInto", "([IIII)I"⟩, 43) := ⟨⟨by decide +kernel, by decide +kernel⟩, List.mem_of_getElem? (i := 828) (by decide +kernel), List.mem_of_getElem? (i := 1003) (by decide +kernel), List.mem_of_getElem? (i := 1004) (by decide +kernel)⟩
theorem lw_p35 : lw_okq (⟨"QuietByYardModel", "readFall", "()V"⟩, 43) := ⟨⟨by decide +kernel, by decide +kernel⟩, List.mem_of_getElem? (i := 828) (by decide +kernel), List.mem_of_getElem? (i := 1007) (by decide +kernel), List.mem_of_getElem? (i := 1008) (by decide +kernel)⟩
theorem lw_p36 : lw_okq (⟨"QuietByYardModel", "readNoise", "()V"⟩, 43) := ⟨⟨by decide +kernel, by decide +kernel⟩, List.mem_of_getElem? (i := 828) (by decide +kernel), List.mem_of_getElem? (i := 1011) (by decide +kernel), List.mem_of_getElem? (i := 1012) (by decide +kernel)⟩
theorem lw_p37 : lw_okq (⟨"QuietByYardModel", "cells", "()I"⟩, 43) := ⟨⟨by decide +kernel, by decide +kernel⟩, List.mem_of_getElem? (i := 828) (by decide +kernel), List.mem_of_getElem? (i := 1015) (by decide +kernel), List.mem_of_getElem? (i := 1016) (by decide +kernel)⟩
theorem lw_p38 : lw_okq (⟨"QuietByYardModel", "readSheet", "()V"⟩, 43) := ⟨⟨by decide +kernel, by decide +kernel⟩, List.mem_of_getElem? (i := 828) (by decide +kernel), List.mem_of_getElem? (i := 1019) (by decide +kernel), List.mem_of_getElem? (i := 1020) (by decide +kernel)⟩
theorem lw_p39 : lw_okq (⟨"QuietByYardModel", "readRoom", "()V"⟩, 43) := ⟨⟨by decide +kernel, by decide +kernel⟩, List.mem_of_getElem? (i := 828) (by decide +kernel), List.mem_of_getElem? (i := 1023) (by decide +kernel), List.mem_of_getElem? (i := 1024) (by decide +kernel)⟩
theorem lw_p40 : lw_okq (⟨"QuietByYardModel", "isSheet", "(I)Z"⟩, 43) := ⟨⟨by decide +kernel, by decide +kernel⟩, List.mem_of_getElem? (i := 828) (by decide +kernel), List.mem_of_getElem? (i := 1035) (by decide +kernel), List.mem_of_getElem? (i := 1036) (by decide +kernel)⟩
theorem lw_p41 : lw_okq (⟨"QuietByYardModel", "thickNow", "(II)I"⟩, 43) := ⟨⟨by decide +kernel, by decide +kernel⟩, List.mem_of_getElem? (i := 828) (by decide +kernel), List.mem_of_getElem? (i := 1039) (by decide +kernel), List.mem_of_getElem? (i := 1040) (by decide +kernel)⟩
theorem lw_p42 : lw_okq (⟨"QuietByYardModel", "isCell", "(I)Z"⟩, 43) := ⟨⟨by decide +kernel, by decide +kernel⟩, List.mem_of_getElem? (i := 828) (by decide +kernel), List.mem_of_getElem? (i := 1051) (by decide +kernel), List.mem_of_getElem? (i := 1052) (by decide +kernel)⟩
theorem lw_p43 : lw_okq (⟨"QuietByYardModel", "asNow", "()V"⟩, 43) := ⟨⟨by decide +kernel, by decide +kernel⟩, List.mem_of_getElem? (i := 828) (by decide +kernel), List.mem_of_getElem? (i := 1055) (by decide +kernel), List.mem_of_getElem? (i := 1056) (by decide +kernel)⟩
theorem lw_p44 : lw_okq (⟨"QuietByYardModel", "layCells", "()V"⟩, 43) := ⟨⟨by decide +kernel, by decide +kernel⟩, List.mem_of_getElem? (i := 828) (by decide +kernel), List.mem_of_getElem? (i := 1059) (by decide +kernel), List.mem_of_getElem? (i := 1060) (by decide +kernel)⟩
theorem lw_p45 : lw_okq (⟨"QuietByYardModel", "loudAt", "(II)I"⟩, 43) := ⟨⟨by decide +kernel, by decide +kernel⟩, List.mem_of_getElem? (i := 828) (by decide +kernel), List.mem_of_getElem? (i := 1067) (by decide +kernel), List.mem_of_getElem? (i := 1068) (by decide +kernel)⟩
theorem lw_p46 : lw_okq (⟨"QuietByYardModel", "sounds", "(II)Z"⟩, 43) := ⟨⟨by decide +kernel, by decide +kernel⟩, List.mem_of_getElem? (i := 828) (by decide +kernel), List.mem_of_getElem? (i := 1071) (by decide +kernel), List.mem_of_getElem? (i := 1072) (by decide +kernel)⟩
theorem lw_p47 : lw_okq (⟨"QuietByYardModel", "spreads", "(I)V"⟩, 43) := ⟨⟨by decide +kernel, by decide +kernel⟩, List.mem_of_getElem? (i := 828) (by decide +kernel), List.mem_of_getElem? (i := 1075) (by decide +kernel), List.mem_of_getElem? (i := 1076) (by decide +kernel)⟩
def lw_privs_3 : List (MethodName × Nat) := [(⟨"QuietByYardModel", "readYard", "(Z)V"⟩, 43), (⟨"QuietByYardModel", "must", "(Z)V"⟩, 43), (⟨"QuietByYardModel", "readInto", "([IIII)I"⟩, 43), (⟨"QuietByYardModel", "readFall", "()V"⟩, 43), (⟨"QuietByYardModel", "readNoise", "()V"⟩, 43), (⟨"QuietByYardModel", "cells", "()I"⟩, 43), (⟨"QuietByYardModel", "readSheet", "()V"⟩, 43), (⟨"QuietByYardModel", "readRoom", "()V"⟩, 43), (⟨"QuietByYardModel", "isSheet", "(I)Z"⟩, 43), (⟨"QuietByYardModel", "thickNow", "(II)I"⟩, 43), (⟨"QuietByYardModel", "isCell", "(I)Z"⟩, 43), (⟨"QuietByYardModel", "asNow", "()V"⟩, 43), (⟨"QuietByYardModel", "layCells", "()V"⟩, 43), (⟨"QuietByYardModel", "loudAt", "(II)I"⟩, 43), (⟨"QuietByYardModel", "sounds", "(II)Z"⟩, 43), (⟨"QuietByYardModel", "spreads", "(I)V"⟩, 43)]
theorem lw_r3 : ∀ q ∈ lw_privs_3, lw_okq q := List.forall_mem_cons.mpr ⟨lw_p32, List.forall_mem_cons.mpr ⟨lw_p33, List.forall_mem_cons.mpr ⟨lw_p34, List.forall_mem_cons.mpr ⟨lw_p35, List.forall_mem_cons.mpr ⟨lw_p36, List.forall_mem_cons.mpr ⟨lw_p37, List.forall_mem_cons.mpr ⟨lw_p38, List.forall_mem_cons.mpr ⟨lw_p39, List.forall_mem_cons.mpr ⟨lw_p40, List.forall_mem_cons.mpr ⟨lw_p41, List.forall_mem_cons.mpr ⟨lw_p42, List.forall_mem_cons.mpr ⟨lw_p43, List.forall_mem_cons.mpr ⟨lw_p44, List.forall_mem_cons.mpr ⟨lw_p45, List.forall_mem_cons.mpr ⟨lw_p46, List.forall_mem_cons.mpr ⟨lw_p47, fun _ h => absurd h List.not_mem_nil⟩⟩⟩⟩⟩⟩⟩⟩⟩⟩⟩⟩⟩⟩⟩⟩
theorem lw_p48 : lw_okq (⟨"QuietByYardModel", "isNext", "(II)Z"⟩, 43) := ⟨⟨by decide +kernel, by decide +kernel⟩, List.mem_of_getElem? (i := 828) (by decide +kernel), List.mem_of_getElem? (i := 1079) (by decide +kernel), List.mem_of_getElem? (i := 1080) (by decide +kernel)⟩
theorem lw_p49 : lw_okq (⟨"QuietByYardModel", "takes", "(II)I"⟩, 43) := ⟨⟨by decide +kernel, by decide +kernel⟩, List.mem_of_getElem? (i := 828) (by decide +kernel), List.mem_of_getElem? (i := 1083) (by decide +kernel), List.mem_of_getElem? (i := 1084) (by decide +kernel)⟩
theorem lw_p50 : lw_okq (⟨"QuietByYardModel", "laidSet", "()I"⟩, 43) := ⟨⟨by decide +kernel, by decide +kernel⟩, List.mem_of_getElem? (i := 828) (by decide +kernel), List.mem_of_getElem? (i := 1094) (by decide +kernel), List.mem_of_getElem? (i := 1095) (by decide +kernel)⟩
theorem lw_p51 : lw_okq (⟨"QuietByYardModel", "mayLie", "(II)Z"⟩, 43) := ⟨⟨by decide +kernel, by decide +kernel⟩, List.mem_of_getElem? (i := 828) (by decide +kernel), List.mem_of_getElem? (i := 1102) (by decide +kernel), List.mem_of_getElem? (i := 1103) (by decide +kernel)⟩
theorem lw_p52 : lw_okq (⟨"QuietByYardModel", "remembers", "()V"⟩, 43) := ⟨⟨by decide +kernel, by decide +kernel⟩, List.mem_of_getElem? (i := 828) (by decide +kernel), List.mem_of_getElem? (i := 1106) (by decide +kernel), List.mem_of_getElem? (i := 1107) (by decide +kernel)⟩
theorem lw_p53 : lw_okq (⟨"QuietByYardModel", "laidMany", "()I"⟩, 43) := ⟨⟨by decide +kernel, by decide +kernel⟩, List.mem_of_getElem? (i := 828) (by decide +kernel), List.mem_of_getElem? (i := 1110) (by decide +kernel), List.mem_of_getElem? (i := 1111) (by decide +kernel)⟩
theorem lw_p54 : lw_okq (⟨"QuietByYardModel", "findMore", "(I)V"⟩, 43) := ⟨⟨by decide +kernel, by decide +kernel⟩, List.mem_of_getElem? (i := 828) (by decide +kernel), List.mem_of_getElem? (i := 1126) (by decide +kernel), List.mem_of_getElem? (i := 1127) (by decide +kernel)⟩
theorem lw_p55 : lw_okq (⟨"QuietByYardModel", "firstWaked", "()I"⟩, 43) := ⟨⟨by decide +kernel, by decide +kernel⟩, List.mem_of_getElem? (i := 828) (by decide +kernel), List.mem_of_getElem? (i := 1138) (by decide +kernel), List.mem_of_getElem? (i := 1139) (by decide +kernel)⟩
theorem lw_p56 : lw_okq (⟨"QuietByYardModel", "wakes", "(I)I"⟩, 43) := ⟨⟨by decide +kernel, by decide +kernel⟩, List.mem_of_getElem? (i := 828) (by decide +kernel), List.mem_of_getElem? (i := 1142) (by decide +kernel), List.mem_of_getElem? (i := 1143) (by decide +kernel)⟩
theorem lw_p57 : lw_okq (⟨"QuietByYardModel", "findBought", "()V"⟩, 43) := ⟨⟨by decide +kernel, by decide +kernel⟩, List.mem_of_getElem? (i := 828) (by decide +kernel), List.mem_of_getElem? (i := 1157) (by decide +kernel), List.mem_of_getElem? (i := 1158) (by decide +kernel)⟩
theorem lw_p58 : lw_okq (⟨"QuietByYardModel", "offers", "(I)V"⟩, 43) := ⟨⟨by decide +kernel, by decide +kernel⟩, List.mem_of_getElem? (i := 828) (by decide +kernel), List.mem_of_getElem? (i := 1161) (by decide +kernel), List.mem_of_getElem? (i := 1162) (by decide +kernel)⟩
theorem lw_p59 : lw_okq (⟨"QuietByYardModel", "comesFirst", "()Z"⟩, 43) := ⟨⟨by decide +kernel, by decide +kernel⟩, List.mem_of_getElem? (i := 828) (by decide +kernel), List.mem_of_getElem? (i := 1165) (by decide +kernel), List.mem_of_getElem? (i := 1166) (by decide +kernel)⟩
theorem lw_p60 : lw_okq (⟨"QuietByYardModel", "offersMore", "(IIZ)V"⟩, 43) := ⟨⟨by decide +kernel, by decide +kernel⟩, List.mem_of_getElem? (i := 828) (by decide +kernel), List.mem_of_getElem? (i := 1169) (by decide +kernel), List.mem_of_getElem? (i := 1170) (by decide +kernel)⟩
theorem lw_p61 : lw_okq (⟨"QuietByYardModel", "offersTwo", "(II)V"⟩, 43) := ⟨⟨by decide +kernel, by decide +kernel⟩, List.mem_of_getElem? (i := 828) (by decide +kernel), List.mem_of_getElem? (i := 1173) (by decide +kernel), List.mem_of_getElem? (i := 1174) (by decide +kernel)⟩
theorem lw_p62 : lw_okq (⟨"QuietByYardModel", "loudRooms", "()I"⟩, 43) := ⟨⟨by decide +kernel, by decide +kernel⟩, List.mem_of_getElem? (i := 828) (by decide +kernel), List.mem_of_getElem? (i := 1182) (by decide +kernel), List.mem_of_getElem? (i := 1183) (by decide +kernel)⟩
theorem lw_p63 : lw_okq (⟨"QuietByYardModel", "strengthsAt", "(I)I"⟩, 43) := ⟨⟨by decide +kernel, by decide +kernel⟩, List.mem_of_getElem? (i := 828) (by decide +kernel), List.mem_of_getElem? (i := 1198) (by decide +kernel), List.mem_of_getElem? (i := 1199) (by decide +kernel)⟩
def lw_privs_4 : List (MethodName × Nat) := [(⟨"QuietByYardModel", "isNext", "(II)Z"⟩, 43), (⟨"QuietByYardModel", "takes", "(II)I"⟩, 43), (⟨"QuietByYardModel", "laidSet", "()I"⟩, 43), (⟨"QuietByYardModel", "mayLie", "(II)Z"⟩, 43), (⟨"QuietByYardModel", "remembers", "()V"⟩, 43), (⟨"QuietByYardModel", "laidMany", "()I"⟩, 43), (⟨"QuietByYardModel", "findMore", "(I)V"⟩, 43), (⟨"QuietByYardModel", "firstWaked", "()I"⟩, 43), (⟨"QuietByYardModel", "wakes", "(I)I"⟩, 43), (⟨"QuietByYardModel", "findBought", "()V"⟩, 43), (⟨"QuietByYardModel", "offers", "(I)V"⟩, 43), (⟨"QuietByYardModel", "comesFirst", "()Z"⟩, 43), (⟨"QuietByYardModel", "offersMore", "(IIZ)V"⟩, 43), (⟨"QuietByYardModel", "offersTwo", "(II)V"⟩, 43), (⟨"QuietByYardModel", "loudRooms", "()I"⟩, 43), (⟨"QuietByYardModel", "strengthsAt", "(I)I"⟩, 43)]
theorem lw_r4 : ∀ q ∈ lw_privs_4, lw_okq q := List.forall_mem_cons.mpr ⟨lw_p48, List.forall_mem_cons.mpr ⟨lw_p49, List.forall_mem_cons.mpr ⟨lw_p50, List.forall_mem_cons.mpr ⟨lw_p51, List.forall_mem_cons.mpr ⟨lw_p52, List.forall_mem_cons.mpr ⟨lw_p53, List.forall_mem_cons.mpr ⟨lw_p54, List.forall_mem_cons.mpr ⟨lw_p55, List.forall_mem_cons.mpr ⟨lw_p56, List.forall_mem_cons.mpr ⟨lw_p57, List.forall_mem_cons.mpr ⟨lw_p58, List.forall_mem_cons.mpr ⟨lw_p59, List.forall_mem_cons.mpr ⟨lw_p60, List.forall_mem_cons.mpr ⟨lw_p61, List.forall_mem_cons.mpr ⟨lw_p62, List.forall_mem_cons.mpr ⟨lw_p63, fun _ h => absurd h List.not_mem_nil⟩⟩⟩⟩⟩⟩⟩⟩⟩⟩⟩⟩⟩⟩⟩⟩
theorem lw_p64 : lw_okq (⟨"QuietByYardModel", "isQuiet", "(II)Z"⟩, 43) := ⟨⟨by decide +kernel, by decide +kernel⟩, List.mem_of_getElem? (i := 828) (by decide +kernel), List.mem_of_getElem? (i := 1217) (by decide +kernel), List.mem_of_getElem? (i := 1218) (by decide +kernel)⟩
theorem lw_p65 : lw_okq (⟨"QuietByYardModel", "sheetRate", "(I)I"⟩, 43) := ⟨⟨by decide +kernel, by decide +kernel⟩, List.mem_of_getElem? (i := 828) (by decide +kernel), List.mem_of_getElem? (i := 1237) (by decide +kernel), List.mem_of_getElem? (i := 1238) (by decide +kernel)⟩
theorem lw_p66 : lw_okq (⟨"QuietByYardModel", "churchRate", "(I)I"⟩, 43) := ⟨⟨by decide +kernel, by decide +kernel⟩, List.mem_of_getElem? (i := 828) (by decide +kernel), List.mem_of_getElem? (i := 1241) (by decide +kernel), List.mem_of_getElem? (i := 1242) (by decide +kernel)⟩
theorem lw_p67 : lw_okq (⟨"QuietByYardModel", "snowRate", "(I)I"⟩, 43) := ⟨⟨by decide +kernel, by decide +kernel⟩, List.mem_of_getElem? (i := 828) (by decide +kernel), List.mem_of_getElem? (i := 1246) (by decide +kernel), List.mem_of_getElem? (i := 1247) (by decide +kernel)⟩
def lw_privs_5 : List (MethodName × Nat) := [(⟨"QuietByYardModel", "isQuiet", "(II)Z"⟩, 43), (⟨"QuietByYardModel", "sheetRate", "(I)I"⟩, 43), (⟨"QuietByYardModel", "churchRate", "(I)I"⟩, 43), (⟨"QuietByYardModel", "snowRate", "(I)I"⟩, 43)]
theorem lw_r5 : ∀ q ∈ lw_privs_5, lw_okq q := List.forall_mem_cons.mpr ⟨lw_p64, List.forall_mem_cons.mpr ⟨lw_p65, List.forall_mem_cons.mpr ⟨lw_p66, List.forall_mem_cons.mpr ⟨lw_p67, fun _ h => absurd h List.not_mem_nil⟩⟩⟩⟩
def lw_privs : List (MethodName × Nat) := lw_privs_1 ++ (lw_privs_2 ++ (lw_privs_3 ++ (lw_privs_4 ++ (lw_privs_5))))
def lw_tbl : List Cond := k2_sels lw_privs ++ tables_1
theorem lw_privs_ok : ∀ q ∈ lw_privs, lw_okq q := by
  show ∀ q ∈ lw_privs_1 ++ (lw_privs_2 ++ (lw_privs_3 ++ (lw_privs_4 ++ (lw_privs_5)))), lw_okq q
  exact List.forall_mem_append.mpr ⟨lw_r1, List.forall_mem_append.mpr ⟨lw_r2, List.forall_mem_append.mpr ⟨lw_r3, List.forall_mem_append.mpr ⟨lw_r4, lw_r5⟩⟩⟩⟩

def RX0 : String := "QuietByYard$Buyer"
def TX0 : u_T := fun k => match k with
  | 0 => ("QuietByYard$Buyer", "house", "LQuietByYard$House;", true)
  | 1 => ("QuietByYard$Buyer", "floor", "LQuietByYard$Floor;", true)
  | 2 => ("QuietByYard$Buyer", "hearing", "LQuietByYard$Hearing;", true)
  | _ => ("QuietByYard$Buyer", "best", "I", false)
def tyX0 : Nat → FieldType := fun k => match k with
  | 0 => .object "QuietByYard$House"
  | 1 => .object "QuietByYard$Floor"
  | 2 => .object "QuietByYard$Hearing"
  | _ => .int
abbrev wsX00 : List Cond := u_ws RX0 TX0 4
theorem nmX0 : ∀ a, a < 4 → ∀ b, b < 4 → a ≠ b → (TX0 a).2.1 ≠ (TX0 b).2.1 := by decide +kernel
theorem tyX0_ok : ∀ k, k < 4 → parseFieldDescriptor (TX0 k).2.2.1 = some (tyX0 k) := by decide +kernel
abbrev cX0_init : ByteArray := prog_2_method_1_code
def yX0_init : MethodName := ⟨RX0, "<init>", "(LQuietByYard$House;LQuietByYard$Floor;LQuietByYard$Hearing;)V"⟩
abbrev cX0_search : ByteArray := prog_2_method_2_code
def yX0_search : MethodName := ⟨RX0, "search", "(LQuietByYard$Moment;)V"⟩
abbrev cX0_tryLaying : ByteArray := prog_2_method_3_code
def yX0_tryLaying : MethodName := ⟨RX0, "tryLaying", "(IILQuietByYard$Moment;)Z"⟩
abbrev cX0_rankOf : ByteArray := prog_2_method_4_code
def yX0_rankOf : MethodName := ⟨RX0, "rankOf", "(I)I"⟩
abbrev cX0_hasFound : ByteArray := prog_2_method_5_code
def yX0_hasFound : MethodName := ⟨RX0, "hasFound", "()Z"⟩
abbrev cX0_price : ByteArray := prog_2_method_6_code
def yX0_price : MethodName := ⟨RX0, "price", "()I"⟩
abbrev cX0_cellOf : ByteArray := prog_2_method_7_code
def yX0_cellOf : MethodName := ⟨RX0, "cellOf", "(I)I"⟩
def RX1 : String := "QuietByYard$Floor"
def TX1 : u_T := fun k => match k with
  | 0 => ("QuietByYard$Floor", "house", "LQuietByYard$House;", true)
  | 1 => ("QuietByYard$Floor", "sheetOn", "[I", true)
  | 2 => ("QuietByYard$Floor", "thick", "[I", true)
  | 3 => ("QuietByYard$Floor", "next", "[I", true)
  | 4 => ("QuietByYard$Floor", "stepLoss", "[I", true)
  | 5 => ("QuietByYard$Floor", "loss", "[I", true)
  | _ => ("QuietByYard$Floor", "known", "[Z", true)
def tyX1 : Nat → FieldType := fun k => match k with
  | 0 => .object "QuietByYard$House"
  | 1 => .array .int
  | 2 => .array .int
  | 3 => .array .int
  | 4 => .array .int
  | 5 => .array .int
  | _ => .array .boolean
abbrev wsX10 : List Cond := u_ws RX1 TX1 7
theorem nmX1 : ∀ a, a < 7 → ∀ b, b < 7 → a ≠ b → (TX1 a).2.1 ≠ (TX1 b).2.1 := by decide +kernel
theorem tyX1_ok : ∀ k, k < 7 → parseFieldDescriptor (TX1 k).2.2.1 = some (tyX1 k) := by decide +kernel
abbrev cX1_init : ByteArray := prog_3_method_1_code
def yX1_init : MethodName := ⟨RX1, "<init>", "(LQuietByYard$House;)V"⟩
abbrev cX1_measure : ByteArray := prog_3_method_2_code
def yX1_measure : MethodName := ⟨RX1, "measure", "()V"⟩
abbrev cX1_neighbour : ByteArray := prog_3_method_3_code
def yX1_neighbour : MethodName := ⟨RX1, "neighbour", "(II)I"⟩
abbrev cX1_nextTo : ByteArray := prog_3_method_4_code
def yX1_nextTo : MethodName := ⟨RX1, "nextTo", "(II)I"⟩
abbrev cX1_show : ByteArray := prog_3_method_5_code
def yX1_show : MethodName := ⟨RX1, "show", "(LQuietByYard$Moment;)V"⟩
abbrev cX1_weighSteps : ByteArray := prog_3_method_6_code
def yX1_weighSteps : MethodName := ⟨RX1, "weighSteps", "()V"⟩
abbrev cX1_taken : ByteArray := prog_3_method_7_code
def yX1_taken : MethodName := ⟨RX1, "taken", "(II)I"⟩
abbrev cX1_setThick : ByteArray := prog_3_method_8_code
def yX1_setThick : MethodName := ⟨RX1, "setThick", "(II)V"⟩
abbrev cX1_sheetOn : ByteArray := prog_3_method_9_code
def yX1_sheetOn : MethodName := ⟨RX1, "sheetOn", "(I)I"⟩
abbrev cX1_canLie : ByteArray := prog_3_method_10_code
def yX1_canLie : MethodName := ⟨RX1, "canLie", "(II)Z"⟩
abbrev cX1_spreadOut : ByteArray := prog_3_method_11_code
def yX1_spreadOut : MethodName := ⟨RX1, "spreadOut", "(II)V"⟩
abbrev cX1_cover : ByteArray := prog_3_method_12_code
def yX1_cover : MethodName := ⟨RX1, "cover", "(II)V"⟩
abbrev cX1_uncover : ByteArray := prog_3_method_13_code
def yX1_uncover : MethodName := ⟨RX1, "uncover", "(I)V"⟩
abbrev cX1_lost : ByteArray := prog_3_method_14_code
def yX1_lost : MethodName := ⟨RX1, "lost", "(II)I"⟩
abbrev cX1_sound : ByteArray := prog_3_method_15_code
def yX1_sound : MethodName := ⟨RX1, "sound", "(I)V"⟩
abbrev cX1_passOn : ByteArray := prog_3_method_16_code
def yX1_passOn : MethodName := ⟨RX1, "passOn", "(III)Z"⟩
def RX2 : String := "QuietByYard$Hearing"
def TX2 : u_T := fun k => match k with
  | 0 => ("QuietByYard$Hearing", "house", "LQuietByYard$House;", true)
  | _ => ("QuietByYard$Hearing", "floor", "LQuietByYard$Floor;", true)
def tyX2 : Nat → FieldType := fun k => match k with
  | 0 => .object "QuietByYard$House"
  | _ => .object "QuietByYard$Floor"
abbrev wsX20 : List Cond := u_ws RX2 TX2 2
theorem nmX2 : ∀ a, a < 2 → ∀ b, b < 2 → a ≠ b → (TX2 a).2.1 ≠ (TX2 b).2.1 := by decide +kernel
theorem tyX2_ok : ∀ k, k < 2 → parseFieldDescriptor (TX2 k).2.2.1 = some (tyX2 k) := by decide +kernel
abbrev cX2_init : ByteArray := prog_4_method_1_code
def yX2_init : MethodName := ⟨RX2, "<init>", "(LQuietByYard$House;LQuietByYard$Floor;)V"⟩
abbrev cX2_loudBy : ByteArray := prog_4_method_2_code
def yX2_loudBy : MethodName := ⟨RX2, "loudBy", "(III)I"⟩
abbrev cX2_loudWithin : ByteArray := prog_4_method_3_code
def yX2_loudWithin : MethodName := ⟨RX2, "loudWithin", "(III)I"⟩
abbrev cX2_loudOnSheet : ByteArray := prog_4_method_4_code
def yX2_loudOnSheet : MethodName := ⟨RX2, "loudOnSheet", "(II)I"⟩
abbrev cX2_loudInRooms : ByteArray := prog_4_method_5_code
def yX2_loudInRooms : MethodName := ⟨RX2, "loudInRooms", "()I"⟩
abbrev cX2_firstWaked : ByteArray := prog_4_method_6_code
def yX2_firstWaked : MethodName := ⟨RX2, "firstWaked", "()I"⟩
abbrev cX2_firstLoudHour : ByteArray := prog_4_method_7_code
def yX2_firstLoudHour : MethodName := ⟨RX2, "firstLoudHour", "(I)I"⟩
abbrev cX2_wakes : ByteArray := prog_4_method_8_code
def yX2_wakes : MethodName := ⟨RX2, "wakes", "(II)Z"⟩
abbrev cX2_isUnheard : ByteArray := prog_4_method_9_code
def yX2_isUnheard : MethodName := ⟨RX2, "isUnheard", "(II)Z"⟩
def RX3 : String := "QuietByYard$House"
def TX3 : u_T := fun k => match k with
  | 0 => ("QuietByYard$House", "noises", "LQuietByYard$Rows;", true)
  | 1 => ("QuietByYard$House", "sheets", "LQuietByYard$Rows;", true)
  | 2 => ("QuietByYard$House", "rooms", "LQuietByYard$Rows;", true)
  | 3 => ("QuietByYard$House", "wide", "I", false)
  | 4 => ("QuietByYard$House", "deep", "I", false)
  | 5 => ("QuietByYard$House", "cells", "I", false)
  | 6 => ("QuietByYard$House", "fall", "I", false)
  | _ => ("QuietByYard$House", "fallTold", "Z", false)
def tyX3 : Nat → FieldType := fun k => match k with
  | 0 => .object "QuietByYard$Rows"
  | 1 => .object "QuietByYard$Rows"
  | 2 => .object "QuietByYard$Rows"
  | 3 => .int
  | 4 => .int
  | 5 => .int
  | 6 => .int
  | _ => .boolean
abbrev wsX30 : List Cond := u_ws RX3 TX3 8
theorem nmX3 : ∀ a, a < 8 → ∀ b, b < 8 → a ≠ b → (TX3 a).2.1 ≠ (TX3 b).2.1 := by decide +kernel
theorem tyX3_ok : ∀ k, k < 8 → parseFieldDescriptor (TX3 k).2.2.1 = some (tyX3 k) := by decide +kernel
abbrev cX3_init : ByteArray := prog_5_method_1_code
def yX3_init : MethodName := ⟨RX3, "<init>", "()V"⟩
abbrev cX3_begin : ByteArray := prog_5_method_2_code
def yX3_begin : MethodName := ⟨RX3, "begin", "()V"⟩
abbrev cX3_copyFrom : ByteArray := prog_5_method_3_code
def yX3_copyFrom : MethodName := ⟨RX3, "copyFrom", "(LQuietByYard$House;)V"⟩
abbrev cX3_form : ByteArray := prog_5_method_4_code
def yX3_form : MethodName := ⟨RX3, "form", "(II)V"⟩
abbrev cX3_hasCell : ByteArray := prog_5_method_5_code
def yX3_hasCell : MethodName := ⟨RX3, "hasCell", "(I)Z"⟩
abbrev cX3_thickNow : ByteArray := prog_5_method_6_code
def yX3_thickNow : MethodName := ⟨RX3, "thickNow", "(ILQuietByYard$Moment;)I"⟩
def RX4 : String := "QuietByYard$Moment"
def TX4 : u_T := fun k => match k with
  | 0 => ("QuietByYard$Moment", "cells", "[I", true)
  | 1 => ("QuietByYard$Moment", "worn", "[I", true)
  | 2 => ("QuietByYard$Moment", "day", "I", false)
  | _ => ("QuietByYard$Moment", "hour", "I", false)
def tyX4 : Nat → FieldType := fun k => match k with
  | 0 => .array .int
  | 1 => .array .int
  | 2 => .int
  | _ => .int
abbrev wsX40 : List Cond := u_ws RX4 TX4 4
theorem nmX4 : ∀ a, a < 4 → ∀ b, b < 4 → a ≠ b → (TX4 a).2.1 ≠ (TX4 b).2.1 := by decide +kernel
theorem tyX4_ok : ∀ k, k < 4 → parseFieldDescriptor (TX4 k).2.2.1 = some (tyX4 k) := by decide +kernel
abbrev cX4_init : ByteArray := prog_6_method_1_code
def yX4_init : MethodName := ⟨RX4, "<init>", "()V"⟩
abbrev cX4_begin : ByteArray := prog_6_method_2_code
def yX4_begin : MethodName := ⟨RX4, "begin", "()V"⟩
abbrev cX4_copyFrom : ByteArray := prog_6_method_3_code
def yX4_copyFrom : MethodName := ⟨RX4, "copyFrom", "(LQuietByYard$Moment;)V"⟩
abbrev cX4_hasSheet : ByteArray := prog_6_method_4_code
def yX4_hasSheet : MethodName := ⟨RX4, "hasSheet", "(I)Z"⟩
abbrev cX4_cellOf : ByteArray := prog_6_method_5_code
def yX4_cellOf : MethodName := ⟨RX4, "cellOf", "(I)I"⟩
abbrev cX4_isLaid : ByteArray := prog_6_method_6_code
def yX4_isLaid : MethodName := ⟨RX4, "isLaid", "(I)Z"⟩
abbrev cX4_put : ByteArray := prog_6_method_7_code
def yX4_put : MethodName := ⟨RX4, "put", "(II)V"⟩
abbrev cX4_wornOf : ByteArray := prog_6_method_8_code
def yX4_wornOf : MethodName := ⟨RX4, "wornOf", "(I)I"⟩
abbrev cX4_wear : ByteArray := prog_6_method_9_code
def yX4_wear : MethodName := ⟨RX4, "wear", "(II)V"⟩
abbrev cX4_laidBits : ByteArray := prog_6_method_10_code
def yX4_laidBits : MethodName := ⟨RX4, "laidBits", "()I"⟩
abbrev cX4_tick : ByteArray := prog_6_method_11_code
def yX4_tick : MethodName := ⟨RX4, "tick", "()V"⟩
def RX5 : String := "QuietByYard$Past"
def TX5 : u_T := fun k => match k with
  | 0 => ("QuietByYard$Past", "moments", "LQuietByYard$Shelf;", true)
  | 1 => ("QuietByYard$Past", "free", "I", false)
  | _ => ("QuietByYard$Past", "known", "I", false)
def tyX5 : Nat → FieldType := fun k => match k with
  | 0 => .object "QuietByYard$Shelf"
  | 1 => .int
  | _ => .int
abbrev wsX50 : List Cond := u_ws RX5 TX5 3
theorem nmX5 : ∀ a, a < 3 → ∀ b, b < 3 → a ≠ b → (TX5 a).2.1 ≠ (TX5 b).2.1 := by decide +kernel
theorem tyX5_ok : ∀ k, k < 3 → parseFieldDescriptor (TX5 k).2.2.1 = some (tyX5 k) := by decide +kernel
abbrev cX5_init : ByteArray := prog_7_method_1_code
def yX5_init : MethodName := ⟨RX5, "<init>", "()V"⟩
abbrev cX5_size : ByteArray := prog_7_method_2_code
def yX5_size : MethodName := ⟨RX5, "size", "()I"⟩
abbrev cX5_drop : ByteArray := prog_7_method_3_code
def yX5_drop : MethodName := ⟨RX5, "drop", "()V"⟩
abbrev cX5_remember : ByteArray := prog_7_method_4_code
def yX5_remember : MethodName := ⟨RX5, "remember", "(LQuietByYard$Moment;)V"⟩
abbrev cX5_recall : ByteArray := prog_7_method_5_code
def yX5_recall : MethodName := ⟨RX5, "recall", "(LQuietByYard$Moment;)V"⟩
def RX6 : String := "QuietByYard$Rows"
def TX6 : u_T := fun k => match k with
  | 0 => ("QuietByYard$Rows", "most", "I", true)
  | 1 => ("QuietByYard$Rows", "numbers", "[I", true)
  | _ => ("QuietByYard$Rows", "entries", "I", false)
def tyX6 : Nat → FieldType := fun k => match k with
  | 0 => .int
  | 1 => .array .int
  | _ => .int
abbrev wsX60 : List Cond := u_ws RX6 TX6 3
theorem nmX6 : ∀ a, a < 3 → ∀ b, b < 3 → a ≠ b → (TX6 a).2.1 ≠ (TX6 b).2.1 := by decide +kernel
theorem tyX6_ok : ∀ k, k < 3 → parseFieldDescriptor (TX6 k).2.2.1 = some (tyX6 k) := by decide +kernel
abbrev cX6_init : ByteArray := prog_8_method_1_code
def yX6_init : MethodName := ⟨RX6, "<init>", "(I)V"⟩
abbrev cX6_size : ByteArray := prog_8_method_2_code
def yX6_size : MethodName := ⟨RX6, "size", "()I"⟩
abbrev cX6_has : ByteArray := prog_8_method_3_code
def yX6_has : MethodName := ⟨RX6, "has", "(I)Z"⟩
abbrev cX6_isFull : ByteArray := prog_8_method_4_code
def yX6_isFull : MethodName := ⟨RX6, "isFull", "()Z"⟩
abbrev cX6_get : ByteArray := prog_8_method_5_code
def yX6_get : MethodName := ⟨RX6, "get", "(II)I"⟩
abbrev cX6_append : ByteArray := prog_8_method_6_code
def yX6_append : MethodName := ⟨RX6, "append", "(IIII)V"⟩
abbrev cX6_drop : ByteArray := prog_8_method_7_code
def yX6_drop : MethodName := ⟨RX6, "drop", "()V"⟩
abbrev cX6_copyFrom : ByteArray := prog_8_method_8_code
def yX6_copyFrom : MethodName := ⟨RX6, "copyFrom", "(LQuietByYard$Rows;)V"⟩
def RX7 : String := "QuietByYard$Shelf"
def TX7 : u_T := fun k => match k with
  | 0 => ("QuietByYard$Shelf", "places", "I", true)
  | _ => ("QuietByYard$Shelf", "numbers", "[I", true)
def tyX7 : Nat → FieldType := fun k => match k with
  | 0 => .int
  | _ => .array .int
abbrev wsX70 : List Cond := u_ws RX7 TX7 2
theorem nmX7 : ∀ a, a < 2 → ∀ b, b < 2 → a ≠ b → (TX7 a).2.1 ≠ (TX7 b).2.1 := by decide +kernel
theorem tyX7_ok : ∀ k, k < 2 → parseFieldDescriptor (TX7 k).2.2.1 = some (tyX7 k) := by decide +kernel
abbrev cX7_init : ByteArray := prog_9_method_1_code
def yX7_init : MethodName := ⟨RX7, "<init>", "(I)V"⟩
abbrev cX7_hasPlace : ByteArray := prog_9_method_2_code
def yX7_hasPlace : MethodName := ⟨RX7, "hasPlace", "(I)Z"⟩
abbrev cX7_put : ByteArray := prog_9_method_3_code
def yX7_put : MethodName := ⟨RX7, "put", "(ILQuietByYard$Moment;)V"⟩
abbrev cX7_bring : ByteArray := prog_9_method_4_code
def yX7_bring : MethodName := ⟨RX7, "bring", "(ILQuietByYard$Moment;)V"⟩
def RX8 : String := "QuietByYard$Text"
def TX8 : u_T := fun k => match k with
  | 0 => ("QuietByYard$Text", "letters", "[I", true)
  | 1 => ("QuietByYard$Text", "fields", "[I", true)
  | 2 => ("QuietByYard$Text", "length", "I", false)
  | 3 => ("QuietByYard$Text", "at", "I", false)
  | 4 => ("QuietByYard$Text", "start", "I", false)
  | 5 => ("QuietByYard$Text", "token", "I", false)
  | _ => ("QuietByYard$Text", "value", "I", false)
def tyX8 : Nat → FieldType := fun k => match k with
  | 0 => .array .int
  | 1 => .array .int
  | 2 => .int
  | 3 => .int
  | 4 => .int
  | 5 => .int
  | _ => .int
abbrev wsX80 : List Cond := u_ws RX8 TX8 7
theorem nmX8 : ∀ a, a < 7 → ∀ b, b < 7 → a ≠ b → (TX8 a).2.1 ≠ (TX8 b).2.1 := by decide +kernel
theorem tyX8_ok : ∀ k, k < 7 → parseFieldDescriptor (TX8 k).2.2.1 = some (tyX8 k) := by decide +kernel
abbrev cX8_init : ByteArray := prog_10_method_1_code
def yX8_init : MethodName := ⟨RX8, "<init>", "()V"⟩
abbrev cX8_size : ByteArray := prog_10_method_2_code
def yX8_size : MethodName := ⟨RX8, "size", "()I"⟩
abbrev cX8_isFull : ByteArray := prog_10_method_3_code
def yX8_isFull : MethodName := ⟨RX8, "isFull", "()Z"⟩
abbrev cX8_append : ByteArray := prog_10_method_4_code
def yX8_append : MethodName := ⟨RX8, "append", "(I)V"⟩
abbrev cX8_drop : ByteArray := prog_10_method_5_code
def yX8_drop : MethodName := ⟨RX8, "drop", "()V"⟩
abbrev cX8_tell : ByteArray := prog_10_method_6_code
def yX8_tell : MethodName := ⟨RX8, "tell", "(LQuietByYard$House;)I"⟩
abbrev cX8_mayBegin : ByteArray := prog_10_method_7_code
def yX8_mayBegin : MethodName := ⟨RX8, "mayBegin", "(LQuietByYard$House;I)Z"⟩
abbrev cX8_tellItem : ByteArray := prog_10_method_8_code
def yX8_tellItem : MethodName := ⟨RX8, "tellItem", "(LQuietByYard$House;)Z"⟩
abbrev cX8_fieldsOf : ByteArray := prog_10_method_9_code
def yX8_fieldsOf : MethodName := ⟨RX8, "fieldsOf", "(I)I"⟩
abbrev cX8_least : ByteArray := prog_10_method_10_code
def yX8_least : MethodName := ⟨RX8, "least", "(II)I"⟩
abbrev cX8_greatest : ByteArray := prog_10_method_11_code
def yX8_greatest : MethodName := ⟨RX8, "greatest", "(III)I"⟩
abbrev cX8_enter : ByteArray := prog_10_method_12_code
def yX8_enter : MethodName := ⟨RX8, "enter", "(LQuietByYard$House;I)V"⟩
abbrev cX8_step : ByteArray := prog_10_method_13_code
def yX8_step : MethodName := ⟨RX8, "step", "()V"⟩
abbrev cX8_stepNumber : ByteArray := prog_10_method_14_code
def yX8_stepNumber : MethodName := ⟨RX8, "stepNumber", "()V"⟩
abbrev cX8_isDigit : ByteArray := prog_10_method_15_code
def yX8_isDigit : MethodName := ⟨RX8, "isDigit", "(I)Z"⟩
def RX9 : String := "QuietByYard"
def TX9 : u_T := fun k => match k with
  | 0 => ("QuietByYard", "text", "LQuietByYard$Text;", true)
  | 1 => ("QuietByYard", "house", "LQuietByYard$House;", true)
  | 2 => ("QuietByYard", "draft", "LQuietByYard$House;", true)
  | 3 => ("QuietByYard", "present", "LQuietByYard$Moment;", true)
  | 4 => ("QuietByYard", "ahead", "LQuietByYard$Moment;", true)
  | 5 => ("QuietByYard", "past", "LQuietByYard$Past;", true)
  | 6 => ("QuietByYard", "images", "LQuietByYard$Shelf;", true)
  | 7 => ("QuietByYard", "kept", "[Z", true)
  | 8 => ("QuietByYard", "heard", "LQuietByYard$Rows;", true)
  | 9 => ("QuietByYard", "taps", "LQuietByYard$Rows;", true)
  | 10 => ("QuietByYard", "floor", "LQuietByYard$Floor;", true)
  | 11 => ("QuietByYard", "hearing", "LQuietByYard$Hearing;", true)
  | 12 => ("QuietByYard", "buyer", "LQuietByYard$Buyer;", true)
  | 13 => ("QuietByYard", "steps", "[I", true)
  | _ => ("QuietByYard", "traced", "J", false)
def tyX9 : Nat → FieldType := fun k => match k with
  | 0 => .object "QuietByYard$Text"
  | 1 => .object "QuietByYard$House"
  | 2 => .object "QuietByYard$House"
  | 3 => .object "QuietByYard$Moment"
  | 4 => .object "QuietByYard$Moment"
  | 5 => .object "QuietByYard$Past"
  | 6 => .object "QuietByYard$Shelf"
  | 7 => .array .boolean
  | 8 => .object "QuietByYard$Rows"
  | 9 => .object "QuietByYard$Rows"
  | 10 => .object "QuietByYard$Floor"
  | 11 => .object "QuietByYard$Hearing"
  | 12 => .object "QuietByYard$Buyer"
  | 13 => .array .int
  | _ => .long
abbrev wsX90 : List Cond := u_ws RX9 TX9 15
theorem nmX9 : ∀ a, a < 15 → ∀ b, b < 15 → a ≠ b → (TX9 a).2.1 ≠ (TX9 b).2.1 := by decide +kernel
theorem tyX9_ok : ∀ k, k < 15 → parseFieldDescriptor (TX9 k).2.2.1 = some (tyX9 k) := by decide +kernel
abbrev cX9_init : ByteArray := prog_1_method_1_code
def yX9_init : MethodName := ⟨RX9, "<init>", "()V"⟩
abbrev cX9_type : ByteArray := prog_1_method_2_code
def yX9_type : MethodName := ⟨RX9, "type", "(I)I"⟩
abbrev cX9_clear : ByteArray := prog_1_method_3_code
def yX9_clear : MethodName := ⟨RX9, "clear", "()I"⟩
abbrev cX9_house : ByteArray := prog_1_method_4_code
def yX9_house : MethodName := ⟨RX9, "house", "()I"⟩
abbrev cX9_startAnew : ByteArray := prog_1_method_5_code
def yX9_startAnew : MethodName := ⟨RX9, "startAnew", "()V"⟩
abbrev cX9_noise : ByteArray := prog_1_method_6_code
def yX9_noise : MethodName := ⟨RX9, "noise", "(II)I"⟩
abbrev cX9_sheet : ByteArray := prog_1_method_7_code
def yX9_sheet : MethodName := ⟨RX9, "sheet", "(II)I"⟩
abbrev cX9_room : ByteArray := prog_1_method_8_code
def yX9_room : MethodName := ⟨RX9, "room", "(II)I"⟩
abbrev cX9_onCell : ByteArray := prog_1_method_9_code
def yX9_onCell : MethodName := ⟨RX9, "onCell", "(I)I"⟩
abbrev cX9_loud : ByteArray := prog_1_method_10_code
def yX9_loud : MethodName := ⟨RX9, "loud", "(II)I"⟩
abbrev cX9_now : ByteArray := prog_1_method_11_code
def yX9_now : MethodName := ⟨RX9, "now", "(I)I"⟩
abbrev cX9_lay : ByteArray := prog_1_method_12_code
def yX9_lay : MethodName := ⟨RX9, "lay", "(II)I"⟩
abbrev cX9_lift : ByteArray := prog_1_method_13_code
def yX9_lift : MethodName := ⟨RX9, "lift", "(I)I"⟩
abbrev cX9_turn : ByteArray := prog_1_method_14_code
def yX9_turn : MethodName := ⟨RX9, "turn", "(I)I"⟩
abbrev cX9_hour : ByteArray := prog_1_method_15_code
def yX9_hour : MethodName := ⟨RX9, "hour", "()I"⟩
abbrev cX9_undo : ByteArray := prog_1_method_16_code
def yX9_undo : MethodName := ⟨RX9, "undo", "()I"⟩
abbrev cX9_passHour : ByteArray := prog_1_method_17_code
def yX9_passHour : MethodName := ⟨RX9, "passHour", "(LQuietByYard$Moment;)V"⟩
abbrev cX9_waked : ByteArray := prog_1_method_18_code
def yX9_waked : MethodName := ⟨RX9, "waked", "(I)I"⟩
abbrev cX9_through : ByteArray := prog_1_method_19_code
def yX9_through : MethodName := ⟨RX9, "through", "(I)I"⟩
abbrev cX9_firstThrough : ByteArray := prog_1_method_20_code
def yX9_firstThrough : MethodName := ⟨RX9, "firstThrough", "()I"⟩
abbrev cX9_wholeBits : ByteArray := prog_1_method_21_code
def yX9_wholeBits : MethodName := ⟨RX9, "wholeBits", "()I"⟩
abbrev cX9_toBuy : ByteArray := prog_1_method_22_code
def yX9_toBuy : MethodName := ⟨RX9, "toBuy", "(I)I"⟩
abbrev cX9_gain : ByteArray := prog_1_method_23_code
def yX9_gain : MethodName := ⟨RX9, "gain", "(I)I"⟩
abbrev cX9_hear : ByteArray := prog_1_method_24_code
def yX9_hear : MethodName := ⟨RX9, "hear", "(II)I"⟩
abbrev cX9_forget : ByteArray := prog_1_method_25_code
def yX9_forget : MethodName := ⟨RX9, "forget", "(I)I"⟩
abbrev cX9_sources : ByteArray := prog_1_method_26_code
def yX9_sources : MethodName := ⟨RX9, "sources", "()I"⟩
abbrev cX9_strengths : ByteArray := prog_1_method_27_code
def yX9_strengths : MethodName := ⟨RX9, "strengths", "(I)I"⟩
abbrev cX9_strengthsAt : ByteArray := prog_1_method_28_code
def yX9_strengthsAt : MethodName := ⟨RX9, "strengthsAt", "(I)I"⟩
abbrev cX9_hired : ByteArray := prog_1_method_29_code
def yX9_hired : MethodName := ⟨RX9, "hired", "(III)I"⟩
abbrev cX9_way : ByteArray := prog_1_method_30_code
def yX9_way : MethodName := ⟨RX9, "way", "(III)I"⟩
abbrev cX9_walkOn : ByteArray := prog_1_method_31_code
def yX9_walkOn : MethodName := ⟨RX9, "walkOn", "(II)V"⟩
abbrev cX9_tap : ByteArray := prog_1_method_32_code
def yX9_tap : MethodName := ⟨RX9, "tap", "(IIII)I"⟩
abbrev cX9_mayBe : ByteArray := prog_1_method_33_code
def yX9_mayBe : MethodName := ⟨RX9, "mayBe", "()I"⟩
abbrev cX9_tapsAgreeWithSham : ByteArray := prog_1_method_34_code
def yX9_tapsAgreeWithSham : MethodName := ⟨RX9, "tapsAgreeWithSham", "(I)Z"⟩
abbrev cX9_odds : ByteArray := prog_1_method_35_code
def yX9_odds : MethodName := ⟨RX9, "odds", "(III)I"⟩
abbrev cX9_commonDivisor : ByteArray := prog_1_method_36_code
def yX9_commonDivisor : MethodName := ⟨RX9, "commonDivisor", "(II)I"⟩
abbrev cX9_rate : ByteArray := prog_1_method_37_code
def yX9_rate : MethodName := ⟨RX9, "rate", "(II)I"⟩
abbrev cX9_asSheet : ByteArray := prog_1_method_38_code
def yX9_asSheet : MethodName := ⟨RX9, "asSheet", "(I)I"⟩
abbrev cX9_asChurch : ByteArray := prog_1_method_39_code
def yX9_asChurch : MethodName := ⟨RX9, "asChurch", "(I)I"⟩
abbrev cX9_asSnow : ByteArray := prog_1_method_40_code
def yX9_asSnow : MethodName := ⟨RX9, "asSnow", "(I)I"⟩
abbrev cX9_asCrypt : ByteArray := prog_1_method_41_code
def yX9_asCrypt : MethodName := ⟨RX9, "asCrypt", "(I)I"⟩
abbrev cX9_asSlush : ByteArray := prog_1_method_42_code
def yX9_asSlush : MethodName := ⟨RX9, "asSlush", "(I)I"⟩
abbrev cX9_asBell : ByteArray := prog_1_method_43_code
def yX9_asBell : MethodName := ⟨RX9, "asBell", "(I)I"⟩
abbrev cX9_keep : ByteArray := prog_1_method_44_code
def yX9_keep : MethodName := ⟨RX9, "keep", "(I)I"⟩
abbrev cX9_back : ByteArray := prog_1_method_45_code
def yX9_back : MethodName := ⟨RX9, "back", "(I)I"⟩
abbrev cX9_count : ByteArray := prog_1_method_46_code
def yX9_count : MethodName := ⟨RX9, "count", "(I)I"⟩
abbrev cX9_trace : ByteArray := prog_1_method_47_code
def yX9_trace : MethodName := ⟨RX9, "trace", "()J"⟩
abbrev cX9_isWithin : ByteArray := prog_1_method_48_code
def yX9_isWithin : MethodName := ⟨RX9, "isWithin", "(III)Z"⟩
abbrev cX9_hasBit : ByteArray := prog_1_method_49_code
def yX9_hasBit : MethodName := ⟨RX9, "hasBit", "(II)Z"⟩
def RX10 : String := "QuietByYardModel"
def TX10 : u_T := fun k => match k with
  | 0 => ("QuietByYardModel", "wide", "I", false)
  | 1 => ("QuietByYardModel", "high", "I", false)
  | 2 => ("QuietByYardModel", "fall", "I", false)
  | 3 => ("QuietByYardModel", "noises", "I", false)
  | 4 => ("QuietByYardModel", "noise", "[I", true)
  | 5 => ("QuietByYardModel", "sheets", "I", false)
  | 6 => ("QuietByYardModel", "sheet", "[I", true)
  | 7 => ("QuietByYardModel", "rooms", "I", false)
  | 8 => ("QuietByYardModel", "room", "[I", true)
  | 9 => ("QuietByYardModel", "st", "[I", true)
  | 10 => ("QuietByYardModel", "was", "[I", true)
  | 11 => ("QuietByYardModel", "known", "I", false)
  | 12 => ("QuietByYardModel", "images", "[I", true)
  | 13 => ("QuietByYardModel", "isKept", "[Z", true)
  | 14 => ("QuietByYardModel", "heards", "I", false)
  | 15 => ("QuietByYardModel", "heard", "[I", true)
  | 16 => ("QuietByYardModel", "taps", "I", false)
  | 17 => ("QuietByYardModel", "tap", "[I", true)
  | 18 => ("QuietByYardModel", "trace", "J", false)
  | 19 => ("QuietByYardModel", "text", "[I", true)
  | 20 => ("QuietByYardModel", "texted", "I", false)
  | 21 => ("QuietByYardModel", "cursor", "I", false)
  | 22 => ("QuietByYardModel", "start", "I", false)
  | 23 => ("QuietByYardModel", "token", "I", false)
  | 24 => ("QuietByYardModel", "number", "I", false)
  | 25 => ("QuietByYardModel", "isWrong", "Z", false)
  | 26 => ("QuietByYardModel", "saidYard", "[I", true)
  | 27 => ("QuietByYardModel", "isFallSaid", "Z", false)
  | 28 => ("QuietByYardModel", "saidNoises", "I", false)
  | 29 => ("QuietByYardModel", "saidNoise", "[I", true)
  | 30 => ("QuietByYardModel", "saidSheets", "I", false)
  | 31 => ("QuietByYardModel", "saidSheet", "[I", true)
  | 32 => ("QuietByYardModel", "saidRooms", "I", false)
  | 33 => ("QuietByYardModel", "saidRoom", "[I", true)
  | 34 => ("QuietByYardModel", "lies", "[I", true)
  | 35 => ("QuietByYardModel", "thick", "[I", true)
  | 36 => ("QuietByYardModel", "on", "[I", true)
  | 37 => ("QuietByYardModel", "off", "[I", true)
  | 38 => ("QuietByYardModel", "more", "[I", true)
  | 39 => ("QuietByYardModel", "wears", "[I", true)
  | 40 => ("QuietByYardModel", "boughtPrice", "I", false)
  | 41 => ("QuietByYardModel", "bought", "[I", true)
  | _ => ("QuietByYardModel", "steps", "[I", true)
def tyX10 : Nat → FieldType := fun k => match k with
  | 0 => .int
  | 1 => .int
  | 2 => .int
  | 3 => .int
  | 4 => .array .int
  | 5 => .int
  | 6 => .array .int
  | 7 => .int
  | 8 => .array .int
  | 9 => .array .int
  | 10 => .array .int
  | 11 => .int
  | 12 => .array .int
  | 13 => .array .boolean
  | 14 => .int
  | 15 => .array .int
  | 16 => .int
  | 17 => .array .int
  | 18 => .long
  | 19 => .array .int
  | 20 => .int
  | 21 => .int
  | 22 => .int
  | 23 => .int
  | 24 => .int
  | 25 => .boolean
  | 26 => .array .int
  | 27 => .boolean
  | 28 => .int
  | 29 => .array .int
  | 30 => .int
  | 31 => .array .int
  | 32 => .int
  | 33 => .array .int
  | 34 => .array .int
  | 35 => .array .int
  | 36 => .array .int
  | 37 => .array .int
  | 38 => .array .int
  | 39 => .array .int
  | 40 => .int
  | 41 => .array .int
  | _ => .array .int
abbrev wsX100 : List Cond := u_ws RX10 TX10 43
theorem nmX10 : ∀ a, a < 43 → ∀ b, b < 43 → a ≠ b → (TX10 a).2.1 ≠ (TX10 b).2.1 := by decide +kernel
theorem tyX10_ok : ∀ k, k < 43 → parseFieldDescriptor (TX10 k).2.2.1 = some (tyX10 k) := by decide +kernel
abbrev cX10_init : ByteArray := prog_12_method_1_code
def yX10_init : MethodName := ⟨RX10, "<init>", "()V"⟩
abbrev cX10_bare : ByteArray := prog_12_method_3_code
def yX10_bare : MethodName := ⟨RX10, "bare", "()V"⟩
abbrev cX10_in : ByteArray := prog_12_method_4_code
def yX10_in : MethodName := ⟨RX10, "in", "(III)Z"⟩
abbrev cX10_has : ByteArray := prog_12_method_5_code
def yX10_has : MethodName := ⟨RX10, "has", "(II)Z"⟩
abbrev cX10_isCell : ByteArray := prog_12_method_6_code
def yX10_isCell : MethodName := ⟨RX10, "isCell", "(I)Z"⟩
abbrev cX10_isSheet : ByteArray := prog_12_method_7_code
def yX10_isSheet : MethodName := ⟨RX10, "isSheet", "(I)Z"⟩
abbrev cX10_isStrength : ByteArray := prog_12_method_8_code
def yX10_isStrength : MethodName := ⟨RX10, "isStrength", "(I)Z"⟩
abbrev cX10_type : ByteArray := prog_12_method_9_code
def yX10_type : MethodName := ⟨RX10, "type", "(I)I"⟩
abbrev cX10_clear : ByteArray := prog_12_method_10_code
def yX10_clear : MethodName := ⟨RX10, "clear", "()I"⟩
abbrev cX10_letterAt : ByteArray := prog_12_method_11_code
def yX10_letterAt : MethodName := ⟨RX10, "letterAt", "(I)I"⟩
abbrev cX10_next : ByteArray := prog_12_method_12_code
def yX10_next : MethodName := ⟨RX10, "next", "()V"⟩
abbrev cX10_must : ByteArray := prog_12_method_13_code
def yX10_must : MethodName := ⟨RX10, "must", "(Z)V"⟩
abbrev cX10_readInto : ByteArray := prog_12_method_14_code
def yX10_readInto : MethodName := ⟨RX10, "readInto", "([IIII)I"⟩
abbrev cX10_readYard : ByteArray := prog_12_method_15_code
def yX10_readYard : MethodName := ⟨RX10, "readYard", "(Z)V"⟩
abbrev cX10_readFall : ByteArray := prog_12_method_16_code
def yX10_readFall : MethodName := ⟨RX10, "readFall", "()V"⟩
abbrev cX10_cells : ByteArray := prog_12_method_17_code
def yX10_cells : MethodName := ⟨RX10, "cells", "()I"⟩
abbrev cX10_readNoise : ByteArray := prog_12_method_18_code
def yX10_readNoise : MethodName := ⟨RX10, "readNoise", "()V"⟩
abbrev cX10_readSheet : ByteArray := prog_12_method_19_code
def yX10_readSheet : MethodName := ⟨RX10, "readSheet", "()V"⟩
abbrev cX10_readRoom : ByteArray := prog_12_method_20_code
def yX10_readRoom : MethodName := ⟨RX10, "readRoom", "()V"⟩
abbrev cX10_readItem : ByteArray := prog_12_method_21_code
def yX10_readItem : MethodName := ⟨RX10, "readItem", "(Z)V"⟩
abbrev cX10_house : ByteArray := prog_12_method_22_code
def yX10_house : MethodName := ⟨RX10, "house", "()I"⟩
abbrev cX10_thickNow : ByteArray := prog_12_method_23_code
def yX10_thickNow : MethodName := ⟨RX10, "thickNow", "(II)I"⟩
abbrev cX10_layCells : ByteArray := prog_12_method_24_code
def yX10_layCells : MethodName := ⟨RX10, "layCells", "()V"⟩
abbrev cX10_asNow : ByteArray := prog_12_method_25_code
def yX10_asNow : MethodName := ⟨RX10, "asNow", "()V"⟩
abbrev cX10_mayLie : ByteArray := prog_12_method_26_code
def yX10_mayLie : MethodName := ⟨RX10, "mayLie", "(II)Z"⟩
abbrev cX10_isNext : ByteArray := prog_12_method_27_code
def yX10_isNext : MethodName := ⟨RX10, "isNext", "(II)Z"⟩
abbrev cX10_takes : ByteArray := prog_12_method_28_code
def yX10_takes : MethodName := ⟨RX10, "takes", "(II)I"⟩
abbrev cX10_spreads : ByteArray := prog_12_method_29_code
def yX10_spreads : MethodName := ⟨RX10, "spreads", "(I)V"⟩
abbrev cX10_left : ByteArray := prog_12_method_30_code
def yX10_left : MethodName := ⟨RX10, "left", "(II)I"⟩
abbrev cX10_sounds : ByteArray := prog_12_method_31_code
def yX10_sounds : MethodName := ⟨RX10, "sounds", "(II)Z"⟩
abbrev cX10_loudAt : ByteArray := prog_12_method_32_code
def yX10_loudAt : MethodName := ⟨RX10, "loudAt", "(II)I"⟩
abbrev cX10_noise : ByteArray := prog_12_method_33_code
def yX10_noise : MethodName := ⟨RX10, "noise", "(II)I"⟩
abbrev cX10_sheet : ByteArray := prog_12_method_34_code
def yX10_sheet : MethodName := ⟨RX10, "sheet", "(II)I"⟩
abbrev cX10_room : ByteArray := prog_12_method_35_code
def yX10_room : MethodName := ⟨RX10, "room", "(II)I"⟩
abbrev cX10_onCell : ByteArray := prog_12_method_36_code
def yX10_onCell : MethodName := ⟨RX10, "onCell", "(I)I"⟩
abbrev cX10_loud : ByteArray := prog_12_method_37_code
def yX10_loud : MethodName := ⟨RX10, "loud", "(II)I"⟩
abbrev cX10_laidSet : ByteArray := prog_12_method_38_code
def yX10_laidSet : MethodName := ⟨RX10, "laidSet", "()I"⟩
abbrev cX10_now : ByteArray := prog_12_method_39_code
def yX10_now : MethodName := ⟨RX10, "now", "(I)I"⟩
abbrev cX10_remembers : ByteArray := prog_12_method_40_code
def yX10_remembers : MethodName := ⟨RX10, "remembers", "()V"⟩
abbrev cX10_laidMany : ByteArray := prog_12_method_41_code
def yX10_laidMany : MethodName := ⟨RX10, "laidMany", "()I"⟩
abbrev cX10_lay : ByteArray := prog_12_method_42_code
def yX10_lay : MethodName := ⟨RX10, "lay", "(II)I"⟩
abbrev cX10_lift : ByteArray := prog_12_method_43_code
def yX10_lift : MethodName := ⟨RX10, "lift", "(I)I"⟩
abbrev cX10_turn : ByteArray := prog_12_method_44_code
def yX10_turn : MethodName := ⟨RX10, "turn", "(I)I"⟩
abbrev cX10_findMore : ByteArray := prog_12_method_45_code
def yX10_findMore : MethodName := ⟨RX10, "findMore", "(I)V"⟩
abbrev cX10_hour : ByteArray := prog_12_method_46_code
def yX10_hour : MethodName := ⟨RX10, "hour", "()I"⟩
abbrev cX10_undo : ByteArray := prog_12_method_47_code
def yX10_undo : MethodName := ⟨RX10, "undo", "()I"⟩
abbrev cX10_wakes : ByteArray := prog_12_method_48_code
def yX10_wakes : MethodName := ⟨RX10, "wakes", "(I)I"⟩
abbrev cX10_firstWaked : ByteArray := prog_12_method_49_code
def yX10_firstWaked : MethodName := ⟨RX10, "firstWaked", "()I"⟩
abbrev cX10_waked : ByteArray := prog_12_method_50_code
def yX10_waked : MethodName := ⟨RX10, "waked", "(I)I"⟩
abbrev cX10_through : ByteArray := prog_12_method_51_code
def yX10_through : MethodName := ⟨RX10, "through", "(I)I"⟩
abbrev cX10_comesFirst : ByteArray := prog_12_method_52_code
def yX10_comesFirst : MethodName := ⟨RX10, "comesFirst", "()Z"⟩
abbrev cX10_offers : ByteArray := prog_12_method_53_code
def yX10_offers : MethodName := ⟨RX10, "offers", "(I)V"⟩
abbrev cX10_offersMore : ByteArray := prog_12_method_54_code
def yX10_offersMore : MethodName := ⟨RX10, "offersMore", "(IIZ)V"⟩
abbrev cX10_offersTwo : ByteArray := prog_12_method_55_code
def yX10_offersTwo : MethodName := ⟨RX10, "offersTwo", "(II)V"⟩
abbrev cX10_findBought : ByteArray := prog_12_method_56_code
def yX10_findBought : MethodName := ⟨RX10, "findBought", "()V"⟩
abbrev cX10_toBuy : ByteArray := prog_12_method_57_code
def yX10_toBuy : MethodName := ⟨RX10, "toBuy", "(I)I"⟩
abbrev cX10_loudRooms : ByteArray := prog_12_method_58_code
def yX10_loudRooms : MethodName := ⟨RX10, "loudRooms", "()I"⟩
abbrev cX10_gain : ByteArray := prog_12_method_59_code
def yX10_gain : MethodName := ⟨RX10, "gain", "(I)I"⟩
abbrev cX10_hear : ByteArray := prog_12_method_60_code
def yX10_hear : MethodName := ⟨RX10, "hear", "(II)I"⟩
abbrev cX10_forget : ByteArray := prog_12_method_61_code
def yX10_forget : MethodName := ⟨RX10, "forget", "(I)I"⟩
abbrev cX10_strengthsAt : ByteArray := prog_12_method_62_code
def yX10_strengthsAt : MethodName := ⟨RX10, "strengthsAt", "(I)I"⟩
abbrev cX10_sources : ByteArray := prog_12_method_63_code
def yX10_sources : MethodName := ⟨RX10, "sources", "()I"⟩
abbrev cX10_strengths : ByteArray := prog_12_method_64_code
def yX10_strengths : MethodName := ⟨RX10, "strengths", "(I)I"⟩
abbrev cX10_hired : ByteArray := prog_12_method_65_code
def yX10_hired : MethodName := ⟨RX10, "hired", "(III)I"⟩
abbrev cX10_isQuiet : ByteArray := prog_12_method_66_code
def yX10_isQuiet : MethodName := ⟨RX10, "isQuiet", "(II)Z"⟩
abbrev cX10_way : ByteArray := prog_12_method_67_code
def yX10_way : MethodName := ⟨RX10, "way", "(III)I"⟩
abbrev cX10_tap : ByteArray := prog_12_method_68_code
def yX10_tap : MethodName := ⟨RX10, "tap", "(IIII)I"⟩
abbrev cX10_mayBe : ByteArray := prog_12_method_69_code
def yX10_mayBe : MethodName := ⟨RX10, "mayBe", "()I"⟩
abbrev cX10_odds : ByteArray := prog_12_method_70_code
def yX10_odds : MethodName := ⟨RX10, "odds", "(III)I"⟩
abbrev cX10_sheetRate : ByteArray := prog_12_method_71_code
def yX10_sheetRate : MethodName := ⟨RX10, "sheetRate", "(I)I"⟩
abbrev cX10_churchRate : ByteArray := prog_12_method_72_code
def yX10_churchRate : MethodName := ⟨RX10, "churchRate", "(I)I"⟩
abbrev cX10_snowRate : ByteArray := prog_12_method_73_code
def yX10_snowRate : MethodName := ⟨RX10, "snowRate", "(I)I"⟩
abbrev cX10_rate : ByteArray := prog_12_method_74_code
def yX10_rate : MethodName := ⟨RX10, "rate", "(II)I"⟩
abbrev cX10_keep : ByteArray := prog_12_method_75_code
def yX10_keep : MethodName := ⟨RX10, "keep", "(I)I"⟩
abbrev cX10_back : ByteArray := prog_12_method_76_code
def yX10_back : MethodName := ⟨RX10, "back", "(I)I"⟩
abbrev cX10_count : ByteArray := prog_12_method_77_code
def yX10_count : MethodName := ⟨RX10, "count", "(I)I"⟩
abbrev cX10_trace : ByteArray := prog_12_method_78_code
def yX10_trace : MethodName := ⟨RX10, "trace", "()J"⟩
def RJ6 : String := "java/lang/Integer"
def TJ6 : u_T := fun k => match k with
  | _ => ("", "", "", false)
def tyJ6 : Nat → FieldType := fun k => match k with
  | _ => .int
abbrev wsJ60 : List Cond := u_ws RJ6 TJ6 0
theorem nmJ6 : ∀ a, a < 0 → ∀ b, b < 0 → a ≠ b → (TJ6 a).2.1 ≠ (TJ6 b).2.1 := by decide +kernel
theorem tyJ6_ok : ∀ k, k < 0 → parseFieldDescriptor (TJ6 k).2.2.1 = some (tyJ6 k) := by decide +kernel
abbrev cJ6_bitCount_0f7a4 : ByteArray := prog_13_method_49_code
def yJ6_bitCount_0f7a4 : MethodName := ⟨RJ6, "bitCount", "(I)I"⟩
def RJ9 : String := "java/lang/Math"
def TJ9 : u_T := fun k => match k with
  | _ => ("", "", "", false)
def tyJ9 : Nat → FieldType := fun k => match k with
  | _ => .int
abbrev wsJ90 : List Cond := u_ws RJ9 TJ9 0
theorem nmJ9 : ∀ a, a < 0 → ∀ b, b < 0 → a ≠ b → (TJ9 a).2.1 ≠ (TJ9 b).2.1 := by decide +kernel
theorem tyJ9_ok : ∀ k, k < 0 → parseFieldDescriptor (TJ9 k).2.2.1 = some (tyJ9 k) := by decide +kernel
abbrev cJ9_max_7cf53 : ByteArray := prog_14_method_65_code
def yJ9_max_7cf53 : MethodName := ⟨RJ9, "max", "(II)I"⟩
abbrev cJ9_min_7cf53 : ByteArray := prog_14_method_69_code
def yJ9_min_7cf53 : MethodName := ⟨RJ9, "min", "(II)I"⟩
def RL : String := "QuietByYardLaw"
abbrev cL_law : ByteArray := code
def yL_law : MethodName := ⟨RL, "law", "([I)Z"⟩
abbrev vwCl : List vw_C := [(RX0, TX0, 4), (RX1, TX1, 7), (RX2, TX2, 2), (RX3, TX3, 8), (RX4, TX4, 4), (RX5, TX5, 3), (RX6, TX6, 3), (RX7, TX7, 2), (RX8, TX8, 7), (RX9, TX9, 15), (RX10, TX10, 43)]
