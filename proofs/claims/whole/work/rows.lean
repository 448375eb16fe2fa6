section
-- ===== PART A: goes FIRST, ahead of the names: the tables' words, and 'selects' of the private methods out of them =====
/-- a private method of a class that the tables say can be made, by its rows of tables_1 -/
def lw_okq (q : MethodName × Nat) : Prop := (q.1.cls ≠ "java/lang/invoke/MethodHandle" ∧ q.1.cls ≠ "java/lang/invoke/VarHandle") ∧ Cond.instantiable q.1.cls q.2 ∈ tables_1 ∧ Cond.privateMethod q.1 ∈ tables_1 ∧ Cond.instanceMethod q.1 ∈ tables_1
theorem lw_p0 : lw_okq (⟨"QuietByYard$Floor", "neighbour", "(II)I"⟩, 7) := ⟨⟨by decide +kernel, by decide +kernel⟩, List.mem_of_getElem? (i := 200) (by decide +kernel), List.mem_of_getElem? (i := 214) (by decide +kernel), List.mem_of_getElem? (i := 215) (by decide +kernel)⟩
theorem lw_p1 : lw_okq (⟨"QuietByYard$Text", "step", "()V"⟩, 7) := ⟨⟨by decide +kernel, by decide +kernel⟩, List.mem_of_getElem? (i := 23) (by decide +kernel), List.mem_of_getElem? (i := 357) (by decide +kernel), List.mem_of_getElem? (i := 358) (by decide +kernel)⟩
theorem lw_p2 : lw_okq (⟨"QuietByYard$Text", "stepNumber", "()V"⟩, 7) := ⟨⟨by decide +kernel, by decide +kernel⟩, List.mem_of_getElem? (i := 23) (by decide +kernel), List.mem_of_getElem? (i := 364) (by decide +kernel), List.mem_of_getElem? (i := 365) (by decide +kernel)⟩
theorem lw_p3 : lw_okq (⟨"QuietByYard$Text", "mayBegin", "(LQuietByYard$House;I)Z"⟩, 7) := ⟨⟨by decide +kernel, by decide +kernel⟩, List.mem_of_getElem? (i := 23) (by decide +kernel), List.mem_of_getElem? (i := 369) (by decide +kernel), List.mem_of_getElem? (i := 370) (by decide +kernel)⟩
theorem lw_p4 : lw_okq (⟨"QuietByYard$Text", "tellItem", "(LQuietByYard$House;)Z"⟩, 7) := ⟨⟨by decide +kernel, by decide +kernel⟩, List.mem_of_getElem? (i := 23) (by decide +kernel), List.mem_of_getElem? (i := 377) (by decide +kernel), List.mem_of_getElem? (i := 378) (by decide +kernel)⟩
theorem lw_p5 : lw_okq (⟨"QuietByYard$Text", "least", "(II)I"⟩, 7) := ⟨⟨by decide +kernel, by decide +kernel⟩, List.mem_of_getElem? (i := 23) (by decide +kernel), List.mem_of_getElem? (i := 384) (by decide +kernel), List.mem_of_getElem? (i := 385) (by decide +kernel)⟩
theorem lw_p6 : lw_okq (⟨"QuietByYard$Text", "enter", "(LQuietByYard$House;I)V"⟩, 7) := ⟨⟨by decide +kernel, by decide +kernel⟩, List.mem_of_getElem? (i := 23) (by decide +kernel), List.mem_of_getElem? (i := 391) (by decide +kernel), List.mem_of_getElem? (i := 392) (by decide +kernel)⟩
theorem lw_p7 : lw_okq (⟨"QuietByYard", "startAnew", "()V"⟩, 15) := ⟨⟨by decide +kernel, by decide +kernel⟩, List.mem_of_getElem? (i := 15) (by decide +kernel), List.mem_of_getElem? (i := 424) (by decide +kernel), List.mem_of_getElem? (i := 425) (by decide +kernel)⟩
theorem lw_p8 : lw_okq (⟨"QuietByYard$Floor", "spreadOut", "(II)V"⟩, 7) := ⟨⟨by decide +kernel, by decide +kernel⟩, List.mem_of_getElem? (i := 200) (by decide +kernel), List.mem_of_getElem? (i := 483) (by decide +kernel), List.mem_of_getElem? (i := 484) (by decide +kernel)⟩
theorem lw_p9 : lw_okq (⟨"QuietByYard$Floor", "weighSteps", "()V"⟩, 7) := ⟨⟨by decide +kernel, by decide +kernel⟩, List.mem_of_getElem? (i := 200) (by decide +kernel), List.mem_of_getElem? (i := 488) (by decide +kernel), List.mem_of_getElem? (i := 489) (by decide +kernel)⟩
theorem lw_p10 : lw_okq (⟨"QuietByYard$Floor", "taken", "(II)I"⟩, 7) := ⟨⟨by decide +kernel, by decide +kernel⟩, List.mem_of_getElem? (i := 200) (by decide +kernel), List.mem_of_getElem? (i := 492) (by decide +kernel), List.mem_of_getElem? (i := 493) (by decide +kernel)⟩
theorem lw_p11 : lw_okq (⟨"QuietByYard$Floor", "sound", "(I)V"⟩, 7) := ⟨⟨by decide +kernel, by decide +kernel⟩, List.mem_of_getElem? (i := 200) (by decide +kernel), List.mem_of_getElem? (i := 515) (by decide +kernel), List.mem_of_getElem? (i := 516) (by decide +kernel)⟩
theorem lw_p12 : lw_okq (⟨"QuietByYard$Floor", "passOn", "(III)Z"⟩, 7) := ⟨⟨by decide +kernel, by decide +kernel⟩, List.mem_of_getElem? (i := 200) (by decide +kernel), List.mem_of_getElem? (i := 519) (by decide +kernel), List.mem_of_getElem? (i := 520) (by decide +kernel)⟩
theorem lw_p13 : lw_okq (⟨"QuietByYard$Shelf", "hasPlace", "(I)Z"⟩, 2) := ⟨⟨by decide +kernel, by decide +kernel⟩, List.mem_of_getElem? (i := 172) (by decide +kernel), List.mem_of_getElem? (i := 555) (by decide +kernel), List.mem_of_getElem? (i := 556) (by decide +kernel)⟩
theorem lw_p14 : lw_okq (⟨"QuietByYard", "passHour", "(LQuietByYard$Moment;)V"⟩, 15) := ⟨⟨by decide +kernel, by decide +kernel⟩, List.mem_of_getElem? (i := 15) (by decide +kernel), List.mem_of_getElem? (i := 588) (by decide +kernel), List.mem_of_getElem? (i := 589) (by decide +kernel)⟩
theorem lw_p15 : lw_okq (⟨"QuietByYard", "firstThrough", "()I"⟩, 15) := ⟨⟨by decide +kernel, by decide +kernel⟩, List.mem_of_getElem? (i := 15) (by decide +kernel), List.mem_of_getElem? (i := 637) (by decide +kernel), List.mem_of_getElem? (i := 638) (by decide +kernel)⟩
def lw_privs_1 : List (MethodName × Nat) := [(⟨"QuietByYard$Floor", "neighbour", "(II)I"⟩, 7), (⟨"QuietByYard$Text", "step", "()V"⟩, 7), (⟨"QuietByYard$Text", "stepNumber", "()V"⟩, 7), (⟨"QuietByYard$Text", "mayBegin", "(LQuietByYard$House;I)Z"⟩, 7), (⟨"QuietByYard$Text", "tellItem", "(LQuietByYard$House;)Z"⟩, 7), (⟨"QuietByYard$Text", "least", "(II)I"⟩, 7), (⟨"QuietByYard$Text", "enter", "(LQuietByYard$House;I)V"⟩, 7), (⟨"QuietByYard", "startAnew", "()V"⟩, 15), (⟨"QuietByYard$Floor", "spreadOut", "(II)V"⟩, 7), (⟨"QuietByYard$Floor", "weighSteps", "()V"⟩, 7), (⟨"QuietByYard$Floor", "taken", "(II)I"⟩, 7), (⟨"QuietByYard$Floor", "sound", "(I)V"⟩, 7), (⟨"QuietByYard$Floor", "passOn", "(III)Z"⟩, 7), (⟨"QuietByYard$Shelf", "hasPlace", "(I)Z"⟩, 2), (⟨"QuietByYard", "passHour", "(LQuietByYard$Moment;)V"⟩, 15), (⟨"QuietByYard", "firstThrough", "()I"⟩, 15)]
theorem lw_r1 : ∀ q ∈ lw_privs_1, lw_okq q := List.forall_mem_cons.mpr ⟨lw_p0, List.forall_mem_cons.mpr ⟨lw_p1, List.forall_mem_cons.mpr ⟨lw_p2, List.forall_mem_cons.mpr ⟨lw_p3, List.forall_mem_cons.mpr ⟨lw_p4, List.forall_mem_cons.mpr ⟨lw_p5, List.forall_mem_cons.mpr ⟨lw_p6, List.forall_mem_cons.mpr ⟨lw_p7, List.forall_mem_cons.mpr ⟨lw_p8, List.forall_mem_cons.mpr ⟨lw_p9, List.forall_mem_cons.mpr ⟨lw_p10, List.forall_mem_cons.mpr ⟨lw_p11, List.forall_mem_cons.mpr ⟨lw_p12, List.forall_mem_cons.mpr ⟨lw_p13, List.forall_mem_cons.mpr ⟨lw_p14, List.forall_mem_cons.mpr ⟨lw_p15, fun _ h => absurd h List.not_mem_nil⟩⟩⟩⟩⟩⟩⟩⟩⟩⟩⟩⟩⟩⟩⟩⟩
theorem lw_p16 : lw_okq (⟨"QuietByYard", "wholeBits", "()I"⟩, 15) := ⟨⟨by decide +kernel, by decide +kernel⟩, List.mem_of_getElem? (i := 15) (by decide +kernel), List.mem_of_getElem? (i := 645) (by decide +kernel), List.mem_of_getElem? (i := 646) (by decide +kernel)⟩
theorem lw_p17 : lw_okq (⟨"QuietByYard$Buyer", "tryLaying", "(IILQuietByYard$Moment;)Z"⟩, 4) := ⟨⟨by decide +kernel, by decide +kernel⟩, List.mem_of_getElem? (i := 254) (by decide +kernel), List.mem_of_getElem? (i := 663) (by decide +kernel), List.mem_of_getElem? (i := 664) (by decide +kernel)⟩
theorem lw_p18 : lw_okq (⟨"QuietByYard$Buyer", "rankOf", "(I)I"⟩, 4) := ⟨⟨by decide +kernel, by decide +kernel⟩, List.mem_of_getElem? (i := 254) (by decide +kernel), List.mem_of_getElem? (i := 667) (by decide +kernel), List.mem_of_getElem? (i := 668) (by decide +kernel)⟩
theorem lw_p19 : lw_okq (⟨"QuietByYard", "strengthsAt", "(I)I"⟩, 15) := ⟨⟨by decide +kernel, by decide +kernel⟩, List.mem_of_getElem? (i := 15) (by decide +kernel), List.mem_of_getElem? (i := 718) (by decide +kernel), List.mem_of_getElem? (i := 719) (by decide +kernel)⟩
theorem lw_p20 : lw_okq (⟨"QuietByYard", "walkOn", "(II)V"⟩, 15) := ⟨⟨by decide +kernel, by decide +kernel⟩, List.mem_of_getElem? (i := 15) (by decide +kernel), List.mem_of_getElem? (i := 745) (by decide +kernel), List.mem_of_getElem? (i := 746) (by decide +kernel)⟩
theorem lw_p21 : lw_okq (⟨"QuietByYard", "tapsAgreeWithSham", "(I)Z"⟩, 15) := ⟨⟨by decide +kernel, by decide +kernel⟩, List.mem_of_getElem? (i := 15) (by decide +kernel), List.mem_of_getElem? (i := 761) (by decide +kernel), List.mem_of_getElem? (i := 762) (by decide +kernel)⟩
theorem lw_p22 : lw_okq (⟨"QuietByYard", "asSheet", "(I)I"⟩, 15) := ⟨⟨by decide +kernel, by decide +kernel⟩, List.mem_of_getElem? (i := 15) (by decide +kernel), List.mem_of_getElem? (i := 781) (by decide +kernel), List.mem_of_getElem? (i := 782) (by decide +kernel)⟩
theorem lw_p23 : lw_okq (⟨"QuietByYard", "asChurch", "(I)I"⟩, 15) := ⟨⟨by decide +kernel, by decide +kernel⟩, List.mem_of_getElem? (i := 15) (by decide +kernel), List.mem_of_getElem? (i := 785) (by decide +kernel), List.mem_of_getElem? (i := 786) (by decide +kernel)⟩
theorem lw_p24 : lw_okq (⟨"QuietByYard", "asSnow", "(I)I"⟩, 15) := ⟨⟨by decide +kernel, by decide +kernel⟩, List.mem_of_getElem? (i := 15) (by decide +kernel), List.mem_of_getElem? (i := 790) (by decide +kernel), List.mem_of_getElem? (i := 791) (by decide +kernel)⟩
theorem lw_p25 : lw_okq (⟨"QuietByYard", "asCrypt", "(I)I"⟩, 15) := ⟨⟨by decide +kernel, by decide +kernel⟩, List.mem_of_getElem? (i := 15) (by decide +kernel), List.mem_of_getElem? (i := 795) (by decide +kernel), List.mem_of_getElem? (i := 796) (by decide +kernel)⟩
theorem lw_p26 : lw_okq (⟨"QuietByYard", "asSlush", "(I)I"⟩, 15) := ⟨⟨by decide +kernel, by decide +kernel⟩, List.mem_of_getElem? (i := 15) (by decide +kernel), List.mem_of_getElem? (i := 800) (by decide +kernel), List.mem_of_getElem? (i := 801) (by decide +kernel)⟩
theorem lw_p27 : lw_okq (⟨"QuietByYard", "asBell", "(I)I"⟩, 15) := ⟨⟨by decide +kernel, by decide +kernel⟩, List.mem_of_getElem? (i := 15) (by decide +kernel), List.mem_of_getElem? (i := 805) (by decide +kernel), List.mem_of_getElem? (i := 806) (by decide +kernel)⟩
theorem lw_p28 : lw_okq (⟨"QuietByYardModel", "bare", "()V"⟩, 43) := ⟨⟨by decide +kernel, by decide +kernel⟩, List.mem_of_getElem? (i := 828) (by decide +kernel), List.mem_of_getElem? (i := 834) (by decide +kernel), List.mem_of_getElem? (i := 835) (by decide +kernel)⟩
theorem lw_p29 : lw_okq (⟨"QuietByYardModel", "next", "()V"⟩, 43) := ⟨⟨by decide +kernel, by decide +kernel⟩, List.mem_of_getElem? (i := 828) (by decide +kernel), List.mem_of_getElem? (i := 983) (by decide +kernel), List.mem_of_getElem? (i := 984) (by decide +kernel)⟩
theorem lw_p30 : lw_okq (⟨"QuietByYardModel", "letterAt", "(I)I"⟩, 43) := ⟨⟨by decide +kernel, by decide +kernel⟩, List.mem_of_getElem? (i := 828) (by decide +kernel), List.mem_of_getElem? (i := 987) (by decide +kernel), List.mem_of_getElem? (i := 988) (by decide +kernel)⟩
theorem lw_p31 : lw_okq (⟨"QuietByYardModel", "readItem", "(Z)V"⟩, 43) := ⟨⟨by decide +kernel, by decide +kernel⟩, List.mem_of_getElem? (i := 828) (by decide +kernel), List.mem_of_getElem? (i := 991) (by decide +kernel), List.mem_of_getElem? (i := 992) (by decide +kernel)⟩
def lw_privs_2 : List (MethodName × Nat) := [(⟨"QuietByYard", "wholeBits", "()I"⟩, 15), (⟨"QuietByYard$Buyer", "tryLaying", "(IILQuietByYard$Moment;)Z"⟩, 4), (⟨"QuietByYard$Buyer", "rankOf", "(I)I"⟩, 4), (⟨"QuietByYard", "strengthsAt", "(I)I"⟩, 15), (⟨"QuietByYard", "walkOn", "(II)V"⟩, 15), (⟨"QuietByYard", "tapsAgreeWithSham", "(I)Z"⟩, 15), (⟨"QuietByYard", "asSheet", "(I)I"⟩, 15), (⟨"QuietByYard", "asChurch", "(I)I"⟩, 15), (⟨"QuietByYard", "asSnow", "(I)I"⟩, 15), (⟨"QuietByYard", "asCrypt", "(I)I"⟩, 15), (⟨"QuietByYard", "asSlush", "(I)I"⟩, 15), (⟨"QuietByYard", "asBell", "(I)I"⟩, 15), (⟨"QuietByYardModel", "bare", "()V"⟩, 43), (⟨"QuietByYardModel", "next", "()V"⟩, 43), (⟨"QuietByYardModel", "letterAt", "(I)I"⟩, 43), (⟨"QuietByYardModel", "readItem", "(Z)V"⟩, 43)]
theorem lw_r2 : ∀ q ∈ lw_privs_2, lw_okq q := List.forall_mem_cons.mpr ⟨lw_p16, List.forall_mem_cons.mpr ⟨lw_p17, List.forall_mem_cons.mpr ⟨lw_p18, List.forall_mem_cons.mpr ⟨lw_p19, List.forall_mem_cons.mpr ⟨lw_p20, List.forall_mem_cons.mpr ⟨lw_p21, List.forall_mem_cons.mpr ⟨lw_p22, List.forall_mem_cons.mpr ⟨lw_p23, List.forall_mem_cons.mpr ⟨lw_p24, List.forall_mem_cons.mpr ⟨lw_p25, List.forall_mem_cons.mpr ⟨lw_p26, List.forall_mem_cons.mpr ⟨lw_p27, List.forall_mem_cons.mpr ⟨lw_p28, List.forall_mem_cons.mpr ⟨lw_p29, List.forall_mem_cons.mpr ⟨lw_p30, List.forall_mem_cons.mpr ⟨lw_p31, fun _ h => absurd h List.not_mem_nil⟩⟩⟩⟩⟩⟩⟩⟩⟩⟩⟩⟩⟩⟩⟩⟩
theorem lw_p32 : lw_okq (⟨"QuietByYardModel", "readYard", "(Z)V"⟩, 43) := ⟨⟨by decide +kernel, by decide +kernel⟩, List.mem_of_getElem? (i := 828) (by decide +kernel), List.mem_of_getElem? (i := 995) (by decide +kernel), List.mem_of_getElem? (i := 996) (by decide +kernel)⟩
theorem lw_p33 : lw_okq (⟨"QuietByYardModel", "must", "(Z)V"⟩, 43) := ⟨⟨by decide +kernel, by decide +kernel⟩, List.mem_of_getElem? (i := 828) (by decide +kernel), List.mem_of_getElem? (i := 999) (by decide +kernel), List.mem_of_getElem? (i := 1000) (by decide +kernel)⟩
theorem lw_p34 : lw_okq (⟨"QuietByYardModel", "readInto", "([IIII)I"⟩, 43) := ⟨⟨by decide +kernel, by decide +kernel⟩, List.mem_of_getElem? (i := 828) (by decide +kernel), List.mem_of_getElem? (i := 1003) (by decide +kernel), List.mem_of_getElem? (i := 1004) (by decide +kernel)⟩
theorem lw_p35 : lw_okq (⟨"QuietByYardModel", "readFall", "()V"⟩, 43) := ⟨⟨by decide +kernel, by decide +kernel⟩, List.mem_of_getElem? (i := 828) (by decide +kernel), List.mem_of_getElem? (i := 1007) (by decide +kernel), List.mem_of_getElem? (i := 1008) (by decide +kernel)⟩
theorem lw_p36 : lw_okq (⟨"QuietByYardModel", "readNoise", "()V"⟩, 43) := ⟨⟨by decide +kernel, by decide +kernel⟩, List.mem_of_getElem? (i := 828) (by decide +kernel), List.mem_of_getElem? (i := 1011) (by decide +kernel), List.mem_of_getElem? (i := 1012) (by decide +kernel)⟩
theorem lw_p37 : lw_okq (⟨"QuietByYardModel", "cells", "()I"⟩, 43) := ⟨⟨by decide +kernel, by decide +kernel⟩, List.mem_of_getElem? (i := 828) (by decide +kernel), List.mem_of_getElem? (i := 1015) (by decide +kernel), List.mem_of_getElem? (i := 1016) (by decide +kernel)⟩
theorem lw_p38 : lw_okq (⟨"QuietByYardModel", "readSheet", "()V"⟩, 43) := ⟨⟨by decide +kernel, by decide +kernel⟩, List.mem_of_getElem? (i := 828) (by decide +kernel), List.mem_of_getElem? (i := 1019) (by decide +kernel), List.mem_of_getElem? (i := 1020) (by decide +kernel)⟩
theorem lw_p39 : lw_okq (⟨"QuietByYardModel", "readRoom", "()V"⟩, 43) := ⟨⟨by decide +kernel, by decide +kernel⟩, List.mem_of_getElem? (i := 828) (by decide +kernel), List.mem_of_getElem? (i := 1023) (by decide +kernel), List.mem_of_getElem? (i := 1024) (by decide +kernel)⟩
theorem lw_p40 : lw_okq (⟨"QuietByYardModel", "isSheet", "(I)Z"⟩, 43) := ⟨⟨by decide +kernel, by decide +kernel⟩, List.mem_of_getElem? (i := 828) (by decide +kernel), List.mem_of_getElem? (i := 1035) (by decide +kernel), List.mem_of_getElem? (i := 1036) (by decide +kernel)⟩
theorem lw_p41 : lw_okq (⟨"QuietByYardModel", "thickNow", "(II)I"⟩, 43) := ⟨⟨by decide +kernel, by decide +kernel⟩, List.mem_of_getElem? (i := 828) (by decide +kernel), List.mem_of_getElem? (i := 1039) (by decide +kernel), List.mem_of_getElem? (i := 1040) (by decide +kernel)⟩
theorem lw_p42 : lw_okq (⟨"QuietByYardModel", "isCell", "(I)Z"⟩, 43) := ⟨⟨by decide +kernel, by decide +kernel⟩, List.mem_of_getElem? (i := 828) (by decide +kernel), List.mem_of_getElem? (i := 1051) (by decide +kernel), List.mem_of_getElem? (i := 1052) (by decide +kernel)⟩
theorem lw_p43 : lw_okq (⟨"QuietByYardModel", "asNow", "()V"⟩, 43) := ⟨⟨by decide +kernel, by decide +kernel⟩, List.mem_of_getElem? (i := 828) (by decide +kernel), List.mem_of_getElem? (i := 1055) (by decide +kernel), List.mem_of_getElem? (i := 1056) (by decide +kernel)⟩
theorem lw_p44 : lw_okq (⟨"QuietByYardModel", "layCells", "()V"⟩, 43) := ⟨⟨by decide +kernel, by decide +kernel⟩, List.mem_of_getElem? (i := 828) (by decide +kernel), List.mem_of_getElem? (i := 1059) (by decide +kernel), List.mem_of_getElem? (i := 1060) (by decide +kernel)⟩
theorem lw_p45 : lw_okq (⟨"QuietByYardModel", "loudAt", "(II)I"⟩, 43) := ⟨⟨by decide +kernel, by decide +kernel⟩, List.mem_of_getElem? (i := 828) (by decide +kernel), List.mem_of_getElem? (i := 1067) (by decide +kernel), List.mem_of_getElem? (i := 1068) (by decide +kernel)⟩
theorem lw_p46 : lw_okq (⟨"QuietByYardModel", "sounds", "(II)Z"⟩, 43) := ⟨⟨by decide +kernel, by decide +kernel⟩, List.mem_of_getElem? (i := 828) (by decide +kernel), List.mem_of_getElem? (i := 1071) (by decide +kernel), List.mem_of_getElem? (i := 1072) (by decide +kernel)⟩
theorem lw_p47 : lw_okq (⟨"QuietByYardModel", "spreads", "(I)V"⟩, 43) := ⟨⟨by decide +kernel, by decide +kernel⟩, List.mem_of_getElem? (i := 828) (by decide +kernel), List.mem_of_getElem? (i := 1075) (by decide +kernel), List.mem_of_getElem? (i := 1076) (by decide +kernel)⟩
def lw_privs_3 : List (MethodName × Nat) := [(⟨"QuietByYardModel", "readYard", "(Z)V"⟩, 43), (⟨"QuietByYardModel", "must", "(Z)V"⟩, 43), (⟨"QuietByYardModel", "readInto", "([IIII)I"⟩, 43), (⟨"QuietByYardModel", "readFall", "()V"⟩, 43), (⟨"QuietByYardModel", "readNoise", "()V"⟩, 43), (⟨"QuietByYardModel", "cells", "()I"⟩, 43), (⟨"QuietByYardModel", "readSheet", "()V"⟩, 43), (⟨"QuietByYardModel", "readRoom", "()V"⟩, 43), (⟨"QuietByYardModel", "isSheet", "(I)Z"⟩, 43), (⟨"QuietByYardModel", "thickNow", "(II)I"⟩, 43), (⟨"QuietByYardModel", "isCell", "(I)Z"⟩, 43), (⟨"QuietByYardModel", "asNow", "()V"⟩, 43), (⟨"QuietByYardModel", "layCells", "()V"⟩, 43), (⟨"QuietByYardModel", "loudAt", "(II)I"⟩, 43), (⟨"QuietByYardModel", "sounds", "(II)Z"⟩, 43), (⟨"QuietByYardModel", "spreads", "(I)V"⟩, 43)]
theorem lw_r3 : ∀ q ∈ lw_privs_3, lw_okq q := List.forall_mem_cons.mpr ⟨lw_p32, List.forall_mem_cons.mpr ⟨lw_p33, List.forall_mem_cons.mpr ⟨lw_p34, List.forall_mem_cons.mpr ⟨lw_p35, List.forall_mem_cons.mpr ⟨lw_p36, List.forall_mem_cons.mpr ⟨lw_p37, List.forall_mem_cons.mpr ⟨lw_p38, List.forall_mem_cons.mpr ⟨lw_p39, List.forall_mem_cons.mpr ⟨lw_p40, List.forall_mem_cons.mpr ⟨lw_p41, List.forall_mem_cons.mpr ⟨lw_p42, List.forall_mem_cons.mpr ⟨lw_p43, List.forall_mem_cons.mpr ⟨lw_p44, List.forall_mem_cons.mpr ⟨lw_p45, List.forall_mem_cons.mpr ⟨lw_p46, List.forall_mem_cons.mpr ⟨lw_p47, fun _ h => absurd h List.not_mem_nil⟩⟩⟩⟩⟩⟩⟩⟩⟩⟩⟩⟩⟩⟩⟩⟩
theorem lw_p48 : lw_okq (⟨"QuietByYardModel", "isNext", "(II)Z"⟩, 43) := ⟨⟨by decide +kernel, by decide +kernel⟩, List.mem_of_getElem? (i := 828) (by decide +kernel), List.mem_of_getElem? (i := 1079) (by decide +kernel), List.mem_of_getElem? (i := 1080) (by decide +kernel)⟩
theorem lw_p49 : lw_okq (⟨"QuietByYardModel", "takes", "(II)I"⟩, 43) := ⟨⟨by decide +kernel, by decide +kernel⟩, List.mem_of_getElem? (i := 828) (by decide +kernel), List.mem_of_getElem? (i := 1083) (by decide +kernel), List.mem_of_getElem? (i := 1084) (by decide +kernel)⟩
theorem lw_p50 : lw_okq (⟨"QuietByYardModel", "laidSet", "()I"⟩, 43) := ⟨⟨by decide +kernel, by decide +kernel⟩, List.mem_of_getElem? (i := 828) (by decide +kernel), List.mem_of_getElem? (i := 1094) (by decide +kernel), List.mem_of_getElem? (i := 1095) (by decide +kernel)⟩
theorem lw_p51 : lw_okq (⟨"QuietByYardModel", "mayLie", "(II)Z"⟩, 43) := ⟨⟨by decide +kernel, by decide +kernel⟩, List.mem_of_getElem? (i := 828) (by decide +kernel), List.mem_of_getElem? (i := 1102) (by decide +kernel), List.mem_of_getElem? (i := 1103) (by decide +kernel)⟩
theorem lw_p52 : lw_okq (⟨"QuietByYardModel", "remembers", "()V"⟩, 43) := ⟨⟨by decide +kernel, by decide +kernel⟩, List.mem_of_getElem? (i := 828) (by decide +kernel), List.mem_of_getElem? (i := 1106) (by decide +kernel), List.mem_of_getElem? (i := 1107) (by decide +kernel)⟩
theorem lw_p53 : lw_okq (⟨"QuietByYardModel", "laidMany", "()I"⟩, 43) := ⟨⟨by decide +kernel, by decide +kernel⟩, List.mem_of_getElem? (i := 828) (by decide +kernel), List.mem_of_getElem? (i := 1110) (by decide +kernel), List.mem_of_getElem? (i := 1111) (by decide +kernel)⟩
theorem lw_p54 : lw_okq (⟨"QuietByYardModel", "findMore", "(I)V"⟩, 43) := ⟨⟨by decide +kernel, by decide +kernel⟩, List.mem_of_getElem? (i := 828) (by decide +kernel), List.mem_of_getElem? (i := 1126) (by decide +kernel), List.mem_of_getElem? (i := 1127) (by decide +kernel)⟩
theorem lw_p55 : lw_okq (⟨"QuietByYardModel", "firstWaked", "()I"⟩, 43) := ⟨⟨by decide +kernel, by decide +kernel⟩, List.mem_of_getElem? (i := 828) (by decide +kernel), List.mem_of_getElem? (i := 1138) (by decide +kernel), List.mem_of_getElem? (i := 1139) (by decide +kernel)⟩
theorem lw_p56 : lw_okq (⟨"QuietByYardModel", "wakes", "(I)I"⟩, 43) := ⟨⟨by decide +kernel, by decide +kernel⟩, List.mem_of_getElem? (i := 828) (by decide +kernel), List.mem_of_getElem? (i := 1142) (by decide +kernel), List.mem_of_getElem? (i := 1143) (by decide +kernel)⟩
theorem lw_p57 : lw_okq (⟨"QuietByYardModel", "findBought", "()V"⟩, 43) := ⟨⟨by decide +kernel, by decide +kernel⟩, List.mem_of_getElem? (i := 828) (by decide +kernel), List.mem_of_getElem? (i := 1157) (by decide +kernel), List.mem_of_getElem? (i := 1158) (by decide +kernel)⟩
theorem lw_p58 : lw_okq (⟨"QuietByYardModel", "offers", "(I)V"⟩, 43) := ⟨⟨by decide +kernel, by decide +kernel⟩, List.mem_of_getElem? (i := 828) (by decide +kernel), List.mem_of_getElem? (i := 1161) (by decide +kernel), List.mem_of_getElem? (i := 1162) (by decide +kernel)⟩
theorem lw_p59 : lw_okq (⟨"QuietByYardModel", "comesFirst", "()Z"⟩, 43) := ⟨⟨by decide +kernel, by decide +kernel⟩, List.mem_of_getElem? (i := 828) (by decide +kernel), List.mem_of_getElem? (i := 1165) (by decide +kernel), List.mem_of_getElem? (i := 1166) (by decide +kernel)⟩
theorem lw_p60 : lw_okq (⟨"QuietByYardModel", "offersMore", "(IIZ)V"⟩, 43) := ⟨⟨by decide +kernel, by decide +kernel⟩, List.mem_of_getElem? (i := 828) (by decide +kernel), List.mem_of_getElem? (i := 1169) (by decide +kernel), List.mem_of_getElem? (i := 1170) (by decide +kernel)⟩
theorem lw_p61 : lw_okq (⟨"QuietByYardModel", "offersTwo", "(II)V"⟩, 43) := ⟨⟨by decide +kernel, by decide +kernel⟩, List.mem_of_getElem? (i := 828) (by decide +kernel), List.mem_of_getElem? (i := 1173) (by decide +kernel), List.mem_of_getElem? (i := 1174) (by decide +kernel)⟩
theorem lw_p62 : lw_okq (⟨"QuietByYardModel", "loudRooms", "()I"⟩, 43) := ⟨⟨by decide +kernel, by decide +kernel⟩, List.mem_of_getElem? (i := 828) (by decide +kernel), List.mem_of_getElem? (i := 1182) (by decide +kernel), List.mem_of_getElem? (i := 1183) (by decide +kernel)⟩
theorem lw_p63 : lw_okq (⟨"QuietByYardModel", "strengthsAt", "(I)I"⟩, 43) := ⟨⟨by decide +kernel, by decide +kernel⟩, List.mem_of_getElem? (i := 828) (by decide +kernel), List.mem_of_getElem? (i := 1198) (by decide +kernel), List.mem_of_getElem? (i := 1199) (by decide +kernel)⟩
def lw_privs_4 : List (MethodName × Nat) := [(⟨"QuietByYardModel", "isNext", "(II)Z"⟩, 43), (⟨"QuietByYardModel", "takes", "(II)I"⟩, 43), (⟨"QuietByYardModel", "laidSet", "()I"⟩, 43), (⟨"QuietByYardModel", "mayLie", "(II)Z"⟩, 43), (⟨"QuietByYardModel", "remembers", "()V"⟩, 43), (⟨"QuietByYardModel", "laidMany", "()I"⟩, 43), (⟨"QuietByYardModel", "findMore", "(I)V"⟩, 43), (⟨"QuietByYardModel", "firstWaked", "()I"⟩, 43), (⟨"QuietByYardModel", "wakes", "(I)I"⟩, 43), (⟨"QuietByYardModel", "findBought", "()V"⟩, 43), (⟨"QuietByYardModel", "offers", "(I)V"⟩, 43), (⟨"QuietByYardModel", "comesFirst", "()Z"⟩, 43), (⟨"QuietByYardModel", "offersMore", "(IIZ)V"⟩, 43), (⟨"QuietByYardModel", "offersTwo", "(II)V"⟩, 43), (⟨"QuietByYardModel", "loudRooms", "()I"⟩, 43), (⟨"QuietByYardModel", "strengthsAt", "(I)I"⟩, 43)]
theorem lw_r4 : ∀ q ∈ lw_privs_4, lw_okq q := List.forall_mem_cons.mpr ⟨lw_p48, List.forall_mem_cons.mpr ⟨lw_p49, List.forall_mem_cons.mpr ⟨lw_p50, List.forall_mem_cons.mpr ⟨lw_p51, List.forall_mem_cons.mpr ⟨lw_p52, List.forall_mem_cons.mpr ⟨lw_p53, List.forall_mem_cons.mpr ⟨lw_p54, List.forall_mem_cons.mpr ⟨lw_p55, List.forall_mem_cons.mpr ⟨lw_p56, List.forall_mem_cons.mpr ⟨lw_p57, List.forall_mem_cons.mpr ⟨lw_p58, List.forall_mem_cons.mpr ⟨lw_p59, List.forall_mem_cons.mpr ⟨lw_p60, List.forall_mem_cons.mpr ⟨lw_p61, List.forall_mem_cons.mpr ⟨lw_p62, List.forall_mem_cons.mpr ⟨lw_p63, fun _ h => absurd h List.not_mem_nil⟩⟩⟩⟩⟩⟩⟩⟩⟩⟩⟩⟩⟩⟩⟩⟩
theorem lw_p64 : lw_okq (⟨"QuietByYardModel", "isQuiet", "(II)Z"⟩, 43) := ⟨⟨by decide +kernel, by decide +kernel⟩, List.mem_of_getElem? (i := 828) (by decide +kernel), List.mem_of_getElem? (i := 1217) (by decide +kernel), List.mem_of_getElem? (i := 1218) (by decide +kernel)⟩
theorem lw_p65 : lw_okq (⟨"QuietByYardModel", "sheetRate", "(I)I"⟩, 43) := ⟨⟨by decide +kernel, by decide +kernel⟩, List.mem_of_getElem? (i := 828) (by decide +kernel), List.mem_of_getElem? (i := 1237) (by decide +kernel), List.mem_of_getElem? (i := 1238) (by decide +kernel)⟩
theorem lw_p66 : lw_okq (⟨"QuietByYardModel", "churchRate", "(I)I"⟩, 43) := ⟨⟨by decide +kernel, by decide +kernel⟩, List.mem_of_getElem? (i := 828) (by decide +kernel), List.mem_of_getElem? (i := 1241) (by decide +kernel), List.mem_of_getElem? (i := 1242) (by decide +kernel)⟩
theorem lw_p67 : lw_okq (⟨"QuietByYardModel", "snowRate", "(I)I"⟩, 43) := ⟨⟨by decide +kernel, by decide +kernel⟩, List.mem_of_getElem? (i := 828) (by decide +kernel), List.mem_of_getElem? (i := 1246) (by decide +kernel), List.mem_of_getElem? (i := 1247) (by decide +kernel)⟩
def lw_privs_5 : List (MethodName × Nat) := [(⟨"QuietByYardModel", "isQuiet", "(II)Z"⟩, 43), (⟨"QuietByYardModel", "sheetRate", "(I)I"⟩, 43), (⟨"QuietByYardModel", "churchRate", "(I)I"⟩, 43), (⟨"QuietByYardModel", "snowRate", "(I)I"⟩, 43)]
theorem lw_r5 : ∀ q ∈ lw_privs_5, lw_okq q := List.forall_mem_cons.mpr ⟨lw_p64, List.forall_mem_cons.mpr ⟨lw_p65, List.forall_mem_cons.mpr ⟨lw_p66, List.forall_mem_cons.mpr ⟨lw_p67, fun _ h => absurd h List.not_mem_nil⟩⟩⟩⟩
def lw_privs : List (MethodName × Nat) := lw_privs_1 ++ (lw_privs_2 ++ (lw_privs_3 ++ (lw_privs_4 ++ (lw_privs_5))))
def lw_tbl : List Cond := k2_sels lw_privs ++ tables_1
theorem lw_privs_ok : ∀ q ∈ lw_privs, lw_okq q := by
  show ∀ q ∈ lw_privs_1 ++ (lw_privs_2 ++ (lw_privs_3 ++ (lw_privs_4 ++ (lw_privs_5)))), lw_okq q
  exact List.forall_mem_append.mpr ⟨lw_r1, List.forall_mem_append.mpr ⟨lw_r2, List.forall_mem_append.mpr ⟨lw_r3, List.forall_mem_append.mpr ⟨lw_r4, lw_r5⟩⟩⟩⟩

def RX0 : String := "QuietByYard$Buyer"
def TX0 : u_T := fun k => match k with
  | 0 => ("QuietByYard$Buyer", "house", "LQuietByYard$House;", true)
  | 1 => ("QuietByYard$Buyer", "floor", "LQuietByYard$Floor;", true)
  | 2 => ("QuietByYard$Buyer", "hearing", "LQuietByYard$Hearing;", true)
  | _ => ("QuietByYard$Buyer", "best", "I", false)
def tyX0 : Nat → FieldType := fun k => match k with
  | 0 => .object "QuietByYard$House"
  | 1 => .object "QuietByYard$Floor"
  | 2 => .object "QuietByYard$Hearing"
  | _ => .int
abbrev wsX00 : List Cond := u_ws RX0 TX0 4
theorem nmX0 : ∀ a, a < 4 → ∀ b, b < 4 → a ≠ b → (TX0 a).2.1 ≠ (TX0 b).2.1 := by decide +kernel
theorem tyX0_ok : ∀ k, k < 4 → parseFieldDescriptor (TX0 k).2.2.1 = some (tyX0 k) := by decide +kernel
abbrev cX0_init : ByteArray := prog_2_method_1_code
def yX0_init : MethodName := ⟨RX0, "<init>", "(LQuietByYard$House;LQuietByYard$Floor;LQuietByYard$Hearing;)V"⟩
abbrev cX0_search : ByteArray := prog_2_method_2_code
def yX0_search : MethodName := ⟨RX0, "search", "(LQuietByYard$Moment;)V"⟩
abbrev cX0_tryLaying : ByteArray := prog_2_method_3_code
def yX0_tryLaying : MethodName := ⟨RX0, "tryLaying", "(IILQuietByYard$Moment;)Z"⟩
abbrev cX0_rankOf : ByteArray := prog_2_method_4_code
def yX0_rankOf : MethodName := ⟨RX0, "rankOf", "(I)I"⟩
abbrev cX0_hasFound : ByteArray := prog_2_method_5_code
def yX0_hasFound : MethodName := ⟨RX0, "hasFound", "()Z"⟩
abbrev cX0_price : ByteArray := prog_2_method_6_code
def yX0_price : MethodName := ⟨RX0, "price", "()I"⟩
abbrev cX0_cellOf : ByteArray := prog_2_method_7_code
def yX0_cellOf : MethodName := ⟨RX0, "cellOf", "(I)I"⟩
def RX1 : String := "QuietByYard$Floor"
def TX1 : u_T := fun k => match k with
  | 0 => ("QuietByYard$Floor", "house", "LQuietByYard$House;", true)
  | 1 => ("QuietByYard$Floor", "sheetOn", "[I", true)
  | 2 => ("QuietByYard$Floor", "thick", "[I", true)
  | 3 => ("QuietByYard$Floor", "next", "[I", true)
  | 4 => ("QuietByYard$Floor", "stepLoss", "[I", true)
  | 5 => ("QuietByYard$Floor", "loss", "[I", true)
  | _ => ("QuietByYard$Floor", "known", "[Z", true)
def tyX1 : Nat → FieldType := fun k => match k with
  | 0 => .object "QuietByYard$House"
  | 1 => .array .int
  | 2 => .array .int
  | 3 => .array .int
  | 4 => .array .int
  | 5 => .array .int
  | _ => .array .boolean
abbrev wsX10 : List Cond := u_ws RX1 TX1 7
theorem nmX1 : ∀ a, a < 7 → ∀ b, b < 7 → a ≠ b → (TX1 a).2.1 ≠ (TX1 b).2.1 := by decide +kernel
theorem tyX1_ok : ∀ k, k < 7 → parseFieldDescriptor (TX1 k).2.2.1 = some (tyX1 k) := by decide +kernel
abbrev cX1_init : ByteArray := prog_3_method_1_code
def yX1_init : MethodName := ⟨RX1, "<init>", "(LQuietByYard$House;)V"⟩
abbrev cX1_measure : ByteArray := prog_3_method_2_code
def yX1_measure : MethodName := ⟨RX1, "measure", "()V"⟩
abbrev cX1_neighbour : ByteArray := prog_3_method_3_code
def yX1_neighbour : MethodName := ⟨RX1, "neighbour", "(II)I"⟩
abbrev cX1_nextTo : ByteArray := prog_3_method_4_code
def yX1_nextTo : MethodName := ⟨RX1, "nextTo", "(II)I"⟩
abbrev cX1_show : ByteArray := prog_3_method_5_code
def yX1_show : MethodName := ⟨RX1, "show", "(LQuietByYard$Moment;)V"⟩
abbrev cX1_weighSteps : ByteArray := prog_3_method_6_code
def yX1_weighSteps : MethodName := ⟨RX1, "weighSteps", "()V"⟩
abbrev cX1_taken : ByteArray := prog_3_method_7_code
def yX1_taken : MethodName := ⟨RX1, "taken", "(II)I"⟩
abbrev cX1_setThick : ByteArray := prog_3_method_8_code
def yX1_setThick : MethodName := ⟨RX1, "setThick", "(II)V"⟩
abbrev cX1_sheetOn : ByteArray := prog_3_method_9_code
def yX1_sheetOn : MethodName := ⟨RX1, "sheetOn", "(I)I"⟩
abbrev cX1_canLie : ByteArray := prog_3_method_10_code
def yX1_canLie : MethodName := ⟨RX1, "canLie", "(II)Z"⟩
abbrev cX1_spreadOut : ByteArray := prog_3_method_11_code
def yX1_spreadOut : MethodName := ⟨RX1, "spreadOut", "(II)V"⟩
abbrev cX1_cover : ByteArray := prog_3_method_12_code
def yX1_cover : MethodName := ⟨RX1, "cover", "(II)V"⟩
abbrev cX1_uncover : ByteArray := prog_3_method_13_code
def yX1_uncover : MethodName := ⟨RX1, "uncover", "(I)V"⟩
abbrev cX1_lost : ByteArray := prog_3_method_14_code
def yX1_lost : MethodName := ⟨RX1, "lost", "(II)I"⟩
abbrev cX1_sound : ByteArray := prog_3_method_15_code
def yX1_sound : MethodName := ⟨RX1, "sound", "(I)V"⟩
abbrev cX1_passOn : ByteArray := prog_3_method_16_code
def yX1_passOn : MethodName := ⟨RX1, "passOn", "(III)Z"⟩
def RX2 : String := "QuietByYard$Hearing"
def TX2 : u_T := fun k => match k with
  | 0 => ("QuietByYard$Hearing", "house", "LQuietByYard$House;", true)
  | _ => ("QuietByYard$Hearing", "floor", "LQuietByYard$Floor;", true)
def tyX2 : Nat → FieldType := fun k => match k with
  | 0 => .object "QuietByYard$House"
  | _ => .object "QuietByYard$Floor"
abbrev wsX20 : List Cond := u_ws RX2 TX2 2
theorem nmX2 : ∀ a, a < 2 → ∀ b, b < 2 → a ≠ b → (TX2 a).2.1 ≠ (TX2 b).2.1 := by decide +kernel
theorem tyX2_ok : ∀ k, k < 2 → parseFieldDescriptor (TX2 k).2.2.1 = some (tyX2 k) := by decide +kernel
abbrev cX2_init : ByteArray := prog_4_method_1_code
def yX2_init : MethodName := ⟨RX2, "<init>", "(LQuietByYard$House;LQuietByYard$Floor;)V"⟩
abbrev cX2_loudBy : ByteArray := prog_4_method_2_code
def yX2_loudBy : MethodName := ⟨RX2, "loudBy", "(III)I"⟩
abbrev cX2_loudWithin : ByteArray := prog_4_method_3_code
def yX2_loudWithin : MethodName := ⟨RX2, "loudWithin", "(III)I"⟩
abbrev cX2_loudOnSheet : ByteArray := prog_4_method_4_code
def yX2_loudOnSheet : MethodName := ⟨RX2, "loudOnSheet", "(II)I"⟩
abbrev cX2_loudInRooms : ByteArray := prog_4_method_5_code
def yX2_loudInRooms : MethodName := ⟨RX2, "loudInRooms", "()I"⟩
abbrev cX2_firstWaked : ByteArray := prog_4_method_6_code
def yX2_firstWaked : MethodName := ⟨RX2, "firstWaked", "()I"⟩
abbrev cX2_firstLoudHour : ByteArray := prog_4_method_7_code
def yX2_firstLoudHour : MethodName := ⟨RX2, "firstLoudHour", "(I)I"⟩
abbrev cX2_wakes : ByteArray := prog_4_method_8_code
def yX2_wakes : MethodName := ⟨RX2, "wakes", "(II)Z"⟩
abbrev cX2_isUnheard : ByteArray := prog_4_method_9_code
def yX2_isUnheard : MethodName := ⟨RX2, "isUnheard", "(II)Z"⟩
def RX3 : String := "QuietByYard$House"
def TX3 : u_T := fun k => match k with
  | 0 => ("QuietByYard$House", "noises", "LQuietByYard$Rows;", true)
  | 1 => ("QuietByYard$House", "sheets", "LQuietByYard$Rows;", true)
  | 2 => ("QuietByYard$House", "rooms", "LQuietByYard$Rows;", true)
  | 3 => ("QuietByYard$House", "wide", "I", false)
  | 4 => ("QuietByYard$House", "deep", "I", false)
  | 5 => ("QuietByYard$House", "cells", "I", false)
  | 6 => ("QuietByYard$House", "fall", "I", false)
  | _ => ("QuietByYard$House", "fallTold", "Z", false)
def tyX3 : Nat → FieldType := fun k => match k with
  | 0 => .object "QuietByYard$Rows"
  | 1 => .object "QuietByYard$Rows"
  | 2 => .object "QuietByYard$Rows"
  | 3 => .int
  | 4 => .int
  | 5 => .int
  | 6 => .int
  | _ => .boolean
abbrev wsX30 : List Cond := u_ws RX3 TX3 8
theorem nmX3 : ∀ a, a < 8 → ∀ b, b < 8 → a ≠ b → (TX3 a).2.1 ≠ (TX3 b).2.1 := by decide +kernel
theorem tyX3_ok : ∀ k, k < 8 → parseFieldDescriptor (TX3 k).2.2.1 = some (tyX3 k) := by decide +kernel
abbrev cX3_init : ByteArray := prog_5_method_1_code
def yX3_init : MethodName := ⟨RX3, "<init>", "()V"⟩
abbrev cX3_begin : ByteArray := prog_5_method_2_code
def yX3_begin : MethodName := ⟨RX3, "begin", "()V"⟩
abbrev cX3_copyFrom : ByteArray := prog_5_method_3_code
def yX3_copyFrom : MethodName := ⟨RX3, "copyFrom", "(LQuietByYard$House;)V"⟩
abbrev cX3_form : ByteArray := prog_5_method_4_code
def yX3_form : MethodName := ⟨RX3, "form", "(II)V"⟩
abbrev cX3_hasCell : ByteArray := prog_5_method_5_code
def yX3_hasCell : MethodName := ⟨RX3, "hasCell", "(I)Z"⟩
abbrev cX3_thickNow : ByteArray := prog_5_method_6_code
def yX3_thickNow : MethodName := ⟨RX3, "thickNow", "(ILQuietByYard$Moment;)I"⟩
def RX4 : String := "QuietByYard$Moment"
def TX4 : u_T := fun k => match k with
  | 0 => ("QuietByYard$Moment", "cells", "[I", true)
  | 1 => ("QuietByYard$Moment", "worn", "[I", true)
  | 2 => ("QuietByYard$Moment", "day", "I", false)
  | _ => ("QuietByYard$Moment", "hour", "I", false)
def tyX4 : Nat → FieldType := fun k => match k with
  | 0 => .array .int
  | 1 => .array .int
  | 2 => .int
  | _ => .int
abbrev wsX40 : List Cond := u_ws RX4 TX4 4
theorem nmX4 : ∀ a, a < 4 → ∀ b, b < 4 → a ≠ b → (TX4 a).2.1 ≠ (TX4 b).2.1 := by decide +kernel
theorem tyX4_ok : ∀ k, k < 4 → parseFieldDescriptor (TX4 k).2.2.1 = some (tyX4 k) := by decide +kernel
abbrev cX4_init : ByteArray := prog_6_method_1_code
def yX4_init : MethodName := ⟨RX4, "<init>", "()V"⟩
abbrev cX4_begin : ByteArray := prog_6_method_2_code
def yX4_begin : MethodName := ⟨RX4, "begin", "()V"⟩
abbrev cX4_copyFrom : ByteArray := prog_6_method_3_code
def yX4_copyFrom : MethodName := ⟨RX4, "copyFrom", "(LQuietByYard$Moment;)V"⟩
abbrev cX4_hasSheet : ByteArray := prog_6_method_4_code
def yX4_hasSheet : MethodName := ⟨RX4, "hasSheet", "(I)Z"⟩
abbrev cX4_cellOf : ByteArray := prog_6_method_5_code
def yX4_cellOf : MethodName := ⟨RX4, "cellOf", "(I)I"⟩
abbrev cX4_isLaid : ByteArray := prog_6_method_6_code
def yX4_isLaid : MethodName := ⟨RX4, "isLaid", "(I)Z"⟩
abbrev cX4_put : ByteArray := prog_6_method_7_code
def yX4_put : MethodName := ⟨RX4, "put", "(II)V"⟩
abbrev cX4_wornOf : ByteArray := prog_6_method_8_code
def yX4_wornOf : MethodName := ⟨RX4, "wornOf", "(I)I"⟩
abbrev cX4_wear : ByteArray := prog_6_method_9_code
def yX4_wear : MethodName := ⟨RX4, "wear", "(II)V"⟩
abbrev cX4_laidBits : ByteArray := prog_6_method_10_code
def yX4_laidBits : MethodName := ⟨RX4, "laidBits", "()I"⟩
abbrev cX4_tick : ByteArray := prog_6_method_11_code
def yX4_tick : MethodName := ⟨RX4, "tick", "()V"⟩
def RX5 : String := "QuietByYard$Past"
def TX5 : u_T := fun k => match k with
  | 0 => ("QuietByYard$Past", "moments", "LQuietByYard$Shelf;", true)
  | 1 => ("QuietByYard$Past", "free", "I", false)
  | _ => ("QuietByYard$Past", "known", "I", false)
def tyX5 : Nat → FieldType := fun k => match k with
  | 0 => .object "QuietByYard$Shelf"
  | 1 => .int
  | _ => .int
abbrev wsX50 : List Cond := u_ws RX5 TX5 3
theorem nmX5 : ∀ a, a < 3 → ∀ b, b < 3 → a ≠ b → (TX5 a).2.1 ≠ (TX5 b).2.1 := by decide +kernel
theorem tyX5_ok : ∀ k, k < 3 → parseFieldDescriptor (TX5 k).2.2.1 = some (tyX5 k) := by decide +kernel
abbrev cX5_init : ByteArray := prog_7_method_1_code
def yX5_init : MethodName := ⟨RX5, "<init>", "()V"⟩
abbrev cX5_size : ByteArray := prog_7_method_2_code
def yX5_size : MethodName := ⟨RX5, "size", "()I"⟩
abbrev cX5_drop : ByteArray := prog_7_method_3_code
def yX5_drop : MethodName := ⟨RX5, "drop", "()V"⟩
abbrev cX5_remember : ByteArray := prog_7_method_4_code
def yX5_remember : MethodName := ⟨RX5, "remember", "(LQuietByYard$Moment;)V"⟩
abbrev cX5_recall : ByteArray := prog_7_method_5_code
def yX5_recall : MethodName := ⟨RX5, "recall", "(LQuietByYard$Moment;)V"⟩
def RX6 : String := "QuietByYard$Rows"
def TX6 : u_T := fun k => match k with
  | 0 => ("QuietByYard$Rows", "most", "I", true)
  | 1 => ("QuietByYard$Rows", "numbers", "[I", true)
  | _ => ("QuietByYard$Rows", "entries", "I", false)
def tyX6 : Nat → FieldType := fun k => match k with
  | 0 => .int
  | 1 => .array .int
  | _ => .int
abbrev wsX60 : List Cond := u_ws RX6 TX6 3
theorem nmX6 : ∀ a, a < 3 → ∀ b, b < 3 → a ≠ b → (TX6 a).2.1 ≠ (TX6 b).2.1 := by decide +kernel
theorem tyX6_ok : ∀ k, k < 3 → parseFieldDescriptor (TX6 k).2.2.1 = some (tyX6 k) := by decide +kernel
abbrev cX6_init : ByteArray := prog_8_method_1_code
def yX6_init : MethodName := ⟨RX6, "<init>", "(I)V"⟩
abbrev cX6_size : ByteArray := prog_8_method_2_code
def yX6_size : MethodName := ⟨RX6, "size", "()I"⟩
abbrev cX6_has : ByteArray := prog_8_method_3_code
def yX6_has : MethodName := ⟨RX6, "has", "(I)Z"⟩
abbrev cX6_isFull : ByteArray := prog_8_method_4_code
def yX6_isFull : MethodName := ⟨RX6, "isFull", "()Z"⟩
abbrev cX6_get : ByteArray := prog_8_method_5_code
def yX6_get : MethodName := ⟨RX6, "get", "(II)I"⟩
abbrev cX6_append : ByteArray := prog_8_method_6_code
def yX6_append : MethodName := ⟨RX6, "append", "(IIII)V"⟩
abbrev cX6_drop : ByteArray := prog_8_method_7_code
def yX6_drop : MethodName := ⟨RX6, "drop", "()V"⟩
abbrev cX6_copyFrom : ByteArray := prog_8_method_8_code
def yX6_copyFrom : MethodName := ⟨RX6, "copyFrom", "(LQuietByYard$Rows;)V"⟩
def RX7 : String := "QuietByYard$Shelf"
def TX7 : u_T := fun k => match k with
  | 0 => ("QuietByYard$Shelf", "places", "I", true)
  | _ => ("QuietByYard$Shelf", "numbers", "[I", true)
def tyX7 : Nat → FieldType := fun k => match k with
  | 0 => .int
  | _ => .array .int
abbrev wsX70 : List Cond := u_ws RX7 TX7 2
theorem nmX7 : ∀ a, a < 2 → ∀ b, b < 2 → a ≠ b → (TX7 a).2.1 ≠ (TX7 b).2.1 := by decide +kernel
theorem tyX7_ok : ∀ k, k < 2 → parseFieldDescriptor (TX7 k).2.2.1 = some (tyX7 k) := by decide +kernel
abbrev cX7_init : ByteArray := prog_9_method_1_code
def yX7_init : MethodName := ⟨RX7, "<init>", "(I)V"⟩
abbrev cX7_hasPlace : ByteArray := prog_9_method_2_code
def yX7_hasPlace : MethodName := ⟨RX7, "hasPlace", "(I)Z"⟩
abbrev cX7_put : ByteArray := prog_9_method_3_code
def yX7_put : MethodName := ⟨RX7, "put", "(ILQuietByYard$Moment;)V"⟩
abbrev cX7_bring : ByteArray := prog_9_method_4_code
def yX7_bring : MethodName := ⟨RX7, "bring", "(ILQuietByYard$Moment;)V"⟩
def RX8 : String := "QuietByYard$Text"
def TX8 : u_T := fun k => match k with
  | 0 => ("QuietByYard$Text", "letters", "[I", true)
  | 1 => ("QuietByYard$Text", "fields", "[I", true)
  | 2 => ("QuietByYard$Text", "length", "I", false)
  | 3 => ("QuietByYard$Text", "at", "I", false)
  | 4 => ("QuietByYard$Text", "start", "I", false)
  | 5 => ("QuietByYard$Text", "token", "I", false)
  | _ => ("QuietByYard$Text", "value", "I", false)
def tyX8 : Nat → FieldType := fun k => match k with
  | 0 => .array .int
  | 1 => .array .int
  | 2 => .int
  | 3 => .int
  | 4 => .int
  | 5 => .int
  | _ => .int
abbrev wsX80 : List Cond := u_ws RX8 TX8 7
theorem nmX8 : ∀ a, a < 7 → ∀ b, b < 7 → a ≠ b → (TX8 a).2.1 ≠ (TX8 b).2.1 := by decide +kernel
theorem tyX8_ok : ∀ k, k < 7 → parseFieldDescriptor (TX8 k).2.2.1 = some (tyX8 k) := by decide +kernel
abbrev cX8_init : ByteArray := prog_10_method_1_code
def yX8_init : MethodName := ⟨RX8, "<init>", "()V"⟩
abbrev cX8_size : ByteArray := prog_10_method_2_code
def yX8_size : MethodName := ⟨RX8, "size", "()I"⟩
abbrev cX8_isFull : ByteArray := prog_10_method_3_code
def yX8_isFull : MethodName := ⟨RX8, "isFull", "()Z"⟩
abbrev cX8_append : ByteArray := prog_10_method_4_code
def yX8_append : MethodName := ⟨RX8, "append", "(I)V"⟩
abbrev cX8_drop : ByteArray := prog_10_method_5_code
def yX8_drop : MethodName := ⟨RX8, "drop", "()V"⟩
abbrev cX8_tell : ByteArray := prog_10_method_6_code
def yX8_tell : MethodName := ⟨RX8, "tell", "(LQuietByYard$House;)I"⟩
abbrev cX8_mayBegin : ByteArray := prog_10_method_7_code
def yX8_mayBegin : MethodName := ⟨RX8, "mayBegin", "(LQuietByYard$House;I)Z"⟩
abbrev cX8_tellItem : ByteArray := prog_10_method_8_code
def yX8_tellItem : MethodName := ⟨RX8, "tellItem", "(LQuietByYard$House;)Z"⟩
abbrev cX8_fieldsOf : ByteArray := prog_10_method_9_code
def yX8_fieldsOf : MethodName := ⟨RX8, "fieldsOf", "(I)I"⟩
abbrev cX8_least : ByteArray := prog_10_method_10_code
def yX8_least : MethodName := ⟨RX8, "least", "(II)I"⟩
abbrev cX8_greatest : ByteArray := prog_10_method_11_code
def yX8_greatest : MethodName := ⟨RX8, "greatest", "(III)I"⟩
abbrev cX8_enter : ByteArray := prog_10_method_12_code
def yX8_enter : MethodName := ⟨RX8, "enter", "(LQuietByYard$House;I)V"⟩
abbrev cX8_step : ByteArray := prog_10_method_13_code
def yX8_step : MethodName := ⟨RX8, "step", "()V"⟩
abbrev cX8_stepNumber : ByteArray := prog_10_method_14_code
def yX8_stepNumber : MethodName := ⟨RX8, "stepNumber", "()V"⟩
abbrev cX8_isDigit : ByteArray := prog_10_method_15_code
def yX8_isDigit : MethodName := ⟨RX8, "isDigit", "(I)Z"⟩
def RX9 : String := "QuietByYard"
def TX9 : u_T := fun k => match k with
  | 0 => ("QuietByYard", "text", "LQuietByYard$Text;", true)
  | 1 => ("QuietByYard", "house", "LQuietByYard$House;", true)
  | 2 => ("QuietByYard", "draft", "LQuietByYard$House;", true)
  | 3 => ("QuietByYard", "present", "LQuietByYard$Moment;", true)
  | 4 => ("QuietByYard", "ahead", "LQuietByYard$Moment;", true)
  | 5 => ("QuietByYard", "past", "LQuietByYard$Past;", true)
  | 6 => ("QuietByYard", "images", "LQuietByYard$Shelf;", true)
  | 7 => ("QuietByYard", "kept", "[Z", true)
  | 8 => ("QuietByYard", "heard", "LQuietByYard$Rows;", true)
  | 9 => ("QuietByYard", "taps", "LQuietByYard$Rows;", true)
  | 10 => ("QuietByYard", "floor", "LQuietByYard$Floor;", true)
  | 11 => ("QuietByYard", "hearing", "LQuietByYard$Hearing;", true)
  | 12 => ("QuietByYard", "buyer", "LQuietByYard$Buyer;", true)
  | 13 => ("QuietByYard", "steps", "[I", true)
  | _ => ("QuietByYard", "traced", "J", false)
def tyX9 : Nat → FieldType := fun k => match k with
  | 0 => .object "QuietByYard$Text"
  | 1 => .object "QuietByYard$House"
  | 2 => .object "QuietByYard$House"
  | 3 => .object "QuietByYard$Moment"
  | 4 => .object "QuietByYard$Moment"
  | 5 => .object "QuietByYard$Past"
  | 6 => .object "QuietByYard$Shelf"
  | 7 => .array .boolean
  | 8 => .object "QuietByYard$Rows"
  | 9 => .object "QuietByYard$Rows"
  | 10 => .object "QuietByYard$Floor"
  | 11 => .object "QuietByYard$Hearing"
  | 12 => .object "QuietByYard$Buyer"
  | 13 => .array .int
  | _ => .long
abbrev wsX90 : List Cond := u_ws RX9 TX9 15
theorem nmX9 : ∀ a, a < 15 → ∀ b, b < 15 → a ≠ b → (TX9 a).2.1 ≠ (TX9 b).2.1 := by decide +kernel
theorem tyX9_ok : ∀ k, k < 15 → parseFieldDescriptor (TX9 k).2.2.1 = some (tyX9 k) := by decide +kernel
abbrev cX9_init : ByteArray := prog_1_method_1_code
def yX9_init : MethodName := ⟨RX9, "<init>", "()V"⟩
abbrev cX9_type : ByteArray := prog_1_method_2_code
def yX9_type : MethodName := ⟨RX9, "type", "(I)I"⟩
abbrev cX9_clear : ByteArray := prog_1_method_3_code
def yX9_clear : MethodName := ⟨RX9, "clear", "()I"⟩
abbrev cX9_house : ByteArray := prog_1_method_4_code
def yX9_house : MethodName := ⟨RX9, "house", "()I"⟩
abbrev cX9_startAnew : ByteArray := prog_1_method_5_code
def yX9_startAnew : MethodName := ⟨RX9, "startAnew", "()V"⟩
abbrev cX9_noise : ByteArray := prog_1_method_6_code
def yX9_noise : MethodName := ⟨RX9, "noise", "(II)I"⟩
abbrev cX9_sheet : ByteArray := prog_1_method_7_code
def yX9_sheet : MethodName := ⟨RX9, "sheet", "(II)I"⟩
abbrev cX9_room : ByteArray := prog_1_method_8_code
def yX9_room : MethodName := ⟨RX9, "room", "(II)I"⟩
abbrev cX9_onCell : ByteArray := prog_1_method_9_code
def yX9_onCell : MethodName := ⟨RX9, "onCell", "(I)I"⟩
abbrev cX9_loud : ByteArray := prog_1_method_10_code
def yX9_loud : MethodName := ⟨RX9, "loud", "(II)I"⟩
abbrev cX9_now : ByteArray := prog_1_method_11_code
def yX9_now : MethodName := ⟨RX9, "now", "(I)I"⟩
abbrev cX9_lay : ByteArray := prog_1_method_12_code
def yX9_lay : MethodName := ⟨RX9, "lay", "(II)I"⟩
abbrev cX9_lift : ByteArray := prog_1_method_13_code
def yX9_lift : MethodName := ⟨RX9, "lift", "(I)I"⟩
abbrev cX9_turn : ByteArray := prog_1_method_14_code
def yX9_turn : MethodName := ⟨RX9, "turn", "(I)I"⟩
abbrev cX9_hour : ByteArray := prog_1_method_15_code
def yX9_hour : MethodName := ⟨RX9, "hour", "()I"⟩
abbrev cX9_undo : ByteArray := prog_1_method_16_code
def yX9_undo : MethodName := ⟨RX9, "undo", "()I"⟩
abbrev cX9_passHour : ByteArray := prog_1_method_17_code
def yX9_passHour : MethodName := ⟨RX9, "passHour", "(LQuietByYard$Moment;)V"⟩
abbrev cX9_waked : ByteArray := prog_1_method_18_code
def yX9_waked : MethodName := ⟨RX9, "waked", "(I)I"⟩
abbrev cX9_through : ByteArray := prog_1_method_19_code
def yX9_through : MethodName := ⟨RX9, "through", "(I)I"⟩
abbrev cX9_firstThrough : ByteArray := prog_1_method_20_code
def yX9_firstThrough : MethodName := ⟨RX9, "firstThrough", "()I"⟩
abbrev cX9_wholeBits : ByteArray := prog_1_method_21_code
def yX9_wholeBits : MethodName := ⟨RX9, "wholeBits", "()I"⟩
abbrev cX9_toBuy : ByteArray := prog_1_method_22_code
def yX9_toBuy : MethodName := ⟨RX9, "toBuy", "(I)I"⟩
abbrev cX9_gain : ByteArray := prog_1_method_23_code
def yX9_gain : MethodName := ⟨RX9, "gain", "(I)I"⟩
abbrev cX9_hear : ByteArray := prog_1_method_24_code
def yX9_hear : MethodName := ⟨RX9, "hear", "(II)I"⟩
abbrev cX9_forget : ByteArray := prog_1_method_25_code
def yX9_forget : MethodName := ⟨RX9, "forget", "(I)I"⟩
abbrev cX9_sources : ByteArray := prog_1_method_26_code
def yX9_sources : MethodName := ⟨RX9, "sources", "()I"⟩
abbrev cX9_strengths : ByteArray := prog_1_method_27_code
def yX9_strengths : MethodName := ⟨RX9, "strengths", "(I)I"⟩
abbrev cX9_strengthsAt : ByteArray := prog_1_method_28_code
def yX9_strengthsAt : MethodName := ⟨RX9, "strengthsAt", "(I)I"⟩
abbrev cX9_hired : ByteArray := prog_1_method_29_code
def yX9_hired : MethodName := ⟨RX9, "hired", "(III)I"⟩
abbrev cX9_way : ByteArray := prog_1_method_30_code
def yX9_way : MethodName := ⟨RX9, "way", "(III)I"⟩
abbrev cX9_walkOn : ByteArray := prog_1_method_31_code
def yX9_walkOn : MethodName := ⟨RX9, "walkOn", "(II)V"⟩
abbrev cX9_tap : ByteArray := prog_1_method_32_code
def yX9_tap : MethodName := ⟨RX9, "tap", "(IIII)I"⟩
abbrev cX9_mayBe : ByteArray := prog_1_method_33_code
def yX9_mayBe : MethodName := ⟨RX9, "mayBe", "()I"⟩
abbrev cX9_tapsAgreeWithSham : ByteArray := prog_1_method_34_code
def yX9_tapsAgreeWithSham : MethodName := ⟨RX9, "tapsAgreeWithSham", "(I)Z"⟩
abbrev cX9_odds : ByteArray := prog_1_method_35_code
def yX9_odds : MethodName := ⟨RX9, "odds", "(III)I"⟩
abbrev cX9_commonDivisor : ByteArray := prog_1_method_36_code
def yX9_commonDivisor : MethodName := ⟨RX9, "commonDivisor", "(II)I"⟩
abbrev cX9_rate : ByteArray := prog_1_method_37_code
def yX9_rate : MethodName := ⟨RX9, "rate", "(II)I"⟩
abbrev cX9_asSheet : ByteArray := prog_1_method_38_code
def yX9_asSheet : MethodName := ⟨RX9, "asSheet", "(I)I"⟩
abbrev cX9_asChurch : ByteArray := prog_1_method_39_code
def yX9_asChurch : MethodName := ⟨RX9, "asChurch", "(I)I"⟩
abbrev cX9_asSnow : ByteArray := prog_1_method_40_code
def yX9_asSnow : MethodName := ⟨RX9, "asSnow", "(I)I"⟩
abbrev cX9_asCrypt : ByteArray := prog_1_method_41_code
def yX9_asCrypt : MethodName := ⟨RX9, "asCrypt", "(I)I"⟩
abbrev cX9_asSlush : ByteArray := prog_1_method_42_code
def yX9_asSlush : MethodName := ⟨RX9, "asSlush", "(I)I"⟩
abbrev cX9_asBell : ByteArray := prog_1_method_43_code
def yX9_asBell : MethodName := ⟨RX9, "asBell", "(I)I"⟩
abbrev cX9_keep : ByteArray := prog_1_method_44_code
def yX9_keep : MethodName := ⟨RX9, "keep", "(I)I"⟩
abbrev cX9_back : ByteArray := prog_1_method_45_code
def yX9_back : MethodName := ⟨RX9, "back", "(I)I"⟩
abbrev cX9_count : ByteArray := prog_1_method_46_code
def yX9_count : MethodName := ⟨RX9, "count", "(I)I"⟩
abbrev cX9_trace : ByteArray := prog_1_method_47_code
def yX9_trace : MethodName := ⟨RX9, "trace", "()J"⟩
abbrev cX9_isWithin : ByteArray := prog_1_method_48_code
def yX9_isWithin : MethodName := ⟨RX9, "isWithin", "(III)Z"⟩
abbrev cX9_hasBit : ByteArray := prog_1_method_49_code
def yX9_hasBit : MethodName := ⟨RX9, "hasBit", "(II)Z"⟩
def RX10 : String := "QuietByYardModel"
def TX10 : u_T := fun k => match k with
  | 0 => ("QuietByYardModel", "wide", "I", false)
  | 1 => ("QuietByYardModel", "high", "I", false)
  | 2 => ("QuietByYardModel", "fall", "I", false)
  | 3 => ("QuietByYardModel", "noises", "I", false)
  | 4 => ("QuietByYardModel", "noise", "[I", true)
  | 5 => ("QuietByYardModel", "sheets", "I", false)
  | 6 => ("QuietByYardModel", "sheet", "[I", true)
  | 7 => ("QuietByYardModel", "rooms", "I", false)
  | 8 => ("QuietByYardModel", "room", "[I", true)
  | 9 => ("QuietByYardModel", "st", "[I", true)
  | 10 => ("QuietByYardModel", "was", "[I", true)
  | 11 => ("QuietByYardModel", "known", "I", false)
  | 12 => ("QuietByYardModel", "images", "[I", true)
  | 13 => ("QuietByYardModel", "isKept", "[Z", true)
  | 14 => ("QuietByYardModel", "heards", "I", false)
  | 15 => ("QuietByYardModel", "heard", "[I", true)
  | 16 => ("QuietByYardModel", "taps", "I", false)
  | 17 => ("QuietByYardModel", "tap", "[I", true)
  | 18 => ("QuietByYardModel", "trace", "J", false)
  | 19 => ("QuietByYardModel", "text", "[I", true)
  | 20 => ("QuietByYardModel", "texted", "I", false)
  | 21 => ("QuietByYardModel", "cursor", "I", false)
  | 22 => ("QuietByYardModel", "start", "I", false)
  | 23 => ("QuietByYardModel", "token", "I", false)
  | 24 => ("QuietByYardModel", "number", "I", false)
  | 25 => ("QuietByYardModel", "isWrong", "Z", false)
  | 26 => ("QuietByYardModel", "saidYard", "[I", true)
  | 27 => ("QuietByYardModel", "isFallSaid", "Z", false)
  | 28 => ("QuietByYardModel", "saidNoises", "I", false)
  | 29 => ("QuietByYardModel", "saidNoise", "[I", true)
  | 30 => ("QuietByYardModel", "saidSheets", "I", false)
  | 31 => ("QuietByYardModel", "saidSheet", "[I", true)
  | 32 => ("QuietByYardModel", "saidRooms", "I", false)
  | 33 => ("QuietByYardModel", "saidRoom", "[I", true)
  | 34 => ("QuietByYardModel", "lies", "[I", true)
  | 35 => ("QuietByYardModel", "thick", "[I", true)
  | 36 => ("QuietByYardModel", "on", "[I", true)
  | 37 => ("QuietByYardModel", "off", "[I", true)
  | 38 => ("QuietByYardModel", "more", "[I", true)
  | 39 => ("QuietByYardModel", "wears", "[I", true)
  | 40 => ("QuietByYardModel", "boughtPrice", "I", false)
  | 41 => ("QuietByYardModel", "bought", "[I", true)
  | _ => ("QuietByYardModel", "steps", "[I", true)
def tyX10 : Nat → FieldType := fun k => match k with
  | 0 => .int
  | 1 => .int
  | 2 => .int
  | 3 => .int
  | 4 => .array .int
  | 5 => .int
  | 6 => .array .int
  | 7 => .int
  | 8 => .array .int
  | 9 => .array .int
  | 10 => .array .int
  | 11 => .int
  | 12 => .array .int
  | 13 => .array .boolean
  | 14 => .int
  | 15 => .array .int
  | 16 => .int
  | 17 => .array .int
  | 18 => .long
  | 19 => .array .int
  | 20 => .int
  | 21 => .int
  | 22 => .int
  | 23 => .int
  | 24 => .int
  | 25 => .boolean
  | 26 => .array .int
  | 27 => .boolean
  | 28 => .int
  | 29 => .array .int
  | 30 => .int
  | 31 => .array .int
  | 32 => .int
  | 33 => .array .int
  | 34 => .array .int
  | 35 => .array .int
  | 36 => .array .int
  | 37 => .array .int
  | 38 => .array .int
  | 39 => .array .int
  | 40 => .int
  | 41 => .array .int
  | _ => .array .int
abbrev wsX100 : List Cond := u_ws RX10 TX10 43
theorem nmX10 : ∀ a, a < 43 → ∀ b, b < 43 → a ≠ b → (TX10 a).2.1 ≠ (TX10 b).2.1 := by decide +kernel
theorem tyX10_ok : ∀ k, k < 43 → parseFieldDescriptor (TX10 k).2.2.1 = some (tyX10 k) := by decide +kernel
abbrev cX10_init : ByteArray := prog_12_method_1_code
def yX10_init : MethodName := ⟨RX10, "<init>", "()V"⟩
abbrev cX10_bare : ByteArray := prog_12_method_3_code
def yX10_bare : MethodName := ⟨RX10, "bare", "()V"⟩
abbrev cX10_in : ByteArray := prog_12_method_4_code
def yX10_in : MethodName := ⟨RX10, "in", "(III)Z"⟩
abbrev cX10_has : ByteArray := prog_12_method_5_code
def yX10_has : MethodName := ⟨RX10, "has", "(II)Z"⟩
abbrev cX10_isCell : ByteArray := prog_12_method_6_code
def yX10_isCell : MethodName := ⟨RX10, "isCell", "(I)Z"⟩
abbrev cX10_isSheet : ByteArray := prog_12_method_7_code
def yX10_isSheet : MethodName := ⟨RX10, "isSheet", "(I)Z"⟩
abbrev cX10_isStrength : ByteArray := prog_12_method_8_code
def yX10_isStrength : MethodName := ⟨RX10, "isStrength", "(I)Z"⟩
abbrev cX10_type : ByteArray := prog_12_method_9_code
def yX10_type : MethodName := ⟨RX10, "type", "(I)I"⟩
abbrev cX10_clear : ByteArray := prog_12_method_10_code
def yX10_clear : MethodName := ⟨RX10, "clear", "()I"⟩
abbrev cX10_letterAt : ByteArray := prog_12_method_11_code
def yX10_letterAt : MethodName := ⟨RX10, "letterAt", "(I)I"⟩
abbrev cX10_next : ByteArray := prog_12_method_12_code
def yX10_next : MethodName := ⟨RX10, "next", "()V"⟩
abbrev cX10_must : ByteArray := prog_12_method_13_code
def yX10_must : MethodName := ⟨RX10, "must", "(Z)V"⟩
abbrev cX10_readInto : ByteArray := prog_12_method_14_code
def yX10_readInto : MethodName := ⟨RX10, "readInto", "([IIII)I"⟩
abbrev cX10_readYard : ByteArray := prog_12_method_15_code
def yX10_readYard : MethodName := ⟨RX10, "readYard", "(Z)V"⟩
abbrev cX10_readFall : ByteArray := prog_12_method_16_code
def yX10_readFall : MethodName := ⟨RX10, "readFall", "()V"⟩
abbrev cX10_cells : ByteArray := prog_12_method_17_code
def yX10_cells : MethodName := ⟨RX10, "cells", "()I"⟩
abbrev cX10_readNoise : ByteArray := prog_12_method_18_code
def yX10_readNoise : MethodName := ⟨RX10, "readNoise", "()V"⟩
abbrev cX10_readSheet : ByteArray := prog_12_method_19_code
def yX10_readSheet : MethodName := ⟨RX10, "readSheet", "()V"⟩
abbrev cX10_readRoom : ByteArray := prog_12_method_20_code
def yX10_readRoom : MethodName := ⟨RX10, "readRoom", "()V"⟩
abbrev cX10_readItem : ByteArray := prog_12_method_21_code
def yX10_readItem : MethodName := ⟨RX10, "readItem", "(Z)V"⟩
abbrev cX10_house : ByteArray := prog_12_method_22_code
def yX10_house : MethodName := ⟨RX10, "house", "()I"⟩
abbrev cX10_thickNow : ByteArray := prog_12_method_23_code
def yX10_thickNow : MethodName := ⟨RX10, "thickNow", "(II)I"⟩
abbrev cX10_layCells : ByteArray := prog_12_method_24_code
def yX10_layCells : MethodName := ⟨RX10, "layCells", "()V"⟩
abbrev cX10_asNow : ByteArray := prog_12_method_25_code
def yX10_asNow : MethodName := ⟨RX10, "asNow", "()V"⟩
abbrev cX10_mayLie : ByteArray := prog_12_method_26_code
def yX10_mayLie : MethodName := ⟨RX10, "mayLie", "(II)Z"⟩
abbrev cX10_isNext : ByteArray := prog_12_method_27_code
def yX10_isNext : MethodName := ⟨RX10, "isNext", "(II)Z"⟩
abbrev cX10_takes : ByteArray := prog_12_method_28_code
def yX10_takes : MethodName := ⟨RX10, "takes", "(II)I"⟩
abbrev cX10_spreads : ByteArray := prog_12_method_29_code
def yX10_spreads : MethodName := ⟨RX10, "spreads", "(I)V"⟩
abbrev cX10_left : ByteArray := prog_12_method_30_code
def yX10_left : MethodName := ⟨RX10, "left", "(II)I"⟩
abbrev cX10_sounds : ByteArray := prog_12_method_31_code
def yX10_sounds : MethodName := ⟨RX10, "sounds", "(II)Z"⟩
abbrev cX10_loudAt : ByteArray := prog_12_method_32_code
def yX10_loudAt : MethodName := ⟨RX10, "loudAt", "(II)I"⟩
abbrev cX10_noise : ByteArray := prog_12_method_33_code
def yX10_noise : MethodName := ⟨RX10, "noise", "(II)I"⟩
abbrev cX10_sheet : ByteArray := prog_12_method_34_code
def yX10_sheet : MethodName := ⟨RX10, "sheet", "(II)I"⟩
abbrev cX10_room : ByteArray := prog_12_method_35_code
def yX10_room : MethodName := ⟨RX10, "room", "(II)I"⟩
abbrev cX10_onCell : ByteArray := prog_12_method_36_code
def yX10_onCell : MethodName := ⟨RX10, "onCell", "(I)I"⟩
abbrev cX10_loud : ByteArray := prog_12_method_37_code
def yX10_loud : MethodName := ⟨RX10, "loud", "(II)I"⟩
abbrev cX10_laidSet : ByteArray := prog_12_method_38_code
def yX10_laidSet : MethodName := ⟨RX10, "laidSet", "()I"⟩
abbrev cX10_now : ByteArray := prog_12_method_39_code
def yX10_now : MethodName := ⟨RX10, "now", "(I)I"⟩
abbrev cX10_remembers : ByteArray := prog_12_method_40_code
def yX10_remembers : MethodName := ⟨RX10, "remembers", "()V"⟩
abbrev cX10_laidMany : ByteArray := prog_12_method_41_code
def yX10_laidMany : MethodName := ⟨RX10, "laidMany", "()I"⟩
abbrev cX10_lay : ByteArray := prog_12_method_42_code
def yX10_lay : MethodName := ⟨RX10, "lay", "(II)I"⟩
abbrev cX10_lift : ByteArray := prog_12_method_43_code
def yX10_lift : MethodName := ⟨RX10, "lift", "(I)I"⟩
abbrev cX10_turn : ByteArray := prog_12_method_44_code
def yX10_turn : MethodName := ⟨RX10, "turn", "(I)I"⟩
abbrev cX10_findMore : ByteArray := prog_12_method_45_code
def yX10_findMore : MethodName := ⟨RX10, "findMore", "(I)V"⟩
abbrev cX10_hour : ByteArray := prog_12_method_46_code
def yX10_hour : MethodName := ⟨RX10, "hour", "()I"⟩
abbrev cX10_undo : ByteArray := prog_12_method_47_code
def yX10_undo : MethodName := ⟨RX10, "undo", "()I"⟩
abbrev cX10_wakes : ByteArray := prog_12_method_48_code
def yX10_wakes : MethodName := ⟨RX10, "wakes", "(I)I"⟩
abbrev cX10_firstWaked : ByteArray := prog_12_method_49_code
def yX10_firstWaked : MethodName := ⟨RX10, "firstWaked", "()I"⟩
abbrev cX10_waked : ByteArray := prog_12_method_50_code
def yX10_waked : MethodName := ⟨RX10, "waked", "(I)I"⟩
abbrev cX10_through : ByteArray := prog_12_method_51_code
def yX10_through : MethodName := ⟨RX10, "through", "(I)I"⟩
abbrev cX10_comesFirst : ByteArray := prog_12_method_52_code
def yX10_comesFirst : MethodName := ⟨RX10, "comesFirst", "()Z"⟩
abbrev cX10_offers : ByteArray := prog_12_method_53_code
def yX10_offers : MethodName := ⟨RX10, "offers", "(I)V"⟩
abbrev cX10_offersMore : ByteArray := prog_12_method_54_code
def yX10_offersMore : MethodName := ⟨RX10, "offersMore", "(IIZ)V"⟩
abbrev cX10_offersTwo : ByteArray := prog_12_method_55_code
def yX10_offersTwo : MethodName := ⟨RX10, "offersTwo", "(II)V"⟩
abbrev cX10_findBought : ByteArray := prog_12_method_56_code
def yX10_findBought : MethodName := ⟨RX10, "findBought", "()V"⟩
abbrev cX10_toBuy : ByteArray := prog_12_method_57_code
def yX10_toBuy : MethodName := ⟨RX10, "toBuy", "(I)I"⟩
abbrev cX10_loudRooms : ByteArray := prog_12_method_58_code
def yX10_loudRooms : MethodName := ⟨RX10, "loudRooms", "()I"⟩
abbrev cX10_gain : ByteArray := prog_12_method_59_code
def yX10_gain : MethodName := ⟨RX10, "gain", "(I)I"⟩
abbrev cX10_hear : ByteArray := prog_12_method_60_code
def yX10_hear : MethodName := ⟨RX10, "hear", "(II)I"⟩
abbrev cX10_forget : ByteArray := prog_12_method_61_code
def yX10_forget : MethodName := ⟨RX10, "forget", "(I)I"⟩
abbrev cX10_strengthsAt : ByteArray := prog_12_method_62_code
def yX10_strengthsAt : MethodName := ⟨RX10, "strengthsAt", "(I)I"⟩
abbrev cX10_sources : ByteArray := prog_12_method_63_code
def yX10_sources : MethodName := ⟨RX10, "sources", "()I"⟩
abbrev cX10_strengths : ByteArray := prog_12_method_64_code
def yX10_strengths : MethodName := ⟨RX10, "strengths", "(I)I"⟩
abbrev cX10_hired : ByteArray := prog_12_method_65_code
def yX10_hired : MethodName := ⟨RX10, "hired", "(III)I"⟩
abbrev cX10_isQuiet : ByteArray := prog_12_method_66_code
def yX10_isQuiet : MethodName := ⟨RX10, "isQuiet", "(II)Z"⟩
abbrev cX10_way : ByteArray := prog_12_method_67_code
def yX10_way : MethodName := ⟨RX10, "way", "(III)I"⟩
abbrev cX10_tap : ByteArray := prog_12_method_68_code
def yX10_tap : MethodName := ⟨RX10, "tap", "(IIII)I"⟩
abbrev cX10_mayBe : ByteArray := prog_12_method_69_code
def yX10_mayBe : MethodName := ⟨RX10, "mayBe", "()I"⟩
abbrev cX10_odds : ByteArray := prog_12_method_70_code
def yX10_odds : MethodName := ⟨RX10, "odds", "(III)I"⟩
abbrev cX10_sheetRate : ByteArray := prog_12_method_71_code
def yX10_sheetRate : MethodName := ⟨RX10, "sheetRate", "(I)I"⟩
abbrev cX10_churchRate : ByteArray := prog_12_method_72_code
def yX10_churchRate : MethodName := ⟨RX10, "churchRate", "(I)I"⟩
abbrev cX10_snowRate : ByteArray := prog_12_method_73_code
def yX10_snowRate : MethodName := ⟨RX10, "snowRate", "(I)I"⟩
abbrev cX10_rate : ByteArray := prog_12_method_74_code
def yX10_rate : MethodName := ⟨RX10, "rate", "(II)I"⟩
abbrev cX10_keep : ByteArray := prog_12_method_75_code
def yX10_keep : MethodName := ⟨RX10, "keep", "(I)I"⟩
abbrev cX10_back : ByteArray := prog_12_method_76_code
def yX10_back : MethodName := ⟨RX10, "back", "(I)I"⟩
abbrev cX10_count : ByteArray := prog_12_method_77_code
def yX10_count : MethodName := ⟨RX10, "count", "(I)I"⟩
abbrev cX10_trace : ByteArray := prog_12_method_78_code
def yX10_trace : MethodName := ⟨RX10, "trace", "()J"⟩
def RJ6 : String := "java/lang/Integer"
def TJ6 : u_T := fun k => match k with
  | _ => ("", "", "", false)
def tyJ6 : Nat → FieldType := fun k => match k with
  | _ => .int
abbrev wsJ60 : List Cond := u_ws RJ6 TJ6 0
theorem nmJ6 : ∀ a, a < 0 → ∀ b, b < 0 → a ≠ b → (TJ6 a).2.1 ≠ (TJ6 b).2.1 := by decide +kernel
theorem tyJ6_ok : ∀ k, k < 0 → parseFieldDescriptor (TJ6 k).2.2.1 = some (tyJ6 k) := by decide +kernel
abbrev cJ6_bitCount_0f7a4 : ByteArray := prog_13_method_49_code
def yJ6_bitCount_0f7a4 : MethodName := ⟨RJ6, "bitCount", "(I)I"⟩
def RJ9 : String := "java/lang/Math"
def TJ9 : u_T := fun k => match k with
  | _ => ("", "", "", false)
def tyJ9 : Nat → FieldType := fun k => match k with
  | _ => .int
abbrev wsJ90 : List Cond := u_ws RJ9 TJ9 0
theorem nmJ9 : ∀ a, a < 0 → ∀ b, b < 0 → a ≠ b → (TJ9 a).2.1 ≠ (TJ9 b).2.1 := by decide +kernel
theorem tyJ9_ok : ∀ k, k < 0 → parseFieldDescriptor (TJ9 k).2.2.1 = some (tyJ9 k) := by decide +kernel
abbrev cJ9_max_7cf53 : ByteArray := prog_14_method_65_code
def yJ9_max_7cf53 : MethodName := ⟨RJ9, "max", "(II)I"⟩
abbrev cJ9_min_7cf53 : ByteArray := prog_14_method_69_code
def yJ9_min_7cf53 : MethodName := ⟨RJ9, "min", "(II)I"⟩
def RL : String := "QuietByYardLaw"
abbrev cL_law : ByteArray := code
def yL_law : MethodName := ⟨RL, "law", "([I)Z"⟩
abbrev vwCl : List vw_C := [(RX0, TX0, 4), (RX1, TX1, 7), (RX2, TX2, 2), (RX3, TX3, 8), (RX4, TX4, 4), (RX5, TX5, 3), (RX6, TX6, 3), (RX7, TX7, 2), (RX8, TX8, 7), (RX9, TX9, 15), (RX10, TX10, 43)]
end
section
theorem dX0_init_0 : decode cX0_init 0 = .ok (.aload_n 0, 1) := by decide +kernel
theorem dX0_init_1 : decode cX0_init 1 = .ok (.invokespecial 5, 3) := by decide +kernel
theorem dX0_init_4 : decode cX0_init 4 = .ok (.aload_n 0, 1) := by decide +kernel
theorem dX0_init_5 : decode cX0_init 5 = .ok (.ldc 11, 2) := by decide +kernel
theorem dX0_init_7 : decode cX0_init 7 = .ok (.putfield 12, 3) := by decide +kernel
theorem dX0_init_10 : decode cX0_init 10 = .ok (.aload_n 0, 1) := by decide +kernel
theorem dX0_init_11 : decode cX0_init 11 = .ok (.aload_n 1, 1) := by decide +kernel
theorem dX0_init_12 : decode cX0_init 12 = .ok (.putfield 16, 3) := by decide +kernel
theorem dX0_init_15 : decode cX0_init 15 = .ok (.aload_n 0, 1) := by decide +kernel
theorem dX0_init_16 : decode cX0_init 16 = .ok (.aload_n 2, 1) := by decide +kernel
theorem dX0_init_17 : decode cX0_init 17 = .ok (.putfield 20, 3) := by decide +kernel
theorem dX0_init_20 : decode cX0_init 20 = .ok (.aload_n 0, 1) := by decide +kernel
theorem dX0_init_21 : decode cX0_init 21 = .ok (.aload_n 3, 1) := by decide +kernel
theorem dX0_init_22 : decode cX0_init 22 = .ok (.putfield 24, 3) := by decide +kernel
theorem dX0_init_25 : decode cX0_init 25 = .ok (.return_, 1) := by decide +kernel
theorem dX0_search_0 : decode cX0_search 0 = .ok (.aload_n 0, 1) := by decide +kernel
theorem dX0_search_1 : decode cX0_search 1 = .ok (.getfield 16, 3) := by decide +kernel
theorem dX0_search_4 : decode cX0_search 4 = .ok (.getfield 28, 3) := by decide +kernel
theorem dX0_search_7 : decode cX0_search 7 = .ok (.invokevirtual 34, 3) := by decide +kernel
theorem dX0_search_10 : decode cX0_search 10 = .ok (.bipush 12, 2) := by decide +kernel
theorem dX0_search_12 : decode cX0_search 12 = .ok (.imul, 1) := by decide +kernel
theorem dX0_search_13 : decode cX0_search 13 = .ok (.istore_n 2, 1) := by decide +kernel
theorem dX0_search_14 : decode cX0_search 14 = .ok (.aload_n 0, 1) := by decide +kernel
theorem dX0_search_15 : decode cX0_search 15 = .ok (.getfield 20, 3) := by decide +kernel
theorem dX0_search_18 : decode cX0_search 18 = .ok (.aload_n 1, 1) := by decide +kernel
theorem dX0_search_19 : decode cX0_search 19 = .ok (.invokevirtual 40, 3) := by decide +kernel
theorem dX0_search_22 : decode cX0_search 22 = .ok (.aload_n 0, 1) := by decide +kernel
theorem dX0_search_23 : decode cX0_search 23 = .ok (.aload_n 0, 1) := by decide +kernel
theorem dX0_search_24 : decode cX0_search 24 = .ok (.getfield 24, 3) := by decide +kernel
theorem dX0_search_27 : decode cX0_search 27 = .ok (.invokevirtual 46, 3) := by decide +kernel
theorem dX0_search_30 : decode cX0_search 30 = .ok (.bipush (-9), 2) := by decide +kernel
theorem dX0_search_32 : decode cX0_search 32 = .ok (.if_icmp .ne 7, 3) := by decide +kernel
theorem dX0_search_35 : decode cX0_search 35 = .ok (.iconst 0, 1) := by decide +kernel
theorem dX0_search_36 : decode cX0_search 36 = .ok (.goto 5, 3) := by decide +kernel
theorem dX0_search_39 : decode cX0_search 39 = .ok (.ldc 11, 2) := by decide +kernel
theorem dX0_search_41 : decode cX0_search 41 = .ok (.putfield 12, 3) := by decide +kernel
theorem dX0_search_44 : decode cX0_search 44 = .ok (.iconst 0, 1) := by decide +kernel
theorem dX0_search_45 : decode cX0_search 45 = .ok (.istore_n 3, 1) := by decide +kernel
theorem dX0_search_46 : decode cX0_search 46 = .ok (.iload_n 3, 1) := by decide +kernel
theorem dX0_search_47 : decode cX0_search 47 = .ok (.iload_n 2, 1) := by decide +kernel
theorem dX0_search_48 : decode cX0_search 48 = .ok (.if_icmp .ge 91, 3) := by decide +kernel
theorem dX0_search_51 : decode cX0_search 51 = .ok (.aload_n 0, 1) := by decide +kernel
theorem dX0_search_52 : decode cX0_search 52 = .ok (.iload_n 3, 1) := by decide +kernel
theorem dX0_search_53 : decode cX0_search 53 = .ok (.iconst 0, 1) := by decide +kernel
theorem dX0_search_54 : decode cX0_search 54 = .ok (.aload_n 1, 1) := by decide +kernel
theorem dX0_search_55 : decode cX0_search 55 = .ok (.invokevirtual 51, 3) := by decide +kernel
theorem dX0_search_58 : decode cX0_search 58 = .ok (.ifCond .ne 6, 3) := by decide +kernel
theorem dX0_search_61 : decode cX0_search 61 = .ok (.goto 72, 3) := by decide +kernel
theorem dX0_search_64 : decode cX0_search 64 = .ok (.aload_n 0, 1) := by decide +kernel
theorem dX0_search_65 : decode cX0_search 65 = .ok (.iload_n 3, 1) := by decide +kernel
theorem dX0_search_66 : decode cX0_search 66 = .ok (.invokevirtual 55, 3) := by decide +kernel
theorem dX0_search_69 : decode cX0_search 69 = .ok (.istore 4, 2) := by decide +kernel
theorem dX0_search_71 : decode cX0_search 71 = .ok (.iload_n 3, 1) := by decide +kernel
theorem dX0_search_72 : decode cX0_search 72 = .ok (.bipush 12, 2) := by decide +kernel
theorem dX0_search_74 : decode cX0_search 74 = .ok (.idiv, 1) := by decide +kernel
theorem dX0_search_75 : decode cX0_search 75 = .ok (.iconst 1, 1) := by decide +kernel
theorem dX0_search_76 : decode cX0_search 76 = .ok (.iadd, 1) := by decide +kernel
theorem dX0_search_77 : decode cX0_search 77 = .ok (.bipush 12, 2) := by decide +kernel
theorem dX0_search_79 : decode cX0_search 79 = .ok (.imul, 1) := by decide +kernel
theorem dX0_search_80 : decode cX0_search 80 = .ok (.istore 5, 2) := by decide +kernel
theorem dX0_search_82 : decode cX0_search 82 = .ok (.iload 5, 2) := by decide +kernel
theorem dX0_search_84 : decode cX0_search 84 = .ok (.istore 6, 2) := by decide +kernel
theorem dX0_search_86 : decode cX0_search 86 = .ok (.iload 6, 2) := by decide +kernel
theorem dX0_search_88 : decode cX0_search 88 = .ok (.iload_n 2, 1) := by decide +kernel
theorem dX0_search_89 : decode cX0_search 89 = .ok (.if_icmp .ge 33, 3) := by decide +kernel
theorem dX0_search_92 : decode cX0_search 92 = .ok (.aload_n 0, 1) := by decide +kernel
theorem dX0_search_93 : decode cX0_search 93 = .ok (.iload 6, 2) := by decide +kernel
theorem dX0_search_95 : decode cX0_search 95 = .ok (.iload 4, 2) := by decide +kernel
theorem dX0_search_97 : decode cX0_search 97 = .ok (.aload_n 1, 1) := by decide +kernel
theorem dX0_search_98 : decode cX0_search 98 = .ok (.invokevirtual 51, 3) := by decide +kernel
theorem dX0_search_101 : decode cX0_search 101 = .ok (.ifCond .eq 15, 3) := by decide +kernel
theorem dX0_search_104 : decode cX0_search 104 = .ok (.aload_n 0, 1) := by decide +kernel
theorem dX0_search_105 : decode cX0_search 105 = .ok (.getfield 20, 3) := by decide +kernel
theorem dX0_search_108 : decode cX0_search 108 = .ok (.iload 6, 2) := by decide +kernel
theorem dX0_search_110 : decode cX0_search 110 = .ok (.bipush 12, 2) := by decide +kernel
theorem dX0_search_112 : decode cX0_search 112 = .ok (.idiv, 1) := by decide +kernel
theorem dX0_search_113 : decode cX0_search 113 = .ok (.invokevirtual 59, 3) := by decide +kernel
theorem dX0_search_116 : decode cX0_search 116 = .ok (.iinc 6 1, 3) := by decide +kernel
theorem dX0_search_119 : decode cX0_search 119 = .ok (.goto (-33), 3) := by decide +kernel
theorem dX0_search_122 : decode cX0_search 122 = .ok (.aload_n 0, 1) := by decide +kernel
theorem dX0_search_123 : decode cX0_search 123 = .ok (.getfield 20, 3) := by decide +kernel
theorem dX0_search_126 : decode cX0_search 126 = .ok (.iload_n 3, 1) := by decide +kernel
theorem dX0_search_127 : decode cX0_search 127 = .ok (.bipush 12, 2) := by decide +kernel
theorem dX0_search_129 : decode cX0_search 129 = .ok (.idiv, 1) := by decide +kernel
theorem dX0_search_130 : decode cX0_search 130 = .ok (.invokevirtual 59, 3) := by decide +kernel
theorem dX0_search_133 : decode cX0_search 133 = .ok (.iinc 3 1, 3) := by decide +kernel
theorem dX0_search_136 : decode cX0_search 136 = .ok (.goto (-90), 3) := by decide +kernel
theorem dX0_search_139 : decode cX0_search 139 = .ok (.return_, 1) := by decide +kernel
theorem dX0_tryLaying_0 : decode cX0_tryLaying 0 = .ok (.iload_n 1, 1) := by decide +kernel
theorem dX0_tryLaying_1 : decode cX0_tryLaying 1 = .ok (.bipush 12, 2) := by decide +kernel
theorem dX0_tryLaying_3 : decode cX0_tryLaying 3 = .ok (.idiv, 1) := by decide +kernel
theorem dX0_tryLaying_4 : decode cX0_tryLaying 4 = .ok (.istore 4, 2) := by decide +kernel
theorem dX0_tryLaying_6 : decode cX0_tryLaying 6 = .ok (.iload_n 1, 1) := by decide +kernel
theorem dX0_tryLaying_7 : decode cX0_tryLaying 7 = .ok (.bipush 12, 2) := by decide +kernel
theorem dX0_tryLaying_9 : decode cX0_tryLaying 9 = .ok (.irem, 1) := by decide +kernel
theorem dX0_tryLaying_10 : decode cX0_tryLaying 10 = .ok (.istore 5, 2) := by decide +kernel
theorem dX0_tryLaying_12 : decode cX0_tryLaying 12 = .ok (.iload_n 2, 1) := by decide +kernel
theorem dX0_tryLaying_13 : decode cX0_tryLaying 13 = .ok (.aload_n 0, 1) := by decide +kernel
theorem dX0_tryLaying_14 : decode cX0_tryLaying 14 = .ok (.iload_n 1, 1) := by decide +kernel
theorem dX0_tryLaying_15 : decode cX0_tryLaying 15 = .ok (.invokevirtual 55, 3) := by decide +kernel
theorem dX0_tryLaying_18 : decode cX0_tryLaying 18 = .ok (.iadd, 1) := by decide +kernel
theorem dX0_tryLaying_19 : decode cX0_tryLaying 19 = .ok (.istore 6, 2) := by decide +kernel
theorem dX0_tryLaying_21 : decode cX0_tryLaying 21 = .ok (.iload 6, 2) := by decide +kernel
theorem dX0_tryLaying_23 : decode cX0_tryLaying 23 = .ok (.aload_n 0, 1) := by decide +kernel
theorem dX0_tryLaying_24 : decode cX0_tryLaying 24 = .ok (.getfield 12, 3) := by decide +kernel
theorem dX0_tryLaying_27 : decode cX0_tryLaying 27 = .ok (.if_icmp .ge 26, 3) := by decide +kernel
theorem dX0_tryLaying_30 : decode cX0_tryLaying 30 = .ok (.aload_n 3, 1) := by decide +kernel
theorem dX0_tryLaying_31 : decode cX0_tryLaying 31 = .ok (.iload 4, 2) := by decide +kernel
theorem dX0_tryLaying_33 : decode cX0_tryLaying 33 = .ok (.invokevirtual 63, 3) := by decide +kernel
theorem dX0_tryLaying_36 : decode cX0_tryLaying 36 = .ok (.ifCond .ne 17, 3) := by decide +kernel
theorem dX0_tryLaying_39 : decode cX0_tryLaying 39 = .ok (.aload_n 0, 1) := by decide +kernel
theorem dX0_tryLaying_40 : decode cX0_tryLaying 40 = .ok (.getfield 20, 3) := by decide +kernel
theorem dX0_tryLaying_43 : decode cX0_tryLaying 43 = .ok (.iload 4, 2) := by decide +kernel
theorem dX0_tryLaying_45 : decode cX0_tryLaying 45 = .ok (.iload 5, 2) := by decide +kernel
theorem dX0_tryLaying_47 : decode cX0_tryLaying 47 = .ok (.invokevirtual 69, 3) := by decide +kernel
theorem dX0_tryLaying_50 : decode cX0_tryLaying 50 = .ok (.ifCond .ne 5, 3) := by decide +kernel
theorem dX0_tryLaying_53 : decode cX0_tryLaying 53 = .ok (.iconst 0, 1) := by decide +kernel
theorem dX0_tryLaying_54 : decode cX0_tryLaying 54 = .ok (.ireturn, 1) := by decide +kernel
theorem dX0_tryLaying_55 : decode cX0_tryLaying 55 = .ok (.aload_n 0, 1) := by decide +kernel
theorem dX0_tryLaying_56 : decode cX0_tryLaying 56 = .ok (.getfield 20, 3) := by decide +kernel
theorem dX0_tryLaying_59 : decode cX0_tryLaying 59 = .ok (.iload 4, 2) := by decide +kernel
theorem dX0_tryLaying_61 : decode cX0_tryLaying 61 = .ok (.iload 5, 2) := by decide +kernel
theorem dX0_tryLaying_63 : decode cX0_tryLaying 63 = .ok (.invokevirtual 73, 3) := by decide +kernel
theorem dX0_tryLaying_66 : decode cX0_tryLaying 66 = .ok (.aload_n 0, 1) := by decide +kernel
theorem dX0_tryLaying_67 : decode cX0_tryLaying 67 = .ok (.getfield 24, 3) := by decide +kernel
theorem dX0_tryLaying_70 : decode cX0_tryLaying 70 = .ok (.invokevirtual 46, 3) := by decide +kernel
theorem dX0_tryLaying_73 : decode cX0_tryLaying 73 = .ok (.bipush (-9), 2) := by decide +kernel
theorem dX0_tryLaying_75 : decode cX0_tryLaying 75 = .ok (.if_icmp .ne 9, 3) := by decide +kernel
theorem dX0_tryLaying_78 : decode cX0_tryLaying 78 = .ok (.aload_n 0, 1) := by decide +kernel
theorem dX0_tryLaying_79 : decode cX0_tryLaying 79 = .ok (.iload 6, 2) := by decide +kernel
theorem dX0_tryLaying_81 : decode cX0_tryLaying 81 = .ok (.putfield 12, 3) := by decide +kernel
theorem dX0_tryLaying_84 : decode cX0_tryLaying 84 = .ok (.iconst 1, 1) := by decide +kernel
theorem dX0_tryLaying_85 : decode cX0_tryLaying 85 = .ok (.ireturn, 1) := by decide +kernel
theorem dX0_rankOf_0 : decode cX0_rankOf 0 = .ok (.iload_n 1, 1) := by decide +kernel
theorem dX0_rankOf_1 : decode cX0_rankOf 1 = .ok (.bipush 12, 2) := by decide +kernel
theorem dX0_rankOf_3 : decode cX0_rankOf 3 = .ok (.idiv, 1) := by decide +kernel
theorem dX0_rankOf_4 : decode cX0_rankOf 4 = .ok (.istore_n 2, 1) := by decide +kernel
theorem dX0_rankOf_5 : decode cX0_rankOf 5 = .ok (.iload_n 1, 1) := by decide +kernel
theorem dX0_rankOf_6 : decode cX0_rankOf 6 = .ok (.bipush 12, 2) := by decide +kernel
theorem dX0_rankOf_8 : decode cX0_rankOf 8 = .ok (.irem, 1) := by decide +kernel
theorem dX0_rankOf_9 : decode cX0_rankOf 9 = .ok (.iconst 1, 1) := by decide +kernel
theorem dX0_rankOf_10 : decode cX0_rankOf 10 = .ok (.iadd, 1) := by decide +kernel
theorem dX0_rankOf_11 : decode cX0_rankOf 11 = .ok (.istore_n 3, 1) := by decide +kernel
theorem dX0_rankOf_12 : decode cX0_rankOf 12 = .ok (.iconst 3, 1) := by decide +kernel
theorem dX0_rankOf_13 : decode cX0_rankOf 13 = .ok (.istore 4, 2) := by decide +kernel
theorem dX0_rankOf_15 : decode cX0_rankOf 15 = .ok (.iload 4, 2) := by decide +kernel
theorem dX0_rankOf_17 : decode cX0_rankOf 17 = .ok (.iload_n 2, 1) := by decide +kernel
theorem dX0_rankOf_18 : decode cX0_rankOf 18 = .ok (.if_icmp .le 14, 3) := by decide +kernel
theorem dX0_rankOf_21 : decode cX0_rankOf 21 = .ok (.iload_n 3, 1) := by decide +kernel
theorem dX0_rankOf_22 : decode cX0_rankOf 22 = .ok (.bipush 13, 2) := by decide +kernel
theorem dX0_rankOf_24 : decode cX0_rankOf 24 = .ok (.imul, 1) := by decide +kernel
theorem dX0_rankOf_25 : decode cX0_rankOf 25 = .ok (.istore_n 3, 1) := by decide +kernel
theorem dX0_rankOf_26 : decode cX0_rankOf 26 = .ok (.iinc 4 (-1), 3) := by decide +kernel
theorem dX0_rankOf_29 : decode cX0_rankOf 29 = .ok (.goto (-14), 3) := by decide +kernel
theorem dX0_rankOf_32 : decode cX0_rankOf 32 = .ok (.aload_n 0, 1) := by decide +kernel
theorem dX0_rankOf_33 : decode cX0_rankOf 33 = .ok (.getfield 16, 3) := by decide +kernel
theorem dX0_rankOf_36 : decode cX0_rankOf 36 = .ok (.getfield 28, 3) := by decide +kernel
theorem dX0_rankOf_39 : decode cX0_rankOf 39 = .ok (.iload_n 2, 1) := by decide +kernel
theorem dX0_rankOf_40 : decode cX0_rankOf 40 = .ok (.iconst 3, 1) := by decide +kernel
theorem dX0_rankOf_41 : decode cX0_rankOf 41 = .ok (.invokevirtual 77, 3) := by decide +kernel
theorem dX0_rankOf_44 : decode cX0_rankOf 44 = .ok (.sipush 28561, 3) := by decide +kernel
theorem dX0_rankOf_47 : decode cX0_rankOf 47 = .ok (.imul, 1) := by decide +kernel
theorem dX0_rankOf_48 : decode cX0_rankOf 48 = .ok (.iload_n 3, 1) := by decide +kernel
theorem dX0_rankOf_49 : decode cX0_rankOf 49 = .ok (.iadd, 1) := by decide +kernel
theorem dX0_rankOf_50 : decode cX0_rankOf 50 = .ok (.ireturn, 1) := by decide +kernel
theorem dX0_hasFound_0 : decode cX0_hasFound 0 = .ok (.aload_n 0, 1) := by decide +kernel
theorem dX0_hasFound_1 : decode cX0_hasFound 1 = .ok (.getfield 12, 3) := by decide +kernel
theorem dX0_hasFound_4 : decode cX0_hasFound 4 = .ok (.ldc 11, 2) := by decide +kernel
theorem dX0_hasFound_6 : decode cX0_hasFound 6 = .ok (.if_icmp .ge 7, 3) := by decide +kernel
theorem dX0_hasFound_9 : decode cX0_hasFound 9 = .ok (.iconst 1, 1) := by decide +kernel
theorem dX0_hasFound_10 : decode cX0_hasFound 10 = .ok (.goto 4, 3) := by decide +kernel
theorem dX0_hasFound_13 : decode cX0_hasFound 13 = .ok (.iconst 0, 1) := by decide +kernel
theorem dX0_hasFound_14 : decode cX0_hasFound 14 = .ok (.ireturn, 1) := by decide +kernel
theorem dX0_price_0 : decode cX0_price 0 = .ok (.aload_n 0, 1) := by decide +kernel
theorem dX0_price_1 : decode cX0_price 1 = .ok (.getfield 12, 3) := by decide +kernel
theorem dX0_price_4 : decode cX0_price 4 = .ok (.sipush 28561, 3) := by decide +kernel
theorem dX0_price_7 : decode cX0_price 7 = .ok (.idiv, 1) := by decide +kernel
theorem dX0_price_8 : decode cX0_price 8 = .ok (.ireturn, 1) := by decide +kernel
theorem dX0_cellOf_0 : decode cX0_cellOf 0 = .ok (.aload_n 0, 1) := by decide +kernel
theorem dX0_cellOf_1 : decode cX0_cellOf 1 = .ok (.getfield 12, 3) := by decide +kernel
theorem dX0_cellOf_4 : decode cX0_cellOf 4 = .ok (.istore_n 2, 1) := by decide +kernel
theorem dX0_cellOf_5 : decode cX0_cellOf 5 = .ok (.iconst 3, 1) := by decide +kernel
theorem dX0_cellOf_6 : decode cX0_cellOf 6 = .ok (.istore_n 3, 1) := by decide +kernel
theorem dX0_cellOf_7 : decode cX0_cellOf 7 = .ok (.iload_n 3, 1) := by decide +kernel
theorem dX0_cellOf_8 : decode cX0_cellOf 8 = .ok (.iload_n 1, 1) := by decide +kernel
theorem dX0_cellOf_9 : decode cX0_cellOf 9 = .ok (.if_icmp .le 14, 3) := by decide +kernel
theorem dX0_cellOf_12 : decode cX0_cellOf 12 = .ok (.iload_n 2, 1) := by decide +kernel
theorem dX0_cellOf_13 : decode cX0_cellOf 13 = .ok (.bipush 13, 2) := by decide +kernel
theorem dX0_cellOf_15 : decode cX0_cellOf 15 = .ok (.idiv, 1) := by decide +kernel
theorem dX0_cellOf_16 : decode cX0_cellOf 16 = .ok (.istore_n 2, 1) := by decide +kernel
theorem dX0_cellOf_17 : decode cX0_cellOf 17 = .ok (.iinc 3 (-1), 3) := by decide +kernel
theorem dX0_cellOf_20 : decode cX0_cellOf 20 = .ok (.goto (-13), 3) := by decide +kernel
theorem dX0_cellOf_23 : decode cX0_cellOf 23 = .ok (.iload_n 2, 1) := by decide +kernel
theorem dX0_cellOf_24 : decode cX0_cellOf 24 = .ok (.bipush 13, 2) := by decide +kernel
theorem dX0_cellOf_26 : decode cX0_cellOf 26 = .ok (.irem, 1) := by decide +kernel
theorem dX0_cellOf_27 : decode cX0_cellOf 27 = .ok (.ifCond .ne 8, 3) := by decide +kernel
theorem dX0_cellOf_30 : decode cX0_cellOf 30 = .ok (.bipush (-5), 2) := by decide +kernel
theorem dX0_cellOf_32 : decode cX0_cellOf 32 = .ok (.goto 9, 3) := by decide +kernel
theorem dX0_cellOf_35 : decode cX0_cellOf 35 = .ok (.iload_n 2, 1) := by decide +kernel
theorem dX0_cellOf_36 : decode cX0_cellOf 36 = .ok (.bipush 13, 2) := by decide +kernel
theorem dX0_cellOf_38 : decode cX0_cellOf 38 = .ok (.irem, 1) := by decide +kernel
theorem dX0_cellOf_39 : decode cX0_cellOf 39 = .ok (.iconst 1, 1) := by decide +kernel
theorem dX0_cellOf_40 : decode cX0_cellOf 40 = .ok (.isub, 1) := by decide +kernel
theorem dX0_cellOf_41 : decode cX0_cellOf 41 = .ok (.ireturn, 1) := by decide +kernel
theorem dX1_init_0 : decode cX1_init 0 = .ok (.aload_n 0, 1) := by decide +kernel
theorem dX1_init_1 : decode cX1_init 1 = .ok (.invokespecial 3, 3) := by decide +kernel
theorem dX1_init_4 : decode cX1_init 4 = .ok (.aload_n 0, 1) := by decide +kernel
theorem dX1_init_5 : decode cX1_init 5 = .ok (.bipush 12, 2) := by decide +kernel
theorem dX1_init_7 : decode cX1_init 7 = .ok (.newarray .int, 2) := by decide +kernel
theorem dX1_init_9 : decode cX1_init 9 = .ok (.putfield 9, 3) := by decide +kernel
theorem dX1_init_12 : decode cX1_init 12 = .ok (.aload_n 0, 1) := by decide +kernel
theorem dX1_init_13 : decode cX1_init 13 = .ok (.iconst 4, 1) := by decide +kernel
theorem dX1_init_14 : decode cX1_init 14 = .ok (.newarray .int, 2) := by decide +kernel
theorem dX1_init_16 : decode cX1_init 16 = .ok (.putfield 15, 3) := by decide +kernel
theorem dX1_init_19 : decode cX1_init 19 = .ok (.aload_n 0, 1) := by decide +kernel
theorem dX1_init_20 : decode cX1_init 20 = .ok (.bipush 48, 2) := by decide +kernel
theorem dX1_init_22 : decode cX1_init 22 = .ok (.newarray .int, 2) := by decide +kernel
theorem dX1_init_24 : decode cX1_init 24 = .ok (.putfield 18, 3) := by decide +kernel
theorem dX1_init_27 : decode cX1_init 27 = .ok (.aload_n 0, 1) := by decide +kernel
theorem dX1_init_28 : decode cX1_init 28 = .ok (.bipush 48, 2) := by decide +kernel
theorem dX1_init_30 : decode cX1_init 30 = .ok (.newarray .int, 2) := by decide +kernel
theorem dX1_init_32 : decode cX1_init 32 = .ok (.putfield 21, 3) := by decide +kernel
theorem dX1_init_35 : decode cX1_init 35 = .ok (.aload_n 0, 1) := by decide +kernel
theorem dX1_init_36 : decode cX1_init 36 = .ok (.sipush 144, 3) := by decide +kernel
theorem dX1_init_39 : decode cX1_init 39 = .ok (.newarray .int, 2) := by decide +kernel
theorem dX1_init_41 : decode cX1_init 41 = .ok (.putfield 24, 3) := by decide +kernel
theorem dX1_init_44 : decode cX1_init 44 = .ok (.aload_n 0, 1) := by decide +kernel
theorem dX1_init_45 : decode cX1_init 45 = .ok (.bipush 12, 2) := by decide +kernel
theorem dX1_init_47 : decode cX1_init 47 = .ok (.newarray .boolean, 2) := by decide +kernel
theorem dX1_init_49 : decode cX1_init 49 = .ok (.putfield 27, 3) := by decide +kernel
theorem dX1_init_52 : decode cX1_init 52 = .ok (.aload_n 0, 1) := by decide +kernel
theorem dX1_init_53 : decode cX1_init 53 = .ok (.aload_n 1, 1) := by decide +kernel
theorem dX1_init_54 : decode cX1_init 54 = .ok (.putfield 31, 3) := by decide +kernel
theorem dX1_init_57 : decode cX1_init 57 = .ok (.aload_n 0, 1) := by decide +kernel
theorem dX1_init_58 : decode cX1_init 58 = .ok (.invokevirtual 35, 3) := by decide +kernel
theorem dX1_init_61 : decode cX1_init 61 = .ok (.return_, 1) := by decide +kernel
theorem dX1_measure_0 : decode cX1_measure 0 = .ok (.iconst 0, 1) := by decide +kernel
theorem dX1_measure_1 : decode cX1_measure 1 = .ok (.istore_n 1, 1) := by decide +kernel
theorem dX1_measure_2 : decode cX1_measure 2 = .ok (.iload_n 1, 1) := by decide +kernel
theorem dX1_measure_3 : decode cX1_measure 3 = .ok (.bipush 12, 2) := by decide +kernel
theorem dX1_measure_5 : decode cX1_measure 5 = .ok (.if_icmp .ge 54, 3) := by decide +kernel
theorem dX1_measure_8 : decode cX1_measure 8 = .ok (.iconst 0, 1) := by decide +kernel
theorem dX1_measure_9 : decode cX1_measure 9 = .ok (.istore_n 2, 1) := by decide +kernel
theorem dX1_measure_10 : decode cX1_measure 10 = .ok (.iload_n 2, 1) := by decide +kernel
theorem dX1_measure_11 : decode cX1_measure 11 = .ok (.iconst 4, 1) := by decide +kernel
theorem dX1_measure_12 : decode cX1_measure 12 = .ok (.if_icmp .ge 41, 3) := by decide +kernel
theorem dX1_measure_15 : decode cX1_measure 15 = .ok (.aload_n 0, 1) := by decide +kernel
theorem dX1_measure_16 : decode cX1_measure 16 = .ok (.getfield 18, 3) := by decide +kernel
theorem dX1_measure_19 : decode cX1_measure 19 = .ok (.iload_n 1, 1) := by decide +kernel
theorem dX1_measure_20 : decode cX1_measure 20 = .ok (.iconst 4, 1) := by decide +kernel
theorem dX1_measure_21 : decode cX1_measure 21 = .ok (.imul, 1) := by decide +kernel
theorem dX1_measure_22 : decode cX1_measure 22 = .ok (.iload_n 2, 1) := by decide +kernel
theorem dX1_measure_23 : decode cX1_measure 23 = .ok (.iadd, 1) := by decide +kernel
theorem dX1_measure_24 : decode cX1_measure 24 = .ok (.aload_n 0, 1) := by decide +kernel
theorem dX1_measure_25 : decode cX1_measure 25 = .ok (.getfield 31, 3) := by decide +kernel
theorem dX1_measure_28 : decode cX1_measure 28 = .ok (.iload_n 1, 1) := by decide +kernel
theorem dX1_measure_29 : decode cX1_measure 29 = .ok (.invokevirtual 38, 3) := by decide +kernel
theorem dX1_measure_32 : decode cX1_measure 32 = .ok (.ifCond .eq 12, 3) := by decide +kernel
theorem dX1_measure_35 : decode cX1_measure 35 = .ok (.aload_n 0, 1) := by decide +kernel
theorem dX1_measure_36 : decode cX1_measure 36 = .ok (.iload_n 1, 1) := by decide +kernel
theorem dX1_measure_37 : decode cX1_measure 37 = .ok (.iload_n 2, 1) := by decide +kernel
theorem dX1_measure_38 : decode cX1_measure 38 = .ok (.invokevirtual 44, 3) := by decide +kernel
theorem dX1_measure_41 : decode cX1_measure 41 = .ok (.goto 5, 3) := by decide +kernel
theorem dX1_measure_44 : decode cX1_measure 44 = .ok (.bipush (-9), 2) := by decide +kernel
theorem dX1_measure_46 : decode cX1_measure 46 = .ok (.iastore, 1) := by decide +kernel
theorem dX1_measure_47 : decode cX1_measure 47 = .ok (.iinc 2 1, 3) := by decide +kernel
theorem dX1_measure_50 : decode cX1_measure 50 = .ok (.goto (-40), 3) := by decide +kernel
theorem dX1_measure_53 : decode cX1_measure 53 = .ok (.iinc 1 1, 3) := by decide +kernel
theorem dX1_measure_56 : decode cX1_measure 56 = .ok (.goto (-54), 3) := by decide +kernel
theorem dX1_measure_59 : decode cX1_measure 59 = .ok (.return_, 1) := by decide +kernel
theorem dX1_neighbour_0 : decode cX1_neighbour 0 = .ok (.aload_n 0, 1) := by decide +kernel
theorem dX1_neighbour_1 : decode cX1_neighbour 1 = .ok (.getfield 31, 3) := by decide +kernel
theorem dX1_neighbour_4 : decode cX1_neighbour 4 = .ok (.getfield 48, 3) := by decide +kernel
theorem dX1_neighbour_7 : decode cX1_neighbour 7 = .ok (.istore_n 3, 1) := by decide +kernel
theorem dX1_neighbour_8 : decode cX1_neighbour 8 = .ok (.iload_n 3, 1) := by decide +kernel
theorem dX1_neighbour_9 : decode cX1_neighbour 9 = .ok (.iconst 1, 1) := by decide +kernel
theorem dX1_neighbour_10 : decode cX1_neighbour 10 = .ok (.if_icmp .ge 6, 3) := by decide +kernel
theorem dX1_neighbour_13 : decode cX1_neighbour 13 = .ok (.bipush (-9), 2) := by decide +kernel
theorem dX1_neighbour_15 : decode cX1_neighbour 15 = .ok (.ireturn, 1) := by decide +kernel
theorem dX1_neighbour_16 : decode cX1_neighbour 16 = .ok (.iload_n 2, 1) := by decide +kernel
theorem dX1_neighbour_17 : decode cX1_neighbour 17 = .ok (.tableswitch 74 0 2 #[27, 41, 56], 27) := by decide +kernel
theorem dX1_neighbour_44 : decode cX1_neighbour 44 = .ok (.iload_n 1, 1) := by decide +kernel
theorem dX1_neighbour_45 : decode cX1_neighbour 45 = .ok (.iload_n 3, 1) := by decide +kernel
theorem dX1_neighbour_46 : decode cX1_neighbour 46 = .ok (.if_icmp .lt 9, 3) := by decide +kernel
theorem dX1_neighbour_49 : decode cX1_neighbour 49 = .ok (.iload_n 1, 1) := by decide +kernel
theorem dX1_neighbour_50 : decode cX1_neighbour 50 = .ok (.iload_n 3, 1) := by decide +kernel
theorem dX1_neighbour_51 : decode cX1_neighbour 51 = .ok (.isub, 1) := by decide +kernel
theorem dX1_neighbour_52 : decode cX1_neighbour 52 = .ok (.goto 5, 3) := by decide +kernel
theorem dX1_neighbour_55 : decode cX1_neighbour 55 = .ok (.bipush (-9), 2) := by decide +kernel
theorem dX1_neighbour_57 : decode cX1_neighbour 57 = .ok (.ireturn, 1) := by decide +kernel
theorem dX1_neighbour_58 : decode cX1_neighbour 58 = .ok (.iload_n 1, 1) := by decide +kernel
theorem dX1_neighbour_59 : decode cX1_neighbour 59 = .ok (.iload_n 3, 1) := by decide +kernel
theorem dX1_neighbour_60 : decode cX1_neighbour 60 = .ok (.irem, 1) := by decide +kernel
theorem dX1_neighbour_61 : decode cX1_neighbour 61 = .ok (.ifCond .le 9, 3) := by decide +kernel
theorem dX1_neighbour_64 : decode cX1_neighbour 64 = .ok (.iload_n 1, 1) := by decide +kernel
theorem dX1_neighbour_65 : decode cX1_neighbour 65 = .ok (.iconst 1, 1) := by decide +kernel
theorem dX1_neighbour_66 : decode cX1_neighbour 66 = .ok (.isub, 1) := by decide +kernel
theorem dX1_neighbour_67 : decode cX1_neighbour 67 = .ok (.goto 5, 3) := by decide +kernel
theorem dX1_neighbour_70 : decode cX1_neighbour 70 = .ok (.bipush (-9), 2) := by decide +kernel
theorem dX1_neighbour_72 : decode cX1_neighbour 72 = .ok (.ireturn, 1) := by decide +kernel
theorem dX1_neighbour_73 : decode cX1_neighbour 73 = .ok (.iload_n 1, 1) := by decide +kernel
theorem dX1_neighbour_74 : decode cX1_neighbour 74 = .ok (.iload_n 3, 1) := by decide +kernel
theorem dX1_neighbour_75 : decode cX1_neighbour 75 = .ok (.irem, 1) := by decide +kernel
theorem dX1_neighbour_76 : decode cX1_neighbour 76 = .ok (.iload_n 3, 1) := by decide +kernel
theorem dX1_neighbour_77 : decode cX1_neighbour 77 = .ok (.iconst 1, 1) := by decide +kernel
theorem dX1_neighbour_78 : decode cX1_neighbour 78 = .ok (.isub, 1) := by decide +kernel
theorem dX1_neighbour_79 : decode cX1_neighbour 79 = .ok (.if_icmp .ge 9, 3) := by decide +kernel
theorem dX1_neighbour_82 : decode cX1_neighbour 82 = .ok (.iload_n 1, 1) := by decide +kernel
theorem dX1_neighbour_83 : decode cX1_neighbour 83 = .ok (.iconst 1, 1) := by decide +kernel
theorem dX1_neighbour_84 : decode cX1_neighbour 84 = .ok (.iadd, 1) := by decide +kernel
theorem dX1_neighbour_85 : decode cX1_neighbour 85 = .ok (.goto 5, 3) := by decide +kernel
theorem dX1_neighbour_88 : decode cX1_neighbour 88 = .ok (.bipush (-9), 2) := by decide +kernel
theorem dX1_neighbour_90 : decode cX1_neighbour 90 = .ok (.ireturn, 1) := by decide +kernel
theorem dX1_neighbour_91 : decode cX1_neighbour 91 = .ok (.aload_n 0, 1) := by decide +kernel
theorem dX1_neighbour_92 : decode cX1_neighbour 92 = .ok (.getfield 31, 3) := by decide +kernel
theorem dX1_neighbour_95 : decode cX1_neighbour 95 = .ok (.iload_n 1, 1) := by decide +kernel
theorem dX1_neighbour_96 : decode cX1_neighbour 96 = .ok (.iload_n 3, 1) := by decide +kernel
theorem dX1_neighbour_97 : decode cX1_neighbour 97 = .ok (.iadd, 1) := by decide +kernel
theorem dX1_neighbour_98 : decode cX1_neighbour 98 = .ok (.invokevirtual 38, 3) := by decide +kernel
theorem dX1_neighbour_101 : decode cX1_neighbour 101 = .ok (.ifCond .eq 9, 3) := by decide +kernel
theorem dX1_neighbour_104 : decode cX1_neighbour 104 = .ok (.iload_n 1, 1) := by decide +kernel
theorem dX1_neighbour_105 : decode cX1_neighbour 105 = .ok (.iload_n 3, 1) := by decide +kernel
theorem dX1_neighbour_106 : decode cX1_neighbour 106 = .ok (.iadd, 1) := by decide +kernel
theorem dX1_neighbour_107 : decode cX1_neighbour 107 = .ok (.goto 5, 3) := by decide +kernel
theorem dX1_neighbour_110 : decode cX1_neighbour 110 = .ok (.bipush (-9), 2) := by decide +kernel
theorem dX1_neighbour_112 : decode cX1_neighbour 112 = .ok (.ireturn, 1) := by decide +kernel
theorem dX1_nextTo_0 : decode cX1_nextTo 0 = .ok (.aload_n 0, 1) := by decide +kernel
theorem dX1_nextTo_1 : decode cX1_nextTo 1 = .ok (.getfield 31, 3) := by decide +kernel
theorem dX1_nextTo_4 : decode cX1_nextTo 4 = .ok (.iload_n 1, 1) := by decide +kernel
theorem dX1_nextTo_5 : decode cX1_nextTo 5 = .ok (.invokevirtual 38, 3) := by decide +kernel
theorem dX1_nextTo_8 : decode cX1_nextTo 8 = .ok (.ifCond .eq 25, 3) := by decide +kernel
theorem dX1_nextTo_11 : decode cX1_nextTo 11 = .ok (.iload_n 2, 1) := by decide +kernel
theorem dX1_nextTo_12 : decode cX1_nextTo 12 = .ok (.ifCond .lt 21, 3) := by decide +kernel
theorem dX1_nextTo_15 : decode cX1_nextTo 15 = .ok (.iload_n 2, 1) := by decide +kernel
theorem dX1_nextTo_16 : decode cX1_nextTo 16 = .ok (.iconst 4, 1) := by decide +kernel
theorem dX1_nextTo_17 : decode cX1_nextTo 17 = .ok (.if_icmp .ge 16, 3) := by decide +kernel
theorem dX1_nextTo_20 : decode cX1_nextTo 20 = .ok (.aload_n 0, 1) := by decide +kernel
theorem dX1_nextTo_21 : decode cX1_nextTo 21 = .ok (.getfield 18, 3) := by decide +kernel
theorem dX1_nextTo_24 : decode cX1_nextTo 24 = .ok (.iload_n 1, 1) := by decide +kernel
theorem dX1_nextTo_25 : decode cX1_nextTo 25 = .ok (.iconst 4, 1) := by decide +kernel
theorem dX1_nextTo_26 : decode cX1_nextTo 26 = .ok (.imul, 1) := by decide +kernel
theorem dX1_nextTo_27 : decode cX1_nextTo 27 = .ok (.iload_n 2, 1) := by decide +kernel
theorem dX1_nextTo_28 : decode cX1_nextTo 28 = .ok (.iadd, 1) := by decide +kernel
theorem dX1_nextTo_29 : decode cX1_nextTo 29 = .ok (.iaload, 1) := by decide +kernel
theorem dX1_nextTo_30 : decode cX1_nextTo 30 = .ok (.goto 5, 3) := by decide +kernel
theorem dX1_nextTo_33 : decode cX1_nextTo 33 = .ok (.bipush (-9), 2) := by decide +kernel
theorem dX1_nextTo_35 : decode cX1_nextTo 35 = .ok (.ireturn, 1) := by decide +kernel
theorem dX1_show_0 : decode cX1_show 0 = .ok (.iconst 0, 1) := by decide +kernel
theorem dX1_show_1 : decode cX1_show 1 = .ok (.istore_n 2, 1) := by decide +kernel
theorem dX1_show_2 : decode cX1_show 2 = .ok (.iload_n 2, 1) := by decide +kernel
theorem dX1_show_3 : decode cX1_show 3 = .ok (.bipush 12, 2) := by decide +kernel
theorem dX1_show_5 : decode cX1_show 5 = .ok (.if_icmp .ge 17, 3) := by decide +kernel
theorem dX1_show_8 : decode cX1_show 8 = .ok (.aload_n 0, 1) := by decide +kernel
theorem dX1_show_9 : decode cX1_show 9 = .ok (.getfield 9, 3) := by decide +kernel
theorem dX1_show_12 : decode cX1_show 12 = .ok (.iload_n 2, 1) := by decide +kernel
theorem dX1_show_13 : decode cX1_show 13 = .ok (.bipush (-9), 2) := by decide +kernel
theorem dX1_show_15 : decode cX1_show 15 = .ok (.iastore, 1) := by decide +kernel
theorem dX1_show_16 : decode cX1_show 16 = .ok (.iinc 2 1, 3) := by decide +kernel
theorem dX1_show_19 : decode cX1_show 19 = .ok (.goto (-17), 3) := by decide +kernel
theorem dX1_show_22 : decode cX1_show 22 = .ok (.iconst 0, 1) := by decide +kernel
theorem dX1_show_23 : decode cX1_show 23 = .ok (.istore_n 2, 1) := by decide +kernel
theorem dX1_show_24 : decode cX1_show 24 = .ok (.iload_n 2, 1) := by decide +kernel
theorem dX1_show_25 : decode cX1_show 25 = .ok (.aload_n 0, 1) := by decide +kernel
theorem dX1_show_26 : decode cX1_show 26 = .ok (.getfield 31, 3) := by decide +kernel
theorem dX1_show_29 : decode cX1_show 29 = .ok (.getfield 52, 3) := by decide +kernel
theorem dX1_show_32 : decode cX1_show 32 = .ok (.invokevirtual 56, 3) := by decide +kernel
theorem dX1_show_35 : decode cX1_show 35 = .ok (.if_icmp .ge 47, 3) := by decide +kernel
theorem dX1_show_38 : decode cX1_show 38 = .ok (.iload_n 2, 1) := by decide +kernel
theorem dX1_show_39 : decode cX1_show 39 = .ok (.iconst 4, 1) := by decide +kernel
theorem dX1_show_40 : decode cX1_show 40 = .ok (.if_icmp .ge 42, 3) := by decide +kernel
theorem dX1_show_43 : decode cX1_show 43 = .ok (.aload_n 0, 1) := by decide +kernel
theorem dX1_show_44 : decode cX1_show 44 = .ok (.getfield 15, 3) := by decide +kernel
theorem dX1_show_47 : decode cX1_show 47 = .ok (.iload_n 2, 1) := by decide +kernel
theorem dX1_show_48 : decode cX1_show 48 = .ok (.aload_n 0, 1) := by decide +kernel
theorem dX1_show_49 : decode cX1_show 49 = .ok (.getfield 31, 3) := by decide +kernel
theorem dX1_show_52 : decode cX1_show 52 = .ok (.iload_n 2, 1) := by decide +kernel
theorem dX1_show_53 : decode cX1_show 53 = .ok (.aload_n 1, 1) := by decide +kernel
theorem dX1_show_54 : decode cX1_show 54 = .ok (.invokevirtual 62, 3) := by decide +kernel
theorem dX1_show_57 : decode cX1_show 57 = .ok (.iastore, 1) := by decide +kernel
theorem dX1_show_58 : decode cX1_show 58 = .ok (.aload_n 1, 1) := by decide +kernel
theorem dX1_show_59 : decode cX1_show 59 = .ok (.iload_n 2, 1) := by decide +kernel
theorem dX1_show_60 : decode cX1_show 60 = .ok (.invokevirtual 66, 3) := by decide +kernel
theorem dX1_show_63 : decode cX1_show 63 = .ok (.ifCond .eq 13, 3) := by decide +kernel
theorem dX1_show_66 : decode cX1_show 66 = .ok (.aload_n 0, 1) := by decide +kernel
theorem dX1_show_67 : decode cX1_show 67 = .ok (.iload_n 2, 1) := by decide +kernel
theorem dX1_show_68 : decode cX1_show 68 = .ok (.aload_n 1, 1) := by decide +kernel
theorem dX1_show_69 : decode cX1_show 69 = .ok (.iload_n 2, 1) := by decide +kernel
theorem dX1_show_70 : decode cX1_show 70 = .ok (.invokevirtual 71, 3) := by decide +kernel
theorem dX1_show_73 : decode cX1_show 73 = .ok (.invokevirtual 75, 3) := by decide +kernel
theorem dX1_show_76 : decode cX1_show 76 = .ok (.iinc 2 1, 3) := by decide +kernel
theorem dX1_show_79 : decode cX1_show 79 = .ok (.goto (-55), 3) := by decide +kernel
theorem dX1_show_82 : decode cX1_show 82 = .ok (.aload_n 0, 1) := by decide +kernel
theorem dX1_show_83 : decode cX1_show 83 = .ok (.invokevirtual 79, 3) := by decide +kernel
theorem dX1_show_86 : decode cX1_show 86 = .ok (.return_, 1) := by decide +kernel
theorem dX1_weighSteps_0 : decode cX1_weighSteps 0 = .ok (.iconst 0, 1) := by decide +kernel
theorem dX1_weighSteps_1 : decode cX1_weighSteps 1 = .ok (.istore_n 1, 1) := by decide +kernel
theorem dX1_weighSteps_2 : decode cX1_weighSteps 2 = .ok (.iload_n 1, 1) := by decide +kernel
theorem dX1_weighSteps_3 : decode cX1_weighSteps 3 = .ok (.aload_n 0, 1) := by decide +kernel
theorem dX1_weighSteps_4 : decode cX1_weighSteps 4 = .ok (.getfield 31, 3) := by decide +kernel
theorem dX1_weighSteps_7 : decode cX1_weighSteps 7 = .ok (.getfield 82, 3) := by decide +kernel
theorem dX1_weighSteps_10 : decode cX1_weighSteps 10 = .ok (.if_icmp .ge 75, 3) := by decide +kernel
theorem dX1_weighSteps_13 : decode cX1_weighSteps 13 = .ok (.aload_n 0, 1) := by decide +kernel
theorem dX1_weighSteps_14 : decode cX1_weighSteps 14 = .ok (.getfield 27, 3) := by decide +kernel
theorem dX1_weighSteps_17 : decode cX1_weighSteps 17 = .ok (.iload_n 1, 1) := by decide +kernel
theorem dX1_weighSteps_18 : decode cX1_weighSteps 18 = .ok (.iconst 0, 1) := by decide +kernel
theorem dX1_weighSteps_19 : decode cX1_weighSteps 19 = .ok (.bastore, 1) := by decide +kernel
theorem dX1_weighSteps_20 : decode cX1_weighSteps 20 = .ok (.iconst 0, 1) := by decide +kernel
theorem dX1_weighSteps_21 : decode cX1_weighSteps 21 = .ok (.istore_n 2, 1) := by decide +kernel
theorem dX1_weighSteps_22 : decode cX1_weighSteps 22 = .ok (.iload_n 2, 1) := by decide +kernel
theorem dX1_weighSteps_23 : decode cX1_weighSteps 23 = .ok (.iconst 4, 1) := by decide +kernel
theorem dX1_weighSteps_24 : decode cX1_weighSteps 24 = .ok (.if_icmp .ge 55, 3) := by decide +kernel
theorem dX1_weighSteps_27 : decode cX1_weighSteps 27 = .ok (.aload_n 0, 1) := by decide +kernel
theorem dX1_weighSteps_28 : decode cX1_weighSteps 28 = .ok (.getfield 18, 3) := by decide +kernel
theorem dX1_weighSteps_31 : decode cX1_weighSteps 31 = .ok (.iload_n 1, 1) := by decide +kernel
theorem dX1_weighSteps_32 : decode cX1_weighSteps 32 = .ok (.iconst 4, 1) := by decide +kernel
theorem dX1_weighSteps_33 : decode cX1_weighSteps 33 = .ok (.imul, 1) := by decide +kernel
theorem dX1_weighSteps_34 : decode cX1_weighSteps 34 = .ok (.iload_n 2, 1) := by decide +kernel
theorem dX1_weighSteps_35 : decode cX1_weighSteps 35 = .ok (.iadd, 1) := by decide +kernel
theorem dX1_weighSteps_36 : decode cX1_weighSteps 36 = .ok (.iaload, 1) := by decide +kernel
theorem dX1_weighSteps_37 : decode cX1_weighSteps 37 = .ok (.istore_n 3, 1) := by decide +kernel
theorem dX1_weighSteps_38 : decode cX1_weighSteps 38 = .ok (.aload_n 0, 1) := by decide +kernel
theorem dX1_weighSteps_39 : decode cX1_weighSteps 39 = .ok (.getfield 31, 3) := by decide +kernel
theorem dX1_weighSteps_42 : decode cX1_weighSteps 42 = .ok (.iload_n 3, 1) := by decide +kernel
theorem dX1_weighSteps_43 : decode cX1_weighSteps 43 = .ok (.invokevirtual 38, 3) := by decide +kernel
theorem dX1_weighSteps_46 : decode cX1_weighSteps 46 = .ok (.ifCond .eq 27, 3) := by decide +kernel
theorem dX1_weighSteps_49 : decode cX1_weighSteps 49 = .ok (.aload_n 0, 1) := by decide +kernel
theorem dX1_weighSteps_50 : decode cX1_weighSteps 50 = .ok (.getfield 21, 3) := by decide +kernel
theorem dX1_weighSteps_53 : decode cX1_weighSteps 53 = .ok (.iload_n 1, 1) := by decide +kernel
theorem dX1_weighSteps_54 : decode cX1_weighSteps 54 = .ok (.iconst 4, 1) := by decide +kernel
theorem dX1_weighSteps_55 : decode cX1_weighSteps 55 = .ok (.imul, 1) := by decide +kernel
theorem dX1_weighSteps_56 : decode cX1_weighSteps 56 = .ok (.iload_n 2, 1) := by decide +kernel
theorem dX1_weighSteps_57 : decode cX1_weighSteps 57 = .ok (.iadd, 1) := by decide +kernel
theorem dX1_weighSteps_58 : decode cX1_weighSteps 58 = .ok (.aload_n 0, 1) := by decide +kernel
theorem dX1_weighSteps_59 : decode cX1_weighSteps 59 = .ok (.getfield 31, 3) := by decide +kernel
theorem dX1_weighSteps_62 : decode cX1_weighSteps 62 = .ok (.getfield 85, 3) := by decide +kernel
theorem dX1_weighSteps_65 : decode cX1_weighSteps 65 = .ok (.aload_n 0, 1) := by decide +kernel
theorem dX1_weighSteps_66 : decode cX1_weighSteps 66 = .ok (.iload_n 1, 1) := by decide +kernel
theorem dX1_weighSteps_67 : decode cX1_weighSteps 67 = .ok (.iload_n 3, 1) := by decide +kernel
theorem dX1_weighSteps_68 : decode cX1_weighSteps 68 = .ok (.invokevirtual 88, 3) := by decide +kernel
theorem dX1_weighSteps_71 : decode cX1_weighSteps 71 = .ok (.iadd, 1) := by decide +kernel
theorem dX1_weighSteps_72 : decode cX1_weighSteps 72 = .ok (.iastore, 1) := by decide +kernel
theorem dX1_weighSteps_73 : decode cX1_weighSteps 73 = .ok (.iinc 2 1, 3) := by decide +kernel
theorem dX1_weighSteps_76 : decode cX1_weighSteps 76 = .ok (.goto (-54), 3) := by decide +kernel
theorem dX1_weighSteps_79 : decode cX1_weighSteps 79 = .ok (.iinc 1 1, 3) := by decide +kernel
theorem dX1_weighSteps_82 : decode cX1_weighSteps 82 = .ok (.goto (-80), 3) := by decide +kernel
theorem dX1_weighSteps_85 : decode cX1_weighSteps 85 = .ok (.return_, 1) := by decide +kernel
theorem dX1_taken_0 : decode cX1_taken 0 = .ok (.aload_n 0, 1) := by decide +kernel
theorem dX1_taken_1 : decode cX1_taken 1 = .ok (.getfield 9, 3) := by decide +kernel
theorem dX1_taken_4 : decode cX1_taken 4 = .ok (.iload_n 2, 1) := by decide +kernel
theorem dX1_taken_5 : decode cX1_taken 5 = .ok (.iaload, 1) := by decide +kernel
theorem dX1_taken_6 : decode cX1_taken 6 = .ok (.istore_n 3, 1) := by decide +kernel
theorem dX1_taken_7 : decode cX1_taken 7 = .ok (.iload_n 3, 1) := by decide +kernel
theorem dX1_taken_8 : decode cX1_taken 8 = .ok (.ifCond .lt 8, 3) := by decide +kernel
theorem dX1_taken_11 : decode cX1_taken 11 = .ok (.iload_n 3, 1) := by decide +kernel
theorem dX1_taken_12 : decode cX1_taken 12 = .ok (.iconst 4, 1) := by decide +kernel
theorem dX1_taken_13 : decode cX1_taken 13 = .ok (.if_icmp .lt 5, 3) := by decide +kernel
theorem dX1_taken_16 : decode cX1_taken 16 = .ok (.iconst 0, 1) := by decide +kernel
theorem dX1_taken_17 : decode cX1_taken 17 = .ok (.ireturn, 1) := by decide +kernel
theorem dX1_taken_18 : decode cX1_taken 18 = .ok (.aload_n 0, 1) := by decide +kernel
theorem dX1_taken_19 : decode cX1_taken 19 = .ok (.getfield 9, 3) := by decide +kernel
theorem dX1_taken_22 : decode cX1_taken 22 = .ok (.iload_n 1, 1) := by decide +kernel
theorem dX1_taken_23 : decode cX1_taken 23 = .ok (.iaload, 1) := by decide +kernel
theorem dX1_taken_24 : decode cX1_taken 24 = .ok (.bipush (-9), 2) := by decide +kernel
theorem dX1_taken_26 : decode cX1_taken 26 = .ok (.if_icmp .eq 17, 3) := by decide +kernel
theorem dX1_taken_29 : decode cX1_taken 29 = .ok (.aload_n 0, 1) := by decide +kernel
theorem dX1_taken_30 : decode cX1_taken 30 = .ok (.getfield 9, 3) := by decide +kernel
theorem dX1_taken_33 : decode cX1_taken 33 = .ok (.iload_n 1, 1) := by decide +kernel
theorem dX1_taken_34 : decode cX1_taken 34 = .ok (.iaload, 1) := by decide +kernel
theorem dX1_taken_35 : decode cX1_taken 35 = .ok (.iload_n 3, 1) := by decide +kernel
theorem dX1_taken_36 : decode cX1_taken 36 = .ok (.if_icmp .eq 7, 3) := by decide +kernel
theorem dX1_taken_39 : decode cX1_taken 39 = .ok (.iconst 1, 1) := by decide +kernel
theorem dX1_taken_40 : decode cX1_taken 40 = .ok (.goto 4, 3) := by decide +kernel
theorem dX1_taken_43 : decode cX1_taken 43 = .ok (.iconst 0, 1) := by decide +kernel
theorem dX1_taken_44 : decode cX1_taken 44 = .ok (.istore 4, 2) := by decide +kernel
theorem dX1_taken_46 : decode cX1_taken 46 = .ok (.iload 4, 2) := by decide +kernel
theorem dX1_taken_48 : decode cX1_taken 48 = .ok (.ifCond .eq 14, 3) := by decide +kernel
theorem dX1_taken_51 : decode cX1_taken 51 = .ok (.aload_n 0, 1) := by decide +kernel
theorem dX1_taken_52 : decode cX1_taken 52 = .ok (.getfield 15, 3) := by decide +kernel
theorem dX1_taken_55 : decode cX1_taken 55 = .ok (.iload_n 3, 1) := by decide +kernel
theorem dX1_taken_56 : decode cX1_taken 56 = .ok (.iaload, 1) := by decide +kernel
theorem dX1_taken_57 : decode cX1_taken 57 = .ok (.iconst 2, 1) := by decide +kernel
theorem dX1_taken_58 : decode cX1_taken 58 = .ok (.idiv, 1) := by decide +kernel
theorem dX1_taken_59 : decode cX1_taken 59 = .ok (.goto 9, 3) := by decide +kernel
theorem dX1_taken_62 : decode cX1_taken 62 = .ok (.aload_n 0, 1) := by decide +kernel
theorem dX1_taken_63 : decode cX1_taken 63 = .ok (.getfield 15, 3) := by decide +kernel
theorem dX1_taken_66 : decode cX1_taken 66 = .ok (.iload_n 3, 1) := by decide +kernel
theorem dX1_taken_67 : decode cX1_taken 67 = .ok (.iaload, 1) := by decide +kernel
theorem dX1_taken_68 : decode cX1_taken 68 = .ok (.ireturn, 1) := by decide +kernel
theorem dX1_setThick_0 : decode cX1_setThick 0 = .ok (.iload_n 1, 1) := by decide +kernel
theorem dX1_setThick_1 : decode cX1_setThick 1 = .ok (.ifCond .lt 29, 3) := by decide +kernel
theorem dX1_setThick_4 : decode cX1_setThick 4 = .ok (.iload_n 1, 1) := by decide +kernel
theorem dX1_setThick_5 : decode cX1_setThick 5 = .ok (.iconst 4, 1) := by decide +kernel
theorem dX1_setThick_6 : decode cX1_setThick 6 = .ok (.if_icmp .ge 24, 3) := by decide +kernel
theorem dX1_setThick_9 : decode cX1_setThick 9 = .ok (.aload_n 0, 1) := by decide +kernel
theorem dX1_setThick_10 : decode cX1_setThick 10 = .ok (.getfield 15, 3) := by decide +kernel
theorem dX1_setThick_13 : decode cX1_setThick 13 = .ok (.iload_n 1, 1) := by decide +kernel
theorem dX1_setThick_14 : decode cX1_setThick 14 = .ok (.iaload, 1) := by decide +kernel
theorem dX1_setThick_15 : decode cX1_setThick 15 = .ok (.iload_n 2, 1) := by decide +kernel
theorem dX1_setThick_16 : decode cX1_setThick 16 = .ok (.if_icmp .eq 14, 3) := by decide +kernel
theorem dX1_setThick_19 : decode cX1_setThick 19 = .ok (.aload_n 0, 1) := by decide +kernel
theorem dX1_setThick_20 : decode cX1_setThick 20 = .ok (.getfield 15, 3) := by decide +kernel
theorem dX1_setThick_23 : decode cX1_setThick 23 = .ok (.iload_n 1, 1) := by decide +kernel
theorem dX1_setThick_24 : decode cX1_setThick 24 = .ok (.iload_n 2, 1) := by decide +kernel
theorem dX1_setThick_25 : decode cX1_setThick 25 = .ok (.iastore, 1) := by decide +kernel
theorem dX1_setThick_26 : decode cX1_setThick 26 = .ok (.aload_n 0, 1) := by decide +kernel
theorem dX1_setThick_27 : decode cX1_setThick 27 = .ok (.invokevirtual 79, 3) := by decide +kernel
theorem dX1_setThick_30 : decode cX1_setThick 30 = .ok (.return_, 1) := by decide +kernel
theorem dX1_sheetOn_0 : decode cX1_sheetOn 0 = .ok (.aload_n 0, 1) := by decide +kernel
theorem dX1_sheetOn_1 : decode cX1_sheetOn 1 = .ok (.getfield 31, 3) := by decide +kernel
theorem dX1_sheetOn_4 : decode cX1_sheetOn 4 = .ok (.iload_n 1, 1) := by decide +kernel
theorem dX1_sheetOn_5 : decode cX1_sheetOn 5 = .ok (.invokevirtual 38, 3) := by decide +kernel
theorem dX1_sheetOn_8 : decode cX1_sheetOn 8 = .ok (.ifCond .eq 12, 3) := by decide +kernel
theorem dX1_sheetOn_11 : decode cX1_sheetOn 11 = .ok (.aload_n 0, 1) := by decide +kernel
theorem dX1_sheetOn_12 : decode cX1_sheetOn 12 = .ok (.getfield 9, 3) := by decide +kernel
theorem dX1_sheetOn_15 : decode cX1_sheetOn 15 = .ok (.iload_n 1, 1) := by decide +kernel
theorem dX1_sheetOn_16 : decode cX1_sheetOn 16 = .ok (.iaload, 1) := by decide +kernel
theorem dX1_sheetOn_17 : decode cX1_sheetOn 17 = .ok (.goto 5, 3) := by decide +kernel
theorem dX1_sheetOn_20 : decode cX1_sheetOn 20 = .ok (.bipush (-9), 2) := by decide +kernel
theorem dX1_sheetOn_22 : decode cX1_sheetOn 22 = .ok (.ireturn, 1) := by decide +kernel
theorem dX1_canLie_0 : decode cX1_canLie 0 = .ok (.aload_n 0, 1) := by decide +kernel
theorem dX1_canLie_1 : decode cX1_canLie 1 = .ok (.getfield 31, 3) := by decide +kernel
theorem dX1_canLie_4 : decode cX1_canLie 4 = .ok (.getfield 48, 3) := by decide +kernel
theorem dX1_canLie_7 : decode cX1_canLie 7 = .ok (.istore_n 3, 1) := by decide +kernel
theorem dX1_canLie_8 : decode cX1_canLie 8 = .ok (.iload_n 3, 1) := by decide +kernel
theorem dX1_canLie_9 : decode cX1_canLie 9 = .ok (.iconst 1, 1) := by decide +kernel
theorem dX1_canLie_10 : decode cX1_canLie 10 = .ok (.if_icmp .lt 14, 3) := by decide +kernel
theorem dX1_canLie_13 : decode cX1_canLie 13 = .ok (.aload_n 0, 1) := by decide +kernel
theorem dX1_canLie_14 : decode cX1_canLie 14 = .ok (.getfield 31, 3) := by decide +kernel
theorem dX1_canLie_17 : decode cX1_canLie 17 = .ok (.iload_n 2, 1) := by decide +kernel
theorem dX1_canLie_18 : decode cX1_canLie 18 = .ok (.invokevirtual 38, 3) := by decide +kernel
theorem dX1_canLie_21 : decode cX1_canLie 21 = .ok (.ifCond .ne 5, 3) := by decide +kernel
theorem dX1_canLie_24 : decode cX1_canLie 24 = .ok (.iconst 0, 1) := by decide +kernel
theorem dX1_canLie_25 : decode cX1_canLie 25 = .ok (.ireturn, 1) := by decide +kernel
theorem dX1_canLie_26 : decode cX1_canLie 26 = .ok (.iload_n 2, 1) := by decide +kernel
theorem dX1_canLie_27 : decode cX1_canLie 27 = .ok (.iload_n 3, 1) := by decide +kernel
theorem dX1_canLie_28 : decode cX1_canLie 28 = .ok (.irem, 1) := by decide +kernel
theorem dX1_canLie_29 : decode cX1_canLie 29 = .ok (.aload_n 0, 1) := by decide +kernel
theorem dX1_canLie_30 : decode cX1_canLie 30 = .ok (.getfield 31, 3) := by decide +kernel
theorem dX1_canLie_33 : decode cX1_canLie 33 = .ok (.getfield 52, 3) := by decide +kernel
theorem dX1_canLie_36 : decode cX1_canLie 36 = .ok (.iload_n 1, 1) := by decide +kernel
theorem dX1_canLie_37 : decode cX1_canLie 37 = .ok (.iconst 1, 1) := by decide +kernel
theorem dX1_canLie_38 : decode cX1_canLie 38 = .ok (.invokevirtual 91, 3) := by decide +kernel
theorem dX1_canLie_41 : decode cX1_canLie 41 = .ok (.iadd, 1) := by decide +kernel
theorem dX1_canLie_42 : decode cX1_canLie 42 = .ok (.iload_n 3, 1) := by decide +kernel
theorem dX1_canLie_43 : decode cX1_canLie 43 = .ok (.if_icmp .gt 29, 3) := by decide +kernel
theorem dX1_canLie_46 : decode cX1_canLie 46 = .ok (.iload_n 2, 1) := by decide +kernel
theorem dX1_canLie_47 : decode cX1_canLie 47 = .ok (.iload_n 3, 1) := by decide +kernel
theorem dX1_canLie_48 : decode cX1_canLie 48 = .ok (.idiv, 1) := by decide +kernel
theorem dX1_canLie_49 : decode cX1_canLie 49 = .ok (.aload_n 0, 1) := by decide +kernel
theorem dX1_canLie_50 : decode cX1_canLie 50 = .ok (.getfield 31, 3) := by decide +kernel
theorem dX1_canLie_53 : decode cX1_canLie 53 = .ok (.getfield 52, 3) := by decide +kernel
theorem dX1_canLie_56 : decode cX1_canLie 56 = .ok (.iload_n 1, 1) := by decide +kernel
theorem dX1_canLie_57 : decode cX1_canLie 57 = .ok (.iconst 2, 1) := by decide +kernel
theorem dX1_canLie_58 : decode cX1_canLie 58 = .ok (.invokevirtual 91, 3) := by decide +kernel
theorem dX1_canLie_61 : decode cX1_canLie 61 = .ok (.iadd, 1) := by decide +kernel
theorem dX1_canLie_62 : decode cX1_canLie 62 = .ok (.aload_n 0, 1) := by decide +kernel
theorem dX1_canLie_63 : decode cX1_canLie 63 = .ok (.getfield 31, 3) := by decide +kernel
theorem dX1_canLie_66 : decode cX1_canLie 66 = .ok (.getfield 94, 3) := by decide +kernel
theorem dX1_canLie_69 : decode cX1_canLie 69 = .ok (.if_icmp .le 5, 3) := by decide +kernel
theorem dX1_canLie_72 : decode cX1_canLie 72 = .ok (.iconst 0, 1) := by decide +kernel
theorem dX1_canLie_73 : decode cX1_canLie 73 = .ok (.ireturn, 1) := by decide +kernel
theorem dX1_canLie_74 : decode cX1_canLie 74 = .ok (.iconst 0, 1) := by decide +kernel
theorem dX1_canLie_75 : decode cX1_canLie 75 = .ok (.istore 4, 2) := by decide +kernel
theorem dX1_canLie_77 : decode cX1_canLie 77 = .ok (.iload 4, 2) := by decide +kernel
theorem dX1_canLie_79 : decode cX1_canLie 79 = .ok (.aload_n 0, 1) := by decide +kernel
theorem dX1_canLie_80 : decode cX1_canLie 80 = .ok (.getfield 31, 3) := by decide +kernel
theorem dX1_canLie_83 : decode cX1_canLie 83 = .ok (.getfield 52, 3) := by decide +kernel
theorem dX1_canLie_86 : decode cX1_canLie 86 = .ok (.iload_n 1, 1) := by decide +kernel
theorem dX1_canLie_87 : decode cX1_canLie 87 = .ok (.iconst 2, 1) := by decide +kernel
theorem dX1_canLie_88 : decode cX1_canLie 88 = .ok (.invokevirtual 91, 3) := by decide +kernel
theorem dX1_canLie_91 : decode cX1_canLie 91 = .ok (.if_icmp .ge 55, 3) := by decide +kernel
theorem dX1_canLie_94 : decode cX1_canLie 94 = .ok (.iconst 0, 1) := by decide +kernel
theorem dX1_canLie_95 : decode cX1_canLie 95 = .ok (.istore 5, 2) := by decide +kernel
theorem dX1_canLie_97 : decode cX1_canLie 97 = .ok (.iload 5, 2) := by decide +kernel
theorem dX1_canLie_99 : decode cX1_canLie 99 = .ok (.aload_n 0, 1) := by decide +kernel
theorem dX1_canLie_100 : decode cX1_canLie 100 = .ok (.getfield 31, 3) := by decide +kernel
theorem dX1_canLie_103 : decode cX1_canLie 103 = .ok (.getfield 52, 3) := by decide +kernel
theorem dX1_canLie_106 : decode cX1_canLie 106 = .ok (.iload_n 1, 1) := by decide +kernel
theorem dX1_canLie_107 : decode cX1_canLie 107 = .ok (.iconst 1, 1) := by decide +kernel
theorem dX1_canLie_108 : decode cX1_canLie 108 = .ok (.invokevirtual 91, 3) := by decide +kernel
theorem dX1_canLie_111 : decode cX1_canLie 111 = .ok (.if_icmp .ge 29, 3) := by decide +kernel
theorem dX1_canLie_114 : decode cX1_canLie 114 = .ok (.aload_n 0, 1) := by decide +kernel
theorem dX1_canLie_115 : decode cX1_canLie 115 = .ok (.iload_n 2, 1) := by decide +kernel
theorem dX1_canLie_116 : decode cX1_canLie 116 = .ok (.iload 4, 2) := by decide +kernel
theorem dX1_canLie_118 : decode cX1_canLie 118 = .ok (.iload_n 3, 1) := by decide +kernel
theorem dX1_canLie_119 : decode cX1_canLie 119 = .ok (.imul, 1) := by decide +kernel
theorem dX1_canLie_120 : decode cX1_canLie 120 = .ok (.iadd, 1) := by decide +kernel
theorem dX1_canLie_121 : decode cX1_canLie 121 = .ok (.iload 5, 2) := by decide +kernel
theorem dX1_canLie_123 : decode cX1_canLie 123 = .ok (.iadd, 1) := by decide +kernel
theorem dX1_canLie_124 : decode cX1_canLie 124 = .ok (.invokevirtual 97, 3) := by decide +kernel
theorem dX1_canLie_127 : decode cX1_canLie 127 = .ok (.bipush (-9), 2) := by decide +kernel
theorem dX1_canLie_129 : decode cX1_canLie 129 = .ok (.if_icmp .eq 5, 3) := by decide +kernel
theorem dX1_canLie_132 : decode cX1_canLie 132 = .ok (.iconst 0, 1) := by decide +kernel
theorem dX1_canLie_133 : decode cX1_canLie 133 = .ok (.ireturn, 1) := by decide +kernel
theorem dX1_canLie_134 : decode cX1_canLie 134 = .ok (.iinc 5 1, 3) := by decide +kernel
theorem dX1_canLie_137 : decode cX1_canLie 137 = .ok (.goto (-40), 3) := by decide +kernel
theorem dX1_canLie_140 : decode cX1_canLie 140 = .ok (.iinc 4 1, 3) := by decide +kernel
theorem dX1_canLie_143 : decode cX1_canLie 143 = .ok (.goto (-66), 3) := by decide +kernel
theorem dX1_canLie_146 : decode cX1_canLie 146 = .ok (.iconst 1, 1) := by decide +kernel
theorem dX1_canLie_147 : decode cX1_canLie 147 = .ok (.ireturn, 1) := by decide +kernel
theorem dX1_spreadOut_0 : decode cX1_spreadOut 0 = .ok (.iconst 0, 1) := by decide +kernel
theorem dX1_spreadOut_1 : decode cX1_spreadOut 1 = .ok (.istore_n 3, 1) := by decide +kernel
theorem dX1_spreadOut_2 : decode cX1_spreadOut 2 = .ok (.iload_n 3, 1) := by decide +kernel
theorem dX1_spreadOut_3 : decode cX1_spreadOut 3 = .ok (.aload_n 0, 1) := by decide +kernel
theorem dX1_spreadOut_4 : decode cX1_spreadOut 4 = .ok (.getfield 31, 3) := by decide +kernel
theorem dX1_spreadOut_7 : decode cX1_spreadOut 7 = .ok (.getfield 52, 3) := by decide +kernel
theorem dX1_spreadOut_10 : decode cX1_spreadOut 10 = .ok (.iload_n 1, 1) := by decide +kernel
theorem dX1_spreadOut_11 : decode cX1_spreadOut 11 = .ok (.iconst 2, 1) := by decide +kernel
theorem dX1_spreadOut_12 : decode cX1_spreadOut 12 = .ok (.invokevirtual 91, 3) := by decide +kernel
theorem dX1_spreadOut_15 : decode cX1_spreadOut 15 = .ok (.if_icmp .ge 71, 3) := by decide +kernel
theorem dX1_spreadOut_18 : decode cX1_spreadOut 18 = .ok (.iconst 0, 1) := by decide +kernel
theorem dX1_spreadOut_19 : decode cX1_spreadOut 19 = .ok (.istore 4, 2) := by decide +kernel
theorem dX1_spreadOut_21 : decode cX1_spreadOut 21 = .ok (.iload 4, 2) := by decide +kernel
theorem dX1_spreadOut_23 : decode cX1_spreadOut 23 = .ok (.aload_n 0, 1) := by decide +kernel
theorem dX1_spreadOut_24 : decode cX1_spreadOut 24 = .ok (.getfield 31, 3) := by decide +kernel
theorem dX1_spreadOut_27 : decode cX1_spreadOut 27 = .ok (.getfield 52, 3) := by decide +kernel
theorem dX1_spreadOut_30 : decode cX1_spreadOut 30 = .ok (.iload_n 1, 1) := by decide +kernel
theorem dX1_spreadOut_31 : decode cX1_spreadOut 31 = .ok (.iconst 1, 1) := by decide +kernel
theorem dX1_spreadOut_32 : decode cX1_spreadOut 32 = .ok (.invokevirtual 91, 3) := by decide +kernel
theorem dX1_spreadOut_35 : decode cX1_spreadOut 35 = .ok (.if_icmp .ge 45, 3) := by decide +kernel
theorem dX1_spreadOut_38 : decode cX1_spreadOut 38 = .ok (.iload_n 2, 1) := by decide +kernel
theorem dX1_spreadOut_39 : decode cX1_spreadOut 39 = .ok (.iload_n 3, 1) := by decide +kernel
theorem dX1_spreadOut_40 : decode cX1_spreadOut 40 = .ok (.aload_n 0, 1) := by decide +kernel
theorem dX1_spreadOut_41 : decode cX1_spreadOut 41 = .ok (.getfield 31, 3) := by decide +kernel
theorem dX1_spreadOut_44 : decode cX1_spreadOut 44 = .ok (.getfield 48, 3) := by decide +kernel
theorem dX1_spreadOut_47 : decode cX1_spreadOut 47 = .ok (.imul, 1) := by decide +kernel
theorem dX1_spreadOut_48 : decode cX1_spreadOut 48 = .ok (.iadd, 1) := by decide +kernel
theorem dX1_spreadOut_49 : decode cX1_spreadOut 49 = .ok (.iload 4, 2) := by decide +kernel
theorem dX1_spreadOut_51 : decode cX1_spreadOut 51 = .ok (.iadd, 1) := by decide +kernel
theorem dX1_spreadOut_52 : decode cX1_spreadOut 52 = .ok (.istore 5, 2) := by decide +kernel
theorem dX1_spreadOut_54 : decode cX1_spreadOut 54 = .ok (.aload_n 0, 1) := by decide +kernel
theorem dX1_spreadOut_55 : decode cX1_spreadOut 55 = .ok (.getfield 31, 3) := by decide +kernel
theorem dX1_spreadOut_58 : decode cX1_spreadOut 58 = .ok (.iload 5, 2) := by decide +kernel
theorem dX1_spreadOut_60 : decode cX1_spreadOut 60 = .ok (.invokevirtual 38, 3) := by decide +kernel
theorem dX1_spreadOut_63 : decode cX1_spreadOut 63 = .ok (.ifCond .eq 11, 3) := by decide +kernel
theorem dX1_spreadOut_66 : decode cX1_spreadOut 66 = .ok (.aload_n 0, 1) := by decide +kernel
theorem dX1_spreadOut_67 : decode cX1_spreadOut 67 = .ok (.getfield 9, 3) := by decide +kernel
theorem dX1_spreadOut_70 : decode cX1_spreadOut 70 = .ok (.iload 5, 2) := by decide +kernel
theorem dX1_spreadOut_72 : decode cX1_spreadOut 72 = .ok (.iload_n 1, 1) := by decide +kernel
theorem dX1_spreadOut_73 : decode cX1_spreadOut 73 = .ok (.iastore, 1) := by decide +kernel
theorem dX1_spreadOut_74 : decode cX1_spreadOut 74 = .ok (.iinc 4 1, 3) := by decide +kernel
theorem dX1_spreadOut_77 : decode cX1_spreadOut 77 = .ok (.goto (-56), 3) := by decide +kernel
theorem dX1_spreadOut_80 : decode cX1_spreadOut 80 = .ok (.iinc 3 1, 3) := by decide +kernel
theorem dX1_spreadOut_83 : decode cX1_spreadOut 83 = .ok (.goto (-81), 3) := by decide +kernel
theorem dX1_spreadOut_86 : decode cX1_spreadOut 86 = .ok (.return_, 1) := by decide +kernel
theorem dX1_cover_0 : decode cX1_cover 0 = .ok (.aload_n 0, 1) := by decide +kernel
theorem dX1_cover_1 : decode cX1_cover 1 = .ok (.iload_n 1, 1) := by decide +kernel
theorem dX1_cover_2 : decode cX1_cover 2 = .ok (.iload_n 2, 1) := by decide +kernel
theorem dX1_cover_3 : decode cX1_cover 3 = .ok (.invokevirtual 75, 3) := by decide +kernel
theorem dX1_cover_6 : decode cX1_cover 6 = .ok (.aload_n 0, 1) := by decide +kernel
theorem dX1_cover_7 : decode cX1_cover 7 = .ok (.invokevirtual 79, 3) := by decide +kernel
theorem dX1_cover_10 : decode cX1_cover 10 = .ok (.return_, 1) := by decide +kernel
theorem dX1_uncover_0 : decode cX1_uncover 0 = .ok (.iconst 0, 1) := by decide +kernel
theorem dX1_uncover_1 : decode cX1_uncover 1 = .ok (.istore_n 2, 1) := by decide +kernel
theorem dX1_uncover_2 : decode cX1_uncover 2 = .ok (.iload_n 2, 1) := by decide +kernel
theorem dX1_uncover_3 : decode cX1_uncover 3 = .ok (.bipush 12, 2) := by decide +kernel
theorem dX1_uncover_5 : decode cX1_uncover 5 = .ok (.if_icmp .ge 27, 3) := by decide +kernel
theorem dX1_uncover_8 : decode cX1_uncover 8 = .ok (.aload_n 0, 1) := by decide +kernel
theorem dX1_uncover_9 : decode cX1_uncover 9 = .ok (.getfield 9, 3) := by decide +kernel
theorem dX1_uncover_12 : decode cX1_uncover 12 = .ok (.iload_n 2, 1) := by decide +kernel
theorem dX1_uncover_13 : decode cX1_uncover 13 = .ok (.iaload, 1) := by decide +kernel
theorem dX1_uncover_14 : decode cX1_uncover 14 = .ok (.iload_n 1, 1) := by decide +kernel
theorem dX1_uncover_15 : decode cX1_uncover 15 = .ok (.if_icmp .ne 11, 3) := by decide +kernel
theorem dX1_uncover_18 : decode cX1_uncover 18 = .ok (.aload_n 0, 1) := by decide +kernel
theorem dX1_uncover_19 : decode cX1_uncover 19 = .ok (.getfield 9, 3) := by decide +kernel
theorem dX1_uncover_22 : decode cX1_uncover 22 = .ok (.iload_n 2, 1) := by decide +kernel
theorem dX1_uncover_23 : decode cX1_uncover 23 = .ok (.bipush (-9), 2) := by decide +kernel
theorem dX1_uncover_25 : decode cX1_uncover 25 = .ok (.iastore, 1) := by decide +kernel
theorem dX1_uncover_26 : decode cX1_uncover 26 = .ok (.iinc 2 1, 3) := by decide +kernel
theorem dX1_uncover_29 : decode cX1_uncover 29 = .ok (.goto (-27), 3) := by decide +kernel
theorem dX1_uncover_32 : decode cX1_uncover 32 = .ok (.aload_n 0, 1) := by decide +kernel
theorem dX1_uncover_33 : decode cX1_uncover 33 = .ok (.invokevirtual 79, 3) := by decide +kernel
theorem dX1_uncover_36 : decode cX1_uncover 36 = .ok (.return_, 1) := by decide +kernel
theorem dX1_lost_0 : decode cX1_lost 0 = .ok (.aload_n 0, 1) := by decide +kernel
theorem dX1_lost_1 : decode cX1_lost 1 = .ok (.getfield 31, 3) := by decide +kernel
theorem dX1_lost_4 : decode cX1_lost 4 = .ok (.iload_n 1, 1) := by decide +kernel
theorem dX1_lost_5 : decode cX1_lost 5 = .ok (.invokevirtual 38, 3) := by decide +kernel
theorem dX1_lost_8 : decode cX1_lost 8 = .ok (.ifCond .eq 14, 3) := by decide +kernel
theorem dX1_lost_11 : decode cX1_lost 11 = .ok (.aload_n 0, 1) := by decide +kernel
theorem dX1_lost_12 : decode cX1_lost 12 = .ok (.getfield 31, 3) := by decide +kernel
theorem dX1_lost_15 : decode cX1_lost 15 = .ok (.iload_n 2, 1) := by decide +kernel
theorem dX1_lost_16 : decode cX1_lost 16 = .ok (.invokevirtual 38, 3) := by decide +kernel
theorem dX1_lost_19 : decode cX1_lost 19 = .ok (.ifCond .ne 6, 3) := by decide +kernel
theorem dX1_lost_22 : decode cX1_lost 22 = .ok (.ldc 99, 2) := by decide +kernel
theorem dX1_lost_24 : decode cX1_lost 24 = .ok (.ireturn, 1) := by decide +kernel
theorem dX1_lost_25 : decode cX1_lost 25 = .ok (.aload_n 0, 1) := by decide +kernel
theorem dX1_lost_26 : decode cX1_lost 26 = .ok (.getfield 27, 3) := by decide +kernel
theorem dX1_lost_29 : decode cX1_lost 29 = .ok (.iload_n 1, 1) := by decide +kernel
theorem dX1_lost_30 : decode cX1_lost 30 = .ok (.baload, 1) := by decide +kernel
theorem dX1_lost_31 : decode cX1_lost 31 = .ok (.ifCond .ne 8, 3) := by decide +kernel
theorem dX1_lost_34 : decode cX1_lost 34 = .ok (.aload_n 0, 1) := by decide +kernel
theorem dX1_lost_35 : decode cX1_lost 35 = .ok (.iload_n 1, 1) := by decide +kernel
theorem dX1_lost_36 : decode cX1_lost 36 = .ok (.invokevirtual 100, 3) := by decide +kernel
theorem dX1_lost_39 : decode cX1_lost 39 = .ok (.aload_n 0, 1) := by decide +kernel
theorem dX1_lost_40 : decode cX1_lost 40 = .ok (.getfield 24, 3) := by decide +kernel
theorem dX1_lost_43 : decode cX1_lost 43 = .ok (.iload_n 1, 1) := by decide +kernel
theorem dX1_lost_44 : decode cX1_lost 44 = .ok (.bipush 12, 2) := by decide +kernel
theorem dX1_lost_46 : decode cX1_lost 46 = .ok (.imul, 1) := by decide +kernel
theorem dX1_lost_47 : decode cX1_lost 47 = .ok (.iload_n 2, 1) := by decide +kernel
theorem dX1_lost_48 : decode cX1_lost 48 = .ok (.iadd, 1) := by decide +kernel
theorem dX1_lost_49 : decode cX1_lost 49 = .ok (.iaload, 1) := by decide +kernel
theorem dX1_lost_50 : decode cX1_lost 50 = .ok (.ireturn, 1) := by decide +kernel
theorem dX1_sound_0 : decode cX1_sound 0 = .ok (.aload_n 0, 1) := by decide +kernel
theorem dX1_sound_1 : decode cX1_sound 1 = .ok (.getfield 31, 3) := by decide +kernel
theorem dX1_sound_4 : decode cX1_sound 4 = .ok (.getfield 82, 3) := by decide +kernel
theorem dX1_sound_7 : decode cX1_sound 7 = .ok (.istore_n 2, 1) := by decide +kernel
theorem dX1_sound_8 : decode cX1_sound 8 = .ok (.iload_n 1, 1) := by decide +kernel
theorem dX1_sound_9 : decode cX1_sound 9 = .ok (.bipush 12, 2) := by decide +kernel
theorem dX1_sound_11 : decode cX1_sound 11 = .ok (.imul, 1) := by decide +kernel
theorem dX1_sound_12 : decode cX1_sound 12 = .ok (.istore_n 3, 1) := by decide +kernel
theorem dX1_sound_13 : decode cX1_sound 13 = .ok (.iconst 0, 1) := by decide +kernel
theorem dX1_sound_14 : decode cX1_sound 14 = .ok (.istore 4, 2) := by decide +kernel
theorem dX1_sound_16 : decode cX1_sound 16 = .ok (.iload 4, 2) := by decide +kernel
theorem dX1_sound_18 : decode cX1_sound 18 = .ok (.iload_n 2, 1) := by decide +kernel
theorem dX1_sound_19 : decode cX1_sound 19 = .ok (.if_icmp .ge 30, 3) := by decide +kernel
theorem dX1_sound_22 : decode cX1_sound 22 = .ok (.aload_n 0, 1) := by decide +kernel
theorem dX1_sound_23 : decode cX1_sound 23 = .ok (.getfield 24, 3) := by decide +kernel
theorem dX1_sound_26 : decode cX1_sound 26 = .ok (.iload_n 3, 1) := by decide +kernel
theorem dX1_sound_27 : decode cX1_sound 27 = .ok (.iload 4, 2) := by decide +kernel
theorem dX1_sound_29 : decode cX1_sound 29 = .ok (.iadd, 1) := by decide +kernel
theorem dX1_sound_30 : decode cX1_sound 30 = .ok (.iload 4, 2) := by decide +kernel
theorem dX1_sound_32 : decode cX1_sound 32 = .ok (.iload_n 1, 1) := by decide +kernel
theorem dX1_sound_33 : decode cX1_sound 33 = .ok (.if_icmp .ne 7, 3) := by decide +kernel
theorem dX1_sound_36 : decode cX1_sound 36 = .ok (.iconst 0, 1) := by decide +kernel
theorem dX1_sound_37 : decode cX1_sound 37 = .ok (.goto 5, 3) := by decide +kernel
theorem dX1_sound_40 : decode cX1_sound 40 = .ok (.ldc 99, 2) := by decide +kernel
theorem dX1_sound_42 : decode cX1_sound 42 = .ok (.iastore, 1) := by decide +kernel
theorem dX1_sound_43 : decode cX1_sound 43 = .ok (.iinc 4 1, 3) := by decide +kernel
theorem dX1_sound_46 : decode cX1_sound 46 = .ok (.goto (-30), 3) := by decide +kernel
theorem dX1_sound_49 : decode cX1_sound 49 = .ok (.iconst 1, 1) := by decide +kernel
theorem dX1_sound_50 : decode cX1_sound 50 = .ok (.istore 4, 2) := by decide +kernel
theorem dX1_sound_52 : decode cX1_sound 52 = .ok (.iconst 0, 1) := by decide +kernel
theorem dX1_sound_53 : decode cX1_sound 53 = .ok (.istore 5, 2) := by decide +kernel
theorem dX1_sound_55 : decode cX1_sound 55 = .ok (.iload 5, 2) := by decide +kernel
theorem dX1_sound_57 : decode cX1_sound 57 = .ok (.iload_n 2, 1) := by decide +kernel
theorem dX1_sound_58 : decode cX1_sound 58 = .ok (.if_icmp .ge 65, 3) := by decide +kernel
theorem dX1_sound_61 : decode cX1_sound 61 = .ok (.iload 4, 2) := by decide +kernel
theorem dX1_sound_63 : decode cX1_sound 63 = .ok (.ifCond .eq 60, 3) := by decide +kernel
theorem dX1_sound_66 : decode cX1_sound 66 = .ok (.iconst 0, 1) := by decide +kernel
theorem dX1_sound_67 : decode cX1_sound 67 = .ok (.istore 4, 2) := by decide +kernel
theorem dX1_sound_69 : decode cX1_sound 69 = .ok (.iconst 0, 1) := by decide +kernel
theorem dX1_sound_70 : decode cX1_sound 70 = .ok (.istore 6, 2) := by decide +kernel
theorem dX1_sound_72 : decode cX1_sound 72 = .ok (.iload 6, 2) := by decide +kernel
theorem dX1_sound_74 : decode cX1_sound 74 = .ok (.iload_n 2, 1) := by decide +kernel
theorem dX1_sound_75 : decode cX1_sound 75 = .ok (.if_icmp .ge 42, 3) := by decide +kernel
theorem dX1_sound_78 : decode cX1_sound 78 = .ok (.iload 5, 2) := by decide +kernel
theorem dX1_sound_80 : decode cX1_sound 80 = .ok (.iconst 2, 1) := by decide +kernel
theorem dX1_sound_81 : decode cX1_sound 81 = .ok (.irem, 1) := by decide +kernel
theorem dX1_sound_82 : decode cX1_sound 82 = .ok (.ifCond .ne 8, 3) := by decide +kernel
theorem dX1_sound_85 : decode cX1_sound 85 = .ok (.iload 6, 2) := by decide +kernel
theorem dX1_sound_87 : decode cX1_sound 87 = .ok (.goto 9, 3) := by decide +kernel
theorem dX1_sound_90 : decode cX1_sound 90 = .ok (.iload_n 2, 1) := by decide +kernel
theorem dX1_sound_91 : decode cX1_sound 91 = .ok (.iconst 1, 1) := by decide +kernel
theorem dX1_sound_92 : decode cX1_sound 92 = .ok (.isub, 1) := by decide +kernel
theorem dX1_sound_93 : decode cX1_sound 93 = .ok (.iload 6, 2) := by decide +kernel
theorem dX1_sound_95 : decode cX1_sound 95 = .ok (.isub, 1) := by decide +kernel
theorem dX1_sound_96 : decode cX1_sound 96 = .ok (.istore 7, 2) := by decide +kernel
theorem dX1_sound_98 : decode cX1_sound 98 = .ok (.iload 4, 2) := by decide +kernel
theorem dX1_sound_100 : decode cX1_sound 100 = .ok (.aload_n 0, 1) := by decide +kernel
theorem dX1_sound_101 : decode cX1_sound 101 = .ok (.iload_n 3, 1) := by decide +kernel
theorem dX1_sound_102 : decode cX1_sound 102 = .ok (.iload 7, 2) := by decide +kernel
theorem dX1_sound_104 : decode cX1_sound 104 = .ok (.iload_n 2, 1) := by decide +kernel
theorem dX1_sound_105 : decode cX1_sound 105 = .ok (.invokevirtual 104, 3) := by decide +kernel
theorem dX1_sound_108 : decode cX1_sound 108 = .ok (.ior, 1) := by decide +kernel
theorem dX1_sound_109 : decode cX1_sound 109 = .ok (.istore 4, 2) := by decide +kernel
theorem dX1_sound_111 : decode cX1_sound 111 = .ok (.iinc 6 1, 3) := by decide +kernel
theorem dX1_sound_114 : decode cX1_sound 114 = .ok (.goto (-42), 3) := by decide +kernel
theorem dX1_sound_117 : decode cX1_sound 117 = .ok (.iinc 5 1, 3) := by decide +kernel
theorem dX1_sound_120 : decode cX1_sound 120 = .ok (.goto (-65), 3) := by decide +kernel
theorem dX1_sound_123 : decode cX1_sound 123 = .ok (.aload_n 0, 1) := by decide +kernel
theorem dX1_sound_124 : decode cX1_sound 124 = .ok (.getfield 27, 3) := by decide +kernel
theorem dX1_sound_127 : decode cX1_sound 127 = .ok (.iload_n 1, 1) := by decide +kernel
theorem dX1_sound_128 : decode cX1_sound 128 = .ok (.iconst 1, 1) := by decide +kernel
theorem dX1_sound_129 : decode cX1_sound 129 = .ok (.bastore, 1) := by decide +kernel
theorem dX1_sound_130 : decode cX1_sound 130 = .ok (.return_, 1) := by decide +kernel
theorem dX1_passOn_0 : decode cX1_passOn 0 = .ok (.iconst 0, 1) := by decide +kernel
theorem dX1_passOn_1 : decode cX1_passOn 1 = .ok (.istore 4, 2) := by decide +kernel
theorem dX1_passOn_3 : decode cX1_passOn 3 = .ok (.aload_n 0, 1) := by decide +kernel
theorem dX1_passOn_4 : decode cX1_passOn 4 = .ok (.getfield 24, 3) := by decide +kernel
theorem dX1_passOn_7 : decode cX1_passOn 7 = .ok (.iload_n 1, 1) := by decide +kernel
theorem dX1_passOn_8 : decode cX1_passOn 8 = .ok (.iload_n 2, 1) := by decide +kernel
theorem dX1_passOn_9 : decode cX1_passOn 9 = .ok (.iadd, 1) := by decide +kernel
theorem dX1_passOn_10 : decode cX1_passOn 10 = .ok (.iaload, 1) := by decide +kernel
theorem dX1_passOn_11 : decode cX1_passOn 11 = .ok (.istore 5, 2) := by decide +kernel
theorem dX1_passOn_13 : decode cX1_passOn 13 = .ok (.iload_n 2, 1) := by decide +kernel
theorem dX1_passOn_14 : decode cX1_passOn 14 = .ok (.iconst 4, 1) := by decide +kernel
theorem dX1_passOn_15 : decode cX1_passOn 15 = .ok (.imul, 1) := by decide +kernel
theorem dX1_passOn_16 : decode cX1_passOn 16 = .ok (.istore 6, 2) := by decide +kernel
theorem dX1_passOn_18 : decode cX1_passOn 18 = .ok (.iload 6, 2) := by decide +kernel
theorem dX1_passOn_20 : decode cX1_passOn 20 = .ok (.iload_n 2, 1) := by decide +kernel
theorem dX1_passOn_21 : decode cX1_passOn 21 = .ok (.iconst 1, 1) := by decide +kernel
theorem dX1_passOn_22 : decode cX1_passOn 22 = .ok (.iadd, 1) := by decide +kernel
theorem dX1_passOn_23 : decode cX1_passOn 23 = .ok (.iconst 4, 1) := by decide +kernel
theorem dX1_passOn_24 : decode cX1_passOn 24 = .ok (.imul, 1) := by decide +kernel
theorem dX1_passOn_25 : decode cX1_passOn 25 = .ok (.if_icmp .ge 73, 3) := by decide +kernel
theorem dX1_passOn_28 : decode cX1_passOn 28 = .ok (.aload_n 0, 1) := by decide +kernel
theorem dX1_passOn_29 : decode cX1_passOn 29 = .ok (.getfield 18, 3) := by decide +kernel
theorem dX1_passOn_32 : decode cX1_passOn 32 = .ok (.iload 6, 2) := by decide +kernel
theorem dX1_passOn_34 : decode cX1_passOn 34 = .ok (.iaload, 1) := by decide +kernel
theorem dX1_passOn_35 : decode cX1_passOn 35 = .ok (.istore 7, 2) := by decide +kernel
theorem dX1_passOn_37 : decode cX1_passOn 37 = .ok (.iload 7, 2) := by decide +kernel
theorem dX1_passOn_39 : decode cX1_passOn 39 = .ok (.ifCond .lt 53, 3) := by decide +kernel
theorem dX1_passOn_42 : decode cX1_passOn 42 = .ok (.iload 7, 2) := by decide +kernel
theorem dX1_passOn_44 : decode cX1_passOn 44 = .ok (.iload_n 3, 1) := by decide +kernel
theorem dX1_passOn_45 : decode cX1_passOn 45 = .ok (.if_icmp .ge 47, 3) := by decide +kernel
theorem dX1_passOn_48 : decode cX1_passOn 48 = .ok (.iload 5, 2) := by decide +kernel
theorem dX1_passOn_50 : decode cX1_passOn 50 = .ok (.aload_n 0, 1) := by decide +kernel
theorem dX1_passOn_51 : decode cX1_passOn 51 = .ok (.getfield 21, 3) := by decide +kernel
theorem dX1_passOn_54 : decode cX1_passOn 54 = .ok (.iload 6, 2) := by decide +kernel
theorem dX1_passOn_56 : decode cX1_passOn 56 = .ok (.iaload, 1) := by decide +kernel
theorem dX1_passOn_57 : decode cX1_passOn 57 = .ok (.iadd, 1) := by decide +kernel
theorem dX1_passOn_58 : decode cX1_passOn 58 = .ok (.aload_n 0, 1) := by decide +kernel
theorem dX1_passOn_59 : decode cX1_passOn 59 = .ok (.getfield 24, 3) := by decide +kernel
theorem dX1_passOn_62 : decode cX1_passOn 62 = .ok (.iload_n 1, 1) := by decide +kernel
theorem dX1_passOn_63 : decode cX1_passOn 63 = .ok (.iload 7, 2) := by decide +kernel
theorem dX1_passOn_65 : decode cX1_passOn 65 = .ok (.iadd, 1) := by decide +kernel
theorem dX1_passOn_66 : decode cX1_passOn 66 = .ok (.iaload, 1) := by decide +kernel
theorem dX1_passOn_67 : decode cX1_passOn 67 = .ok (.if_icmp .ge 25, 3) := by decide +kernel
theorem dX1_passOn_70 : decode cX1_passOn 70 = .ok (.aload_n 0, 1) := by decide +kernel
theorem dX1_passOn_71 : decode cX1_passOn 71 = .ok (.getfield 24, 3) := by decide +kernel
theorem dX1_passOn_74 : decode cX1_passOn 74 = .ok (.iload_n 1, 1) := by decide +kernel
theorem dX1_passOn_75 : decode cX1_passOn 75 = .ok (.iload 7, 2) := by decide +kernel
theorem dX1_passOn_77 : decode cX1_passOn 77 = .ok (.iadd, 1) := by decide +kernel
theorem dX1_passOn_78 : decode cX1_passOn 78 = .ok (.iload 5, 2) := by decide +kernel
theorem dX1_passOn_80 : decode cX1_passOn 80 = .ok (.aload_n 0, 1) := by decide +kernel
theorem dX1_passOn_81 : decode cX1_passOn 81 = .ok (.getfield 21, 3) := by decide +kernel
theorem dX1_passOn_84 : decode cX1_passOn 84 = .ok (.iload 6, 2) := by decide +kernel
theorem dX1_passOn_86 : decode cX1_passOn 86 = .ok (.iaload, 1) := by decide +kernel
theorem dX1_passOn_87 : decode cX1_passOn 87 = .ok (.iadd, 1) := by decide +kernel
theorem dX1_passOn_88 : decode cX1_passOn 88 = .ok (.iastore, 1) := by decide +kernel
theorem dX1_passOn_89 : decode cX1_passOn 89 = .ok (.iconst 1, 1) := by decide +kernel
theorem dX1_passOn_90 : decode cX1_passOn 90 = .ok (.istore 4, 2) := by decide +kernel
theorem dX1_passOn_92 : decode cX1_passOn 92 = .ok (.iinc 6 1, 3) := by decide +kernel
theorem dX1_passOn_95 : decode cX1_passOn 95 = .ok (.goto (-77), 3) := by decide +kernel
theorem dX1_passOn_98 : decode cX1_passOn 98 = .ok (.iload 4, 2) := by decide +kernel
theorem dX1_passOn_100 : decode cX1_passOn 100 = .ok (.ireturn, 1) := by decide +kernel
theorem dX2_init_0 : decode cX2_init 0 = .ok (.aload_n 0, 1) := by decide +kernel
theorem dX2_init_1 : decode cX2_init 1 = .ok (.invokespecial 3, 3) := by decide +kernel
theorem dX2_init_4 : decode cX2_init 4 = .ok (.aload_n 0, 1) := by decide +kernel
theorem dX2_init_5 : decode cX2_init 5 = .ok (.aload_n 1, 1) := by decide +kernel
theorem dX2_init_6 : decode cX2_init 6 = .ok (.putfield 9, 3) := by decide +kernel
theorem dX2_init_9 : decode cX2_init 9 = .ok (.aload_n 0, 1) := by decide +kernel
theorem dX2_init_10 : decode cX2_init 10 = .ok (.aload_n 2, 1) := by decide +kernel
theorem dX2_init_11 : decode cX2_init 11 = .ok (.putfield 15, 3) := by decide +kernel
theorem dX2_init_14 : decode cX2_init 14 = .ok (.return_, 1) := by decide +kernel
theorem dX2_loudBy_0 : decode cX2_loudBy 0 = .ok (.iconst 0, 1) := by decide +kernel
theorem dX2_loudBy_1 : decode cX2_loudBy 1 = .ok (.iload_n 1, 1) := by decide +kernel
theorem dX2_loudBy_2 : decode cX2_loudBy 2 = .ok (.aload_n 0, 1) := by decide +kernel
theorem dX2_loudBy_3 : decode cX2_loudBy 3 = .ok (.getfield 15, 3) := by decide +kernel
theorem dX2_loudBy_6 : decode cX2_loudBy 6 = .ok (.iload_n 2, 1) := by decide +kernel
theorem dX2_loudBy_7 : decode cX2_loudBy 7 = .ok (.iload_n 3, 1) := by decide +kernel
theorem dX2_loudBy_8 : decode cX2_loudBy 8 = .ok (.invokevirtual 19, 3) := by decide +kernel
theorem dX2_loudBy_11 : decode cX2_loudBy 11 = .ok (.isub, 1) := by decide +kernel
theorem dX2_loudBy_12 : decode cX2_loudBy 12 = .ok (.invokestatic 25, 3) := by decide +kernel
theorem dX2_loudBy_15 : decode cX2_loudBy 15 = .ok (.ireturn, 1) := by decide +kernel
theorem dX2_loudWithin_0 : decode cX2_loudWithin 0 = .ok (.iconst 0, 1) := by decide +kernel
theorem dX2_loudWithin_1 : decode cX2_loudWithin 1 = .ok (.istore 4, 2) := by decide +kernel
theorem dX2_loudWithin_3 : decode cX2_loudWithin 3 = .ok (.iconst 0, 1) := by decide +kernel
theorem dX2_loudWithin_4 : decode cX2_loudWithin 4 = .ok (.istore 5, 2) := by decide +kernel
theorem dX2_loudWithin_6 : decode cX2_loudWithin 6 = .ok (.iload 5, 2) := by decide +kernel
theorem dX2_loudWithin_8 : decode cX2_loudWithin 8 = .ok (.aload_n 0, 1) := by decide +kernel
theorem dX2_loudWithin_9 : decode cX2_loudWithin 9 = .ok (.getfield 9, 3) := by decide +kernel
theorem dX2_loudWithin_12 : decode cX2_loudWithin 12 = .ok (.getfield 30, 3) := by decide +kernel
theorem dX2_loudWithin_15 : decode cX2_loudWithin 15 = .ok (.invokevirtual 36, 3) := by decide +kernel
theorem dX2_loudWithin_18 : decode cX2_loudWithin 18 = .ok (.if_icmp .ge 89, 3) := by decide +kernel
theorem dX2_loudWithin_21 : decode cX2_loudWithin 21 = .ok (.aload_n 0, 1) := by decide +kernel
theorem dX2_loudWithin_22 : decode cX2_loudWithin 22 = .ok (.getfield 9, 3) := by decide +kernel
theorem dX2_loudWithin_25 : decode cX2_loudWithin 25 = .ok (.getfield 30, 3) := by decide +kernel
theorem dX2_loudWithin_28 : decode cX2_loudWithin 28 = .ok (.iload 5, 2) := by decide +kernel
theorem dX2_loudWithin_30 : decode cX2_loudWithin 30 = .ok (.iconst 2, 1) := by decide +kernel
theorem dX2_loudWithin_31 : decode cX2_loudWithin 31 = .ok (.invokevirtual 42, 3) := by decide +kernel
theorem dX2_loudWithin_34 : decode cX2_loudWithin 34 = .ok (.iload_n 3, 1) := by decide +kernel
theorem dX2_loudWithin_35 : decode cX2_loudWithin 35 = .ok (.if_icmp .gt 66, 3) := by decide +kernel
theorem dX2_loudWithin_38 : decode cX2_loudWithin 38 = .ok (.aload_n 0, 1) := by decide +kernel
theorem dX2_loudWithin_39 : decode cX2_loudWithin 39 = .ok (.getfield 9, 3) := by decide +kernel
theorem dX2_loudWithin_42 : decode cX2_loudWithin 42 = .ok (.getfield 30, 3) := by decide +kernel
theorem dX2_loudWithin_45 : decode cX2_loudWithin 45 = .ok (.iload 5, 2) := by decide +kernel
theorem dX2_loudWithin_47 : decode cX2_loudWithin 47 = .ok (.iconst 3, 1) := by decide +kernel
theorem dX2_loudWithin_48 : decode cX2_loudWithin 48 = .ok (.invokevirtual 42, 3) := by decide +kernel
theorem dX2_loudWithin_51 : decode cX2_loudWithin 51 = .ok (.iload_n 2, 1) := by decide +kernel
theorem dX2_loudWithin_52 : decode cX2_loudWithin 52 = .ok (.if_icmp .lt 49, 3) := by decide +kernel
theorem dX2_loudWithin_55 : decode cX2_loudWithin 55 = .ok (.aload_n 0, 1) := by decide +kernel
theorem dX2_loudWithin_56 : decode cX2_loudWithin 56 = .ok (.getfield 9, 3) := by decide +kernel
theorem dX2_loudWithin_59 : decode cX2_loudWithin 59 = .ok (.getfield 30, 3) := by decide +kernel
theorem dX2_loudWithin_62 : decode cX2_loudWithin 62 = .ok (.iload 5, 2) := by decide +kernel
theorem dX2_loudWithin_64 : decode cX2_loudWithin 64 = .ok (.iconst 1, 1) := by decide +kernel
theorem dX2_loudWithin_65 : decode cX2_loudWithin 65 = .ok (.invokevirtual 42, 3) := by decide +kernel
theorem dX2_loudWithin_68 : decode cX2_loudWithin 68 = .ok (.aload_n 0, 1) := by decide +kernel
theorem dX2_loudWithin_69 : decode cX2_loudWithin 69 = .ok (.getfield 15, 3) := by decide +kernel
theorem dX2_loudWithin_72 : decode cX2_loudWithin 72 = .ok (.aload_n 0, 1) := by decide +kernel
theorem dX2_loudWithin_73 : decode cX2_loudWithin 73 = .ok (.getfield 9, 3) := by decide +kernel
theorem dX2_loudWithin_76 : decode cX2_loudWithin 76 = .ok (.getfield 30, 3) := by decide +kernel
theorem dX2_loudWithin_79 : decode cX2_loudWithin 79 = .ok (.iload 5, 2) := by decide +kernel
theorem dX2_loudWithin_81 : decode cX2_loudWithin 81 = .ok (.iconst 0, 1) := by decide +kernel
theorem dX2_loudWithin_82 : decode cX2_loudWithin 82 = .ok (.invokevirtual 42, 3) := by decide +kernel
theorem dX2_loudWithin_85 : decode cX2_loudWithin 85 = .ok (.iload_n 1, 1) := by decide +kernel
theorem dX2_loudWithin_86 : decode cX2_loudWithin 86 = .ok (.invokevirtual 19, 3) := by decide +kernel
theorem dX2_loudWithin_89 : decode cX2_loudWithin 89 = .ok (.isub, 1) := by decide +kernel
theorem dX2_loudWithin_90 : decode cX2_loudWithin 90 = .ok (.istore 6, 2) := by decide +kernel
theorem dX2_loudWithin_92 : decode cX2_loudWithin 92 = .ok (.iload 4, 2) := by decide +kernel
theorem dX2_loudWithin_94 : decode cX2_loudWithin 94 = .ok (.iload 6, 2) := by decide +kernel
theorem dX2_loudWithin_96 : decode cX2_loudWithin 96 = .ok (.invokestatic 25, 3) := by decide +kernel
theorem dX2_loudWithin_99 : decode cX2_loudWithin 99 = .ok (.istore 4, 2) := by decide +kernel
theorem dX2_loudWithin_101 : decode cX2_loudWithin 101 = .ok (.iinc 5 1, 3) := by decide +kernel
theorem dX2_loudWithin_104 : decode cX2_loudWithin 104 = .ok (.goto (-98), 3) := by decide +kernel
theorem dX2_loudWithin_107 : decode cX2_loudWithin 107 = .ok (.iload 4, 2) := by decide +kernel
theorem dX2_loudWithin_109 : decode cX2_loudWithin 109 = .ok (.ireturn, 1) := by decide +kernel
theorem dX2_loudOnSheet_0 : decode cX2_loudOnSheet 0 = .ok (.iconst 0, 1) := by decide +kernel
theorem dX2_loudOnSheet_1 : decode cX2_loudOnSheet 1 = .ok (.istore_n 3, 1) := by decide +kernel
theorem dX2_loudOnSheet_2 : decode cX2_loudOnSheet 2 = .ok (.iconst 0, 1) := by decide +kernel
theorem dX2_loudOnSheet_3 : decode cX2_loudOnSheet 3 = .ok (.istore 4, 2) := by decide +kernel
theorem dX2_loudOnSheet_5 : decode cX2_loudOnSheet 5 = .ok (.iload 4, 2) := by decide +kernel
theorem dX2_loudOnSheet_7 : decode cX2_loudOnSheet 7 = .ok (.aload_n 0, 1) := by decide +kernel
theorem dX2_loudOnSheet_8 : decode cX2_loudOnSheet 8 = .ok (.getfield 9, 3) := by decide +kernel
theorem dX2_loudOnSheet_11 : decode cX2_loudOnSheet 11 = .ok (.getfield 45, 3) := by decide +kernel
theorem dX2_loudOnSheet_14 : decode cX2_loudOnSheet 14 = .ok (.if_icmp .ge 35, 3) := by decide +kernel
theorem dX2_loudOnSheet_17 : decode cX2_loudOnSheet 17 = .ok (.aload_n 0, 1) := by decide +kernel
theorem dX2_loudOnSheet_18 : decode cX2_loudOnSheet 18 = .ok (.getfield 15, 3) := by decide +kernel
theorem dX2_loudOnSheet_21 : decode cX2_loudOnSheet 21 = .ok (.iload 4, 2) := by decide +kernel
theorem dX2_loudOnSheet_23 : decode cX2_loudOnSheet 23 = .ok (.invokevirtual 49, 3) := by decide +kernel
theorem dX2_loudOnSheet_26 : decode cX2_loudOnSheet 26 = .ok (.iload_n 1, 1) := by decide +kernel
theorem dX2_loudOnSheet_27 : decode cX2_loudOnSheet 27 = .ok (.if_icmp .ne 16, 3) := by decide +kernel
theorem dX2_loudOnSheet_30 : decode cX2_loudOnSheet 30 = .ok (.iload_n 3, 1) := by decide +kernel
theorem dX2_loudOnSheet_31 : decode cX2_loudOnSheet 31 = .ok (.aload_n 0, 1) := by decide +kernel
theorem dX2_loudOnSheet_32 : decode cX2_loudOnSheet 32 = .ok (.iload 4, 2) := by decide +kernel
theorem dX2_loudOnSheet_34 : decode cX2_loudOnSheet 34 = .ok (.iload_n 2, 1) := by decide +kernel
theorem dX2_loudOnSheet_35 : decode cX2_loudOnSheet 35 = .ok (.iload_n 2, 1) := by decide +kernel
theorem dX2_loudOnSheet_36 : decode cX2_loudOnSheet 36 = .ok (.invokevirtual 53, 3) := by decide +kernel
theorem dX2_loudOnSheet_39 : decode cX2_loudOnSheet 39 = .ok (.invokestatic 25, 3) := by decide +kernel
theorem dX2_loudOnSheet_42 : decode cX2_loudOnSheet 42 = .ok (.istore_n 3, 1) := by decide +kernel
theorem dX2_loudOnSheet_43 : decode cX2_loudOnSheet 43 = .ok (.iinc 4 1, 3) := by decide +kernel
theorem dX2_loudOnSheet_46 : decode cX2_loudOnSheet 46 = .ok (.goto (-41), 3) := by decide +kernel
theorem dX2_loudOnSheet_49 : decode cX2_loudOnSheet 49 = .ok (.iload_n 3, 1) := by decide +kernel
theorem dX2_loudOnSheet_50 : decode cX2_loudOnSheet 50 = .ok (.ireturn, 1) := by decide +kernel
theorem dX2_loudInRooms_0 : decode cX2_loudInRooms 0 = .ok (.aload_n 0, 1) := by decide +kernel
theorem dX2_loudInRooms_1 : decode cX2_loudInRooms 1 = .ok (.getfield 9, 3) := by decide +kernel
theorem dX2_loudInRooms_4 : decode cX2_loudInRooms 4 = .ok (.getfield 57, 3) := by decide +kernel
theorem dX2_loudInRooms_7 : decode cX2_loudInRooms 7 = .ok (.astore_n 1, 1) := by decide +kernel
theorem dX2_loudInRooms_8 : decode cX2_loudInRooms 8 = .ok (.iconst 0, 1) := by decide +kernel
theorem dX2_loudInRooms_9 : decode cX2_loudInRooms 9 = .ok (.istore_n 2, 1) := by decide +kernel
theorem dX2_loudInRooms_10 : decode cX2_loudInRooms 10 = .ok (.iconst 0, 1) := by decide +kernel
theorem dX2_loudInRooms_11 : decode cX2_loudInRooms 11 = .ok (.istore_n 3, 1) := by decide +kernel
theorem dX2_loudInRooms_12 : decode cX2_loudInRooms 12 = .ok (.iload_n 3, 1) := by decide +kernel
theorem dX2_loudInRooms_13 : decode cX2_loudInRooms 13 = .ok (.aload_n 1, 1) := by decide +kernel
theorem dX2_loudInRooms_14 : decode cX2_loudInRooms 14 = .ok (.invokevirtual 36, 3) := by decide +kernel
theorem dX2_loudInRooms_17 : decode cX2_loudInRooms 17 = .ok (.if_icmp .ge 34, 3) := by decide +kernel
theorem dX2_loudInRooms_20 : decode cX2_loudInRooms 20 = .ok (.iload_n 2, 1) := by decide +kernel
theorem dX2_loudInRooms_21 : decode cX2_loudInRooms 21 = .ok (.aload_n 0, 1) := by decide +kernel
theorem dX2_loudInRooms_22 : decode cX2_loudInRooms 22 = .ok (.aload_n 1, 1) := by decide +kernel
theorem dX2_loudInRooms_23 : decode cX2_loudInRooms 23 = .ok (.iload_n 3, 1) := by decide +kernel
theorem dX2_loudInRooms_24 : decode cX2_loudInRooms 24 = .ok (.iconst 0, 1) := by decide +kernel
theorem dX2_loudInRooms_25 : decode cX2_loudInRooms 25 = .ok (.invokevirtual 42, 3) := by decide +kernel
theorem dX2_loudInRooms_28 : decode cX2_loudInRooms 28 = .ok (.aload_n 1, 1) := by decide +kernel
theorem dX2_loudInRooms_29 : decode cX2_loudInRooms 29 = .ok (.iload_n 3, 1) := by decide +kernel
theorem dX2_loudInRooms_30 : decode cX2_loudInRooms 30 = .ok (.iconst 1, 1) := by decide +kernel
theorem dX2_loudInRooms_31 : decode cX2_loudInRooms 31 = .ok (.invokevirtual 42, 3) := by decide +kernel
theorem dX2_loudInRooms_34 : decode cX2_loudInRooms 34 = .ok (.aload_n 1, 1) := by decide +kernel
theorem dX2_loudInRooms_35 : decode cX2_loudInRooms 35 = .ok (.iload_n 3, 1) := by decide +kernel
theorem dX2_loudInRooms_36 : decode cX2_loudInRooms 36 = .ok (.iconst 2, 1) := by decide +kernel
theorem dX2_loudInRooms_37 : decode cX2_loudInRooms 37 = .ok (.invokevirtual 42, 3) := by decide +kernel
theorem dX2_loudInRooms_40 : decode cX2_loudInRooms 40 = .ok (.invokevirtual 53, 3) := by decide +kernel
theorem dX2_loudInRooms_43 : decode cX2_loudInRooms 43 = .ok (.iadd, 1) := by decide +kernel
theorem dX2_loudInRooms_44 : decode cX2_loudInRooms 44 = .ok (.istore_n 2, 1) := by decide +kernel
theorem dX2_loudInRooms_45 : decode cX2_loudInRooms 45 = .ok (.iinc 3 1, 3) := by decide +kernel
theorem dX2_loudInRooms_48 : decode cX2_loudInRooms 48 = .ok (.goto (-36), 3) := by decide +kernel
theorem dX2_loudInRooms_51 : decode cX2_loudInRooms 51 = .ok (.iload_n 2, 1) := by decide +kernel
theorem dX2_loudInRooms_52 : decode cX2_loudInRooms 52 = .ok (.ireturn, 1) := by decide +kernel
theorem dX2_firstWaked_0 : decode cX2_firstWaked 0 = .ok (.aload_n 0, 1) := by decide +kernel
theorem dX2_firstWaked_1 : decode cX2_firstWaked 1 = .ok (.getfield 9, 3) := by decide +kernel
theorem dX2_firstWaked_4 : decode cX2_firstWaked 4 = .ok (.getfield 57, 3) := by decide +kernel
theorem dX2_firstWaked_7 : decode cX2_firstWaked 7 = .ok (.astore_n 1, 1) := by decide +kernel
theorem dX2_firstWaked_8 : decode cX2_firstWaked 8 = .ok (.iconst 0, 1) := by decide +kernel
theorem dX2_firstWaked_9 : decode cX2_firstWaked 9 = .ok (.istore_n 2, 1) := by decide +kernel
theorem dX2_firstWaked_10 : decode cX2_firstWaked 10 = .ok (.iload_n 2, 1) := by decide +kernel
theorem dX2_firstWaked_11 : decode cX2_firstWaked 11 = .ok (.aload_n 1, 1) := by decide +kernel
theorem dX2_firstWaked_12 : decode cX2_firstWaked 12 = .ok (.invokevirtual 36, 3) := by decide +kernel
theorem dX2_firstWaked_15 : decode cX2_firstWaked 15 = .ok (.if_icmp .ge 44, 3) := by decide +kernel
theorem dX2_firstWaked_18 : decode cX2_firstWaked 18 = .ok (.aload_n 0, 1) := by decide +kernel
theorem dX2_firstWaked_19 : decode cX2_firstWaked 19 = .ok (.aload_n 1, 1) := by decide +kernel
theorem dX2_firstWaked_20 : decode cX2_firstWaked 20 = .ok (.iload_n 2, 1) := by decide +kernel
theorem dX2_firstWaked_21 : decode cX2_firstWaked 21 = .ok (.iconst 0, 1) := by decide +kernel
theorem dX2_firstWaked_22 : decode cX2_firstWaked 22 = .ok (.invokevirtual 42, 3) := by decide +kernel
theorem dX2_firstWaked_25 : decode cX2_firstWaked 25 = .ok (.aload_n 1, 1) := by decide +kernel
theorem dX2_firstWaked_26 : decode cX2_firstWaked 26 = .ok (.iload_n 2, 1) := by decide +kernel
theorem dX2_firstWaked_27 : decode cX2_firstWaked 27 = .ok (.iconst 1, 1) := by decide +kernel
theorem dX2_firstWaked_28 : decode cX2_firstWaked 28 = .ok (.invokevirtual 42, 3) := by decide +kernel
theorem dX2_firstWaked_31 : decode cX2_firstWaked 31 = .ok (.aload_n 1, 1) := by decide +kernel
theorem dX2_firstWaked_32 : decode cX2_firstWaked 32 = .ok (.iload_n 2, 1) := by decide +kernel
theorem dX2_firstWaked_33 : decode cX2_firstWaked 33 = .ok (.iconst 2, 1) := by decide +kernel
theorem dX2_firstWaked_34 : decode cX2_firstWaked 34 = .ok (.invokevirtual 42, 3) := by decide +kernel
theorem dX2_firstWaked_37 : decode cX2_firstWaked 37 = .ok (.invokevirtual 53, 3) := by decide +kernel
theorem dX2_firstWaked_40 : decode cX2_firstWaked 40 = .ok (.istore_n 3, 1) := by decide +kernel
theorem dX2_firstWaked_41 : decode cX2_firstWaked 41 = .ok (.iload_n 3, 1) := by decide +kernel
theorem dX2_firstWaked_42 : decode cX2_firstWaked 42 = .ok (.aload_n 1, 1) := by decide +kernel
theorem dX2_firstWaked_43 : decode cX2_firstWaked 43 = .ok (.iload_n 2, 1) := by decide +kernel
theorem dX2_firstWaked_44 : decode cX2_firstWaked 44 = .ok (.iconst 3, 1) := by decide +kernel
theorem dX2_firstWaked_45 : decode cX2_firstWaked 45 = .ok (.invokevirtual 42, 3) := by decide +kernel
theorem dX2_firstWaked_48 : decode cX2_firstWaked 48 = .ok (.if_icmp .le 5, 3) := by decide +kernel
theorem dX2_firstWaked_51 : decode cX2_firstWaked 51 = .ok (.iload_n 2, 1) := by decide +kernel
theorem dX2_firstWaked_52 : decode cX2_firstWaked 52 = .ok (.ireturn, 1) := by decide +kernel
theorem dX2_firstWaked_53 : decode cX2_firstWaked 53 = .ok (.iinc 2 1, 3) := by decide +kernel
theorem dX2_firstWaked_56 : decode cX2_firstWaked 56 = .ok (.goto (-46), 3) := by decide +kernel
theorem dX2_firstWaked_59 : decode cX2_firstWaked 59 = .ok (.bipush (-9), 2) := by decide +kernel
theorem dX2_firstWaked_61 : decode cX2_firstWaked 61 = .ok (.ireturn, 1) := by decide +kernel
theorem dX2_firstLoudHour_0 : decode cX2_firstLoudHour 0 = .ok (.aload_n 0, 1) := by decide +kernel
theorem dX2_firstLoudHour_1 : decode cX2_firstLoudHour 1 = .ok (.getfield 9, 3) := by decide +kernel
theorem dX2_firstLoudHour_4 : decode cX2_firstLoudHour 4 = .ok (.getfield 57, 3) := by decide +kernel
theorem dX2_firstLoudHour_7 : decode cX2_firstLoudHour 7 = .ok (.iload_n 1, 1) := by decide +kernel
theorem dX2_firstLoudHour_8 : decode cX2_firstLoudHour 8 = .ok (.iconst 1, 1) := by decide +kernel
theorem dX2_firstLoudHour_9 : decode cX2_firstLoudHour 9 = .ok (.invokevirtual 42, 3) := by decide +kernel
theorem dX2_firstLoudHour_12 : decode cX2_firstLoudHour 12 = .ok (.istore_n 2, 1) := by decide +kernel
theorem dX2_firstLoudHour_13 : decode cX2_firstLoudHour 13 = .ok (.iload_n 2, 1) := by decide +kernel
theorem dX2_firstLoudHour_14 : decode cX2_firstLoudHour 14 = .ok (.bipush 24, 2) := by decide +kernel
theorem dX2_firstLoudHour_16 : decode cX2_firstLoudHour 16 = .ok (.if_icmp .ge 44, 3) := by decide +kernel
theorem dX2_firstLoudHour_19 : decode cX2_firstLoudHour 19 = .ok (.aload_n 0, 1) := by decide +kernel
theorem dX2_firstLoudHour_20 : decode cX2_firstLoudHour 20 = .ok (.aload_n 0, 1) := by decide +kernel
theorem dX2_firstLoudHour_21 : decode cX2_firstLoudHour 21 = .ok (.getfield 9, 3) := by decide +kernel
theorem dX2_firstLoudHour_24 : decode cX2_firstLoudHour 24 = .ok (.getfield 57, 3) := by decide +kernel
theorem dX2_firstLoudHour_27 : decode cX2_firstLoudHour 27 = .ok (.iload_n 1, 1) := by decide +kernel
theorem dX2_firstLoudHour_28 : decode cX2_firstLoudHour 28 = .ok (.iconst 0, 1) := by decide +kernel
theorem dX2_firstLoudHour_29 : decode cX2_firstLoudHour 29 = .ok (.invokevirtual 42, 3) := by decide +kernel
theorem dX2_firstLoudHour_32 : decode cX2_firstLoudHour 32 = .ok (.iload_n 2, 1) := by decide +kernel
theorem dX2_firstLoudHour_33 : decode cX2_firstLoudHour 33 = .ok (.iload_n 2, 1) := by decide +kernel
theorem dX2_firstLoudHour_34 : decode cX2_firstLoudHour 34 = .ok (.invokevirtual 53, 3) := by decide +kernel
theorem dX2_firstLoudHour_37 : decode cX2_firstLoudHour 37 = .ok (.aload_n 0, 1) := by decide +kernel
theorem dX2_firstLoudHour_38 : decode cX2_firstLoudHour 38 = .ok (.getfield 9, 3) := by decide +kernel
theorem dX2_firstLoudHour_41 : decode cX2_firstLoudHour 41 = .ok (.getfield 57, 3) := by decide +kernel
theorem dX2_firstLoudHour_44 : decode cX2_firstLoudHour 44 = .ok (.iload_n 1, 1) := by decide +kernel
theorem dX2_firstLoudHour_45 : decode cX2_firstLoudHour 45 = .ok (.iconst 3, 1) := by decide +kernel
theorem dX2_firstLoudHour_46 : decode cX2_firstLoudHour 46 = .ok (.invokevirtual 42, 3) := by decide +kernel
theorem dX2_firstLoudHour_49 : decode cX2_firstLoudHour 49 = .ok (.if_icmp .le 5, 3) := by decide +kernel
theorem dX2_firstLoudHour_52 : decode cX2_firstLoudHour 52 = .ok (.iload_n 2, 1) := by decide +kernel
theorem dX2_firstLoudHour_53 : decode cX2_firstLoudHour 53 = .ok (.ireturn, 1) := by decide +kernel
theorem dX2_firstLoudHour_54 : decode cX2_firstLoudHour 54 = .ok (.iinc 2 1, 3) := by decide +kernel
theorem dX2_firstLoudHour_57 : decode cX2_firstLoudHour 57 = .ok (.goto (-44), 3) := by decide +kernel
theorem dX2_firstLoudHour_60 : decode cX2_firstLoudHour 60 = .ok (.bipush (-9), 2) := by decide +kernel
theorem dX2_firstLoudHour_62 : decode cX2_firstLoudHour 62 = .ok (.ireturn, 1) := by decide +kernel
theorem dX2_wakes_0 : decode cX2_wakes 0 = .ok (.aload_n 0, 1) := by decide +kernel
theorem dX2_wakes_1 : decode cX2_wakes 1 = .ok (.aload_n 0, 1) := by decide +kernel
theorem dX2_wakes_2 : decode cX2_wakes 2 = .ok (.getfield 9, 3) := by decide +kernel
theorem dX2_wakes_5 : decode cX2_wakes 5 = .ok (.getfield 30, 3) := by decide +kernel
theorem dX2_wakes_8 : decode cX2_wakes 8 = .ok (.iload_n 1, 1) := by decide +kernel
theorem dX2_wakes_9 : decode cX2_wakes 9 = .ok (.iconst 1, 1) := by decide +kernel
theorem dX2_wakes_10 : decode cX2_wakes 10 = .ok (.invokevirtual 42, 3) := by decide +kernel
theorem dX2_wakes_13 : decode cX2_wakes 13 = .ok (.aload_n 0, 1) := by decide +kernel
theorem dX2_wakes_14 : decode cX2_wakes 14 = .ok (.getfield 9, 3) := by decide +kernel
theorem dX2_wakes_17 : decode cX2_wakes 17 = .ok (.getfield 30, 3) := by decide +kernel
theorem dX2_wakes_20 : decode cX2_wakes 20 = .ok (.iload_n 1, 1) := by decide +kernel
theorem dX2_wakes_21 : decode cX2_wakes 21 = .ok (.iconst 0, 1) := by decide +kernel
theorem dX2_wakes_22 : decode cX2_wakes 22 = .ok (.invokevirtual 42, 3) := by decide +kernel
theorem dX2_wakes_25 : decode cX2_wakes 25 = .ok (.aload_n 0, 1) := by decide +kernel
theorem dX2_wakes_26 : decode cX2_wakes 26 = .ok (.getfield 9, 3) := by decide +kernel
theorem dX2_wakes_29 : decode cX2_wakes 29 = .ok (.getfield 57, 3) := by decide +kernel
theorem dX2_wakes_32 : decode cX2_wakes 32 = .ok (.iload_n 2, 1) := by decide +kernel
theorem dX2_wakes_33 : decode cX2_wakes 33 = .ok (.iconst 0, 1) := by decide +kernel
theorem dX2_wakes_34 : decode cX2_wakes 34 = .ok (.invokevirtual 42, 3) := by decide +kernel
theorem dX2_wakes_37 : decode cX2_wakes 37 = .ok (.invokevirtual 60, 3) := by decide +kernel
theorem dX2_wakes_40 : decode cX2_wakes 40 = .ok (.istore_n 3, 1) := by decide +kernel
theorem dX2_wakes_41 : decode cX2_wakes 41 = .ok (.iload_n 3, 1) := by decide +kernel
theorem dX2_wakes_42 : decode cX2_wakes 42 = .ok (.aload_n 0, 1) := by decide +kernel
theorem dX2_wakes_43 : decode cX2_wakes 43 = .ok (.getfield 9, 3) := by decide +kernel
theorem dX2_wakes_46 : decode cX2_wakes 46 = .ok (.getfield 57, 3) := by decide +kernel
theorem dX2_wakes_49 : decode cX2_wakes 49 = .ok (.iload_n 2, 1) := by decide +kernel
theorem dX2_wakes_50 : decode cX2_wakes 50 = .ok (.iconst 3, 1) := by decide +kernel
theorem dX2_wakes_51 : decode cX2_wakes 51 = .ok (.invokevirtual 42, 3) := by decide +kernel
theorem dX2_wakes_54 : decode cX2_wakes 54 = .ok (.if_icmp .le 7, 3) := by decide +kernel
theorem dX2_wakes_57 : decode cX2_wakes 57 = .ok (.iconst 1, 1) := by decide +kernel
theorem dX2_wakes_58 : decode cX2_wakes 58 = .ok (.goto 4, 3) := by decide +kernel
theorem dX2_wakes_61 : decode cX2_wakes 61 = .ok (.iconst 0, 1) := by decide +kernel
theorem dX2_wakes_62 : decode cX2_wakes 62 = .ok (.ireturn, 1) := by decide +kernel
theorem dX2_isUnheard_0 : decode cX2_isUnheard 0 = .ok (.iconst 0, 1) := by decide +kernel
theorem dX2_isUnheard_1 : decode cX2_isUnheard 1 = .ok (.istore_n 3, 1) := by decide +kernel
theorem dX2_isUnheard_2 : decode cX2_isUnheard 2 = .ok (.iload_n 3, 1) := by decide +kernel
theorem dX2_isUnheard_3 : decode cX2_isUnheard 3 = .ok (.aload_n 0, 1) := by decide +kernel
theorem dX2_isUnheard_4 : decode cX2_isUnheard 4 = .ok (.getfield 9, 3) := by decide +kernel
theorem dX2_isUnheard_7 : decode cX2_isUnheard 7 = .ok (.getfield 57, 3) := by decide +kernel
theorem dX2_isUnheard_10 : decode cX2_isUnheard 10 = .ok (.invokevirtual 36, 3) := by decide +kernel
theorem dX2_isUnheard_13 : decode cX2_isUnheard 13 = .ok (.if_icmp .ge 44, 3) := by decide +kernel
theorem dX2_isUnheard_16 : decode cX2_isUnheard 16 = .ok (.aload_n 0, 1) := by decide +kernel
theorem dX2_isUnheard_17 : decode cX2_isUnheard 17 = .ok (.iload_n 2, 1) := by decide +kernel
theorem dX2_isUnheard_18 : decode cX2_isUnheard 18 = .ok (.iload_n 1, 1) := by decide +kernel
theorem dX2_isUnheard_19 : decode cX2_isUnheard 19 = .ok (.aload_n 0, 1) := by decide +kernel
theorem dX2_isUnheard_20 : decode cX2_isUnheard 20 = .ok (.getfield 9, 3) := by decide +kernel
theorem dX2_isUnheard_23 : decode cX2_isUnheard 23 = .ok (.getfield 57, 3) := by decide +kernel
theorem dX2_isUnheard_26 : decode cX2_isUnheard 26 = .ok (.iload_n 3, 1) := by decide +kernel
theorem dX2_isUnheard_27 : decode cX2_isUnheard 27 = .ok (.iconst 0, 1) := by decide +kernel
theorem dX2_isUnheard_28 : decode cX2_isUnheard 28 = .ok (.invokevirtual 42, 3) := by decide +kernel
theorem dX2_isUnheard_31 : decode cX2_isUnheard 31 = .ok (.invokevirtual 60, 3) := by decide +kernel
theorem dX2_isUnheard_34 : decode cX2_isUnheard 34 = .ok (.aload_n 0, 1) := by decide +kernel
theorem dX2_isUnheard_35 : decode cX2_isUnheard 35 = .ok (.getfield 9, 3) := by decide +kernel
theorem dX2_isUnheard_38 : decode cX2_isUnheard 38 = .ok (.getfield 57, 3) := by decide +kernel
theorem dX2_isUnheard_41 : decode cX2_isUnheard 41 = .ok (.iload_n 3, 1) := by decide +kernel
theorem dX2_isUnheard_42 : decode cX2_isUnheard 42 = .ok (.iconst 3, 1) := by decide +kernel
theorem dX2_isUnheard_43 : decode cX2_isUnheard 43 = .ok (.invokevirtual 42, 3) := by decide +kernel
theorem dX2_isUnheard_46 : decode cX2_isUnheard 46 = .ok (.if_icmp .le 5, 3) := by decide +kernel
theorem dX2_isUnheard_49 : decode cX2_isUnheard 49 = .ok (.iconst 0, 1) := by decide +kernel
theorem dX2_isUnheard_50 : decode cX2_isUnheard 50 = .ok (.ireturn, 1) := by decide +kernel
theorem dX2_isUnheard_51 : decode cX2_isUnheard 51 = .ok (.iinc 3 1, 3) := by decide +kernel
theorem dX2_isUnheard_54 : decode cX2_isUnheard 54 = .ok (.goto (-52), 3) := by decide +kernel
theorem dX2_isUnheard_57 : decode cX2_isUnheard 57 = .ok (.iconst 1, 1) := by decide +kernel
theorem dX2_isUnheard_58 : decode cX2_isUnheard 58 = .ok (.ireturn, 1) := by decide +kernel
theorem dX3_init_0 : decode cX3_init 0 = .ok (.aload_n 0, 1) := by decide +kernel
theorem dX3_init_1 : decode cX3_init 1 = .ok (.invokespecial 3, 3) := by decide +kernel
theorem dX3_init_4 : decode cX3_init 4 = .ok (.aload_n 0, 1) := by decide +kernel
theorem dX3_init_5 : decode cX3_init 5 = .ok (.new 9, 3) := by decide +kernel
theorem dX3_init_8 : decode cX3_init 8 = .ok (.dup, 1) := by decide +kernel
theorem dX3_init_9 : decode cX3_init 9 = .ok (.iconst 3, 1) := by decide +kernel
theorem dX3_init_10 : decode cX3_init 10 = .ok (.invokespecial 11, 3) := by decide +kernel
theorem dX3_init_13 : decode cX3_init 13 = .ok (.putfield 14, 3) := by decide +kernel
theorem dX3_init_16 : decode cX3_init 16 = .ok (.aload_n 0, 1) := by decide +kernel
theorem dX3_init_17 : decode cX3_init 17 = .ok (.new 9, 3) := by decide +kernel
theorem dX3_init_20 : decode cX3_init 20 = .ok (.dup, 1) := by decide +kernel
theorem dX3_init_21 : decode cX3_init 21 = .ok (.iconst 4, 1) := by decide +kernel
theorem dX3_init_22 : decode cX3_init 22 = .ok (.invokespecial 11, 3) := by decide +kernel
theorem dX3_init_25 : decode cX3_init 25 = .ok (.putfield 20, 3) := by decide +kernel
theorem dX3_init_28 : decode cX3_init 28 = .ok (.aload_n 0, 1) := by decide +kernel
theorem dX3_init_29 : decode cX3_init 29 = .ok (.new 9, 3) := by decide +kernel
theorem dX3_init_32 : decode cX3_init 32 = .ok (.dup, 1) := by decide +kernel
theorem dX3_init_33 : decode cX3_init 33 = .ok (.iconst 3, 1) := by decide +kernel
theorem dX3_init_34 : decode cX3_init 34 = .ok (.invokespecial 11, 3) := by decide +kernel
theorem dX3_init_37 : decode cX3_init 37 = .ok (.putfield 23, 3) := by decide +kernel
theorem dX3_init_40 : decode cX3_init 40 = .ok (.aload_n 0, 1) := by decide +kernel
theorem dX3_init_41 : decode cX3_init 41 = .ok (.invokevirtual 26, 3) := by decide +kernel
theorem dX3_init_44 : decode cX3_init 44 = .ok (.return_, 1) := by decide +kernel
theorem dX3_begin_0 : decode cX3_begin 0 = .ok (.aload_n 0, 1) := by decide +kernel
theorem dX3_begin_1 : decode cX3_begin 1 = .ok (.iconst 3, 1) := by decide +kernel
theorem dX3_begin_2 : decode cX3_begin 2 = .ok (.iconst 2, 1) := by decide +kernel
theorem dX3_begin_3 : decode cX3_begin 3 = .ok (.invokevirtual 29, 3) := by decide +kernel
theorem dX3_begin_6 : decode cX3_begin 6 = .ok (.aload_n 0, 1) := by decide +kernel
theorem dX3_begin_7 : decode cX3_begin 7 = .ok (.iconst 5, 1) := by decide +kernel
theorem dX3_begin_8 : decode cX3_begin 8 = .ok (.putfield 33, 3) := by decide +kernel
theorem dX3_begin_11 : decode cX3_begin 11 = .ok (.aload_n 0, 1) := by decide +kernel
theorem dX3_begin_12 : decode cX3_begin 12 = .ok (.iconst 0, 1) := by decide +kernel
theorem dX3_begin_13 : decode cX3_begin 13 = .ok (.putfield 37, 3) := by decide +kernel
theorem dX3_begin_16 : decode cX3_begin 16 = .ok (.aload_n 0, 1) := by decide +kernel
theorem dX3_begin_17 : decode cX3_begin 17 = .ok (.getfield 14, 3) := by decide +kernel
theorem dX3_begin_20 : decode cX3_begin 20 = .ok (.invokevirtual 41, 3) := by decide +kernel
theorem dX3_begin_23 : decode cX3_begin 23 = .ok (.aload_n 0, 1) := by decide +kernel
theorem dX3_begin_24 : decode cX3_begin 24 = .ok (.getfield 20, 3) := by decide +kernel
theorem dX3_begin_27 : decode cX3_begin 27 = .ok (.invokevirtual 41, 3) := by decide +kernel
theorem dX3_begin_30 : decode cX3_begin 30 = .ok (.aload_n 0, 1) := by decide +kernel
theorem dX3_begin_31 : decode cX3_begin 31 = .ok (.getfield 23, 3) := by decide +kernel
theorem dX3_begin_34 : decode cX3_begin 34 = .ok (.invokevirtual 41, 3) := by decide +kernel
theorem dX3_begin_37 : decode cX3_begin 37 = .ok (.return_, 1) := by decide +kernel
theorem dX3_copyFrom_0 : decode cX3_copyFrom 0 = .ok (.aload_n 0, 1) := by decide +kernel
theorem dX3_copyFrom_1 : decode cX3_copyFrom 1 = .ok (.aload_n 1, 1) := by decide +kernel
theorem dX3_copyFrom_2 : decode cX3_copyFrom 2 = .ok (.getfield 44, 3) := by decide +kernel
theorem dX3_copyFrom_5 : decode cX3_copyFrom 5 = .ok (.aload_n 1, 1) := by decide +kernel
theorem dX3_copyFrom_6 : decode cX3_copyFrom 6 = .ok (.getfield 47, 3) := by decide +kernel
theorem dX3_copyFrom_9 : decode cX3_copyFrom 9 = .ok (.invokevirtual 29, 3) := by decide +kernel
theorem dX3_copyFrom_12 : decode cX3_copyFrom 12 = .ok (.aload_n 0, 1) := by decide +kernel
theorem dX3_copyFrom_13 : decode cX3_copyFrom 13 = .ok (.aload_n 1, 1) := by decide +kernel
theorem dX3_copyFrom_14 : decode cX3_copyFrom 14 = .ok (.getfield 33, 3) := by decide +kernel
theorem dX3_copyFrom_17 : decode cX3_copyFrom 17 = .ok (.putfield 33, 3) := by decide +kernel
theorem dX3_copyFrom_20 : decode cX3_copyFrom 20 = .ok (.aload_n 0, 1) := by decide +kernel
theorem dX3_copyFrom_21 : decode cX3_copyFrom 21 = .ok (.aload_n 1, 1) := by decide +kernel
theorem dX3_copyFrom_22 : decode cX3_copyFrom 22 = .ok (.getfield 37, 3) := by decide +kernel
theorem dX3_copyFrom_25 : decode cX3_copyFrom 25 = .ok (.putfield 37, 3) := by decide +kernel
theorem dX3_copyFrom_28 : decode cX3_copyFrom 28 = .ok (.aload_n 0, 1) := by decide +kernel
theorem dX3_copyFrom_29 : decode cX3_copyFrom 29 = .ok (.getfield 14, 3) := by decide +kernel
theorem dX3_copyFrom_32 : decode cX3_copyFrom 32 = .ok (.aload_n 1, 1) := by decide +kernel
theorem dX3_copyFrom_33 : decode cX3_copyFrom 33 = .ok (.getfield 14, 3) := by decide +kernel
theorem dX3_copyFrom_36 : decode cX3_copyFrom 36 = .ok (.invokevirtual 50, 3) := by decide +kernel
theorem dX3_copyFrom_39 : decode cX3_copyFrom 39 = .ok (.aload_n 0, 1) := by decide +kernel
theorem dX3_copyFrom_40 : decode cX3_copyFrom 40 = .ok (.getfield 20, 3) := by decide +kernel
theorem dX3_copyFrom_43 : decode cX3_copyFrom 43 = .ok (.aload_n 1, 1) := by decide +kernel
theorem dX3_copyFrom_44 : decode cX3_copyFrom 44 = .ok (.getfield 20, 3) := by decide +kernel
theorem dX3_copyFrom_47 : decode cX3_copyFrom 47 = .ok (.invokevirtual 50, 3) := by decide +kernel
theorem dX3_copyFrom_50 : decode cX3_copyFrom 50 = .ok (.aload_n 0, 1) := by decide +kernel
theorem dX3_copyFrom_51 : decode cX3_copyFrom 51 = .ok (.getfield 23, 3) := by decide +kernel
theorem dX3_copyFrom_54 : decode cX3_copyFrom 54 = .ok (.aload_n 1, 1) := by decide +kernel
theorem dX3_copyFrom_55 : decode cX3_copyFrom 55 = .ok (.getfield 23, 3) := by decide +kernel
theorem dX3_copyFrom_58 : decode cX3_copyFrom 58 = .ok (.invokevirtual 50, 3) := by decide +kernel
theorem dX3_copyFrom_61 : decode cX3_copyFrom 61 = .ok (.return_, 1) := by decide +kernel
theorem dX3_form_0 : decode cX3_form 0 = .ok (.aload_n 0, 1) := by decide +kernel
theorem dX3_form_1 : decode cX3_form 1 = .ok (.iload_n 1, 1) := by decide +kernel
theorem dX3_form_2 : decode cX3_form 2 = .ok (.putfield 44, 3) := by decide +kernel
theorem dX3_form_5 : decode cX3_form 5 = .ok (.aload_n 0, 1) := by decide +kernel
theorem dX3_form_6 : decode cX3_form 6 = .ok (.iload_n 2, 1) := by decide +kernel
theorem dX3_form_7 : decode cX3_form 7 = .ok (.putfield 47, 3) := by decide +kernel
theorem dX3_form_10 : decode cX3_form 10 = .ok (.aload_n 0, 1) := by decide +kernel
theorem dX3_form_11 : decode cX3_form 11 = .ok (.bipush 12, 2) := by decide +kernel
theorem dX3_form_13 : decode cX3_form 13 = .ok (.iload_n 1, 1) := by decide +kernel
theorem dX3_form_14 : decode cX3_form 14 = .ok (.iload_n 2, 1) := by decide +kernel
theorem dX3_form_15 : decode cX3_form 15 = .ok (.imul, 1) := by decide +kernel
theorem dX3_form_16 : decode cX3_form 16 = .ok (.invokestatic 54, 3) := by decide +kernel
theorem dX3_form_19 : decode cX3_form 19 = .ok (.putfield 60, 3) := by decide +kernel
theorem dX3_form_22 : decode cX3_form 22 = .ok (.return_, 1) := by decide +kernel
theorem dX3_hasCell_0 : decode cX3_hasCell 0 = .ok (.iload_n 1, 1) := by decide +kernel
theorem dX3_hasCell_1 : decode cX3_hasCell 1 = .ok (.ifCond .lt 15, 3) := by decide +kernel
theorem dX3_hasCell_4 : decode cX3_hasCell 4 = .ok (.iload_n 1, 1) := by decide +kernel
theorem dX3_hasCell_5 : decode cX3_hasCell 5 = .ok (.aload_n 0, 1) := by decide +kernel
theorem dX3_hasCell_6 : decode cX3_hasCell 6 = .ok (.getfield 60, 3) := by decide +kernel
theorem dX3_hasCell_9 : decode cX3_hasCell 9 = .ok (.if_icmp .ge 7, 3) := by decide +kernel
theorem dX3_hasCell_12 : decode cX3_hasCell 12 = .ok (.iconst 1, 1) := by decide +kernel
theorem dX3_hasCell_13 : decode cX3_hasCell 13 = .ok (.goto 4, 3) := by decide +kernel
theorem dX3_hasCell_16 : decode cX3_hasCell 16 = .ok (.iconst 0, 1) := by decide +kernel
theorem dX3_hasCell_17 : decode cX3_hasCell 17 = .ok (.ireturn, 1) := by decide +kernel
theorem dX3_thickNow_0 : decode cX3_thickNow 0 = .ok (.iconst 0, 1) := by decide +kernel
theorem dX3_thickNow_1 : decode cX3_thickNow 1 = .ok (.aload_n 0, 1) := by decide +kernel
theorem dX3_thickNow_2 : decode cX3_thickNow 2 = .ok (.getfield 20, 3) := by decide +kernel
theorem dX3_thickNow_5 : decode cX3_thickNow 5 = .ok (.iload_n 1, 1) := by decide +kernel
theorem dX3_thickNow_6 : decode cX3_thickNow 6 = .ok (.iconst 0, 1) := by decide +kernel
theorem dX3_thickNow_7 : decode cX3_thickNow 7 = .ok (.invokevirtual 63, 3) := by decide +kernel
theorem dX3_thickNow_10 : decode cX3_thickNow 10 = .ok (.aload_n 2, 1) := by decide +kernel
theorem dX3_thickNow_11 : decode cX3_thickNow 11 = .ok (.iload_n 1, 1) := by decide +kernel
theorem dX3_thickNow_12 : decode cX3_thickNow 12 = .ok (.invokevirtual 66, 3) := by decide +kernel
theorem dX3_thickNow_15 : decode cX3_thickNow 15 = .ok (.bipush 10, 2) := by decide +kernel
theorem dX3_thickNow_17 : decode cX3_thickNow 17 = .ok (.idiv, 1) := by decide +kernel
theorem dX3_thickNow_18 : decode cX3_thickNow 18 = .ok (.isub, 1) := by decide +kernel
theorem dX3_thickNow_19 : decode cX3_thickNow 19 = .ok (.invokestatic 72, 3) := by decide +kernel
theorem dX3_thickNow_22 : decode cX3_thickNow 22 = .ok (.ireturn, 1) := by decide +kernel
theorem dX4_init_0 : decode cX4_init 0 = .ok (.aload_n 0, 1) := by decide +kernel
theorem dX4_init_1 : decode cX4_init 1 = .ok (.invokespecial 3, 3) := by decide +kernel
theorem dX4_init_4 : decode cX4_init 4 = .ok (.aload_n 0, 1) := by decide +kernel
theorem dX4_init_5 : decode cX4_init 5 = .ok (.iconst 4, 1) := by decide +kernel
theorem dX4_init_6 : decode cX4_init 6 = .ok (.newarray .int, 2) := by decide +kernel
theorem dX4_init_8 : decode cX4_init 8 = .ok (.putfield 9, 3) := by decide +kernel
theorem dX4_init_11 : decode cX4_init 11 = .ok (.aload_n 0, 1) := by decide +kernel
theorem dX4_init_12 : decode cX4_init 12 = .ok (.iconst 4, 1) := by decide +kernel
theorem dX4_init_13 : decode cX4_init 13 = .ok (.newarray .int, 2) := by decide +kernel
theorem dX4_init_15 : decode cX4_init 15 = .ok (.putfield 15, 3) := by decide +kernel
theorem dX4_init_18 : decode cX4_init 18 = .ok (.aload_n 0, 1) := by decide +kernel
theorem dX4_init_19 : decode cX4_init 19 = .ok (.invokevirtual 18, 3) := by decide +kernel
theorem dX4_init_22 : decode cX4_init 22 = .ok (.return_, 1) := by decide +kernel
theorem dX4_begin_0 : decode cX4_begin 0 = .ok (.aload_n 0, 1) := by decide +kernel
theorem dX4_begin_1 : decode cX4_begin 1 = .ok (.iconst 0, 1) := by decide +kernel
theorem dX4_begin_2 : decode cX4_begin 2 = .ok (.putfield 21, 3) := by decide +kernel
theorem dX4_begin_5 : decode cX4_begin 5 = .ok (.aload_n 0, 1) := by decide +kernel
theorem dX4_begin_6 : decode cX4_begin 6 = .ok (.iconst 0, 1) := by decide +kernel
theorem dX4_begin_7 : decode cX4_begin 7 = .ok (.putfield 25, 3) := by decide +kernel
theorem dX4_begin_10 : decode cX4_begin 10 = .ok (.iconst 0, 1) := by decide +kernel
theorem dX4_begin_11 : decode cX4_begin 11 = .ok (.istore_n 1, 1) := by decide +kernel
theorem dX4_begin_12 : decode cX4_begin 12 = .ok (.iload_n 1, 1) := by decide +kernel
theorem dX4_begin_13 : decode cX4_begin 13 = .ok (.iconst 4, 1) := by decide +kernel
theorem dX4_begin_14 : decode cX4_begin 14 = .ok (.if_icmp .ge 24, 3) := by decide +kernel
theorem dX4_begin_17 : decode cX4_begin 17 = .ok (.aload_n 0, 1) := by decide +kernel
theorem dX4_begin_18 : decode cX4_begin 18 = .ok (.getfield 9, 3) := by decide +kernel
theorem dX4_begin_21 : decode cX4_begin 21 = .ok (.iload_n 1, 1) := by decide +kernel
theorem dX4_begin_22 : decode cX4_begin 22 = .ok (.bipush (-9), 2) := by decide +kernel
theorem dX4_begin_24 : decode cX4_begin 24 = .ok (.iastore, 1) := by decide +kernel
theorem dX4_begin_25 : decode cX4_begin 25 = .ok (.aload_n 0, 1) := by decide +kernel
theorem dX4_begin_26 : decode cX4_begin 26 = .ok (.getfield 15, 3) := by decide +kernel
theorem dX4_begin_29 : decode cX4_begin 29 = .ok (.iload_n 1, 1) := by decide +kernel
theorem dX4_begin_30 : decode cX4_begin 30 = .ok (.iconst 0, 1) := by decide +kernel
theorem dX4_begin_31 : decode cX4_begin 31 = .ok (.iastore, 1) := by decide +kernel
theorem dX4_begin_32 : decode cX4_begin 32 = .ok (.iinc 1 1, 3) := by decide +kernel
theorem dX4_begin_35 : decode cX4_begin 35 = .ok (.goto (-23), 3) := by decide +kernel
theorem dX4_begin_38 : decode cX4_begin 38 = .ok (.return_, 1) := by decide +kernel
theorem dX4_copyFrom_0 : decode cX4_copyFrom 0 = .ok (.aload_n 0, 1) := by decide +kernel
theorem dX4_copyFrom_1 : decode cX4_copyFrom 1 = .ok (.aload_n 1, 1) := by decide +kernel
theorem dX4_copyFrom_2 : decode cX4_copyFrom 2 = .ok (.getfield 21, 3) := by decide +kernel
theorem dX4_copyFrom_5 : decode cX4_copyFrom 5 = .ok (.putfield 21, 3) := by decide +kernel
theorem dX4_copyFrom_8 : decode cX4_copyFrom 8 = .ok (.aload_n 0, 1) := by decide +kernel
theorem dX4_copyFrom_9 : decode cX4_copyFrom 9 = .ok (.aload_n 1, 1) := by decide +kernel
theorem dX4_copyFrom_10 : decode cX4_copyFrom 10 = .ok (.getfield 25, 3) := by decide +kernel
theorem dX4_copyFrom_13 : decode cX4_copyFrom 13 = .ok (.putfield 25, 3) := by decide +kernel
theorem dX4_copyFrom_16 : decode cX4_copyFrom 16 = .ok (.iconst 0, 1) := by decide +kernel
theorem dX4_copyFrom_17 : decode cX4_copyFrom 17 = .ok (.istore_n 2, 1) := by decide +kernel
theorem dX4_copyFrom_18 : decode cX4_copyFrom 18 = .ok (.iload_n 2, 1) := by decide +kernel
theorem dX4_copyFrom_19 : decode cX4_copyFrom 19 = .ok (.iconst 4, 1) := by decide +kernel
theorem dX4_copyFrom_20 : decode cX4_copyFrom 20 = .ok (.if_icmp .ge 33, 3) := by decide +kernel
theorem dX4_copyFrom_23 : decode cX4_copyFrom 23 = .ok (.aload_n 0, 1) := by decide +kernel
theorem dX4_copyFrom_24 : decode cX4_copyFrom 24 = .ok (.getfield 9, 3) := by decide +kernel
theorem dX4_copyFrom_27 : decode cX4_copyFrom 27 = .ok (.iload_n 2, 1) := by decide +kernel
theorem dX4_copyFrom_28 : decode cX4_copyFrom 28 = .ok (.aload_n 1, 1) := by decide +kernel
theorem dX4_copyFrom_29 : decode cX4_copyFrom 29 = .ok (.getfield 9, 3) := by decide +kernel
theorem dX4_copyFrom_32 : decode cX4_copyFrom 32 = .ok (.iload_n 2, 1) := by decide +kernel
theorem dX4_copyFrom_33 : decode cX4_copyFrom 33 = .ok (.iaload, 1) := by decide +kernel
theorem dX4_copyFrom_34 : decode cX4_copyFrom 34 = .ok (.iastore, 1) := by decide +kernel
theorem dX4_copyFrom_35 : decode cX4_copyFrom 35 = .ok (.aload_n 0, 1) := by decide +kernel
theorem dX4_copyFrom_36 : decode cX4_copyFrom 36 = .ok (.getfield 15, 3) := by decide +kernel
theorem dX4_copyFrom_39 : decode cX4_copyFrom 39 = .ok (.iload_n 2, 1) := by decide +kernel
theorem dX4_copyFrom_40 : decode cX4_copyFrom 40 = .ok (.aload_n 1, 1) := by decide +kernel
theorem dX4_copyFrom_41 : decode cX4_copyFrom 41 = .ok (.getfield 15, 3) := by decide +kernel
theorem dX4_copyFrom_44 : decode cX4_copyFrom 44 = .ok (.iload_n 2, 1) := by decide +kernel
theorem dX4_copyFrom_45 : decode cX4_copyFrom 45 = .ok (.iaload, 1) := by decide +kernel
theorem dX4_copyFrom_46 : decode cX4_copyFrom 46 = .ok (.iastore, 1) := by decide +kernel
theorem dX4_copyFrom_47 : decode cX4_copyFrom 47 = .ok (.iinc 2 1, 3) := by decide +kernel
theorem dX4_copyFrom_50 : decode cX4_copyFrom 50 = .ok (.goto (-32), 3) := by decide +kernel
theorem dX4_copyFrom_53 : decode cX4_copyFrom 53 = .ok (.return_, 1) := by decide +kernel
theorem dX4_hasSheet_0 : decode cX4_hasSheet 0 = .ok (.iload_n 0, 1) := by decide +kernel
theorem dX4_hasSheet_1 : decode cX4_hasSheet 1 = .ok (.ifCond .lt 12, 3) := by decide +kernel
theorem dX4_hasSheet_4 : decode cX4_hasSheet 4 = .ok (.iload_n 0, 1) := by decide +kernel
theorem dX4_hasSheet_5 : decode cX4_hasSheet 5 = .ok (.iconst 4, 1) := by decide +kernel
theorem dX4_hasSheet_6 : decode cX4_hasSheet 6 = .ok (.if_icmp .ge 7, 3) := by decide +kernel
theorem dX4_hasSheet_9 : decode cX4_hasSheet 9 = .ok (.iconst 1, 1) := by decide +kernel
theorem dX4_hasSheet_10 : decode cX4_hasSheet 10 = .ok (.goto 4, 3) := by decide +kernel
theorem dX4_hasSheet_13 : decode cX4_hasSheet 13 = .ok (.iconst 0, 1) := by decide +kernel
theorem dX4_hasSheet_14 : decode cX4_hasSheet 14 = .ok (.ireturn, 1) := by decide +kernel
theorem dX4_cellOf_0 : decode cX4_cellOf 0 = .ok (.iload_n 1, 1) := by decide +kernel
theorem dX4_cellOf_1 : decode cX4_cellOf 1 = .ok (.invokestatic 28, 3) := by decide +kernel
theorem dX4_cellOf_4 : decode cX4_cellOf 4 = .ok (.ifCond .eq 12, 3) := by decide +kernel
theorem dX4_cellOf_7 : decode cX4_cellOf 7 = .ok (.aload_n 0, 1) := by decide +kernel
theorem dX4_cellOf_8 : decode cX4_cellOf 8 = .ok (.getfield 9, 3) := by decide +kernel
theorem dX4_cellOf_11 : decode cX4_cellOf 11 = .ok (.iload_n 1, 1) := by decide +kernel
theorem dX4_cellOf_12 : decode cX4_cellOf 12 = .ok (.iaload, 1) := by decide +kernel
theorem dX4_cellOf_13 : decode cX4_cellOf 13 = .ok (.goto 5, 3) := by decide +kernel
theorem dX4_cellOf_16 : decode cX4_cellOf 16 = .ok (.bipush (-9), 2) := by decide +kernel
theorem dX4_cellOf_18 : decode cX4_cellOf 18 = .ok (.ireturn, 1) := by decide +kernel
theorem dX4_isLaid_0 : decode cX4_isLaid 0 = .ok (.aload_n 0, 1) := by decide +kernel
theorem dX4_isLaid_1 : decode cX4_isLaid 1 = .ok (.iload_n 1, 1) := by decide +kernel
theorem dX4_isLaid_2 : decode cX4_isLaid 2 = .ok (.invokevirtual 32, 3) := by decide +kernel
theorem dX4_isLaid_5 : decode cX4_isLaid 5 = .ok (.bipush (-9), 2) := by decide +kernel
theorem dX4_isLaid_7 : decode cX4_isLaid 7 = .ok (.if_icmp .eq 7, 3) := by decide +kernel
theorem dX4_isLaid_10 : decode cX4_isLaid 10 = .ok (.iconst 1, 1) := by decide +kernel
theorem dX4_isLaid_11 : decode cX4_isLaid 11 = .ok (.goto 4, 3) := by decide +kernel
theorem dX4_isLaid_14 : decode cX4_isLaid 14 = .ok (.iconst 0, 1) := by decide +kernel
theorem dX4_isLaid_15 : decode cX4_isLaid 15 = .ok (.ireturn, 1) := by decide +kernel
theorem dX4_put_0 : decode cX4_put 0 = .ok (.iload_n 1, 1) := by decide +kernel
theorem dX4_put_1 : decode cX4_put 1 = .ok (.invokestatic 28, 3) := by decide +kernel
theorem dX4_put_4 : decode cX4_put 4 = .ok (.ifCond .eq 10, 3) := by decide +kernel
theorem dX4_put_7 : decode cX4_put 7 = .ok (.aload_n 0, 1) := by decide +kernel
theorem dX4_put_8 : decode cX4_put 8 = .ok (.getfield 9, 3) := by decide +kernel
theorem dX4_put_11 : decode cX4_put 11 = .ok (.iload_n 1, 1) := by decide +kernel
theorem dX4_put_12 : decode cX4_put 12 = .ok (.iload_n 2, 1) := by decide +kernel
theorem dX4_put_13 : decode cX4_put 13 = .ok (.iastore, 1) := by decide +kernel
theorem dX4_put_14 : decode cX4_put 14 = .ok (.return_, 1) := by decide +kernel
theorem dX4_wornOf_0 : decode cX4_wornOf 0 = .ok (.iload_n 1, 1) := by decide +kernel
theorem dX4_wornOf_1 : decode cX4_wornOf 1 = .ok (.invokestatic 28, 3) := by decide +kernel
theorem dX4_wornOf_4 : decode cX4_wornOf 4 = .ok (.ifCond .eq 12, 3) := by decide +kernel
theorem dX4_wornOf_7 : decode cX4_wornOf 7 = .ok (.aload_n 0, 1) := by decide +kernel
theorem dX4_wornOf_8 : decode cX4_wornOf 8 = .ok (.getfield 15, 3) := by decide +kernel
theorem dX4_wornOf_11 : decode cX4_wornOf 11 = .ok (.iload_n 1, 1) := by decide +kernel
theorem dX4_wornOf_12 : decode cX4_wornOf 12 = .ok (.iaload, 1) := by decide +kernel
theorem dX4_wornOf_13 : decode cX4_wornOf 13 = .ok (.goto 4, 3) := by decide +kernel
theorem dX4_wornOf_16 : decode cX4_wornOf 16 = .ok (.iconst 0, 1) := by decide +kernel
theorem dX4_wornOf_17 : decode cX4_wornOf 17 = .ok (.ireturn, 1) := by decide +kernel
theorem dX4_wear_0 : decode cX4_wear 0 = .ok (.iload_n 1, 1) := by decide +kernel
theorem dX4_wear_1 : decode cX4_wear 1 = .ok (.invokestatic 28, 3) := by decide +kernel
theorem dX4_wear_4 : decode cX4_wear 4 = .ok (.ifCond .eq 10, 3) := by decide +kernel
theorem dX4_wear_7 : decode cX4_wear 7 = .ok (.aload_n 0, 1) := by decide +kernel
theorem dX4_wear_8 : decode cX4_wear 8 = .ok (.getfield 15, 3) := by decide +kernel
theorem dX4_wear_11 : decode cX4_wear 11 = .ok (.iload_n 1, 1) := by decide +kernel
theorem dX4_wear_12 : decode cX4_wear 12 = .ok (.iload_n 2, 1) := by decide +kernel
theorem dX4_wear_13 : decode cX4_wear 13 = .ok (.iastore, 1) := by decide +kernel
theorem dX4_wear_14 : decode cX4_wear 14 = .ok (.return_, 1) := by decide +kernel
theorem dX4_laidBits_0 : decode cX4_laidBits 0 = .ok (.iconst 0, 1) := by decide +kernel
theorem dX4_laidBits_1 : decode cX4_laidBits 1 = .ok (.istore_n 1, 1) := by decide +kernel
theorem dX4_laidBits_2 : decode cX4_laidBits 2 = .ok (.iconst 0, 1) := by decide +kernel
theorem dX4_laidBits_3 : decode cX4_laidBits 3 = .ok (.istore_n 2, 1) := by decide +kernel
theorem dX4_laidBits_4 : decode cX4_laidBits 4 = .ok (.iload_n 2, 1) := by decide +kernel
theorem dX4_laidBits_5 : decode cX4_laidBits 5 = .ok (.iconst 4, 1) := by decide +kernel
theorem dX4_laidBits_6 : decode cX4_laidBits 6 = .ok (.if_icmp .ge 23, 3) := by decide +kernel
theorem dX4_laidBits_9 : decode cX4_laidBits 9 = .ok (.aload_n 0, 1) := by decide +kernel
theorem dX4_laidBits_10 : decode cX4_laidBits 10 = .ok (.iload_n 2, 1) := by decide +kernel
theorem dX4_laidBits_11 : decode cX4_laidBits 11 = .ok (.invokevirtual 36, 3) := by decide +kernel
theorem dX4_laidBits_14 : decode cX4_laidBits 14 = .ok (.ifCond .eq 9, 3) := by decide +kernel
theorem dX4_laidBits_17 : decode cX4_laidBits 17 = .ok (.iload_n 1, 1) := by decide +kernel
theorem dX4_laidBits_18 : decode cX4_laidBits 18 = .ok (.iconst 1, 1) := by decide +kernel
theorem dX4_laidBits_19 : decode cX4_laidBits 19 = .ok (.iload_n 2, 1) := by decide +kernel
theorem dX4_laidBits_20 : decode cX4_laidBits 20 = .ok (.ishl, 1) := by decide +kernel
theorem dX4_laidBits_21 : decode cX4_laidBits 21 = .ok (.ior, 1) := by decide +kernel
theorem dX4_laidBits_22 : decode cX4_laidBits 22 = .ok (.istore_n 1, 1) := by decide +kernel
theorem dX4_laidBits_23 : decode cX4_laidBits 23 = .ok (.iinc 2 1, 3) := by decide +kernel
theorem dX4_laidBits_26 : decode cX4_laidBits 26 = .ok (.goto (-22), 3) := by decide +kernel
theorem dX4_laidBits_29 : decode cX4_laidBits 29 = .ok (.iload_n 1, 1) := by decide +kernel
theorem dX4_laidBits_30 : decode cX4_laidBits 30 = .ok (.ireturn, 1) := by decide +kernel
theorem dX4_tick_0 : decode cX4_tick 0 = .ok (.aload_n 0, 1) := by decide +kernel
theorem dX4_tick_1 : decode cX4_tick 1 = .ok (.dup, 1) := by decide +kernel
theorem dX4_tick_2 : decode cX4_tick 2 = .ok (.getfield 25, 3) := by decide +kernel
theorem dX4_tick_5 : decode cX4_tick 5 = .ok (.iconst 1, 1) := by decide +kernel
theorem dX4_tick_6 : decode cX4_tick 6 = .ok (.iadd, 1) := by decide +kernel
theorem dX4_tick_7 : decode cX4_tick 7 = .ok (.putfield 25, 3) := by decide +kernel
theorem dX4_tick_10 : decode cX4_tick 10 = .ok (.aload_n 0, 1) := by decide +kernel
theorem dX4_tick_11 : decode cX4_tick 11 = .ok (.getfield 25, 3) := by decide +kernel
theorem dX4_tick_14 : decode cX4_tick 14 = .ok (.bipush 24, 2) := by decide +kernel
theorem dX4_tick_16 : decode cX4_tick 16 = .ok (.if_icmp .lt 18, 3) := by decide +kernel
theorem dX4_tick_19 : decode cX4_tick 19 = .ok (.aload_n 0, 1) := by decide +kernel
theorem dX4_tick_20 : decode cX4_tick 20 = .ok (.iconst 0, 1) := by decide +kernel
theorem dX4_tick_21 : decode cX4_tick 21 = .ok (.putfield 25, 3) := by decide +kernel
theorem dX4_tick_24 : decode cX4_tick 24 = .ok (.aload_n 0, 1) := by decide +kernel
theorem dX4_tick_25 : decode cX4_tick 25 = .ok (.dup, 1) := by decide +kernel
theorem dX4_tick_26 : decode cX4_tick 26 = .ok (.getfield 21, 3) := by decide +kernel
theorem dX4_tick_29 : decode cX4_tick 29 = .ok (.iconst 1, 1) := by decide +kernel
theorem dX4_tick_30 : decode cX4_tick 30 = .ok (.iadd, 1) := by decide +kernel
theorem dX4_tick_31 : decode cX4_tick 31 = .ok (.putfield 21, 3) := by decide +kernel
theorem dX4_tick_34 : decode cX4_tick 34 = .ok (.return_, 1) := by decide +kernel
theorem dX5_init_0 : decode cX5_init 0 = .ok (.aload_n 0, 1) := by decide +kernel
theorem dX5_init_1 : decode cX5_init 1 = .ok (.invokespecial 1, 3) := by decide +kernel
theorem dX5_init_4 : decode cX5_init 4 = .ok (.aload_n 0, 1) := by decide +kernel
theorem dX5_init_5 : decode cX5_init 5 = .ok (.new 7, 3) := by decide +kernel
theorem dX5_init_8 : decode cX5_init 8 = .ok (.dup, 1) := by decide +kernel
theorem dX5_init_9 : decode cX5_init 9 = .ok (.bipush 10, 2) := by decide +kernel
theorem dX5_init_11 : decode cX5_init 11 = .ok (.invokespecial 11, 3) := by decide +kernel
theorem dX5_init_14 : decode cX5_init 14 = .ok (.putfield 14, 3) := by decide +kernel
theorem dX5_init_17 : decode cX5_init 17 = .ok (.return_, 1) := by decide +kernel
theorem dX5_size_0 : decode cX5_size 0 = .ok (.aload_n 0, 1) := by decide +kernel
theorem dX5_size_1 : decode cX5_size 1 = .ok (.getfield 18, 3) := by decide +kernel
theorem dX5_size_4 : decode cX5_size 4 = .ok (.ireturn, 1) := by decide +kernel
theorem dX5_drop_0 : decode cX5_drop 0 = .ok (.aload_n 0, 1) := by decide +kernel
theorem dX5_drop_1 : decode cX5_drop 1 = .ok (.iconst 0, 1) := by decide +kernel
theorem dX5_drop_2 : decode cX5_drop 2 = .ok (.putfield 18, 3) := by decide +kernel
theorem dX5_drop_5 : decode cX5_drop 5 = .ok (.return_, 1) := by decide +kernel
theorem dX5_remember_0 : decode cX5_remember 0 = .ok (.aload_n 0, 1) := by decide +kernel
theorem dX5_remember_1 : decode cX5_remember 1 = .ok (.getfield 14, 3) := by decide +kernel
theorem dX5_remember_4 : decode cX5_remember 4 = .ok (.aload_n 0, 1) := by decide +kernel
theorem dX5_remember_5 : decode cX5_remember 5 = .ok (.getfield 22, 3) := by decide +kernel
theorem dX5_remember_8 : decode cX5_remember 8 = .ok (.aload_n 1, 1) := by decide +kernel
theorem dX5_remember_9 : decode cX5_remember 9 = .ok (.invokevirtual 25, 3) := by decide +kernel
theorem dX5_remember_12 : decode cX5_remember 12 = .ok (.aload_n 0, 1) := by decide +kernel
theorem dX5_remember_13 : decode cX5_remember 13 = .ok (.aload_n 0, 1) := by decide +kernel
theorem dX5_remember_14 : decode cX5_remember 14 = .ok (.getfield 22, 3) := by decide +kernel
theorem dX5_remember_17 : decode cX5_remember 17 = .ok (.iconst 1, 1) := by decide +kernel
theorem dX5_remember_18 : decode cX5_remember 18 = .ok (.iadd, 1) := by decide +kernel
theorem dX5_remember_19 : decode cX5_remember 19 = .ok (.bipush 10, 2) := by decide +kernel
theorem dX5_remember_21 : decode cX5_remember 21 = .ok (.irem, 1) := by decide +kernel
theorem dX5_remember_22 : decode cX5_remember 22 = .ok (.putfield 22, 3) := by decide +kernel
theorem dX5_remember_25 : decode cX5_remember 25 = .ok (.aload_n 0, 1) := by decide +kernel
theorem dX5_remember_26 : decode cX5_remember 26 = .ok (.bipush 10, 2) := by decide +kernel
theorem dX5_remember_28 : decode cX5_remember 28 = .ok (.aload_n 0, 1) := by decide +kernel
theorem dX5_remember_29 : decode cX5_remember 29 = .ok (.getfield 18, 3) := by decide +kernel
theorem dX5_remember_32 : decode cX5_remember 32 = .ok (.iconst 1, 1) := by decide +kernel
theorem dX5_remember_33 : decode cX5_remember 33 = .ok (.iadd, 1) := by decide +kernel
theorem dX5_remember_34 : decode cX5_remember 34 = .ok (.invokestatic 29, 3) := by decide +kernel
theorem dX5_remember_37 : decode cX5_remember 37 = .ok (.putfield 18, 3) := by decide +kernel
theorem dX5_remember_40 : decode cX5_remember 40 = .ok (.return_, 1) := by decide +kernel
theorem dX5_recall_0 : decode cX5_recall 0 = .ok (.aload_n 0, 1) := by decide +kernel
theorem dX5_recall_1 : decode cX5_recall 1 = .ok (.getfield 18, 3) := by decide +kernel
theorem dX5_recall_4 : decode cX5_recall 4 = .ok (.ifCond .ne 4, 3) := by decide +kernel
theorem dX5_recall_7 : decode cX5_recall 7 = .ok (.return_, 1) := by decide +kernel
theorem dX5_recall_8 : decode cX5_recall 8 = .ok (.aload_n 0, 1) := by decide +kernel
theorem dX5_recall_9 : decode cX5_recall 9 = .ok (.aload_n 0, 1) := by decide +kernel
theorem dX5_recall_10 : decode cX5_recall 10 = .ok (.getfield 22, 3) := by decide +kernel
theorem dX5_recall_13 : decode cX5_recall 13 = .ok (.bipush 10, 2) := by decide +kernel
theorem dX5_recall_15 : decode cX5_recall 15 = .ok (.iadd, 1) := by decide +kernel
theorem dX5_recall_16 : decode cX5_recall 16 = .ok (.iconst 1, 1) := by decide +kernel
theorem dX5_recall_17 : decode cX5_recall 17 = .ok (.isub, 1) := by decide +kernel
theorem dX5_recall_18 : decode cX5_recall 18 = .ok (.bipush 10, 2) := by decide +kernel
theorem dX5_recall_20 : decode cX5_recall 20 = .ok (.irem, 1) := by decide +kernel
theorem dX5_recall_21 : decode cX5_recall 21 = .ok (.putfield 22, 3) := by decide +kernel
theorem dX5_recall_24 : decode cX5_recall 24 = .ok (.aload_n 0, 1) := by decide +kernel
theorem dX5_recall_25 : decode cX5_recall 25 = .ok (.dup, 1) := by decide +kernel
theorem dX5_recall_26 : decode cX5_recall 26 = .ok (.getfield 18, 3) := by decide +kernel
theorem dX5_recall_29 : decode cX5_recall 29 = .ok (.iconst 1, 1) := by decide +kernel
theorem dX5_recall_30 : decode cX5_recall 30 = .ok (.isub, 1) := by decide +kernel
theorem dX5_recall_31 : decode cX5_recall 31 = .ok (.putfield 18, 3) := by decide +kernel
theorem dX5_recall_34 : decode cX5_recall 34 = .ok (.aload_n 0, 1) := by decide +kernel
theorem dX5_recall_35 : decode cX5_recall 35 = .ok (.getfield 14, 3) := by decide +kernel
theorem dX5_recall_38 : decode cX5_recall 38 = .ok (.aload_n 0, 1) := by decide +kernel
theorem dX5_recall_39 : decode cX5_recall 39 = .ok (.getfield 22, 3) := by decide +kernel
theorem dX5_recall_42 : decode cX5_recall 42 = .ok (.aload_n 1, 1) := by decide +kernel
theorem dX5_recall_43 : decode cX5_recall 43 = .ok (.invokevirtual 35, 3) := by decide +kernel
theorem dX5_recall_46 : decode cX5_recall 46 = .ok (.return_, 1) := by decide +kernel
theorem dX6_init_0 : decode cX6_init 0 = .ok (.aload_n 0, 1) := by decide +kernel
theorem dX6_init_1 : decode cX6_init 1 = .ok (.invokespecial 1, 3) := by decide +kernel
theorem dX6_init_4 : decode cX6_init 4 = .ok (.aload_n 0, 1) := by decide +kernel
theorem dX6_init_5 : decode cX6_init 5 = .ok (.iconst 0, 1) := by decide +kernel
theorem dX6_init_6 : decode cX6_init 6 = .ok (.iload_n 1, 1) := by decide +kernel
theorem dX6_init_7 : decode cX6_init 7 = .ok (.invokestatic 7, 3) := by decide +kernel
theorem dX6_init_10 : decode cX6_init 10 = .ok (.putfield 13, 3) := by decide +kernel
theorem dX6_init_13 : decode cX6_init 13 = .ok (.aload_n 0, 1) := by decide +kernel
theorem dX6_init_14 : decode cX6_init 14 = .ok (.aload_n 0, 1) := by decide +kernel
theorem dX6_init_15 : decode cX6_init 15 = .ok (.getfield 13, 3) := by decide +kernel
theorem dX6_init_18 : decode cX6_init 18 = .ok (.iconst 4, 1) := by decide +kernel
theorem dX6_init_19 : decode cX6_init 19 = .ok (.imul, 1) := by decide +kernel
theorem dX6_init_20 : decode cX6_init 20 = .ok (.newarray .int, 2) := by decide +kernel
theorem dX6_init_22 : decode cX6_init 22 = .ok (.putfield 19, 3) := by decide +kernel
theorem dX6_init_25 : decode cX6_init 25 = .ok (.return_, 1) := by decide +kernel
theorem dX6_size_0 : decode cX6_size 0 = .ok (.aload_n 0, 1) := by decide +kernel
theorem dX6_size_1 : decode cX6_size 1 = .ok (.getfield 23, 3) := by decide +kernel
theorem dX6_size_4 : decode cX6_size 4 = .ok (.ireturn, 1) := by decide +kernel
theorem dX6_has_0 : decode cX6_has 0 = .ok (.iload_n 1, 1) := by decide +kernel
theorem dX6_has_1 : decode cX6_has 1 = .ok (.ifCond .lt 15, 3) := by decide +kernel
theorem dX6_has_4 : decode cX6_has 4 = .ok (.iload_n 1, 1) := by decide +kernel
theorem dX6_has_5 : decode cX6_has 5 = .ok (.aload_n 0, 1) := by decide +kernel
theorem dX6_has_6 : decode cX6_has 6 = .ok (.getfield 23, 3) := by decide +kernel
theorem dX6_has_9 : decode cX6_has 9 = .ok (.if_icmp .ge 7, 3) := by decide +kernel
theorem dX6_has_12 : decode cX6_has 12 = .ok (.iconst 1, 1) := by decide +kernel
theorem dX6_has_13 : decode cX6_has 13 = .ok (.goto 4, 3) := by decide +kernel
theorem dX6_has_16 : decode cX6_has 16 = .ok (.iconst 0, 1) := by decide +kernel
theorem dX6_has_17 : decode cX6_has 17 = .ok (.ireturn, 1) := by decide +kernel
theorem dX6_isFull_0 : decode cX6_isFull 0 = .ok (.aload_n 0, 1) := by decide +kernel
theorem dX6_isFull_1 : decode cX6_isFull 1 = .ok (.getfield 23, 3) := by decide +kernel
theorem dX6_isFull_4 : decode cX6_isFull 4 = .ok (.aload_n 0, 1) := by decide +kernel
theorem dX6_isFull_5 : decode cX6_isFull 5 = .ok (.getfield 13, 3) := by decide +kernel
theorem dX6_isFull_8 : decode cX6_isFull 8 = .ok (.if_icmp .lt 7, 3) := by decide +kernel
theorem dX6_isFull_11 : decode cX6_isFull 11 = .ok (.iconst 1, 1) := by decide +kernel
theorem dX6_isFull_12 : decode cX6_isFull 12 = .ok (.goto 4, 3) := by decide +kernel
theorem dX6_isFull_15 : decode cX6_isFull 15 = .ok (.iconst 0, 1) := by decide +kernel
theorem dX6_isFull_16 : decode cX6_isFull 16 = .ok (.ireturn, 1) := by decide +kernel
theorem dX6_get_0 : decode cX6_get 0 = .ok (.aload_n 0, 1) := by decide +kernel
theorem dX6_get_1 : decode cX6_get 1 = .ok (.iload_n 1, 1) := by decide +kernel
theorem dX6_get_2 : decode cX6_get 2 = .ok (.invokevirtual 26, 3) := by decide +kernel
theorem dX6_get_5 : decode cX6_get 5 = .ok (.ifCond .eq 25, 3) := by decide +kernel
theorem dX6_get_8 : decode cX6_get 8 = .ok (.iload_n 2, 1) := by decide +kernel
theorem dX6_get_9 : decode cX6_get 9 = .ok (.ifCond .lt 21, 3) := by decide +kernel
theorem dX6_get_12 : decode cX6_get 12 = .ok (.iload_n 2, 1) := by decide +kernel
theorem dX6_get_13 : decode cX6_get 13 = .ok (.iconst 4, 1) := by decide +kernel
theorem dX6_get_14 : decode cX6_get 14 = .ok (.if_icmp .ge 16, 3) := by decide +kernel
theorem dX6_get_17 : decode cX6_get 17 = .ok (.aload_n 0, 1) := by decide +kernel
theorem dX6_get_18 : decode cX6_get 18 = .ok (.getfield 19, 3) := by decide +kernel
theorem dX6_get_21 : decode cX6_get 21 = .ok (.iload_n 1, 1) := by decide +kernel
theorem dX6_get_22 : decode cX6_get 22 = .ok (.iconst 4, 1) := by decide +kernel
theorem dX6_get_23 : decode cX6_get 23 = .ok (.imul, 1) := by decide +kernel
theorem dX6_get_24 : decode cX6_get 24 = .ok (.iload_n 2, 1) := by decide +kernel
theorem dX6_get_25 : decode cX6_get 25 = .ok (.iadd, 1) := by decide +kernel
theorem dX6_get_26 : decode cX6_get 26 = .ok (.iaload, 1) := by decide +kernel
theorem dX6_get_27 : decode cX6_get 27 = .ok (.goto 4, 3) := by decide +kernel
theorem dX6_get_30 : decode cX6_get 30 = .ok (.iconst 0, 1) := by decide +kernel
theorem dX6_get_31 : decode cX6_get 31 = .ok (.ireturn, 1) := by decide +kernel
theorem dX6_append_0 : decode cX6_append 0 = .ok (.aload_n 0, 1) := by decide +kernel
theorem dX6_append_1 : decode cX6_append 1 = .ok (.invokevirtual 30, 3) := by decide +kernel
theorem dX6_append_4 : decode cX6_append 4 = .ok (.ifCond .eq 4, 3) := by decide +kernel
theorem dX6_append_7 : decode cX6_append 7 = .ok (.return_, 1) := by decide +kernel
theorem dX6_append_8 : decode cX6_append 8 = .ok (.aload_n 0, 1) := by decide +kernel
theorem dX6_append_9 : decode cX6_append 9 = .ok (.getfield 23, 3) := by decide +kernel
theorem dX6_append_12 : decode cX6_append 12 = .ok (.iconst 4, 1) := by decide +kernel
theorem dX6_append_13 : decode cX6_append 13 = .ok (.imul, 1) := by decide +kernel
theorem dX6_append_14 : decode cX6_append 14 = .ok (.istore 5, 2) := by decide +kernel
theorem dX6_append_16 : decode cX6_append 16 = .ok (.aload_n 0, 1) := by decide +kernel
theorem dX6_append_17 : decode cX6_append 17 = .ok (.getfield 19, 3) := by decide +kernel
theorem dX6_append_20 : decode cX6_append 20 = .ok (.iload 5, 2) := by decide +kernel
theorem dX6_append_22 : decode cX6_append 22 = .ok (.iload_n 1, 1) := by decide +kernel
theorem dX6_append_23 : decode cX6_append 23 = .ok (.iastore, 1) := by decide +kernel
theorem dX6_append_24 : decode cX6_append 24 = .ok (.aload_n 0, 1) := by decide +kernel
theorem dX6_append_25 : decode cX6_append 25 = .ok (.getfield 19, 3) := by decide +kernel
theorem dX6_append_28 : decode cX6_append 28 = .ok (.iload 5, 2) := by decide +kernel
theorem dX6_append_30 : decode cX6_append 30 = .ok (.iconst 1, 1) := by decide +kernel
theorem dX6_append_31 : decode cX6_append 31 = .ok (.iadd, 1) := by decide +kernel
theorem dX6_append_32 : decode cX6_append 32 = .ok (.iload_n 2, 1) := by decide +kernel
theorem dX6_append_33 : decode cX6_append 33 = .ok (.iastore, 1) := by decide +kernel
theorem dX6_append_34 : decode cX6_append 34 = .ok (.aload_n 0, 1) := by decide +kernel
theorem dX6_append_35 : decode cX6_append 35 = .ok (.getfield 19, 3) := by decide +kernel
theorem dX6_append_38 : decode cX6_append 38 = .ok (.iload 5, 2) := by decide +kernel
theorem dX6_append_40 : decode cX6_append 40 = .ok (.iconst 2, 1) := by decide +kernel
theorem dX6_append_41 : decode cX6_append 41 = .ok (.iadd, 1) := by decide +kernel
theorem dX6_append_42 : decode cX6_append 42 = .ok (.iload_n 3, 1) := by decide +kernel
theorem dX6_append_43 : decode cX6_append 43 = .ok (.iastore, 1) := by decide +kernel
theorem dX6_append_44 : decode cX6_append 44 = .ok (.aload_n 0, 1) := by decide +kernel
theorem dX6_append_45 : decode cX6_append 45 = .ok (.getfield 19, 3) := by decide +kernel
theorem dX6_append_48 : decode cX6_append 48 = .ok (.iload 5, 2) := by decide +kernel
theorem dX6_append_50 : decode cX6_append 50 = .ok (.iconst 3, 1) := by decide +kernel
theorem dX6_append_51 : decode cX6_append 51 = .ok (.iadd, 1) := by decide +kernel
theorem dX6_append_52 : decode cX6_append 52 = .ok (.iload 4, 2) := by decide +kernel
theorem dX6_append_54 : decode cX6_append 54 = .ok (.iastore, 1) := by decide +kernel
theorem dX6_append_55 : decode cX6_append 55 = .ok (.aload_n 0, 1) := by decide +kernel
theorem dX6_append_56 : decode cX6_append 56 = .ok (.dup, 1) := by decide +kernel
theorem dX6_append_57 : decode cX6_append 57 = .ok (.getfield 23, 3) := by decide +kernel
theorem dX6_append_60 : decode cX6_append 60 = .ok (.iconst 1, 1) := by decide +kernel
theorem dX6_append_61 : decode cX6_append 61 = .ok (.iadd, 1) := by decide +kernel
theorem dX6_append_62 : decode cX6_append 62 = .ok (.putfield 23, 3) := by decide +kernel
theorem dX6_append_65 : decode cX6_append 65 = .ok (.return_, 1) := by decide +kernel
theorem dX6_drop_0 : decode cX6_drop 0 = .ok (.aload_n 0, 1) := by decide +kernel
theorem dX6_drop_1 : decode cX6_drop 1 = .ok (.iconst 0, 1) := by decide +kernel
theorem dX6_drop_2 : decode cX6_drop 2 = .ok (.putfield 23, 3) := by decide +kernel
theorem dX6_drop_5 : decode cX6_drop 5 = .ok (.return_, 1) := by decide +kernel
theorem dX6_copyFrom_0 : decode cX6_copyFrom 0 = .ok (.aload_n 0, 1) := by decide +kernel
theorem dX6_copyFrom_1 : decode cX6_copyFrom 1 = .ok (.invokevirtual 34, 3) := by decide +kernel
theorem dX6_copyFrom_4 : decode cX6_copyFrom 4 = .ok (.iconst 0, 1) := by decide +kernel
theorem dX6_copyFrom_5 : decode cX6_copyFrom 5 = .ok (.istore_n 2, 1) := by decide +kernel
theorem dX6_copyFrom_6 : decode cX6_copyFrom 6 = .ok (.iload_n 2, 1) := by decide +kernel
theorem dX6_copyFrom_7 : decode cX6_copyFrom 7 = .ok (.aload_n 1, 1) := by decide +kernel
theorem dX6_copyFrom_8 : decode cX6_copyFrom 8 = .ok (.invokevirtual 37, 3) := by decide +kernel
theorem dX6_copyFrom_11 : decode cX6_copyFrom 11 = .ok (.if_icmp .ge 37, 3) := by decide +kernel
theorem dX6_copyFrom_14 : decode cX6_copyFrom 14 = .ok (.aload_n 0, 1) := by decide +kernel
theorem dX6_copyFrom_15 : decode cX6_copyFrom 15 = .ok (.aload_n 1, 1) := by decide +kernel
theorem dX6_copyFrom_16 : decode cX6_copyFrom 16 = .ok (.iload_n 2, 1) := by decide +kernel
theorem dX6_copyFrom_17 : decode cX6_copyFrom 17 = .ok (.iconst 0, 1) := by decide +kernel
theorem dX6_copyFrom_18 : decode cX6_copyFrom 18 = .ok (.invokevirtual 41, 3) := by decide +kernel
theorem dX6_copyFrom_21 : decode cX6_copyFrom 21 = .ok (.aload_n 1, 1) := by decide +kernel
theorem dX6_copyFrom_22 : decode cX6_copyFrom 22 = .ok (.iload_n 2, 1) := by decide +kernel
theorem dX6_copyFrom_23 : decode cX6_copyFrom 23 = .ok (.iconst 1, 1) := by decide +kernel
theorem dX6_copyFrom_24 : decode cX6_copyFrom 24 = .ok (.invokevirtual 41, 3) := by decide +kernel
theorem dX6_copyFrom_27 : decode cX6_copyFrom 27 = .ok (.aload_n 1, 1) := by decide +kernel
theorem dX6_copyFrom_28 : decode cX6_copyFrom 28 = .ok (.iload_n 2, 1) := by decide +kernel
theorem dX6_copyFrom_29 : decode cX6_copyFrom 29 = .ok (.iconst 2, 1) := by decide +kernel
theorem dX6_copyFrom_30 : decode cX6_copyFrom 30 = .ok (.invokevirtual 41, 3) := by decide +kernel
theorem dX6_copyFrom_33 : decode cX6_copyFrom 33 = .ok (.aload_n 1, 1) := by decide +kernel
theorem dX6_copyFrom_34 : decode cX6_copyFrom 34 = .ok (.iload_n 2, 1) := by decide +kernel
theorem dX6_copyFrom_35 : decode cX6_copyFrom 35 = .ok (.iconst 3, 1) := by decide +kernel
theorem dX6_copyFrom_36 : decode cX6_copyFrom 36 = .ok (.invokevirtual 41, 3) := by decide +kernel
theorem dX6_copyFrom_39 : decode cX6_copyFrom 39 = .ok (.invokevirtual 44, 3) := by decide +kernel
theorem dX6_copyFrom_42 : decode cX6_copyFrom 42 = .ok (.iinc 2 1, 3) := by decide +kernel
theorem dX6_copyFrom_45 : decode cX6_copyFrom 45 = .ok (.goto (-39), 3) := by decide +kernel
theorem dX6_copyFrom_48 : decode cX6_copyFrom 48 = .ok (.return_, 1) := by decide +kernel
theorem dX7_init_0 : decode cX7_init 0 = .ok (.aload_n 0, 1) := by decide +kernel
theorem dX7_init_1 : decode cX7_init 1 = .ok (.invokespecial 3, 3) := by decide +kernel
theorem dX7_init_4 : decode cX7_init 4 = .ok (.aload_n 0, 1) := by decide +kernel
theorem dX7_init_5 : decode cX7_init 5 = .ok (.iconst 0, 1) := by decide +kernel
theorem dX7_init_6 : decode cX7_init 6 = .ok (.iload_n 1, 1) := by decide +kernel
theorem dX7_init_7 : decode cX7_init 7 = .ok (.invokestatic 9, 3) := by decide +kernel
theorem dX7_init_10 : decode cX7_init 10 = .ok (.putfield 15, 3) := by decide +kernel
theorem dX7_init_13 : decode cX7_init 13 = .ok (.aload_n 0, 1) := by decide +kernel
theorem dX7_init_14 : decode cX7_init 14 = .ok (.aload_n 0, 1) := by decide +kernel
theorem dX7_init_15 : decode cX7_init 15 = .ok (.getfield 15, 3) := by decide +kernel
theorem dX7_init_18 : decode cX7_init 18 = .ok (.bipush 10, 2) := by decide +kernel
theorem dX7_init_20 : decode cX7_init 20 = .ok (.imul, 1) := by decide +kernel
theorem dX7_init_21 : decode cX7_init 21 = .ok (.newarray .int, 2) := by decide +kernel
theorem dX7_init_23 : decode cX7_init 23 = .ok (.putfield 21, 3) := by decide +kernel
theorem dX7_init_26 : decode cX7_init 26 = .ok (.return_, 1) := by decide +kernel
theorem dX7_hasPlace_0 : decode cX7_hasPlace 0 = .ok (.iload_n 1, 1) := by decide +kernel
theorem dX7_hasPlace_1 : decode cX7_hasPlace 1 = .ok (.ifCond .lt 15, 3) := by decide +kernel
theorem dX7_hasPlace_4 : decode cX7_hasPlace 4 = .ok (.iload_n 1, 1) := by decide +kernel
theorem dX7_hasPlace_5 : decode cX7_hasPlace 5 = .ok (.aload_n 0, 1) := by decide +kernel
theorem dX7_hasPlace_6 : decode cX7_hasPlace 6 = .ok (.getfield 15, 3) := by decide +kernel
theorem dX7_hasPlace_9 : decode cX7_hasPlace 9 = .ok (.if_icmp .ge 7, 3) := by decide +kernel
theorem dX7_hasPlace_12 : decode cX7_hasPlace 12 = .ok (.iconst 1, 1) := by decide +kernel
theorem dX7_hasPlace_13 : decode cX7_hasPlace 13 = .ok (.goto 4, 3) := by decide +kernel
theorem dX7_hasPlace_16 : decode cX7_hasPlace 16 = .ok (.iconst 0, 1) := by decide +kernel
theorem dX7_hasPlace_17 : decode cX7_hasPlace 17 = .ok (.ireturn, 1) := by decide +kernel
theorem dX7_put_0 : decode cX7_put 0 = .ok (.aload_n 0, 1) := by decide +kernel
theorem dX7_put_1 : decode cX7_put 1 = .ok (.iload_n 1, 1) := by decide +kernel
theorem dX7_put_2 : decode cX7_put 2 = .ok (.invokevirtual 25, 3) := by decide +kernel
theorem dX7_put_5 : decode cX7_put 5 = .ok (.ifCond .ne 4, 3) := by decide +kernel
theorem dX7_put_8 : decode cX7_put 8 = .ok (.return_, 1) := by decide +kernel
theorem dX7_put_9 : decode cX7_put 9 = .ok (.iload_n 1, 1) := by decide +kernel
theorem dX7_put_10 : decode cX7_put 10 = .ok (.bipush 10, 2) := by decide +kernel
theorem dX7_put_12 : decode cX7_put 12 = .ok (.imul, 1) := by decide +kernel
theorem dX7_put_13 : decode cX7_put 13 = .ok (.istore_n 3, 1) := by decide +kernel
theorem dX7_put_14 : decode cX7_put 14 = .ok (.aload_n 0, 1) := by decide +kernel
theorem dX7_put_15 : decode cX7_put 15 = .ok (.getfield 21, 3) := by decide +kernel
theorem dX7_put_18 : decode cX7_put 18 = .ok (.iload_n 3, 1) := by decide +kernel
theorem dX7_put_19 : decode cX7_put 19 = .ok (.aload_n 2, 1) := by decide +kernel
theorem dX7_put_20 : decode cX7_put 20 = .ok (.getfield 29, 3) := by decide +kernel
theorem dX7_put_23 : decode cX7_put 23 = .ok (.iastore, 1) := by decide +kernel
theorem dX7_put_24 : decode cX7_put 24 = .ok (.aload_n 0, 1) := by decide +kernel
theorem dX7_put_25 : decode cX7_put 25 = .ok (.getfield 21, 3) := by decide +kernel
theorem dX7_put_28 : decode cX7_put 28 = .ok (.iload_n 3, 1) := by decide +kernel
theorem dX7_put_29 : decode cX7_put 29 = .ok (.iconst 1, 1) := by decide +kernel
theorem dX7_put_30 : decode cX7_put 30 = .ok (.iadd, 1) := by decide +kernel
theorem dX7_put_31 : decode cX7_put 31 = .ok (.aload_n 2, 1) := by decide +kernel
theorem dX7_put_32 : decode cX7_put 32 = .ok (.getfield 34, 3) := by decide +kernel
theorem dX7_put_35 : decode cX7_put 35 = .ok (.iastore, 1) := by decide +kernel
theorem dX7_put_36 : decode cX7_put 36 = .ok (.iconst 0, 1) := by decide +kernel
theorem dX7_put_37 : decode cX7_put 37 = .ok (.istore 4, 2) := by decide +kernel
theorem dX7_put_39 : decode cX7_put 39 = .ok (.iload 4, 2) := by decide +kernel
theorem dX7_put_41 : decode cX7_put 41 = .ok (.iconst 4, 1) := by decide +kernel
theorem dX7_put_42 : decode cX7_put 42 = .ok (.if_icmp .ge 45, 3) := by decide +kernel
theorem dX7_put_45 : decode cX7_put 45 = .ok (.aload_n 0, 1) := by decide +kernel
theorem dX7_put_46 : decode cX7_put 46 = .ok (.getfield 21, 3) := by decide +kernel
theorem dX7_put_49 : decode cX7_put 49 = .ok (.iload_n 3, 1) := by decide +kernel
theorem dX7_put_50 : decode cX7_put 50 = .ok (.iconst 2, 1) := by decide +kernel
theorem dX7_put_51 : decode cX7_put 51 = .ok (.iadd, 1) := by decide +kernel
theorem dX7_put_52 : decode cX7_put 52 = .ok (.iload 4, 2) := by decide +kernel
theorem dX7_put_54 : decode cX7_put 54 = .ok (.iadd, 1) := by decide +kernel
theorem dX7_put_55 : decode cX7_put 55 = .ok (.aload_n 2, 1) := by decide +kernel
theorem dX7_put_56 : decode cX7_put 56 = .ok (.iload 4, 2) := by decide +kernel
theorem dX7_put_58 : decode cX7_put 58 = .ok (.invokevirtual 37, 3) := by decide +kernel
theorem dX7_put_61 : decode cX7_put 61 = .ok (.iastore, 1) := by decide +kernel
theorem dX7_put_62 : decode cX7_put 62 = .ok (.aload_n 0, 1) := by decide +kernel
theorem dX7_put_63 : decode cX7_put 63 = .ok (.getfield 21, 3) := by decide +kernel
theorem dX7_put_66 : decode cX7_put 66 = .ok (.iload_n 3, 1) := by decide +kernel
theorem dX7_put_67 : decode cX7_put 67 = .ok (.iconst 2, 1) := by decide +kernel
theorem dX7_put_68 : decode cX7_put 68 = .ok (.iadd, 1) := by decide +kernel
theorem dX7_put_69 : decode cX7_put 69 = .ok (.iconst 4, 1) := by decide +kernel
theorem dX7_put_70 : decode cX7_put 70 = .ok (.iadd, 1) := by decide +kernel
theorem dX7_put_71 : decode cX7_put 71 = .ok (.iload 4, 2) := by decide +kernel
theorem dX7_put_73 : decode cX7_put 73 = .ok (.iadd, 1) := by decide +kernel
theorem dX7_put_74 : decode cX7_put 74 = .ok (.aload_n 2, 1) := by decide +kernel
theorem dX7_put_75 : decode cX7_put 75 = .ok (.iload 4, 2) := by decide +kernel
theorem dX7_put_77 : decode cX7_put 77 = .ok (.invokevirtual 41, 3) := by decide +kernel
theorem dX7_put_80 : decode cX7_put 80 = .ok (.iastore, 1) := by decide +kernel
theorem dX7_put_81 : decode cX7_put 81 = .ok (.iinc 4 1, 3) := by decide +kernel
theorem dX7_put_84 : decode cX7_put 84 = .ok (.goto (-45), 3) := by decide +kernel
theorem dX7_put_87 : decode cX7_put 87 = .ok (.return_, 1) := by decide +kernel
theorem dX7_bring_0 : decode cX7_bring 0 = .ok (.aload_n 0, 1) := by decide +kernel
theorem dX7_bring_1 : decode cX7_bring 1 = .ok (.iload_n 1, 1) := by decide +kernel
theorem dX7_bring_2 : decode cX7_bring 2 = .ok (.invokevirtual 25, 3) := by decide +kernel
theorem dX7_bring_5 : decode cX7_bring 5 = .ok (.ifCond .ne 4, 3) := by decide +kernel
theorem dX7_bring_8 : decode cX7_bring 8 = .ok (.return_, 1) := by decide +kernel
theorem dX7_bring_9 : decode cX7_bring 9 = .ok (.iload_n 1, 1) := by decide +kernel
theorem dX7_bring_10 : decode cX7_bring 10 = .ok (.bipush 10, 2) := by decide +kernel
theorem dX7_bring_12 : decode cX7_bring 12 = .ok (.imul, 1) := by decide +kernel
theorem dX7_bring_13 : decode cX7_bring 13 = .ok (.istore_n 3, 1) := by decide +kernel
theorem dX7_bring_14 : decode cX7_bring 14 = .ok (.aload_n 2, 1) := by decide +kernel
theorem dX7_bring_15 : decode cX7_bring 15 = .ok (.aload_n 0, 1) := by decide +kernel
theorem dX7_bring_16 : decode cX7_bring 16 = .ok (.getfield 21, 3) := by decide +kernel
theorem dX7_bring_19 : decode cX7_bring 19 = .ok (.iload_n 3, 1) := by decide +kernel
theorem dX7_bring_20 : decode cX7_bring 20 = .ok (.iaload, 1) := by decide +kernel
theorem dX7_bring_21 : decode cX7_bring 21 = .ok (.putfield 29, 3) := by decide +kernel
theorem dX7_bring_24 : decode cX7_bring 24 = .ok (.aload_n 2, 1) := by decide +kernel
theorem dX7_bring_25 : decode cX7_bring 25 = .ok (.aload_n 0, 1) := by decide +kernel
theorem dX7_bring_26 : decode cX7_bring 26 = .ok (.getfield 21, 3) := by decide +kernel
theorem dX7_bring_29 : decode cX7_bring 29 = .ok (.iload_n 3, 1) := by decide +kernel
theorem dX7_bring_30 : decode cX7_bring 30 = .ok (.iconst 1, 1) := by decide +kernel
theorem dX7_bring_31 : decode cX7_bring 31 = .ok (.iadd, 1) := by decide +kernel
theorem dX7_bring_32 : decode cX7_bring 32 = .ok (.iaload, 1) := by decide +kernel
theorem dX7_bring_33 : decode cX7_bring 33 = .ok (.putfield 34, 3) := by decide +kernel
theorem dX7_bring_36 : decode cX7_bring 36 = .ok (.iconst 0, 1) := by decide +kernel
theorem dX7_bring_37 : decode cX7_bring 37 = .ok (.istore 4, 2) := by decide +kernel
theorem dX7_bring_39 : decode cX7_bring 39 = .ok (.iload 4, 2) := by decide +kernel
theorem dX7_bring_41 : decode cX7_bring 41 = .ok (.iconst 4, 1) := by decide +kernel
theorem dX7_bring_42 : decode cX7_bring 42 = .ok (.if_icmp .ge 45, 3) := by decide +kernel
theorem dX7_bring_45 : decode cX7_bring 45 = .ok (.aload_n 2, 1) := by decide +kernel
theorem dX7_bring_46 : decode cX7_bring 46 = .ok (.iload 4, 2) := by decide +kernel
theorem dX7_bring_48 : decode cX7_bring 48 = .ok (.aload_n 0, 1) := by decide +kernel
theorem dX7_bring_49 : decode cX7_bring 49 = .ok (.getfield 21, 3) := by decide +kernel
theorem dX7_bring_52 : decode cX7_bring 52 = .ok (.iload_n 3, 1) := by decide +kernel
theorem dX7_bring_53 : decode cX7_bring 53 = .ok (.iconst 2, 1) := by decide +kernel
theorem dX7_bring_54 : decode cX7_bring 54 = .ok (.iadd, 1) := by decide +kernel
theorem dX7_bring_55 : decode cX7_bring 55 = .ok (.iload 4, 2) := by decide +kernel
theorem dX7_bring_57 : decode cX7_bring 57 = .ok (.iadd, 1) := by decide +kernel
theorem dX7_bring_58 : decode cX7_bring 58 = .ok (.iaload, 1) := by decide +kernel
theorem dX7_bring_59 : decode cX7_bring 59 = .ok (.invokevirtual 44, 3) := by decide +kernel
theorem dX7_bring_62 : decode cX7_bring 62 = .ok (.aload_n 2, 1) := by decide +kernel
theorem dX7_bring_63 : decode cX7_bring 63 = .ok (.iload 4, 2) := by decide +kernel
theorem dX7_bring_65 : decode cX7_bring 65 = .ok (.aload_n 0, 1) := by decide +kernel
theorem dX7_bring_66 : decode cX7_bring 66 = .ok (.getfield 21, 3) := by decide +kernel
theorem dX7_bring_69 : decode cX7_bring 69 = .ok (.iload_n 3, 1) := by decide +kernel
theorem dX7_bring_70 : decode cX7_bring 70 = .ok (.iconst 2, 1) := by decide +kernel
theorem dX7_bring_71 : decode cX7_bring 71 = .ok (.iadd, 1) := by decide +kernel
theorem dX7_bring_72 : decode cX7_bring 72 = .ok (.iconst 4, 1) := by decide +kernel
theorem dX7_bring_73 : decode cX7_bring 73 = .ok (.iadd, 1) := by decide +kernel
theorem dX7_bring_74 : decode cX7_bring 74 = .ok (.iload 4, 2) := by decide +kernel
theorem dX7_bring_76 : decode cX7_bring 76 = .ok (.iadd, 1) := by decide +kernel
theorem dX7_bring_77 : decode cX7_bring 77 = .ok (.iaload, 1) := by decide +kernel
theorem dX7_bring_78 : decode cX7_bring 78 = .ok (.invokevirtual 48, 3) := by decide +kernel
theorem dX7_bring_81 : decode cX7_bring 81 = .ok (.iinc 4 1, 3) := by decide +kernel
theorem dX7_bring_84 : decode cX7_bring 84 = .ok (.goto (-45), 3) := by decide +kernel
theorem dX7_bring_87 : decode cX7_bring 87 = .ok (.return_, 1) := by decide +kernel
theorem dX8_init_0 : decode cX8_init 0 = .ok (.aload_n 0, 1) := by decide +kernel
theorem dX8_init_1 : decode cX8_init 1 = .ok (.invokespecial 3, 3) := by decide +kernel
theorem dX8_init_4 : decode cX8_init 4 = .ok (.aload_n 0, 1) := by decide +kernel
theorem dX8_init_5 : decode cX8_init 5 = .ok (.sipush 200, 3) := by decide +kernel
theorem dX8_init_8 : decode cX8_init 8 = .ok (.newarray .int, 2) := by decide +kernel
theorem dX8_init_10 : decode cX8_init 10 = .ok (.putfield 9, 3) := by decide +kernel
theorem dX8_init_13 : decode cX8_init 13 = .ok (.aload_n 0, 1) := by decide +kernel
theorem dX8_init_14 : decode cX8_init 14 = .ok (.iconst 4, 1) := by decide +kernel
theorem dX8_init_15 : decode cX8_init 15 = .ok (.newarray .int, 2) := by decide +kernel
theorem dX8_init_17 : decode cX8_init 17 = .ok (.putfield 15, 3) := by decide +kernel
theorem dX8_init_20 : decode cX8_init 20 = .ok (.return_, 1) := by decide +kernel
theorem dX8_size_0 : decode cX8_size 0 = .ok (.aload_n 0, 1) := by decide +kernel
theorem dX8_size_1 : decode cX8_size 1 = .ok (.getfield 18, 3) := by decide +kernel
theorem dX8_size_4 : decode cX8_size 4 = .ok (.ireturn, 1) := by decide +kernel
theorem dX8_isFull_0 : decode cX8_isFull 0 = .ok (.aload_n 0, 1) := by decide +kernel
theorem dX8_isFull_1 : decode cX8_isFull 1 = .ok (.getfield 18, 3) := by decide +kernel
theorem dX8_isFull_4 : decode cX8_isFull 4 = .ok (.sipush 200, 3) := by decide +kernel
theorem dX8_isFull_7 : decode cX8_isFull 7 = .ok (.if_icmp .lt 7, 3) := by decide +kernel
theorem dX8_isFull_10 : decode cX8_isFull 10 = .ok (.iconst 1, 1) := by decide +kernel
theorem dX8_isFull_11 : decode cX8_isFull 11 = .ok (.goto 4, 3) := by decide +kernel
theorem dX8_isFull_14 : decode cX8_isFull 14 = .ok (.iconst 0, 1) := by decide +kernel
theorem dX8_isFull_15 : decode cX8_isFull 15 = .ok (.ireturn, 1) := by decide +kernel
theorem dX8_append_0 : decode cX8_append 0 = .ok (.aload_n 0, 1) := by decide +kernel
theorem dX8_append_1 : decode cX8_append 1 = .ok (.invokevirtual 22, 3) := by decide +kernel
theorem dX8_append_4 : decode cX8_append 4 = .ok (.ifCond .ne 23, 3) := by decide +kernel
theorem dX8_append_7 : decode cX8_append 7 = .ok (.aload_n 0, 1) := by decide +kernel
theorem dX8_append_8 : decode cX8_append 8 = .ok (.getfield 9, 3) := by decide +kernel
theorem dX8_append_11 : decode cX8_append 11 = .ok (.aload_n 0, 1) := by decide +kernel
theorem dX8_append_12 : decode cX8_append 12 = .ok (.getfield 18, 3) := by decide +kernel
theorem dX8_append_15 : decode cX8_append 15 = .ok (.iload_n 1, 1) := by decide +kernel
theorem dX8_append_16 : decode cX8_append 16 = .ok (.iastore, 1) := by decide +kernel
theorem dX8_append_17 : decode cX8_append 17 = .ok (.aload_n 0, 1) := by decide +kernel
theorem dX8_append_18 : decode cX8_append 18 = .ok (.dup, 1) := by decide +kernel
theorem dX8_append_19 : decode cX8_append 19 = .ok (.getfield 18, 3) := by decide +kernel
theorem dX8_append_22 : decode cX8_append 22 = .ok (.iconst 1, 1) := by decide +kernel
theorem dX8_append_23 : decode cX8_append 23 = .ok (.iadd, 1) := by decide +kernel
theorem dX8_append_24 : decode cX8_append 24 = .ok (.putfield 18, 3) := by decide +kernel
theorem dX8_append_27 : decode cX8_append 27 = .ok (.return_, 1) := by decide +kernel
theorem dX8_drop_0 : decode cX8_drop 0 = .ok (.aload_n 0, 1) := by decide +kernel
theorem dX8_drop_1 : decode cX8_drop 1 = .ok (.iconst 0, 1) := by decide +kernel
theorem dX8_drop_2 : decode cX8_drop 2 = .ok (.putfield 18, 3) := by decide +kernel
theorem dX8_drop_5 : decode cX8_drop 5 = .ok (.return_, 1) := by decide +kernel
theorem dX8_tell_0 : decode cX8_tell 0 = .ok (.aload_n 1, 1) := by decide +kernel
theorem dX8_tell_1 : decode cX8_tell 1 = .ok (.invokevirtual 26, 3) := by decide +kernel
theorem dX8_tell_4 : decode cX8_tell 4 = .ok (.aload_n 0, 1) := by decide +kernel
theorem dX8_tell_5 : decode cX8_tell 5 = .ok (.iconst 0, 1) := by decide +kernel
theorem dX8_tell_6 : decode cX8_tell 6 = .ok (.putfield 31, 3) := by decide +kernel
theorem dX8_tell_9 : decode cX8_tell 9 = .ok (.iconst 0, 1) := by decide +kernel
theorem dX8_tell_10 : decode cX8_tell 10 = .ok (.istore_n 2, 1) := by decide +kernel
theorem dX8_tell_11 : decode cX8_tell 11 = .ok (.iload_n 2, 1) := by decide +kernel
theorem dX8_tell_12 : decode cX8_tell 12 = .ok (.bipush 12, 2) := by decide +kernel
theorem dX8_tell_14 : decode cX8_tell 14 = .ok (.if_icmp .gt 43, 3) := by decide +kernel
theorem dX8_tell_17 : decode cX8_tell 17 = .ok (.aload_n 0, 1) := by decide +kernel
theorem dX8_tell_18 : decode cX8_tell 18 = .ok (.invokevirtual 34, 3) := by decide +kernel
theorem dX8_tell_21 : decode cX8_tell 21 = .ok (.aload_n 0, 1) := by decide +kernel
theorem dX8_tell_22 : decode cX8_tell 22 = .ok (.getfield 37, 3) := by decide +kernel
theorem dX8_tell_25 : decode cX8_tell 25 = .ok (.iconst (-1), 1) := by decide +kernel
theorem dX8_tell_26 : decode cX8_tell 26 = .ok (.if_icmp .ne 5, 3) := by decide +kernel
theorem dX8_tell_29 : decode cX8_tell 29 = .ok (.iload_n 2, 1) := by decide +kernel
theorem dX8_tell_30 : decode cX8_tell 30 = .ok (.ireturn, 1) := by decide +kernel
theorem dX8_tell_31 : decode cX8_tell 31 = .ok (.aload_n 0, 1) := by decide +kernel
theorem dX8_tell_32 : decode cX8_tell 32 = .ok (.aload_n 1, 1) := by decide +kernel
theorem dX8_tell_33 : decode cX8_tell 33 = .ok (.iload_n 2, 1) := by decide +kernel
theorem dX8_tell_34 : decode cX8_tell 34 = .ok (.invokevirtual 40, 3) := by decide +kernel
theorem dX8_tell_37 : decode cX8_tell 37 = .ok (.ifCond .eq 20, 3) := by decide +kernel
theorem dX8_tell_40 : decode cX8_tell 40 = .ok (.aload_n 0, 1) := by decide +kernel
theorem dX8_tell_41 : decode cX8_tell 41 = .ok (.aload_n 1, 1) := by decide +kernel
theorem dX8_tell_42 : decode cX8_tell 42 = .ok (.invokevirtual 44, 3) := by decide +kernel
theorem dX8_tell_45 : decode cX8_tell 45 = .ok (.ifCond .ne 6, 3) := by decide +kernel
theorem dX8_tell_48 : decode cX8_tell 48 = .ok (.goto 9, 3) := by decide +kernel
theorem dX8_tell_51 : decode cX8_tell 51 = .ok (.iinc 2 1, 3) := by decide +kernel
theorem dX8_tell_54 : decode cX8_tell 54 = .ok (.goto (-43), 3) := by decide +kernel
theorem dX8_tell_57 : decode cX8_tell 57 = .ok (.bipush (-10), 2) := by decide +kernel
theorem dX8_tell_59 : decode cX8_tell 59 = .ok (.aload_n 0, 1) := by decide +kernel
theorem dX8_tell_60 : decode cX8_tell 60 = .ok (.getfield 48, 3) := by decide +kernel
theorem dX8_tell_63 : decode cX8_tell 63 = .ok (.isub, 1) := by decide +kernel
theorem dX8_tell_64 : decode cX8_tell 64 = .ok (.ireturn, 1) := by decide +kernel
theorem dX8_mayBegin_0 : decode cX8_mayBegin 0 = .ok (.aload_n 0, 1) := by decide +kernel
theorem dX8_mayBegin_1 : decode cX8_mayBegin 1 = .ok (.getfield 37, 3) := by decide +kernel
theorem dX8_mayBegin_4 : decode cX8_mayBegin 4 = .ok (.tableswitch 143 102 115 #[82, 72, 143, 143, 143, 143, 143, 143, 95, 143, 143, 143, 127, 111], 72) := by decide +kernel
theorem dX8_mayBegin_76 : decode cX8_mayBegin 76 = .ok (.iload_n 2, 1) := by decide +kernel
theorem dX8_mayBegin_77 : decode cX8_mayBegin 77 = .ok (.ifCond .ne 7, 3) := by decide +kernel
theorem dX8_mayBegin_80 : decode cX8_mayBegin 80 = .ok (.iconst 1, 1) := by decide +kernel
theorem dX8_mayBegin_81 : decode cX8_mayBegin 81 = .ok (.goto 4, 3) := by decide +kernel
theorem dX8_mayBegin_84 : decode cX8_mayBegin 84 = .ok (.iconst 0, 1) := by decide +kernel
theorem dX8_mayBegin_85 : decode cX8_mayBegin 85 = .ok (.ireturn, 1) := by decide +kernel
theorem dX8_mayBegin_86 : decode cX8_mayBegin 86 = .ok (.aload_n 1, 1) := by decide +kernel
theorem dX8_mayBegin_87 : decode cX8_mayBegin 87 = .ok (.getfield 51, 3) := by decide +kernel
theorem dX8_mayBegin_90 : decode cX8_mayBegin 90 = .ok (.ifCond .ne 7, 3) := by decide +kernel
theorem dX8_mayBegin_93 : decode cX8_mayBegin 93 = .ok (.iconst 1, 1) := by decide +kernel
theorem dX8_mayBegin_94 : decode cX8_mayBegin 94 = .ok (.goto 4, 3) := by decide +kernel
theorem dX8_mayBegin_97 : decode cX8_mayBegin 97 = .ok (.iconst 0, 1) := by decide +kernel
theorem dX8_mayBegin_98 : decode cX8_mayBegin 98 = .ok (.ireturn, 1) := by decide +kernel
theorem dX8_mayBegin_99 : decode cX8_mayBegin 99 = .ok (.aload_n 1, 1) := by decide +kernel
theorem dX8_mayBegin_100 : decode cX8_mayBegin 100 = .ok (.getfield 55, 3) := by decide +kernel
theorem dX8_mayBegin_103 : decode cX8_mayBegin 103 = .ok (.invokevirtual 59, 3) := by decide +kernel
theorem dX8_mayBegin_106 : decode cX8_mayBegin 106 = .ok (.ifCond .ne 7, 3) := by decide +kernel
theorem dX8_mayBegin_109 : decode cX8_mayBegin 109 = .ok (.iconst 1, 1) := by decide +kernel
theorem dX8_mayBegin_110 : decode cX8_mayBegin 110 = .ok (.goto 4, 3) := by decide +kernel
theorem dX8_mayBegin_113 : decode cX8_mayBegin 113 = .ok (.iconst 0, 1) := by decide +kernel
theorem dX8_mayBegin_114 : decode cX8_mayBegin 114 = .ok (.ireturn, 1) := by decide +kernel
theorem dX8_mayBegin_115 : decode cX8_mayBegin 115 = .ok (.aload_n 1, 1) := by decide +kernel
theorem dX8_mayBegin_116 : decode cX8_mayBegin 116 = .ok (.getfield 62, 3) := by decide +kernel
theorem dX8_mayBegin_119 : decode cX8_mayBegin 119 = .ok (.invokevirtual 59, 3) := by decide +kernel
theorem dX8_mayBegin_122 : decode cX8_mayBegin 122 = .ok (.ifCond .ne 7, 3) := by decide +kernel
theorem dX8_mayBegin_125 : decode cX8_mayBegin 125 = .ok (.iconst 1, 1) := by decide +kernel
theorem dX8_mayBegin_126 : decode cX8_mayBegin 126 = .ok (.goto 4, 3) := by decide +kernel
theorem dX8_mayBegin_129 : decode cX8_mayBegin 129 = .ok (.iconst 0, 1) := by decide +kernel
theorem dX8_mayBegin_130 : decode cX8_mayBegin 130 = .ok (.ireturn, 1) := by decide +kernel
theorem dX8_mayBegin_131 : decode cX8_mayBegin 131 = .ok (.aload_n 1, 1) := by decide +kernel
theorem dX8_mayBegin_132 : decode cX8_mayBegin 132 = .ok (.getfield 65, 3) := by decide +kernel
theorem dX8_mayBegin_135 : decode cX8_mayBegin 135 = .ok (.invokevirtual 59, 3) := by decide +kernel
theorem dX8_mayBegin_138 : decode cX8_mayBegin 138 = .ok (.ifCond .ne 7, 3) := by decide +kernel
theorem dX8_mayBegin_141 : decode cX8_mayBegin 141 = .ok (.iconst 1, 1) := by decide +kernel
theorem dX8_mayBegin_142 : decode cX8_mayBegin 142 = .ok (.goto 4, 3) := by decide +kernel
theorem dX8_mayBegin_145 : decode cX8_mayBegin 145 = .ok (.iconst 0, 1) := by decide +kernel
theorem dX8_mayBegin_146 : decode cX8_mayBegin 146 = .ok (.ireturn, 1) := by decide +kernel
theorem dX8_mayBegin_147 : decode cX8_mayBegin 147 = .ok (.iconst 0, 1) := by decide +kernel
theorem dX8_mayBegin_148 : decode cX8_mayBegin 148 = .ok (.ireturn, 1) := by decide +kernel
theorem dX8_tellItem_0 : decode cX8_tellItem 0 = .ok (.aload_n 0, 1) := by decide +kernel
theorem dX8_tellItem_1 : decode cX8_tellItem 1 = .ok (.getfield 37, 3) := by decide +kernel
theorem dX8_tellItem_4 : decode cX8_tellItem 4 = .ok (.istore_n 2, 1) := by decide +kernel
theorem dX8_tellItem_5 : decode cX8_tellItem 5 = .ok (.iload_n 2, 1) := by decide +kernel
theorem dX8_tellItem_6 : decode cX8_tellItem 6 = .ok (.invokestatic 68, 3) := by decide +kernel
theorem dX8_tellItem_9 : decode cX8_tellItem 9 = .ok (.istore_n 3, 1) := by decide +kernel
theorem dX8_tellItem_10 : decode cX8_tellItem 10 = .ok (.iconst 0, 1) := by decide +kernel
theorem dX8_tellItem_11 : decode cX8_tellItem 11 = .ok (.istore 4, 2) := by decide +kernel
theorem dX8_tellItem_13 : decode cX8_tellItem 13 = .ok (.iload 4, 2) := by decide +kernel
theorem dX8_tellItem_15 : decode cX8_tellItem 15 = .ok (.iload_n 3, 1) := by decide +kernel
theorem dX8_tellItem_16 : decode cX8_tellItem 16 = .ok (.if_icmp .ge 72, 3) := by decide +kernel
theorem dX8_tellItem_19 : decode cX8_tellItem 19 = .ok (.iload 4, 2) := by decide +kernel
theorem dX8_tellItem_21 : decode cX8_tellItem 21 = .ok (.iconst 4, 1) := by decide +kernel
theorem dX8_tellItem_22 : decode cX8_tellItem 22 = .ok (.if_icmp .ge 66, 3) := by decide +kernel
theorem dX8_tellItem_25 : decode cX8_tellItem 25 = .ok (.aload_n 0, 1) := by decide +kernel
theorem dX8_tellItem_26 : decode cX8_tellItem 26 = .ok (.invokevirtual 34, 3) := by decide +kernel
theorem dX8_tellItem_29 : decode cX8_tellItem 29 = .ok (.aload_n 0, 1) := by decide +kernel
theorem dX8_tellItem_30 : decode cX8_tellItem 30 = .ok (.getfield 37, 3) := by decide +kernel
theorem dX8_tellItem_33 : decode cX8_tellItem 33 = .ok (.bipush (-2), 2) := by decide +kernel
theorem dX8_tellItem_35 : decode cX8_tellItem 35 = .ok (.if_icmp .ne 34, 3) := by decide +kernel
theorem dX8_tellItem_38 : decode cX8_tellItem 38 = .ok (.aload_n 0, 1) := by decide +kernel
theorem dX8_tellItem_39 : decode cX8_tellItem 39 = .ok (.getfield 72, 3) := by decide +kernel
theorem dX8_tellItem_42 : decode cX8_tellItem 42 = .ok (.aload_n 0, 1) := by decide +kernel
theorem dX8_tellItem_43 : decode cX8_tellItem 43 = .ok (.iload_n 2, 1) := by decide +kernel
theorem dX8_tellItem_44 : decode cX8_tellItem 44 = .ok (.iload 4, 2) := by decide +kernel
theorem dX8_tellItem_46 : decode cX8_tellItem 46 = .ok (.invokevirtual 75, 3) := by decide +kernel
theorem dX8_tellItem_49 : decode cX8_tellItem 49 = .ok (.if_icmp .lt 20, 3) := by decide +kernel
theorem dX8_tellItem_52 : decode cX8_tellItem 52 = .ok (.aload_n 0, 1) := by decide +kernel
theorem dX8_tellItem_53 : decode cX8_tellItem 53 = .ok (.getfield 72, 3) := by decide +kernel
theorem dX8_tellItem_56 : decode cX8_tellItem 56 = .ok (.iload_n 2, 1) := by decide +kernel
theorem dX8_tellItem_57 : decode cX8_tellItem 57 = .ok (.iload 4, 2) := by decide +kernel
theorem dX8_tellItem_59 : decode cX8_tellItem 59 = .ok (.aload_n 1, 1) := by decide +kernel
theorem dX8_tellItem_60 : decode cX8_tellItem 60 = .ok (.getfield 79, 3) := by decide +kernel
theorem dX8_tellItem_63 : decode cX8_tellItem 63 = .ok (.invokestatic 82, 3) := by decide +kernel
theorem dX8_tellItem_66 : decode cX8_tellItem 66 = .ok (.if_icmp .le 5, 3) := by decide +kernel
theorem dX8_tellItem_69 : decode cX8_tellItem 69 = .ok (.iconst 0, 1) := by decide +kernel
theorem dX8_tellItem_70 : decode cX8_tellItem 70 = .ok (.ireturn, 1) := by decide +kernel
theorem dX8_tellItem_71 : decode cX8_tellItem 71 = .ok (.aload_n 0, 1) := by decide +kernel
theorem dX8_tellItem_72 : decode cX8_tellItem 72 = .ok (.getfield 15, 3) := by decide +kernel
theorem dX8_tellItem_75 : decode cX8_tellItem 75 = .ok (.iload 4, 2) := by decide +kernel
theorem dX8_tellItem_77 : decode cX8_tellItem 77 = .ok (.aload_n 0, 1) := by decide +kernel
theorem dX8_tellItem_78 : decode cX8_tellItem 78 = .ok (.getfield 72, 3) := by decide +kernel
theorem dX8_tellItem_81 : decode cX8_tellItem 81 = .ok (.iastore, 1) := by decide +kernel
theorem dX8_tellItem_82 : decode cX8_tellItem 82 = .ok (.iinc 4 1, 3) := by decide +kernel
theorem dX8_tellItem_85 : decode cX8_tellItem 85 = .ok (.goto (-72), 3) := by decide +kernel
theorem dX8_tellItem_88 : decode cX8_tellItem 88 = .ok (.aload_n 0, 1) := by decide +kernel
theorem dX8_tellItem_89 : decode cX8_tellItem 89 = .ok (.invokevirtual 34, 3) := by decide +kernel
theorem dX8_tellItem_92 : decode cX8_tellItem 92 = .ok (.aload_n 0, 1) := by decide +kernel
theorem dX8_tellItem_93 : decode cX8_tellItem 93 = .ok (.getfield 37, 3) := by decide +kernel
theorem dX8_tellItem_96 : decode cX8_tellItem 96 = .ok (.bipush 59, 2) := by decide +kernel
theorem dX8_tellItem_98 : decode cX8_tellItem 98 = .ok (.if_icmp .eq 5, 3) := by decide +kernel
theorem dX8_tellItem_101 : decode cX8_tellItem 101 = .ok (.iconst 0, 1) := by decide +kernel
theorem dX8_tellItem_102 : decode cX8_tellItem 102 = .ok (.ireturn, 1) := by decide +kernel
theorem dX8_tellItem_103 : decode cX8_tellItem 103 = .ok (.aload_n 0, 1) := by decide +kernel
theorem dX8_tellItem_104 : decode cX8_tellItem 104 = .ok (.aload_n 1, 1) := by decide +kernel
theorem dX8_tellItem_105 : decode cX8_tellItem 105 = .ok (.iload_n 2, 1) := by decide +kernel
theorem dX8_tellItem_106 : decode cX8_tellItem 106 = .ok (.invokevirtual 86, 3) := by decide +kernel
theorem dX8_tellItem_109 : decode cX8_tellItem 109 = .ok (.iconst 1, 1) := by decide +kernel
theorem dX8_tellItem_110 : decode cX8_tellItem 110 = .ok (.ireturn, 1) := by decide +kernel
theorem dX8_fieldsOf_0 : decode cX8_fieldsOf 0 = .ok (.iload_n 0, 1) := by decide +kernel
theorem dX8_fieldsOf_1 : decode cX8_fieldsOf 1 = .ok (.bipush 102, 2) := by decide +kernel
theorem dX8_fieldsOf_3 : decode cX8_fieldsOf 3 = .ok (.if_icmp .ne 5, 3) := by decide +kernel
theorem dX8_fieldsOf_6 : decode cX8_fieldsOf 6 = .ok (.iconst 1, 1) := by decide +kernel
theorem dX8_fieldsOf_7 : decode cX8_fieldsOf 7 = .ok (.ireturn, 1) := by decide +kernel
theorem dX8_fieldsOf_8 : decode cX8_fieldsOf 8 = .ok (.iload_n 0, 1) := by decide +kernel
theorem dX8_fieldsOf_9 : decode cX8_fieldsOf 9 = .ok (.bipush 103, 2) := by decide +kernel
theorem dX8_fieldsOf_11 : decode cX8_fieldsOf 11 = .ok (.if_icmp .ne 7, 3) := by decide +kernel
theorem dX8_fieldsOf_14 : decode cX8_fieldsOf 14 = .ok (.iconst 2, 1) := by decide +kernel
theorem dX8_fieldsOf_15 : decode cX8_fieldsOf 15 = .ok (.goto 4, 3) := by decide +kernel
theorem dX8_fieldsOf_18 : decode cX8_fieldsOf 18 = .ok (.iconst 4, 1) := by decide +kernel
theorem dX8_fieldsOf_19 : decode cX8_fieldsOf 19 = .ok (.ireturn, 1) := by decide +kernel
theorem dX8_least_0 : decode cX8_least 0 = .ok (.iload_n 1, 1) := by decide +kernel
theorem dX8_least_1 : decode cX8_least 1 = .ok (.lookupswitch 86 #[(110, 35), (114, 70), (115, 60)], 35) := by decide +kernel
theorem dX8_least_36 : decode cX8_least 36 = .ok (.iload_n 2, 1) := by decide +kernel
theorem dX8_least_37 : decode cX8_least 37 = .ok (.iconst 3, 1) := by decide +kernel
theorem dX8_least_38 : decode cX8_least 38 = .ok (.if_icmp .ne 12, 3) := by decide +kernel
theorem dX8_least_41 : decode cX8_least 41 = .ok (.aload_n 0, 1) := by decide +kernel
theorem dX8_least_42 : decode cX8_least 42 = .ok (.getfield 15, 3) := by decide +kernel
theorem dX8_least_45 : decode cX8_least 45 = .ok (.iconst 2, 1) := by decide +kernel
theorem dX8_least_46 : decode cX8_least 46 = .ok (.iaload, 1) := by decide +kernel
theorem dX8_least_47 : decode cX8_least 47 = .ok (.goto 13, 3) := by decide +kernel
theorem dX8_least_50 : decode cX8_least 50 = .ok (.iload_n 2, 1) := by decide +kernel
theorem dX8_least_51 : decode cX8_least 51 = .ok (.iconst 1, 1) := by decide +kernel
theorem dX8_least_52 : decode cX8_least 52 = .ok (.if_icmp .ne 7, 3) := by decide +kernel
theorem dX8_least_55 : decode cX8_least 55 = .ok (.iconst 1, 1) := by decide +kernel
theorem dX8_least_56 : decode cX8_least 56 = .ok (.goto 4, 3) := by decide +kernel
theorem dX8_least_59 : decode cX8_least 59 = .ok (.iconst 0, 1) := by decide +kernel
theorem dX8_least_60 : decode cX8_least 60 = .ok (.ireturn, 1) := by decide +kernel
theorem dX8_least_61 : decode cX8_least 61 = .ok (.iload_n 2, 1) := by decide +kernel
theorem dX8_least_62 : decode cX8_least 62 = .ok (.ifCond .ne 7, 3) := by decide +kernel
theorem dX8_least_65 : decode cX8_least 65 = .ok (.iconst 0, 1) := by decide +kernel
theorem dX8_least_66 : decode cX8_least 66 = .ok (.goto 4, 3) := by decide +kernel
theorem dX8_least_69 : decode cX8_least 69 = .ok (.iconst 1, 1) := by decide +kernel
theorem dX8_least_70 : decode cX8_least 70 = .ok (.ireturn, 1) := by decide +kernel
theorem dX8_least_71 : decode cX8_least 71 = .ok (.iload_n 2, 1) := by decide +kernel
theorem dX8_least_72 : decode cX8_least 72 = .ok (.iconst 2, 1) := by decide +kernel
theorem dX8_least_73 : decode cX8_least 73 = .ok (.if_icmp .ne 12, 3) := by decide +kernel
theorem dX8_least_76 : decode cX8_least 76 = .ok (.aload_n 0, 1) := by decide +kernel
theorem dX8_least_77 : decode cX8_least 77 = .ok (.getfield 15, 3) := by decide +kernel
theorem dX8_least_80 : decode cX8_least 80 = .ok (.iconst 1, 1) := by decide +kernel
theorem dX8_least_81 : decode cX8_least 81 = .ok (.iaload, 1) := by decide +kernel
theorem dX8_least_82 : decode cX8_least 82 = .ok (.goto 4, 3) := by decide +kernel
theorem dX8_least_85 : decode cX8_least 85 = .ok (.iconst 0, 1) := by decide +kernel
theorem dX8_least_86 : decode cX8_least 86 = .ok (.ireturn, 1) := by decide +kernel
theorem dX8_least_87 : decode cX8_least 87 = .ok (.iconst 1, 1) := by decide +kernel
theorem dX8_least_88 : decode cX8_least 88 = .ok (.ireturn, 1) := by decide +kernel
theorem dX8_greatest_0 : decode cX8_greatest 0 = .ok (.iload_n 0, 1) := by decide +kernel
theorem dX8_greatest_1 : decode cX8_greatest 1 = .ok (.lookupswitch 100 #[(102, 53), (103, 43), (110, 77), (115, 56)], 43) := by decide +kernel
theorem dX8_greatest_44 : decode cX8_greatest 44 = .ok (.iload_n 1, 1) := by decide +kernel
theorem dX8_greatest_45 : decode cX8_greatest 45 = .ok (.ifCond .ne 7, 3) := by decide +kernel
theorem dX8_greatest_48 : decode cX8_greatest 48 = .ok (.iconst 4, 1) := by decide +kernel
theorem dX8_greatest_49 : decode cX8_greatest 49 = .ok (.goto 4, 3) := by decide +kernel
theorem dX8_greatest_52 : decode cX8_greatest 52 = .ok (.iconst 3, 1) := by decide +kernel
theorem dX8_greatest_53 : decode cX8_greatest 53 = .ok (.ireturn, 1) := by decide +kernel
theorem dX8_greatest_54 : decode cX8_greatest 54 = .ok (.bipush 20, 2) := by decide +kernel
theorem dX8_greatest_56 : decode cX8_greatest 56 = .ok (.ireturn, 1) := by decide +kernel
theorem dX8_greatest_57 : decode cX8_greatest 57 = .ok (.iload_n 1, 1) := by decide +kernel
theorem dX8_greatest_58 : decode cX8_greatest 58 = .ok (.ifCond .ne 8, 3) := by decide +kernel
theorem dX8_greatest_61 : decode cX8_greatest 61 = .ok (.bipush 30, 2) := by decide +kernel
theorem dX8_greatest_63 : decode cX8_greatest 63 = .ok (.goto 14, 3) := by decide +kernel
theorem dX8_greatest_66 : decode cX8_greatest 66 = .ok (.iload_n 1, 1) := by decide +kernel
theorem dX8_greatest_67 : decode cX8_greatest 67 = .ok (.iconst 3, 1) := by decide +kernel
theorem dX8_greatest_68 : decode cX8_greatest 68 = .ok (.if_icmp .ne 8, 3) := by decide +kernel
theorem dX8_greatest_71 : decode cX8_greatest 71 = .ok (.bipush 9, 2) := by decide +kernel
theorem dX8_greatest_73 : decode cX8_greatest 73 = .ok (.goto 4, 3) := by decide +kernel
theorem dX8_greatest_76 : decode cX8_greatest 76 = .ok (.iconst 3, 1) := by decide +kernel
theorem dX8_greatest_77 : decode cX8_greatest 77 = .ok (.ireturn, 1) := by decide +kernel
theorem dX8_greatest_78 : decode cX8_greatest 78 = .ok (.iload_n 1, 1) := by decide +kernel
theorem dX8_greatest_79 : decode cX8_greatest 79 = .ok (.ifCond .ne 9, 3) := by decide +kernel
theorem dX8_greatest_82 : decode cX8_greatest 82 = .ok (.iload_n 2, 1) := by decide +kernel
theorem dX8_greatest_83 : decode cX8_greatest 83 = .ok (.iconst 1, 1) := by decide +kernel
theorem dX8_greatest_84 : decode cX8_greatest 84 = .ok (.isub, 1) := by decide +kernel
theorem dX8_greatest_85 : decode cX8_greatest 85 = .ok (.goto 15, 3) := by decide +kernel
theorem dX8_greatest_88 : decode cX8_greatest 88 = .ok (.iload_n 1, 1) := by decide +kernel
theorem dX8_greatest_89 : decode cX8_greatest 89 = .ok (.iconst 1, 1) := by decide +kernel
theorem dX8_greatest_90 : decode cX8_greatest 90 = .ok (.if_icmp .ne 8, 3) := by decide +kernel
theorem dX8_greatest_93 : decode cX8_greatest 93 = .ok (.bipush 99, 2) := by decide +kernel
theorem dX8_greatest_95 : decode cX8_greatest 95 = .ok (.goto 5, 3) := by decide +kernel
theorem dX8_greatest_98 : decode cX8_greatest 98 = .ok (.bipush 23, 2) := by decide +kernel
theorem dX8_greatest_100 : decode cX8_greatest 100 = .ok (.ireturn, 1) := by decide +kernel
theorem dX8_greatest_101 : decode cX8_greatest 101 = .ok (.iload_n 1, 1) := by decide +kernel
theorem dX8_greatest_102 : decode cX8_greatest 102 = .ok (.ifCond .ne 9, 3) := by decide +kernel
theorem dX8_greatest_105 : decode cX8_greatest 105 = .ok (.iload_n 2, 1) := by decide +kernel
theorem dX8_greatest_106 : decode cX8_greatest 106 = .ok (.iconst 1, 1) := by decide +kernel
theorem dX8_greatest_107 : decode cX8_greatest 107 = .ok (.isub, 1) := by decide +kernel
theorem dX8_greatest_108 : decode cX8_greatest 108 = .ok (.goto 15, 3) := by decide +kernel
theorem dX8_greatest_111 : decode cX8_greatest 111 = .ok (.iload_n 1, 1) := by decide +kernel
theorem dX8_greatest_112 : decode cX8_greatest 112 = .ok (.iconst 3, 1) := by decide +kernel
theorem dX8_greatest_113 : decode cX8_greatest 113 = .ok (.if_icmp .ne 8, 3) := by decide +kernel
theorem dX8_greatest_116 : decode cX8_greatest 116 = .ok (.bipush 99, 2) := by decide +kernel
theorem dX8_greatest_118 : decode cX8_greatest 118 = .ok (.goto 5, 3) := by decide +kernel
theorem dX8_greatest_121 : decode cX8_greatest 121 = .ok (.bipush 23, 2) := by decide +kernel
theorem dX8_greatest_123 : decode cX8_greatest 123 = .ok (.ireturn, 1) := by decide +kernel
theorem dX8_enter_0 : decode cX8_enter 0 = .ok (.iload_n 2, 1) := by decide +kernel
theorem dX8_enter_1 : decode cX8_enter 1 = .ok (.lookupswitch 148 #[(102, 62), (103, 43), (110, 80), (115, 114)], 43) := by decide +kernel
theorem dX8_enter_44 : decode cX8_enter 44 = .ok (.aload_n 1, 1) := by decide +kernel
theorem dX8_enter_45 : decode cX8_enter 45 = .ok (.aload_n 0, 1) := by decide +kernel
theorem dX8_enter_46 : decode cX8_enter 46 = .ok (.getfield 15, 3) := by decide +kernel
theorem dX8_enter_49 : decode cX8_enter 49 = .ok (.iconst 0, 1) := by decide +kernel
theorem dX8_enter_50 : decode cX8_enter 50 = .ok (.iaload, 1) := by decide +kernel
theorem dX8_enter_51 : decode cX8_enter 51 = .ok (.aload_n 0, 1) := by decide +kernel
theorem dX8_enter_52 : decode cX8_enter 52 = .ok (.getfield 15, 3) := by decide +kernel
theorem dX8_enter_55 : decode cX8_enter 55 = .ok (.iconst 1, 1) := by decide +kernel
theorem dX8_enter_56 : decode cX8_enter 56 = .ok (.iaload, 1) := by decide +kernel
theorem dX8_enter_57 : decode cX8_enter 57 = .ok (.invokevirtual 90, 3) := by decide +kernel
theorem dX8_enter_60 : decode cX8_enter 60 = .ok (.goto 120, 3) := by decide +kernel
theorem dX8_enter_63 : decode cX8_enter 63 = .ok (.aload_n 1, 1) := by decide +kernel
theorem dX8_enter_64 : decode cX8_enter 64 = .ok (.aload_n 0, 1) := by decide +kernel
theorem dX8_enter_65 : decode cX8_enter 65 = .ok (.getfield 15, 3) := by decide +kernel
theorem dX8_enter_68 : decode cX8_enter 68 = .ok (.iconst 0, 1) := by decide +kernel
theorem dX8_enter_69 : decode cX8_enter 69 = .ok (.iaload, 1) := by decide +kernel
theorem dX8_enter_70 : decode cX8_enter 70 = .ok (.putfield 94, 3) := by decide +kernel
theorem dX8_enter_73 : decode cX8_enter 73 = .ok (.aload_n 1, 1) := by decide +kernel
theorem dX8_enter_74 : decode cX8_enter 74 = .ok (.iconst 1, 1) := by decide +kernel
theorem dX8_enter_75 : decode cX8_enter 75 = .ok (.putfield 51, 3) := by decide +kernel
theorem dX8_enter_78 : decode cX8_enter 78 = .ok (.goto 102, 3) := by decide +kernel
theorem dX8_enter_81 : decode cX8_enter 81 = .ok (.aload_n 1, 1) := by decide +kernel
theorem dX8_enter_82 : decode cX8_enter 82 = .ok (.getfield 55, 3) := by decide +kernel
theorem dX8_enter_85 : decode cX8_enter 85 = .ok (.aload_n 0, 1) := by decide +kernel
theorem dX8_enter_86 : decode cX8_enter 86 = .ok (.getfield 15, 3) := by decide +kernel
theorem dX8_enter_89 : decode cX8_enter 89 = .ok (.iconst 0, 1) := by decide +kernel
theorem dX8_enter_90 : decode cX8_enter 90 = .ok (.iaload, 1) := by decide +kernel
theorem dX8_enter_91 : decode cX8_enter 91 = .ok (.aload_n 0, 1) := by decide +kernel
theorem dX8_enter_92 : decode cX8_enter 92 = .ok (.getfield 15, 3) := by decide +kernel
theorem dX8_enter_95 : decode cX8_enter 95 = .ok (.iconst 1, 1) := by decide +kernel
theorem dX8_enter_96 : decode cX8_enter 96 = .ok (.iaload, 1) := by decide +kernel
theorem dX8_enter_97 : decode cX8_enter 97 = .ok (.aload_n 0, 1) := by decide +kernel
theorem dX8_enter_98 : decode cX8_enter 98 = .ok (.getfield 15, 3) := by decide +kernel
theorem dX8_enter_101 : decode cX8_enter 101 = .ok (.iconst 2, 1) := by decide +kernel
theorem dX8_enter_102 : decode cX8_enter 102 = .ok (.iaload, 1) := by decide +kernel
theorem dX8_enter_103 : decode cX8_enter 103 = .ok (.aload_n 0, 1) := by decide +kernel
theorem dX8_enter_104 : decode cX8_enter 104 = .ok (.getfield 15, 3) := by decide +kernel
theorem dX8_enter_107 : decode cX8_enter 107 = .ok (.iconst 3, 1) := by decide +kernel
theorem dX8_enter_108 : decode cX8_enter 108 = .ok (.iaload, 1) := by decide +kernel
theorem dX8_enter_109 : decode cX8_enter 109 = .ok (.invokevirtual 97, 3) := by decide +kernel
theorem dX8_enter_112 : decode cX8_enter 112 = .ok (.goto 68, 3) := by decide +kernel
theorem dX8_enter_115 : decode cX8_enter 115 = .ok (.aload_n 1, 1) := by decide +kernel
theorem dX8_enter_116 : decode cX8_enter 116 = .ok (.getfield 62, 3) := by decide +kernel
theorem dX8_enter_119 : decode cX8_enter 119 = .ok (.aload_n 0, 1) := by decide +kernel
theorem dX8_enter_120 : decode cX8_enter 120 = .ok (.getfield 15, 3) := by decide +kernel
theorem dX8_enter_123 : decode cX8_enter 123 = .ok (.iconst 0, 1) := by decide +kernel
theorem dX8_enter_124 : decode cX8_enter 124 = .ok (.iaload, 1) := by decide +kernel
theorem dX8_enter_125 : decode cX8_enter 125 = .ok (.aload_n 0, 1) := by decide +kernel
theorem dX8_enter_126 : decode cX8_enter 126 = .ok (.getfield 15, 3) := by decide +kernel
theorem dX8_enter_129 : decode cX8_enter 129 = .ok (.iconst 1, 1) := by decide +kernel
theorem dX8_enter_130 : decode cX8_enter 130 = .ok (.iaload, 1) := by decide +kernel
theorem dX8_enter_131 : decode cX8_enter 131 = .ok (.aload_n 0, 1) := by decide +kernel
theorem dX8_enter_132 : decode cX8_enter 132 = .ok (.getfield 15, 3) := by decide +kernel
theorem dX8_enter_135 : decode cX8_enter 135 = .ok (.iconst 2, 1) := by decide +kernel
theorem dX8_enter_136 : decode cX8_enter 136 = .ok (.iaload, 1) := by decide +kernel
theorem dX8_enter_137 : decode cX8_enter 137 = .ok (.aload_n 0, 1) := by decide +kernel
theorem dX8_enter_138 : decode cX8_enter 138 = .ok (.getfield 15, 3) := by decide +kernel
theorem dX8_enter_141 : decode cX8_enter 141 = .ok (.iconst 3, 1) := by decide +kernel
theorem dX8_enter_142 : decode cX8_enter 142 = .ok (.iaload, 1) := by decide +kernel
theorem dX8_enter_143 : decode cX8_enter 143 = .ok (.invokevirtual 97, 3) := by decide +kernel
theorem dX8_enter_146 : decode cX8_enter 146 = .ok (.goto 34, 3) := by decide +kernel
theorem dX8_enter_149 : decode cX8_enter 149 = .ok (.aload_n 1, 1) := by decide +kernel
theorem dX8_enter_150 : decode cX8_enter 150 = .ok (.getfield 65, 3) := by decide +kernel
theorem dX8_enter_153 : decode cX8_enter 153 = .ok (.aload_n 0, 1) := by decide +kernel
theorem dX8_enter_154 : decode cX8_enter 154 = .ok (.getfield 15, 3) := by decide +kernel
theorem dX8_enter_157 : decode cX8_enter 157 = .ok (.iconst 0, 1) := by decide +kernel
theorem dX8_enter_158 : decode cX8_enter 158 = .ok (.iaload, 1) := by decide +kernel
theorem dX8_enter_159 : decode cX8_enter 159 = .ok (.aload_n 0, 1) := by decide +kernel
theorem dX8_enter_160 : decode cX8_enter 160 = .ok (.getfield 15, 3) := by decide +kernel
theorem dX8_enter_163 : decode cX8_enter 163 = .ok (.iconst 1, 1) := by decide +kernel
theorem dX8_enter_164 : decode cX8_enter 164 = .ok (.iaload, 1) := by decide +kernel
theorem dX8_enter_165 : decode cX8_enter 165 = .ok (.aload_n 0, 1) := by decide +kernel
theorem dX8_enter_166 : decode cX8_enter 166 = .ok (.getfield 15, 3) := by decide +kernel
theorem dX8_enter_169 : decode cX8_enter 169 = .ok (.iconst 2, 1) := by decide +kernel
theorem dX8_enter_170 : decode cX8_enter 170 = .ok (.iaload, 1) := by decide +kernel
theorem dX8_enter_171 : decode cX8_enter 171 = .ok (.aload_n 0, 1) := by decide +kernel
theorem dX8_enter_172 : decode cX8_enter 172 = .ok (.getfield 15, 3) := by decide +kernel
theorem dX8_enter_175 : decode cX8_enter 175 = .ok (.iconst 3, 1) := by decide +kernel
theorem dX8_enter_176 : decode cX8_enter 176 = .ok (.iaload, 1) := by decide +kernel
theorem dX8_enter_177 : decode cX8_enter 177 = .ok (.invokevirtual 97, 3) := by decide +kernel
theorem dX8_enter_180 : decode cX8_enter 180 = .ok (.return_, 1) := by decide +kernel
theorem dX8_step_0 : decode cX8_step 0 = .ok (.aload_n 0, 1) := by decide +kernel
theorem dX8_step_1 : decode cX8_step 1 = .ok (.getfield 31, 3) := by decide +kernel
theorem dX8_step_4 : decode cX8_step 4 = .ok (.aload_n 0, 1) := by decide +kernel
theorem dX8_step_5 : decode cX8_step 5 = .ok (.getfield 18, 3) := by decide +kernel
theorem dX8_step_8 : decode cX8_step 8 = .ok (.if_icmp .ge 30, 3) := by decide +kernel
theorem dX8_step_11 : decode cX8_step 11 = .ok (.aload_n 0, 1) := by decide +kernel
theorem dX8_step_12 : decode cX8_step 12 = .ok (.getfield 9, 3) := by decide +kernel
theorem dX8_step_15 : decode cX8_step 15 = .ok (.aload_n 0, 1) := by decide +kernel
theorem dX8_step_16 : decode cX8_step 16 = .ok (.getfield 31, 3) := by decide +kernel
theorem dX8_step_19 : decode cX8_step 19 = .ok (.iaload, 1) := by decide +kernel
theorem dX8_step_20 : decode cX8_step 20 = .ok (.bipush 32, 2) := by decide +kernel
theorem dX8_step_22 : decode cX8_step 22 = .ok (.if_icmp .ne 16, 3) := by decide +kernel
theorem dX8_step_25 : decode cX8_step 25 = .ok (.aload_n 0, 1) := by decide +kernel
theorem dX8_step_26 : decode cX8_step 26 = .ok (.dup, 1) := by decide +kernel
theorem dX8_step_27 : decode cX8_step 27 = .ok (.getfield 31, 3) := by decide +kernel
theorem dX8_step_30 : decode cX8_step 30 = .ok (.iconst 1, 1) := by decide +kernel
theorem dX8_step_31 : decode cX8_step 31 = .ok (.iadd, 1) := by decide +kernel
theorem dX8_step_32 : decode cX8_step 32 = .ok (.putfield 31, 3) := by decide +kernel
theorem dX8_step_35 : decode cX8_step 35 = .ok (.goto (-35), 3) := by decide +kernel
theorem dX8_step_38 : decode cX8_step 38 = .ok (.aload_n 0, 1) := by decide +kernel
theorem dX8_step_39 : decode cX8_step 39 = .ok (.aload_n 0, 1) := by decide +kernel
theorem dX8_step_40 : decode cX8_step 40 = .ok (.getfield 31, 3) := by decide +kernel
theorem dX8_step_43 : decode cX8_step 43 = .ok (.putfield 48, 3) := by decide +kernel
theorem dX8_step_46 : decode cX8_step 46 = .ok (.aload_n 0, 1) := by decide +kernel
theorem dX8_step_47 : decode cX8_step 47 = .ok (.getfield 31, 3) := by decide +kernel
theorem dX8_step_50 : decode cX8_step 50 = .ok (.aload_n 0, 1) := by decide +kernel
theorem dX8_step_51 : decode cX8_step 51 = .ok (.getfield 18, 3) := by decide +kernel
theorem dX8_step_54 : decode cX8_step 54 = .ok (.if_icmp .lt 11, 3) := by decide +kernel
theorem dX8_step_57 : decode cX8_step 57 = .ok (.aload_n 0, 1) := by decide +kernel
theorem dX8_step_58 : decode cX8_step 58 = .ok (.iconst (-1), 1) := by decide +kernel
theorem dX8_step_59 : decode cX8_step 59 = .ok (.putfield 37, 3) := by decide +kernel
theorem dX8_step_62 : decode cX8_step 62 = .ok (.goto 48, 3) := by decide +kernel
theorem dX8_step_65 : decode cX8_step 65 = .ok (.aload_n 0, 1) := by decide +kernel
theorem dX8_step_66 : decode cX8_step 66 = .ok (.getfield 9, 3) := by decide +kernel
theorem dX8_step_69 : decode cX8_step 69 = .ok (.aload_n 0, 1) := by decide +kernel
theorem dX8_step_70 : decode cX8_step 70 = .ok (.getfield 31, 3) := by decide +kernel
theorem dX8_step_73 : decode cX8_step 73 = .ok (.iaload, 1) := by decide +kernel
theorem dX8_step_74 : decode cX8_step 74 = .ok (.invokestatic 101, 3) := by decide +kernel
theorem dX8_step_77 : decode cX8_step 77 = .ok (.ifCond .eq 10, 3) := by decide +kernel
theorem dX8_step_80 : decode cX8_step 80 = .ok (.aload_n 0, 1) := by decide +kernel
theorem dX8_step_81 : decode cX8_step 81 = .ok (.invokevirtual 105, 3) := by decide +kernel
theorem dX8_step_84 : decode cX8_step 84 = .ok (.goto 26, 3) := by decide +kernel
theorem dX8_step_87 : decode cX8_step 87 = .ok (.aload_n 0, 1) := by decide +kernel
theorem dX8_step_88 : decode cX8_step 88 = .ok (.aload_n 0, 1) := by decide +kernel
theorem dX8_step_89 : decode cX8_step 89 = .ok (.getfield 9, 3) := by decide +kernel
theorem dX8_step_92 : decode cX8_step 92 = .ok (.aload_n 0, 1) := by decide +kernel
theorem dX8_step_93 : decode cX8_step 93 = .ok (.getfield 31, 3) := by decide +kernel
theorem dX8_step_96 : decode cX8_step 96 = .ok (.iaload, 1) := by decide +kernel
theorem dX8_step_97 : decode cX8_step 97 = .ok (.putfield 37, 3) := by decide +kernel
theorem dX8_step_100 : decode cX8_step 100 = .ok (.aload_n 0, 1) := by decide +kernel
theorem dX8_step_101 : decode cX8_step 101 = .ok (.dup, 1) := by decide +kernel
theorem dX8_step_102 : decode cX8_step 102 = .ok (.getfield 31, 3) := by decide +kernel
theorem dX8_step_105 : decode cX8_step 105 = .ok (.iconst 1, 1) := by decide +kernel
theorem dX8_step_106 : decode cX8_step 106 = .ok (.iadd, 1) := by decide +kernel
theorem dX8_step_107 : decode cX8_step 107 = .ok (.putfield 31, 3) := by decide +kernel
theorem dX8_step_110 : decode cX8_step 110 = .ok (.return_, 1) := by decide +kernel
theorem dX8_stepNumber_0 : decode cX8_stepNumber 0 = .ok (.aload_n 0, 1) := by decide +kernel
theorem dX8_stepNumber_1 : decode cX8_stepNumber 1 = .ok (.getfield 9, 3) := by decide +kernel
theorem dX8_stepNumber_4 : decode cX8_stepNumber 4 = .ok (.aload_n 0, 1) := by decide +kernel
theorem dX8_stepNumber_5 : decode cX8_stepNumber 5 = .ok (.getfield 48, 3) := by decide +kernel
theorem dX8_stepNumber_8 : decode cX8_stepNumber 8 = .ok (.iaload, 1) := by decide +kernel
theorem dX8_stepNumber_9 : decode cX8_stepNumber 9 = .ok (.bipush 48, 2) := by decide +kernel
theorem dX8_stepNumber_11 : decode cX8_stepNumber 11 = .ok (.if_icmp .ne 7, 3) := by decide +kernel
theorem dX8_stepNumber_14 : decode cX8_stepNumber 14 = .ok (.iconst 1, 1) := by decide +kernel
theorem dX8_stepNumber_15 : decode cX8_stepNumber 15 = .ok (.goto 4, 3) := by decide +kernel
theorem dX8_stepNumber_18 : decode cX8_stepNumber 18 = .ok (.iconst 0, 1) := by decide +kernel
theorem dX8_stepNumber_19 : decode cX8_stepNumber 19 = .ok (.istore_n 1, 1) := by decide +kernel
theorem dX8_stepNumber_20 : decode cX8_stepNumber 20 = .ok (.aload_n 0, 1) := by decide +kernel
theorem dX8_stepNumber_21 : decode cX8_stepNumber 21 = .ok (.iconst 0, 1) := by decide +kernel
theorem dX8_stepNumber_22 : decode cX8_stepNumber 22 = .ok (.putfield 72, 3) := by decide +kernel
theorem dX8_stepNumber_25 : decode cX8_stepNumber 25 = .ok (.aload_n 0, 1) := by decide +kernel
theorem dX8_stepNumber_26 : decode cX8_stepNumber 26 = .ok (.getfield 31, 3) := by decide +kernel
theorem dX8_stepNumber_29 : decode cX8_stepNumber 29 = .ok (.aload_n 0, 1) := by decide +kernel
theorem dX8_stepNumber_30 : decode cX8_stepNumber 30 = .ok (.getfield 18, 3) := by decide +kernel
theorem dX8_stepNumber_33 : decode cX8_stepNumber 33 = .ok (.if_icmp .ge 60, 3) := by decide +kernel
theorem dX8_stepNumber_36 : decode cX8_stepNumber 36 = .ok (.aload_n 0, 1) := by decide +kernel
theorem dX8_stepNumber_37 : decode cX8_stepNumber 37 = .ok (.getfield 9, 3) := by decide +kernel
theorem dX8_stepNumber_40 : decode cX8_stepNumber 40 = .ok (.aload_n 0, 1) := by decide +kernel
theorem dX8_stepNumber_41 : decode cX8_stepNumber 41 = .ok (.getfield 31, 3) := by decide +kernel
theorem dX8_stepNumber_44 : decode cX8_stepNumber 44 = .ok (.iaload, 1) := by decide +kernel
theorem dX8_stepNumber_45 : decode cX8_stepNumber 45 = .ok (.invokestatic 101, 3) := by decide +kernel
theorem dX8_stepNumber_48 : decode cX8_stepNumber 48 = .ok (.ifCond .eq 45, 3) := by decide +kernel
theorem dX8_stepNumber_51 : decode cX8_stepNumber 51 = .ok (.aload_n 0, 1) := by decide +kernel
theorem dX8_stepNumber_52 : decode cX8_stepNumber 52 = .ok (.bipush 100, 2) := by decide +kernel
theorem dX8_stepNumber_54 : decode cX8_stepNumber 54 = .ok (.aload_n 0, 1) := by decide +kernel
theorem dX8_stepNumber_55 : decode cX8_stepNumber 55 = .ok (.getfield 72, 3) := by decide +kernel
theorem dX8_stepNumber_58 : decode cX8_stepNumber 58 = .ok (.bipush 10, 2) := by decide +kernel
theorem dX8_stepNumber_60 : decode cX8_stepNumber 60 = .ok (.imul, 1) := by decide +kernel
theorem dX8_stepNumber_61 : decode cX8_stepNumber 61 = .ok (.aload_n 0, 1) := by decide +kernel
theorem dX8_stepNumber_62 : decode cX8_stepNumber 62 = .ok (.getfield 9, 3) := by decide +kernel
theorem dX8_stepNumber_65 : decode cX8_stepNumber 65 = .ok (.aload_n 0, 1) := by decide +kernel
theorem dX8_stepNumber_66 : decode cX8_stepNumber 66 = .ok (.getfield 31, 3) := by decide +kernel
theorem dX8_stepNumber_69 : decode cX8_stepNumber 69 = .ok (.iaload, 1) := by decide +kernel
theorem dX8_stepNumber_70 : decode cX8_stepNumber 70 = .ok (.iadd, 1) := by decide +kernel
theorem dX8_stepNumber_71 : decode cX8_stepNumber 71 = .ok (.bipush 48, 2) := by decide +kernel
theorem dX8_stepNumber_73 : decode cX8_stepNumber 73 = .ok (.isub, 1) := by decide +kernel
theorem dX8_stepNumber_74 : decode cX8_stepNumber 74 = .ok (.invokestatic 108, 3) := by decide +kernel
theorem dX8_stepNumber_77 : decode cX8_stepNumber 77 = .ok (.putfield 72, 3) := by decide +kernel
theorem dX8_stepNumber_80 : decode cX8_stepNumber 80 = .ok (.aload_n 0, 1) := by decide +kernel
theorem dX8_stepNumber_81 : decode cX8_stepNumber 81 = .ok (.dup, 1) := by decide +kernel
theorem dX8_stepNumber_82 : decode cX8_stepNumber 82 = .ok (.getfield 31, 3) := by decide +kernel
theorem dX8_stepNumber_85 : decode cX8_stepNumber 85 = .ok (.iconst 1, 1) := by decide +kernel
theorem dX8_stepNumber_86 : decode cX8_stepNumber 86 = .ok (.iadd, 1) := by decide +kernel
theorem dX8_stepNumber_87 : decode cX8_stepNumber 87 = .ok (.putfield 31, 3) := by decide +kernel
theorem dX8_stepNumber_90 : decode cX8_stepNumber 90 = .ok (.goto (-65), 3) := by decide +kernel
theorem dX8_stepNumber_93 : decode cX8_stepNumber 93 = .ok (.aload_n 0, 1) := by decide +kernel
theorem dX8_stepNumber_94 : decode cX8_stepNumber 94 = .ok (.getfield 72, 3) := by decide +kernel
theorem dX8_stepNumber_97 : decode cX8_stepNumber 97 = .ok (.bipush 99, 2) := by decide +kernel
theorem dX8_stepNumber_99 : decode cX8_stepNumber 99 = .ok (.if_icmp .gt 20, 3) := by decide +kernel
theorem dX8_stepNumber_102 : decode cX8_stepNumber 102 = .ok (.iload_n 1, 1) := by decide +kernel
theorem dX8_stepNumber_103 : decode cX8_stepNumber 103 = .ok (.ifCond .eq 20, 3) := by decide +kernel
theorem dX8_stepNumber_106 : decode cX8_stepNumber 106 = .ok (.aload_n 0, 1) := by decide +kernel
theorem dX8_stepNumber_107 : decode cX8_stepNumber 107 = .ok (.getfield 31, 3) := by decide +kernel
theorem dX8_stepNumber_110 : decode cX8_stepNumber 110 = .ok (.aload_n 0, 1) := by decide +kernel
theorem dX8_stepNumber_111 : decode cX8_stepNumber 111 = .ok (.getfield 48, 3) := by decide +kernel
theorem dX8_stepNumber_114 : decode cX8_stepNumber 114 = .ok (.isub, 1) := by decide +kernel
theorem dX8_stepNumber_115 : decode cX8_stepNumber 115 = .ok (.iconst 1, 1) := by decide +kernel
theorem dX8_stepNumber_116 : decode cX8_stepNumber 116 = .ok (.if_icmp .le 7, 3) := by decide +kernel
theorem dX8_stepNumber_119 : decode cX8_stepNumber 119 = .ok (.iconst 1, 1) := by decide +kernel
theorem dX8_stepNumber_120 : decode cX8_stepNumber 120 = .ok (.goto 4, 3) := by decide +kernel
theorem dX8_stepNumber_123 : decode cX8_stepNumber 123 = .ok (.iconst 0, 1) := by decide +kernel
theorem dX8_stepNumber_124 : decode cX8_stepNumber 124 = .ok (.istore_n 2, 1) := by decide +kernel
theorem dX8_stepNumber_125 : decode cX8_stepNumber 125 = .ok (.aload_n 0, 1) := by decide +kernel
theorem dX8_stepNumber_126 : decode cX8_stepNumber 126 = .ok (.iload_n 2, 1) := by decide +kernel
theorem dX8_stepNumber_127 : decode cX8_stepNumber 127 = .ok (.ifCond .eq 8, 3) := by decide +kernel
theorem dX8_stepNumber_130 : decode cX8_stepNumber 130 = .ok (.bipush (-3), 2) := by decide +kernel
theorem dX8_stepNumber_132 : decode cX8_stepNumber 132 = .ok (.goto 5, 3) := by decide +kernel
theorem dX8_stepNumber_135 : decode cX8_stepNumber 135 = .ok (.bipush (-2), 2) := by decide +kernel
theorem dX8_stepNumber_137 : decode cX8_stepNumber 137 = .ok (.putfield 37, 3) := by decide +kernel
theorem dX8_stepNumber_140 : decode cX8_stepNumber 140 = .ok (.return_, 1) := by decide +kernel
theorem dX8_isDigit_0 : decode cX8_isDigit 0 = .ok (.iload_n 0, 1) := by decide +kernel
theorem dX8_isDigit_1 : decode cX8_isDigit 1 = .ok (.bipush 48, 2) := by decide +kernel
theorem dX8_isDigit_3 : decode cX8_isDigit 3 = .ok (.if_icmp .lt 13, 3) := by decide +kernel
theorem dX8_isDigit_6 : decode cX8_isDigit 6 = .ok (.iload_n 0, 1) := by decide +kernel
theorem dX8_isDigit_7 : decode cX8_isDigit 7 = .ok (.bipush 57, 2) := by decide +kernel
theorem dX8_isDigit_9 : decode cX8_isDigit 9 = .ok (.if_icmp .gt 7, 3) := by decide +kernel
theorem dX8_isDigit_12 : decode cX8_isDigit 12 = .ok (.iconst 1, 1) := by decide +kernel
theorem dX8_isDigit_13 : decode cX8_isDigit 13 = .ok (.goto 4, 3) := by decide +kernel
theorem dX8_isDigit_16 : decode cX8_isDigit 16 = .ok (.iconst 0, 1) := by decide +kernel
theorem dX8_isDigit_17 : decode cX8_isDigit 17 = .ok (.ireturn, 1) := by decide +kernel
theorem dX9_init_0 : decode cX9_init 0 = .ok (.aload_n 0, 1) := by decide +kernel
theorem dX9_init_1 : decode cX9_init 1 = .ok (.invokespecial 1, 3) := by decide +kernel
theorem dX9_init_4 : decode cX9_init 4 = .ok (.aload_n 0, 1) := by decide +kernel
theorem dX9_init_5 : decode cX9_init 5 = .ok (.new 7, 3) := by decide +kernel
theorem dX9_init_8 : decode cX9_init 8 = .ok (.dup, 1) := by decide +kernel
theorem dX9_init_9 : decode cX9_init 9 = .ok (.invokespecial 9, 3) := by decide +kernel
theorem dX9_init_12 : decode cX9_init 12 = .ok (.putfield 10, 3) := by decide +kernel
theorem dX9_init_15 : decode cX9_init 15 = .ok (.aload_n 0, 1) := by decide +kernel
theorem dX9_init_16 : decode cX9_init 16 = .ok (.new 16, 3) := by decide +kernel
theorem dX9_init_19 : decode cX9_init 19 = .ok (.dup, 1) := by decide +kernel
theorem dX9_init_20 : decode cX9_init 20 = .ok (.invokespecial 18, 3) := by decide +kernel
theorem dX9_init_23 : decode cX9_init 23 = .ok (.putfield 19, 3) := by decide +kernel
theorem dX9_init_26 : decode cX9_init 26 = .ok (.aload_n 0, 1) := by decide +kernel
theorem dX9_init_27 : decode cX9_init 27 = .ok (.new 16, 3) := by decide +kernel
theorem dX9_init_30 : decode cX9_init 30 = .ok (.dup, 1) := by decide +kernel
theorem dX9_init_31 : decode cX9_init 31 = .ok (.invokespecial 18, 3) := by decide +kernel
theorem dX9_init_34 : decode cX9_init 34 = .ok (.putfield 23, 3) := by decide +kernel
theorem dX9_init_37 : decode cX9_init 37 = .ok (.aload_n 0, 1) := by decide +kernel
theorem dX9_init_38 : decode cX9_init 38 = .ok (.new 26, 3) := by decide +kernel
theorem dX9_init_41 : decode cX9_init 41 = .ok (.dup, 1) := by decide +kernel
theorem dX9_init_42 : decode cX9_init 42 = .ok (.invokespecial 28, 3) := by decide +kernel
theorem dX9_init_45 : decode cX9_init 45 = .ok (.putfield 29, 3) := by decide +kernel
theorem dX9_init_48 : decode cX9_init 48 = .ok (.aload_n 0, 1) := by decide +kernel
theorem dX9_init_49 : decode cX9_init 49 = .ok (.new 26, 3) := by decide +kernel
theorem dX9_init_52 : decode cX9_init 52 = .ok (.dup, 1) := by decide +kernel
theorem dX9_init_53 : decode cX9_init 53 = .ok (.invokespecial 28, 3) := by decide +kernel
theorem dX9_init_56 : decode cX9_init 56 = .ok (.putfield 33, 3) := by decide +kernel
theorem dX9_init_59 : decode cX9_init 59 = .ok (.aload_n 0, 1) := by decide +kernel
theorem dX9_init_60 : decode cX9_init 60 = .ok (.new 36, 3) := by decide +kernel
theorem dX9_init_63 : decode cX9_init 63 = .ok (.dup, 1) := by decide +kernel
theorem dX9_init_64 : decode cX9_init 64 = .ok (.invokespecial 38, 3) := by decide +kernel
theorem dX9_init_67 : decode cX9_init 67 = .ok (.putfield 39, 3) := by decide +kernel
theorem dX9_init_70 : decode cX9_init 70 = .ok (.aload_n 0, 1) := by decide +kernel
theorem dX9_init_71 : decode cX9_init 71 = .ok (.new 43, 3) := by decide +kernel
theorem dX9_init_74 : decode cX9_init 74 = .ok (.dup, 1) := by decide +kernel
theorem dX9_init_75 : decode cX9_init 75 = .ok (.iconst 2, 1) := by decide +kernel
theorem dX9_init_76 : decode cX9_init 76 = .ok (.invokespecial 45, 3) := by decide +kernel
theorem dX9_init_79 : decode cX9_init 79 = .ok (.putfield 48, 3) := by decide +kernel
theorem dX9_init_82 : decode cX9_init 82 = .ok (.aload_n 0, 1) := by decide +kernel
theorem dX9_init_83 : decode cX9_init 83 = .ok (.iconst 2, 1) := by decide +kernel
theorem dX9_init_84 : decode cX9_init 84 = .ok (.newarray .boolean, 2) := by decide +kernel
theorem dX9_init_86 : decode cX9_init 86 = .ok (.putfield 52, 3) := by decide +kernel
theorem dX9_init_89 : decode cX9_init 89 = .ok (.aload_n 0, 1) := by decide +kernel
theorem dX9_init_90 : decode cX9_init 90 = .ok (.new 56, 3) := by decide +kernel
theorem dX9_init_93 : decode cX9_init 93 = .ok (.dup, 1) := by decide +kernel
theorem dX9_init_94 : decode cX9_init 94 = .ok (.iconst 4, 1) := by decide +kernel
theorem dX9_init_95 : decode cX9_init 95 = .ok (.invokespecial 58, 3) := by decide +kernel
theorem dX9_init_98 : decode cX9_init 98 = .ok (.putfield 59, 3) := by decide +kernel
theorem dX9_init_101 : decode cX9_init 101 = .ok (.aload_n 0, 1) := by decide +kernel
theorem dX9_init_102 : decode cX9_init 102 = .ok (.new 56, 3) := by decide +kernel
theorem dX9_init_105 : decode cX9_init 105 = .ok (.dup, 1) := by decide +kernel
theorem dX9_init_106 : decode cX9_init 106 = .ok (.iconst 4, 1) := by decide +kernel
theorem dX9_init_107 : decode cX9_init 107 = .ok (.invokespecial 58, 3) := by decide +kernel
theorem dX9_init_110 : decode cX9_init 110 = .ok (.putfield 63, 3) := by decide +kernel
theorem dX9_init_113 : decode cX9_init 113 = .ok (.aload_n 0, 1) := by decide +kernel
theorem dX9_init_114 : decode cX9_init 114 = .ok (.new 66, 3) := by decide +kernel
theorem dX9_init_117 : decode cX9_init 117 = .ok (.dup, 1) := by decide +kernel
theorem dX9_init_118 : decode cX9_init 118 = .ok (.aload_n 0, 1) := by decide +kernel
theorem dX9_init_119 : decode cX9_init 119 = .ok (.getfield 19, 3) := by decide +kernel
theorem dX9_init_122 : decode cX9_init 122 = .ok (.invokespecial 68, 3) := by decide +kernel
theorem dX9_init_125 : decode cX9_init 125 = .ok (.putfield 71, 3) := by decide +kernel
theorem dX9_init_128 : decode cX9_init 128 = .ok (.aload_n 0, 1) := by decide +kernel
theorem dX9_init_129 : decode cX9_init 129 = .ok (.new 75, 3) := by decide +kernel
theorem dX9_init_132 : decode cX9_init 132 = .ok (.dup, 1) := by decide +kernel
theorem dX9_init_133 : decode cX9_init 133 = .ok (.aload_n 0, 1) := by decide +kernel
theorem dX9_init_134 : decode cX9_init 134 = .ok (.getfield 19, 3) := by decide +kernel
theorem dX9_init_137 : decode cX9_init 137 = .ok (.aload_n 0, 1) := by decide +kernel
theorem dX9_init_138 : decode cX9_init 138 = .ok (.getfield 71, 3) := by decide +kernel
theorem dX9_init_141 : decode cX9_init 141 = .ok (.invokespecial 77, 3) := by decide +kernel
theorem dX9_init_144 : decode cX9_init 144 = .ok (.putfield 80, 3) := by decide +kernel
theorem dX9_init_147 : decode cX9_init 147 = .ok (.aload_n 0, 1) := by decide +kernel
theorem dX9_init_148 : decode cX9_init 148 = .ok (.new 84, 3) := by decide +kernel
theorem dX9_init_151 : decode cX9_init 151 = .ok (.dup, 1) := by decide +kernel
theorem dX9_init_152 : decode cX9_init 152 = .ok (.aload_n 0, 1) := by decide +kernel
theorem dX9_init_153 : decode cX9_init 153 = .ok (.getfield 19, 3) := by decide +kernel
theorem dX9_init_156 : decode cX9_init 156 = .ok (.aload_n 0, 1) := by decide +kernel
theorem dX9_init_157 : decode cX9_init 157 = .ok (.getfield 71, 3) := by decide +kernel
theorem dX9_init_160 : decode cX9_init 160 = .ok (.aload_n 0, 1) := by decide +kernel
theorem dX9_init_161 : decode cX9_init 161 = .ok (.getfield 80, 3) := by decide +kernel
theorem dX9_init_164 : decode cX9_init 164 = .ok (.invokespecial 86, 3) := by decide +kernel
theorem dX9_init_167 : decode cX9_init 167 = .ok (.putfield 89, 3) := by decide +kernel
theorem dX9_init_170 : decode cX9_init 170 = .ok (.aload_n 0, 1) := by decide +kernel
theorem dX9_init_171 : decode cX9_init 171 = .ok (.bipush 12, 2) := by decide +kernel
theorem dX9_init_173 : decode cX9_init 173 = .ok (.newarray .int, 2) := by decide +kernel
theorem dX9_init_175 : decode cX9_init 175 = .ok (.putfield 93, 3) := by decide +kernel
theorem dX9_init_178 : decode cX9_init 178 = .ok (.return_, 1) := by decide +kernel
theorem dX9_type_0 : decode cX9_type 0 = .ok (.iload_n 1, 1) := by decide +kernel
theorem dX9_type_1 : decode cX9_type 1 = .ok (.iconst 0, 1) := by decide +kernel
theorem dX9_type_2 : decode cX9_type 2 = .ok (.sipush 255, 3) := by decide +kernel
theorem dX9_type_5 : decode cX9_type 5 = .ok (.invokestatic 97, 3) := by decide +kernel
theorem dX9_type_8 : decode cX9_type 8 = .ok (.ifCond .ne 5, 3) := by decide +kernel
theorem dX9_type_11 : decode cX9_type 11 = .ok (.iconst (-1), 1) := by decide +kernel
theorem dX9_type_12 : decode cX9_type 12 = .ok (.ireturn, 1) := by decide +kernel
theorem dX9_type_13 : decode cX9_type 13 = .ok (.aload_n 0, 1) := by decide +kernel
theorem dX9_type_14 : decode cX9_type 14 = .ok (.getfield 10, 3) := by decide +kernel
theorem dX9_type_17 : decode cX9_type 17 = .ok (.invokevirtual 101, 3) := by decide +kernel
theorem dX9_type_20 : decode cX9_type 20 = .ok (.ifCond .eq 6, 3) := by decide +kernel
theorem dX9_type_23 : decode cX9_type 23 = .ok (.bipush (-3), 2) := by decide +kernel
theorem dX9_type_25 : decode cX9_type 25 = .ok (.ireturn, 1) := by decide +kernel
theorem dX9_type_26 : decode cX9_type 26 = .ok (.aload_n 0, 1) := by decide +kernel
theorem dX9_type_27 : decode cX9_type 27 = .ok (.getfield 10, 3) := by decide +kernel
theorem dX9_type_30 : decode cX9_type 30 = .ok (.iload_n 1, 1) := by decide +kernel
theorem dX9_type_31 : decode cX9_type 31 = .ok (.invokevirtual 105, 3) := by decide +kernel
theorem dX9_type_34 : decode cX9_type 34 = .ok (.aload_n 0, 1) := by decide +kernel
theorem dX9_type_35 : decode cX9_type 35 = .ok (.getfield 10, 3) := by decide +kernel
theorem dX9_type_38 : decode cX9_type 38 = .ok (.invokevirtual 108, 3) := by decide +kernel
theorem dX9_type_41 : decode cX9_type 41 = .ok (.ireturn, 1) := by decide +kernel
theorem dX9_clear_0 : decode cX9_clear 0 = .ok (.aload_n 0, 1) := by decide +kernel
theorem dX9_clear_1 : decode cX9_clear 1 = .ok (.getfield 10, 3) := by decide +kernel
theorem dX9_clear_4 : decode cX9_clear 4 = .ok (.invokevirtual 108, 3) := by decide +kernel
theorem dX9_clear_7 : decode cX9_clear 7 = .ok (.istore_n 1, 1) := by decide +kernel
theorem dX9_clear_8 : decode cX9_clear 8 = .ok (.aload_n 0, 1) := by decide +kernel
theorem dX9_clear_9 : decode cX9_clear 9 = .ok (.getfield 10, 3) := by decide +kernel
theorem dX9_clear_12 : decode cX9_clear 12 = .ok (.invokevirtual 112, 3) := by decide +kernel
theorem dX9_clear_15 : decode cX9_clear 15 = .ok (.iload_n 1, 1) := by decide +kernel
theorem dX9_clear_16 : decode cX9_clear 16 = .ok (.ireturn, 1) := by decide +kernel
theorem dX9_house_0 : decode cX9_house 0 = .ok (.aload_n 0, 1) := by decide +kernel
theorem dX9_house_1 : decode cX9_house 1 = .ok (.getfield 10, 3) := by decide +kernel
theorem dX9_house_4 : decode cX9_house 4 = .ok (.aload_n 0, 1) := by decide +kernel
theorem dX9_house_5 : decode cX9_house 5 = .ok (.getfield 23, 3) := by decide +kernel
theorem dX9_house_8 : decode cX9_house 8 = .ok (.invokevirtual 115, 3) := by decide +kernel
theorem dX9_house_11 : decode cX9_house 11 = .ok (.istore_n 1, 1) := by decide +kernel
theorem dX9_house_12 : decode cX9_house 12 = .ok (.iload_n 1, 1) := by decide +kernel
theorem dX9_house_13 : decode cX9_house 13 = .ok (.ifCond .ge 5, 3) := by decide +kernel
theorem dX9_house_16 : decode cX9_house 16 = .ok (.iload_n 1, 1) := by decide +kernel
theorem dX9_house_17 : decode cX9_house 17 = .ok (.ireturn, 1) := by decide +kernel
theorem dX9_house_18 : decode cX9_house 18 = .ok (.aload_n 0, 1) := by decide +kernel
theorem dX9_house_19 : decode cX9_house 19 = .ok (.getfield 19, 3) := by decide +kernel
theorem dX9_house_22 : decode cX9_house 22 = .ok (.aload_n 0, 1) := by decide +kernel
theorem dX9_house_23 : decode cX9_house 23 = .ok (.getfield 23, 3) := by decide +kernel
theorem dX9_house_26 : decode cX9_house 26 = .ok (.invokevirtual 119, 3) := by decide +kernel
theorem dX9_house_29 : decode cX9_house 29 = .ok (.aload_n 0, 1) := by decide +kernel
theorem dX9_house_30 : decode cX9_house 30 = .ok (.getfield 71, 3) := by decide +kernel
theorem dX9_house_33 : decode cX9_house 33 = .ok (.invokevirtual 122, 3) := by decide +kernel
theorem dX9_house_36 : decode cX9_house 36 = .ok (.aload_n 0, 1) := by decide +kernel
theorem dX9_house_37 : decode cX9_house 37 = .ok (.getfield 10, 3) := by decide +kernel
theorem dX9_house_40 : decode cX9_house 40 = .ok (.invokevirtual 112, 3) := by decide +kernel
theorem dX9_house_43 : decode cX9_house 43 = .ok (.aload_n 0, 1) := by decide +kernel
theorem dX9_house_44 : decode cX9_house 44 = .ok (.invokevirtual 125, 3) := by decide +kernel
theorem dX9_house_47 : decode cX9_house 47 = .ok (.iload_n 1, 1) := by decide +kernel
theorem dX9_house_48 : decode cX9_house 48 = .ok (.ireturn, 1) := by decide +kernel
theorem dX9_startAnew_0 : decode cX9_startAnew 0 = .ok (.aload_n 0, 1) := by decide +kernel
theorem dX9_startAnew_1 : decode cX9_startAnew 1 = .ok (.getfield 29, 3) := by decide +kernel
theorem dX9_startAnew_4 : decode cX9_startAnew 4 = .ok (.invokevirtual 128, 3) := by decide +kernel
theorem dX9_startAnew_7 : decode cX9_startAnew 7 = .ok (.aload_n 0, 1) := by decide +kernel
theorem dX9_startAnew_8 : decode cX9_startAnew 8 = .ok (.getfield 39, 3) := by decide +kernel
theorem dX9_startAnew_11 : decode cX9_startAnew 11 = .ok (.invokevirtual 131, 3) := by decide +kernel
theorem dX9_startAnew_14 : decode cX9_startAnew 14 = .ok (.aload_n 0, 1) := by decide +kernel
theorem dX9_startAnew_15 : decode cX9_startAnew 15 = .ok (.getfield 59, 3) := by decide +kernel
theorem dX9_startAnew_18 : decode cX9_startAnew 18 = .ok (.invokevirtual 132, 3) := by decide +kernel
theorem dX9_startAnew_21 : decode cX9_startAnew 21 = .ok (.aload_n 0, 1) := by decide +kernel
theorem dX9_startAnew_22 : decode cX9_startAnew 22 = .ok (.getfield 63, 3) := by decide +kernel
theorem dX9_startAnew_25 : decode cX9_startAnew 25 = .ok (.invokevirtual 132, 3) := by decide +kernel
theorem dX9_startAnew_28 : decode cX9_startAnew 28 = .ok (.iconst 0, 1) := by decide +kernel
theorem dX9_startAnew_29 : decode cX9_startAnew 29 = .ok (.istore_n 1, 1) := by decide +kernel
theorem dX9_startAnew_30 : decode cX9_startAnew 30 = .ok (.iload_n 1, 1) := by decide +kernel
theorem dX9_startAnew_31 : decode cX9_startAnew 31 = .ok (.iconst 2, 1) := by decide +kernel
theorem dX9_startAnew_32 : decode cX9_startAnew 32 = .ok (.if_icmp .ge 16, 3) := by decide +kernel
theorem dX9_startAnew_35 : decode cX9_startAnew 35 = .ok (.aload_n 0, 1) := by decide +kernel
theorem dX9_startAnew_36 : decode cX9_startAnew 36 = .ok (.getfield 52, 3) := by decide +kernel
theorem dX9_startAnew_39 : decode cX9_startAnew 39 = .ok (.iload_n 1, 1) := by decide +kernel
theorem dX9_startAnew_40 : decode cX9_startAnew 40 = .ok (.iconst 0, 1) := by decide +kernel
theorem dX9_startAnew_41 : decode cX9_startAnew 41 = .ok (.bastore, 1) := by decide +kernel
theorem dX9_startAnew_42 : decode cX9_startAnew 42 = .ok (.iinc 1 1, 3) := by decide +kernel
theorem dX9_startAnew_45 : decode cX9_startAnew 45 = .ok (.goto (-15), 3) := by decide +kernel
theorem dX9_startAnew_48 : decode cX9_startAnew 48 = .ok (.return_, 1) := by decide +kernel
theorem dX9_noise_0 : decode cX9_noise 0 = .ok (.aload_n 0, 1) := by decide +kernel
theorem dX9_noise_1 : decode cX9_noise 1 = .ok (.getfield 19, 3) := by decide +kernel
theorem dX9_noise_4 : decode cX9_noise 4 = .ok (.getfield 133, 3) := by decide +kernel
theorem dX9_noise_7 : decode cX9_noise 7 = .ok (.iload_n 1, 1) := by decide +kernel
theorem dX9_noise_8 : decode cX9_noise 8 = .ok (.invokevirtual 136, 3) := by decide +kernel
theorem dX9_noise_11 : decode cX9_noise 11 = .ok (.ifCond .eq 27, 3) := by decide +kernel
theorem dX9_noise_14 : decode cX9_noise 14 = .ok (.iload_n 2, 1) := by decide +kernel
theorem dX9_noise_15 : decode cX9_noise 15 = .ok (.iconst 0, 1) := by decide +kernel
theorem dX9_noise_16 : decode cX9_noise 16 = .ok (.iconst 3, 1) := by decide +kernel
theorem dX9_noise_17 : decode cX9_noise 17 = .ok (.invokestatic 97, 3) := by decide +kernel
theorem dX9_noise_20 : decode cX9_noise 20 = .ok (.ifCond .eq 18, 3) := by decide +kernel
theorem dX9_noise_23 : decode cX9_noise 23 = .ok (.aload_n 0, 1) := by decide +kernel
theorem dX9_noise_24 : decode cX9_noise 24 = .ok (.getfield 19, 3) := by decide +kernel
theorem dX9_noise_27 : decode cX9_noise 27 = .ok (.getfield 133, 3) := by decide +kernel
theorem dX9_noise_30 : decode cX9_noise 30 = .ok (.iload_n 1, 1) := by decide +kernel
theorem dX9_noise_31 : decode cX9_noise 31 = .ok (.iload_n 2, 1) := by decide +kernel
theorem dX9_noise_32 : decode cX9_noise 32 = .ok (.invokevirtual 140, 3) := by decide +kernel
theorem dX9_noise_35 : decode cX9_noise 35 = .ok (.goto 4, 3) := by decide +kernel
theorem dX9_noise_38 : decode cX9_noise 38 = .ok (.iconst (-1), 1) := by decide +kernel
theorem dX9_noise_39 : decode cX9_noise 39 = .ok (.ireturn, 1) := by decide +kernel
theorem dX9_sheet_0 : decode cX9_sheet 0 = .ok (.aload_n 0, 1) := by decide +kernel
theorem dX9_sheet_1 : decode cX9_sheet 1 = .ok (.getfield 19, 3) := by decide +kernel
theorem dX9_sheet_4 : decode cX9_sheet 4 = .ok (.getfield 144, 3) := by decide +kernel
theorem dX9_sheet_7 : decode cX9_sheet 7 = .ok (.iload_n 1, 1) := by decide +kernel
theorem dX9_sheet_8 : decode cX9_sheet 8 = .ok (.invokevirtual 136, 3) := by decide +kernel
theorem dX9_sheet_11 : decode cX9_sheet 11 = .ok (.ifCond .ne 5, 3) := by decide +kernel
theorem dX9_sheet_14 : decode cX9_sheet 14 = .ok (.iconst (-1), 1) := by decide +kernel
theorem dX9_sheet_15 : decode cX9_sheet 15 = .ok (.ireturn, 1) := by decide +kernel
theorem dX9_sheet_16 : decode cX9_sheet 16 = .ok (.iload_n 2, 1) := by decide +kernel
theorem dX9_sheet_17 : decode cX9_sheet 17 = .ok (.tableswitch 87 0 6 #[43, 43, 43, 43, 56, 65, 74], 43) := by decide +kernel
theorem dX9_sheet_60 : decode cX9_sheet 60 = .ok (.aload_n 0, 1) := by decide +kernel
theorem dX9_sheet_61 : decode cX9_sheet 61 = .ok (.getfield 19, 3) := by decide +kernel
theorem dX9_sheet_64 : decode cX9_sheet 64 = .ok (.getfield 144, 3) := by decide +kernel
theorem dX9_sheet_67 : decode cX9_sheet 67 = .ok (.iload_n 1, 1) := by decide +kernel
theorem dX9_sheet_68 : decode cX9_sheet 68 = .ok (.iload_n 2, 1) := by decide +kernel
theorem dX9_sheet_69 : decode cX9_sheet 69 = .ok (.invokevirtual 140, 3) := by decide +kernel
theorem dX9_sheet_72 : decode cX9_sheet 72 = .ok (.ireturn, 1) := by decide +kernel
theorem dX9_sheet_73 : decode cX9_sheet 73 = .ok (.aload_n 0, 1) := by decide +kernel
theorem dX9_sheet_74 : decode cX9_sheet 74 = .ok (.getfield 29, 3) := by decide +kernel
theorem dX9_sheet_77 : decode cX9_sheet 77 = .ok (.iload_n 1, 1) := by decide +kernel
theorem dX9_sheet_78 : decode cX9_sheet 78 = .ok (.invokevirtual 147, 3) := by decide +kernel
theorem dX9_sheet_81 : decode cX9_sheet 81 = .ok (.ireturn, 1) := by decide +kernel
theorem dX9_sheet_82 : decode cX9_sheet 82 = .ok (.aload_n 0, 1) := by decide +kernel
theorem dX9_sheet_83 : decode cX9_sheet 83 = .ok (.getfield 29, 3) := by decide +kernel
theorem dX9_sheet_86 : decode cX9_sheet 86 = .ok (.iload_n 1, 1) := by decide +kernel
theorem dX9_sheet_87 : decode cX9_sheet 87 = .ok (.invokevirtual 151, 3) := by decide +kernel
theorem dX9_sheet_90 : decode cX9_sheet 90 = .ok (.ireturn, 1) := by decide +kernel
theorem dX9_sheet_91 : decode cX9_sheet 91 = .ok (.aload_n 0, 1) := by decide +kernel
theorem dX9_sheet_92 : decode cX9_sheet 92 = .ok (.getfield 19, 3) := by decide +kernel
theorem dX9_sheet_95 : decode cX9_sheet 95 = .ok (.iload_n 1, 1) := by decide +kernel
theorem dX9_sheet_96 : decode cX9_sheet 96 = .ok (.aload_n 0, 1) := by decide +kernel
theorem dX9_sheet_97 : decode cX9_sheet 97 = .ok (.getfield 29, 3) := by decide +kernel
theorem dX9_sheet_100 : decode cX9_sheet 100 = .ok (.invokevirtual 154, 3) := by decide +kernel
theorem dX9_sheet_103 : decode cX9_sheet 103 = .ok (.ireturn, 1) := by decide +kernel
theorem dX9_sheet_104 : decode cX9_sheet 104 = .ok (.iconst (-1), 1) := by decide +kernel
theorem dX9_sheet_105 : decode cX9_sheet 105 = .ok (.ireturn, 1) := by decide +kernel
theorem dX9_room_0 : decode cX9_room 0 = .ok (.aload_n 0, 1) := by decide +kernel
theorem dX9_room_1 : decode cX9_room 1 = .ok (.getfield 19, 3) := by decide +kernel
theorem dX9_room_4 : decode cX9_room 4 = .ok (.getfield 158, 3) := by decide +kernel
theorem dX9_room_7 : decode cX9_room 7 = .ok (.iload_n 1, 1) := by decide +kernel
theorem dX9_room_8 : decode cX9_room 8 = .ok (.invokevirtual 136, 3) := by decide +kernel
theorem dX9_room_11 : decode cX9_room 11 = .ok (.ifCond .eq 27, 3) := by decide +kernel
theorem dX9_room_14 : decode cX9_room 14 = .ok (.iload_n 2, 1) := by decide +kernel
theorem dX9_room_15 : decode cX9_room 15 = .ok (.iconst 0, 1) := by decide +kernel
theorem dX9_room_16 : decode cX9_room 16 = .ok (.iconst 3, 1) := by decide +kernel
theorem dX9_room_17 : decode cX9_room 17 = .ok (.invokestatic 97, 3) := by decide +kernel
theorem dX9_room_20 : decode cX9_room 20 = .ok (.ifCond .eq 18, 3) := by decide +kernel
theorem dX9_room_23 : decode cX9_room 23 = .ok (.aload_n 0, 1) := by decide +kernel
theorem dX9_room_24 : decode cX9_room 24 = .ok (.getfield 19, 3) := by decide +kernel
theorem dX9_room_27 : decode cX9_room 27 = .ok (.getfield 158, 3) := by decide +kernel
theorem dX9_room_30 : decode cX9_room 30 = .ok (.iload_n 1, 1) := by decide +kernel
theorem dX9_room_31 : decode cX9_room 31 = .ok (.iload_n 2, 1) := by decide +kernel
theorem dX9_room_32 : decode cX9_room 32 = .ok (.invokevirtual 140, 3) := by decide +kernel
theorem dX9_room_35 : decode cX9_room 35 = .ok (.goto 4, 3) := by decide +kernel
theorem dX9_room_38 : decode cX9_room 38 = .ok (.iconst (-1), 1) := by decide +kernel
theorem dX9_room_39 : decode cX9_room 39 = .ok (.ireturn, 1) := by decide +kernel
theorem dX9_onCell_0 : decode cX9_onCell 0 = .ok (.aload_n 0, 1) := by decide +kernel
theorem dX9_onCell_1 : decode cX9_onCell 1 = .ok (.getfield 19, 3) := by decide +kernel
theorem dX9_onCell_4 : decode cX9_onCell 4 = .ok (.iload_n 1, 1) := by decide +kernel
theorem dX9_onCell_5 : decode cX9_onCell 5 = .ok (.invokevirtual 161, 3) := by decide +kernel
theorem dX9_onCell_8 : decode cX9_onCell 8 = .ok (.ifCond .ne 5, 3) := by decide +kernel
theorem dX9_onCell_11 : decode cX9_onCell 11 = .ok (.iconst (-1), 1) := by decide +kernel
theorem dX9_onCell_12 : decode cX9_onCell 12 = .ok (.ireturn, 1) := by decide +kernel
theorem dX9_onCell_13 : decode cX9_onCell 13 = .ok (.aload_n 0, 1) := by decide +kernel
theorem dX9_onCell_14 : decode cX9_onCell 14 = .ok (.getfield 71, 3) := by decide +kernel
theorem dX9_onCell_17 : decode cX9_onCell 17 = .ok (.aload_n 0, 1) := by decide +kernel
theorem dX9_onCell_18 : decode cX9_onCell 18 = .ok (.getfield 29, 3) := by decide +kernel
theorem dX9_onCell_21 : decode cX9_onCell 21 = .ok (.invokevirtual 164, 3) := by decide +kernel
theorem dX9_onCell_24 : decode cX9_onCell 24 = .ok (.aload_n 0, 1) := by decide +kernel
theorem dX9_onCell_25 : decode cX9_onCell 25 = .ok (.getfield 71, 3) := by decide +kernel
theorem dX9_onCell_28 : decode cX9_onCell 28 = .ok (.iload_n 1, 1) := by decide +kernel
theorem dX9_onCell_29 : decode cX9_onCell 29 = .ok (.invokevirtual 168, 3) := by decide +kernel
theorem dX9_onCell_32 : decode cX9_onCell 32 = .ok (.ireturn, 1) := by decide +kernel
theorem dX9_loud_0 : decode cX9_loud 0 = .ok (.aload_n 0, 1) := by decide +kernel
theorem dX9_loud_1 : decode cX9_loud 1 = .ok (.getfield 19, 3) := by decide +kernel
theorem dX9_loud_4 : decode cX9_loud 4 = .ok (.iload_n 1, 1) := by decide +kernel
theorem dX9_loud_5 : decode cX9_loud 5 = .ok (.invokevirtual 161, 3) := by decide +kernel
theorem dX9_loud_8 : decode cX9_loud 8 = .ok (.ifCond .eq 13, 3) := by decide +kernel
theorem dX9_loud_11 : decode cX9_loud 11 = .ok (.iload_n 2, 1) := by decide +kernel
theorem dX9_loud_12 : decode cX9_loud 12 = .ok (.iconst 0, 1) := by decide +kernel
theorem dX9_loud_13 : decode cX9_loud 13 = .ok (.bipush 23, 2) := by decide +kernel
theorem dX9_loud_15 : decode cX9_loud 15 = .ok (.invokestatic 97, 3) := by decide +kernel
theorem dX9_loud_18 : decode cX9_loud 18 = .ok (.ifCond .ne 5, 3) := by decide +kernel
theorem dX9_loud_21 : decode cX9_loud 21 = .ok (.iconst (-1), 1) := by decide +kernel
theorem dX9_loud_22 : decode cX9_loud 22 = .ok (.ireturn, 1) := by decide +kernel
theorem dX9_loud_23 : decode cX9_loud 23 = .ok (.aload_n 0, 1) := by decide +kernel
theorem dX9_loud_24 : decode cX9_loud 24 = .ok (.getfield 71, 3) := by decide +kernel
theorem dX9_loud_27 : decode cX9_loud 27 = .ok (.aload_n 0, 1) := by decide +kernel
theorem dX9_loud_28 : decode cX9_loud 28 = .ok (.getfield 29, 3) := by decide +kernel
theorem dX9_loud_31 : decode cX9_loud 31 = .ok (.invokevirtual 164, 3) := by decide +kernel
theorem dX9_loud_34 : decode cX9_loud 34 = .ok (.aload_n 0, 1) := by decide +kernel
theorem dX9_loud_35 : decode cX9_loud 35 = .ok (.getfield 80, 3) := by decide +kernel
theorem dX9_loud_38 : decode cX9_loud 38 = .ok (.iload_n 1, 1) := by decide +kernel
theorem dX9_loud_39 : decode cX9_loud 39 = .ok (.iload_n 2, 1) := by decide +kernel
theorem dX9_loud_40 : decode cX9_loud 40 = .ok (.iload_n 2, 1) := by decide +kernel
theorem dX9_loud_41 : decode cX9_loud 41 = .ok (.invokevirtual 171, 3) := by decide +kernel
theorem dX9_loud_44 : decode cX9_loud 44 = .ok (.ireturn, 1) := by decide +kernel
theorem dX9_now_0 : decode cX9_now 0 = .ok (.iload_n 1, 1) := by decide +kernel
theorem dX9_now_1 : decode cX9_now 1 = .ok (.tableswitch 63 0 3 #[31, 39, 47, 55], 31) := by decide +kernel
theorem dX9_now_32 : decode cX9_now 32 = .ok (.aload_n 0, 1) := by decide +kernel
theorem dX9_now_33 : decode cX9_now 33 = .ok (.getfield 29, 3) := by decide +kernel
theorem dX9_now_36 : decode cX9_now 36 = .ok (.getfield 175, 3) := by decide +kernel
theorem dX9_now_39 : decode cX9_now 39 = .ok (.ireturn, 1) := by decide +kernel
theorem dX9_now_40 : decode cX9_now 40 = .ok (.aload_n 0, 1) := by decide +kernel
theorem dX9_now_41 : decode cX9_now 41 = .ok (.getfield 29, 3) := by decide +kernel
theorem dX9_now_44 : decode cX9_now 44 = .ok (.getfield 179, 3) := by decide +kernel
theorem dX9_now_47 : decode cX9_now 47 = .ok (.ireturn, 1) := by decide +kernel
theorem dX9_now_48 : decode cX9_now 48 = .ok (.aload_n 0, 1) := by decide +kernel
theorem dX9_now_49 : decode cX9_now 49 = .ok (.getfield 29, 3) := by decide +kernel
theorem dX9_now_52 : decode cX9_now 52 = .ok (.invokevirtual 182, 3) := by decide +kernel
theorem dX9_now_55 : decode cX9_now 55 = .ok (.ireturn, 1) := by decide +kernel
theorem dX9_now_56 : decode cX9_now 56 = .ok (.aload_n 0, 1) := by decide +kernel
theorem dX9_now_57 : decode cX9_now 57 = .ok (.getfield 39, 3) := by decide +kernel
theorem dX9_now_60 : decode cX9_now 60 = .ok (.invokevirtual 185, 3) := by decide +kernel
theorem dX9_now_63 : decode cX9_now 63 = .ok (.ireturn, 1) := by decide +kernel
theorem dX9_now_64 : decode cX9_now 64 = .ok (.iconst (-1), 1) := by decide +kernel
theorem dX9_now_65 : decode cX9_now 65 = .ok (.ireturn, 1) := by decide +kernel
theorem dX9_lay_0 : decode cX9_lay 0 = .ok (.aload_n 0, 1) := by decide +kernel
theorem dX9_lay_1 : decode cX9_lay 1 = .ok (.getfield 19, 3) := by decide +kernel
theorem dX9_lay_4 : decode cX9_lay 4 = .ok (.getfield 144, 3) := by decide +kernel
theorem dX9_lay_7 : decode cX9_lay 7 = .ok (.iload_n 1, 1) := by decide +kernel
theorem dX9_lay_8 : decode cX9_lay 8 = .ok (.invokevirtual 136, 3) := by decide +kernel
theorem dX9_lay_11 : decode cX9_lay 11 = .ok (.ifCond .eq 14, 3) := by decide +kernel
theorem dX9_lay_14 : decode cX9_lay 14 = .ok (.aload_n 0, 1) := by decide +kernel
theorem dX9_lay_15 : decode cX9_lay 15 = .ok (.getfield 19, 3) := by decide +kernel
theorem dX9_lay_18 : decode cX9_lay 18 = .ok (.iload_n 2, 1) := by decide +kernel
theorem dX9_lay_19 : decode cX9_lay 19 = .ok (.invokevirtual 161, 3) := by decide +kernel
theorem dX9_lay_22 : decode cX9_lay 22 = .ok (.ifCond .ne 5, 3) := by decide +kernel
theorem dX9_lay_25 : decode cX9_lay 25 = .ok (.iconst (-1), 1) := by decide +kernel
theorem dX9_lay_26 : decode cX9_lay 26 = .ok (.ireturn, 1) := by decide +kernel
theorem dX9_lay_27 : decode cX9_lay 27 = .ok (.aload_n 0, 1) := by decide +kernel
theorem dX9_lay_28 : decode cX9_lay 28 = .ok (.getfield 71, 3) := by decide +kernel
theorem dX9_lay_31 : decode cX9_lay 31 = .ok (.aload_n 0, 1) := by decide +kernel
theorem dX9_lay_32 : decode cX9_lay 32 = .ok (.getfield 29, 3) := by decide +kernel
theorem dX9_lay_35 : decode cX9_lay 35 = .ok (.invokevirtual 164, 3) := by decide +kernel
theorem dX9_lay_38 : decode cX9_lay 38 = .ok (.aload_n 0, 1) := by decide +kernel
theorem dX9_lay_39 : decode cX9_lay 39 = .ok (.getfield 29, 3) := by decide +kernel
theorem dX9_lay_42 : decode cX9_lay 42 = .ok (.iload_n 1, 1) := by decide +kernel
theorem dX9_lay_43 : decode cX9_lay 43 = .ok (.invokevirtual 186, 3) := by decide +kernel
theorem dX9_lay_46 : decode cX9_lay 46 = .ok (.ifCond .ne 15, 3) := by decide +kernel
theorem dX9_lay_49 : decode cX9_lay 49 = .ok (.aload_n 0, 1) := by decide +kernel
theorem dX9_lay_50 : decode cX9_lay 50 = .ok (.getfield 71, 3) := by decide +kernel
theorem dX9_lay_53 : decode cX9_lay 53 = .ok (.iload_n 1, 1) := by decide +kernel
theorem dX9_lay_54 : decode cX9_lay 54 = .ok (.iload_n 2, 1) := by decide +kernel
theorem dX9_lay_55 : decode cX9_lay 55 = .ok (.invokevirtual 189, 3) := by decide +kernel
theorem dX9_lay_58 : decode cX9_lay 58 = .ok (.ifCond .ne 6, 3) := by decide +kernel
theorem dX9_lay_61 : decode cX9_lay 61 = .ok (.bipush (-2), 2) := by decide +kernel
theorem dX9_lay_63 : decode cX9_lay 63 = .ok (.ireturn, 1) := by decide +kernel
theorem dX9_lay_64 : decode cX9_lay 64 = .ok (.aload_n 0, 1) := by decide +kernel
theorem dX9_lay_65 : decode cX9_lay 65 = .ok (.getfield 39, 3) := by decide +kernel
theorem dX9_lay_68 : decode cX9_lay 68 = .ok (.aload_n 0, 1) := by decide +kernel
theorem dX9_lay_69 : decode cX9_lay 69 = .ok (.getfield 29, 3) := by decide +kernel
theorem dX9_lay_72 : decode cX9_lay 72 = .ok (.invokevirtual 193, 3) := by decide +kernel
theorem dX9_lay_75 : decode cX9_lay 75 = .ok (.aload_n 0, 1) := by decide +kernel
theorem dX9_lay_76 : decode cX9_lay 76 = .ok (.getfield 29, 3) := by decide +kernel
theorem dX9_lay_79 : decode cX9_lay 79 = .ok (.iload_n 1, 1) := by decide +kernel
theorem dX9_lay_80 : decode cX9_lay 80 = .ok (.iload_n 2, 1) := by decide +kernel
theorem dX9_lay_81 : decode cX9_lay 81 = .ok (.invokevirtual 196, 3) := by decide +kernel
theorem dX9_lay_84 : decode cX9_lay 84 = .ok (.aload_n 0, 1) := by decide +kernel
theorem dX9_lay_85 : decode cX9_lay 85 = .ok (.getfield 29, 3) := by decide +kernel
theorem dX9_lay_88 : decode cX9_lay 88 = .ok (.invokevirtual 182, 3) := by decide +kernel
theorem dX9_lay_91 : decode cX9_lay 91 = .ok (.invokestatic 200, 3) := by decide +kernel
theorem dX9_lay_94 : decode cX9_lay 94 = .ok (.ireturn, 1) := by decide +kernel
theorem dX9_lift_0 : decode cX9_lift 0 = .ok (.aload_n 0, 1) := by decide +kernel
theorem dX9_lift_1 : decode cX9_lift 1 = .ok (.getfield 19, 3) := by decide +kernel
theorem dX9_lift_4 : decode cX9_lift 4 = .ok (.getfield 144, 3) := by decide +kernel
theorem dX9_lift_7 : decode cX9_lift 7 = .ok (.iload_n 1, 1) := by decide +kernel
theorem dX9_lift_8 : decode cX9_lift 8 = .ok (.invokevirtual 136, 3) := by decide +kernel
theorem dX9_lift_11 : decode cX9_lift 11 = .ok (.ifCond .ne 5, 3) := by decide +kernel
theorem dX9_lift_14 : decode cX9_lift 14 = .ok (.iconst (-1), 1) := by decide +kernel
theorem dX9_lift_15 : decode cX9_lift 15 = .ok (.ireturn, 1) := by decide +kernel
theorem dX9_lift_16 : decode cX9_lift 16 = .ok (.aload_n 0, 1) := by decide +kernel
theorem dX9_lift_17 : decode cX9_lift 17 = .ok (.getfield 29, 3) := by decide +kernel
theorem dX9_lift_20 : decode cX9_lift 20 = .ok (.iload_n 1, 1) := by decide +kernel
theorem dX9_lift_21 : decode cX9_lift 21 = .ok (.invokevirtual 186, 3) := by decide +kernel
theorem dX9_lift_24 : decode cX9_lift 24 = .ok (.ifCond .ne 6, 3) := by decide +kernel
theorem dX9_lift_27 : decode cX9_lift 27 = .ok (.bipush (-2), 2) := by decide +kernel
theorem dX9_lift_29 : decode cX9_lift 29 = .ok (.ireturn, 1) := by decide +kernel
theorem dX9_lift_30 : decode cX9_lift 30 = .ok (.aload_n 0, 1) := by decide +kernel
theorem dX9_lift_31 : decode cX9_lift 31 = .ok (.getfield 29, 3) := by decide +kernel
theorem dX9_lift_34 : decode cX9_lift 34 = .ok (.iload_n 1, 1) := by decide +kernel
theorem dX9_lift_35 : decode cX9_lift 35 = .ok (.invokevirtual 147, 3) := by decide +kernel
theorem dX9_lift_38 : decode cX9_lift 38 = .ok (.istore_n 2, 1) := by decide +kernel
theorem dX9_lift_39 : decode cX9_lift 39 = .ok (.aload_n 0, 1) := by decide +kernel
theorem dX9_lift_40 : decode cX9_lift 40 = .ok (.getfield 39, 3) := by decide +kernel
theorem dX9_lift_43 : decode cX9_lift 43 = .ok (.aload_n 0, 1) := by decide +kernel
theorem dX9_lift_44 : decode cX9_lift 44 = .ok (.getfield 29, 3) := by decide +kernel
theorem dX9_lift_47 : decode cX9_lift 47 = .ok (.invokevirtual 193, 3) := by decide +kernel
theorem dX9_lift_50 : decode cX9_lift 50 = .ok (.aload_n 0, 1) := by decide +kernel
theorem dX9_lift_51 : decode cX9_lift 51 = .ok (.getfield 29, 3) := by decide +kernel
theorem dX9_lift_54 : decode cX9_lift 54 = .ok (.iload_n 1, 1) := by decide +kernel
theorem dX9_lift_55 : decode cX9_lift 55 = .ok (.bipush (-9), 2) := by decide +kernel
theorem dX9_lift_57 : decode cX9_lift 57 = .ok (.invokevirtual 196, 3) := by decide +kernel
theorem dX9_lift_60 : decode cX9_lift 60 = .ok (.iload_n 2, 1) := by decide +kernel
theorem dX9_lift_61 : decode cX9_lift 61 = .ok (.ireturn, 1) := by decide +kernel
theorem dX9_turn_0 : decode cX9_turn 0 = .ok (.aload_n 0, 1) := by decide +kernel
theorem dX9_turn_1 : decode cX9_turn 1 = .ok (.getfield 19, 3) := by decide +kernel
theorem dX9_turn_4 : decode cX9_turn 4 = .ok (.getfield 144, 3) := by decide +kernel
theorem dX9_turn_7 : decode cX9_turn 7 = .ok (.iload_n 1, 1) := by decide +kernel
theorem dX9_turn_8 : decode cX9_turn 8 = .ok (.invokevirtual 136, 3) := by decide +kernel
theorem dX9_turn_11 : decode cX9_turn 11 = .ok (.ifCond .ne 5, 3) := by decide +kernel
theorem dX9_turn_14 : decode cX9_turn 14 = .ok (.iconst (-1), 1) := by decide +kernel
theorem dX9_turn_15 : decode cX9_turn 15 = .ok (.ireturn, 1) := by decide +kernel
theorem dX9_turn_16 : decode cX9_turn 16 = .ok (.aload_n 0, 1) := by decide +kernel
theorem dX9_turn_17 : decode cX9_turn 17 = .ok (.getfield 39, 3) := by decide +kernel
theorem dX9_turn_20 : decode cX9_turn 20 = .ok (.aload_n 0, 1) := by decide +kernel
theorem dX9_turn_21 : decode cX9_turn 21 = .ok (.getfield 29, 3) := by decide +kernel
theorem dX9_turn_24 : decode cX9_turn 24 = .ok (.invokevirtual 193, 3) := by decide +kernel
theorem dX9_turn_27 : decode cX9_turn 27 = .ok (.aload_n 0, 1) := by decide +kernel
theorem dX9_turn_28 : decode cX9_turn 28 = .ok (.getfield 29, 3) := by decide +kernel
theorem dX9_turn_31 : decode cX9_turn 31 = .ok (.iload_n 1, 1) := by decide +kernel
theorem dX9_turn_32 : decode cX9_turn 32 = .ok (.aload_n 0, 1) := by decide +kernel
theorem dX9_turn_33 : decode cX9_turn 33 = .ok (.getfield 29, 3) := by decide +kernel
theorem dX9_turn_36 : decode cX9_turn 36 = .ok (.iload_n 1, 1) := by decide +kernel
theorem dX9_turn_37 : decode cX9_turn 37 = .ok (.invokevirtual 151, 3) := by decide +kernel
theorem dX9_turn_40 : decode cX9_turn 40 = .ok (.iconst 2, 1) := by decide +kernel
theorem dX9_turn_41 : decode cX9_turn 41 = .ok (.idiv, 1) := by decide +kernel
theorem dX9_turn_42 : decode cX9_turn 42 = .ok (.invokevirtual 205, 3) := by decide +kernel
theorem dX9_turn_45 : decode cX9_turn 45 = .ok (.aload_n 0, 1) := by decide +kernel
theorem dX9_turn_46 : decode cX9_turn 46 = .ok (.getfield 29, 3) := by decide +kernel
theorem dX9_turn_49 : decode cX9_turn 49 = .ok (.iload_n 1, 1) := by decide +kernel
theorem dX9_turn_50 : decode cX9_turn 50 = .ok (.invokevirtual 151, 3) := by decide +kernel
theorem dX9_turn_53 : decode cX9_turn 53 = .ok (.ireturn, 1) := by decide +kernel
theorem dX9_hour_0 : decode cX9_hour 0 = .ok (.aload_n 0, 1) := by decide +kernel
theorem dX9_hour_1 : decode cX9_hour 1 = .ok (.getfield 29, 3) := by decide +kernel
theorem dX9_hour_4 : decode cX9_hour 4 = .ok (.getfield 175, 3) := by decide +kernel
theorem dX9_hour_7 : decode cX9_hour 7 = .ok (.bipush 99, 2) := by decide +kernel
theorem dX9_hour_9 : decode cX9_hour 9 = .ok (.if_icmp .lt 6, 3) := by decide +kernel
theorem dX9_hour_12 : decode cX9_hour 12 = .ok (.bipush (-2), 2) := by decide +kernel
theorem dX9_hour_14 : decode cX9_hour 14 = .ok (.ireturn, 1) := by decide +kernel
theorem dX9_hour_15 : decode cX9_hour 15 = .ok (.aload_n 0, 1) := by decide +kernel
theorem dX9_hour_16 : decode cX9_hour 16 = .ok (.getfield 39, 3) := by decide +kernel
theorem dX9_hour_19 : decode cX9_hour 19 = .ok (.aload_n 0, 1) := by decide +kernel
theorem dX9_hour_20 : decode cX9_hour 20 = .ok (.getfield 29, 3) := by decide +kernel
theorem dX9_hour_23 : decode cX9_hour 23 = .ok (.invokevirtual 193, 3) := by decide +kernel
theorem dX9_hour_26 : decode cX9_hour 26 = .ok (.aload_n 0, 1) := by decide +kernel
theorem dX9_hour_27 : decode cX9_hour 27 = .ok (.getfield 71, 3) := by decide +kernel
theorem dX9_hour_30 : decode cX9_hour 30 = .ok (.aload_n 0, 1) := by decide +kernel
theorem dX9_hour_31 : decode cX9_hour 31 = .ok (.getfield 29, 3) := by decide +kernel
theorem dX9_hour_34 : decode cX9_hour 34 = .ok (.invokevirtual 164, 3) := by decide +kernel
theorem dX9_hour_37 : decode cX9_hour 37 = .ok (.aload_n 0, 1) := by decide +kernel
theorem dX9_hour_38 : decode cX9_hour 38 = .ok (.aload_n 0, 1) := by decide +kernel
theorem dX9_hour_39 : decode cX9_hour 39 = .ok (.getfield 29, 3) := by decide +kernel
theorem dX9_hour_42 : decode cX9_hour 42 = .ok (.invokevirtual 208, 3) := by decide +kernel
theorem dX9_hour_45 : decode cX9_hour 45 = .ok (.aload_n 0, 1) := by decide +kernel
theorem dX9_hour_46 : decode cX9_hour 46 = .ok (.getfield 29, 3) := by decide +kernel
theorem dX9_hour_49 : decode cX9_hour 49 = .ok (.getfield 179, 3) := by decide +kernel
theorem dX9_hour_52 : decode cX9_hour 52 = .ok (.ireturn, 1) := by decide +kernel
theorem dX9_undo_0 : decode cX9_undo 0 = .ok (.aload_n 0, 1) := by decide +kernel
theorem dX9_undo_1 : decode cX9_undo 1 = .ok (.getfield 39, 3) := by decide +kernel
theorem dX9_undo_4 : decode cX9_undo 4 = .ok (.invokevirtual 185, 3) := by decide +kernel
theorem dX9_undo_7 : decode cX9_undo 7 = .ok (.ifCond .ne 6, 3) := by decide +kernel
theorem dX9_undo_10 : decode cX9_undo 10 = .ok (.bipush (-2), 2) := by decide +kernel
theorem dX9_undo_12 : decode cX9_undo 12 = .ok (.ireturn, 1) := by decide +kernel
theorem dX9_undo_13 : decode cX9_undo 13 = .ok (.aload_n 0, 1) := by decide +kernel
theorem dX9_undo_14 : decode cX9_undo 14 = .ok (.getfield 39, 3) := by decide +kernel
theorem dX9_undo_17 : decode cX9_undo 17 = .ok (.aload_n 0, 1) := by decide +kernel
theorem dX9_undo_18 : decode cX9_undo 18 = .ok (.getfield 29, 3) := by decide +kernel
theorem dX9_undo_21 : decode cX9_undo 21 = .ok (.invokevirtual 211, 3) := by decide +kernel
theorem dX9_undo_24 : decode cX9_undo 24 = .ok (.aload_n 0, 1) := by decide +kernel
theorem dX9_undo_25 : decode cX9_undo 25 = .ok (.getfield 39, 3) := by decide +kernel
theorem dX9_undo_28 : decode cX9_undo 28 = .ok (.invokevirtual 185, 3) := by decide +kernel
theorem dX9_undo_31 : decode cX9_undo 31 = .ok (.ireturn, 1) := by decide +kernel
theorem dX9_passHour_0 : decode cX9_passHour 0 = .ok (.iconst 0, 1) := by decide +kernel
theorem dX9_passHour_1 : decode cX9_passHour 1 = .ok (.istore_n 2, 1) := by decide +kernel
theorem dX9_passHour_2 : decode cX9_passHour 2 = .ok (.iload_n 2, 1) := by decide +kernel
theorem dX9_passHour_3 : decode cX9_passHour 3 = .ok (.aload_n 0, 1) := by decide +kernel
theorem dX9_passHour_4 : decode cX9_passHour 4 = .ok (.getfield 19, 3) := by decide +kernel
theorem dX9_passHour_7 : decode cX9_passHour 7 = .ok (.getfield 144, 3) := by decide +kernel
theorem dX9_passHour_10 : decode cX9_passHour 10 = .ok (.invokevirtual 214, 3) := by decide +kernel
theorem dX9_passHour_13 : decode cX9_passHour 13 = .ok (.if_icmp .ge 43, 3) := by decide +kernel
theorem dX9_passHour_16 : decode cX9_passHour 16 = .ok (.aload_n 1, 1) := by decide +kernel
theorem dX9_passHour_17 : decode cX9_passHour 17 = .ok (.iload_n 2, 1) := by decide +kernel
theorem dX9_passHour_18 : decode cX9_passHour 18 = .ok (.invokevirtual 186, 3) := by decide +kernel
theorem dX9_passHour_21 : decode cX9_passHour 21 = .ok (.ifCond .eq 29, 3) := by decide +kernel
theorem dX9_passHour_24 : decode cX9_passHour 24 = .ok (.aload_n 1, 1) := by decide +kernel
theorem dX9_passHour_25 : decode cX9_passHour 25 = .ok (.iload_n 2, 1) := by decide +kernel
theorem dX9_passHour_26 : decode cX9_passHour 26 = .ok (.aload_n 1, 1) := by decide +kernel
theorem dX9_passHour_27 : decode cX9_passHour 27 = .ok (.iload_n 2, 1) := by decide +kernel
theorem dX9_passHour_28 : decode cX9_passHour 28 = .ok (.invokevirtual 151, 3) := by decide +kernel
theorem dX9_passHour_31 : decode cX9_passHour 31 = .ok (.aload_n 0, 1) := by decide +kernel
theorem dX9_passHour_32 : decode cX9_passHour 32 = .ok (.getfield 80, 3) := by decide +kernel
theorem dX9_passHour_35 : decode cX9_passHour 35 = .ok (.iload_n 2, 1) := by decide +kernel
theorem dX9_passHour_36 : decode cX9_passHour 36 = .ok (.aload_n 1, 1) := by decide +kernel
theorem dX9_passHour_37 : decode cX9_passHour 37 = .ok (.getfield 179, 3) := by decide +kernel
theorem dX9_passHour_40 : decode cX9_passHour 40 = .ok (.invokevirtual 215, 3) := by decide +kernel
theorem dX9_passHour_43 : decode cX9_passHour 43 = .ok (.bipush 10, 2) := by decide +kernel
theorem dX9_passHour_45 : decode cX9_passHour 45 = .ok (.idiv, 1) := by decide +kernel
theorem dX9_passHour_46 : decode cX9_passHour 46 = .ok (.iadd, 1) := by decide +kernel
theorem dX9_passHour_47 : decode cX9_passHour 47 = .ok (.invokevirtual 205, 3) := by decide +kernel
theorem dX9_passHour_50 : decode cX9_passHour 50 = .ok (.iinc 2 1, 3) := by decide +kernel
theorem dX9_passHour_53 : decode cX9_passHour 53 = .ok (.goto (-51), 3) := by decide +kernel
theorem dX9_passHour_56 : decode cX9_passHour 56 = .ok (.iconst 0, 1) := by decide +kernel
theorem dX9_passHour_57 : decode cX9_passHour 57 = .ok (.istore_n 2, 1) := by decide +kernel
theorem dX9_passHour_58 : decode cX9_passHour 58 = .ok (.iload_n 2, 1) := by decide +kernel
theorem dX9_passHour_59 : decode cX9_passHour 59 = .ok (.aload_n 0, 1) := by decide +kernel
theorem dX9_passHour_60 : decode cX9_passHour 60 = .ok (.getfield 19, 3) := by decide +kernel
theorem dX9_passHour_63 : decode cX9_passHour 63 = .ok (.getfield 144, 3) := by decide +kernel
theorem dX9_passHour_66 : decode cX9_passHour 66 = .ok (.invokevirtual 214, 3) := by decide +kernel
theorem dX9_passHour_69 : decode cX9_passHour 69 = .ok (.if_icmp .ge 26, 3) := by decide +kernel
theorem dX9_passHour_72 : decode cX9_passHour 72 = .ok (.aload_n 0, 1) := by decide +kernel
theorem dX9_passHour_73 : decode cX9_passHour 73 = .ok (.getfield 71, 3) := by decide +kernel
theorem dX9_passHour_76 : decode cX9_passHour 76 = .ok (.iload_n 2, 1) := by decide +kernel
theorem dX9_passHour_77 : decode cX9_passHour 77 = .ok (.aload_n 0, 1) := by decide +kernel
theorem dX9_passHour_78 : decode cX9_passHour 78 = .ok (.getfield 19, 3) := by decide +kernel
theorem dX9_passHour_81 : decode cX9_passHour 81 = .ok (.iload_n 2, 1) := by decide +kernel
theorem dX9_passHour_82 : decode cX9_passHour 82 = .ok (.aload_n 1, 1) := by decide +kernel
theorem dX9_passHour_83 : decode cX9_passHour 83 = .ok (.invokevirtual 154, 3) := by decide +kernel
theorem dX9_passHour_86 : decode cX9_passHour 86 = .ok (.invokevirtual 218, 3) := by decide +kernel
theorem dX9_passHour_89 : decode cX9_passHour 89 = .ok (.iinc 2 1, 3) := by decide +kernel
theorem dX9_passHour_92 : decode cX9_passHour 92 = .ok (.goto (-34), 3) := by decide +kernel
theorem dX9_passHour_95 : decode cX9_passHour 95 = .ok (.aload_n 1, 1) := by decide +kernel
theorem dX9_passHour_96 : decode cX9_passHour 96 = .ok (.invokevirtual 221, 3) := by decide +kernel
theorem dX9_passHour_99 : decode cX9_passHour 99 = .ok (.return_, 1) := by decide +kernel
theorem dX9_waked_0 : decode cX9_waked 0 = .ok (.iload_n 1, 1) := by decide +kernel
theorem dX9_waked_1 : decode cX9_waked 1 = .ok (.iconst 0, 1) := by decide +kernel
theorem dX9_waked_2 : decode cX9_waked 2 = .ok (.iconst 1, 1) := by decide +kernel
theorem dX9_waked_3 : decode cX9_waked 3 = .ok (.invokestatic 97, 3) := by decide +kernel
theorem dX9_waked_6 : decode cX9_waked 6 = .ok (.ifCond .ne 5, 3) := by decide +kernel
theorem dX9_waked_9 : decode cX9_waked 9 = .ok (.iconst (-1), 1) := by decide +kernel
theorem dX9_waked_10 : decode cX9_waked 10 = .ok (.ireturn, 1) := by decide +kernel
theorem dX9_waked_11 : decode cX9_waked 11 = .ok (.aload_n 0, 1) := by decide +kernel
theorem dX9_waked_12 : decode cX9_waked 12 = .ok (.getfield 71, 3) := by decide +kernel
theorem dX9_waked_15 : decode cX9_waked 15 = .ok (.aload_n 0, 1) := by decide +kernel
theorem dX9_waked_16 : decode cX9_waked 16 = .ok (.getfield 29, 3) := by decide +kernel
theorem dX9_waked_19 : decode cX9_waked 19 = .ok (.invokevirtual 164, 3) := by decide +kernel
theorem dX9_waked_22 : decode cX9_waked 22 = .ok (.aload_n 0, 1) := by decide +kernel
theorem dX9_waked_23 : decode cX9_waked 23 = .ok (.getfield 80, 3) := by decide +kernel
theorem dX9_waked_26 : decode cX9_waked 26 = .ok (.invokevirtual 224, 3) := by decide +kernel
theorem dX9_waked_29 : decode cX9_waked 29 = .ok (.istore_n 2, 1) := by decide +kernel
theorem dX9_waked_30 : decode cX9_waked 30 = .ok (.iload_n 1, 1) := by decide +kernel
theorem dX9_waked_31 : decode cX9_waked 31 = .ok (.ifCond .eq 9, 3) := by decide +kernel
theorem dX9_waked_34 : decode cX9_waked 34 = .ok (.iload_n 2, 1) := by decide +kernel
theorem dX9_waked_35 : decode cX9_waked 35 = .ok (.bipush (-9), 2) := by decide +kernel
theorem dX9_waked_37 : decode cX9_waked 37 = .ok (.if_icmp .ne 7, 3) := by decide +kernel
theorem dX9_waked_40 : decode cX9_waked 40 = .ok (.iload_n 2, 1) := by decide +kernel
theorem dX9_waked_41 : decode cX9_waked 41 = .ok (.goto 11, 3) := by decide +kernel
theorem dX9_waked_44 : decode cX9_waked 44 = .ok (.aload_n 0, 1) := by decide +kernel
theorem dX9_waked_45 : decode cX9_waked 45 = .ok (.getfield 80, 3) := by decide +kernel
theorem dX9_waked_48 : decode cX9_waked 48 = .ok (.iload_n 2, 1) := by decide +kernel
theorem dX9_waked_49 : decode cX9_waked 49 = .ok (.invokevirtual 227, 3) := by decide +kernel
theorem dX9_waked_52 : decode cX9_waked 52 = .ok (.ireturn, 1) := by decide +kernel
theorem dX9_through_0 : decode cX9_through 0 = .ok (.iload_n 1, 1) := by decide +kernel
theorem dX9_through_1 : decode cX9_through 1 = .ok (.iconst 0, 1) := by decide +kernel
theorem dX9_through_2 : decode cX9_through 2 = .ok (.iconst 1, 1) := by decide +kernel
theorem dX9_through_3 : decode cX9_through 3 = .ok (.invokestatic 97, 3) := by decide +kernel
theorem dX9_through_6 : decode cX9_through 6 = .ok (.ifCond .ne 5, 3) := by decide +kernel
theorem dX9_through_9 : decode cX9_through 9 = .ok (.iconst (-1), 1) := by decide +kernel
theorem dX9_through_10 : decode cX9_through 10 = .ok (.ireturn, 1) := by decide +kernel
theorem dX9_through_11 : decode cX9_through 11 = .ok (.aload_n 0, 1) := by decide +kernel
theorem dX9_through_12 : decode cX9_through 12 = .ok (.invokevirtual 230, 3) := by decide +kernel
theorem dX9_through_15 : decode cX9_through 15 = .ok (.istore_n 2, 1) := by decide +kernel
theorem dX9_through_16 : decode cX9_through 16 = .ok (.iload_n 2, 1) := by decide +kernel
theorem dX9_through_17 : decode cX9_through 17 = .ok (.bipush (-9), 2) := by decide +kernel
theorem dX9_through_19 : decode cX9_through 19 = .ok (.if_icmp .ne 6, 3) := by decide +kernel
theorem dX9_through_22 : decode cX9_through 22 = .ok (.bipush (-9), 2) := by decide +kernel
theorem dX9_through_24 : decode cX9_through 24 = .ok (.ireturn, 1) := by decide +kernel
theorem dX9_through_25 : decode cX9_through 25 = .ok (.iload_n 1, 1) := by decide +kernel
theorem dX9_through_26 : decode cX9_through 26 = .ok (.ifCond .ne 9, 3) := by decide +kernel
theorem dX9_through_29 : decode cX9_through 29 = .ok (.iload_n 2, 1) := by decide +kernel
theorem dX9_through_30 : decode cX9_through 30 = .ok (.iconst 4, 1) := by decide +kernel
theorem dX9_through_31 : decode cX9_through 31 = .ok (.idiv, 1) := by decide +kernel
theorem dX9_through_32 : decode cX9_through 32 = .ok (.goto 6, 3) := by decide +kernel
theorem dX9_through_35 : decode cX9_through 35 = .ok (.iload_n 2, 1) := by decide +kernel
theorem dX9_through_36 : decode cX9_through 36 = .ok (.iconst 4, 1) := by decide +kernel
theorem dX9_through_37 : decode cX9_through 37 = .ok (.irem, 1) := by decide +kernel
theorem dX9_through_38 : decode cX9_through 38 = .ok (.ireturn, 1) := by decide +kernel
theorem dX9_firstThrough_0 : decode cX9_firstThrough 0 = .ok (.aload_n 0, 1) := by decide +kernel
theorem dX9_firstThrough_1 : decode cX9_firstThrough 1 = .ok (.getfield 33, 3) := by decide +kernel
theorem dX9_firstThrough_4 : decode cX9_firstThrough 4 = .ok (.aload_n 0, 1) := by decide +kernel
theorem dX9_firstThrough_5 : decode cX9_firstThrough 5 = .ok (.getfield 29, 3) := by decide +kernel
theorem dX9_firstThrough_8 : decode cX9_firstThrough 8 = .ok (.invokevirtual 233, 3) := by decide +kernel
theorem dX9_firstThrough_11 : decode cX9_firstThrough 11 = .ok (.aload_n 0, 1) := by decide +kernel
theorem dX9_firstThrough_12 : decode cX9_firstThrough 12 = .ok (.getfield 71, 3) := by decide +kernel
theorem dX9_firstThrough_15 : decode cX9_firstThrough 15 = .ok (.aload_n 0, 1) := by decide +kernel
theorem dX9_firstThrough_16 : decode cX9_firstThrough 16 = .ok (.getfield 33, 3) := by decide +kernel
theorem dX9_firstThrough_19 : decode cX9_firstThrough 19 = .ok (.invokevirtual 164, 3) := by decide +kernel
theorem dX9_firstThrough_22 : decode cX9_firstThrough 22 = .ok (.aload_n 0, 1) := by decide +kernel
theorem dX9_firstThrough_23 : decode cX9_firstThrough 23 = .ok (.invokevirtual 235, 3) := by decide +kernel
theorem dX9_firstThrough_26 : decode cX9_firstThrough 26 = .ok (.istore_n 1, 1) := by decide +kernel
theorem dX9_firstThrough_27 : decode cX9_firstThrough 27 = .ok (.iconst 1, 1) := by decide +kernel
theorem dX9_firstThrough_28 : decode cX9_firstThrough 28 = .ok (.istore_n 2, 1) := by decide +kernel
theorem dX9_firstThrough_29 : decode cX9_firstThrough 29 = .ok (.iload_n 2, 1) := by decide +kernel
theorem dX9_firstThrough_30 : decode cX9_firstThrough 30 = .ok (.sipush 240, 3) := by decide +kernel
theorem dX9_firstThrough_33 : decode cX9_firstThrough 33 = .ok (.if_icmp .gt 72, 3) := by decide +kernel
theorem dX9_firstThrough_36 : decode cX9_firstThrough 36 = .ok (.iload_n 1, 1) := by decide +kernel
theorem dX9_firstThrough_37 : decode cX9_firstThrough 37 = .ok (.ifCond .eq 68, 3) := by decide +kernel
theorem dX9_firstThrough_40 : decode cX9_firstThrough 40 = .ok (.aload_n 0, 1) := by decide +kernel
theorem dX9_firstThrough_41 : decode cX9_firstThrough 41 = .ok (.aload_n 0, 1) := by decide +kernel
theorem dX9_firstThrough_42 : decode cX9_firstThrough 42 = .ok (.getfield 33, 3) := by decide +kernel
theorem dX9_firstThrough_45 : decode cX9_firstThrough 45 = .ok (.invokevirtual 208, 3) := by decide +kernel
theorem dX9_firstThrough_48 : decode cX9_firstThrough 48 = .ok (.iconst 0, 1) := by decide +kernel
theorem dX9_firstThrough_49 : decode cX9_firstThrough 49 = .ok (.istore_n 3, 1) := by decide +kernel
theorem dX9_firstThrough_50 : decode cX9_firstThrough 50 = .ok (.iload_n 3, 1) := by decide +kernel
theorem dX9_firstThrough_51 : decode cX9_firstThrough 51 = .ok (.aload_n 0, 1) := by decide +kernel
theorem dX9_firstThrough_52 : decode cX9_firstThrough 52 = .ok (.getfield 19, 3) := by decide +kernel
theorem dX9_firstThrough_55 : decode cX9_firstThrough 55 = .ok (.getfield 144, 3) := by decide +kernel
theorem dX9_firstThrough_58 : decode cX9_firstThrough 58 = .ok (.invokevirtual 214, 3) := by decide +kernel
theorem dX9_firstThrough_61 : decode cX9_firstThrough 61 = .ok (.if_icmp .ge 38, 3) := by decide +kernel
theorem dX9_firstThrough_64 : decode cX9_firstThrough 64 = .ok (.iload_n 1, 1) := by decide +kernel
theorem dX9_firstThrough_65 : decode cX9_firstThrough 65 = .ok (.iload_n 3, 1) := by decide +kernel
theorem dX9_firstThrough_66 : decode cX9_firstThrough 66 = .ok (.invokestatic 238, 3) := by decide +kernel
theorem dX9_firstThrough_69 : decode cX9_firstThrough 69 = .ok (.ifCond .eq 24, 3) := by decide +kernel
theorem dX9_firstThrough_72 : decode cX9_firstThrough 72 = .ok (.aload_n 0, 1) := by decide +kernel
theorem dX9_firstThrough_73 : decode cX9_firstThrough 73 = .ok (.getfield 19, 3) := by decide +kernel
theorem dX9_firstThrough_76 : decode cX9_firstThrough 76 = .ok (.iload_n 3, 1) := by decide +kernel
theorem dX9_firstThrough_77 : decode cX9_firstThrough 77 = .ok (.aload_n 0, 1) := by decide +kernel
theorem dX9_firstThrough_78 : decode cX9_firstThrough 78 = .ok (.getfield 33, 3) := by decide +kernel
theorem dX9_firstThrough_81 : decode cX9_firstThrough 81 = .ok (.invokevirtual 154, 3) := by decide +kernel
theorem dX9_firstThrough_84 : decode cX9_firstThrough 84 = .ok (.ifCond .ne 9, 3) := by decide +kernel
theorem dX9_firstThrough_87 : decode cX9_firstThrough 87 = .ok (.iload_n 2, 1) := by decide +kernel
theorem dX9_firstThrough_88 : decode cX9_firstThrough 88 = .ok (.iconst 4, 1) := by decide +kernel
theorem dX9_firstThrough_89 : decode cX9_firstThrough 89 = .ok (.imul, 1) := by decide +kernel
theorem dX9_firstThrough_90 : decode cX9_firstThrough 90 = .ok (.iload_n 3, 1) := by decide +kernel
theorem dX9_firstThrough_91 : decode cX9_firstThrough 91 = .ok (.iadd, 1) := by decide +kernel
theorem dX9_firstThrough_92 : decode cX9_firstThrough 92 = .ok (.ireturn, 1) := by decide +kernel
theorem dX9_firstThrough_93 : decode cX9_firstThrough 93 = .ok (.iinc 3 1, 3) := by decide +kernel
theorem dX9_firstThrough_96 : decode cX9_firstThrough 96 = .ok (.goto (-46), 3) := by decide +kernel
theorem dX9_firstThrough_99 : decode cX9_firstThrough 99 = .ok (.iinc 2 1, 3) := by decide +kernel
theorem dX9_firstThrough_102 : decode cX9_firstThrough 102 = .ok (.goto (-73), 3) := by decide +kernel
theorem dX9_firstThrough_105 : decode cX9_firstThrough 105 = .ok (.bipush (-9), 2) := by decide +kernel
theorem dX9_firstThrough_107 : decode cX9_firstThrough 107 = .ok (.ireturn, 1) := by decide +kernel
theorem dX9_wholeBits_0 : decode cX9_wholeBits 0 = .ok (.iconst 0, 1) := by decide +kernel
theorem dX9_wholeBits_1 : decode cX9_wholeBits 1 = .ok (.istore_n 1, 1) := by decide +kernel
theorem dX9_wholeBits_2 : decode cX9_wholeBits 2 = .ok (.iconst 0, 1) := by decide +kernel
theorem dX9_wholeBits_3 : decode cX9_wholeBits 3 = .ok (.istore_n 2, 1) := by decide +kernel
theorem dX9_wholeBits_4 : decode cX9_wholeBits 4 = .ok (.iload_n 2, 1) := by decide +kernel
theorem dX9_wholeBits_5 : decode cX9_wholeBits 5 = .ok (.aload_n 0, 1) := by decide +kernel
theorem dX9_wholeBits_6 : decode cX9_wholeBits 6 = .ok (.getfield 19, 3) := by decide +kernel
theorem dX9_wholeBits_9 : decode cX9_wholeBits 9 = .ok (.getfield 144, 3) := by decide +kernel
theorem dX9_wholeBits_12 : decode cX9_wholeBits 12 = .ok (.invokevirtual 214, 3) := by decide +kernel
theorem dX9_wholeBits_15 : decode cX9_wholeBits 15 = .ok (.if_icmp .ge 41, 3) := by decide +kernel
theorem dX9_wholeBits_18 : decode cX9_wholeBits 18 = .ok (.aload_n 0, 1) := by decide +kernel
theorem dX9_wholeBits_19 : decode cX9_wholeBits 19 = .ok (.getfield 29, 3) := by decide +kernel
theorem dX9_wholeBits_22 : decode cX9_wholeBits 22 = .ok (.iload_n 2, 1) := by decide +kernel
theorem dX9_wholeBits_23 : decode cX9_wholeBits 23 = .ok (.invokevirtual 186, 3) := by decide +kernel
theorem dX9_wholeBits_26 : decode cX9_wholeBits 26 = .ok (.ifCond .eq 24, 3) := by decide +kernel
theorem dX9_wholeBits_29 : decode cX9_wholeBits 29 = .ok (.aload_n 0, 1) := by decide +kernel
theorem dX9_wholeBits_30 : decode cX9_wholeBits 30 = .ok (.getfield 19, 3) := by decide +kernel
theorem dX9_wholeBits_33 : decode cX9_wholeBits 33 = .ok (.iload_n 2, 1) := by decide +kernel
theorem dX9_wholeBits_34 : decode cX9_wholeBits 34 = .ok (.aload_n 0, 1) := by decide +kernel
theorem dX9_wholeBits_35 : decode cX9_wholeBits 35 = .ok (.getfield 29, 3) := by decide +kernel
theorem dX9_wholeBits_38 : decode cX9_wholeBits 38 = .ok (.invokevirtual 154, 3) := by decide +kernel
theorem dX9_wholeBits_41 : decode cX9_wholeBits 41 = .ok (.ifCond .le 9, 3) := by decide +kernel
theorem dX9_wholeBits_44 : decode cX9_wholeBits 44 = .ok (.iload_n 1, 1) := by decide +kernel
theorem dX9_wholeBits_45 : decode cX9_wholeBits 45 = .ok (.iconst 1, 1) := by decide +kernel
theorem dX9_wholeBits_46 : decode cX9_wholeBits 46 = .ok (.iload_n 2, 1) := by decide +kernel
theorem dX9_wholeBits_47 : decode cX9_wholeBits 47 = .ok (.ishl, 1) := by decide +kernel
theorem dX9_wholeBits_48 : decode cX9_wholeBits 48 = .ok (.ior, 1) := by decide +kernel
theorem dX9_wholeBits_49 : decode cX9_wholeBits 49 = .ok (.istore_n 1, 1) := by decide +kernel
theorem dX9_wholeBits_50 : decode cX9_wholeBits 50 = .ok (.iinc 2 1, 3) := by decide +kernel
theorem dX9_wholeBits_53 : decode cX9_wholeBits 53 = .ok (.goto (-49), 3) := by decide +kernel
theorem dX9_wholeBits_56 : decode cX9_wholeBits 56 = .ok (.iload_n 1, 1) := by decide +kernel
theorem dX9_wholeBits_57 : decode cX9_wholeBits 57 = .ok (.ireturn, 1) := by decide +kernel
theorem dX9_toBuy_0 : decode cX9_toBuy 0 = .ok (.iload_n 1, 1) := by decide +kernel
theorem dX9_toBuy_1 : decode cX9_toBuy 1 = .ok (.bipush (-9), 2) := by decide +kernel
theorem dX9_toBuy_3 : decode cX9_toBuy 3 = .ok (.if_icmp .eq 30, 3) := by decide +kernel
theorem dX9_toBuy_6 : decode cX9_toBuy 6 = .ok (.aload_n 0, 1) := by decide +kernel
theorem dX9_toBuy_7 : decode cX9_toBuy 7 = .ok (.getfield 19, 3) := by decide +kernel
theorem dX9_toBuy_10 : decode cX9_toBuy 10 = .ok (.getfield 144, 3) := by decide +kernel
theorem dX9_toBuy_13 : decode cX9_toBuy 13 = .ok (.iload_n 1, 1) := by decide +kernel
theorem dX9_toBuy_14 : decode cX9_toBuy 14 = .ok (.invokevirtual 136, 3) := by decide +kernel
theorem dX9_toBuy_17 : decode cX9_toBuy 17 = .ok (.ifCond .eq 14, 3) := by decide +kernel
theorem dX9_toBuy_20 : decode cX9_toBuy 20 = .ok (.aload_n 0, 1) := by decide +kernel
theorem dX9_toBuy_21 : decode cX9_toBuy 21 = .ok (.getfield 29, 3) := by decide +kernel
theorem dX9_toBuy_24 : decode cX9_toBuy 24 = .ok (.iload_n 1, 1) := by decide +kernel
theorem dX9_toBuy_25 : decode cX9_toBuy 25 = .ok (.invokevirtual 186, 3) := by decide +kernel
theorem dX9_toBuy_28 : decode cX9_toBuy 28 = .ok (.ifCond .eq 5, 3) := by decide +kernel
theorem dX9_toBuy_31 : decode cX9_toBuy 31 = .ok (.iconst (-1), 1) := by decide +kernel
theorem dX9_toBuy_32 : decode cX9_toBuy 32 = .ok (.ireturn, 1) := by decide +kernel
theorem dX9_toBuy_33 : decode cX9_toBuy 33 = .ok (.aload_n 0, 1) := by decide +kernel
theorem dX9_toBuy_34 : decode cX9_toBuy 34 = .ok (.getfield 89, 3) := by decide +kernel
theorem dX9_toBuy_37 : decode cX9_toBuy 37 = .ok (.aload_n 0, 1) := by decide +kernel
theorem dX9_toBuy_38 : decode cX9_toBuy 38 = .ok (.getfield 29, 3) := by decide +kernel
theorem dX9_toBuy_41 : decode cX9_toBuy 41 = .ok (.invokevirtual 241, 3) := by decide +kernel
theorem dX9_toBuy_44 : decode cX9_toBuy 44 = .ok (.aload_n 0, 1) := by decide +kernel
theorem dX9_toBuy_45 : decode cX9_toBuy 45 = .ok (.getfield 89, 3) := by decide +kernel
theorem dX9_toBuy_48 : decode cX9_toBuy 48 = .ok (.invokevirtual 244, 3) := by decide +kernel
theorem dX9_toBuy_51 : decode cX9_toBuy 51 = .ok (.ifCond .ne 6, 3) := by decide +kernel
theorem dX9_toBuy_54 : decode cX9_toBuy 54 = .ok (.bipush (-9), 2) := by decide +kernel
theorem dX9_toBuy_56 : decode cX9_toBuy 56 = .ok (.ireturn, 1) := by decide +kernel
theorem dX9_toBuy_57 : decode cX9_toBuy 57 = .ok (.iload_n 1, 1) := by decide +kernel
theorem dX9_toBuy_58 : decode cX9_toBuy 58 = .ok (.bipush (-9), 2) := by decide +kernel
theorem dX9_toBuy_60 : decode cX9_toBuy 60 = .ok (.if_icmp .ne 13, 3) := by decide +kernel
theorem dX9_toBuy_63 : decode cX9_toBuy 63 = .ok (.aload_n 0, 1) := by decide +kernel
theorem dX9_toBuy_64 : decode cX9_toBuy 64 = .ok (.getfield 89, 3) := by decide +kernel
theorem dX9_toBuy_67 : decode cX9_toBuy 67 = .ok (.invokevirtual 247, 3) := by decide +kernel
theorem dX9_toBuy_70 : decode cX9_toBuy 70 = .ok (.goto 11, 3) := by decide +kernel
theorem dX9_toBuy_73 : decode cX9_toBuy 73 = .ok (.aload_n 0, 1) := by decide +kernel
theorem dX9_toBuy_74 : decode cX9_toBuy 74 = .ok (.getfield 89, 3) := by decide +kernel
theorem dX9_toBuy_77 : decode cX9_toBuy 77 = .ok (.iload_n 1, 1) := by decide +kernel
theorem dX9_toBuy_78 : decode cX9_toBuy 78 = .ok (.invokevirtual 250, 3) := by decide +kernel
theorem dX9_toBuy_81 : decode cX9_toBuy 81 = .ok (.ireturn, 1) := by decide +kernel
theorem dX9_gain_0 : decode cX9_gain 0 = .ok (.aload_n 0, 1) := by decide +kernel
theorem dX9_gain_1 : decode cX9_gain 1 = .ok (.getfield 19, 3) := by decide +kernel
theorem dX9_gain_4 : decode cX9_gain 4 = .ok (.getfield 144, 3) := by decide +kernel
theorem dX9_gain_7 : decode cX9_gain 7 = .ok (.iload_n 1, 1) := by decide +kernel
theorem dX9_gain_8 : decode cX9_gain 8 = .ok (.invokevirtual 136, 3) := by decide +kernel
theorem dX9_gain_11 : decode cX9_gain 11 = .ok (.ifCond .eq 14, 3) := by decide +kernel
theorem dX9_gain_14 : decode cX9_gain 14 = .ok (.aload_n 0, 1) := by decide +kernel
theorem dX9_gain_15 : decode cX9_gain 15 = .ok (.getfield 29, 3) := by decide +kernel
theorem dX9_gain_18 : decode cX9_gain 18 = .ok (.iload_n 1, 1) := by decide +kernel
theorem dX9_gain_19 : decode cX9_gain 19 = .ok (.invokevirtual 186, 3) := by decide +kernel
theorem dX9_gain_22 : decode cX9_gain 22 = .ok (.ifCond .ne 6, 3) := by decide +kernel
theorem dX9_gain_25 : decode cX9_gain 25 = .ok (.ldc 251, 2) := by decide +kernel
theorem dX9_gain_27 : decode cX9_gain 27 = .ok (.ireturn, 1) := by decide +kernel
theorem dX9_gain_28 : decode cX9_gain 28 = .ok (.aload_n 0, 1) := by decide +kernel
theorem dX9_gain_29 : decode cX9_gain 29 = .ok (.getfield 71, 3) := by decide +kernel
theorem dX9_gain_32 : decode cX9_gain 32 = .ok (.aload_n 0, 1) := by decide +kernel
theorem dX9_gain_33 : decode cX9_gain 33 = .ok (.getfield 29, 3) := by decide +kernel
theorem dX9_gain_36 : decode cX9_gain 36 = .ok (.invokevirtual 164, 3) := by decide +kernel
theorem dX9_gain_39 : decode cX9_gain 39 = .ok (.aload_n 0, 1) := by decide +kernel
theorem dX9_gain_40 : decode cX9_gain 40 = .ok (.getfield 80, 3) := by decide +kernel
theorem dX9_gain_43 : decode cX9_gain 43 = .ok (.invokevirtual 252, 3) := by decide +kernel
theorem dX9_gain_46 : decode cX9_gain 46 = .ok (.istore_n 2, 1) := by decide +kernel
theorem dX9_gain_47 : decode cX9_gain 47 = .ok (.aload_n 0, 1) := by decide +kernel
theorem dX9_gain_48 : decode cX9_gain 48 = .ok (.getfield 71, 3) := by decide +kernel
theorem dX9_gain_51 : decode cX9_gain 51 = .ok (.iload_n 1, 1) := by decide +kernel
theorem dX9_gain_52 : decode cX9_gain 52 = .ok (.invokevirtual 255, 3) := by decide +kernel
theorem dX9_gain_55 : decode cX9_gain 55 = .ok (.aload_n 0, 1) := by decide +kernel
theorem dX9_gain_56 : decode cX9_gain 56 = .ok (.getfield 80, 3) := by decide +kernel
theorem dX9_gain_59 : decode cX9_gain 59 = .ok (.invokevirtual 252, 3) := by decide +kernel
theorem dX9_gain_62 : decode cX9_gain 62 = .ok (.iload_n 2, 1) := by decide +kernel
theorem dX9_gain_63 : decode cX9_gain 63 = .ok (.isub, 1) := by decide +kernel
theorem dX9_gain_64 : decode cX9_gain 64 = .ok (.ireturn, 1) := by decide +kernel
theorem dX9_hear_0 : decode cX9_hear 0 = .ok (.aload_n 0, 1) := by decide +kernel
theorem dX9_hear_1 : decode cX9_hear 1 = .ok (.getfield 19, 3) := by decide +kernel
theorem dX9_hear_4 : decode cX9_hear 4 = .ok (.iload_n 1, 1) := by decide +kernel
theorem dX9_hear_5 : decode cX9_hear 5 = .ok (.invokevirtual 161, 3) := by decide +kernel
theorem dX9_hear_8 : decode cX9_hear 8 = .ok (.ifCond .eq 13, 3) := by decide +kernel
theorem dX9_hear_11 : decode cX9_hear 11 = .ok (.iload_n 2, 1) := by decide +kernel
theorem dX9_hear_12 : decode cX9_hear 12 = .ok (.iconst 0, 1) := by decide +kernel
theorem dX9_hear_13 : decode cX9_hear 13 = .ok (.bipush 99, 2) := by decide +kernel
theorem dX9_hear_15 : decode cX9_hear 15 = .ok (.invokestatic 97, 3) := by decide +kernel
theorem dX9_hear_18 : decode cX9_hear 18 = .ok (.ifCond .ne 5, 3) := by decide +kernel
theorem dX9_hear_21 : decode cX9_hear 21 = .ok (.iconst (-1), 1) := by decide +kernel
theorem dX9_hear_22 : decode cX9_hear 22 = .ok (.ireturn, 1) := by decide +kernel
theorem dX9_hear_23 : decode cX9_hear 23 = .ok (.aload_n 0, 1) := by decide +kernel
theorem dX9_hear_24 : decode cX9_hear 24 = .ok (.getfield 59, 3) := by decide +kernel
theorem dX9_hear_27 : decode cX9_hear 27 = .ok (.invokevirtual 258, 3) := by decide +kernel
theorem dX9_hear_30 : decode cX9_hear 30 = .ok (.ifCond .eq 6, 3) := by decide +kernel
theorem dX9_hear_33 : decode cX9_hear 33 = .ok (.bipush (-3), 2) := by decide +kernel
theorem dX9_hear_35 : decode cX9_hear 35 = .ok (.ireturn, 1) := by decide +kernel
theorem dX9_hear_36 : decode cX9_hear 36 = .ok (.aload_n 0, 1) := by decide +kernel
theorem dX9_hear_37 : decode cX9_hear 37 = .ok (.getfield 59, 3) := by decide +kernel
theorem dX9_hear_40 : decode cX9_hear 40 = .ok (.iload_n 1, 1) := by decide +kernel
theorem dX9_hear_41 : decode cX9_hear 41 = .ok (.iload_n 2, 1) := by decide +kernel
theorem dX9_hear_42 : decode cX9_hear 42 = .ok (.iconst 0, 1) := by decide +kernel
theorem dX9_hear_43 : decode cX9_hear 43 = .ok (.iconst 0, 1) := by decide +kernel
theorem dX9_hear_44 : decode cX9_hear 44 = .ok (.invokevirtual 259, 3) := by decide +kernel
theorem dX9_hear_47 : decode cX9_hear 47 = .ok (.aload_n 0, 1) := by decide +kernel
theorem dX9_hear_48 : decode cX9_hear 48 = .ok (.getfield 59, 3) := by decide +kernel
theorem dX9_hear_51 : decode cX9_hear 51 = .ok (.invokevirtual 214, 3) := by decide +kernel
theorem dX9_hear_54 : decode cX9_hear 54 = .ok (.ireturn, 1) := by decide +kernel
theorem dX9_forget_0 : decode cX9_forget 0 = .ok (.iload_n 1, 1) := by decide +kernel
theorem dX9_forget_1 : decode cX9_forget 1 = .ok (.iconst 0, 1) := by decide +kernel
theorem dX9_forget_2 : decode cX9_forget 2 = .ok (.iconst 1, 1) := by decide +kernel
theorem dX9_forget_3 : decode cX9_forget 3 = .ok (.invokestatic 97, 3) := by decide +kernel
theorem dX9_forget_6 : decode cX9_forget 6 = .ok (.ifCond .ne 5, 3) := by decide +kernel
theorem dX9_forget_9 : decode cX9_forget 9 = .ok (.iconst (-1), 1) := by decide +kernel
theorem dX9_forget_10 : decode cX9_forget 10 = .ok (.ireturn, 1) := by decide +kernel
theorem dX9_forget_11 : decode cX9_forget 11 = .ok (.iload_n 1, 1) := by decide +kernel
theorem dX9_forget_12 : decode cX9_forget 12 = .ok (.ifCond .ne 10, 3) := by decide +kernel
theorem dX9_forget_15 : decode cX9_forget 15 = .ok (.aload_n 0, 1) := by decide +kernel
theorem dX9_forget_16 : decode cX9_forget 16 = .ok (.getfield 59, 3) := by decide +kernel
theorem dX9_forget_19 : decode cX9_forget 19 = .ok (.goto 7, 3) := by decide +kernel
theorem dX9_forget_22 : decode cX9_forget 22 = .ok (.aload_n 0, 1) := by decide +kernel
theorem dX9_forget_23 : decode cX9_forget 23 = .ok (.getfield 63, 3) := by decide +kernel
theorem dX9_forget_26 : decode cX9_forget 26 = .ok (.astore_n 2, 1) := by decide +kernel
theorem dX9_forget_27 : decode cX9_forget 27 = .ok (.aload_n 2, 1) := by decide +kernel
theorem dX9_forget_28 : decode cX9_forget 28 = .ok (.invokevirtual 214, 3) := by decide +kernel
theorem dX9_forget_31 : decode cX9_forget 31 = .ok (.istore_n 3, 1) := by decide +kernel
theorem dX9_forget_32 : decode cX9_forget 32 = .ok (.aload_n 2, 1) := by decide +kernel
theorem dX9_forget_33 : decode cX9_forget 33 = .ok (.invokevirtual 132, 3) := by decide +kernel
theorem dX9_forget_36 : decode cX9_forget 36 = .ok (.iload_n 3, 1) := by decide +kernel
theorem dX9_forget_37 : decode cX9_forget 37 = .ok (.ireturn, 1) := by decide +kernel
theorem dX9_sources_0 : decode cX9_sources 0 = .ok (.aload_n 0, 1) := by decide +kernel
theorem dX9_sources_1 : decode cX9_sources 1 = .ok (.getfield 71, 3) := by decide +kernel
theorem dX9_sources_4 : decode cX9_sources 4 = .ok (.aload_n 0, 1) := by decide +kernel
theorem dX9_sources_5 : decode cX9_sources 5 = .ok (.getfield 29, 3) := by decide +kernel
theorem dX9_sources_8 : decode cX9_sources 8 = .ok (.invokevirtual 164, 3) := by decide +kernel
theorem dX9_sources_11 : decode cX9_sources 11 = .ok (.iconst 0, 1) := by decide +kernel
theorem dX9_sources_12 : decode cX9_sources 12 = .ok (.istore_n 1, 1) := by decide +kernel
theorem dX9_sources_13 : decode cX9_sources 13 = .ok (.iconst 0, 1) := by decide +kernel
theorem dX9_sources_14 : decode cX9_sources 14 = .ok (.istore_n 2, 1) := by decide +kernel
theorem dX9_sources_15 : decode cX9_sources 15 = .ok (.iload_n 2, 1) := by decide +kernel
theorem dX9_sources_16 : decode cX9_sources 16 = .ok (.aload_n 0, 1) := by decide +kernel
theorem dX9_sources_17 : decode cX9_sources 17 = .ok (.getfield 19, 3) := by decide +kernel
theorem dX9_sources_20 : decode cX9_sources 20 = .ok (.getfield 262, 3) := by decide +kernel
theorem dX9_sources_23 : decode cX9_sources 23 = .ok (.if_icmp .ge 23, 3) := by decide +kernel
theorem dX9_sources_26 : decode cX9_sources 26 = .ok (.aload_n 0, 1) := by decide +kernel
theorem dX9_sources_27 : decode cX9_sources 27 = .ok (.iload_n 2, 1) := by decide +kernel
theorem dX9_sources_28 : decode cX9_sources 28 = .ok (.invokevirtual 265, 3) := by decide +kernel
theorem dX9_sources_31 : decode cX9_sources 31 = .ok (.ifCond .le 9, 3) := by decide +kernel
theorem dX9_sources_34 : decode cX9_sources 34 = .ok (.iload_n 1, 1) := by decide +kernel
theorem dX9_sources_35 : decode cX9_sources 35 = .ok (.iconst 1, 1) := by decide +kernel
theorem dX9_sources_36 : decode cX9_sources 36 = .ok (.iload_n 2, 1) := by decide +kernel
theorem dX9_sources_37 : decode cX9_sources 37 = .ok (.ishl, 1) := by decide +kernel
theorem dX9_sources_38 : decode cX9_sources 38 = .ok (.ior, 1) := by decide +kernel
theorem dX9_sources_39 : decode cX9_sources 39 = .ok (.istore_n 1, 1) := by decide +kernel
theorem dX9_sources_40 : decode cX9_sources 40 = .ok (.iinc 2 1, 3) := by decide +kernel
theorem dX9_sources_43 : decode cX9_sources 43 = .ok (.goto (-28), 3) := by decide +kernel
theorem dX9_sources_46 : decode cX9_sources 46 = .ok (.iload_n 1, 1) := by decide +kernel
theorem dX9_sources_47 : decode cX9_sources 47 = .ok (.ireturn, 1) := by decide +kernel
theorem dX9_strengths_0 : decode cX9_strengths 0 = .ok (.aload_n 0, 1) := by decide +kernel
theorem dX9_strengths_1 : decode cX9_strengths 1 = .ok (.getfield 19, 3) := by decide +kernel
theorem dX9_strengths_4 : decode cX9_strengths 4 = .ok (.iload_n 1, 1) := by decide +kernel
theorem dX9_strengths_5 : decode cX9_strengths 5 = .ok (.invokevirtual 161, 3) := by decide +kernel
theorem dX9_strengths_8 : decode cX9_strengths 8 = .ok (.ifCond .ne 5, 3) := by decide +kernel
theorem dX9_strengths_11 : decode cX9_strengths 11 = .ok (.iconst (-1), 1) := by decide +kernel
theorem dX9_strengths_12 : decode cX9_strengths 12 = .ok (.ireturn, 1) := by decide +kernel
theorem dX9_strengths_13 : decode cX9_strengths 13 = .ok (.aload_n 0, 1) := by decide +kernel
theorem dX9_strengths_14 : decode cX9_strengths 14 = .ok (.getfield 71, 3) := by decide +kernel
theorem dX9_strengths_17 : decode cX9_strengths 17 = .ok (.aload_n 0, 1) := by decide +kernel
theorem dX9_strengths_18 : decode cX9_strengths 18 = .ok (.getfield 29, 3) := by decide +kernel
theorem dX9_strengths_21 : decode cX9_strengths 21 = .ok (.invokevirtual 164, 3) := by decide +kernel
theorem dX9_strengths_24 : decode cX9_strengths 24 = .ok (.aload_n 0, 1) := by decide +kernel
theorem dX9_strengths_25 : decode cX9_strengths 25 = .ok (.iload_n 1, 1) := by decide +kernel
theorem dX9_strengths_26 : decode cX9_strengths 26 = .ok (.invokevirtual 265, 3) := by decide +kernel
theorem dX9_strengths_29 : decode cX9_strengths 29 = .ok (.ireturn, 1) := by decide +kernel
theorem dX9_strengthsAt_0 : decode cX9_strengthsAt 0 = .ok (.iconst 1, 1) := by decide +kernel
theorem dX9_strengthsAt_1 : decode cX9_strengthsAt 1 = .ok (.istore_n 2, 1) := by decide +kernel
theorem dX9_strengthsAt_2 : decode cX9_strengthsAt 2 = .ok (.bipush 99, 2) := by decide +kernel
theorem dX9_strengthsAt_4 : decode cX9_strengthsAt 4 = .ok (.istore_n 3, 1) := by decide +kernel
theorem dX9_strengthsAt_5 : decode cX9_strengthsAt 5 = .ok (.iconst 0, 1) := by decide +kernel
theorem dX9_strengthsAt_6 : decode cX9_strengthsAt 6 = .ok (.istore 4, 2) := by decide +kernel
theorem dX9_strengthsAt_8 : decode cX9_strengthsAt 8 = .ok (.iload 4, 2) := by decide +kernel
theorem dX9_strengthsAt_10 : decode cX9_strengthsAt 10 = .ok (.aload_n 0, 1) := by decide +kernel
theorem dX9_strengthsAt_11 : decode cX9_strengthsAt 11 = .ok (.getfield 59, 3) := by decide +kernel
theorem dX9_strengthsAt_14 : decode cX9_strengthsAt 14 = .ok (.invokevirtual 214, 3) := by decide +kernel
theorem dX9_strengthsAt_17 : decode cX9_strengthsAt 17 = .ok (.if_icmp .ge 66, 3) := by decide +kernel
theorem dX9_strengthsAt_20 : decode cX9_strengthsAt 20 = .ok (.aload_n 0, 1) := by decide +kernel
theorem dX9_strengthsAt_21 : decode cX9_strengthsAt 21 = .ok (.getfield 71, 3) := by decide +kernel
theorem dX9_strengthsAt_24 : decode cX9_strengthsAt 24 = .ok (.iload_n 1, 1) := by decide +kernel
theorem dX9_strengthsAt_25 : decode cX9_strengthsAt 25 = .ok (.aload_n 0, 1) := by decide +kernel
theorem dX9_strengthsAt_26 : decode cX9_strengthsAt 26 = .ok (.getfield 59, 3) := by decide +kernel
theorem dX9_strengthsAt_29 : decode cX9_strengthsAt 29 = .ok (.iload 4, 2) := by decide +kernel
theorem dX9_strengthsAt_31 : decode cX9_strengthsAt 31 = .ok (.iconst 0, 1) := by decide +kernel
theorem dX9_strengthsAt_32 : decode cX9_strengthsAt 32 = .ok (.invokevirtual 140, 3) := by decide +kernel
theorem dX9_strengthsAt_35 : decode cX9_strengthsAt 35 = .ok (.invokevirtual 268, 3) := by decide +kernel
theorem dX9_strengthsAt_38 : decode cX9_strengthsAt 38 = .ok (.istore 5, 2) := by decide +kernel
theorem dX9_strengthsAt_40 : decode cX9_strengthsAt 40 = .ok (.aload_n 0, 1) := by decide +kernel
theorem dX9_strengthsAt_41 : decode cX9_strengthsAt 41 = .ok (.getfield 59, 3) := by decide +kernel
theorem dX9_strengthsAt_44 : decode cX9_strengthsAt 44 = .ok (.iload 4, 2) := by decide +kernel
theorem dX9_strengthsAt_46 : decode cX9_strengthsAt 46 = .ok (.iconst 1, 1) := by decide +kernel
theorem dX9_strengthsAt_47 : decode cX9_strengthsAt 47 = .ok (.invokevirtual 140, 3) := by decide +kernel
theorem dX9_strengthsAt_50 : decode cX9_strengthsAt 50 = .ok (.istore 6, 2) := by decide +kernel
theorem dX9_strengthsAt_52 : decode cX9_strengthsAt 52 = .ok (.iload_n 3, 1) := by decide +kernel
theorem dX9_strengthsAt_53 : decode cX9_strengthsAt 53 = .ok (.iload 5, 2) := by decide +kernel
theorem dX9_strengthsAt_55 : decode cX9_strengthsAt 55 = .ok (.iload 6, 2) := by decide +kernel
theorem dX9_strengthsAt_57 : decode cX9_strengthsAt 57 = .ok (.iadd, 1) := by decide +kernel
theorem dX9_strengthsAt_58 : decode cX9_strengthsAt 58 = .ok (.invokestatic 271, 3) := by decide +kernel
theorem dX9_strengthsAt_61 : decode cX9_strengthsAt 61 = .ok (.istore_n 3, 1) := by decide +kernel
theorem dX9_strengthsAt_62 : decode cX9_strengthsAt 62 = .ok (.iload 6, 2) := by decide +kernel
theorem dX9_strengthsAt_64 : decode cX9_strengthsAt 64 = .ok (.ifCond .le 13, 3) := by decide +kernel
theorem dX9_strengthsAt_67 : decode cX9_strengthsAt 67 = .ok (.iload_n 2, 1) := by decide +kernel
theorem dX9_strengthsAt_68 : decode cX9_strengthsAt 68 = .ok (.iload 5, 2) := by decide +kernel
theorem dX9_strengthsAt_70 : decode cX9_strengthsAt 70 = .ok (.iload 6, 2) := by decide +kernel
theorem dX9_strengthsAt_72 : decode cX9_strengthsAt 72 = .ok (.iadd, 1) := by decide +kernel
theorem dX9_strengthsAt_73 : decode cX9_strengthsAt 73 = .ok (.invokestatic 276, 3) := by decide +kernel
theorem dX9_strengthsAt_76 : decode cX9_strengthsAt 76 = .ok (.istore_n 2, 1) := by decide +kernel
theorem dX9_strengthsAt_77 : decode cX9_strengthsAt 77 = .ok (.iinc 4 1, 3) := by decide +kernel
theorem dX9_strengthsAt_80 : decode cX9_strengthsAt 80 = .ok (.goto (-72), 3) := by decide +kernel
theorem dX9_strengthsAt_83 : decode cX9_strengthsAt 83 = .ok (.iconst 0, 1) := by decide +kernel
theorem dX9_strengthsAt_84 : decode cX9_strengthsAt 84 = .ok (.iload_n 3, 1) := by decide +kernel
theorem dX9_strengthsAt_85 : decode cX9_strengthsAt 85 = .ok (.iload_n 2, 1) := by decide +kernel
theorem dX9_strengthsAt_86 : decode cX9_strengthsAt 86 = .ok (.isub, 1) := by decide +kernel
theorem dX9_strengthsAt_87 : decode cX9_strengthsAt 87 = .ok (.iconst 1, 1) := by decide +kernel
theorem dX9_strengthsAt_88 : decode cX9_strengthsAt 88 = .ok (.iadd, 1) := by decide +kernel
theorem dX9_strengthsAt_89 : decode cX9_strengthsAt 89 = .ok (.invokestatic 276, 3) := by decide +kernel
theorem dX9_strengthsAt_92 : decode cX9_strengthsAt 92 = .ok (.ireturn, 1) := by decide +kernel
theorem dX9_hired_0 : decode cX9_hired 0 = .ok (.aload_n 0, 1) := by decide +kernel
theorem dX9_hired_1 : decode cX9_hired 1 = .ok (.getfield 19, 3) := by decide +kernel
theorem dX9_hired_4 : decode cX9_hired 4 = .ok (.iload_n 1, 1) := by decide +kernel
theorem dX9_hired_5 : decode cX9_hired 5 = .ok (.invokevirtual 161, 3) := by decide +kernel
theorem dX9_hired_8 : decode cX9_hired 8 = .ok (.ifCond .eq 24, 3) := by decide +kernel
theorem dX9_hired_11 : decode cX9_hired 11 = .ok (.aload_n 0, 1) := by decide +kernel
theorem dX9_hired_12 : decode cX9_hired 12 = .ok (.getfield 19, 3) := by decide +kernel
theorem dX9_hired_15 : decode cX9_hired 15 = .ok (.iload_n 2, 1) := by decide +kernel
theorem dX9_hired_16 : decode cX9_hired 16 = .ok (.invokevirtual 161, 3) := by decide +kernel
theorem dX9_hired_19 : decode cX9_hired 19 = .ok (.ifCond .eq 13, 3) := by decide +kernel
theorem dX9_hired_22 : decode cX9_hired 22 = .ok (.iload_n 3, 1) := by decide +kernel
theorem dX9_hired_23 : decode cX9_hired 23 = .ok (.iconst 1, 1) := by decide +kernel
theorem dX9_hired_24 : decode cX9_hired 24 = .ok (.bipush 99, 2) := by decide +kernel
theorem dX9_hired_26 : decode cX9_hired 26 = .ok (.invokestatic 97, 3) := by decide +kernel
theorem dX9_hired_29 : decode cX9_hired 29 = .ok (.ifCond .ne 5, 3) := by decide +kernel
theorem dX9_hired_32 : decode cX9_hired 32 = .ok (.iconst (-1), 1) := by decide +kernel
theorem dX9_hired_33 : decode cX9_hired 33 = .ok (.ireturn, 1) := by decide +kernel
theorem dX9_hired_34 : decode cX9_hired 34 = .ok (.aload_n 0, 1) := by decide +kernel
theorem dX9_hired_35 : decode cX9_hired 35 = .ok (.getfield 71, 3) := by decide +kernel
theorem dX9_hired_38 : decode cX9_hired 38 = .ok (.aload_n 0, 1) := by decide +kernel
theorem dX9_hired_39 : decode cX9_hired 39 = .ok (.getfield 29, 3) := by decide +kernel
theorem dX9_hired_42 : decode cX9_hired 42 = .ok (.invokevirtual 164, 3) := by decide +kernel
theorem dX9_hired_45 : decode cX9_hired 45 = .ok (.aload_n 0, 1) := by decide +kernel
theorem dX9_hired_46 : decode cX9_hired 46 = .ok (.getfield 71, 3) := by decide +kernel
theorem dX9_hired_49 : decode cX9_hired 49 = .ok (.iload_n 1, 1) := by decide +kernel
theorem dX9_hired_50 : decode cX9_hired 50 = .ok (.iload_n 2, 1) := by decide +kernel
theorem dX9_hired_51 : decode cX9_hired 51 = .ok (.invokevirtual 268, 3) := by decide +kernel
theorem dX9_hired_54 : decode cX9_hired 54 = .ok (.iload_n 3, 1) := by decide +kernel
theorem dX9_hired_55 : decode cX9_hired 55 = .ok (.iadd, 1) := by decide +kernel
theorem dX9_hired_56 : decode cX9_hired 56 = .ok (.istore 4, 2) := by decide +kernel
theorem dX9_hired_58 : decode cX9_hired 58 = .ok (.iload 4, 2) := by decide +kernel
theorem dX9_hired_60 : decode cX9_hired 60 = .ok (.bipush 99, 2) := by decide +kernel
theorem dX9_hired_62 : decode cX9_hired 62 = .ok (.if_icmp .gt 8, 3) := by decide +kernel
theorem dX9_hired_65 : decode cX9_hired 65 = .ok (.iload 4, 2) := by decide +kernel
theorem dX9_hired_67 : decode cX9_hired 67 = .ok (.goto 5, 3) := by decide +kernel
theorem dX9_hired_70 : decode cX9_hired 70 = .ok (.bipush (-9), 2) := by decide +kernel
theorem dX9_hired_72 : decode cX9_hired 72 = .ok (.ireturn, 1) := by decide +kernel
theorem dX9_way_0 : decode cX9_way 0 = .ok (.aload_n 0, 1) := by decide +kernel
theorem dX9_way_1 : decode cX9_way 1 = .ok (.getfield 19, 3) := by decide +kernel
theorem dX9_way_4 : decode cX9_way 4 = .ok (.iload_n 1, 1) := by decide +kernel
theorem dX9_way_5 : decode cX9_way 5 = .ok (.invokevirtual 161, 3) := by decide +kernel
theorem dX9_way_8 : decode cX9_way 8 = .ok (.ifCond .eq 24, 3) := by decide +kernel
theorem dX9_way_11 : decode cX9_way 11 = .ok (.aload_n 0, 1) := by decide +kernel
theorem dX9_way_12 : decode cX9_way 12 = .ok (.getfield 19, 3) := by decide +kernel
theorem dX9_way_15 : decode cX9_way 15 = .ok (.iload_n 2, 1) := by decide +kernel
theorem dX9_way_16 : decode cX9_way 16 = .ok (.invokevirtual 161, 3) := by decide +kernel
theorem dX9_way_19 : decode cX9_way 19 = .ok (.ifCond .eq 13, 3) := by decide +kernel
theorem dX9_way_22 : decode cX9_way 22 = .ok (.iload_n 3, 1) := by decide +kernel
theorem dX9_way_23 : decode cX9_way 23 = .ok (.iconst 1, 1) := by decide +kernel
theorem dX9_way_24 : decode cX9_way 24 = .ok (.bipush 99, 2) := by decide +kernel
theorem dX9_way_26 : decode cX9_way 26 = .ok (.invokestatic 97, 3) := by decide +kernel
theorem dX9_way_29 : decode cX9_way 29 = .ok (.ifCond .ne 5, 3) := by decide +kernel
theorem dX9_way_32 : decode cX9_way 32 = .ok (.iconst (-1), 1) := by decide +kernel
theorem dX9_way_33 : decode cX9_way 33 = .ok (.ireturn, 1) := by decide +kernel
theorem dX9_way_34 : decode cX9_way 34 = .ok (.aload_n 0, 1) := by decide +kernel
theorem dX9_way_35 : decode cX9_way 35 = .ok (.getfield 71, 3) := by decide +kernel
theorem dX9_way_38 : decode cX9_way 38 = .ok (.aload_n 0, 1) := by decide +kernel
theorem dX9_way_39 : decode cX9_way 39 = .ok (.getfield 29, 3) := by decide +kernel
theorem dX9_way_42 : decode cX9_way 42 = .ok (.invokevirtual 164, 3) := by decide +kernel
theorem dX9_way_45 : decode cX9_way 45 = .ok (.iconst 0, 1) := by decide +kernel
theorem dX9_way_46 : decode cX9_way 46 = .ok (.istore 4, 2) := by decide +kernel
theorem dX9_way_48 : decode cX9_way 48 = .ok (.iload 4, 2) := by decide +kernel
theorem dX9_way_50 : decode cX9_way 50 = .ok (.bipush 12, 2) := by decide +kernel
theorem dX9_way_52 : decode cX9_way 52 = .ok (.if_icmp .ge 18, 3) := by decide +kernel
theorem dX9_way_55 : decode cX9_way 55 = .ok (.aload_n 0, 1) := by decide +kernel
theorem dX9_way_56 : decode cX9_way 56 = .ok (.getfield 93, 3) := by decide +kernel
theorem dX9_way_59 : decode cX9_way 59 = .ok (.iload 4, 2) := by decide +kernel
theorem dX9_way_61 : decode cX9_way 61 = .ok (.bipush (-9), 2) := by decide +kernel
theorem dX9_way_63 : decode cX9_way 63 = .ok (.iastore, 1) := by decide +kernel
theorem dX9_way_64 : decode cX9_way 64 = .ok (.iinc 4 1, 3) := by decide +kernel
theorem dX9_way_67 : decode cX9_way 67 = .ok (.goto (-19), 3) := by decide +kernel
theorem dX9_way_70 : decode cX9_way 70 = .ok (.aload_n 0, 1) := by decide +kernel
theorem dX9_way_71 : decode cX9_way 71 = .ok (.getfield 80, 3) := by decide +kernel
theorem dX9_way_74 : decode cX9_way 74 = .ok (.iload_n 1, 1) := by decide +kernel
theorem dX9_way_75 : decode cX9_way 75 = .ok (.iload_n 3, 1) := by decide +kernel
theorem dX9_way_76 : decode cX9_way 76 = .ok (.invokevirtual 279, 3) := by decide +kernel
theorem dX9_way_79 : decode cX9_way 79 = .ok (.ifCond .eq 10, 3) := by decide +kernel
theorem dX9_way_82 : decode cX9_way 82 = .ok (.aload_n 0, 1) := by decide +kernel
theorem dX9_way_83 : decode cX9_way 83 = .ok (.getfield 93, 3) := by decide +kernel
theorem dX9_way_86 : decode cX9_way 86 = .ok (.iload_n 1, 1) := by decide +kernel
theorem dX9_way_87 : decode cX9_way 87 = .ok (.iconst 0, 1) := by decide +kernel
theorem dX9_way_88 : decode cX9_way 88 = .ok (.iastore, 1) := by decide +kernel
theorem dX9_way_89 : decode cX9_way 89 = .ok (.iconst 0, 1) := by decide +kernel
theorem dX9_way_90 : decode cX9_way 90 = .ok (.istore 4, 2) := by decide +kernel
theorem dX9_way_92 : decode cX9_way 92 = .ok (.iload 4, 2) := by decide +kernel
theorem dX9_way_94 : decode cX9_way 94 = .ok (.aload_n 0, 1) := by decide +kernel
theorem dX9_way_95 : decode cX9_way 95 = .ok (.getfield 19, 3) := by decide +kernel
theorem dX9_way_98 : decode cX9_way 98 = .ok (.getfield 262, 3) := by decide +kernel
theorem dX9_way_101 : decode cX9_way 101 = .ok (.if_icmp .ge 27, 3) := by decide +kernel
theorem dX9_way_104 : decode cX9_way 104 = .ok (.aload_n 0, 1) := by decide +kernel
theorem dX9_way_105 : decode cX9_way 105 = .ok (.getfield 93, 3) := by decide +kernel
theorem dX9_way_108 : decode cX9_way 108 = .ok (.iload_n 2, 1) := by decide +kernel
theorem dX9_way_109 : decode cX9_way 109 = .ok (.iaload, 1) := by decide +kernel
theorem dX9_way_110 : decode cX9_way 110 = .ok (.bipush (-9), 2) := by decide +kernel
theorem dX9_way_112 : decode cX9_way 112 = .ok (.if_icmp .ne 16, 3) := by decide +kernel
theorem dX9_way_115 : decode cX9_way 115 = .ok (.aload_n 0, 1) := by decide +kernel
theorem dX9_way_116 : decode cX9_way 116 = .ok (.iload 4, 2) := by decide +kernel
theorem dX9_way_118 : decode cX9_way 118 = .ok (.iload_n 3, 1) := by decide +kernel
theorem dX9_way_119 : decode cX9_way 119 = .ok (.invokevirtual 282, 3) := by decide +kernel
theorem dX9_way_122 : decode cX9_way 122 = .ok (.iinc 4 1, 3) := by decide +kernel
theorem dX9_way_125 : decode cX9_way 125 = .ok (.goto (-33), 3) := by decide +kernel
theorem dX9_way_128 : decode cX9_way 128 = .ok (.aload_n 0, 1) := by decide +kernel
theorem dX9_way_129 : decode cX9_way 129 = .ok (.getfield 93, 3) := by decide +kernel
theorem dX9_way_132 : decode cX9_way 132 = .ok (.iload_n 2, 1) := by decide +kernel
theorem dX9_way_133 : decode cX9_way 133 = .ok (.iaload, 1) := by decide +kernel
theorem dX9_way_134 : decode cX9_way 134 = .ok (.ireturn, 1) := by decide +kernel
theorem dX9_walkOn_0 : decode cX9_walkOn 0 = .ok (.iconst 0, 1) := by decide +kernel
theorem dX9_walkOn_1 : decode cX9_walkOn 1 = .ok (.istore_n 3, 1) := by decide +kernel
theorem dX9_walkOn_2 : decode cX9_walkOn 2 = .ok (.iload_n 3, 1) := by decide +kernel
theorem dX9_walkOn_3 : decode cX9_walkOn 3 = .ok (.aload_n 0, 1) := by decide +kernel
theorem dX9_walkOn_4 : decode cX9_walkOn 4 = .ok (.getfield 19, 3) := by decide +kernel
theorem dX9_walkOn_7 : decode cX9_walkOn 7 = .ok (.getfield 262, 3) := by decide +kernel
theorem dX9_walkOn_10 : decode cX9_walkOn 10 = .ok (.if_icmp .ge 93, 3) := by decide +kernel
theorem dX9_walkOn_13 : decode cX9_walkOn 13 = .ok (.iconst 0, 1) := by decide +kernel
theorem dX9_walkOn_14 : decode cX9_walkOn 14 = .ok (.istore 4, 2) := by decide +kernel
theorem dX9_walkOn_16 : decode cX9_walkOn 16 = .ok (.iload 4, 2) := by decide +kernel
theorem dX9_walkOn_18 : decode cX9_walkOn 18 = .ok (.iconst 4, 1) := by decide +kernel
theorem dX9_walkOn_19 : decode cX9_walkOn 19 = .ok (.if_icmp .ge 78, 3) := by decide +kernel
theorem dX9_walkOn_22 : decode cX9_walkOn 22 = .ok (.aload_n 0, 1) := by decide +kernel
theorem dX9_walkOn_23 : decode cX9_walkOn 23 = .ok (.getfield 93, 3) := by decide +kernel
theorem dX9_walkOn_26 : decode cX9_walkOn 26 = .ok (.iload_n 3, 1) := by decide +kernel
theorem dX9_walkOn_27 : decode cX9_walkOn 27 = .ok (.iaload, 1) := by decide +kernel
theorem dX9_walkOn_28 : decode cX9_walkOn 28 = .ok (.iload_n 1, 1) := by decide +kernel
theorem dX9_walkOn_29 : decode cX9_walkOn 29 = .ok (.if_icmp .ne 68, 3) := by decide +kernel
theorem dX9_walkOn_32 : decode cX9_walkOn 32 = .ok (.aload_n 0, 1) := by decide +kernel
theorem dX9_walkOn_33 : decode cX9_walkOn 33 = .ok (.getfield 71, 3) := by decide +kernel
theorem dX9_walkOn_36 : decode cX9_walkOn 36 = .ok (.iload_n 3, 1) := by decide +kernel
theorem dX9_walkOn_37 : decode cX9_walkOn 37 = .ok (.iload 4, 2) := by decide +kernel
theorem dX9_walkOn_39 : decode cX9_walkOn 39 = .ok (.invokevirtual 285, 3) := by decide +kernel
theorem dX9_walkOn_42 : decode cX9_walkOn 42 = .ok (.istore 5, 2) := by decide +kernel
theorem dX9_walkOn_44 : decode cX9_walkOn 44 = .ok (.aload_n 0, 1) := by decide +kernel
theorem dX9_walkOn_45 : decode cX9_walkOn 45 = .ok (.getfield 19, 3) := by decide +kernel
theorem dX9_walkOn_48 : decode cX9_walkOn 48 = .ok (.iload 5, 2) := by decide +kernel
theorem dX9_walkOn_50 : decode cX9_walkOn 50 = .ok (.invokevirtual 161, 3) := by decide +kernel
theorem dX9_walkOn_53 : decode cX9_walkOn 53 = .ok (.ifCond .eq 38, 3) := by decide +kernel
theorem dX9_walkOn_56 : decode cX9_walkOn 56 = .ok (.aload_n 0, 1) := by decide +kernel
theorem dX9_walkOn_57 : decode cX9_walkOn 57 = .ok (.getfield 93, 3) := by decide +kernel
theorem dX9_walkOn_60 : decode cX9_walkOn 60 = .ok (.iload 5, 2) := by decide +kernel
theorem dX9_walkOn_62 : decode cX9_walkOn 62 = .ok (.iaload, 1) := by decide +kernel
theorem dX9_walkOn_63 : decode cX9_walkOn 63 = .ok (.bipush (-9), 2) := by decide +kernel
theorem dX9_walkOn_65 : decode cX9_walkOn 65 = .ok (.if_icmp .ne 26, 3) := by decide +kernel
theorem dX9_walkOn_68 : decode cX9_walkOn 68 = .ok (.aload_n 0, 1) := by decide +kernel
theorem dX9_walkOn_69 : decode cX9_walkOn 69 = .ok (.getfield 80, 3) := by decide +kernel
theorem dX9_walkOn_72 : decode cX9_walkOn 72 = .ok (.iload 5, 2) := by decide +kernel
theorem dX9_walkOn_74 : decode cX9_walkOn 74 = .ok (.iload_n 2, 1) := by decide +kernel
theorem dX9_walkOn_75 : decode cX9_walkOn 75 = .ok (.invokevirtual 279, 3) := by decide +kernel
theorem dX9_walkOn_78 : decode cX9_walkOn 78 = .ok (.ifCond .eq 13, 3) := by decide +kernel
theorem dX9_walkOn_81 : decode cX9_walkOn 81 = .ok (.aload_n 0, 1) := by decide +kernel
theorem dX9_walkOn_82 : decode cX9_walkOn 82 = .ok (.getfield 93, 3) := by decide +kernel
theorem dX9_walkOn_85 : decode cX9_walkOn 85 = .ok (.iload 5, 2) := by decide +kernel
theorem dX9_walkOn_87 : decode cX9_walkOn 87 = .ok (.iload_n 1, 1) := by decide +kernel
theorem dX9_walkOn_88 : decode cX9_walkOn 88 = .ok (.iconst 1, 1) := by decide +kernel
theorem dX9_walkOn_89 : decode cX9_walkOn 89 = .ok (.iadd, 1) := by decide +kernel
theorem dX9_walkOn_90 : decode cX9_walkOn 90 = .ok (.iastore, 1) := by decide +kernel
theorem dX9_walkOn_91 : decode cX9_walkOn 91 = .ok (.iinc 4 1, 3) := by decide +kernel
theorem dX9_walkOn_94 : decode cX9_walkOn 94 = .ok (.goto (-78), 3) := by decide +kernel
theorem dX9_walkOn_97 : decode cX9_walkOn 97 = .ok (.iinc 3 1, 3) := by decide +kernel
theorem dX9_walkOn_100 : decode cX9_walkOn 100 = .ok (.goto (-98), 3) := by decide +kernel
theorem dX9_walkOn_103 : decode cX9_walkOn 103 = .ok (.return_, 1) := by decide +kernel
theorem dX9_tap_0 : decode cX9_tap 0 = .ok (.aload_n 0, 1) := by decide +kernel
theorem dX9_tap_1 : decode cX9_tap 1 = .ok (.getfield 19, 3) := by decide +kernel
theorem dX9_tap_4 : decode cX9_tap 4 = .ok (.iload_n 1, 1) := by decide +kernel
theorem dX9_tap_5 : decode cX9_tap 5 = .ok (.invokevirtual 161, 3) := by decide +kernel
theorem dX9_tap_8 : decode cX9_tap 8 = .ok (.ifCond .eq 13, 3) := by decide +kernel
theorem dX9_tap_11 : decode cX9_tap 11 = .ok (.iload_n 2, 1) := by decide +kernel
theorem dX9_tap_12 : decode cX9_tap 12 = .ok (.iconst 1, 1) := by decide +kernel
theorem dX9_tap_13 : decode cX9_tap 13 = .ok (.bipush 99, 2) := by decide +kernel
theorem dX9_tap_15 : decode cX9_tap 15 = .ok (.invokestatic 97, 3) := by decide +kernel
theorem dX9_tap_18 : decode cX9_tap 18 = .ok (.ifCond .ne 5, 3) := by decide +kernel
theorem dX9_tap_21 : decode cX9_tap 21 = .ok (.iconst (-1), 1) := by decide +kernel
theorem dX9_tap_22 : decode cX9_tap 22 = .ok (.ireturn, 1) := by decide +kernel
theorem dX9_tap_23 : decode cX9_tap 23 = .ok (.aload_n 0, 1) := by decide +kernel
theorem dX9_tap_24 : decode cX9_tap 24 = .ok (.getfield 19, 3) := by decide +kernel
theorem dX9_tap_27 : decode cX9_tap 27 = .ok (.iload_n 3, 1) := by decide +kernel
theorem dX9_tap_28 : decode cX9_tap 28 = .ok (.invokevirtual 161, 3) := by decide +kernel
theorem dX9_tap_31 : decode cX9_tap 31 = .ok (.ifCond .eq 14, 3) := by decide +kernel
theorem dX9_tap_34 : decode cX9_tap 34 = .ok (.iload 4, 2) := by decide +kernel
theorem dX9_tap_36 : decode cX9_tap 36 = .ok (.iconst 0, 1) := by decide +kernel
theorem dX9_tap_37 : decode cX9_tap 37 = .ok (.bipush 99, 2) := by decide +kernel
theorem dX9_tap_39 : decode cX9_tap 39 = .ok (.invokestatic 97, 3) := by decide +kernel
theorem dX9_tap_42 : decode cX9_tap 42 = .ok (.ifCond .ne 5, 3) := by decide +kernel
theorem dX9_tap_45 : decode cX9_tap 45 = .ok (.iconst (-1), 1) := by decide +kernel
theorem dX9_tap_46 : decode cX9_tap 46 = .ok (.ireturn, 1) := by decide +kernel
theorem dX9_tap_47 : decode cX9_tap 47 = .ok (.aload_n 0, 1) := by decide +kernel
theorem dX9_tap_48 : decode cX9_tap 48 = .ok (.getfield 63, 3) := by decide +kernel
theorem dX9_tap_51 : decode cX9_tap 51 = .ok (.invokevirtual 258, 3) := by decide +kernel
theorem dX9_tap_54 : decode cX9_tap 54 = .ok (.ifCond .eq 6, 3) := by decide +kernel
theorem dX9_tap_57 : decode cX9_tap 57 = .ok (.bipush (-3), 2) := by decide +kernel
theorem dX9_tap_59 : decode cX9_tap 59 = .ok (.ireturn, 1) := by decide +kernel
theorem dX9_tap_60 : decode cX9_tap 60 = .ok (.aload_n 0, 1) := by decide +kernel
theorem dX9_tap_61 : decode cX9_tap 61 = .ok (.getfield 63, 3) := by decide +kernel
theorem dX9_tap_64 : decode cX9_tap 64 = .ok (.iload_n 1, 1) := by decide +kernel
theorem dX9_tap_65 : decode cX9_tap 65 = .ok (.iload_n 2, 1) := by decide +kernel
theorem dX9_tap_66 : decode cX9_tap 66 = .ok (.iload_n 3, 1) := by decide +kernel
theorem dX9_tap_67 : decode cX9_tap 67 = .ok (.iload 4, 2) := by decide +kernel
theorem dX9_tap_69 : decode cX9_tap 69 = .ok (.invokevirtual 259, 3) := by decide +kernel
theorem dX9_tap_72 : decode cX9_tap 72 = .ok (.aload_n 0, 1) := by decide +kernel
theorem dX9_tap_73 : decode cX9_tap 73 = .ok (.getfield 63, 3) := by decide +kernel
theorem dX9_tap_76 : decode cX9_tap 76 = .ok (.invokevirtual 214, 3) := by decide +kernel
theorem dX9_tap_79 : decode cX9_tap 79 = .ok (.ireturn, 1) := by decide +kernel
theorem dX9_mayBe_0 : decode cX9_mayBe 0 = .ok (.iconst 0, 1) := by decide +kernel
theorem dX9_mayBe_1 : decode cX9_mayBe 1 = .ok (.istore_n 1, 1) := by decide +kernel
theorem dX9_mayBe_2 : decode cX9_mayBe 2 = .ok (.iconst 0, 1) := by decide +kernel
theorem dX9_mayBe_3 : decode cX9_mayBe 3 = .ok (.istore_n 2, 1) := by decide +kernel
theorem dX9_mayBe_4 : decode cX9_mayBe 4 = .ok (.iload_n 2, 1) := by decide +kernel
theorem dX9_mayBe_5 : decode cX9_mayBe 5 = .ok (.aload_n 0, 1) := by decide +kernel
theorem dX9_mayBe_6 : decode cX9_mayBe 6 = .ok (.getfield 19, 3) := by decide +kernel
theorem dX9_mayBe_9 : decode cX9_mayBe 9 = .ok (.getfield 144, 3) := by decide +kernel
theorem dX9_mayBe_12 : decode cX9_mayBe 12 = .ok (.invokevirtual 214, 3) := by decide +kernel
theorem dX9_mayBe_15 : decode cX9_mayBe 15 = .ok (.if_icmp .ge 34, 3) := by decide +kernel
theorem dX9_mayBe_18 : decode cX9_mayBe 18 = .ok (.aload_n 0, 1) := by decide +kernel
theorem dX9_mayBe_19 : decode cX9_mayBe 19 = .ok (.getfield 29, 3) := by decide +kernel
theorem dX9_mayBe_22 : decode cX9_mayBe 22 = .ok (.iload_n 2, 1) := by decide +kernel
theorem dX9_mayBe_23 : decode cX9_mayBe 23 = .ok (.invokevirtual 186, 3) := by decide +kernel
theorem dX9_mayBe_26 : decode cX9_mayBe 26 = .ok (.ifCond .eq 17, 3) := by decide +kernel
theorem dX9_mayBe_29 : decode cX9_mayBe 29 = .ok (.aload_n 0, 1) := by decide +kernel
theorem dX9_mayBe_30 : decode cX9_mayBe 30 = .ok (.iload_n 2, 1) := by decide +kernel
theorem dX9_mayBe_31 : decode cX9_mayBe 31 = .ok (.invokevirtual 288, 3) := by decide +kernel
theorem dX9_mayBe_34 : decode cX9_mayBe 34 = .ok (.ifCond .eq 9, 3) := by decide +kernel
theorem dX9_mayBe_37 : decode cX9_mayBe 37 = .ok (.iload_n 1, 1) := by decide +kernel
theorem dX9_mayBe_38 : decode cX9_mayBe 38 = .ok (.iconst 1, 1) := by decide +kernel
theorem dX9_mayBe_39 : decode cX9_mayBe 39 = .ok (.iload_n 2, 1) := by decide +kernel
theorem dX9_mayBe_40 : decode cX9_mayBe 40 = .ok (.ishl, 1) := by decide +kernel
theorem dX9_mayBe_41 : decode cX9_mayBe 41 = .ok (.ior, 1) := by decide +kernel
theorem dX9_mayBe_42 : decode cX9_mayBe 42 = .ok (.istore_n 1, 1) := by decide +kernel
theorem dX9_mayBe_43 : decode cX9_mayBe 43 = .ok (.iinc 2 1, 3) := by decide +kernel
theorem dX9_mayBe_46 : decode cX9_mayBe 46 = .ok (.goto (-42), 3) := by decide +kernel
theorem dX9_mayBe_49 : decode cX9_mayBe 49 = .ok (.iload_n 1, 1) := by decide +kernel
theorem dX9_mayBe_50 : decode cX9_mayBe 50 = .ok (.ireturn, 1) := by decide +kernel
theorem dX9_tapsAgreeWithSham_0 : decode cX9_tapsAgreeWithSham 0 = .ok (.aload_n 0, 1) := by decide +kernel
theorem dX9_tapsAgreeWithSham_1 : decode cX9_tapsAgreeWithSham 1 = .ok (.getfield 71, 3) := by decide +kernel
theorem dX9_tapsAgreeWithSham_4 : decode cX9_tapsAgreeWithSham 4 = .ok (.aload_n 0, 1) := by decide +kernel
theorem dX9_tapsAgreeWithSham_5 : decode cX9_tapsAgreeWithSham 5 = .ok (.getfield 29, 3) := by decide +kernel
theorem dX9_tapsAgreeWithSham_8 : decode cX9_tapsAgreeWithSham 8 = .ok (.invokevirtual 164, 3) := by decide +kernel
theorem dX9_tapsAgreeWithSham_11 : decode cX9_tapsAgreeWithSham 11 = .ok (.aload_n 0, 1) := by decide +kernel
theorem dX9_tapsAgreeWithSham_12 : decode cX9_tapsAgreeWithSham 12 = .ok (.getfield 71, 3) := by decide +kernel
theorem dX9_tapsAgreeWithSham_15 : decode cX9_tapsAgreeWithSham 15 = .ok (.iload_n 1, 1) := by decide +kernel
theorem dX9_tapsAgreeWithSham_16 : decode cX9_tapsAgreeWithSham 16 = .ok (.iconst 0, 1) := by decide +kernel
theorem dX9_tapsAgreeWithSham_17 : decode cX9_tapsAgreeWithSham 17 = .ok (.invokevirtual 218, 3) := by decide +kernel
theorem dX9_tapsAgreeWithSham_20 : decode cX9_tapsAgreeWithSham 20 = .ok (.iconst 0, 1) := by decide +kernel
theorem dX9_tapsAgreeWithSham_21 : decode cX9_tapsAgreeWithSham 21 = .ok (.istore_n 2, 1) := by decide +kernel
theorem dX9_tapsAgreeWithSham_22 : decode cX9_tapsAgreeWithSham 22 = .ok (.iload_n 2, 1) := by decide +kernel
theorem dX9_tapsAgreeWithSham_23 : decode cX9_tapsAgreeWithSham 23 = .ok (.aload_n 0, 1) := by decide +kernel
theorem dX9_tapsAgreeWithSham_24 : decode cX9_tapsAgreeWithSham 24 = .ok (.getfield 63, 3) := by decide +kernel
theorem dX9_tapsAgreeWithSham_27 : decode cX9_tapsAgreeWithSham 27 = .ok (.invokevirtual 214, 3) := by decide +kernel
theorem dX9_tapsAgreeWithSham_30 : decode cX9_tapsAgreeWithSham 30 = .ok (.if_icmp .ge 57, 3) := by decide +kernel
theorem dX9_tapsAgreeWithSham_33 : decode cX9_tapsAgreeWithSham 33 = .ok (.aload_n 0, 1) := by decide +kernel
theorem dX9_tapsAgreeWithSham_34 : decode cX9_tapsAgreeWithSham 34 = .ok (.getfield 80, 3) := by decide +kernel
theorem dX9_tapsAgreeWithSham_37 : decode cX9_tapsAgreeWithSham 37 = .ok (.aload_n 0, 1) := by decide +kernel
theorem dX9_tapsAgreeWithSham_38 : decode cX9_tapsAgreeWithSham 38 = .ok (.getfield 63, 3) := by decide +kernel
theorem dX9_tapsAgreeWithSham_41 : decode cX9_tapsAgreeWithSham 41 = .ok (.iload_n 2, 1) := by decide +kernel
theorem dX9_tapsAgreeWithSham_42 : decode cX9_tapsAgreeWithSham 42 = .ok (.iconst 1, 1) := by decide +kernel
theorem dX9_tapsAgreeWithSham_43 : decode cX9_tapsAgreeWithSham 43 = .ok (.invokevirtual 140, 3) := by decide +kernel
theorem dX9_tapsAgreeWithSham_46 : decode cX9_tapsAgreeWithSham 46 = .ok (.aload_n 0, 1) := by decide +kernel
theorem dX9_tapsAgreeWithSham_47 : decode cX9_tapsAgreeWithSham 47 = .ok (.getfield 63, 3) := by decide +kernel
theorem dX9_tapsAgreeWithSham_50 : decode cX9_tapsAgreeWithSham 50 = .ok (.iload_n 2, 1) := by decide +kernel
theorem dX9_tapsAgreeWithSham_51 : decode cX9_tapsAgreeWithSham 51 = .ok (.iconst 0, 1) := by decide +kernel
theorem dX9_tapsAgreeWithSham_52 : decode cX9_tapsAgreeWithSham 52 = .ok (.invokevirtual 140, 3) := by decide +kernel
theorem dX9_tapsAgreeWithSham_55 : decode cX9_tapsAgreeWithSham 55 = .ok (.aload_n 0, 1) := by decide +kernel
theorem dX9_tapsAgreeWithSham_56 : decode cX9_tapsAgreeWithSham 56 = .ok (.getfield 63, 3) := by decide +kernel
theorem dX9_tapsAgreeWithSham_59 : decode cX9_tapsAgreeWithSham 59 = .ok (.iload_n 2, 1) := by decide +kernel
theorem dX9_tapsAgreeWithSham_60 : decode cX9_tapsAgreeWithSham 60 = .ok (.iconst 2, 1) := by decide +kernel
theorem dX9_tapsAgreeWithSham_61 : decode cX9_tapsAgreeWithSham 61 = .ok (.invokevirtual 140, 3) := by decide +kernel
theorem dX9_tapsAgreeWithSham_64 : decode cX9_tapsAgreeWithSham 64 = .ok (.invokevirtual 291, 3) := by decide +kernel
theorem dX9_tapsAgreeWithSham_67 : decode cX9_tapsAgreeWithSham 67 = .ok (.aload_n 0, 1) := by decide +kernel
theorem dX9_tapsAgreeWithSham_68 : decode cX9_tapsAgreeWithSham 68 = .ok (.getfield 63, 3) := by decide +kernel
theorem dX9_tapsAgreeWithSham_71 : decode cX9_tapsAgreeWithSham 71 = .ok (.iload_n 2, 1) := by decide +kernel
theorem dX9_tapsAgreeWithSham_72 : decode cX9_tapsAgreeWithSham 72 = .ok (.iconst 3, 1) := by decide +kernel
theorem dX9_tapsAgreeWithSham_73 : decode cX9_tapsAgreeWithSham 73 = .ok (.invokevirtual 140, 3) := by decide +kernel
theorem dX9_tapsAgreeWithSham_76 : decode cX9_tapsAgreeWithSham 76 = .ok (.if_icmp .eq 5, 3) := by decide +kernel
theorem dX9_tapsAgreeWithSham_79 : decode cX9_tapsAgreeWithSham 79 = .ok (.iconst 0, 1) := by decide +kernel
theorem dX9_tapsAgreeWithSham_80 : decode cX9_tapsAgreeWithSham 80 = .ok (.ireturn, 1) := by decide +kernel
theorem dX9_tapsAgreeWithSham_81 : decode cX9_tapsAgreeWithSham 81 = .ok (.iinc 2 1, 3) := by decide +kernel
theorem dX9_tapsAgreeWithSham_84 : decode cX9_tapsAgreeWithSham 84 = .ok (.goto (-62), 3) := by decide +kernel
theorem dX9_tapsAgreeWithSham_87 : decode cX9_tapsAgreeWithSham 87 = .ok (.iconst 1, 1) := by decide +kernel
theorem dX9_tapsAgreeWithSham_88 : decode cX9_tapsAgreeWithSham 88 = .ok (.ireturn, 1) := by decide +kernel
theorem dX9_odds_0 : decode cX9_odds 0 = .ok (.aload_n 0, 1) := by decide +kernel
theorem dX9_odds_1 : decode cX9_odds 1 = .ok (.getfield 19, 3) := by decide +kernel
theorem dX9_odds_4 : decode cX9_odds 4 = .ok (.getfield 158, 3) := by decide +kernel
theorem dX9_odds_7 : decode cX9_odds 7 = .ok (.iload_n 1, 1) := by decide +kernel
theorem dX9_odds_8 : decode cX9_odds 8 = .ok (.invokevirtual 136, 3) := by decide +kernel
theorem dX9_odds_11 : decode cX9_odds 11 = .ok (.ifCond .eq 22, 3) := by decide +kernel
theorem dX9_odds_14 : decode cX9_odds 14 = .ok (.iload_n 2, 1) := by decide +kernel
theorem dX9_odds_15 : decode cX9_odds 15 = .ok (.iconst 0, 1) := by decide +kernel
theorem dX9_odds_16 : decode cX9_odds 16 = .ok (.bipush 10, 2) := by decide +kernel
theorem dX9_odds_18 : decode cX9_odds 18 = .ok (.invokestatic 97, 3) := by decide +kernel
theorem dX9_odds_21 : decode cX9_odds 21 = .ok (.ifCond .eq 12, 3) := by decide +kernel
theorem dX9_odds_24 : decode cX9_odds 24 = .ok (.iload_n 3, 1) := by decide +kernel
theorem dX9_odds_25 : decode cX9_odds 25 = .ok (.iconst 0, 1) := by decide +kernel
theorem dX9_odds_26 : decode cX9_odds 26 = .ok (.iconst 1, 1) := by decide +kernel
theorem dX9_odds_27 : decode cX9_odds 27 = .ok (.invokestatic 97, 3) := by decide +kernel
theorem dX9_odds_30 : decode cX9_odds 30 = .ok (.ifCond .ne 5, 3) := by decide +kernel
theorem dX9_odds_33 : decode cX9_odds 33 = .ok (.iconst (-1), 1) := by decide +kernel
theorem dX9_odds_34 : decode cX9_odds 34 = .ok (.ireturn, 1) := by decide +kernel
theorem dX9_odds_35 : decode cX9_odds 35 = .ok (.aload_n 0, 1) := by decide +kernel
theorem dX9_odds_36 : decode cX9_odds 36 = .ok (.getfield 71, 3) := by decide +kernel
theorem dX9_odds_39 : decode cX9_odds 39 = .ok (.aload_n 0, 1) := by decide +kernel
theorem dX9_odds_40 : decode cX9_odds 40 = .ok (.getfield 29, 3) := by decide +kernel
theorem dX9_odds_43 : decode cX9_odds 43 = .ok (.invokevirtual 164, 3) := by decide +kernel
theorem dX9_odds_46 : decode cX9_odds 46 = .ok (.iconst 1, 1) := by decide +kernel
theorem dX9_odds_47 : decode cX9_odds 47 = .ok (.istore 4, 2) := by decide +kernel
theorem dX9_odds_49 : decode cX9_odds 49 = .ok (.iconst 1, 1) := by decide +kernel
theorem dX9_odds_50 : decode cX9_odds 50 = .ok (.istore 5, 2) := by decide +kernel
theorem dX9_odds_52 : decode cX9_odds 52 = .ok (.iconst 0, 1) := by decide +kernel
theorem dX9_odds_53 : decode cX9_odds 53 = .ok (.istore 6, 2) := by decide +kernel
theorem dX9_odds_55 : decode cX9_odds 55 = .ok (.iload 6, 2) := by decide +kernel
theorem dX9_odds_57 : decode cX9_odds 57 = .ok (.aload_n 0, 1) := by decide +kernel
theorem dX9_odds_58 : decode cX9_odds 58 = .ok (.getfield 19, 3) := by decide +kernel
theorem dX9_odds_61 : decode cX9_odds 61 = .ok (.getfield 133, 3) := by decide +kernel
theorem dX9_odds_64 : decode cX9_odds 64 = .ok (.invokevirtual 214, 3) := by decide +kernel
theorem dX9_odds_67 : decode cX9_odds 67 = .ok (.if_icmp .ge 38, 3) := by decide +kernel
theorem dX9_odds_70 : decode cX9_odds 70 = .ok (.aload_n 0, 1) := by decide +kernel
theorem dX9_odds_71 : decode cX9_odds 71 = .ok (.getfield 80, 3) := by decide +kernel
theorem dX9_odds_74 : decode cX9_odds 74 = .ok (.iload 6, 2) := by decide +kernel
theorem dX9_odds_76 : decode cX9_odds 76 = .ok (.iload_n 1, 1) := by decide +kernel
theorem dX9_odds_77 : decode cX9_odds 77 = .ok (.invokevirtual 294, 3) := by decide +kernel
theorem dX9_odds_80 : decode cX9_odds 80 = .ok (.ifCond .eq 19, 3) := by decide +kernel
theorem dX9_odds_83 : decode cX9_odds 83 = .ok (.iload 4, 2) := by decide +kernel
theorem dX9_odds_85 : decode cX9_odds 85 = .ok (.bipush 10, 2) := by decide +kernel
theorem dX9_odds_87 : decode cX9_odds 87 = .ok (.iload_n 2, 1) := by decide +kernel
theorem dX9_odds_88 : decode cX9_odds 88 = .ok (.isub, 1) := by decide +kernel
theorem dX9_odds_89 : decode cX9_odds 89 = .ok (.imul, 1) := by decide +kernel
theorem dX9_odds_90 : decode cX9_odds 90 = .ok (.istore 4, 2) := by decide +kernel
theorem dX9_odds_92 : decode cX9_odds 92 = .ok (.iload 5, 2) := by decide +kernel
theorem dX9_odds_94 : decode cX9_odds 94 = .ok (.bipush 10, 2) := by decide +kernel
theorem dX9_odds_96 : decode cX9_odds 96 = .ok (.imul, 1) := by decide +kernel
theorem dX9_odds_97 : decode cX9_odds 97 = .ok (.istore 5, 2) := by decide +kernel
theorem dX9_odds_99 : decode cX9_odds 99 = .ok (.iinc 6 1, 3) := by decide +kernel
theorem dX9_odds_102 : decode cX9_odds 102 = .ok (.goto (-47), 3) := by decide +kernel
theorem dX9_odds_105 : decode cX9_odds 105 = .ok (.iconst 1, 1) := by decide +kernel
theorem dX9_odds_106 : decode cX9_odds 106 = .ok (.iload 4, 2) := by decide +kernel
theorem dX9_odds_108 : decode cX9_odds 108 = .ok (.iload 5, 2) := by decide +kernel
theorem dX9_odds_110 : decode cX9_odds 110 = .ok (.invokestatic 297, 3) := by decide +kernel
theorem dX9_odds_113 : decode cX9_odds 113 = .ok (.invokestatic 276, 3) := by decide +kernel
theorem dX9_odds_116 : decode cX9_odds 116 = .ok (.istore 6, 2) := by decide +kernel
theorem dX9_odds_118 : decode cX9_odds 118 = .ok (.iload_n 3, 1) := by decide +kernel
theorem dX9_odds_119 : decode cX9_odds 119 = .ok (.ifCond .ne 8, 3) := by decide +kernel
theorem dX9_odds_122 : decode cX9_odds 122 = .ok (.iload 4, 2) := by decide +kernel
theorem dX9_odds_124 : decode cX9_odds 124 = .ok (.goto 5, 3) := by decide +kernel
theorem dX9_odds_127 : decode cX9_odds 127 = .ok (.iload 5, 2) := by decide +kernel
theorem dX9_odds_129 : decode cX9_odds 129 = .ok (.iload 6, 2) := by decide +kernel
theorem dX9_odds_131 : decode cX9_odds 131 = .ok (.idiv, 1) := by decide +kernel
theorem dX9_odds_132 : decode cX9_odds 132 = .ok (.ireturn, 1) := by decide +kernel
theorem dX9_commonDivisor_0 : decode cX9_commonDivisor 0 = .ok (.iload_n 0, 1) := by decide +kernel
theorem dX9_commonDivisor_1 : decode cX9_commonDivisor 1 = .ok (.istore_n 2, 1) := by decide +kernel
theorem dX9_commonDivisor_2 : decode cX9_commonDivisor 2 = .ok (.iload_n 1, 1) := by decide +kernel
theorem dX9_commonDivisor_3 : decode cX9_commonDivisor 3 = .ok (.istore_n 3, 1) := by decide +kernel
theorem dX9_commonDivisor_4 : decode cX9_commonDivisor 4 = .ok (.iconst 0, 1) := by decide +kernel
theorem dX9_commonDivisor_5 : decode cX9_commonDivisor 5 = .ok (.istore 4, 2) := by decide +kernel
theorem dX9_commonDivisor_7 : decode cX9_commonDivisor 7 = .ok (.iload 4, 2) := by decide +kernel
theorem dX9_commonDivisor_9 : decode cX9_commonDivisor 9 = .ok (.bipush 64, 2) := by decide +kernel
theorem dX9_commonDivisor_11 : decode cX9_commonDivisor 11 = .ok (.if_icmp .ge 23, 3) := by decide +kernel
theorem dX9_commonDivisor_14 : decode cX9_commonDivisor 14 = .ok (.iload_n 3, 1) := by decide +kernel
theorem dX9_commonDivisor_15 : decode cX9_commonDivisor 15 = .ok (.ifCond .eq 19, 3) := by decide +kernel
theorem dX9_commonDivisor_18 : decode cX9_commonDivisor 18 = .ok (.iload_n 2, 1) := by decide +kernel
theorem dX9_commonDivisor_19 : decode cX9_commonDivisor 19 = .ok (.iload_n 3, 1) := by decide +kernel
theorem dX9_commonDivisor_20 : decode cX9_commonDivisor 20 = .ok (.irem, 1) := by decide +kernel
theorem dX9_commonDivisor_21 : decode cX9_commonDivisor 21 = .ok (.istore 5, 2) := by decide +kernel
theorem dX9_commonDivisor_23 : decode cX9_commonDivisor 23 = .ok (.iload_n 3, 1) := by decide +kernel
theorem dX9_commonDivisor_24 : decode cX9_commonDivisor 24 = .ok (.istore_n 2, 1) := by decide +kernel
theorem dX9_commonDivisor_25 : decode cX9_commonDivisor 25 = .ok (.iload 5, 2) := by decide +kernel
theorem dX9_commonDivisor_27 : decode cX9_commonDivisor 27 = .ok (.istore_n 3, 1) := by decide +kernel
theorem dX9_commonDivisor_28 : decode cX9_commonDivisor 28 = .ok (.iinc 4 1, 3) := by decide +kernel
theorem dX9_commonDivisor_31 : decode cX9_commonDivisor 31 = .ok (.goto (-24), 3) := by decide +kernel
theorem dX9_commonDivisor_34 : decode cX9_commonDivisor 34 = .ok (.iload_n 2, 1) := by decide +kernel
theorem dX9_commonDivisor_35 : decode cX9_commonDivisor 35 = .ok (.ireturn, 1) := by decide +kernel
theorem dX9_rate_0 : decode cX9_rate 0 = .ok (.aload_n 0, 1) := by decide +kernel
theorem dX9_rate_1 : decode cX9_rate 1 = .ok (.getfield 19, 3) := by decide +kernel
theorem dX9_rate_4 : decode cX9_rate 4 = .ok (.getfield 144, 3) := by decide +kernel
theorem dX9_rate_7 : decode cX9_rate 7 = .ok (.iload_n 2, 1) := by decide +kernel
theorem dX9_rate_8 : decode cX9_rate 8 = .ok (.invokevirtual 136, 3) := by decide +kernel
theorem dX9_rate_11 : decode cX9_rate 11 = .ok (.ifCond .ne 6, 3) := by decide +kernel
theorem dX9_rate_14 : decode cX9_rate 14 = .ok (.ldc 251, 2) := by decide +kernel
theorem dX9_rate_16 : decode cX9_rate 16 = .ok (.ireturn, 1) := by decide +kernel
theorem dX9_rate_17 : decode cX9_rate 17 = .ok (.iload_n 1, 1) := by decide +kernel
theorem dX9_rate_18 : decode cX9_rate 18 = .ok (.tableswitch 74 0 5 #[38, 44, 50, 56, 62, 68], 38) := by decide +kernel
theorem dX9_rate_56 : decode cX9_rate 56 = .ok (.aload_n 0, 1) := by decide +kernel
theorem dX9_rate_57 : decode cX9_rate 57 = .ok (.iload_n 2, 1) := by decide +kernel
theorem dX9_rate_58 : decode cX9_rate 58 = .ok (.invokevirtual 300, 3) := by decide +kernel
theorem dX9_rate_61 : decode cX9_rate 61 = .ok (.ireturn, 1) := by decide +kernel
theorem dX9_rate_62 : decode cX9_rate 62 = .ok (.aload_n 0, 1) := by decide +kernel
theorem dX9_rate_63 : decode cX9_rate 63 = .ok (.iload_n 2, 1) := by decide +kernel
theorem dX9_rate_64 : decode cX9_rate 64 = .ok (.invokevirtual 303, 3) := by decide +kernel
theorem dX9_rate_67 : decode cX9_rate 67 = .ok (.ireturn, 1) := by decide +kernel
theorem dX9_rate_68 : decode cX9_rate 68 = .ok (.aload_n 0, 1) := by decide +kernel
theorem dX9_rate_69 : decode cX9_rate 69 = .ok (.iload_n 2, 1) := by decide +kernel
theorem dX9_rate_70 : decode cX9_rate 70 = .ok (.invokevirtual 306, 3) := by decide +kernel
theorem dX9_rate_73 : decode cX9_rate 73 = .ok (.ireturn, 1) := by decide +kernel
theorem dX9_rate_74 : decode cX9_rate 74 = .ok (.aload_n 0, 1) := by decide +kernel
theorem dX9_rate_75 : decode cX9_rate 75 = .ok (.iload_n 2, 1) := by decide +kernel
theorem dX9_rate_76 : decode cX9_rate 76 = .ok (.invokevirtual 309, 3) := by decide +kernel
theorem dX9_rate_79 : decode cX9_rate 79 = .ok (.ireturn, 1) := by decide +kernel
theorem dX9_rate_80 : decode cX9_rate 80 = .ok (.aload_n 0, 1) := by decide +kernel
theorem dX9_rate_81 : decode cX9_rate 81 = .ok (.iload_n 2, 1) := by decide +kernel
theorem dX9_rate_82 : decode cX9_rate 82 = .ok (.invokevirtual 312, 3) := by decide +kernel
theorem dX9_rate_85 : decode cX9_rate 85 = .ok (.ireturn, 1) := by decide +kernel
theorem dX9_rate_86 : decode cX9_rate 86 = .ok (.aload_n 0, 1) := by decide +kernel
theorem dX9_rate_87 : decode cX9_rate 87 = .ok (.iload_n 2, 1) := by decide +kernel
theorem dX9_rate_88 : decode cX9_rate 88 = .ok (.invokevirtual 315, 3) := by decide +kernel
theorem dX9_rate_91 : decode cX9_rate 91 = .ok (.ireturn, 1) := by decide +kernel
theorem dX9_rate_92 : decode cX9_rate 92 = .ok (.ldc 251, 2) := by decide +kernel
theorem dX9_rate_94 : decode cX9_rate 94 = .ok (.ireturn, 1) := by decide +kernel
theorem dX9_asSheet_0 : decode cX9_asSheet 0 = .ok (.aload_n 0, 1) := by decide +kernel
theorem dX9_asSheet_1 : decode cX9_asSheet 1 = .ok (.dup, 1) := by decide +kernel
theorem dX9_asSheet_2 : decode cX9_asSheet 2 = .ok (.getfield 318, 3) := by decide +kernel
theorem dX9_asSheet_5 : decode cX9_asSheet 5 = .ok (.lconst 1, 1) := by decide +kernel
theorem dX9_asSheet_6 : decode cX9_asSheet 6 = .ok (.ladd, 1) := by decide +kernel
theorem dX9_asSheet_7 : decode cX9_asSheet 7 = .ok (.putfield 318, 3) := by decide +kernel
theorem dX9_asSheet_10 : decode cX9_asSheet 10 = .ok (.aload_n 0, 1) := by decide +kernel
theorem dX9_asSheet_11 : decode cX9_asSheet 11 = .ok (.getfield 19, 3) := by decide +kernel
theorem dX9_asSheet_14 : decode cX9_asSheet 14 = .ok (.iload_n 1, 1) := by decide +kernel
theorem dX9_asSheet_15 : decode cX9_asSheet 15 = .ok (.aload_n 0, 1) := by decide +kernel
theorem dX9_asSheet_16 : decode cX9_asSheet 16 = .ok (.getfield 29, 3) := by decide +kernel
theorem dX9_asSheet_19 : decode cX9_asSheet 19 = .ok (.invokevirtual 154, 3) := by decide +kernel
theorem dX9_asSheet_22 : decode cX9_asSheet 22 = .ok (.ireturn, 1) := by decide +kernel
theorem dX9_asChurch_0 : decode cX9_asChurch 0 = .ok (.aload_n 0, 1) := by decide +kernel
theorem dX9_asChurch_1 : decode cX9_asChurch 1 = .ok (.dup, 1) := by decide +kernel
theorem dX9_asChurch_2 : decode cX9_asChurch 2 = .ok (.getfield 318, 3) := by decide +kernel
theorem dX9_asChurch_5 : decode cX9_asChurch 5 = .ok (.ldc2_w 322, 3) := by decide +kernel
theorem dX9_asChurch_8 : decode cX9_asChurch 8 = .ok (.ladd, 1) := by decide +kernel
theorem dX9_asChurch_9 : decode cX9_asChurch 9 = .ok (.putfield 318, 3) := by decide +kernel
theorem dX9_asChurch_12 : decode cX9_asChurch 12 = .ok (.aload_n 0, 1) := by decide +kernel
theorem dX9_asChurch_13 : decode cX9_asChurch 13 = .ok (.iload_n 1, 1) := by decide +kernel
theorem dX9_asChurch_14 : decode cX9_asChurch 14 = .ok (.invokevirtual 300, 3) := by decide +kernel
theorem dX9_asChurch_17 : decode cX9_asChurch 17 = .ok (.aload_n 0, 1) := by decide +kernel
theorem dX9_asChurch_18 : decode cX9_asChurch 18 = .ok (.getfield 19, 3) := by decide +kernel
theorem dX9_asChurch_21 : decode cX9_asChurch 21 = .ok (.getfield 144, 3) := by decide +kernel
theorem dX9_asChurch_24 : decode cX9_asChurch 24 = .ok (.iload_n 1, 1) := by decide +kernel
theorem dX9_asChurch_25 : decode cX9_asChurch 25 = .ok (.iconst 3, 1) := by decide +kernel
theorem dX9_asChurch_26 : decode cX9_asChurch 26 = .ok (.invokevirtual 140, 3) := by decide +kernel
theorem dX9_asChurch_29 : decode cX9_asChurch 29 = .ok (.iadd, 1) := by decide +kernel
theorem dX9_asChurch_30 : decode cX9_asChurch 30 = .ok (.ireturn, 1) := by decide +kernel
theorem dX9_asSnow_0 : decode cX9_asSnow 0 = .ok (.aload_n 0, 1) := by decide +kernel
theorem dX9_asSnow_1 : decode cX9_asSnow 1 = .ok (.dup, 1) := by decide +kernel
theorem dX9_asSnow_2 : decode cX9_asSnow 2 = .ok (.getfield 318, 3) := by decide +kernel
theorem dX9_asSnow_5 : decode cX9_asSnow 5 = .ok (.ldc2_w 324, 3) := by decide +kernel
theorem dX9_asSnow_8 : decode cX9_asSnow 8 = .ok (.ladd, 1) := by decide +kernel
theorem dX9_asSnow_9 : decode cX9_asSnow 9 = .ok (.putfield 318, 3) := by decide +kernel
theorem dX9_asSnow_12 : decode cX9_asSnow 12 = .ok (.aload_n 0, 1) := by decide +kernel
theorem dX9_asSnow_13 : decode cX9_asSnow 13 = .ok (.iload_n 1, 1) := by decide +kernel
theorem dX9_asSnow_14 : decode cX9_asSnow 14 = .ok (.invokevirtual 300, 3) := by decide +kernel
theorem dX9_asSnow_17 : decode cX9_asSnow 17 = .ok (.aload_n 0, 1) := by decide +kernel
theorem dX9_asSnow_18 : decode cX9_asSnow 18 = .ok (.getfield 29, 3) := by decide +kernel
theorem dX9_asSnow_21 : decode cX9_asSnow 21 = .ok (.iload_n 1, 1) := by decide +kernel
theorem dX9_asSnow_22 : decode cX9_asSnow 22 = .ok (.invokevirtual 151, 3) := by decide +kernel
theorem dX9_asSnow_25 : decode cX9_asSnow 25 = .ok (.isub, 1) := by decide +kernel
theorem dX9_asSnow_26 : decode cX9_asSnow 26 = .ok (.ireturn, 1) := by decide +kernel
theorem dX9_asCrypt_0 : decode cX9_asCrypt 0 = .ok (.aload_n 0, 1) := by decide +kernel
theorem dX9_asCrypt_1 : decode cX9_asCrypt 1 = .ok (.dup, 1) := by decide +kernel
theorem dX9_asCrypt_2 : decode cX9_asCrypt 2 = .ok (.getfield 318, 3) := by decide +kernel
theorem dX9_asCrypt_5 : decode cX9_asCrypt 5 = .ok (.ldc2_w 326, 3) := by decide +kernel
theorem dX9_asCrypt_8 : decode cX9_asCrypt 8 = .ok (.ladd, 1) := by decide +kernel
theorem dX9_asCrypt_9 : decode cX9_asCrypt 9 = .ok (.putfield 318, 3) := by decide +kernel
theorem dX9_asCrypt_12 : decode cX9_asCrypt 12 = .ok (.iconst 2, 1) := by decide +kernel
theorem dX9_asCrypt_13 : decode cX9_asCrypt 13 = .ok (.aload_n 0, 1) := by decide +kernel
theorem dX9_asCrypt_14 : decode cX9_asCrypt 14 = .ok (.iload_n 1, 1) := by decide +kernel
theorem dX9_asCrypt_15 : decode cX9_asCrypt 15 = .ok (.invokevirtual 303, 3) := by decide +kernel
theorem dX9_asCrypt_18 : decode cX9_asCrypt 18 = .ok (.imul, 1) := by decide +kernel
theorem dX9_asCrypt_19 : decode cX9_asCrypt 19 = .ok (.ireturn, 1) := by decide +kernel
theorem dX9_asSlush_0 : decode cX9_asSlush 0 = .ok (.aload_n 0, 1) := by decide +kernel
theorem dX9_asSlush_1 : decode cX9_asSlush 1 = .ok (.dup, 1) := by decide +kernel
theorem dX9_asSlush_2 : decode cX9_asSlush 2 = .ok (.getfield 318, 3) := by decide +kernel
theorem dX9_asSlush_5 : decode cX9_asSlush 5 = .ok (.ldc2_w 328, 3) := by decide +kernel
theorem dX9_asSlush_8 : decode cX9_asSlush 8 = .ok (.ladd, 1) := by decide +kernel
theorem dX9_asSlush_9 : decode cX9_asSlush 9 = .ok (.putfield 318, 3) := by decide +kernel
theorem dX9_asSlush_12 : decode cX9_asSlush 12 = .ok (.aload_n 0, 1) := by decide +kernel
theorem dX9_asSlush_13 : decode cX9_asSlush 13 = .ok (.iload_n 1, 1) := by decide +kernel
theorem dX9_asSlush_14 : decode cX9_asSlush 14 = .ok (.invokevirtual 306, 3) := by decide +kernel
theorem dX9_asSlush_17 : decode cX9_asSlush 17 = .ok (.iload_n 1, 1) := by decide +kernel
theorem dX9_asSlush_18 : decode cX9_asSlush 18 = .ok (.iadd, 1) := by decide +kernel
theorem dX9_asSlush_19 : decode cX9_asSlush 19 = .ok (.ireturn, 1) := by decide +kernel
theorem dX9_asBell_0 : decode cX9_asBell 0 = .ok (.aload_n 0, 1) := by decide +kernel
theorem dX9_asBell_1 : decode cX9_asBell 1 = .ok (.dup, 1) := by decide +kernel
theorem dX9_asBell_2 : decode cX9_asBell 2 = .ok (.getfield 318, 3) := by decide +kernel
theorem dX9_asBell_5 : decode cX9_asBell 5 = .ok (.ldc2_w 330, 3) := by decide +kernel
theorem dX9_asBell_8 : decode cX9_asBell 8 = .ok (.ladd, 1) := by decide +kernel
theorem dX9_asBell_9 : decode cX9_asBell 9 = .ok (.putfield 318, 3) := by decide +kernel
theorem dX9_asBell_12 : decode cX9_asBell 12 = .ok (.aload_n 0, 1) := by decide +kernel
theorem dX9_asBell_13 : decode cX9_asBell 13 = .ok (.iload_n 1, 1) := by decide +kernel
theorem dX9_asBell_14 : decode cX9_asBell 14 = .ok (.invokevirtual 300, 3) := by decide +kernel
theorem dX9_asBell_17 : decode cX9_asBell 17 = .ok (.aload_n 0, 1) := by decide +kernel
theorem dX9_asBell_18 : decode cX9_asBell 18 = .ok (.getfield 29, 3) := by decide +kernel
theorem dX9_asBell_21 : decode cX9_asBell 21 = .ok (.getfield 179, 3) := by decide +kernel
theorem dX9_asBell_24 : decode cX9_asBell 24 = .ok (.iadd, 1) := by decide +kernel
theorem dX9_asBell_25 : decode cX9_asBell 25 = .ok (.ireturn, 1) := by decide +kernel
theorem dX9_keep_0 : decode cX9_keep 0 = .ok (.iload_n 1, 1) := by decide +kernel
theorem dX9_keep_1 : decode cX9_keep 1 = .ok (.iconst 0, 1) := by decide +kernel
theorem dX9_keep_2 : decode cX9_keep 2 = .ok (.iconst 1, 1) := by decide +kernel
theorem dX9_keep_3 : decode cX9_keep 3 = .ok (.invokestatic 97, 3) := by decide +kernel
theorem dX9_keep_6 : decode cX9_keep 6 = .ok (.ifCond .ne 5, 3) := by decide +kernel
theorem dX9_keep_9 : decode cX9_keep 9 = .ok (.iconst (-1), 1) := by decide +kernel
theorem dX9_keep_10 : decode cX9_keep 10 = .ok (.ireturn, 1) := by decide +kernel
theorem dX9_keep_11 : decode cX9_keep 11 = .ok (.aload_n 0, 1) := by decide +kernel
theorem dX9_keep_12 : decode cX9_keep 12 = .ok (.getfield 48, 3) := by decide +kernel
theorem dX9_keep_15 : decode cX9_keep 15 = .ok (.iload_n 1, 1) := by decide +kernel
theorem dX9_keep_16 : decode cX9_keep 16 = .ok (.aload_n 0, 1) := by decide +kernel
theorem dX9_keep_17 : decode cX9_keep 17 = .ok (.getfield 29, 3) := by decide +kernel
theorem dX9_keep_20 : decode cX9_keep 20 = .ok (.invokevirtual 332, 3) := by decide +kernel
theorem dX9_keep_23 : decode cX9_keep 23 = .ok (.aload_n 0, 1) := by decide +kernel
theorem dX9_keep_24 : decode cX9_keep 24 = .ok (.getfield 52, 3) := by decide +kernel
theorem dX9_keep_27 : decode cX9_keep 27 = .ok (.iload_n 1, 1) := by decide +kernel
theorem dX9_keep_28 : decode cX9_keep 28 = .ok (.iconst 1, 1) := by decide +kernel
theorem dX9_keep_29 : decode cX9_keep 29 = .ok (.bastore, 1) := by decide +kernel
theorem dX9_keep_30 : decode cX9_keep 30 = .ok (.aload_n 0, 1) := by decide +kernel
theorem dX9_keep_31 : decode cX9_keep 31 = .ok (.getfield 29, 3) := by decide +kernel
theorem dX9_keep_34 : decode cX9_keep 34 = .ok (.getfield 175, 3) := by decide +kernel
theorem dX9_keep_37 : decode cX9_keep 37 = .ok (.ireturn, 1) := by decide +kernel
theorem dX9_back_0 : decode cX9_back 0 = .ok (.iload_n 1, 1) := by decide +kernel
theorem dX9_back_1 : decode cX9_back 1 = .ok (.iconst 0, 1) := by decide +kernel
theorem dX9_back_2 : decode cX9_back 2 = .ok (.iconst 1, 1) := by decide +kernel
theorem dX9_back_3 : decode cX9_back 3 = .ok (.invokestatic 97, 3) := by decide +kernel
theorem dX9_back_6 : decode cX9_back 6 = .ok (.ifCond .ne 5, 3) := by decide +kernel
theorem dX9_back_9 : decode cX9_back 9 = .ok (.iconst (-1), 1) := by decide +kernel
theorem dX9_back_10 : decode cX9_back 10 = .ok (.ireturn, 1) := by decide +kernel
theorem dX9_back_11 : decode cX9_back 11 = .ok (.aload_n 0, 1) := by decide +kernel
theorem dX9_back_12 : decode cX9_back 12 = .ok (.getfield 52, 3) := by decide +kernel
theorem dX9_back_15 : decode cX9_back 15 = .ok (.iload_n 1, 1) := by decide +kernel
theorem dX9_back_16 : decode cX9_back 16 = .ok (.baload, 1) := by decide +kernel
theorem dX9_back_17 : decode cX9_back 17 = .ok (.ifCond .ne 6, 3) := by decide +kernel
theorem dX9_back_20 : decode cX9_back 20 = .ok (.bipush (-2), 2) := by decide +kernel
theorem dX9_back_22 : decode cX9_back 22 = .ok (.ireturn, 1) := by decide +kernel
theorem dX9_back_23 : decode cX9_back 23 = .ok (.aload_n 0, 1) := by decide +kernel
theorem dX9_back_24 : decode cX9_back 24 = .ok (.getfield 48, 3) := by decide +kernel
theorem dX9_back_27 : decode cX9_back 27 = .ok (.iload_n 1, 1) := by decide +kernel
theorem dX9_back_28 : decode cX9_back 28 = .ok (.aload_n 0, 1) := by decide +kernel
theorem dX9_back_29 : decode cX9_back 29 = .ok (.getfield 29, 3) := by decide +kernel
theorem dX9_back_32 : decode cX9_back 32 = .ok (.invokevirtual 335, 3) := by decide +kernel
theorem dX9_back_35 : decode cX9_back 35 = .ok (.aload_n 0, 1) := by decide +kernel
theorem dX9_back_36 : decode cX9_back 36 = .ok (.getfield 39, 3) := by decide +kernel
theorem dX9_back_39 : decode cX9_back 39 = .ok (.invokevirtual 131, 3) := by decide +kernel
theorem dX9_back_42 : decode cX9_back 42 = .ok (.aload_n 0, 1) := by decide +kernel
theorem dX9_back_43 : decode cX9_back 43 = .ok (.getfield 29, 3) := by decide +kernel
theorem dX9_back_46 : decode cX9_back 46 = .ok (.getfield 175, 3) := by decide +kernel
theorem dX9_back_49 : decode cX9_back 49 = .ok (.ireturn, 1) := by decide +kernel
theorem dX9_count_0 : decode cX9_count 0 = .ok (.iload_n 1, 1) := by decide +kernel
theorem dX9_count_1 : decode cX9_count 1 = .ok (.tableswitch 132 0 8 #[51, 59, 67, 75, 86, 97, 108, 116, 124], 51) := by decide +kernel
theorem dX9_count_52 : decode cX9_count 52 = .ok (.aload_n 0, 1) := by decide +kernel
theorem dX9_count_53 : decode cX9_count 53 = .ok (.getfield 19, 3) := by decide +kernel
theorem dX9_count_56 : decode cX9_count 56 = .ok (.getfield 338, 3) := by decide +kernel
theorem dX9_count_59 : decode cX9_count 59 = .ok (.ireturn, 1) := by decide +kernel
theorem dX9_count_60 : decode cX9_count 60 = .ok (.aload_n 0, 1) := by decide +kernel
theorem dX9_count_61 : decode cX9_count 61 = .ok (.getfield 19, 3) := by decide +kernel
theorem dX9_count_64 : decode cX9_count 64 = .ok (.getfield 341, 3) := by decide +kernel
theorem dX9_count_67 : decode cX9_count 67 = .ok (.ireturn, 1) := by decide +kernel
theorem dX9_count_68 : decode cX9_count 68 = .ok (.aload_n 0, 1) := by decide +kernel
theorem dX9_count_69 : decode cX9_count 69 = .ok (.getfield 19, 3) := by decide +kernel
theorem dX9_count_72 : decode cX9_count 72 = .ok (.getfield 344, 3) := by decide +kernel
theorem dX9_count_75 : decode cX9_count 75 = .ok (.ireturn, 1) := by decide +kernel
theorem dX9_count_76 : decode cX9_count 76 = .ok (.aload_n 0, 1) := by decide +kernel
theorem dX9_count_77 : decode cX9_count 77 = .ok (.getfield 19, 3) := by decide +kernel
theorem dX9_count_80 : decode cX9_count 80 = .ok (.getfield 133, 3) := by decide +kernel
theorem dX9_count_83 : decode cX9_count 83 = .ok (.invokevirtual 214, 3) := by decide +kernel
theorem dX9_count_86 : decode cX9_count 86 = .ok (.ireturn, 1) := by decide +kernel
theorem dX9_count_87 : decode cX9_count 87 = .ok (.aload_n 0, 1) := by decide +kernel
theorem dX9_count_88 : decode cX9_count 88 = .ok (.getfield 19, 3) := by decide +kernel
theorem dX9_count_91 : decode cX9_count 91 = .ok (.getfield 144, 3) := by decide +kernel
theorem dX9_count_94 : decode cX9_count 94 = .ok (.invokevirtual 214, 3) := by decide +kernel
theorem dX9_count_97 : decode cX9_count 97 = .ok (.ireturn, 1) := by decide +kernel
theorem dX9_count_98 : decode cX9_count 98 = .ok (.aload_n 0, 1) := by decide +kernel
theorem dX9_count_99 : decode cX9_count 99 = .ok (.getfield 19, 3) := by decide +kernel
theorem dX9_count_102 : decode cX9_count 102 = .ok (.getfield 158, 3) := by decide +kernel
theorem dX9_count_105 : decode cX9_count 105 = .ok (.invokevirtual 214, 3) := by decide +kernel
theorem dX9_count_108 : decode cX9_count 108 = .ok (.ireturn, 1) := by decide +kernel
theorem dX9_count_109 : decode cX9_count 109 = .ok (.aload_n 0, 1) := by decide +kernel
theorem dX9_count_110 : decode cX9_count 110 = .ok (.getfield 59, 3) := by decide +kernel
theorem dX9_count_113 : decode cX9_count 113 = .ok (.invokevirtual 214, 3) := by decide +kernel
theorem dX9_count_116 : decode cX9_count 116 = .ok (.ireturn, 1) := by decide +kernel
theorem dX9_count_117 : decode cX9_count 117 = .ok (.aload_n 0, 1) := by decide +kernel
theorem dX9_count_118 : decode cX9_count 118 = .ok (.getfield 63, 3) := by decide +kernel
theorem dX9_count_121 : decode cX9_count 121 = .ok (.invokevirtual 214, 3) := by decide +kernel
theorem dX9_count_124 : decode cX9_count 124 = .ok (.ireturn, 1) := by decide +kernel
theorem dX9_count_125 : decode cX9_count 125 = .ok (.aload_n 0, 1) := by decide +kernel
theorem dX9_count_126 : decode cX9_count 126 = .ok (.getfield 10, 3) := by decide +kernel
theorem dX9_count_129 : decode cX9_count 129 = .ok (.invokevirtual 108, 3) := by decide +kernel
theorem dX9_count_132 : decode cX9_count 132 = .ok (.ireturn, 1) := by decide +kernel
theorem dX9_count_133 : decode cX9_count 133 = .ok (.iconst (-1), 1) := by decide +kernel
theorem dX9_count_134 : decode cX9_count 134 = .ok (.ireturn, 1) := by decide +kernel
theorem dX9_trace_0 : decode cX9_trace 0 = .ok (.aload_n 0, 1) := by decide +kernel
theorem dX9_trace_1 : decode cX9_trace 1 = .ok (.getfield 318, 3) := by decide +kernel
theorem dX9_trace_4 : decode cX9_trace 4 = .ok (.lreturn, 1) := by decide +kernel
theorem dX9_isWithin_0 : decode cX9_isWithin 0 = .ok (.iload_n 0, 1) := by decide +kernel
theorem dX9_isWithin_1 : decode cX9_isWithin 1 = .ok (.iload_n 1, 1) := by decide +kernel
theorem dX9_isWithin_2 : decode cX9_isWithin 2 = .ok (.if_icmp .lt 12, 3) := by decide +kernel
theorem dX9_isWithin_5 : decode cX9_isWithin 5 = .ok (.iload_n 0, 1) := by decide +kernel
theorem dX9_isWithin_6 : decode cX9_isWithin 6 = .ok (.iload_n 2, 1) := by decide +kernel
theorem dX9_isWithin_7 : decode cX9_isWithin 7 = .ok (.if_icmp .gt 7, 3) := by decide +kernel
theorem dX9_isWithin_10 : decode cX9_isWithin 10 = .ok (.iconst 1, 1) := by decide +kernel
theorem dX9_isWithin_11 : decode cX9_isWithin 11 = .ok (.goto 4, 3) := by decide +kernel
theorem dX9_isWithin_14 : decode cX9_isWithin 14 = .ok (.iconst 0, 1) := by decide +kernel
theorem dX9_isWithin_15 : decode cX9_isWithin 15 = .ok (.ireturn, 1) := by decide +kernel
theorem dX9_hasBit_0 : decode cX9_hasBit 0 = .ok (.iload_n 0, 1) := by decide +kernel
theorem dX9_hasBit_1 : decode cX9_hasBit 1 = .ok (.iload_n 1, 1) := by decide +kernel
theorem dX9_hasBit_2 : decode cX9_hasBit 2 = .ok (.ishr, 1) := by decide +kernel
theorem dX9_hasBit_3 : decode cX9_hasBit 3 = .ok (.iconst 1, 1) := by decide +kernel
theorem dX9_hasBit_4 : decode cX9_hasBit 4 = .ok (.iand, 1) := by decide +kernel
theorem dX9_hasBit_5 : decode cX9_hasBit 5 = .ok (.iconst 1, 1) := by decide +kernel
theorem dX9_hasBit_6 : decode cX9_hasBit 6 = .ok (.if_icmp .ne 7, 3) := by decide +kernel
theorem dX9_hasBit_9 : decode cX9_hasBit 9 = .ok (.iconst 1, 1) := by decide +kernel
theorem dX9_hasBit_10 : decode cX9_hasBit 10 = .ok (.goto 4, 3) := by decide +kernel
theorem dX9_hasBit_13 : decode cX9_hasBit 13 = .ok (.iconst 0, 1) := by decide +kernel
theorem dX9_hasBit_14 : decode cX9_hasBit 14 = .ok (.ireturn, 1) := by decide +kernel
theorem dX10_init_0 : decode cX10_init 0 = .ok (.aload_n 0, 1) := by decide +kernel
theorem dX10_init_1 : decode cX10_init 1 = .ok (.invokespecial 1, 3) := by decide +kernel
theorem dX10_init_4 : decode cX10_init 4 = .ok (.aload_n 0, 1) := by decide +kernel
theorem dX10_init_5 : decode cX10_init 5 = .ok (.iconst 3, 1) := by decide +kernel
theorem dX10_init_6 : decode cX10_init 6 = .ok (.putfield 7, 3) := by decide +kernel
theorem dX10_init_9 : decode cX10_init 9 = .ok (.aload_n 0, 1) := by decide +kernel
theorem dX10_init_10 : decode cX10_init 10 = .ok (.iconst 2, 1) := by decide +kernel
theorem dX10_init_11 : decode cX10_init 11 = .ok (.putfield 13, 3) := by decide +kernel
theorem dX10_init_14 : decode cX10_init 14 = .ok (.aload_n 0, 1) := by decide +kernel
theorem dX10_init_15 : decode cX10_init 15 = .ok (.iconst 5, 1) := by decide +kernel
theorem dX10_init_16 : decode cX10_init 16 = .ok (.putfield 16, 3) := by decide +kernel
theorem dX10_init_19 : decode cX10_init 19 = .ok (.aload_n 0, 1) := by decide +kernel
theorem dX10_init_20 : decode cX10_init 20 = .ok (.bipush 12, 2) := by decide +kernel
theorem dX10_init_22 : decode cX10_init 22 = .ok (.newarray .int, 2) := by decide +kernel
theorem dX10_init_24 : decode cX10_init 24 = .ok (.putfield 19, 3) := by decide +kernel
theorem dX10_init_27 : decode cX10_init 27 = .ok (.aload_n 0, 1) := by decide +kernel
theorem dX10_init_28 : decode cX10_init 28 = .ok (.bipush 16, 2) := by decide +kernel
theorem dX10_init_30 : decode cX10_init 30 = .ok (.newarray .int, 2) := by decide +kernel
theorem dX10_init_32 : decode cX10_init 32 = .ok (.putfield 23, 3) := by decide +kernel
theorem dX10_init_35 : decode cX10_init 35 = .ok (.aload_n 0, 1) := by decide +kernel
theorem dX10_init_36 : decode cX10_init 36 = .ok (.bipush 12, 2) := by decide +kernel
theorem dX10_init_38 : decode cX10_init 38 = .ok (.newarray .int, 2) := by decide +kernel
theorem dX10_init_40 : decode cX10_init 40 = .ok (.putfield 26, 3) := by decide +kernel
theorem dX10_init_43 : decode cX10_init 43 = .ok (.aload_n 0, 1) := by decide +kernel
theorem dX10_init_44 : decode cX10_init 44 = .ok (.bipush 10, 2) := by decide +kernel
theorem dX10_init_46 : decode cX10_init 46 = .ok (.newarray .int, 2) := by decide +kernel
theorem dX10_init_48 : decode cX10_init 48 = .ok (.putfield 29, 3) := by decide +kernel
theorem dX10_init_51 : decode cX10_init 51 = .ok (.aload_n 0, 1) := by decide +kernel
theorem dX10_init_52 : decode cX10_init 52 = .ok (.bipush 100, 2) := by decide +kernel
theorem dX10_init_54 : decode cX10_init 54 = .ok (.newarray .int, 2) := by decide +kernel
theorem dX10_init_56 : decode cX10_init 56 = .ok (.putfield 32, 3) := by decide +kernel
theorem dX10_init_59 : decode cX10_init 59 = .ok (.aload_n 0, 1) := by decide +kernel
theorem dX10_init_60 : decode cX10_init 60 = .ok (.bipush 20, 2) := by decide +kernel
theorem dX10_init_62 : decode cX10_init 62 = .ok (.newarray .int, 2) := by decide +kernel
theorem dX10_init_64 : decode cX10_init 64 = .ok (.putfield 35, 3) := by decide +kernel
theorem dX10_init_67 : decode cX10_init 67 = .ok (.aload_n 0, 1) := by decide +kernel
theorem dX10_init_68 : decode cX10_init 68 = .ok (.iconst 2, 1) := by decide +kernel
theorem dX10_init_69 : decode cX10_init 69 = .ok (.newarray .boolean, 2) := by decide +kernel
theorem dX10_init_71 : decode cX10_init 71 = .ok (.putfield 38, 3) := by decide +kernel
theorem dX10_init_74 : decode cX10_init 74 = .ok (.aload_n 0, 1) := by decide +kernel
theorem dX10_init_75 : decode cX10_init 75 = .ok (.bipush 8, 2) := by decide +kernel
theorem dX10_init_77 : decode cX10_init 77 = .ok (.newarray .int, 2) := by decide +kernel
theorem dX10_init_79 : decode cX10_init 79 = .ok (.putfield 42, 3) := by decide +kernel
theorem dX10_init_82 : decode cX10_init 82 = .ok (.aload_n 0, 1) := by decide +kernel
theorem dX10_init_83 : decode cX10_init 83 = .ok (.bipush 16, 2) := by decide +kernel
theorem dX10_init_85 : decode cX10_init 85 = .ok (.newarray .int, 2) := by decide +kernel
theorem dX10_init_87 : decode cX10_init 87 = .ok (.putfield 45, 3) := by decide +kernel
theorem dX10_init_90 : decode cX10_init 90 = .ok (.aload_n 0, 1) := by decide +kernel
theorem dX10_init_91 : decode cX10_init 91 = .ok (.sipush 200, 3) := by decide +kernel
theorem dX10_init_94 : decode cX10_init 94 = .ok (.newarray .int, 2) := by decide +kernel
theorem dX10_init_96 : decode cX10_init 96 = .ok (.putfield 48, 3) := by decide +kernel
theorem dX10_init_99 : decode cX10_init 99 = .ok (.aload_n 0, 1) := by decide +kernel
theorem dX10_init_100 : decode cX10_init 100 = .ok (.iconst 3, 1) := by decide +kernel
theorem dX10_init_101 : decode cX10_init 101 = .ok (.newarray .int, 2) := by decide +kernel
theorem dX10_init_103 : decode cX10_init 103 = .ok (.putfield 51, 3) := by decide +kernel
theorem dX10_init_106 : decode cX10_init 106 = .ok (.aload_n 0, 1) := by decide +kernel
theorem dX10_init_107 : decode cX10_init 107 = .ok (.bipush 12, 2) := by decide +kernel
theorem dX10_init_109 : decode cX10_init 109 = .ok (.newarray .int, 2) := by decide +kernel
theorem dX10_init_111 : decode cX10_init 111 = .ok (.putfield 54, 3) := by decide +kernel
theorem dX10_init_114 : decode cX10_init 114 = .ok (.aload_n 0, 1) := by decide +kernel
theorem dX10_init_115 : decode cX10_init 115 = .ok (.bipush 16, 2) := by decide +kernel
theorem dX10_init_117 : decode cX10_init 117 = .ok (.newarray .int, 2) := by decide +kernel
theorem dX10_init_119 : decode cX10_init 119 = .ok (.putfield 57, 3) := by decide +kernel
theorem dX10_init_122 : decode cX10_init 122 = .ok (.aload_n 0, 1) := by decide +kernel
theorem dX10_init_123 : decode cX10_init 123 = .ok (.bipush 12, 2) := by decide +kernel
theorem dX10_init_125 : decode cX10_init 125 = .ok (.newarray .int, 2) := by decide +kernel
theorem dX10_init_127 : decode cX10_init 127 = .ok (.putfield 60, 3) := by decide +kernel
theorem dX10_init_130 : decode cX10_init 130 = .ok (.aload_n 0, 1) := by decide +kernel
theorem dX10_init_131 : decode cX10_init 131 = .ok (.iconst 4, 1) := by decide +kernel
theorem dX10_init_132 : decode cX10_init 132 = .ok (.newarray .int, 2) := by decide +kernel
theorem dX10_init_134 : decode cX10_init 134 = .ok (.putfield 63, 3) := by decide +kernel
theorem dX10_init_137 : decode cX10_init 137 = .ok (.aload_n 0, 1) := by decide +kernel
theorem dX10_init_138 : decode cX10_init 138 = .ok (.iconst 4, 1) := by decide +kernel
theorem dX10_init_139 : decode cX10_init 139 = .ok (.newarray .int, 2) := by decide +kernel
theorem dX10_init_141 : decode cX10_init 141 = .ok (.putfield 66, 3) := by decide +kernel
theorem dX10_init_144 : decode cX10_init 144 = .ok (.aload_n 0, 1) := by decide +kernel
theorem dX10_init_145 : decode cX10_init 145 = .ok (.bipush 12, 2) := by decide +kernel
theorem dX10_init_147 : decode cX10_init 147 = .ok (.newarray .int, 2) := by decide +kernel
theorem dX10_init_149 : decode cX10_init 149 = .ok (.putfield 69, 3) := by decide +kernel
theorem dX10_init_152 : decode cX10_init 152 = .ok (.aload_n 0, 1) := by decide +kernel
theorem dX10_init_153 : decode cX10_init 153 = .ok (.bipush 12, 2) := by decide +kernel
theorem dX10_init_155 : decode cX10_init 155 = .ok (.newarray .int, 2) := by decide +kernel
theorem dX10_init_157 : decode cX10_init 157 = .ok (.putfield 72, 3) := by decide +kernel
theorem dX10_init_160 : decode cX10_init 160 = .ok (.aload_n 0, 1) := by decide +kernel
theorem dX10_init_161 : decode cX10_init 161 = .ok (.iconst 4, 1) := by decide +kernel
theorem dX10_init_162 : decode cX10_init 162 = .ok (.newarray .int, 2) := by decide +kernel
theorem dX10_init_164 : decode cX10_init 164 = .ok (.putfield 75, 3) := by decide +kernel
theorem dX10_init_167 : decode cX10_init 167 = .ok (.aload_n 0, 1) := by decide +kernel
theorem dX10_init_168 : decode cX10_init 168 = .ok (.iconst 4, 1) := by decide +kernel
theorem dX10_init_169 : decode cX10_init 169 = .ok (.newarray .int, 2) := by decide +kernel
theorem dX10_init_171 : decode cX10_init 171 = .ok (.putfield 78, 3) := by decide +kernel
theorem dX10_init_174 : decode cX10_init 174 = .ok (.aload_n 0, 1) := by decide +kernel
theorem dX10_init_175 : decode cX10_init 175 = .ok (.iconst 4, 1) := by decide +kernel
theorem dX10_init_176 : decode cX10_init 176 = .ok (.newarray .int, 2) := by decide +kernel
theorem dX10_init_178 : decode cX10_init 178 = .ok (.putfield 81, 3) := by decide +kernel
theorem dX10_init_181 : decode cX10_init 181 = .ok (.aload_n 0, 1) := by decide +kernel
theorem dX10_init_182 : decode cX10_init 182 = .ok (.bipush 12, 2) := by decide +kernel
theorem dX10_init_184 : decode cX10_init 184 = .ok (.newarray .int, 2) := by decide +kernel
theorem dX10_init_186 : decode cX10_init 186 = .ok (.putfield 84, 3) := by decide +kernel
theorem dX10_init_189 : decode cX10_init 189 = .ok (.aload_n 0, 1) := by decide +kernel
theorem dX10_init_190 : decode cX10_init 190 = .ok (.invokevirtual 87, 3) := by decide +kernel
theorem dX10_init_193 : decode cX10_init 193 = .ok (.return_, 1) := by decide +kernel
theorem dX10_bare_0 : decode cX10_bare 0 = .ok (.iconst 0, 1) := by decide +kernel
theorem dX10_bare_1 : decode cX10_bare 1 = .ok (.istore_n 1, 1) := by decide +kernel
theorem dX10_bare_2 : decode cX10_bare 2 = .ok (.iload_n 1, 1) := by decide +kernel
theorem dX10_bare_3 : decode cX10_bare 3 = .ok (.bipush 10, 2) := by decide +kernel
theorem dX10_bare_5 : decode cX10_bare 5 = .ok (.if_icmp .ge 30, 3) := by decide +kernel
theorem dX10_bare_8 : decode cX10_bare 8 = .ok (.aload_n 0, 1) := by decide +kernel
theorem dX10_bare_9 : decode cX10_bare 9 = .ok (.getfield 29, 3) := by decide +kernel
theorem dX10_bare_12 : decode cX10_bare 12 = .ok (.iload_n 1, 1) := by decide +kernel
theorem dX10_bare_13 : decode cX10_bare 13 = .ok (.iload_n 1, 1) := by decide +kernel
theorem dX10_bare_14 : decode cX10_bare 14 = .ok (.iconst 2, 1) := by decide +kernel
theorem dX10_bare_15 : decode cX10_bare 15 = .ok (.iconst 5, 1) := by decide +kernel
theorem dX10_bare_16 : decode cX10_bare 16 = .ok (.invokestatic 90, 3) := by decide +kernel
theorem dX10_bare_19 : decode cX10_bare 19 = .ok (.ifCond .eq 8, 3) := by decide +kernel
theorem dX10_bare_22 : decode cX10_bare 22 = .ok (.bipush (-9), 2) := by decide +kernel
theorem dX10_bare_24 : decode cX10_bare 24 = .ok (.goto 4, 3) := by decide +kernel
theorem dX10_bare_27 : decode cX10_bare 27 = .ok (.iconst 0, 1) := by decide +kernel
theorem dX10_bare_28 : decode cX10_bare 28 = .ok (.iastore, 1) := by decide +kernel
theorem dX10_bare_29 : decode cX10_bare 29 = .ok (.iinc 1 1, 3) := by decide +kernel
theorem dX10_bare_32 : decode cX10_bare 32 = .ok (.goto (-30), 3) := by decide +kernel
theorem dX10_bare_35 : decode cX10_bare 35 = .ok (.return_, 1) := by decide +kernel
theorem dX10_in_0 : decode cX10_in 0 = .ok (.iload_n 0, 1) := by decide +kernel
theorem dX10_in_1 : decode cX10_in 1 = .ok (.iload_n 1, 1) := by decide +kernel
theorem dX10_in_2 : decode cX10_in 2 = .ok (.if_icmp .lt 12, 3) := by decide +kernel
theorem dX10_in_5 : decode cX10_in 5 = .ok (.iload_n 0, 1) := by decide +kernel
theorem dX10_in_6 : decode cX10_in 6 = .ok (.iload_n 2, 1) := by decide +kernel
theorem dX10_in_7 : decode cX10_in 7 = .ok (.if_icmp .gt 7, 3) := by decide +kernel
theorem dX10_in_10 : decode cX10_in 10 = .ok (.iconst 1, 1) := by decide +kernel
theorem dX10_in_11 : decode cX10_in 11 = .ok (.goto 4, 3) := by decide +kernel
theorem dX10_in_14 : decode cX10_in 14 = .ok (.iconst 0, 1) := by decide +kernel
theorem dX10_in_15 : decode cX10_in 15 = .ok (.ireturn, 1) := by decide +kernel
theorem dX10_has_0 : decode cX10_has 0 = .ok (.iload_n 0, 1) := by decide +kernel
theorem dX10_has_1 : decode cX10_has 1 = .ok (.iload_n 1, 1) := by decide +kernel
theorem dX10_has_2 : decode cX10_has 2 = .ok (.ishr, 1) := by decide +kernel
theorem dX10_has_3 : decode cX10_has 3 = .ok (.iconst 1, 1) := by decide +kernel
theorem dX10_has_4 : decode cX10_has 4 = .ok (.iand, 1) := by decide +kernel
theorem dX10_has_5 : decode cX10_has 5 = .ok (.iconst 1, 1) := by decide +kernel
theorem dX10_has_6 : decode cX10_has 6 = .ok (.if_icmp .ne 7, 3) := by decide +kernel
theorem dX10_has_9 : decode cX10_has 9 = .ok (.iconst 1, 1) := by decide +kernel
theorem dX10_has_10 : decode cX10_has 10 = .ok (.goto 4, 3) := by decide +kernel
theorem dX10_has_13 : decode cX10_has 13 = .ok (.iconst 0, 1) := by decide +kernel
theorem dX10_has_14 : decode cX10_has 14 = .ok (.ireturn, 1) := by decide +kernel
theorem dX10_isCell_0 : decode cX10_isCell 0 = .ok (.iload_n 1, 1) := by decide +kernel
theorem dX10_isCell_1 : decode cX10_isCell 1 = .ok (.iconst 0, 1) := by decide +kernel
theorem dX10_isCell_2 : decode cX10_isCell 2 = .ok (.aload_n 0, 1) := by decide +kernel
theorem dX10_isCell_3 : decode cX10_isCell 3 = .ok (.getfield 7, 3) := by decide +kernel
theorem dX10_isCell_6 : decode cX10_isCell 6 = .ok (.aload_n 0, 1) := by decide +kernel
theorem dX10_isCell_7 : decode cX10_isCell 7 = .ok (.getfield 13, 3) := by decide +kernel
theorem dX10_isCell_10 : decode cX10_isCell 10 = .ok (.imul, 1) := by decide +kernel
theorem dX10_isCell_11 : decode cX10_isCell 11 = .ok (.iconst 1, 1) := by decide +kernel
theorem dX10_isCell_12 : decode cX10_isCell 12 = .ok (.isub, 1) := by decide +kernel
theorem dX10_isCell_13 : decode cX10_isCell 13 = .ok (.invokestatic 90, 3) := by decide +kernel
theorem dX10_isCell_16 : decode cX10_isCell 16 = .ok (.ireturn, 1) := by decide +kernel
theorem dX10_isSheet_0 : decode cX10_isSheet 0 = .ok (.iload_n 1, 1) := by decide +kernel
theorem dX10_isSheet_1 : decode cX10_isSheet 1 = .ok (.iconst 0, 1) := by decide +kernel
theorem dX10_isSheet_2 : decode cX10_isSheet 2 = .ok (.aload_n 0, 1) := by decide +kernel
theorem dX10_isSheet_3 : decode cX10_isSheet 3 = .ok (.getfield 94, 3) := by decide +kernel
theorem dX10_isSheet_6 : decode cX10_isSheet 6 = .ok (.iconst 1, 1) := by decide +kernel
theorem dX10_isSheet_7 : decode cX10_isSheet 7 = .ok (.isub, 1) := by decide +kernel
theorem dX10_isSheet_8 : decode cX10_isSheet 8 = .ok (.invokestatic 90, 3) := by decide +kernel
theorem dX10_isSheet_11 : decode cX10_isSheet 11 = .ok (.ireturn, 1) := by decide +kernel
theorem dX10_isStrength_0 : decode cX10_isStrength 0 = .ok (.iload_n 0, 1) := by decide +kernel
theorem dX10_isStrength_1 : decode cX10_isStrength 1 = .ok (.iconst 1, 1) := by decide +kernel
theorem dX10_isStrength_2 : decode cX10_isStrength 2 = .ok (.bipush 99, 2) := by decide +kernel
theorem dX10_isStrength_4 : decode cX10_isStrength 4 = .ok (.invokestatic 90, 3) := by decide +kernel
theorem dX10_isStrength_7 : decode cX10_isStrength 7 = .ok (.ireturn, 1) := by decide +kernel
theorem dX10_type_0 : decode cX10_type 0 = .ok (.iload_n 1, 1) := by decide +kernel
theorem dX10_type_1 : decode cX10_type 1 = .ok (.iconst 0, 1) := by decide +kernel
theorem dX10_type_2 : decode cX10_type 2 = .ok (.sipush 255, 3) := by decide +kernel
theorem dX10_type_5 : decode cX10_type 5 = .ok (.invokestatic 90, 3) := by decide +kernel
theorem dX10_type_8 : decode cX10_type 8 = .ok (.ifCond .ne 5, 3) := by decide +kernel
theorem dX10_type_11 : decode cX10_type 11 = .ok (.iconst (-1), 1) := by decide +kernel
theorem dX10_type_12 : decode cX10_type 12 = .ok (.ireturn, 1) := by decide +kernel
theorem dX10_type_13 : decode cX10_type 13 = .ok (.aload_n 0, 1) := by decide +kernel
theorem dX10_type_14 : decode cX10_type 14 = .ok (.getfield 97, 3) := by decide +kernel
theorem dX10_type_17 : decode cX10_type 17 = .ok (.sipush 200, 3) := by decide +kernel
theorem dX10_type_20 : decode cX10_type 20 = .ok (.if_icmp .ne 6, 3) := by decide +kernel
theorem dX10_type_23 : decode cX10_type 23 = .ok (.bipush (-3), 2) := by decide +kernel
theorem dX10_type_25 : decode cX10_type 25 = .ok (.ireturn, 1) := by decide +kernel
theorem dX10_type_26 : decode cX10_type 26 = .ok (.aload_n 0, 1) := by decide +kernel
theorem dX10_type_27 : decode cX10_type 27 = .ok (.getfield 48, 3) := by decide +kernel
theorem dX10_type_30 : decode cX10_type 30 = .ok (.aload_n 0, 1) := by decide +kernel
theorem dX10_type_31 : decode cX10_type 31 = .ok (.getfield 97, 3) := by decide +kernel
theorem dX10_type_34 : decode cX10_type 34 = .ok (.iload_n 1, 1) := by decide +kernel
theorem dX10_type_35 : decode cX10_type 35 = .ok (.iastore, 1) := by decide +kernel
theorem dX10_type_36 : decode cX10_type 36 = .ok (.aload_n 0, 1) := by decide +kernel
theorem dX10_type_37 : decode cX10_type 37 = .ok (.dup, 1) := by decide +kernel
theorem dX10_type_38 : decode cX10_type 38 = .ok (.getfield 97, 3) := by decide +kernel
theorem dX10_type_41 : decode cX10_type 41 = .ok (.iconst 1, 1) := by decide +kernel
theorem dX10_type_42 : decode cX10_type 42 = .ok (.iadd, 1) := by decide +kernel
theorem dX10_type_43 : decode cX10_type 43 = .ok (.putfield 97, 3) := by decide +kernel
theorem dX10_type_46 : decode cX10_type 46 = .ok (.aload_n 0, 1) := by decide +kernel
theorem dX10_type_47 : decode cX10_type 47 = .ok (.getfield 97, 3) := by decide +kernel
theorem dX10_type_50 : decode cX10_type 50 = .ok (.ireturn, 1) := by decide +kernel
theorem dX10_clear_0 : decode cX10_clear 0 = .ok (.aload_n 0, 1) := by decide +kernel
theorem dX10_clear_1 : decode cX10_clear 1 = .ok (.getfield 97, 3) := by decide +kernel
theorem dX10_clear_4 : decode cX10_clear 4 = .ok (.istore_n 1, 1) := by decide +kernel
theorem dX10_clear_5 : decode cX10_clear 5 = .ok (.aload_n 0, 1) := by decide +kernel
theorem dX10_clear_6 : decode cX10_clear 6 = .ok (.iconst 0, 1) := by decide +kernel
theorem dX10_clear_7 : decode cX10_clear 7 = .ok (.putfield 97, 3) := by decide +kernel
theorem dX10_clear_10 : decode cX10_clear 10 = .ok (.iload_n 1, 1) := by decide +kernel
theorem dX10_clear_11 : decode cX10_clear 11 = .ok (.ireturn, 1) := by decide +kernel
theorem dX10_letterAt_0 : decode cX10_letterAt 0 = .ok (.iload_n 1, 1) := by decide +kernel
theorem dX10_letterAt_1 : decode cX10_letterAt 1 = .ok (.aload_n 0, 1) := by decide +kernel
theorem dX10_letterAt_2 : decode cX10_letterAt 2 = .ok (.getfield 97, 3) := by decide +kernel
theorem dX10_letterAt_5 : decode cX10_letterAt 5 = .ok (.if_icmp .ge 12, 3) := by decide +kernel
theorem dX10_letterAt_8 : decode cX10_letterAt 8 = .ok (.aload_n 0, 1) := by decide +kernel
theorem dX10_letterAt_9 : decode cX10_letterAt 9 = .ok (.getfield 48, 3) := by decide +kernel
theorem dX10_letterAt_12 : decode cX10_letterAt 12 = .ok (.iload_n 1, 1) := by decide +kernel
theorem dX10_letterAt_13 : decode cX10_letterAt 13 = .ok (.iaload, 1) := by decide +kernel
theorem dX10_letterAt_14 : decode cX10_letterAt 14 = .ok (.goto 4, 3) := by decide +kernel
theorem dX10_letterAt_17 : decode cX10_letterAt 17 = .ok (.iconst (-1), 1) := by decide +kernel
theorem dX10_letterAt_18 : decode cX10_letterAt 18 = .ok (.ireturn, 1) := by decide +kernel
theorem dX10_next_0 : decode cX10_next 0 = .ok (.aload_n 0, 1) := by decide +kernel
theorem dX10_next_1 : decode cX10_next 1 = .ok (.aload_n 0, 1) := by decide +kernel
theorem dX10_next_2 : decode cX10_next 2 = .ok (.getfield 100, 3) := by decide +kernel
theorem dX10_next_5 : decode cX10_next 5 = .ok (.invokevirtual 103, 3) := by decide +kernel
theorem dX10_next_8 : decode cX10_next 8 = .ok (.bipush 32, 2) := by decide +kernel
theorem dX10_next_10 : decode cX10_next 10 = .ok (.if_icmp .ne 16, 3) := by decide +kernel
theorem dX10_next_13 : decode cX10_next 13 = .ok (.aload_n 0, 1) := by decide +kernel
theorem dX10_next_14 : decode cX10_next 14 = .ok (.dup, 1) := by decide +kernel
theorem dX10_next_15 : decode cX10_next 15 = .ok (.getfield 100, 3) := by decide +kernel
theorem dX10_next_18 : decode cX10_next 18 = .ok (.iconst 1, 1) := by decide +kernel
theorem dX10_next_19 : decode cX10_next 19 = .ok (.iadd, 1) := by decide +kernel
theorem dX10_next_20 : decode cX10_next 20 = .ok (.putfield 100, 3) := by decide +kernel
theorem dX10_next_23 : decode cX10_next 23 = .ok (.goto (-23), 3) := by decide +kernel
theorem dX10_next_26 : decode cX10_next 26 = .ok (.aload_n 0, 1) := by decide +kernel
theorem dX10_next_27 : decode cX10_next 27 = .ok (.aload_n 0, 1) := by decide +kernel
theorem dX10_next_28 : decode cX10_next 28 = .ok (.getfield 100, 3) := by decide +kernel
theorem dX10_next_31 : decode cX10_next 31 = .ok (.putfield 107, 3) := by decide +kernel
theorem dX10_next_34 : decode cX10_next 34 = .ok (.aload_n 0, 1) := by decide +kernel
theorem dX10_next_35 : decode cX10_next 35 = .ok (.aload_n 0, 1) := by decide +kernel
theorem dX10_next_36 : decode cX10_next 36 = .ok (.getfield 100, 3) := by decide +kernel
theorem dX10_next_39 : decode cX10_next 39 = .ok (.invokevirtual 103, 3) := by decide +kernel
theorem dX10_next_42 : decode cX10_next 42 = .ok (.istore_n 1, 1) := by decide +kernel
theorem dX10_next_43 : decode cX10_next 43 = .ok (.iload_n 1, 1) := by decide +kernel
theorem dX10_next_44 : decode cX10_next 44 = .ok (.ifCond .ge 9, 3) := by decide +kernel
theorem dX10_next_47 : decode cX10_next 47 = .ok (.aload_n 0, 1) := by decide +kernel
theorem dX10_next_48 : decode cX10_next 48 = .ok (.iconst 0, 1) := by decide +kernel
theorem dX10_next_49 : decode cX10_next 49 = .ok (.putfield 110, 3) := by decide +kernel
theorem dX10_next_52 : decode cX10_next 52 = .ok (.return_, 1) := by decide +kernel
theorem dX10_next_53 : decode cX10_next 53 = .ok (.aload_n 0, 1) := by decide +kernel
theorem dX10_next_54 : decode cX10_next 54 = .ok (.dup, 1) := by decide +kernel
theorem dX10_next_55 : decode cX10_next 55 = .ok (.getfield 100, 3) := by decide +kernel
theorem dX10_next_58 : decode cX10_next 58 = .ok (.iconst 1, 1) := by decide +kernel
theorem dX10_next_59 : decode cX10_next 59 = .ok (.iadd, 1) := by decide +kernel
theorem dX10_next_60 : decode cX10_next 60 = .ok (.putfield 100, 3) := by decide +kernel
theorem dX10_next_63 : decode cX10_next 63 = .ok (.aload_n 0, 1) := by decide +kernel
theorem dX10_next_64 : decode cX10_next 64 = .ok (.iload_n 1, 1) := by decide +kernel
theorem dX10_next_65 : decode cX10_next 65 = .ok (.putfield 113, 3) := by decide +kernel
theorem dX10_next_68 : decode cX10_next 68 = .ok (.aload_n 0, 1) := by decide +kernel
theorem dX10_next_69 : decode cX10_next 69 = .ok (.iload_n 1, 1) := by decide +kernel
theorem dX10_next_70 : decode cX10_next 70 = .ok (.bipush 103, 2) := by decide +kernel
theorem dX10_next_72 : decode cX10_next 72 = .ok (.if_icmp .eq 27, 3) := by decide +kernel
theorem dX10_next_75 : decode cX10_next 75 = .ok (.iload_n 1, 1) := by decide +kernel
theorem dX10_next_76 : decode cX10_next 76 = .ok (.bipush 102, 2) := by decide +kernel
theorem dX10_next_78 : decode cX10_next 78 = .ok (.if_icmp .eq 21, 3) := by decide +kernel
theorem dX10_next_81 : decode cX10_next 81 = .ok (.iload_n 1, 1) := by decide +kernel
theorem dX10_next_82 : decode cX10_next 82 = .ok (.bipush 110, 2) := by decide +kernel
theorem dX10_next_84 : decode cX10_next 84 = .ok (.if_icmp .eq 15, 3) := by decide +kernel
theorem dX10_next_87 : decode cX10_next 87 = .ok (.iload_n 1, 1) := by decide +kernel
theorem dX10_next_88 : decode cX10_next 88 = .ok (.bipush 115, 2) := by decide +kernel
theorem dX10_next_90 : decode cX10_next 90 = .ok (.if_icmp .eq 9, 3) := by decide +kernel
theorem dX10_next_93 : decode cX10_next 93 = .ok (.iload_n 1, 1) := by decide +kernel
theorem dX10_next_94 : decode cX10_next 94 = .ok (.bipush 114, 2) := by decide +kernel
theorem dX10_next_96 : decode cX10_next 96 = .ok (.if_icmp .ne 7, 3) := by decide +kernel
theorem dX10_next_99 : decode cX10_next 99 = .ok (.iconst 1, 1) := by decide +kernel
theorem dX10_next_100 : decode cX10_next 100 = .ok (.goto 14, 3) := by decide +kernel
theorem dX10_next_103 : decode cX10_next 103 = .ok (.iload_n 1, 1) := by decide +kernel
theorem dX10_next_104 : decode cX10_next 104 = .ok (.bipush 59, 2) := by decide +kernel
theorem dX10_next_106 : decode cX10_next 106 = .ok (.if_icmp .ne 7, 3) := by decide +kernel
theorem dX10_next_109 : decode cX10_next 109 = .ok (.iconst 3, 1) := by decide +kernel
theorem dX10_next_110 : decode cX10_next 110 = .ok (.goto 4, 3) := by decide +kernel
theorem dX10_next_113 : decode cX10_next 113 = .ok (.iconst 4, 1) := by decide +kernel
theorem dX10_next_114 : decode cX10_next 114 = .ok (.putfield 110, 3) := by decide +kernel
theorem dX10_next_117 : decode cX10_next 117 = .ok (.iload_n 1, 1) := by decide +kernel
theorem dX10_next_118 : decode cX10_next 118 = .ok (.bipush 48, 2) := by decide +kernel
theorem dX10_next_120 : decode cX10_next 120 = .ok (.bipush 57, 2) := by decide +kernel
theorem dX10_next_122 : decode cX10_next 122 = .ok (.invokestatic 90, 3) := by decide +kernel
theorem dX10_next_125 : decode cX10_next 125 = .ok (.ifCond .eq 126, 3) := by decide +kernel
theorem dX10_next_128 : decode cX10_next 128 = .ok (.aload_n 0, 1) := by decide +kernel
theorem dX10_next_129 : decode cX10_next 129 = .ok (.iload_n 1, 1) := by decide +kernel
theorem dX10_next_130 : decode cX10_next 130 = .ok (.bipush 48, 2) := by decide +kernel
theorem dX10_next_132 : decode cX10_next 132 = .ok (.isub, 1) := by decide +kernel
theorem dX10_next_133 : decode cX10_next 133 = .ok (.putfield 113, 3) := by decide +kernel
theorem dX10_next_136 : decode cX10_next 136 = .ok (.aload_n 0, 1) := by decide +kernel
theorem dX10_next_137 : decode cX10_next 137 = .ok (.aload_n 0, 1) := by decide +kernel
theorem dX10_next_138 : decode cX10_next 138 = .ok (.getfield 100, 3) := by decide +kernel
theorem dX10_next_141 : decode cX10_next 141 = .ok (.invokevirtual 103, 3) := by decide +kernel
theorem dX10_next_144 : decode cX10_next 144 = .ok (.bipush 48, 2) := by decide +kernel
theorem dX10_next_146 : decode cX10_next 146 = .ok (.bipush 57, 2) := by decide +kernel
theorem dX10_next_148 : decode cX10_next 148 = .ok (.invokestatic 90, 3) := by decide +kernel
theorem dX10_next_151 : decode cX10_next 151 = .ok (.ifCond .eq 59, 3) := by decide +kernel
theorem dX10_next_154 : decode cX10_next 154 = .ok (.aload_n 0, 1) := by decide +kernel
theorem dX10_next_155 : decode cX10_next 155 = .ok (.aload_n 0, 1) := by decide +kernel
theorem dX10_next_156 : decode cX10_next 156 = .ok (.getfield 100, 3) := by decide +kernel
theorem dX10_next_159 : decode cX10_next 159 = .ok (.aload_n 0, 1) := by decide +kernel
theorem dX10_next_160 : decode cX10_next 160 = .ok (.getfield 107, 3) := by decide +kernel
theorem dX10_next_163 : decode cX10_next 163 = .ok (.isub, 1) := by decide +kernel
theorem dX10_next_164 : decode cX10_next 164 = .ok (.iconst 2, 1) := by decide +kernel
theorem dX10_next_165 : decode cX10_next 165 = .ok (.if_icmp .ge 25, 3) := by decide +kernel
theorem dX10_next_168 : decode cX10_next 168 = .ok (.bipush 10, 2) := by decide +kernel
theorem dX10_next_170 : decode cX10_next 170 = .ok (.aload_n 0, 1) := by decide +kernel
theorem dX10_next_171 : decode cX10_next 171 = .ok (.getfield 113, 3) := by decide +kernel
theorem dX10_next_174 : decode cX10_next 174 = .ok (.imul, 1) := by decide +kernel
theorem dX10_next_175 : decode cX10_next 175 = .ok (.aload_n 0, 1) := by decide +kernel
theorem dX10_next_176 : decode cX10_next 176 = .ok (.aload_n 0, 1) := by decide +kernel
theorem dX10_next_177 : decode cX10_next 177 = .ok (.getfield 100, 3) := by decide +kernel
theorem dX10_next_180 : decode cX10_next 180 = .ok (.invokevirtual 103, 3) := by decide +kernel
theorem dX10_next_183 : decode cX10_next 183 = .ok (.iadd, 1) := by decide +kernel
theorem dX10_next_184 : decode cX10_next 184 = .ok (.bipush 48, 2) := by decide +kernel
theorem dX10_next_186 : decode cX10_next 186 = .ok (.isub, 1) := by decide +kernel
theorem dX10_next_187 : decode cX10_next 187 = .ok (.goto 7, 3) := by decide +kernel
theorem dX10_next_190 : decode cX10_next 190 = .ok (.aload_n 0, 1) := by decide +kernel
theorem dX10_next_191 : decode cX10_next 191 = .ok (.getfield 113, 3) := by decide +kernel
theorem dX10_next_194 : decode cX10_next 194 = .ok (.putfield 113, 3) := by decide +kernel
theorem dX10_next_197 : decode cX10_next 197 = .ok (.aload_n 0, 1) := by decide +kernel
theorem dX10_next_198 : decode cX10_next 198 = .ok (.dup, 1) := by decide +kernel
theorem dX10_next_199 : decode cX10_next 199 = .ok (.getfield 100, 3) := by decide +kernel
theorem dX10_next_202 : decode cX10_next 202 = .ok (.iconst 1, 1) := by decide +kernel
theorem dX10_next_203 : decode cX10_next 203 = .ok (.iadd, 1) := by decide +kernel
theorem dX10_next_204 : decode cX10_next 204 = .ok (.putfield 100, 3) := by decide +kernel
theorem dX10_next_207 : decode cX10_next 207 = .ok (.goto (-71), 3) := by decide +kernel
theorem dX10_next_210 : decode cX10_next 210 = .ok (.aload_n 0, 1) := by decide +kernel
theorem dX10_next_211 : decode cX10_next 211 = .ok (.aload_n 0, 1) := by decide +kernel
theorem dX10_next_212 : decode cX10_next 212 = .ok (.getfield 100, 3) := by decide +kernel
theorem dX10_next_215 : decode cX10_next 215 = .ok (.aload_n 0, 1) := by decide +kernel
theorem dX10_next_216 : decode cX10_next 216 = .ok (.getfield 107, 3) := by decide +kernel
theorem dX10_next_219 : decode cX10_next 219 = .ok (.isub, 1) := by decide +kernel
theorem dX10_next_220 : decode cX10_next 220 = .ok (.iconst 3, 1) := by decide +kernel
theorem dX10_next_221 : decode cX10_next 221 = .ok (.if_icmp .ge 26, 3) := by decide +kernel
theorem dX10_next_224 : decode cX10_next 224 = .ok (.iload_n 1, 1) := by decide +kernel
theorem dX10_next_225 : decode cX10_next 225 = .ok (.bipush 48, 2) := by decide +kernel
theorem dX10_next_227 : decode cX10_next 227 = .ok (.if_icmp .ne 16, 3) := by decide +kernel
theorem dX10_next_230 : decode cX10_next 230 = .ok (.aload_n 0, 1) := by decide +kernel
theorem dX10_next_231 : decode cX10_next 231 = .ok (.getfield 100, 3) := by decide +kernel
theorem dX10_next_234 : decode cX10_next 234 = .ok (.aload_n 0, 1) := by decide +kernel
theorem dX10_next_235 : decode cX10_next 235 = .ok (.getfield 107, 3) := by decide +kernel
theorem dX10_next_238 : decode cX10_next 238 = .ok (.isub, 1) := by decide +kernel
theorem dX10_next_239 : decode cX10_next 239 = .ok (.iconst 1, 1) := by decide +kernel
theorem dX10_next_240 : decode cX10_next 240 = .ok (.if_icmp .ne 7, 3) := by decide +kernel
theorem dX10_next_243 : decode cX10_next 243 = .ok (.iconst 2, 1) := by decide +kernel
theorem dX10_next_244 : decode cX10_next 244 = .ok (.goto 4, 3) := by decide +kernel
theorem dX10_next_247 : decode cX10_next 247 = .ok (.iconst 4, 1) := by decide +kernel
theorem dX10_next_248 : decode cX10_next 248 = .ok (.putfield 110, 3) := by decide +kernel
theorem dX10_next_251 : decode cX10_next 251 = .ok (.return_, 1) := by decide +kernel
theorem dX10_must_0 : decode cX10_must 0 = .ok (.aload_n 0, 1) := by decide +kernel
theorem dX10_must_1 : decode cX10_must 1 = .ok (.aload_n 0, 1) := by decide +kernel
theorem dX10_must_2 : decode cX10_must 2 = .ok (.getfield 116, 3) := by decide +kernel
theorem dX10_must_5 : decode cX10_must 5 = .ok (.ifCond .ne 7, 3) := by decide +kernel
theorem dX10_must_8 : decode cX10_must 8 = .ok (.iload_n 1, 1) := by decide +kernel
theorem dX10_must_9 : decode cX10_must 9 = .ok (.ifCond .ne 7, 3) := by decide +kernel
theorem dX10_must_12 : decode cX10_must 12 = .ok (.iconst 1, 1) := by decide +kernel
theorem dX10_must_13 : decode cX10_must 13 = .ok (.goto 4, 3) := by decide +kernel
theorem dX10_must_16 : decode cX10_must 16 = .ok (.iconst 0, 1) := by decide +kernel
theorem dX10_must_17 : decode cX10_must 17 = .ok (.putfield 116, 3) := by decide +kernel
theorem dX10_must_20 : decode cX10_must 20 = .ok (.aload_n 0, 1) := by decide +kernel
theorem dX10_must_21 : decode cX10_must 21 = .ok (.getfield 116, 3) := by decide +kernel
theorem dX10_must_24 : decode cX10_must 24 = .ok (.ifCond .ne 7, 3) := by decide +kernel
theorem dX10_must_27 : decode cX10_must 27 = .ok (.aload_n 0, 1) := by decide +kernel
theorem dX10_must_28 : decode cX10_must 28 = .ok (.invokevirtual 120, 3) := by decide +kernel
theorem dX10_must_31 : decode cX10_must 31 = .ok (.return_, 1) := by decide +kernel
theorem dX10_readInto_0 : decode cX10_readInto 0 = .ok (.aload_n 0, 1) := by decide +kernel
theorem dX10_readInto_1 : decode cX10_readInto 1 = .ok (.getfield 113, 3) := by decide +kernel
theorem dX10_readInto_4 : decode cX10_readInto 4 = .ok (.istore 5, 2) := by decide +kernel
theorem dX10_readInto_6 : decode cX10_readInto 6 = .ok (.aload_n 0, 1) := by decide +kernel
theorem dX10_readInto_7 : decode cX10_readInto 7 = .ok (.aload_n 0, 1) := by decide +kernel
theorem dX10_readInto_8 : decode cX10_readInto 8 = .ok (.getfield 110, 3) := by decide +kernel
theorem dX10_readInto_11 : decode cX10_readInto 11 = .ok (.iconst 2, 1) := by decide +kernel
theorem dX10_readInto_12 : decode cX10_readInto 12 = .ok (.if_icmp .ne 18, 3) := by decide +kernel
theorem dX10_readInto_15 : decode cX10_readInto 15 = .ok (.iload 5, 2) := by decide +kernel
theorem dX10_readInto_17 : decode cX10_readInto 17 = .ok (.iload_n 3, 1) := by decide +kernel
theorem dX10_readInto_18 : decode cX10_readInto 18 = .ok (.iload 4, 2) := by decide +kernel
theorem dX10_readInto_20 : decode cX10_readInto 20 = .ok (.invokestatic 90, 3) := by decide +kernel
theorem dX10_readInto_23 : decode cX10_readInto 23 = .ok (.ifCond .eq 7, 3) := by decide +kernel
theorem dX10_readInto_26 : decode cX10_readInto 26 = .ok (.iconst 1, 1) := by decide +kernel
theorem dX10_readInto_27 : decode cX10_readInto 27 = .ok (.goto 4, 3) := by decide +kernel
theorem dX10_readInto_30 : decode cX10_readInto 30 = .ok (.iconst 0, 1) := by decide +kernel
theorem dX10_readInto_31 : decode cX10_readInto 31 = .ok (.invokevirtual 123, 3) := by decide +kernel
theorem dX10_readInto_34 : decode cX10_readInto 34 = .ok (.aload_n 0, 1) := by decide +kernel
theorem dX10_readInto_35 : decode cX10_readInto 35 = .ok (.getfield 116, 3) := by decide +kernel
theorem dX10_readInto_38 : decode cX10_readInto 38 = .ok (.ifCond .ne 8, 3) := by decide +kernel
theorem dX10_readInto_41 : decode cX10_readInto 41 = .ok (.aload_n 1, 1) := by decide +kernel
theorem dX10_readInto_42 : decode cX10_readInto 42 = .ok (.iload_n 2, 1) := by decide +kernel
theorem dX10_readInto_43 : decode cX10_readInto 43 = .ok (.iload 5, 2) := by decide +kernel
theorem dX10_readInto_45 : decode cX10_readInto 45 = .ok (.iastore, 1) := by decide +kernel
theorem dX10_readInto_46 : decode cX10_readInto 46 = .ok (.iload 5, 2) := by decide +kernel
theorem dX10_readInto_48 : decode cX10_readInto 48 = .ok (.ireturn, 1) := by decide +kernel
theorem dX10_readYard_0 : decode cX10_readYard 0 = .ok (.aload_n 0, 1) := by decide +kernel
theorem dX10_readYard_1 : decode cX10_readYard 1 = .ok (.iload_n 1, 1) := by decide +kernel
theorem dX10_readYard_2 : decode cX10_readYard 2 = .ok (.invokevirtual 123, 3) := by decide +kernel
theorem dX10_readYard_5 : decode cX10_readYard 5 = .ok (.aload_n 0, 1) := by decide +kernel
theorem dX10_readYard_6 : decode cX10_readYard 6 = .ok (.getfield 116, 3) := by decide +kernel
theorem dX10_readYard_9 : decode cX10_readYard 9 = .ok (.ifCond .eq 4, 3) := by decide +kernel
theorem dX10_readYard_12 : decode cX10_readYard 12 = .ok (.return_, 1) := by decide +kernel
theorem dX10_readYard_13 : decode cX10_readYard 13 = .ok (.aload_n 0, 1) := by decide +kernel
theorem dX10_readYard_14 : decode cX10_readYard 14 = .ok (.aload_n 0, 1) := by decide +kernel
theorem dX10_readYard_15 : decode cX10_readYard 15 = .ok (.getfield 51, 3) := by decide +kernel
theorem dX10_readYard_18 : decode cX10_readYard 18 = .ok (.iconst 0, 1) := by decide +kernel
theorem dX10_readYard_19 : decode cX10_readYard 19 = .ok (.iconst 1, 1) := by decide +kernel
theorem dX10_readYard_20 : decode cX10_readYard 20 = .ok (.iconst 4, 1) := by decide +kernel
theorem dX10_readYard_21 : decode cX10_readYard 21 = .ok (.invokevirtual 127, 3) := by decide +kernel
theorem dX10_readYard_24 : decode cX10_readYard 24 = .ok (.pop, 1) := by decide +kernel
theorem dX10_readYard_25 : decode cX10_readYard 25 = .ok (.aload_n 0, 1) := by decide +kernel
theorem dX10_readYard_26 : decode cX10_readYard 26 = .ok (.aload_n 0, 1) := by decide +kernel
theorem dX10_readYard_27 : decode cX10_readYard 27 = .ok (.getfield 51, 3) := by decide +kernel
theorem dX10_readYard_30 : decode cX10_readYard 30 = .ok (.iconst 1, 1) := by decide +kernel
theorem dX10_readYard_31 : decode cX10_readYard 31 = .ok (.iconst 1, 1) := by decide +kernel
theorem dX10_readYard_32 : decode cX10_readYard 32 = .ok (.iconst 3, 1) := by decide +kernel
theorem dX10_readYard_33 : decode cX10_readYard 33 = .ok (.invokevirtual 127, 3) := by decide +kernel
theorem dX10_readYard_36 : decode cX10_readYard 36 = .ok (.pop, 1) := by decide +kernel
theorem dX10_readYard_37 : decode cX10_readYard 37 = .ok (.aload_n 0, 1) := by decide +kernel
theorem dX10_readYard_38 : decode cX10_readYard 38 = .ok (.aload_n 0, 1) := by decide +kernel
theorem dX10_readYard_39 : decode cX10_readYard 39 = .ok (.getfield 110, 3) := by decide +kernel
theorem dX10_readYard_42 : decode cX10_readYard 42 = .ok (.iconst 3, 1) := by decide +kernel
theorem dX10_readYard_43 : decode cX10_readYard 43 = .ok (.if_icmp .ne 7, 3) := by decide +kernel
theorem dX10_readYard_46 : decode cX10_readYard 46 = .ok (.iconst 1, 1) := by decide +kernel
theorem dX10_readYard_47 : decode cX10_readYard 47 = .ok (.goto 4, 3) := by decide +kernel
theorem dX10_readYard_50 : decode cX10_readYard 50 = .ok (.iconst 0, 1) := by decide +kernel
theorem dX10_readYard_51 : decode cX10_readYard 51 = .ok (.invokevirtual 123, 3) := by decide +kernel
theorem dX10_readYard_54 : decode cX10_readYard 54 = .ok (.return_, 1) := by decide +kernel
theorem dX10_readFall_0 : decode cX10_readFall 0 = .ok (.aload_n 0, 1) := by decide +kernel
theorem dX10_readFall_1 : decode cX10_readFall 1 = .ok (.aload_n 0, 1) := by decide +kernel
theorem dX10_readFall_2 : decode cX10_readFall 2 = .ok (.getfield 131, 3) := by decide +kernel
theorem dX10_readFall_5 : decode cX10_readFall 5 = .ok (.ifCond .ne 7, 3) := by decide +kernel
theorem dX10_readFall_8 : decode cX10_readFall 8 = .ok (.iconst 1, 1) := by decide +kernel
theorem dX10_readFall_9 : decode cX10_readFall 9 = .ok (.goto 4, 3) := by decide +kernel
theorem dX10_readFall_12 : decode cX10_readFall 12 = .ok (.iconst 0, 1) := by decide +kernel
theorem dX10_readFall_13 : decode cX10_readFall 13 = .ok (.invokevirtual 123, 3) := by decide +kernel
theorem dX10_readFall_16 : decode cX10_readFall 16 = .ok (.aload_n 0, 1) := by decide +kernel
theorem dX10_readFall_17 : decode cX10_readFall 17 = .ok (.getfield 116, 3) := by decide +kernel
theorem dX10_readFall_20 : decode cX10_readFall 20 = .ok (.ifCond .eq 4, 3) := by decide +kernel
theorem dX10_readFall_23 : decode cX10_readFall 23 = .ok (.return_, 1) := by decide +kernel
theorem dX10_readFall_24 : decode cX10_readFall 24 = .ok (.aload_n 0, 1) := by decide +kernel
theorem dX10_readFall_25 : decode cX10_readFall 25 = .ok (.aload_n 0, 1) := by decide +kernel
theorem dX10_readFall_26 : decode cX10_readFall 26 = .ok (.getfield 51, 3) := by decide +kernel
theorem dX10_readFall_29 : decode cX10_readFall 29 = .ok (.iconst 2, 1) := by decide +kernel
theorem dX10_readFall_30 : decode cX10_readFall 30 = .ok (.iconst 1, 1) := by decide +kernel
theorem dX10_readFall_31 : decode cX10_readFall 31 = .ok (.bipush 20, 2) := by decide +kernel
theorem dX10_readFall_33 : decode cX10_readFall 33 = .ok (.invokevirtual 127, 3) := by decide +kernel
theorem dX10_readFall_36 : decode cX10_readFall 36 = .ok (.pop, 1) := by decide +kernel
theorem dX10_readFall_37 : decode cX10_readFall 37 = .ok (.aload_n 0, 1) := by decide +kernel
theorem dX10_readFall_38 : decode cX10_readFall 38 = .ok (.aload_n 0, 1) := by decide +kernel
theorem dX10_readFall_39 : decode cX10_readFall 39 = .ok (.getfield 110, 3) := by decide +kernel
theorem dX10_readFall_42 : decode cX10_readFall 42 = .ok (.iconst 3, 1) := by decide +kernel
theorem dX10_readFall_43 : decode cX10_readFall 43 = .ok (.if_icmp .ne 7, 3) := by decide +kernel
theorem dX10_readFall_46 : decode cX10_readFall 46 = .ok (.iconst 1, 1) := by decide +kernel
theorem dX10_readFall_47 : decode cX10_readFall 47 = .ok (.goto 4, 3) := by decide +kernel
theorem dX10_readFall_50 : decode cX10_readFall 50 = .ok (.iconst 0, 1) := by decide +kernel
theorem dX10_readFall_51 : decode cX10_readFall 51 = .ok (.invokevirtual 123, 3) := by decide +kernel
theorem dX10_readFall_54 : decode cX10_readFall 54 = .ok (.aload_n 0, 1) := by decide +kernel
theorem dX10_readFall_55 : decode cX10_readFall 55 = .ok (.iconst 1, 1) := by decide +kernel
theorem dX10_readFall_56 : decode cX10_readFall 56 = .ok (.putfield 131, 3) := by decide +kernel
theorem dX10_readFall_59 : decode cX10_readFall 59 = .ok (.return_, 1) := by decide +kernel
theorem dX10_cells_0 : decode cX10_cells 0 = .ok (.aload_n 0, 1) := by decide +kernel
theorem dX10_cells_1 : decode cX10_cells 1 = .ok (.getfield 51, 3) := by decide +kernel
theorem dX10_cells_4 : decode cX10_cells 4 = .ok (.iconst 0, 1) := by decide +kernel
theorem dX10_cells_5 : decode cX10_cells 5 = .ok (.iaload, 1) := by decide +kernel
theorem dX10_cells_6 : decode cX10_cells 6 = .ok (.aload_n 0, 1) := by decide +kernel
theorem dX10_cells_7 : decode cX10_cells 7 = .ok (.getfield 51, 3) := by decide +kernel
theorem dX10_cells_10 : decode cX10_cells 10 = .ok (.iconst 1, 1) := by decide +kernel
theorem dX10_cells_11 : decode cX10_cells 11 = .ok (.iaload, 1) := by decide +kernel
theorem dX10_cells_12 : decode cX10_cells 12 = .ok (.imul, 1) := by decide +kernel
theorem dX10_cells_13 : decode cX10_cells 13 = .ok (.ireturn, 1) := by decide +kernel
theorem dX10_readNoise_0 : decode cX10_readNoise 0 = .ok (.aload_n 0, 1) := by decide +kernel
theorem dX10_readNoise_1 : decode cX10_readNoise 1 = .ok (.aload_n 0, 1) := by decide +kernel
theorem dX10_readNoise_2 : decode cX10_readNoise 2 = .ok (.getfield 134, 3) := by decide +kernel
theorem dX10_readNoise_5 : decode cX10_readNoise 5 = .ok (.iconst 3, 1) := by decide +kernel
theorem dX10_readNoise_6 : decode cX10_readNoise 6 = .ok (.if_icmp .ge 7, 3) := by decide +kernel
theorem dX10_readNoise_9 : decode cX10_readNoise 9 = .ok (.iconst 1, 1) := by decide +kernel
theorem dX10_readNoise_10 : decode cX10_readNoise 10 = .ok (.goto 4, 3) := by decide +kernel
theorem dX10_readNoise_13 : decode cX10_readNoise 13 = .ok (.iconst 0, 1) := by decide +kernel
theorem dX10_readNoise_14 : decode cX10_readNoise 14 = .ok (.invokevirtual 123, 3) := by decide +kernel
theorem dX10_readNoise_17 : decode cX10_readNoise 17 = .ok (.aload_n 0, 1) := by decide +kernel
theorem dX10_readNoise_18 : decode cX10_readNoise 18 = .ok (.getfield 116, 3) := by decide +kernel
theorem dX10_readNoise_21 : decode cX10_readNoise 21 = .ok (.ifCond .eq 4, 3) := by decide +kernel
theorem dX10_readNoise_24 : decode cX10_readNoise 24 = .ok (.return_, 1) := by decide +kernel
theorem dX10_readNoise_25 : decode cX10_readNoise 25 = .ok (.iconst 4, 1) := by decide +kernel
theorem dX10_readNoise_26 : decode cX10_readNoise 26 = .ok (.aload_n 0, 1) := by decide +kernel
theorem dX10_readNoise_27 : decode cX10_readNoise 27 = .ok (.getfield 134, 3) := by decide +kernel
theorem dX10_readNoise_30 : decode cX10_readNoise 30 = .ok (.imul, 1) := by decide +kernel
theorem dX10_readNoise_31 : decode cX10_readNoise 31 = .ok (.istore_n 1, 1) := by decide +kernel
theorem dX10_readNoise_32 : decode cX10_readNoise 32 = .ok (.aload_n 0, 1) := by decide +kernel
theorem dX10_readNoise_33 : decode cX10_readNoise 33 = .ok (.aload_n 0, 1) := by decide +kernel
theorem dX10_readNoise_34 : decode cX10_readNoise 34 = .ok (.getfield 54, 3) := by decide +kernel
theorem dX10_readNoise_37 : decode cX10_readNoise 37 = .ok (.iload_n 1, 1) := by decide +kernel
theorem dX10_readNoise_38 : decode cX10_readNoise 38 = .ok (.iconst 0, 1) := by decide +kernel
theorem dX10_readNoise_39 : decode cX10_readNoise 39 = .ok (.aload_n 0, 1) := by decide +kernel
theorem dX10_readNoise_40 : decode cX10_readNoise 40 = .ok (.invokevirtual 137, 3) := by decide +kernel
theorem dX10_readNoise_43 : decode cX10_readNoise 43 = .ok (.iconst 1, 1) := by decide +kernel
theorem dX10_readNoise_44 : decode cX10_readNoise 44 = .ok (.isub, 1) := by decide +kernel
theorem dX10_readNoise_45 : decode cX10_readNoise 45 = .ok (.invokevirtual 127, 3) := by decide +kernel
theorem dX10_readNoise_48 : decode cX10_readNoise 48 = .ok (.pop, 1) := by decide +kernel
theorem dX10_readNoise_49 : decode cX10_readNoise 49 = .ok (.aload_n 0, 1) := by decide +kernel
theorem dX10_readNoise_50 : decode cX10_readNoise 50 = .ok (.aload_n 0, 1) := by decide +kernel
theorem dX10_readNoise_51 : decode cX10_readNoise 51 = .ok (.getfield 54, 3) := by decide +kernel
theorem dX10_readNoise_54 : decode cX10_readNoise 54 = .ok (.iload_n 1, 1) := by decide +kernel
theorem dX10_readNoise_55 : decode cX10_readNoise 55 = .ok (.iconst 1, 1) := by decide +kernel
theorem dX10_readNoise_56 : decode cX10_readNoise 56 = .ok (.iadd, 1) := by decide +kernel
theorem dX10_readNoise_57 : decode cX10_readNoise 57 = .ok (.iconst 1, 1) := by decide +kernel
theorem dX10_readNoise_58 : decode cX10_readNoise 58 = .ok (.bipush 99, 2) := by decide +kernel
theorem dX10_readNoise_60 : decode cX10_readNoise 60 = .ok (.invokevirtual 127, 3) := by decide +kernel
theorem dX10_readNoise_63 : decode cX10_readNoise 63 = .ok (.pop, 1) := by decide +kernel
theorem dX10_readNoise_64 : decode cX10_readNoise 64 = .ok (.aload_n 0, 1) := by decide +kernel
theorem dX10_readNoise_65 : decode cX10_readNoise 65 = .ok (.aload_n 0, 1) := by decide +kernel
theorem dX10_readNoise_66 : decode cX10_readNoise 66 = .ok (.getfield 54, 3) := by decide +kernel
theorem dX10_readNoise_69 : decode cX10_readNoise 69 = .ok (.iload_n 1, 1) := by decide +kernel
theorem dX10_readNoise_70 : decode cX10_readNoise 70 = .ok (.iconst 2, 1) := by decide +kernel
theorem dX10_readNoise_71 : decode cX10_readNoise 71 = .ok (.iadd, 1) := by decide +kernel
theorem dX10_readNoise_72 : decode cX10_readNoise 72 = .ok (.iconst 0, 1) := by decide +kernel
theorem dX10_readNoise_73 : decode cX10_readNoise 73 = .ok (.bipush 23, 2) := by decide +kernel
theorem dX10_readNoise_75 : decode cX10_readNoise 75 = .ok (.invokevirtual 127, 3) := by decide +kernel
theorem dX10_readNoise_78 : decode cX10_readNoise 78 = .ok (.istore_n 2, 1) := by decide +kernel
theorem dX10_readNoise_79 : decode cX10_readNoise 79 = .ok (.aload_n 0, 1) := by decide +kernel
theorem dX10_readNoise_80 : decode cX10_readNoise 80 = .ok (.aload_n 0, 1) := by decide +kernel
theorem dX10_readNoise_81 : decode cX10_readNoise 81 = .ok (.getfield 54, 3) := by decide +kernel
theorem dX10_readNoise_84 : decode cX10_readNoise 84 = .ok (.iload_n 1, 1) := by decide +kernel
theorem dX10_readNoise_85 : decode cX10_readNoise 85 = .ok (.iconst 3, 1) := by decide +kernel
theorem dX10_readNoise_86 : decode cX10_readNoise 86 = .ok (.iadd, 1) := by decide +kernel
theorem dX10_readNoise_87 : decode cX10_readNoise 87 = .ok (.iload_n 2, 1) := by decide +kernel
theorem dX10_readNoise_88 : decode cX10_readNoise 88 = .ok (.bipush 23, 2) := by decide +kernel
theorem dX10_readNoise_90 : decode cX10_readNoise 90 = .ok (.invokevirtual 127, 3) := by decide +kernel
theorem dX10_readNoise_93 : decode cX10_readNoise 93 = .ok (.pop, 1) := by decide +kernel
theorem dX10_readNoise_94 : decode cX10_readNoise 94 = .ok (.aload_n 0, 1) := by decide +kernel
theorem dX10_readNoise_95 : decode cX10_readNoise 95 = .ok (.aload_n 0, 1) := by decide +kernel
theorem dX10_readNoise_96 : decode cX10_readNoise 96 = .ok (.getfield 110, 3) := by decide +kernel
theorem dX10_readNoise_99 : decode cX10_readNoise 99 = .ok (.iconst 3, 1) := by decide +kernel
theorem dX10_readNoise_100 : decode cX10_readNoise 100 = .ok (.if_icmp .ne 7, 3) := by decide +kernel
theorem dX10_readNoise_103 : decode cX10_readNoise 103 = .ok (.iconst 1, 1) := by decide +kernel
theorem dX10_readNoise_104 : decode cX10_readNoise 104 = .ok (.goto 4, 3) := by decide +kernel
theorem dX10_readNoise_107 : decode cX10_readNoise 107 = .ok (.iconst 0, 1) := by decide +kernel
theorem dX10_readNoise_108 : decode cX10_readNoise 108 = .ok (.invokevirtual 123, 3) := by decide +kernel
theorem dX10_readNoise_111 : decode cX10_readNoise 111 = .ok (.aload_n 0, 1) := by decide +kernel
theorem dX10_readNoise_112 : decode cX10_readNoise 112 = .ok (.dup, 1) := by decide +kernel
theorem dX10_readNoise_113 : decode cX10_readNoise 113 = .ok (.getfield 134, 3) := by decide +kernel
theorem dX10_readNoise_116 : decode cX10_readNoise 116 = .ok (.iconst 1, 1) := by decide +kernel
theorem dX10_readNoise_117 : decode cX10_readNoise 117 = .ok (.iadd, 1) := by decide +kernel
theorem dX10_readNoise_118 : decode cX10_readNoise 118 = .ok (.putfield 134, 3) := by decide +kernel
theorem dX10_readNoise_121 : decode cX10_readNoise 121 = .ok (.return_, 1) := by decide +kernel
theorem dX10_readSheet_0 : decode cX10_readSheet 0 = .ok (.aload_n 0, 1) := by decide +kernel
theorem dX10_readSheet_1 : decode cX10_readSheet 1 = .ok (.aload_n 0, 1) := by decide +kernel
theorem dX10_readSheet_2 : decode cX10_readSheet 2 = .ok (.getfield 141, 3) := by decide +kernel
theorem dX10_readSheet_5 : decode cX10_readSheet 5 = .ok (.iconst 4, 1) := by decide +kernel
theorem dX10_readSheet_6 : decode cX10_readSheet 6 = .ok (.if_icmp .ge 7, 3) := by decide +kernel
theorem dX10_readSheet_9 : decode cX10_readSheet 9 = .ok (.iconst 1, 1) := by decide +kernel
theorem dX10_readSheet_10 : decode cX10_readSheet 10 = .ok (.goto 4, 3) := by decide +kernel
theorem dX10_readSheet_13 : decode cX10_readSheet 13 = .ok (.iconst 0, 1) := by decide +kernel
theorem dX10_readSheet_14 : decode cX10_readSheet 14 = .ok (.invokevirtual 123, 3) := by decide +kernel
theorem dX10_readSheet_17 : decode cX10_readSheet 17 = .ok (.aload_n 0, 1) := by decide +kernel
theorem dX10_readSheet_18 : decode cX10_readSheet 18 = .ok (.getfield 116, 3) := by decide +kernel
theorem dX10_readSheet_21 : decode cX10_readSheet 21 = .ok (.ifCond .eq 4, 3) := by decide +kernel
theorem dX10_readSheet_24 : decode cX10_readSheet 24 = .ok (.return_, 1) := by decide +kernel
theorem dX10_readSheet_25 : decode cX10_readSheet 25 = .ok (.iconst 4, 1) := by decide +kernel
theorem dX10_readSheet_26 : decode cX10_readSheet 26 = .ok (.aload_n 0, 1) := by decide +kernel
theorem dX10_readSheet_27 : decode cX10_readSheet 27 = .ok (.getfield 141, 3) := by decide +kernel
theorem dX10_readSheet_30 : decode cX10_readSheet 30 = .ok (.imul, 1) := by decide +kernel
theorem dX10_readSheet_31 : decode cX10_readSheet 31 = .ok (.istore_n 1, 1) := by decide +kernel
theorem dX10_readSheet_32 : decode cX10_readSheet 32 = .ok (.aload_n 0, 1) := by decide +kernel
theorem dX10_readSheet_33 : decode cX10_readSheet 33 = .ok (.aload_n 0, 1) := by decide +kernel
theorem dX10_readSheet_34 : decode cX10_readSheet 34 = .ok (.getfield 57, 3) := by decide +kernel
theorem dX10_readSheet_37 : decode cX10_readSheet 37 = .ok (.iload_n 1, 1) := by decide +kernel
theorem dX10_readSheet_38 : decode cX10_readSheet 38 = .ok (.iconst 0, 1) := by decide +kernel
theorem dX10_readSheet_39 : decode cX10_readSheet 39 = .ok (.bipush 30, 2) := by decide +kernel
theorem dX10_readSheet_41 : decode cX10_readSheet 41 = .ok (.invokevirtual 127, 3) := by decide +kernel
theorem dX10_readSheet_44 : decode cX10_readSheet 44 = .ok (.pop, 1) := by decide +kernel
theorem dX10_readSheet_45 : decode cX10_readSheet 45 = .ok (.aload_n 0, 1) := by decide +kernel
theorem dX10_readSheet_46 : decode cX10_readSheet 46 = .ok (.aload_n 0, 1) := by decide +kernel
theorem dX10_readSheet_47 : decode cX10_readSheet 47 = .ok (.getfield 57, 3) := by decide +kernel
theorem dX10_readSheet_50 : decode cX10_readSheet 50 = .ok (.iload_n 1, 1) := by decide +kernel
theorem dX10_readSheet_51 : decode cX10_readSheet 51 = .ok (.iconst 1, 1) := by decide +kernel
theorem dX10_readSheet_52 : decode cX10_readSheet 52 = .ok (.iadd, 1) := by decide +kernel
theorem dX10_readSheet_53 : decode cX10_readSheet 53 = .ok (.iconst 1, 1) := by decide +kernel
theorem dX10_readSheet_54 : decode cX10_readSheet 54 = .ok (.iconst 3, 1) := by decide +kernel
theorem dX10_readSheet_55 : decode cX10_readSheet 55 = .ok (.invokevirtual 127, 3) := by decide +kernel
theorem dX10_readSheet_58 : decode cX10_readSheet 58 = .ok (.pop, 1) := by decide +kernel
theorem dX10_readSheet_59 : decode cX10_readSheet 59 = .ok (.aload_n 0, 1) := by decide +kernel
theorem dX10_readSheet_60 : decode cX10_readSheet 60 = .ok (.aload_n 0, 1) := by decide +kernel
theorem dX10_readSheet_61 : decode cX10_readSheet 61 = .ok (.getfield 57, 3) := by decide +kernel
theorem dX10_readSheet_64 : decode cX10_readSheet 64 = .ok (.iload_n 1, 1) := by decide +kernel
theorem dX10_readSheet_65 : decode cX10_readSheet 65 = .ok (.iconst 2, 1) := by decide +kernel
theorem dX10_readSheet_66 : decode cX10_readSheet 66 = .ok (.iadd, 1) := by decide +kernel
theorem dX10_readSheet_67 : decode cX10_readSheet 67 = .ok (.iconst 1, 1) := by decide +kernel
theorem dX10_readSheet_68 : decode cX10_readSheet 68 = .ok (.iconst 3, 1) := by decide +kernel
theorem dX10_readSheet_69 : decode cX10_readSheet 69 = .ok (.invokevirtual 127, 3) := by decide +kernel
theorem dX10_readSheet_72 : decode cX10_readSheet 72 = .ok (.pop, 1) := by decide +kernel
theorem dX10_readSheet_73 : decode cX10_readSheet 73 = .ok (.aload_n 0, 1) := by decide +kernel
theorem dX10_readSheet_74 : decode cX10_readSheet 74 = .ok (.aload_n 0, 1) := by decide +kernel
theorem dX10_readSheet_75 : decode cX10_readSheet 75 = .ok (.getfield 57, 3) := by decide +kernel
theorem dX10_readSheet_78 : decode cX10_readSheet 78 = .ok (.iload_n 1, 1) := by decide +kernel
theorem dX10_readSheet_79 : decode cX10_readSheet 79 = .ok (.iconst 3, 1) := by decide +kernel
theorem dX10_readSheet_80 : decode cX10_readSheet 80 = .ok (.iadd, 1) := by decide +kernel
theorem dX10_readSheet_81 : decode cX10_readSheet 81 = .ok (.iconst 1, 1) := by decide +kernel
theorem dX10_readSheet_82 : decode cX10_readSheet 82 = .ok (.bipush 9, 2) := by decide +kernel
theorem dX10_readSheet_84 : decode cX10_readSheet 84 = .ok (.invokevirtual 127, 3) := by decide +kernel
theorem dX10_readSheet_87 : decode cX10_readSheet 87 = .ok (.pop, 1) := by decide +kernel
theorem dX10_readSheet_88 : decode cX10_readSheet 88 = .ok (.aload_n 0, 1) := by decide +kernel
theorem dX10_readSheet_89 : decode cX10_readSheet 89 = .ok (.aload_n 0, 1) := by decide +kernel
theorem dX10_readSheet_90 : decode cX10_readSheet 90 = .ok (.getfield 110, 3) := by decide +kernel
theorem dX10_readSheet_93 : decode cX10_readSheet 93 = .ok (.iconst 3, 1) := by decide +kernel
theorem dX10_readSheet_94 : decode cX10_readSheet 94 = .ok (.if_icmp .ne 7, 3) := by decide +kernel
theorem dX10_readSheet_97 : decode cX10_readSheet 97 = .ok (.iconst 1, 1) := by decide +kernel
theorem dX10_readSheet_98 : decode cX10_readSheet 98 = .ok (.goto 4, 3) := by decide +kernel
theorem dX10_readSheet_101 : decode cX10_readSheet 101 = .ok (.iconst 0, 1) := by decide +kernel
theorem dX10_readSheet_102 : decode cX10_readSheet 102 = .ok (.invokevirtual 123, 3) := by decide +kernel
theorem dX10_readSheet_105 : decode cX10_readSheet 105 = .ok (.aload_n 0, 1) := by decide +kernel
theorem dX10_readSheet_106 : decode cX10_readSheet 106 = .ok (.dup, 1) := by decide +kernel
theorem dX10_readSheet_107 : decode cX10_readSheet 107 = .ok (.getfield 141, 3) := by decide +kernel
theorem dX10_readSheet_110 : decode cX10_readSheet 110 = .ok (.iconst 1, 1) := by decide +kernel
theorem dX10_readSheet_111 : decode cX10_readSheet 111 = .ok (.iadd, 1) := by decide +kernel
theorem dX10_readSheet_112 : decode cX10_readSheet 112 = .ok (.putfield 141, 3) := by decide +kernel
theorem dX10_readSheet_115 : decode cX10_readSheet 115 = .ok (.return_, 1) := by decide +kernel
theorem dX10_readRoom_0 : decode cX10_readRoom 0 = .ok (.aload_n 0, 1) := by decide +kernel
theorem dX10_readRoom_1 : decode cX10_readRoom 1 = .ok (.aload_n 0, 1) := by decide +kernel
theorem dX10_readRoom_2 : decode cX10_readRoom 2 = .ok (.getfield 144, 3) := by decide +kernel
theorem dX10_readRoom_5 : decode cX10_readRoom 5 = .ok (.iconst 3, 1) := by decide +kernel
theorem dX10_readRoom_6 : decode cX10_readRoom 6 = .ok (.if_icmp .ge 7, 3) := by decide +kernel
theorem dX10_readRoom_9 : decode cX10_readRoom 9 = .ok (.iconst 1, 1) := by decide +kernel
theorem dX10_readRoom_10 : decode cX10_readRoom 10 = .ok (.goto 4, 3) := by decide +kernel
theorem dX10_readRoom_13 : decode cX10_readRoom 13 = .ok (.iconst 0, 1) := by decide +kernel
theorem dX10_readRoom_14 : decode cX10_readRoom 14 = .ok (.invokevirtual 123, 3) := by decide +kernel
theorem dX10_readRoom_17 : decode cX10_readRoom 17 = .ok (.aload_n 0, 1) := by decide +kernel
theorem dX10_readRoom_18 : decode cX10_readRoom 18 = .ok (.getfield 116, 3) := by decide +kernel
theorem dX10_readRoom_21 : decode cX10_readRoom 21 = .ok (.ifCond .eq 4, 3) := by decide +kernel
theorem dX10_readRoom_24 : decode cX10_readRoom 24 = .ok (.return_, 1) := by decide +kernel
theorem dX10_readRoom_25 : decode cX10_readRoom 25 = .ok (.iconst 4, 1) := by decide +kernel
theorem dX10_readRoom_26 : decode cX10_readRoom 26 = .ok (.aload_n 0, 1) := by decide +kernel
theorem dX10_readRoom_27 : decode cX10_readRoom 27 = .ok (.getfield 144, 3) := by decide +kernel
theorem dX10_readRoom_30 : decode cX10_readRoom 30 = .ok (.imul, 1) := by decide +kernel
theorem dX10_readRoom_31 : decode cX10_readRoom 31 = .ok (.istore_n 1, 1) := by decide +kernel
theorem dX10_readRoom_32 : decode cX10_readRoom 32 = .ok (.aload_n 0, 1) := by decide +kernel
theorem dX10_readRoom_33 : decode cX10_readRoom 33 = .ok (.aload_n 0, 1) := by decide +kernel
theorem dX10_readRoom_34 : decode cX10_readRoom 34 = .ok (.getfield 60, 3) := by decide +kernel
theorem dX10_readRoom_37 : decode cX10_readRoom 37 = .ok (.iload_n 1, 1) := by decide +kernel
theorem dX10_readRoom_38 : decode cX10_readRoom 38 = .ok (.iconst 0, 1) := by decide +kernel
theorem dX10_readRoom_39 : decode cX10_readRoom 39 = .ok (.aload_n 0, 1) := by decide +kernel
theorem dX10_readRoom_40 : decode cX10_readRoom 40 = .ok (.invokevirtual 137, 3) := by decide +kernel
theorem dX10_readRoom_43 : decode cX10_readRoom 43 = .ok (.iconst 1, 1) := by decide +kernel
theorem dX10_readRoom_44 : decode cX10_readRoom 44 = .ok (.isub, 1) := by decide +kernel
theorem dX10_readRoom_45 : decode cX10_readRoom 45 = .ok (.invokevirtual 127, 3) := by decide +kernel
theorem dX10_readRoom_48 : decode cX10_readRoom 48 = .ok (.pop, 1) := by decide +kernel
theorem dX10_readRoom_49 : decode cX10_readRoom 49 = .ok (.aload_n 0, 1) := by decide +kernel
theorem dX10_readRoom_50 : decode cX10_readRoom 50 = .ok (.aload_n 0, 1) := by decide +kernel
theorem dX10_readRoom_51 : decode cX10_readRoom 51 = .ok (.getfield 60, 3) := by decide +kernel
theorem dX10_readRoom_54 : decode cX10_readRoom 54 = .ok (.iload_n 1, 1) := by decide +kernel
theorem dX10_readRoom_55 : decode cX10_readRoom 55 = .ok (.iconst 1, 1) := by decide +kernel
theorem dX10_readRoom_56 : decode cX10_readRoom 56 = .ok (.iadd, 1) := by decide +kernel
theorem dX10_readRoom_57 : decode cX10_readRoom 57 = .ok (.iconst 0, 1) := by decide +kernel
theorem dX10_readRoom_58 : decode cX10_readRoom 58 = .ok (.bipush 23, 2) := by decide +kernel
theorem dX10_readRoom_60 : decode cX10_readRoom 60 = .ok (.invokevirtual 127, 3) := by decide +kernel
theorem dX10_readRoom_63 : decode cX10_readRoom 63 = .ok (.istore_n 2, 1) := by decide +kernel
theorem dX10_readRoom_64 : decode cX10_readRoom 64 = .ok (.aload_n 0, 1) := by decide +kernel
theorem dX10_readRoom_65 : decode cX10_readRoom 65 = .ok (.aload_n 0, 1) := by decide +kernel
theorem dX10_readRoom_66 : decode cX10_readRoom 66 = .ok (.getfield 60, 3) := by decide +kernel
theorem dX10_readRoom_69 : decode cX10_readRoom 69 = .ok (.iload_n 1, 1) := by decide +kernel
theorem dX10_readRoom_70 : decode cX10_readRoom 70 = .ok (.iconst 2, 1) := by decide +kernel
theorem dX10_readRoom_71 : decode cX10_readRoom 71 = .ok (.iadd, 1) := by decide +kernel
theorem dX10_readRoom_72 : decode cX10_readRoom 72 = .ok (.iload_n 2, 1) := by decide +kernel
theorem dX10_readRoom_73 : decode cX10_readRoom 73 = .ok (.bipush 23, 2) := by decide +kernel
theorem dX10_readRoom_75 : decode cX10_readRoom 75 = .ok (.invokevirtual 127, 3) := by decide +kernel
theorem dX10_readRoom_78 : decode cX10_readRoom 78 = .ok (.pop, 1) := by decide +kernel
theorem dX10_readRoom_79 : decode cX10_readRoom 79 = .ok (.aload_n 0, 1) := by decide +kernel
theorem dX10_readRoom_80 : decode cX10_readRoom 80 = .ok (.aload_n 0, 1) := by decide +kernel
theorem dX10_readRoom_81 : decode cX10_readRoom 81 = .ok (.getfield 60, 3) := by decide +kernel
theorem dX10_readRoom_84 : decode cX10_readRoom 84 = .ok (.iload_n 1, 1) := by decide +kernel
theorem dX10_readRoom_85 : decode cX10_readRoom 85 = .ok (.iconst 3, 1) := by decide +kernel
theorem dX10_readRoom_86 : decode cX10_readRoom 86 = .ok (.iadd, 1) := by decide +kernel
theorem dX10_readRoom_87 : decode cX10_readRoom 87 = .ok (.iconst 0, 1) := by decide +kernel
theorem dX10_readRoom_88 : decode cX10_readRoom 88 = .ok (.bipush 99, 2) := by decide +kernel
theorem dX10_readRoom_90 : decode cX10_readRoom 90 = .ok (.invokevirtual 127, 3) := by decide +kernel
theorem dX10_readRoom_93 : decode cX10_readRoom 93 = .ok (.pop, 1) := by decide +kernel
theorem dX10_readRoom_94 : decode cX10_readRoom 94 = .ok (.aload_n 0, 1) := by decide +kernel
theorem dX10_readRoom_95 : decode cX10_readRoom 95 = .ok (.aload_n 0, 1) := by decide +kernel
theorem dX10_readRoom_96 : decode cX10_readRoom 96 = .ok (.getfield 110, 3) := by decide +kernel
theorem dX10_readRoom_99 : decode cX10_readRoom 99 = .ok (.iconst 3, 1) := by decide +kernel
theorem dX10_readRoom_100 : decode cX10_readRoom 100 = .ok (.if_icmp .ne 7, 3) := by decide +kernel
theorem dX10_readRoom_103 : decode cX10_readRoom 103 = .ok (.iconst 1, 1) := by decide +kernel
theorem dX10_readRoom_104 : decode cX10_readRoom 104 = .ok (.goto 4, 3) := by decide +kernel
theorem dX10_readRoom_107 : decode cX10_readRoom 107 = .ok (.iconst 0, 1) := by decide +kernel
theorem dX10_readRoom_108 : decode cX10_readRoom 108 = .ok (.invokevirtual 123, 3) := by decide +kernel
theorem dX10_readRoom_111 : decode cX10_readRoom 111 = .ok (.aload_n 0, 1) := by decide +kernel
theorem dX10_readRoom_112 : decode cX10_readRoom 112 = .ok (.dup, 1) := by decide +kernel
theorem dX10_readRoom_113 : decode cX10_readRoom 113 = .ok (.getfield 144, 3) := by decide +kernel
theorem dX10_readRoom_116 : decode cX10_readRoom 116 = .ok (.iconst 1, 1) := by decide +kernel
theorem dX10_readRoom_117 : decode cX10_readRoom 117 = .ok (.iadd, 1) := by decide +kernel
theorem dX10_readRoom_118 : decode cX10_readRoom 118 = .ok (.putfield 144, 3) := by decide +kernel
theorem dX10_readRoom_121 : decode cX10_readRoom 121 = .ok (.return_, 1) := by decide +kernel
theorem dX10_readItem_0 : decode cX10_readItem 0 = .ok (.aload_n 0, 1) := by decide +kernel
theorem dX10_readItem_1 : decode cX10_readItem 1 = .ok (.getfield 110, 3) := by decide +kernel
theorem dX10_readItem_4 : decode cX10_readItem 4 = .ok (.iconst 1, 1) := by decide +kernel
theorem dX10_readItem_5 : decode cX10_readItem 5 = .ok (.if_icmp .ne 10, 3) := by decide +kernel
theorem dX10_readItem_8 : decode cX10_readItem 8 = .ok (.aload_n 0, 1) := by decide +kernel
theorem dX10_readItem_9 : decode cX10_readItem 9 = .ok (.getfield 113, 3) := by decide +kernel
theorem dX10_readItem_12 : decode cX10_readItem 12 = .ok (.goto 4, 3) := by decide +kernel
theorem dX10_readItem_15 : decode cX10_readItem 15 = .ok (.iconst 0, 1) := by decide +kernel
theorem dX10_readItem_16 : decode cX10_readItem 16 = .ok (.istore_n 2, 1) := by decide +kernel
theorem dX10_readItem_17 : decode cX10_readItem 17 = .ok (.iload_n 2, 1) := by decide +kernel
theorem dX10_readItem_18 : decode cX10_readItem 18 = .ok (.tableswitch 106 102 115 #[78, 70, 106, 106, 106, 106, 106, 106, 85, 106, 106, 106, 99, 92], 70) := by decide +kernel
theorem dX10_readItem_88 : decode cX10_readItem 88 = .ok (.aload_n 0, 1) := by decide +kernel
theorem dX10_readItem_89 : decode cX10_readItem 89 = .ok (.iload_n 1, 1) := by decide +kernel
theorem dX10_readItem_90 : decode cX10_readItem 90 = .ok (.invokevirtual 147, 3) := by decide +kernel
theorem dX10_readItem_93 : decode cX10_readItem 93 = .ok (.goto 36, 3) := by decide +kernel
theorem dX10_readItem_96 : decode cX10_readItem 96 = .ok (.aload_n 0, 1) := by decide +kernel
theorem dX10_readItem_97 : decode cX10_readItem 97 = .ok (.invokevirtual 150, 3) := by decide +kernel
theorem dX10_readItem_100 : decode cX10_readItem 100 = .ok (.goto 29, 3) := by decide +kernel
theorem dX10_readItem_103 : decode cX10_readItem 103 = .ok (.aload_n 0, 1) := by decide +kernel
theorem dX10_readItem_104 : decode cX10_readItem 104 = .ok (.invokevirtual 153, 3) := by decide +kernel
theorem dX10_readItem_107 : decode cX10_readItem 107 = .ok (.goto 22, 3) := by decide +kernel
theorem dX10_readItem_110 : decode cX10_readItem 110 = .ok (.aload_n 0, 1) := by decide +kernel
theorem dX10_readItem_111 : decode cX10_readItem 111 = .ok (.invokevirtual 156, 3) := by decide +kernel
theorem dX10_readItem_114 : decode cX10_readItem 114 = .ok (.goto 15, 3) := by decide +kernel
theorem dX10_readItem_117 : decode cX10_readItem 117 = .ok (.aload_n 0, 1) := by decide +kernel
theorem dX10_readItem_118 : decode cX10_readItem 118 = .ok (.invokevirtual 159, 3) := by decide +kernel
theorem dX10_readItem_121 : decode cX10_readItem 121 = .ok (.goto 8, 3) := by decide +kernel
theorem dX10_readItem_124 : decode cX10_readItem 124 = .ok (.aload_n 0, 1) := by decide +kernel
theorem dX10_readItem_125 : decode cX10_readItem 125 = .ok (.iconst 1, 1) := by decide +kernel
theorem dX10_readItem_126 : decode cX10_readItem 126 = .ok (.putfield 116, 3) := by decide +kernel
theorem dX10_readItem_129 : decode cX10_readItem 129 = .ok (.return_, 1) := by decide +kernel
theorem dX10_house_0 : decode cX10_house 0 = .ok (.aload_n 0, 1) := by decide +kernel
theorem dX10_house_1 : decode cX10_house 1 = .ok (.iconst 0, 1) := by decide +kernel
theorem dX10_house_2 : decode cX10_house 2 = .ok (.putfield 100, 3) := by decide +kernel
theorem dX10_house_5 : decode cX10_house 5 = .ok (.aload_n 0, 1) := by decide +kernel
theorem dX10_house_6 : decode cX10_house 6 = .ok (.iconst 0, 1) := by decide +kernel
theorem dX10_house_7 : decode cX10_house 7 = .ok (.putfield 116, 3) := by decide +kernel
theorem dX10_house_10 : decode cX10_house 10 = .ok (.aload_n 0, 1) := by decide +kernel
theorem dX10_house_11 : decode cX10_house 11 = .ok (.getfield 51, 3) := by decide +kernel
theorem dX10_house_14 : decode cX10_house 14 = .ok (.iconst 0, 1) := by decide +kernel
theorem dX10_house_15 : decode cX10_house 15 = .ok (.iconst 3, 1) := by decide +kernel
theorem dX10_house_16 : decode cX10_house 16 = .ok (.iastore, 1) := by decide +kernel
theorem dX10_house_17 : decode cX10_house 17 = .ok (.aload_n 0, 1) := by decide +kernel
theorem dX10_house_18 : decode cX10_house 18 = .ok (.getfield 51, 3) := by decide +kernel
theorem dX10_house_21 : decode cX10_house 21 = .ok (.iconst 1, 1) := by decide +kernel
theorem dX10_house_22 : decode cX10_house 22 = .ok (.iconst 2, 1) := by decide +kernel
theorem dX10_house_23 : decode cX10_house 23 = .ok (.iastore, 1) := by decide +kernel
theorem dX10_house_24 : decode cX10_house 24 = .ok (.aload_n 0, 1) := by decide +kernel
theorem dX10_house_25 : decode cX10_house 25 = .ok (.getfield 51, 3) := by decide +kernel
theorem dX10_house_28 : decode cX10_house 28 = .ok (.iconst 2, 1) := by decide +kernel
theorem dX10_house_29 : decode cX10_house 29 = .ok (.iconst 5, 1) := by decide +kernel
theorem dX10_house_30 : decode cX10_house 30 = .ok (.iastore, 1) := by decide +kernel
theorem dX10_house_31 : decode cX10_house 31 = .ok (.aload_n 0, 1) := by decide +kernel
theorem dX10_house_32 : decode cX10_house 32 = .ok (.iconst 0, 1) := by decide +kernel
theorem dX10_house_33 : decode cX10_house 33 = .ok (.putfield 131, 3) := by decide +kernel
theorem dX10_house_36 : decode cX10_house 36 = .ok (.aload_n 0, 1) := by decide +kernel
theorem dX10_house_37 : decode cX10_house 37 = .ok (.iconst 0, 1) := by decide +kernel
theorem dX10_house_38 : decode cX10_house 38 = .ok (.putfield 134, 3) := by decide +kernel
theorem dX10_house_41 : decode cX10_house 41 = .ok (.aload_n 0, 1) := by decide +kernel
theorem dX10_house_42 : decode cX10_house 42 = .ok (.iconst 0, 1) := by decide +kernel
theorem dX10_house_43 : decode cX10_house 43 = .ok (.putfield 141, 3) := by decide +kernel
theorem dX10_house_46 : decode cX10_house 46 = .ok (.aload_n 0, 1) := by decide +kernel
theorem dX10_house_47 : decode cX10_house 47 = .ok (.iconst 0, 1) := by decide +kernel
theorem dX10_house_48 : decode cX10_house 48 = .ok (.putfield 144, 3) := by decide +kernel
theorem dX10_house_51 : decode cX10_house 51 = .ok (.iconst 0, 1) := by decide +kernel
theorem dX10_house_52 : decode cX10_house 52 = .ok (.istore_n 1, 1) := by decide +kernel
theorem dX10_house_53 : decode cX10_house 53 = .ok (.aload_n 0, 1) := by decide +kernel
theorem dX10_house_54 : decode cX10_house 54 = .ok (.invokevirtual 120, 3) := by decide +kernel
theorem dX10_house_57 : decode cX10_house 57 = .ok (.aload_n 0, 1) := by decide +kernel
theorem dX10_house_58 : decode cX10_house 58 = .ok (.getfield 110, 3) := by decide +kernel
theorem dX10_house_61 : decode cX10_house 61 = .ok (.ifCond .eq 29, 3) := by decide +kernel
theorem dX10_house_64 : decode cX10_house 64 = .ok (.aload_n 0, 1) := by decide +kernel
theorem dX10_house_65 : decode cX10_house 65 = .ok (.getfield 116, 3) := by decide +kernel
theorem dX10_house_68 : decode cX10_house 68 = .ok (.ifCond .ne 22, 3) := by decide +kernel
theorem dX10_house_71 : decode cX10_house 71 = .ok (.aload_n 0, 1) := by decide +kernel
theorem dX10_house_72 : decode cX10_house 72 = .ok (.iload_n 1, 1) := by decide +kernel
theorem dX10_house_73 : decode cX10_house 73 = .ok (.ifCond .ne 7, 3) := by decide +kernel
theorem dX10_house_76 : decode cX10_house 76 = .ok (.iconst 1, 1) := by decide +kernel
theorem dX10_house_77 : decode cX10_house 77 = .ok (.goto 4, 3) := by decide +kernel
theorem dX10_house_80 : decode cX10_house 80 = .ok (.iconst 0, 1) := by decide +kernel
theorem dX10_house_81 : decode cX10_house 81 = .ok (.invokevirtual 162, 3) := by decide +kernel
theorem dX10_house_84 : decode cX10_house 84 = .ok (.iinc 1 1, 3) := by decide +kernel
theorem dX10_house_87 : decode cX10_house 87 = .ok (.goto (-30), 3) := by decide +kernel
theorem dX10_house_90 : decode cX10_house 90 = .ok (.aload_n 0, 1) := by decide +kernel
theorem dX10_house_91 : decode cX10_house 91 = .ok (.getfield 116, 3) := by decide +kernel
theorem dX10_house_94 : decode cX10_house 94 = .ok (.ifCond .eq 11, 3) := by decide +kernel
theorem dX10_house_97 : decode cX10_house 97 = .ok (.bipush (-10), 2) := by decide +kernel
theorem dX10_house_99 : decode cX10_house 99 = .ok (.aload_n 0, 1) := by decide +kernel
theorem dX10_house_100 : decode cX10_house 100 = .ok (.getfield 107, 3) := by decide +kernel
theorem dX10_house_103 : decode cX10_house 103 = .ok (.isub, 1) := by decide +kernel
theorem dX10_house_104 : decode cX10_house 104 = .ok (.ireturn, 1) := by decide +kernel
theorem dX10_house_105 : decode cX10_house 105 = .ok (.aload_n 0, 1) := by decide +kernel
theorem dX10_house_106 : decode cX10_house 106 = .ok (.aload_n 0, 1) := by decide +kernel
theorem dX10_house_107 : decode cX10_house 107 = .ok (.getfield 51, 3) := by decide +kernel
theorem dX10_house_110 : decode cX10_house 110 = .ok (.iconst 0, 1) := by decide +kernel
theorem dX10_house_111 : decode cX10_house 111 = .ok (.iaload, 1) := by decide +kernel
theorem dX10_house_112 : decode cX10_house 112 = .ok (.putfield 7, 3) := by decide +kernel
theorem dX10_house_115 : decode cX10_house 115 = .ok (.aload_n 0, 1) := by decide +kernel
theorem dX10_house_116 : decode cX10_house 116 = .ok (.aload_n 0, 1) := by decide +kernel
theorem dX10_house_117 : decode cX10_house 117 = .ok (.getfield 51, 3) := by decide +kernel
theorem dX10_house_120 : decode cX10_house 120 = .ok (.iconst 1, 1) := by decide +kernel
theorem dX10_house_121 : decode cX10_house 121 = .ok (.iaload, 1) := by decide +kernel
theorem dX10_house_122 : decode cX10_house 122 = .ok (.putfield 13, 3) := by decide +kernel
theorem dX10_house_125 : decode cX10_house 125 = .ok (.aload_n 0, 1) := by decide +kernel
theorem dX10_house_126 : decode cX10_house 126 = .ok (.aload_n 0, 1) := by decide +kernel
theorem dX10_house_127 : decode cX10_house 127 = .ok (.getfield 51, 3) := by decide +kernel
theorem dX10_house_130 : decode cX10_house 130 = .ok (.iconst 2, 1) := by decide +kernel
theorem dX10_house_131 : decode cX10_house 131 = .ok (.iaload, 1) := by decide +kernel
theorem dX10_house_132 : decode cX10_house 132 = .ok (.putfield 16, 3) := by decide +kernel
theorem dX10_house_135 : decode cX10_house 135 = .ok (.aload_n 0, 1) := by decide +kernel
theorem dX10_house_136 : decode cX10_house 136 = .ok (.aload_n 0, 1) := by decide +kernel
theorem dX10_house_137 : decode cX10_house 137 = .ok (.getfield 134, 3) := by decide +kernel
theorem dX10_house_140 : decode cX10_house 140 = .ok (.putfield 165, 3) := by decide +kernel
theorem dX10_house_143 : decode cX10_house 143 = .ok (.aload_n 0, 1) := by decide +kernel
theorem dX10_house_144 : decode cX10_house 144 = .ok (.aload_n 0, 1) := by decide +kernel
theorem dX10_house_145 : decode cX10_house 145 = .ok (.getfield 141, 3) := by decide +kernel
theorem dX10_house_148 : decode cX10_house 148 = .ok (.putfield 94, 3) := by decide +kernel
theorem dX10_house_151 : decode cX10_house 151 = .ok (.aload_n 0, 1) := by decide +kernel
theorem dX10_house_152 : decode cX10_house 152 = .ok (.aload_n 0, 1) := by decide +kernel
theorem dX10_house_153 : decode cX10_house 153 = .ok (.getfield 144, 3) := by decide +kernel
theorem dX10_house_156 : decode cX10_house 156 = .ok (.putfield 168, 3) := by decide +kernel
theorem dX10_house_159 : decode cX10_house 159 = .ok (.iconst 0, 1) := by decide +kernel
theorem dX10_house_160 : decode cX10_house 160 = .ok (.istore_n 2, 1) := by decide +kernel
theorem dX10_house_161 : decode cX10_house 161 = .ok (.iload_n 2, 1) := by decide +kernel
theorem dX10_house_162 : decode cX10_house 162 = .ok (.bipush 12, 2) := by decide +kernel
theorem dX10_house_164 : decode cX10_house 164 = .ok (.if_icmp .ge 33, 3) := by decide +kernel
theorem dX10_house_167 : decode cX10_house 167 = .ok (.aload_n 0, 1) := by decide +kernel
theorem dX10_house_168 : decode cX10_house 168 = .ok (.getfield 19, 3) := by decide +kernel
theorem dX10_house_171 : decode cX10_house 171 = .ok (.iload_n 2, 1) := by decide +kernel
theorem dX10_house_172 : decode cX10_house 172 = .ok (.aload_n 0, 1) := by decide +kernel
theorem dX10_house_173 : decode cX10_house 173 = .ok (.getfield 54, 3) := by decide +kernel
theorem dX10_house_176 : decode cX10_house 176 = .ok (.iload_n 2, 1) := by decide +kernel
theorem dX10_house_177 : decode cX10_house 177 = .ok (.iaload, 1) := by decide +kernel
theorem dX10_house_178 : decode cX10_house 178 = .ok (.iastore, 1) := by decide +kernel
theorem dX10_house_179 : decode cX10_house 179 = .ok (.aload_n 0, 1) := by decide +kernel
theorem dX10_house_180 : decode cX10_house 180 = .ok (.getfield 26, 3) := by decide +kernel
theorem dX10_house_183 : decode cX10_house 183 = .ok (.iload_n 2, 1) := by decide +kernel
theorem dX10_house_184 : decode cX10_house 184 = .ok (.aload_n 0, 1) := by decide +kernel
theorem dX10_house_185 : decode cX10_house 185 = .ok (.getfield 60, 3) := by decide +kernel
theorem dX10_house_188 : decode cX10_house 188 = .ok (.iload_n 2, 1) := by decide +kernel
theorem dX10_house_189 : decode cX10_house 189 = .ok (.iaload, 1) := by decide +kernel
theorem dX10_house_190 : decode cX10_house 190 = .ok (.iastore, 1) := by decide +kernel
theorem dX10_house_191 : decode cX10_house 191 = .ok (.iinc 2 1, 3) := by decide +kernel
theorem dX10_house_194 : decode cX10_house 194 = .ok (.goto (-33), 3) := by decide +kernel
theorem dX10_house_197 : decode cX10_house 197 = .ok (.iconst 0, 1) := by decide +kernel
theorem dX10_house_198 : decode cX10_house 198 = .ok (.istore_n 2, 1) := by decide +kernel
theorem dX10_house_199 : decode cX10_house 199 = .ok (.iload_n 2, 1) := by decide +kernel
theorem dX10_house_200 : decode cX10_house 200 = .ok (.bipush 16, 2) := by decide +kernel
theorem dX10_house_202 : decode cX10_house 202 = .ok (.if_icmp .ge 21, 3) := by decide +kernel
theorem dX10_house_205 : decode cX10_house 205 = .ok (.aload_n 0, 1) := by decide +kernel
theorem dX10_house_206 : decode cX10_house 206 = .ok (.getfield 23, 3) := by decide +kernel
theorem dX10_house_209 : decode cX10_house 209 = .ok (.iload_n 2, 1) := by decide +kernel
theorem dX10_house_210 : decode cX10_house 210 = .ok (.aload_n 0, 1) := by decide +kernel
theorem dX10_house_211 : decode cX10_house 211 = .ok (.getfield 57, 3) := by decide +kernel
theorem dX10_house_214 : decode cX10_house 214 = .ok (.iload_n 2, 1) := by decide +kernel
theorem dX10_house_215 : decode cX10_house 215 = .ok (.iaload, 1) := by decide +kernel
theorem dX10_house_216 : decode cX10_house 216 = .ok (.iastore, 1) := by decide +kernel
theorem dX10_house_217 : decode cX10_house 217 = .ok (.iinc 2 1, 3) := by decide +kernel
theorem dX10_house_220 : decode cX10_house 220 = .ok (.goto (-21), 3) := by decide +kernel
theorem dX10_house_223 : decode cX10_house 223 = .ok (.aload_n 0, 1) := by decide +kernel
theorem dX10_house_224 : decode cX10_house 224 = .ok (.invokevirtual 87, 3) := by decide +kernel
theorem dX10_house_227 : decode cX10_house 227 = .ok (.aload_n 0, 1) := by decide +kernel
theorem dX10_house_228 : decode cX10_house 228 = .ok (.iconst 0, 1) := by decide +kernel
theorem dX10_house_229 : decode cX10_house 229 = .ok (.putfield 171, 3) := by decide +kernel
theorem dX10_house_232 : decode cX10_house 232 = .ok (.aload_n 0, 1) := by decide +kernel
theorem dX10_house_233 : decode cX10_house 233 = .ok (.iconst 0, 1) := by decide +kernel
theorem dX10_house_234 : decode cX10_house 234 = .ok (.putfield 174, 3) := by decide +kernel
theorem dX10_house_237 : decode cX10_house 237 = .ok (.aload_n 0, 1) := by decide +kernel
theorem dX10_house_238 : decode cX10_house 238 = .ok (.iconst 0, 1) := by decide +kernel
theorem dX10_house_239 : decode cX10_house 239 = .ok (.putfield 177, 3) := by decide +kernel
theorem dX10_house_242 : decode cX10_house 242 = .ok (.aload_n 0, 1) := by decide +kernel
theorem dX10_house_243 : decode cX10_house 243 = .ok (.getfield 38, 3) := by decide +kernel
theorem dX10_house_246 : decode cX10_house 246 = .ok (.iconst 0, 1) := by decide +kernel
theorem dX10_house_247 : decode cX10_house 247 = .ok (.iconst 0, 1) := by decide +kernel
theorem dX10_house_248 : decode cX10_house 248 = .ok (.bastore, 1) := by decide +kernel
theorem dX10_house_249 : decode cX10_house 249 = .ok (.aload_n 0, 1) := by decide +kernel
theorem dX10_house_250 : decode cX10_house 250 = .ok (.getfield 38, 3) := by decide +kernel
theorem dX10_house_253 : decode cX10_house 253 = .ok (.iconst 1, 1) := by decide +kernel
theorem dX10_house_254 : decode cX10_house 254 = .ok (.iconst 0, 1) := by decide +kernel
theorem dX10_house_255 : decode cX10_house 255 = .ok (.bastore, 1) := by decide +kernel
theorem dX10_house_256 : decode cX10_house 256 = .ok (.aload_n 0, 1) := by decide +kernel
theorem dX10_house_257 : decode cX10_house 257 = .ok (.iconst 0, 1) := by decide +kernel
theorem dX10_house_258 : decode cX10_house 258 = .ok (.putfield 97, 3) := by decide +kernel
theorem dX10_house_261 : decode cX10_house 261 = .ok (.iload_n 1, 1) := by decide +kernel
theorem dX10_house_262 : decode cX10_house 262 = .ok (.ireturn, 1) := by decide +kernel
theorem dX10_thickNow_0 : decode cX10_thickNow 0 = .ok (.aload_n 0, 1) := by decide +kernel
theorem dX10_thickNow_1 : decode cX10_thickNow 1 = .ok (.getfield 23, 3) := by decide +kernel
theorem dX10_thickNow_4 : decode cX10_thickNow 4 = .ok (.iconst 4, 1) := by decide +kernel
theorem dX10_thickNow_5 : decode cX10_thickNow 5 = .ok (.iload_n 1, 1) := by decide +kernel
theorem dX10_thickNow_6 : decode cX10_thickNow 6 = .ok (.imul, 1) := by decide +kernel
theorem dX10_thickNow_7 : decode cX10_thickNow 7 = .ok (.iaload, 1) := by decide +kernel
theorem dX10_thickNow_8 : decode cX10_thickNow 8 = .ok (.iload_n 2, 1) := by decide +kernel
theorem dX10_thickNow_9 : decode cX10_thickNow 9 = .ok (.bipush 10, 2) := by decide +kernel
theorem dX10_thickNow_11 : decode cX10_thickNow 11 = .ok (.idiv, 1) := by decide +kernel
theorem dX10_thickNow_12 : decode cX10_thickNow 12 = .ok (.isub, 1) := by decide +kernel
theorem dX10_thickNow_13 : decode cX10_thickNow 13 = .ok (.istore_n 3, 1) := by decide +kernel
theorem dX10_thickNow_14 : decode cX10_thickNow 14 = .ok (.iload_n 3, 1) := by decide +kernel
theorem dX10_thickNow_15 : decode cX10_thickNow 15 = .ok (.ifCond .le 7, 3) := by decide +kernel
theorem dX10_thickNow_18 : decode cX10_thickNow 18 = .ok (.iload_n 3, 1) := by decide +kernel
theorem dX10_thickNow_19 : decode cX10_thickNow 19 = .ok (.goto 4, 3) := by decide +kernel
theorem dX10_thickNow_22 : decode cX10_thickNow 22 = .ok (.iconst 0, 1) := by decide +kernel
theorem dX10_thickNow_23 : decode cX10_thickNow 23 = .ok (.ireturn, 1) := by decide +kernel
theorem dX10_layCells_0 : decode cX10_layCells 0 = .ok (.iconst 0, 1) := by decide +kernel
theorem dX10_layCells_1 : decode cX10_layCells 1 = .ok (.istore_n 1, 1) := by decide +kernel
theorem dX10_layCells_2 : decode cX10_layCells 2 = .ok (.iload_n 1, 1) := by decide +kernel
theorem dX10_layCells_3 : decode cX10_layCells 3 = .ok (.bipush 12, 2) := by decide +kernel
theorem dX10_layCells_5 : decode cX10_layCells 5 = .ok (.if_icmp .ge 17, 3) := by decide +kernel
theorem dX10_layCells_8 : decode cX10_layCells 8 = .ok (.aload_n 0, 1) := by decide +kernel
theorem dX10_layCells_9 : decode cX10_layCells 9 = .ok (.getfield 69, 3) := by decide +kernel
theorem dX10_layCells_12 : decode cX10_layCells 12 = .ok (.iload_n 1, 1) := by decide +kernel
theorem dX10_layCells_13 : decode cX10_layCells 13 = .ok (.bipush (-9), 2) := by decide +kernel
theorem dX10_layCells_15 : decode cX10_layCells 15 = .ok (.iastore, 1) := by decide +kernel
theorem dX10_layCells_16 : decode cX10_layCells 16 = .ok (.iinc 1 1, 3) := by decide +kernel
theorem dX10_layCells_19 : decode cX10_layCells 19 = .ok (.goto (-17), 3) := by decide +kernel
theorem dX10_layCells_22 : decode cX10_layCells 22 = .ok (.iconst 0, 1) := by decide +kernel
theorem dX10_layCells_23 : decode cX10_layCells 23 = .ok (.istore_n 1, 1) := by decide +kernel
theorem dX10_layCells_24 : decode cX10_layCells 24 = .ok (.iload_n 1, 1) := by decide +kernel
theorem dX10_layCells_25 : decode cX10_layCells 25 = .ok (.aload_n 0, 1) := by decide +kernel
theorem dX10_layCells_26 : decode cX10_layCells 26 = .ok (.getfield 94, 3) := by decide +kernel
theorem dX10_layCells_29 : decode cX10_layCells 29 = .ok (.if_icmp .ge 91, 3) := by decide +kernel
theorem dX10_layCells_32 : decode cX10_layCells 32 = .ok (.iconst 0, 1) := by decide +kernel
theorem dX10_layCells_33 : decode cX10_layCells 33 = .ok (.istore_n 2, 1) := by decide +kernel
theorem dX10_layCells_34 : decode cX10_layCells 34 = .ok (.iload_n 2, 1) := by decide +kernel
theorem dX10_layCells_35 : decode cX10_layCells 35 = .ok (.bipush 9, 2) := by decide +kernel
theorem dX10_layCells_37 : decode cX10_layCells 37 = .ok (.if_icmp .ge 77, 3) := by decide +kernel
theorem dX10_layCells_40 : decode cX10_layCells 40 = .ok (.aload_n 0, 1) := by decide +kernel
theorem dX10_layCells_41 : decode cX10_layCells 41 = .ok (.getfield 63, 3) := by decide +kernel
theorem dX10_layCells_44 : decode cX10_layCells 44 = .ok (.iload_n 1, 1) := by decide +kernel
theorem dX10_layCells_45 : decode cX10_layCells 45 = .ok (.iaload, 1) := by decide +kernel
theorem dX10_layCells_46 : decode cX10_layCells 46 = .ok (.bipush (-9), 2) := by decide +kernel
theorem dX10_layCells_48 : decode cX10_layCells 48 = .ok (.if_icmp .eq 66, 3) := by decide +kernel
theorem dX10_layCells_51 : decode cX10_layCells 51 = .ok (.iload_n 2, 1) := by decide +kernel
theorem dX10_layCells_52 : decode cX10_layCells 52 = .ok (.iconst 3, 1) := by decide +kernel
theorem dX10_layCells_53 : decode cX10_layCells 53 = .ok (.irem, 1) := by decide +kernel
theorem dX10_layCells_54 : decode cX10_layCells 54 = .ok (.aload_n 0, 1) := by decide +kernel
theorem dX10_layCells_55 : decode cX10_layCells 55 = .ok (.getfield 23, 3) := by decide +kernel
theorem dX10_layCells_58 : decode cX10_layCells 58 = .ok (.iconst 4, 1) := by decide +kernel
theorem dX10_layCells_59 : decode cX10_layCells 59 = .ok (.iload_n 1, 1) := by decide +kernel
theorem dX10_layCells_60 : decode cX10_layCells 60 = .ok (.imul, 1) := by decide +kernel
theorem dX10_layCells_61 : decode cX10_layCells 61 = .ok (.iconst 1, 1) := by decide +kernel
theorem dX10_layCells_62 : decode cX10_layCells 62 = .ok (.iadd, 1) := by decide +kernel
theorem dX10_layCells_63 : decode cX10_layCells 63 = .ok (.iaload, 1) := by decide +kernel
theorem dX10_layCells_64 : decode cX10_layCells 64 = .ok (.if_icmp .ge 44, 3) := by decide +kernel
theorem dX10_layCells_67 : decode cX10_layCells 67 = .ok (.iload_n 2, 1) := by decide +kernel
theorem dX10_layCells_68 : decode cX10_layCells 68 = .ok (.iconst 3, 1) := by decide +kernel
theorem dX10_layCells_69 : decode cX10_layCells 69 = .ok (.idiv, 1) := by decide +kernel
theorem dX10_layCells_70 : decode cX10_layCells 70 = .ok (.aload_n 0, 1) := by decide +kernel
theorem dX10_layCells_71 : decode cX10_layCells 71 = .ok (.getfield 23, 3) := by decide +kernel
theorem dX10_layCells_74 : decode cX10_layCells 74 = .ok (.iconst 4, 1) := by decide +kernel
theorem dX10_layCells_75 : decode cX10_layCells 75 = .ok (.iload_n 1, 1) := by decide +kernel
theorem dX10_layCells_76 : decode cX10_layCells 76 = .ok (.imul, 1) := by decide +kernel
theorem dX10_layCells_77 : decode cX10_layCells 77 = .ok (.iconst 2, 1) := by decide +kernel
theorem dX10_layCells_78 : decode cX10_layCells 78 = .ok (.iadd, 1) := by decide +kernel
theorem dX10_layCells_79 : decode cX10_layCells 79 = .ok (.iaload, 1) := by decide +kernel
theorem dX10_layCells_80 : decode cX10_layCells 80 = .ok (.if_icmp .ge 28, 3) := by decide +kernel
theorem dX10_layCells_83 : decode cX10_layCells 83 = .ok (.aload_n 0, 1) := by decide +kernel
theorem dX10_layCells_84 : decode cX10_layCells 84 = .ok (.getfield 69, 3) := by decide +kernel
theorem dX10_layCells_87 : decode cX10_layCells 87 = .ok (.aload_n 0, 1) := by decide +kernel
theorem dX10_layCells_88 : decode cX10_layCells 88 = .ok (.getfield 63, 3) := by decide +kernel
theorem dX10_layCells_91 : decode cX10_layCells 91 = .ok (.iload_n 1, 1) := by decide +kernel
theorem dX10_layCells_92 : decode cX10_layCells 92 = .ok (.iaload, 1) := by decide +kernel
theorem dX10_layCells_93 : decode cX10_layCells 93 = .ok (.iload_n 2, 1) := by decide +kernel
theorem dX10_layCells_94 : decode cX10_layCells 94 = .ok (.iconst 3, 1) := by decide +kernel
theorem dX10_layCells_95 : decode cX10_layCells 95 = .ok (.irem, 1) := by decide +kernel
theorem dX10_layCells_96 : decode cX10_layCells 96 = .ok (.iadd, 1) := by decide +kernel
theorem dX10_layCells_97 : decode cX10_layCells 97 = .ok (.aload_n 0, 1) := by decide +kernel
theorem dX10_layCells_98 : decode cX10_layCells 98 = .ok (.getfield 7, 3) := by decide +kernel
theorem dX10_layCells_101 : decode cX10_layCells 101 = .ok (.iload_n 2, 1) := by decide +kernel
theorem dX10_layCells_102 : decode cX10_layCells 102 = .ok (.iconst 3, 1) := by decide +kernel
theorem dX10_layCells_103 : decode cX10_layCells 103 = .ok (.idiv, 1) := by decide +kernel
theorem dX10_layCells_104 : decode cX10_layCells 104 = .ok (.imul, 1) := by decide +kernel
theorem dX10_layCells_105 : decode cX10_layCells 105 = .ok (.iadd, 1) := by decide +kernel
theorem dX10_layCells_106 : decode cX10_layCells 106 = .ok (.iload_n 1, 1) := by decide +kernel
theorem dX10_layCells_107 : decode cX10_layCells 107 = .ok (.iastore, 1) := by decide +kernel
theorem dX10_layCells_108 : decode cX10_layCells 108 = .ok (.iinc 2 1, 3) := by decide +kernel
theorem dX10_layCells_111 : decode cX10_layCells 111 = .ok (.goto (-77), 3) := by decide +kernel
theorem dX10_layCells_114 : decode cX10_layCells 114 = .ok (.iinc 1 1, 3) := by decide +kernel
theorem dX10_layCells_117 : decode cX10_layCells 117 = .ok (.goto (-93), 3) := by decide +kernel
theorem dX10_layCells_120 : decode cX10_layCells 120 = .ok (.return_, 1) := by decide +kernel
theorem dX10_asNow_0 : decode cX10_asNow 0 = .ok (.iconst 0, 1) := by decide +kernel
theorem dX10_asNow_1 : decode cX10_asNow 1 = .ok (.istore_n 1, 1) := by decide +kernel
theorem dX10_asNow_2 : decode cX10_asNow 2 = .ok (.iload_n 1, 1) := by decide +kernel
theorem dX10_asNow_3 : decode cX10_asNow 3 = .ok (.iconst 4, 1) := by decide +kernel
theorem dX10_asNow_4 : decode cX10_asNow 4 = .ok (.if_icmp .ge 68, 3) := by decide +kernel
theorem dX10_asNow_7 : decode cX10_asNow 7 = .ok (.aload_n 0, 1) := by decide +kernel
theorem dX10_asNow_8 : decode cX10_asNow 8 = .ok (.getfield 63, 3) := by decide +kernel
theorem dX10_asNow_11 : decode cX10_asNow 11 = .ok (.iload_n 1, 1) := by decide +kernel
theorem dX10_asNow_12 : decode cX10_asNow 12 = .ok (.iload_n 1, 1) := by decide +kernel
theorem dX10_asNow_13 : decode cX10_asNow 13 = .ok (.aload_n 0, 1) := by decide +kernel
theorem dX10_asNow_14 : decode cX10_asNow 14 = .ok (.getfield 94, 3) := by decide +kernel
theorem dX10_asNow_17 : decode cX10_asNow 17 = .ok (.if_icmp .ge 14, 3) := by decide +kernel
theorem dX10_asNow_20 : decode cX10_asNow 20 = .ok (.aload_n 0, 1) := by decide +kernel
theorem dX10_asNow_21 : decode cX10_asNow 21 = .ok (.getfield 29, 3) := by decide +kernel
theorem dX10_asNow_24 : decode cX10_asNow 24 = .ok (.iconst 2, 1) := by decide +kernel
theorem dX10_asNow_25 : decode cX10_asNow 25 = .ok (.iload_n 1, 1) := by decide +kernel
theorem dX10_asNow_26 : decode cX10_asNow 26 = .ok (.iadd, 1) := by decide +kernel
theorem dX10_asNow_27 : decode cX10_asNow 27 = .ok (.iaload, 1) := by decide +kernel
theorem dX10_asNow_28 : decode cX10_asNow 28 = .ok (.goto 5, 3) := by decide +kernel
theorem dX10_asNow_31 : decode cX10_asNow 31 = .ok (.bipush (-9), 2) := by decide +kernel
theorem dX10_asNow_33 : decode cX10_asNow 33 = .ok (.iastore, 1) := by decide +kernel
theorem dX10_asNow_34 : decode cX10_asNow 34 = .ok (.aload_n 0, 1) := by decide +kernel
theorem dX10_asNow_35 : decode cX10_asNow 35 = .ok (.getfield 66, 3) := by decide +kernel
theorem dX10_asNow_38 : decode cX10_asNow 38 = .ok (.iload_n 1, 1) := by decide +kernel
theorem dX10_asNow_39 : decode cX10_asNow 39 = .ok (.iload_n 1, 1) := by decide +kernel
theorem dX10_asNow_40 : decode cX10_asNow 40 = .ok (.aload_n 0, 1) := by decide +kernel
theorem dX10_asNow_41 : decode cX10_asNow 41 = .ok (.getfield 94, 3) := by decide +kernel
theorem dX10_asNow_44 : decode cX10_asNow 44 = .ok (.if_icmp .ge 20, 3) := by decide +kernel
theorem dX10_asNow_47 : decode cX10_asNow 47 = .ok (.aload_n 0, 1) := by decide +kernel
theorem dX10_asNow_48 : decode cX10_asNow 48 = .ok (.iload_n 1, 1) := by decide +kernel
theorem dX10_asNow_49 : decode cX10_asNow 49 = .ok (.aload_n 0, 1) := by decide +kernel
theorem dX10_asNow_50 : decode cX10_asNow 50 = .ok (.getfield 29, 3) := by decide +kernel
theorem dX10_asNow_53 : decode cX10_asNow 53 = .ok (.bipush 6, 2) := by decide +kernel
theorem dX10_asNow_55 : decode cX10_asNow 55 = .ok (.iload_n 1, 1) := by decide +kernel
theorem dX10_asNow_56 : decode cX10_asNow 56 = .ok (.iadd, 1) := by decide +kernel
theorem dX10_asNow_57 : decode cX10_asNow 57 = .ok (.iaload, 1) := by decide +kernel
theorem dX10_asNow_58 : decode cX10_asNow 58 = .ok (.invokevirtual 180, 3) := by decide +kernel
theorem dX10_asNow_61 : decode cX10_asNow 61 = .ok (.goto 4, 3) := by decide +kernel
theorem dX10_asNow_64 : decode cX10_asNow 64 = .ok (.iconst 0, 1) := by decide +kernel
theorem dX10_asNow_65 : decode cX10_asNow 65 = .ok (.iastore, 1) := by decide +kernel
theorem dX10_asNow_66 : decode cX10_asNow 66 = .ok (.iinc 1 1, 3) := by decide +kernel
theorem dX10_asNow_69 : decode cX10_asNow 69 = .ok (.goto (-67), 3) := by decide +kernel
theorem dX10_asNow_72 : decode cX10_asNow 72 = .ok (.aload_n 0, 1) := by decide +kernel
theorem dX10_asNow_73 : decode cX10_asNow 73 = .ok (.invokevirtual 184, 3) := by decide +kernel
theorem dX10_asNow_76 : decode cX10_asNow 76 = .ok (.return_, 1) := by decide +kernel
theorem dX10_mayLie_0 : decode cX10_mayLie 0 = .ok (.iload_n 2, 1) := by decide +kernel
theorem dX10_mayLie_1 : decode cX10_mayLie 1 = .ok (.aload_n 0, 1) := by decide +kernel
theorem dX10_mayLie_2 : decode cX10_mayLie 2 = .ok (.getfield 7, 3) := by decide +kernel
theorem dX10_mayLie_5 : decode cX10_mayLie 5 = .ok (.irem, 1) := by decide +kernel
theorem dX10_mayLie_6 : decode cX10_mayLie 6 = .ok (.aload_n 0, 1) := by decide +kernel
theorem dX10_mayLie_7 : decode cX10_mayLie 7 = .ok (.getfield 23, 3) := by decide +kernel
theorem dX10_mayLie_10 : decode cX10_mayLie 10 = .ok (.iconst 4, 1) := by decide +kernel
theorem dX10_mayLie_11 : decode cX10_mayLie 11 = .ok (.iload_n 1, 1) := by decide +kernel
theorem dX10_mayLie_12 : decode cX10_mayLie 12 = .ok (.imul, 1) := by decide +kernel
theorem dX10_mayLie_13 : decode cX10_mayLie 13 = .ok (.iconst 1, 1) := by decide +kernel
theorem dX10_mayLie_14 : decode cX10_mayLie 14 = .ok (.iadd, 1) := by decide +kernel
theorem dX10_mayLie_15 : decode cX10_mayLie 15 = .ok (.iaload, 1) := by decide +kernel
theorem dX10_mayLie_16 : decode cX10_mayLie 16 = .ok (.iadd, 1) := by decide +kernel
theorem dX10_mayLie_17 : decode cX10_mayLie 17 = .ok (.aload_n 0, 1) := by decide +kernel
theorem dX10_mayLie_18 : decode cX10_mayLie 18 = .ok (.getfield 7, 3) := by decide +kernel
theorem dX10_mayLie_21 : decode cX10_mayLie 21 = .ok (.if_icmp .gt 31, 3) := by decide +kernel
theorem dX10_mayLie_24 : decode cX10_mayLie 24 = .ok (.iload_n 2, 1) := by decide +kernel
theorem dX10_mayLie_25 : decode cX10_mayLie 25 = .ok (.aload_n 0, 1) := by decide +kernel
theorem dX10_mayLie_26 : decode cX10_mayLie 26 = .ok (.getfield 7, 3) := by decide +kernel
theorem dX10_mayLie_29 : decode cX10_mayLie 29 = .ok (.idiv, 1) := by decide +kernel
theorem dX10_mayLie_30 : decode cX10_mayLie 30 = .ok (.aload_n 0, 1) := by decide +kernel
theorem dX10_mayLie_31 : decode cX10_mayLie 31 = .ok (.getfield 23, 3) := by decide +kernel
theorem dX10_mayLie_34 : decode cX10_mayLie 34 = .ok (.iconst 4, 1) := by decide +kernel
theorem dX10_mayLie_35 : decode cX10_mayLie 35 = .ok (.iload_n 1, 1) := by decide +kernel
theorem dX10_mayLie_36 : decode cX10_mayLie 36 = .ok (.imul, 1) := by decide +kernel
theorem dX10_mayLie_37 : decode cX10_mayLie 37 = .ok (.iconst 2, 1) := by decide +kernel
theorem dX10_mayLie_38 : decode cX10_mayLie 38 = .ok (.iadd, 1) := by decide +kernel
theorem dX10_mayLie_39 : decode cX10_mayLie 39 = .ok (.iaload, 1) := by decide +kernel
theorem dX10_mayLie_40 : decode cX10_mayLie 40 = .ok (.iadd, 1) := by decide +kernel
theorem dX10_mayLie_41 : decode cX10_mayLie 41 = .ok (.aload_n 0, 1) := by decide +kernel
theorem dX10_mayLie_42 : decode cX10_mayLie 42 = .ok (.getfield 13, 3) := by decide +kernel
theorem dX10_mayLie_45 : decode cX10_mayLie 45 = .ok (.if_icmp .gt 7, 3) := by decide +kernel
theorem dX10_mayLie_48 : decode cX10_mayLie 48 = .ok (.iconst 1, 1) := by decide +kernel
theorem dX10_mayLie_49 : decode cX10_mayLie 49 = .ok (.goto 4, 3) := by decide +kernel
theorem dX10_mayLie_52 : decode cX10_mayLie 52 = .ok (.iconst 0, 1) := by decide +kernel
theorem dX10_mayLie_53 : decode cX10_mayLie 53 = .ok (.istore_n 3, 1) := by decide +kernel
theorem dX10_mayLie_54 : decode cX10_mayLie 54 = .ok (.iconst 0, 1) := by decide +kernel
theorem dX10_mayLie_55 : decode cX10_mayLie 55 = .ok (.istore 4, 2) := by decide +kernel
theorem dX10_mayLie_57 : decode cX10_mayLie 57 = .ok (.iload 4, 2) := by decide +kernel
theorem dX10_mayLie_59 : decode cX10_mayLie 59 = .ok (.bipush 9, 2) := by decide +kernel
theorem dX10_mayLie_61 : decode cX10_mayLie 61 = .ok (.if_icmp .ge 91, 3) := by decide +kernel
theorem dX10_mayLie_64 : decode cX10_mayLie 64 = .ok (.iload_n 3, 1) := by decide +kernel
theorem dX10_mayLie_65 : decode cX10_mayLie 65 = .ok (.ifCond .eq 87, 3) := by decide +kernel
theorem dX10_mayLie_68 : decode cX10_mayLie 68 = .ok (.iload 4, 2) := by decide +kernel
theorem dX10_mayLie_70 : decode cX10_mayLie 70 = .ok (.iconst 3, 1) := by decide +kernel
theorem dX10_mayLie_71 : decode cX10_mayLie 71 = .ok (.irem, 1) := by decide +kernel
theorem dX10_mayLie_72 : decode cX10_mayLie 72 = .ok (.aload_n 0, 1) := by decide +kernel
theorem dX10_mayLie_73 : decode cX10_mayLie 73 = .ok (.getfield 23, 3) := by decide +kernel
theorem dX10_mayLie_76 : decode cX10_mayLie 76 = .ok (.iconst 4, 1) := by decide +kernel
theorem dX10_mayLie_77 : decode cX10_mayLie 77 = .ok (.iload_n 1, 1) := by decide +kernel
theorem dX10_mayLie_78 : decode cX10_mayLie 78 = .ok (.imul, 1) := by decide +kernel
theorem dX10_mayLie_79 : decode cX10_mayLie 79 = .ok (.iconst 1, 1) := by decide +kernel
theorem dX10_mayLie_80 : decode cX10_mayLie 80 = .ok (.iadd, 1) := by decide +kernel
theorem dX10_mayLie_81 : decode cX10_mayLie 81 = .ok (.iaload, 1) := by decide +kernel
theorem dX10_mayLie_82 : decode cX10_mayLie 82 = .ok (.if_icmp .ge 24, 3) := by decide +kernel
theorem dX10_mayLie_85 : decode cX10_mayLie 85 = .ok (.iload 4, 2) := by decide +kernel
theorem dX10_mayLie_87 : decode cX10_mayLie 87 = .ok (.iconst 3, 1) := by decide +kernel
theorem dX10_mayLie_88 : decode cX10_mayLie 88 = .ok (.idiv, 1) := by decide +kernel
theorem dX10_mayLie_89 : decode cX10_mayLie 89 = .ok (.aload_n 0, 1) := by decide +kernel
theorem dX10_mayLie_90 : decode cX10_mayLie 90 = .ok (.getfield 23, 3) := by decide +kernel
theorem dX10_mayLie_93 : decode cX10_mayLie 93 = .ok (.iconst 4, 1) := by decide +kernel
theorem dX10_mayLie_94 : decode cX10_mayLie 94 = .ok (.iload_n 1, 1) := by decide +kernel
theorem dX10_mayLie_95 : decode cX10_mayLie 95 = .ok (.imul, 1) := by decide +kernel
theorem dX10_mayLie_96 : decode cX10_mayLie 96 = .ok (.iconst 2, 1) := by decide +kernel
theorem dX10_mayLie_97 : decode cX10_mayLie 97 = .ok (.iadd, 1) := by decide +kernel
theorem dX10_mayLie_98 : decode cX10_mayLie 98 = .ok (.iaload, 1) := by decide +kernel
theorem dX10_mayLie_99 : decode cX10_mayLie 99 = .ok (.if_icmp .ge 7, 3) := by decide +kernel
theorem dX10_mayLie_102 : decode cX10_mayLie 102 = .ok (.iconst 1, 1) := by decide +kernel
theorem dX10_mayLie_103 : decode cX10_mayLie 103 = .ok (.goto 4, 3) := by decide +kernel
theorem dX10_mayLie_106 : decode cX10_mayLie 106 = .ok (.iconst 0, 1) := by decide +kernel
theorem dX10_mayLie_107 : decode cX10_mayLie 107 = .ok (.istore 5, 2) := by decide +kernel
theorem dX10_mayLie_109 : decode cX10_mayLie 109 = .ok (.iload 5, 2) := by decide +kernel
theorem dX10_mayLie_111 : decode cX10_mayLie 111 = .ok (.ifCond .eq 29, 3) := by decide +kernel
theorem dX10_mayLie_114 : decode cX10_mayLie 114 = .ok (.aload_n 0, 1) := by decide +kernel
theorem dX10_mayLie_115 : decode cX10_mayLie 115 = .ok (.getfield 69, 3) := by decide +kernel
theorem dX10_mayLie_118 : decode cX10_mayLie 118 = .ok (.iload_n 2, 1) := by decide +kernel
theorem dX10_mayLie_119 : decode cX10_mayLie 119 = .ok (.iload 4, 2) := by decide +kernel
theorem dX10_mayLie_121 : decode cX10_mayLie 121 = .ok (.iconst 3, 1) := by decide +kernel
theorem dX10_mayLie_122 : decode cX10_mayLie 122 = .ok (.irem, 1) := by decide +kernel
theorem dX10_mayLie_123 : decode cX10_mayLie 123 = .ok (.iadd, 1) := by decide +kernel
theorem dX10_mayLie_124 : decode cX10_mayLie 124 = .ok (.aload_n 0, 1) := by decide +kernel
theorem dX10_mayLie_125 : decode cX10_mayLie 125 = .ok (.getfield 7, 3) := by decide +kernel
theorem dX10_mayLie_128 : decode cX10_mayLie 128 = .ok (.iload 4, 2) := by decide +kernel
theorem dX10_mayLie_130 : decode cX10_mayLie 130 = .ok (.iconst 3, 1) := by decide +kernel
theorem dX10_mayLie_131 : decode cX10_mayLie 131 = .ok (.idiv, 1) := by decide +kernel
theorem dX10_mayLie_132 : decode cX10_mayLie 132 = .ok (.imul, 1) := by decide +kernel
theorem dX10_mayLie_133 : decode cX10_mayLie 133 = .ok (.iadd, 1) := by decide +kernel
theorem dX10_mayLie_134 : decode cX10_mayLie 134 = .ok (.iaload, 1) := by decide +kernel
theorem dX10_mayLie_135 : decode cX10_mayLie 135 = .ok (.bipush (-9), 2) := by decide +kernel
theorem dX10_mayLie_137 : decode cX10_mayLie 137 = .ok (.if_icmp .ne 7, 3) := by decide +kernel
theorem dX10_mayLie_140 : decode cX10_mayLie 140 = .ok (.iconst 1, 1) := by decide +kernel
theorem dX10_mayLie_141 : decode cX10_mayLie 141 = .ok (.goto 4, 3) := by decide +kernel
theorem dX10_mayLie_144 : decode cX10_mayLie 144 = .ok (.iconst 0, 1) := by decide +kernel
theorem dX10_mayLie_145 : decode cX10_mayLie 145 = .ok (.istore_n 3, 1) := by decide +kernel
theorem dX10_mayLie_146 : decode cX10_mayLie 146 = .ok (.iinc 4 1, 3) := by decide +kernel
theorem dX10_mayLie_149 : decode cX10_mayLie 149 = .ok (.goto (-92), 3) := by decide +kernel
theorem dX10_mayLie_152 : decode cX10_mayLie 152 = .ok (.iload_n 3, 1) := by decide +kernel
theorem dX10_mayLie_153 : decode cX10_mayLie 153 = .ok (.ireturn, 1) := by decide +kernel
theorem dX10_isNext_0 : decode cX10_isNext 0 = .ok (.iload_n 1, 1) := by decide +kernel
theorem dX10_isNext_1 : decode cX10_isNext 1 = .ok (.aload_n 0, 1) := by decide +kernel
theorem dX10_isNext_2 : decode cX10_isNext 2 = .ok (.getfield 7, 3) := by decide +kernel
theorem dX10_isNext_5 : decode cX10_isNext 5 = .ok (.irem, 1) := by decide +kernel
theorem dX10_isNext_6 : decode cX10_isNext 6 = .ok (.iload_n 2, 1) := by decide +kernel
theorem dX10_isNext_7 : decode cX10_isNext 7 = .ok (.aload_n 0, 1) := by decide +kernel
theorem dX10_isNext_8 : decode cX10_isNext 8 = .ok (.getfield 7, 3) := by decide +kernel
theorem dX10_isNext_11 : decode cX10_isNext 11 = .ok (.irem, 1) := by decide +kernel
theorem dX10_isNext_12 : decode cX10_isNext 12 = .ok (.isub, 1) := by decide +kernel
theorem dX10_isNext_13 : decode cX10_isNext 13 = .ok (.istore_n 3, 1) := by decide +kernel
theorem dX10_isNext_14 : decode cX10_isNext 14 = .ok (.iload_n 1, 1) := by decide +kernel
theorem dX10_isNext_15 : decode cX10_isNext 15 = .ok (.aload_n 0, 1) := by decide +kernel
theorem dX10_isNext_16 : decode cX10_isNext 16 = .ok (.getfield 7, 3) := by decide +kernel
theorem dX10_isNext_19 : decode cX10_isNext 19 = .ok (.idiv, 1) := by decide +kernel
theorem dX10_isNext_20 : decode cX10_isNext 20 = .ok (.iload_n 2, 1) := by decide +kernel
theorem dX10_isNext_21 : decode cX10_isNext 21 = .ok (.aload_n 0, 1) := by decide +kernel
theorem dX10_isNext_22 : decode cX10_isNext 22 = .ok (.getfield 7, 3) := by decide +kernel
theorem dX10_isNext_25 : decode cX10_isNext 25 = .ok (.idiv, 1) := by decide +kernel
theorem dX10_isNext_26 : decode cX10_isNext 26 = .ok (.isub, 1) := by decide +kernel
theorem dX10_isNext_27 : decode cX10_isNext 27 = .ok (.istore 4, 2) := by decide +kernel
theorem dX10_isNext_29 : decode cX10_isNext 29 = .ok (.iload_n 3, 1) := by decide +kernel
theorem dX10_isNext_30 : decode cX10_isNext 30 = .ok (.iload_n 3, 1) := by decide +kernel
theorem dX10_isNext_31 : decode cX10_isNext 31 = .ok (.imul, 1) := by decide +kernel
theorem dX10_isNext_32 : decode cX10_isNext 32 = .ok (.iload 4, 2) := by decide +kernel
theorem dX10_isNext_34 : decode cX10_isNext 34 = .ok (.iload 4, 2) := by decide +kernel
theorem dX10_isNext_36 : decode cX10_isNext 36 = .ok (.imul, 1) := by decide +kernel
theorem dX10_isNext_37 : decode cX10_isNext 37 = .ok (.iadd, 1) := by decide +kernel
theorem dX10_isNext_38 : decode cX10_isNext 38 = .ok (.iconst 1, 1) := by decide +kernel
theorem dX10_isNext_39 : decode cX10_isNext 39 = .ok (.if_icmp .ne 7, 3) := by decide +kernel
theorem dX10_isNext_42 : decode cX10_isNext 42 = .ok (.iconst 1, 1) := by decide +kernel
theorem dX10_isNext_43 : decode cX10_isNext 43 = .ok (.goto 4, 3) := by decide +kernel
theorem dX10_isNext_46 : decode cX10_isNext 46 = .ok (.iconst 0, 1) := by decide +kernel
theorem dX10_isNext_47 : decode cX10_isNext 47 = .ok (.ireturn, 1) := by decide +kernel
theorem dX10_takes_0 : decode cX10_takes 0 = .ok (.aload_n 0, 1) := by decide +kernel
theorem dX10_takes_1 : decode cX10_takes 1 = .ok (.getfield 69, 3) := by decide +kernel
theorem dX10_takes_4 : decode cX10_takes 4 = .ok (.iload_n 2, 1) := by decide +kernel
theorem dX10_takes_5 : decode cX10_takes 5 = .ok (.iaload, 1) := by decide +kernel
theorem dX10_takes_6 : decode cX10_takes 6 = .ok (.bipush (-9), 2) := by decide +kernel
theorem dX10_takes_8 : decode cX10_takes 8 = .ok (.if_icmp .ne 8, 3) := by decide +kernel
theorem dX10_takes_11 : decode cX10_takes 11 = .ok (.aload_n 0, 1) := by decide +kernel
theorem dX10_takes_12 : decode cX10_takes 12 = .ok (.getfield 16, 3) := by decide +kernel
theorem dX10_takes_15 : decode cX10_takes 15 = .ok (.ireturn, 1) := by decide +kernel
theorem dX10_takes_16 : decode cX10_takes 16 = .ok (.aload_n 0, 1) := by decide +kernel
theorem dX10_takes_17 : decode cX10_takes 17 = .ok (.getfield 69, 3) := by decide +kernel
theorem dX10_takes_20 : decode cX10_takes 20 = .ok (.iload_n 1, 1) := by decide +kernel
theorem dX10_takes_21 : decode cX10_takes 21 = .ok (.iaload, 1) := by decide +kernel
theorem dX10_takes_22 : decode cX10_takes 22 = .ok (.bipush (-9), 2) := by decide +kernel
theorem dX10_takes_24 : decode cX10_takes 24 = .ok (.if_icmp .eq 22, 3) := by decide +kernel
theorem dX10_takes_27 : decode cX10_takes 27 = .ok (.aload_n 0, 1) := by decide +kernel
theorem dX10_takes_28 : decode cX10_takes 28 = .ok (.getfield 69, 3) := by decide +kernel
theorem dX10_takes_31 : decode cX10_takes 31 = .ok (.iload_n 1, 1) := by decide +kernel
theorem dX10_takes_32 : decode cX10_takes 32 = .ok (.iaload, 1) := by decide +kernel
theorem dX10_takes_33 : decode cX10_takes 33 = .ok (.aload_n 0, 1) := by decide +kernel
theorem dX10_takes_34 : decode cX10_takes 34 = .ok (.getfield 69, 3) := by decide +kernel
theorem dX10_takes_37 : decode cX10_takes 37 = .ok (.iload_n 2, 1) := by decide +kernel
theorem dX10_takes_38 : decode cX10_takes 38 = .ok (.iaload, 1) := by decide +kernel
theorem dX10_takes_39 : decode cX10_takes 39 = .ok (.if_icmp .eq 7, 3) := by decide +kernel
theorem dX10_takes_42 : decode cX10_takes 42 = .ok (.iconst 1, 1) := by decide +kernel
theorem dX10_takes_43 : decode cX10_takes 43 = .ok (.goto 4, 3) := by decide +kernel
theorem dX10_takes_46 : decode cX10_takes 46 = .ok (.iconst 0, 1) := by decide +kernel
theorem dX10_takes_47 : decode cX10_takes 47 = .ok (.istore_n 3, 1) := by decide +kernel
theorem dX10_takes_48 : decode cX10_takes 48 = .ok (.aload_n 0, 1) := by decide +kernel
theorem dX10_takes_49 : decode cX10_takes 49 = .ok (.getfield 16, 3) := by decide +kernel
theorem dX10_takes_52 : decode cX10_takes 52 = .ok (.iload_n 3, 1) := by decide +kernel
theorem dX10_takes_53 : decode cX10_takes 53 = .ok (.ifCond .eq 19, 3) := by decide +kernel
theorem dX10_takes_56 : decode cX10_takes 56 = .ok (.aload_n 0, 1) := by decide +kernel
theorem dX10_takes_57 : decode cX10_takes 57 = .ok (.getfield 66, 3) := by decide +kernel
theorem dX10_takes_60 : decode cX10_takes 60 = .ok (.aload_n 0, 1) := by decide +kernel
theorem dX10_takes_61 : decode cX10_takes 61 = .ok (.getfield 69, 3) := by decide +kernel
theorem dX10_takes_64 : decode cX10_takes 64 = .ok (.iload_n 2, 1) := by decide +kernel
theorem dX10_takes_65 : decode cX10_takes 65 = .ok (.iaload, 1) := by decide +kernel
theorem dX10_takes_66 : decode cX10_takes 66 = .ok (.iaload, 1) := by decide +kernel
theorem dX10_takes_67 : decode cX10_takes 67 = .ok (.iconst 2, 1) := by decide +kernel
theorem dX10_takes_68 : decode cX10_takes 68 = .ok (.idiv, 1) := by decide +kernel
theorem dX10_takes_69 : decode cX10_takes 69 = .ok (.goto 14, 3) := by decide +kernel
theorem dX10_takes_72 : decode cX10_takes 72 = .ok (.aload_n 0, 1) := by decide +kernel
theorem dX10_takes_73 : decode cX10_takes 73 = .ok (.getfield 66, 3) := by decide +kernel
theorem dX10_takes_76 : decode cX10_takes 76 = .ok (.aload_n 0, 1) := by decide +kernel
theorem dX10_takes_77 : decode cX10_takes 77 = .ok (.getfield 69, 3) := by decide +kernel
theorem dX10_takes_80 : decode cX10_takes 80 = .ok (.iload_n 2, 1) := by decide +kernel
theorem dX10_takes_81 : decode cX10_takes 81 = .ok (.iaload, 1) := by decide +kernel
theorem dX10_takes_82 : decode cX10_takes 82 = .ok (.iaload, 1) := by decide +kernel
theorem dX10_takes_83 : decode cX10_takes 83 = .ok (.iadd, 1) := by decide +kernel
theorem dX10_takes_84 : decode cX10_takes 84 = .ok (.ireturn, 1) := by decide +kernel
theorem dX10_spreads_0 : decode cX10_spreads 0 = .ok (.iconst 0, 1) := by decide +kernel
theorem dX10_spreads_1 : decode cX10_spreads 1 = .ok (.istore_n 2, 1) := by decide +kernel
theorem dX10_spreads_2 : decode cX10_spreads 2 = .ok (.iload_n 2, 1) := by decide +kernel
theorem dX10_spreads_3 : decode cX10_spreads 3 = .ok (.bipush 12, 2) := by decide +kernel
theorem dX10_spreads_5 : decode cX10_spreads 5 = .ok (.if_icmp .ge 27, 3) := by decide +kernel
theorem dX10_spreads_8 : decode cX10_spreads 8 = .ok (.aload_n 0, 1) := by decide +kernel
theorem dX10_spreads_9 : decode cX10_spreads 9 = .ok (.getfield 72, 3) := by decide +kernel
theorem dX10_spreads_12 : decode cX10_spreads 12 = .ok (.iload_n 2, 1) := by decide +kernel
theorem dX10_spreads_13 : decode cX10_spreads 13 = .ok (.iload_n 2, 1) := by decide +kernel
theorem dX10_spreads_14 : decode cX10_spreads 14 = .ok (.iload_n 1, 1) := by decide +kernel
theorem dX10_spreads_15 : decode cX10_spreads 15 = .ok (.if_icmp .ne 7, 3) := by decide +kernel
theorem dX10_spreads_18 : decode cX10_spreads 18 = .ok (.iconst 0, 1) := by decide +kernel
theorem dX10_spreads_19 : decode cX10_spreads 19 = .ok (.goto 6, 3) := by decide +kernel
theorem dX10_spreads_22 : decode cX10_spreads 22 = .ok (.sipush 10000, 3) := by decide +kernel
theorem dX10_spreads_25 : decode cX10_spreads 25 = .ok (.iastore, 1) := by decide +kernel
theorem dX10_spreads_26 : decode cX10_spreads 26 = .ok (.iinc 2 1, 3) := by decide +kernel
theorem dX10_spreads_29 : decode cX10_spreads 29 = .ok (.goto (-27), 3) := by decide +kernel
theorem dX10_spreads_32 : decode cX10_spreads 32 = .ok (.iconst 1, 1) := by decide +kernel
theorem dX10_spreads_33 : decode cX10_spreads 33 = .ok (.istore_n 2, 1) := by decide +kernel
theorem dX10_spreads_34 : decode cX10_spreads 34 = .ok (.iload_n 2, 1) := by decide +kernel
theorem dX10_spreads_35 : decode cX10_spreads 35 = .ok (.ifCond .eq 127, 3) := by decide +kernel
theorem dX10_spreads_38 : decode cX10_spreads 38 = .ok (.iconst 0, 1) := by decide +kernel
theorem dX10_spreads_39 : decode cX10_spreads 39 = .ok (.istore_n 2, 1) := by decide +kernel
theorem dX10_spreads_40 : decode cX10_spreads 40 = .ok (.iconst 0, 1) := by decide +kernel
theorem dX10_spreads_41 : decode cX10_spreads 41 = .ok (.istore_n 3, 1) := by decide +kernel
theorem dX10_spreads_42 : decode cX10_spreads 42 = .ok (.iload_n 3, 1) := by decide +kernel
theorem dX10_spreads_43 : decode cX10_spreads 43 = .ok (.aload_n 0, 1) := by decide +kernel
theorem dX10_spreads_44 : decode cX10_spreads 44 = .ok (.getfield 7, 3) := by decide +kernel
theorem dX10_spreads_47 : decode cX10_spreads 47 = .ok (.aload_n 0, 1) := by decide +kernel
theorem dX10_spreads_48 : decode cX10_spreads 48 = .ok (.getfield 13, 3) := by decide +kernel
theorem dX10_spreads_51 : decode cX10_spreads 51 = .ok (.imul, 1) := by decide +kernel
theorem dX10_spreads_52 : decode cX10_spreads 52 = .ok (.aload_n 0, 1) := by decide +kernel
theorem dX10_spreads_53 : decode cX10_spreads 53 = .ok (.getfield 7, 3) := by decide +kernel
theorem dX10_spreads_56 : decode cX10_spreads 56 = .ok (.imul, 1) := by decide +kernel
theorem dX10_spreads_57 : decode cX10_spreads 57 = .ok (.aload_n 0, 1) := by decide +kernel
theorem dX10_spreads_58 : decode cX10_spreads 58 = .ok (.getfield 13, 3) := by decide +kernel
theorem dX10_spreads_61 : decode cX10_spreads 61 = .ok (.imul, 1) := by decide +kernel
theorem dX10_spreads_62 : decode cX10_spreads 62 = .ok (.if_icmp .ge 97, 3) := by decide +kernel
theorem dX10_spreads_65 : decode cX10_spreads 65 = .ok (.iload_n 3, 1) := by decide +kernel
theorem dX10_spreads_66 : decode cX10_spreads 66 = .ok (.aload_n 0, 1) := by decide +kernel
theorem dX10_spreads_67 : decode cX10_spreads 67 = .ok (.getfield 7, 3) := by decide +kernel
theorem dX10_spreads_70 : decode cX10_spreads 70 = .ok (.aload_n 0, 1) := by decide +kernel
theorem dX10_spreads_71 : decode cX10_spreads 71 = .ok (.getfield 13, 3) := by decide +kernel
theorem dX10_spreads_74 : decode cX10_spreads 74 = .ok (.imul, 1) := by decide +kernel
theorem dX10_spreads_75 : decode cX10_spreads 75 = .ok (.idiv, 1) := by decide +kernel
theorem dX10_spreads_76 : decode cX10_spreads 76 = .ok (.istore 4, 2) := by decide +kernel
theorem dX10_spreads_78 : decode cX10_spreads 78 = .ok (.iload_n 3, 1) := by decide +kernel
theorem dX10_spreads_79 : decode cX10_spreads 79 = .ok (.aload_n 0, 1) := by decide +kernel
theorem dX10_spreads_80 : decode cX10_spreads 80 = .ok (.getfield 7, 3) := by decide +kernel
theorem dX10_spreads_83 : decode cX10_spreads 83 = .ok (.aload_n 0, 1) := by decide +kernel
theorem dX10_spreads_84 : decode cX10_spreads 84 = .ok (.getfield 13, 3) := by decide +kernel
theorem dX10_spreads_87 : decode cX10_spreads 87 = .ok (.imul, 1) := by decide +kernel
theorem dX10_spreads_88 : decode cX10_spreads 88 = .ok (.irem, 1) := by decide +kernel
theorem dX10_spreads_89 : decode cX10_spreads 89 = .ok (.istore 5, 2) := by decide +kernel
theorem dX10_spreads_91 : decode cX10_spreads 91 = .ok (.aload_n 0, 1) := by decide +kernel
theorem dX10_spreads_92 : decode cX10_spreads 92 = .ok (.iload 4, 2) := by decide +kernel
theorem dX10_spreads_94 : decode cX10_spreads 94 = .ok (.iload 5, 2) := by decide +kernel
theorem dX10_spreads_96 : decode cX10_spreads 96 = .ok (.invokevirtual 187, 3) := by decide +kernel
theorem dX10_spreads_99 : decode cX10_spreads 99 = .ok (.ifCond .eq 54, 3) := by decide +kernel
theorem dX10_spreads_102 : decode cX10_spreads 102 = .ok (.aload_n 0, 1) := by decide +kernel
theorem dX10_spreads_103 : decode cX10_spreads 103 = .ok (.getfield 72, 3) := by decide +kernel
theorem dX10_spreads_106 : decode cX10_spreads 106 = .ok (.iload 4, 2) := by decide +kernel
theorem dX10_spreads_108 : decode cX10_spreads 108 = .ok (.iaload, 1) := by decide +kernel
theorem dX10_spreads_109 : decode cX10_spreads 109 = .ok (.aload_n 0, 1) := by decide +kernel
theorem dX10_spreads_110 : decode cX10_spreads 110 = .ok (.iload 4, 2) := by decide +kernel
theorem dX10_spreads_112 : decode cX10_spreads 112 = .ok (.iload 5, 2) := by decide +kernel
theorem dX10_spreads_114 : decode cX10_spreads 114 = .ok (.invokevirtual 191, 3) := by decide +kernel
theorem dX10_spreads_117 : decode cX10_spreads 117 = .ok (.iadd, 1) := by decide +kernel
theorem dX10_spreads_118 : decode cX10_spreads 118 = .ok (.aload_n 0, 1) := by decide +kernel
theorem dX10_spreads_119 : decode cX10_spreads 119 = .ok (.getfield 72, 3) := by decide +kernel
theorem dX10_spreads_122 : decode cX10_spreads 122 = .ok (.iload 5, 2) := by decide +kernel
theorem dX10_spreads_124 : decode cX10_spreads 124 = .ok (.iaload, 1) := by decide +kernel
theorem dX10_spreads_125 : decode cX10_spreads 125 = .ok (.if_icmp .ge 28, 3) := by decide +kernel
theorem dX10_spreads_128 : decode cX10_spreads 128 = .ok (.aload_n 0, 1) := by decide +kernel
theorem dX10_spreads_129 : decode cX10_spreads 129 = .ok (.getfield 72, 3) := by decide +kernel
theorem dX10_spreads_132 : decode cX10_spreads 132 = .ok (.iload 5, 2) := by decide +kernel
theorem dX10_spreads_134 : decode cX10_spreads 134 = .ok (.aload_n 0, 1) := by decide +kernel
theorem dX10_spreads_135 : decode cX10_spreads 135 = .ok (.getfield 72, 3) := by decide +kernel
theorem dX10_spreads_138 : decode cX10_spreads 138 = .ok (.iload 4, 2) := by decide +kernel
theorem dX10_spreads_140 : decode cX10_spreads 140 = .ok (.iaload, 1) := by decide +kernel
theorem dX10_spreads_141 : decode cX10_spreads 141 = .ok (.aload_n 0, 1) := by decide +kernel
theorem dX10_spreads_142 : decode cX10_spreads 142 = .ok (.iload 4, 2) := by decide +kernel
theorem dX10_spreads_144 : decode cX10_spreads 144 = .ok (.iload 5, 2) := by decide +kernel
theorem dX10_spreads_146 : decode cX10_spreads 146 = .ok (.invokevirtual 191, 3) := by decide +kernel
theorem dX10_spreads_149 : decode cX10_spreads 149 = .ok (.iadd, 1) := by decide +kernel
theorem dX10_spreads_150 : decode cX10_spreads 150 = .ok (.iastore, 1) := by decide +kernel
theorem dX10_spreads_151 : decode cX10_spreads 151 = .ok (.iconst 1, 1) := by decide +kernel
theorem dX10_spreads_152 : decode cX10_spreads 152 = .ok (.istore_n 2, 1) := by decide +kernel
theorem dX10_spreads_153 : decode cX10_spreads 153 = .ok (.iinc 3 1, 3) := by decide +kernel
theorem dX10_spreads_156 : decode cX10_spreads 156 = .ok (.goto (-114), 3) := by decide +kernel
theorem dX10_spreads_159 : decode cX10_spreads 159 = .ok (.goto (-125), 3) := by decide +kernel
theorem dX10_spreads_162 : decode cX10_spreads 162 = .ok (.return_, 1) := by decide +kernel
theorem dX10_left_0 : decode cX10_left 0 = .ok (.iload_n 0, 1) := by decide +kernel
theorem dX10_left_1 : decode cX10_left 1 = .ok (.iload_n 1, 1) := by decide +kernel
theorem dX10_left_2 : decode cX10_left 2 = .ok (.if_icmp .le 9, 3) := by decide +kernel
theorem dX10_left_5 : decode cX10_left 5 = .ok (.iload_n 0, 1) := by decide +kernel
theorem dX10_left_6 : decode cX10_left 6 = .ok (.iload_n 1, 1) := by decide +kernel
theorem dX10_left_7 : decode cX10_left 7 = .ok (.isub, 1) := by decide +kernel
theorem dX10_left_8 : decode cX10_left 8 = .ok (.goto 4, 3) := by decide +kernel
theorem dX10_left_11 : decode cX10_left 11 = .ok (.iconst 0, 1) := by decide +kernel
theorem dX10_left_12 : decode cX10_left 12 = .ok (.ireturn, 1) := by decide +kernel
theorem dX10_sounds_0 : decode cX10_sounds 0 = .ok (.iload_n 2, 1) := by decide +kernel
theorem dX10_sounds_1 : decode cX10_sounds 1 = .ok (.aload_n 0, 1) := by decide +kernel
theorem dX10_sounds_2 : decode cX10_sounds 2 = .ok (.getfield 19, 3) := by decide +kernel
theorem dX10_sounds_5 : decode cX10_sounds 5 = .ok (.iconst 4, 1) := by decide +kernel
theorem dX10_sounds_6 : decode cX10_sounds 6 = .ok (.iload_n 1, 1) := by decide +kernel
theorem dX10_sounds_7 : decode cX10_sounds 7 = .ok (.imul, 1) := by decide +kernel
theorem dX10_sounds_8 : decode cX10_sounds 8 = .ok (.iconst 2, 1) := by decide +kernel
theorem dX10_sounds_9 : decode cX10_sounds 9 = .ok (.iadd, 1) := by decide +kernel
theorem dX10_sounds_10 : decode cX10_sounds 10 = .ok (.iaload, 1) := by decide +kernel
theorem dX10_sounds_11 : decode cX10_sounds 11 = .ok (.aload_n 0, 1) := by decide +kernel
theorem dX10_sounds_12 : decode cX10_sounds 12 = .ok (.getfield 19, 3) := by decide +kernel
theorem dX10_sounds_15 : decode cX10_sounds 15 = .ok (.iconst 4, 1) := by decide +kernel
theorem dX10_sounds_16 : decode cX10_sounds 16 = .ok (.iload_n 1, 1) := by decide +kernel
theorem dX10_sounds_17 : decode cX10_sounds 17 = .ok (.imul, 1) := by decide +kernel
theorem dX10_sounds_18 : decode cX10_sounds 18 = .ok (.iconst 3, 1) := by decide +kernel
theorem dX10_sounds_19 : decode cX10_sounds 19 = .ok (.iadd, 1) := by decide +kernel
theorem dX10_sounds_20 : decode cX10_sounds 20 = .ok (.iaload, 1) := by decide +kernel
theorem dX10_sounds_21 : decode cX10_sounds 21 = .ok (.invokestatic 90, 3) := by decide +kernel
theorem dX10_sounds_24 : decode cX10_sounds 24 = .ok (.ireturn, 1) := by decide +kernel
theorem dX10_loudAt_0 : decode cX10_loudAt 0 = .ok (.iconst 0, 1) := by decide +kernel
theorem dX10_loudAt_1 : decode cX10_loudAt 1 = .ok (.istore_n 3, 1) := by decide +kernel
theorem dX10_loudAt_2 : decode cX10_loudAt 2 = .ok (.iconst 0, 1) := by decide +kernel
theorem dX10_loudAt_3 : decode cX10_loudAt 3 = .ok (.istore 4, 2) := by decide +kernel
theorem dX10_loudAt_5 : decode cX10_loudAt 5 = .ok (.iload 4, 2) := by decide +kernel
theorem dX10_loudAt_7 : decode cX10_loudAt 7 = .ok (.aload_n 0, 1) := by decide +kernel
theorem dX10_loudAt_8 : decode cX10_loudAt 8 = .ok (.getfield 165, 3) := by decide +kernel
theorem dX10_loudAt_11 : decode cX10_loudAt 11 = .ok (.if_icmp .ge 67, 3) := by decide +kernel
theorem dX10_loudAt_14 : decode cX10_loudAt 14 = .ok (.aload_n 0, 1) := by decide +kernel
theorem dX10_loudAt_15 : decode cX10_loudAt 15 = .ok (.iload 4, 2) := by decide +kernel
theorem dX10_loudAt_17 : decode cX10_loudAt 17 = .ok (.iload_n 2, 1) := by decide +kernel
theorem dX10_loudAt_18 : decode cX10_loudAt 18 = .ok (.invokevirtual 194, 3) := by decide +kernel
theorem dX10_loudAt_21 : decode cX10_loudAt 21 = .ok (.ifCond .eq 51, 3) := by decide +kernel
theorem dX10_loudAt_24 : decode cX10_loudAt 24 = .ok (.aload_n 0, 1) := by decide +kernel
theorem dX10_loudAt_25 : decode cX10_loudAt 25 = .ok (.aload_n 0, 1) := by decide +kernel
theorem dX10_loudAt_26 : decode cX10_loudAt 26 = .ok (.getfield 19, 3) := by decide +kernel
theorem dX10_loudAt_29 : decode cX10_loudAt 29 = .ok (.iconst 4, 1) := by decide +kernel
theorem dX10_loudAt_30 : decode cX10_loudAt 30 = .ok (.iload 4, 2) := by decide +kernel
theorem dX10_loudAt_32 : decode cX10_loudAt 32 = .ok (.imul, 1) := by decide +kernel
theorem dX10_loudAt_33 : decode cX10_loudAt 33 = .ok (.iaload, 1) := by decide +kernel
theorem dX10_loudAt_34 : decode cX10_loudAt 34 = .ok (.invokevirtual 197, 3) := by decide +kernel
theorem dX10_loudAt_37 : decode cX10_loudAt 37 = .ok (.aload_n 0, 1) := by decide +kernel
theorem dX10_loudAt_38 : decode cX10_loudAt 38 = .ok (.getfield 19, 3) := by decide +kernel
theorem dX10_loudAt_41 : decode cX10_loudAt 41 = .ok (.iconst 4, 1) := by decide +kernel
theorem dX10_loudAt_42 : decode cX10_loudAt 42 = .ok (.iload 4, 2) := by decide +kernel
theorem dX10_loudAt_44 : decode cX10_loudAt 44 = .ok (.imul, 1) := by decide +kernel
theorem dX10_loudAt_45 : decode cX10_loudAt 45 = .ok (.iconst 1, 1) := by decide +kernel
theorem dX10_loudAt_46 : decode cX10_loudAt 46 = .ok (.iadd, 1) := by decide +kernel
theorem dX10_loudAt_47 : decode cX10_loudAt 47 = .ok (.iaload, 1) := by decide +kernel
theorem dX10_loudAt_48 : decode cX10_loudAt 48 = .ok (.aload_n 0, 1) := by decide +kernel
theorem dX10_loudAt_49 : decode cX10_loudAt 49 = .ok (.getfield 72, 3) := by decide +kernel
theorem dX10_loudAt_52 : decode cX10_loudAt 52 = .ok (.iload_n 1, 1) := by decide +kernel
theorem dX10_loudAt_53 : decode cX10_loudAt 53 = .ok (.iaload, 1) := by decide +kernel
theorem dX10_loudAt_54 : decode cX10_loudAt 54 = .ok (.invokestatic 201, 3) := by decide +kernel
theorem dX10_loudAt_57 : decode cX10_loudAt 57 = .ok (.istore 5, 2) := by decide +kernel
theorem dX10_loudAt_59 : decode cX10_loudAt 59 = .ok (.iload 5, 2) := by decide +kernel
theorem dX10_loudAt_61 : decode cX10_loudAt 61 = .ok (.iload_n 3, 1) := by decide +kernel
theorem dX10_loudAt_62 : decode cX10_loudAt 62 = .ok (.if_icmp .le 8, 3) := by decide +kernel
theorem dX10_loudAt_65 : decode cX10_loudAt 65 = .ok (.iload 5, 2) := by decide +kernel
theorem dX10_loudAt_67 : decode cX10_loudAt 67 = .ok (.goto 4, 3) := by decide +kernel
theorem dX10_loudAt_70 : decode cX10_loudAt 70 = .ok (.iload_n 3, 1) := by decide +kernel
theorem dX10_loudAt_71 : decode cX10_loudAt 71 = .ok (.istore_n 3, 1) := by decide +kernel
theorem dX10_loudAt_72 : decode cX10_loudAt 72 = .ok (.iinc 4 1, 3) := by decide +kernel
theorem dX10_loudAt_75 : decode cX10_loudAt 75 = .ok (.goto (-70), 3) := by decide +kernel
theorem dX10_loudAt_78 : decode cX10_loudAt 78 = .ok (.iload_n 3, 1) := by decide +kernel
theorem dX10_loudAt_79 : decode cX10_loudAt 79 = .ok (.ireturn, 1) := by decide +kernel
theorem dX10_noise_0 : decode cX10_noise 0 = .ok (.iload_n 1, 1) := by decide +kernel
theorem dX10_noise_1 : decode cX10_noise 1 = .ok (.iconst 0, 1) := by decide +kernel
theorem dX10_noise_2 : decode cX10_noise 2 = .ok (.aload_n 0, 1) := by decide +kernel
theorem dX10_noise_3 : decode cX10_noise 3 = .ok (.getfield 165, 3) := by decide +kernel
theorem dX10_noise_6 : decode cX10_noise 6 = .ok (.iconst 1, 1) := by decide +kernel
theorem dX10_noise_7 : decode cX10_noise 7 = .ok (.isub, 1) := by decide +kernel
theorem dX10_noise_8 : decode cX10_noise 8 = .ok (.invokestatic 90, 3) := by decide +kernel
theorem dX10_noise_11 : decode cX10_noise 11 = .ok (.ifCond .eq 25, 3) := by decide +kernel
theorem dX10_noise_14 : decode cX10_noise 14 = .ok (.iload_n 2, 1) := by decide +kernel
theorem dX10_noise_15 : decode cX10_noise 15 = .ok (.iconst 0, 1) := by decide +kernel
theorem dX10_noise_16 : decode cX10_noise 16 = .ok (.iconst 3, 1) := by decide +kernel
theorem dX10_noise_17 : decode cX10_noise 17 = .ok (.invokestatic 90, 3) := by decide +kernel
theorem dX10_noise_20 : decode cX10_noise 20 = .ok (.ifCond .eq 16, 3) := by decide +kernel
theorem dX10_noise_23 : decode cX10_noise 23 = .ok (.aload_n 0, 1) := by decide +kernel
theorem dX10_noise_24 : decode cX10_noise 24 = .ok (.getfield 19, 3) := by decide +kernel
theorem dX10_noise_27 : decode cX10_noise 27 = .ok (.iconst 4, 1) := by decide +kernel
theorem dX10_noise_28 : decode cX10_noise 28 = .ok (.iload_n 1, 1) := by decide +kernel
theorem dX10_noise_29 : decode cX10_noise 29 = .ok (.imul, 1) := by decide +kernel
theorem dX10_noise_30 : decode cX10_noise 30 = .ok (.iload_n 2, 1) := by decide +kernel
theorem dX10_noise_31 : decode cX10_noise 31 = .ok (.iadd, 1) := by decide +kernel
theorem dX10_noise_32 : decode cX10_noise 32 = .ok (.iaload, 1) := by decide +kernel
theorem dX10_noise_33 : decode cX10_noise 33 = .ok (.goto 4, 3) := by decide +kernel
theorem dX10_noise_36 : decode cX10_noise 36 = .ok (.iconst (-1), 1) := by decide +kernel
theorem dX10_noise_37 : decode cX10_noise 37 = .ok (.ireturn, 1) := by decide +kernel
theorem dX10_sheet_0 : decode cX10_sheet 0 = .ok (.aload_n 0, 1) := by decide +kernel
theorem dX10_sheet_1 : decode cX10_sheet 1 = .ok (.iload_n 1, 1) := by decide +kernel
theorem dX10_sheet_2 : decode cX10_sheet 2 = .ok (.invokevirtual 204, 3) := by decide +kernel
theorem dX10_sheet_5 : decode cX10_sheet 5 = .ok (.ifCond .eq 13, 3) := by decide +kernel
theorem dX10_sheet_8 : decode cX10_sheet 8 = .ok (.iload_n 2, 1) := by decide +kernel
theorem dX10_sheet_9 : decode cX10_sheet 9 = .ok (.iconst 0, 1) := by decide +kernel
theorem dX10_sheet_10 : decode cX10_sheet 10 = .ok (.bipush 6, 2) := by decide +kernel
theorem dX10_sheet_12 : decode cX10_sheet 12 = .ok (.invokestatic 90, 3) := by decide +kernel
theorem dX10_sheet_15 : decode cX10_sheet 15 = .ok (.ifCond .ne 5, 3) := by decide +kernel
theorem dX10_sheet_18 : decode cX10_sheet 18 = .ok (.iconst (-1), 1) := by decide +kernel
theorem dX10_sheet_19 : decode cX10_sheet 19 = .ok (.ireturn, 1) := by decide +kernel
theorem dX10_sheet_20 : decode cX10_sheet 20 = .ok (.iload_n 2, 1) := by decide +kernel
theorem dX10_sheet_21 : decode cX10_sheet 21 = .ok (.iconst 4, 1) := by decide +kernel
theorem dX10_sheet_22 : decode cX10_sheet 22 = .ok (.if_icmp .ge 16, 3) := by decide +kernel
theorem dX10_sheet_25 : decode cX10_sheet 25 = .ok (.aload_n 0, 1) := by decide +kernel
theorem dX10_sheet_26 : decode cX10_sheet 26 = .ok (.getfield 23, 3) := by decide +kernel
theorem dX10_sheet_29 : decode cX10_sheet 29 = .ok (.iconst 4, 1) := by decide +kernel
theorem dX10_sheet_30 : decode cX10_sheet 30 = .ok (.iload_n 1, 1) := by decide +kernel
theorem dX10_sheet_31 : decode cX10_sheet 31 = .ok (.imul, 1) := by decide +kernel
theorem dX10_sheet_32 : decode cX10_sheet 32 = .ok (.iload_n 2, 1) := by decide +kernel
theorem dX10_sheet_33 : decode cX10_sheet 33 = .ok (.iadd, 1) := by decide +kernel
theorem dX10_sheet_34 : decode cX10_sheet 34 = .ok (.iaload, 1) := by decide +kernel
theorem dX10_sheet_35 : decode cX10_sheet 35 = .ok (.goto 50, 3) := by decide +kernel
theorem dX10_sheet_38 : decode cX10_sheet 38 = .ok (.iload_n 2, 1) := by decide +kernel
theorem dX10_sheet_39 : decode cX10_sheet 39 = .ok (.iconst 4, 1) := by decide +kernel
theorem dX10_sheet_40 : decode cX10_sheet 40 = .ok (.if_icmp .ne 14, 3) := by decide +kernel
theorem dX10_sheet_43 : decode cX10_sheet 43 = .ok (.aload_n 0, 1) := by decide +kernel
theorem dX10_sheet_44 : decode cX10_sheet 44 = .ok (.getfield 29, 3) := by decide +kernel
theorem dX10_sheet_47 : decode cX10_sheet 47 = .ok (.iconst 2, 1) := by decide +kernel
theorem dX10_sheet_48 : decode cX10_sheet 48 = .ok (.iload_n 1, 1) := by decide +kernel
theorem dX10_sheet_49 : decode cX10_sheet 49 = .ok (.iadd, 1) := by decide +kernel
theorem dX10_sheet_50 : decode cX10_sheet 50 = .ok (.iaload, 1) := by decide +kernel
theorem dX10_sheet_51 : decode cX10_sheet 51 = .ok (.goto 34, 3) := by decide +kernel
theorem dX10_sheet_54 : decode cX10_sheet 54 = .ok (.iload_n 2, 1) := by decide +kernel
theorem dX10_sheet_55 : decode cX10_sheet 55 = .ok (.iconst 5, 1) := by decide +kernel
theorem dX10_sheet_56 : decode cX10_sheet 56 = .ok (.if_icmp .ne 15, 3) := by decide +kernel
theorem dX10_sheet_59 : decode cX10_sheet 59 = .ok (.aload_n 0, 1) := by decide +kernel
theorem dX10_sheet_60 : decode cX10_sheet 60 = .ok (.getfield 29, 3) := by decide +kernel
theorem dX10_sheet_63 : decode cX10_sheet 63 = .ok (.bipush 6, 2) := by decide +kernel
theorem dX10_sheet_65 : decode cX10_sheet 65 = .ok (.iload_n 1, 1) := by decide +kernel
theorem dX10_sheet_66 : decode cX10_sheet 66 = .ok (.iadd, 1) := by decide +kernel
theorem dX10_sheet_67 : decode cX10_sheet 67 = .ok (.iaload, 1) := by decide +kernel
theorem dX10_sheet_68 : decode cX10_sheet 68 = .ok (.goto 17, 3) := by decide +kernel
theorem dX10_sheet_71 : decode cX10_sheet 71 = .ok (.aload_n 0, 1) := by decide +kernel
theorem dX10_sheet_72 : decode cX10_sheet 72 = .ok (.iload_n 1, 1) := by decide +kernel
theorem dX10_sheet_73 : decode cX10_sheet 73 = .ok (.aload_n 0, 1) := by decide +kernel
theorem dX10_sheet_74 : decode cX10_sheet 74 = .ok (.getfield 29, 3) := by decide +kernel
theorem dX10_sheet_77 : decode cX10_sheet 77 = .ok (.bipush 6, 2) := by decide +kernel
theorem dX10_sheet_79 : decode cX10_sheet 79 = .ok (.iload_n 1, 1) := by decide +kernel
theorem dX10_sheet_80 : decode cX10_sheet 80 = .ok (.iadd, 1) := by decide +kernel
theorem dX10_sheet_81 : decode cX10_sheet 81 = .ok (.iaload, 1) := by decide +kernel
theorem dX10_sheet_82 : decode cX10_sheet 82 = .ok (.invokevirtual 180, 3) := by decide +kernel
theorem dX10_sheet_85 : decode cX10_sheet 85 = .ok (.ireturn, 1) := by decide +kernel
theorem dX10_room_0 : decode cX10_room 0 = .ok (.iload_n 1, 1) := by decide +kernel
theorem dX10_room_1 : decode cX10_room 1 = .ok (.iconst 0, 1) := by decide +kernel
theorem dX10_room_2 : decode cX10_room 2 = .ok (.aload_n 0, 1) := by decide +kernel
theorem dX10_room_3 : decode cX10_room 3 = .ok (.getfield 168, 3) := by decide +kernel
theorem dX10_room_6 : decode cX10_room 6 = .ok (.iconst 1, 1) := by decide +kernel
theorem dX10_room_7 : decode cX10_room 7 = .ok (.isub, 1) := by decide +kernel
theorem dX10_room_8 : decode cX10_room 8 = .ok (.invokestatic 90, 3) := by decide +kernel
theorem dX10_room_11 : decode cX10_room 11 = .ok (.ifCond .eq 25, 3) := by decide +kernel
theorem dX10_room_14 : decode cX10_room 14 = .ok (.iload_n 2, 1) := by decide +kernel
theorem dX10_room_15 : decode cX10_room 15 = .ok (.iconst 0, 1) := by decide +kernel
theorem dX10_room_16 : decode cX10_room 16 = .ok (.iconst 3, 1) := by decide +kernel
theorem dX10_room_17 : decode cX10_room 17 = .ok (.invokestatic 90, 3) := by decide +kernel
theorem dX10_room_20 : decode cX10_room 20 = .ok (.ifCond .eq 16, 3) := by decide +kernel
theorem dX10_room_23 : decode cX10_room 23 = .ok (.aload_n 0, 1) := by decide +kernel
theorem dX10_room_24 : decode cX10_room 24 = .ok (.getfield 26, 3) := by decide +kernel
theorem dX10_room_27 : decode cX10_room 27 = .ok (.iconst 4, 1) := by decide +kernel
theorem dX10_room_28 : decode cX10_room 28 = .ok (.iload_n 1, 1) := by decide +kernel
theorem dX10_room_29 : decode cX10_room 29 = .ok (.imul, 1) := by decide +kernel
theorem dX10_room_30 : decode cX10_room 30 = .ok (.iload_n 2, 1) := by decide +kernel
theorem dX10_room_31 : decode cX10_room 31 = .ok (.iadd, 1) := by decide +kernel
theorem dX10_room_32 : decode cX10_room 32 = .ok (.iaload, 1) := by decide +kernel
theorem dX10_room_33 : decode cX10_room 33 = .ok (.goto 4, 3) := by decide +kernel
theorem dX10_room_36 : decode cX10_room 36 = .ok (.iconst (-1), 1) := by decide +kernel
theorem dX10_room_37 : decode cX10_room 37 = .ok (.ireturn, 1) := by decide +kernel
theorem dX10_onCell_0 : decode cX10_onCell 0 = .ok (.aload_n 0, 1) := by decide +kernel
theorem dX10_onCell_1 : decode cX10_onCell 1 = .ok (.iload_n 1, 1) := by decide +kernel
theorem dX10_onCell_2 : decode cX10_onCell 2 = .ok (.invokevirtual 208, 3) := by decide +kernel
theorem dX10_onCell_5 : decode cX10_onCell 5 = .ok (.ifCond .ne 5, 3) := by decide +kernel
theorem dX10_onCell_8 : decode cX10_onCell 8 = .ok (.iconst (-1), 1) := by decide +kernel
theorem dX10_onCell_9 : decode cX10_onCell 9 = .ok (.ireturn, 1) := by decide +kernel
theorem dX10_onCell_10 : decode cX10_onCell 10 = .ok (.aload_n 0, 1) := by decide +kernel
theorem dX10_onCell_11 : decode cX10_onCell 11 = .ok (.invokevirtual 211, 3) := by decide +kernel
theorem dX10_onCell_14 : decode cX10_onCell 14 = .ok (.aload_n 0, 1) := by decide +kernel
theorem dX10_onCell_15 : decode cX10_onCell 15 = .ok (.getfield 69, 3) := by decide +kernel
theorem dX10_onCell_18 : decode cX10_onCell 18 = .ok (.iload_n 1, 1) := by decide +kernel
theorem dX10_onCell_19 : decode cX10_onCell 19 = .ok (.iaload, 1) := by decide +kernel
theorem dX10_onCell_20 : decode cX10_onCell 20 = .ok (.ireturn, 1) := by decide +kernel
theorem dX10_loud_0 : decode cX10_loud 0 = .ok (.aload_n 0, 1) := by decide +kernel
theorem dX10_loud_1 : decode cX10_loud 1 = .ok (.iload_n 1, 1) := by decide +kernel
theorem dX10_loud_2 : decode cX10_loud 2 = .ok (.invokevirtual 208, 3) := by decide +kernel
theorem dX10_loud_5 : decode cX10_loud 5 = .ok (.ifCond .eq 13, 3) := by decide +kernel
theorem dX10_loud_8 : decode cX10_loud 8 = .ok (.iload_n 2, 1) := by decide +kernel
theorem dX10_loud_9 : decode cX10_loud 9 = .ok (.iconst 0, 1) := by decide +kernel
theorem dX10_loud_10 : decode cX10_loud 10 = .ok (.bipush 23, 2) := by decide +kernel
theorem dX10_loud_12 : decode cX10_loud 12 = .ok (.invokestatic 90, 3) := by decide +kernel
theorem dX10_loud_15 : decode cX10_loud 15 = .ok (.ifCond .ne 5, 3) := by decide +kernel
theorem dX10_loud_18 : decode cX10_loud 18 = .ok (.iconst (-1), 1) := by decide +kernel
theorem dX10_loud_19 : decode cX10_loud 19 = .ok (.ireturn, 1) := by decide +kernel
theorem dX10_loud_20 : decode cX10_loud 20 = .ok (.aload_n 0, 1) := by decide +kernel
theorem dX10_loud_21 : decode cX10_loud 21 = .ok (.invokevirtual 211, 3) := by decide +kernel
theorem dX10_loud_24 : decode cX10_loud 24 = .ok (.aload_n 0, 1) := by decide +kernel
theorem dX10_loud_25 : decode cX10_loud 25 = .ok (.iload_n 1, 1) := by decide +kernel
theorem dX10_loud_26 : decode cX10_loud 26 = .ok (.iload_n 2, 1) := by decide +kernel
theorem dX10_loud_27 : decode cX10_loud 27 = .ok (.invokevirtual 214, 3) := by decide +kernel
theorem dX10_loud_30 : decode cX10_loud 30 = .ok (.ireturn, 1) := by decide +kernel
theorem dX10_laidSet_0 : decode cX10_laidSet 0 = .ok (.iconst 0, 1) := by decide +kernel
theorem dX10_laidSet_1 : decode cX10_laidSet 1 = .ok (.istore_n 1, 1) := by decide +kernel
theorem dX10_laidSet_2 : decode cX10_laidSet 2 = .ok (.iconst 0, 1) := by decide +kernel
theorem dX10_laidSet_3 : decode cX10_laidSet 3 = .ok (.istore_n 2, 1) := by decide +kernel
theorem dX10_laidSet_4 : decode cX10_laidSet 4 = .ok (.iload_n 2, 1) := by decide +kernel
theorem dX10_laidSet_5 : decode cX10_laidSet 5 = .ok (.aload_n 0, 1) := by decide +kernel
theorem dX10_laidSet_6 : decode cX10_laidSet 6 = .ok (.getfield 94, 3) := by decide +kernel
theorem dX10_laidSet_9 : decode cX10_laidSet 9 = .ok (.if_icmp .ge 32, 3) := by decide +kernel
theorem dX10_laidSet_12 : decode cX10_laidSet 12 = .ok (.iload_n 1, 1) := by decide +kernel
theorem dX10_laidSet_13 : decode cX10_laidSet 13 = .ok (.aload_n 0, 1) := by decide +kernel
theorem dX10_laidSet_14 : decode cX10_laidSet 14 = .ok (.getfield 29, 3) := by decide +kernel
theorem dX10_laidSet_17 : decode cX10_laidSet 17 = .ok (.iconst 2, 1) := by decide +kernel
theorem dX10_laidSet_18 : decode cX10_laidSet 18 = .ok (.iload_n 2, 1) := by decide +kernel
theorem dX10_laidSet_19 : decode cX10_laidSet 19 = .ok (.iadd, 1) := by decide +kernel
theorem dX10_laidSet_20 : decode cX10_laidSet 20 = .ok (.iaload, 1) := by decide +kernel
theorem dX10_laidSet_21 : decode cX10_laidSet 21 = .ok (.bipush (-9), 2) := by decide +kernel
theorem dX10_laidSet_23 : decode cX10_laidSet 23 = .ok (.if_icmp .ne 7, 3) := by decide +kernel
theorem dX10_laidSet_26 : decode cX10_laidSet 26 = .ok (.iconst 0, 1) := by decide +kernel
theorem dX10_laidSet_27 : decode cX10_laidSet 27 = .ok (.goto 6, 3) := by decide +kernel
theorem dX10_laidSet_30 : decode cX10_laidSet 30 = .ok (.iconst 1, 1) := by decide +kernel
theorem dX10_laidSet_31 : decode cX10_laidSet 31 = .ok (.iload_n 2, 1) := by decide +kernel
theorem dX10_laidSet_32 : decode cX10_laidSet 32 = .ok (.ishl, 1) := by decide +kernel
theorem dX10_laidSet_33 : decode cX10_laidSet 33 = .ok (.ior, 1) := by decide +kernel
theorem dX10_laidSet_34 : decode cX10_laidSet 34 = .ok (.istore_n 1, 1) := by decide +kernel
theorem dX10_laidSet_35 : decode cX10_laidSet 35 = .ok (.iinc 2 1, 3) := by decide +kernel
theorem dX10_laidSet_38 : decode cX10_laidSet 38 = .ok (.goto (-34), 3) := by decide +kernel
theorem dX10_laidSet_41 : decode cX10_laidSet 41 = .ok (.iload_n 1, 1) := by decide +kernel
theorem dX10_laidSet_42 : decode cX10_laidSet 42 = .ok (.ireturn, 1) := by decide +kernel
theorem dX10_now_0 : decode cX10_now 0 = .ok (.iload_n 1, 1) := by decide +kernel
theorem dX10_now_1 : decode cX10_now 1 = .ok (.tableswitch 55 0 3 #[31, 38, 45, 50], 31) := by decide +kernel
theorem dX10_now_32 : decode cX10_now 32 = .ok (.aload_n 0, 1) := by decide +kernel
theorem dX10_now_33 : decode cX10_now 33 = .ok (.getfield 29, 3) := by decide +kernel
theorem dX10_now_36 : decode cX10_now 36 = .ok (.iconst 0, 1) := by decide +kernel
theorem dX10_now_37 : decode cX10_now 37 = .ok (.iaload, 1) := by decide +kernel
theorem dX10_now_38 : decode cX10_now 38 = .ok (.ireturn, 1) := by decide +kernel
theorem dX10_now_39 : decode cX10_now 39 = .ok (.aload_n 0, 1) := by decide +kernel
theorem dX10_now_40 : decode cX10_now 40 = .ok (.getfield 29, 3) := by decide +kernel
theorem dX10_now_43 : decode cX10_now 43 = .ok (.iconst 1, 1) := by decide +kernel
theorem dX10_now_44 : decode cX10_now 44 = .ok (.iaload, 1) := by decide +kernel
theorem dX10_now_45 : decode cX10_now 45 = .ok (.ireturn, 1) := by decide +kernel
theorem dX10_now_46 : decode cX10_now 46 = .ok (.aload_n 0, 1) := by decide +kernel
theorem dX10_now_47 : decode cX10_now 47 = .ok (.invokevirtual 217, 3) := by decide +kernel
theorem dX10_now_50 : decode cX10_now 50 = .ok (.ireturn, 1) := by decide +kernel
theorem dX10_now_51 : decode cX10_now 51 = .ok (.aload_n 0, 1) := by decide +kernel
theorem dX10_now_52 : decode cX10_now 52 = .ok (.getfield 171, 3) := by decide +kernel
theorem dX10_now_55 : decode cX10_now 55 = .ok (.ireturn, 1) := by decide +kernel
theorem dX10_now_56 : decode cX10_now 56 = .ok (.iconst (-1), 1) := by decide +kernel
theorem dX10_now_57 : decode cX10_now 57 = .ok (.ireturn, 1) := by decide +kernel
theorem dX10_remembers_0 : decode cX10_remembers 0 = .ok (.aload_n 0, 1) := by decide +kernel
theorem dX10_remembers_1 : decode cX10_remembers 1 = .ok (.getfield 171, 3) := by decide +kernel
theorem dX10_remembers_4 : decode cX10_remembers 4 = .ok (.bipush 10, 2) := by decide +kernel
theorem dX10_remembers_6 : decode cX10_remembers 6 = .ok (.if_icmp .ne 42, 3) := by decide +kernel
theorem dX10_remembers_9 : decode cX10_remembers 9 = .ok (.iconst 0, 1) := by decide +kernel
theorem dX10_remembers_10 : decode cX10_remembers 10 = .ok (.istore_n 1, 1) := by decide +kernel
theorem dX10_remembers_11 : decode cX10_remembers 11 = .ok (.iload_n 1, 1) := by decide +kernel
theorem dX10_remembers_12 : decode cX10_remembers 12 = .ok (.bipush 90, 2) := by decide +kernel
theorem dX10_remembers_14 : decode cX10_remembers 14 = .ok (.if_icmp .ge 24, 3) := by decide +kernel
theorem dX10_remembers_17 : decode cX10_remembers 17 = .ok (.aload_n 0, 1) := by decide +kernel
theorem dX10_remembers_18 : decode cX10_remembers 18 = .ok (.getfield 32, 3) := by decide +kernel
theorem dX10_remembers_21 : decode cX10_remembers 21 = .ok (.iload_n 1, 1) := by decide +kernel
theorem dX10_remembers_22 : decode cX10_remembers 22 = .ok (.aload_n 0, 1) := by decide +kernel
theorem dX10_remembers_23 : decode cX10_remembers 23 = .ok (.getfield 32, 3) := by decide +kernel
theorem dX10_remembers_26 : decode cX10_remembers 26 = .ok (.iload_n 1, 1) := by decide +kernel
theorem dX10_remembers_27 : decode cX10_remembers 27 = .ok (.bipush 10, 2) := by decide +kernel
theorem dX10_remembers_29 : decode cX10_remembers 29 = .ok (.iadd, 1) := by decide +kernel
theorem dX10_remembers_30 : decode cX10_remembers 30 = .ok (.iaload, 1) := by decide +kernel
theorem dX10_remembers_31 : decode cX10_remembers 31 = .ok (.iastore, 1) := by decide +kernel
theorem dX10_remembers_32 : decode cX10_remembers 32 = .ok (.iinc 1 1, 3) := by decide +kernel
theorem dX10_remembers_35 : decode cX10_remembers 35 = .ok (.goto (-24), 3) := by decide +kernel
theorem dX10_remembers_38 : decode cX10_remembers 38 = .ok (.aload_n 0, 1) := by decide +kernel
theorem dX10_remembers_39 : decode cX10_remembers 39 = .ok (.dup, 1) := by decide +kernel
theorem dX10_remembers_40 : decode cX10_remembers 40 = .ok (.getfield 171, 3) := by decide +kernel
theorem dX10_remembers_43 : decode cX10_remembers 43 = .ok (.iconst 1, 1) := by decide +kernel
theorem dX10_remembers_44 : decode cX10_remembers 44 = .ok (.isub, 1) := by decide +kernel
theorem dX10_remembers_45 : decode cX10_remembers 45 = .ok (.putfield 171, 3) := by decide +kernel
theorem dX10_remembers_48 : decode cX10_remembers 48 = .ok (.iconst 0, 1) := by decide +kernel
theorem dX10_remembers_49 : decode cX10_remembers 49 = .ok (.istore_n 1, 1) := by decide +kernel
theorem dX10_remembers_50 : decode cX10_remembers 50 = .ok (.iload_n 1, 1) := by decide +kernel
theorem dX10_remembers_51 : decode cX10_remembers 51 = .ok (.bipush 10, 2) := by decide +kernel
theorem dX10_remembers_53 : decode cX10_remembers 53 = .ok (.if_icmp .ge 29, 3) := by decide +kernel
theorem dX10_remembers_56 : decode cX10_remembers 56 = .ok (.aload_n 0, 1) := by decide +kernel
theorem dX10_remembers_57 : decode cX10_remembers 57 = .ok (.getfield 32, 3) := by decide +kernel
theorem dX10_remembers_60 : decode cX10_remembers 60 = .ok (.bipush 10, 2) := by decide +kernel
theorem dX10_remembers_62 : decode cX10_remembers 62 = .ok (.aload_n 0, 1) := by decide +kernel
theorem dX10_remembers_63 : decode cX10_remembers 63 = .ok (.getfield 171, 3) := by decide +kernel
theorem dX10_remembers_66 : decode cX10_remembers 66 = .ok (.imul, 1) := by decide +kernel
theorem dX10_remembers_67 : decode cX10_remembers 67 = .ok (.iload_n 1, 1) := by decide +kernel
theorem dX10_remembers_68 : decode cX10_remembers 68 = .ok (.iadd, 1) := by decide +kernel
theorem dX10_remembers_69 : decode cX10_remembers 69 = .ok (.aload_n 0, 1) := by decide +kernel
theorem dX10_remembers_70 : decode cX10_remembers 70 = .ok (.getfield 29, 3) := by decide +kernel
theorem dX10_remembers_73 : decode cX10_remembers 73 = .ok (.iload_n 1, 1) := by decide +kernel
theorem dX10_remembers_74 : decode cX10_remembers 74 = .ok (.iaload, 1) := by decide +kernel
theorem dX10_remembers_75 : decode cX10_remembers 75 = .ok (.iastore, 1) := by decide +kernel
theorem dX10_remembers_76 : decode cX10_remembers 76 = .ok (.iinc 1 1, 3) := by decide +kernel
theorem dX10_remembers_79 : decode cX10_remembers 79 = .ok (.goto (-29), 3) := by decide +kernel
theorem dX10_remembers_82 : decode cX10_remembers 82 = .ok (.aload_n 0, 1) := by decide +kernel
theorem dX10_remembers_83 : decode cX10_remembers 83 = .ok (.dup, 1) := by decide +kernel
theorem dX10_remembers_84 : decode cX10_remembers 84 = .ok (.getfield 171, 3) := by decide +kernel
theorem dX10_remembers_87 : decode cX10_remembers 87 = .ok (.iconst 1, 1) := by decide +kernel
theorem dX10_remembers_88 : decode cX10_remembers 88 = .ok (.iadd, 1) := by decide +kernel
theorem dX10_remembers_89 : decode cX10_remembers 89 = .ok (.putfield 171, 3) := by decide +kernel
theorem dX10_remembers_92 : decode cX10_remembers 92 = .ok (.return_, 1) := by decide +kernel
theorem dX10_laidMany_0 : decode cX10_laidMany 0 = .ok (.iconst 0, 1) := by decide +kernel
theorem dX10_laidMany_1 : decode cX10_laidMany 1 = .ok (.istore_n 1, 1) := by decide +kernel
theorem dX10_laidMany_2 : decode cX10_laidMany 2 = .ok (.iconst 0, 1) := by decide +kernel
theorem dX10_laidMany_3 : decode cX10_laidMany 3 = .ok (.istore_n 2, 1) := by decide +kernel
theorem dX10_laidMany_4 : decode cX10_laidMany 4 = .ok (.iload_n 2, 1) := by decide +kernel
theorem dX10_laidMany_5 : decode cX10_laidMany 5 = .ok (.aload_n 0, 1) := by decide +kernel
theorem dX10_laidMany_6 : decode cX10_laidMany 6 = .ok (.getfield 94, 3) := by decide +kernel
theorem dX10_laidMany_9 : decode cX10_laidMany 9 = .ok (.if_icmp .ge 30, 3) := by decide +kernel
theorem dX10_laidMany_12 : decode cX10_laidMany 12 = .ok (.iload_n 1, 1) := by decide +kernel
theorem dX10_laidMany_13 : decode cX10_laidMany 13 = .ok (.aload_n 0, 1) := by decide +kernel
theorem dX10_laidMany_14 : decode cX10_laidMany 14 = .ok (.getfield 29, 3) := by decide +kernel
theorem dX10_laidMany_17 : decode cX10_laidMany 17 = .ok (.iconst 2, 1) := by decide +kernel
theorem dX10_laidMany_18 : decode cX10_laidMany 18 = .ok (.iload_n 2, 1) := by decide +kernel
theorem dX10_laidMany_19 : decode cX10_laidMany 19 = .ok (.iadd, 1) := by decide +kernel
theorem dX10_laidMany_20 : decode cX10_laidMany 20 = .ok (.iaload, 1) := by decide +kernel
theorem dX10_laidMany_21 : decode cX10_laidMany 21 = .ok (.bipush (-9), 2) := by decide +kernel
theorem dX10_laidMany_23 : decode cX10_laidMany 23 = .ok (.if_icmp .ne 7, 3) := by decide +kernel
theorem dX10_laidMany_26 : decode cX10_laidMany 26 = .ok (.iconst 0, 1) := by decide +kernel
theorem dX10_laidMany_27 : decode cX10_laidMany 27 = .ok (.goto 4, 3) := by decide +kernel
theorem dX10_laidMany_30 : decode cX10_laidMany 30 = .ok (.iconst 1, 1) := by decide +kernel
theorem dX10_laidMany_31 : decode cX10_laidMany 31 = .ok (.iadd, 1) := by decide +kernel
theorem dX10_laidMany_32 : decode cX10_laidMany 32 = .ok (.istore_n 1, 1) := by decide +kernel
theorem dX10_laidMany_33 : decode cX10_laidMany 33 = .ok (.iinc 2 1, 3) := by decide +kernel
theorem dX10_laidMany_36 : decode cX10_laidMany 36 = .ok (.goto (-32), 3) := by decide +kernel
theorem dX10_laidMany_39 : decode cX10_laidMany 39 = .ok (.iload_n 1, 1) := by decide +kernel
theorem dX10_laidMany_40 : decode cX10_laidMany 40 = .ok (.ireturn, 1) := by decide +kernel
theorem dX10_lay_0 : decode cX10_lay 0 = .ok (.aload_n 0, 1) := by decide +kernel
theorem dX10_lay_1 : decode cX10_lay 1 = .ok (.iload_n 1, 1) := by decide +kernel
theorem dX10_lay_2 : decode cX10_lay 2 = .ok (.invokevirtual 204, 3) := by decide +kernel
theorem dX10_lay_5 : decode cX10_lay 5 = .ok (.ifCond .eq 11, 3) := by decide +kernel
theorem dX10_lay_8 : decode cX10_lay 8 = .ok (.aload_n 0, 1) := by decide +kernel
theorem dX10_lay_9 : decode cX10_lay 9 = .ok (.iload_n 2, 1) := by decide +kernel
theorem dX10_lay_10 : decode cX10_lay 10 = .ok (.invokevirtual 208, 3) := by decide +kernel
theorem dX10_lay_13 : decode cX10_lay 13 = .ok (.ifCond .ne 5, 3) := by decide +kernel
theorem dX10_lay_16 : decode cX10_lay 16 = .ok (.iconst (-1), 1) := by decide +kernel
theorem dX10_lay_17 : decode cX10_lay 17 = .ok (.ireturn, 1) := by decide +kernel
theorem dX10_lay_18 : decode cX10_lay 18 = .ok (.aload_n 0, 1) := by decide +kernel
theorem dX10_lay_19 : decode cX10_lay 19 = .ok (.invokevirtual 211, 3) := by decide +kernel
theorem dX10_lay_22 : decode cX10_lay 22 = .ok (.aload_n 0, 1) := by decide +kernel
theorem dX10_lay_23 : decode cX10_lay 23 = .ok (.getfield 29, 3) := by decide +kernel
theorem dX10_lay_26 : decode cX10_lay 26 = .ok (.iconst 2, 1) := by decide +kernel
theorem dX10_lay_27 : decode cX10_lay 27 = .ok (.iload_n 1, 1) := by decide +kernel
theorem dX10_lay_28 : decode cX10_lay 28 = .ok (.iadd, 1) := by decide +kernel
theorem dX10_lay_29 : decode cX10_lay 29 = .ok (.iaload, 1) := by decide +kernel
theorem dX10_lay_30 : decode cX10_lay 30 = .ok (.bipush (-9), 2) := by decide +kernel
theorem dX10_lay_32 : decode cX10_lay 32 = .ok (.if_icmp .ne 12, 3) := by decide +kernel
theorem dX10_lay_35 : decode cX10_lay 35 = .ok (.aload_n 0, 1) := by decide +kernel
theorem dX10_lay_36 : decode cX10_lay 36 = .ok (.iload_n 1, 1) := by decide +kernel
theorem dX10_lay_37 : decode cX10_lay 37 = .ok (.iload_n 2, 1) := by decide +kernel
theorem dX10_lay_38 : decode cX10_lay 38 = .ok (.invokevirtual 220, 3) := by decide +kernel
theorem dX10_lay_41 : decode cX10_lay 41 = .ok (.ifCond .ne 6, 3) := by decide +kernel
theorem dX10_lay_44 : decode cX10_lay 44 = .ok (.bipush (-2), 2) := by decide +kernel
theorem dX10_lay_46 : decode cX10_lay 46 = .ok (.ireturn, 1) := by decide +kernel
theorem dX10_lay_47 : decode cX10_lay 47 = .ok (.aload_n 0, 1) := by decide +kernel
theorem dX10_lay_48 : decode cX10_lay 48 = .ok (.invokevirtual 223, 3) := by decide +kernel
theorem dX10_lay_51 : decode cX10_lay 51 = .ok (.aload_n 0, 1) := by decide +kernel
theorem dX10_lay_52 : decode cX10_lay 52 = .ok (.getfield 29, 3) := by decide +kernel
theorem dX10_lay_55 : decode cX10_lay 55 = .ok (.iconst 2, 1) := by decide +kernel
theorem dX10_lay_56 : decode cX10_lay 56 = .ok (.iload_n 1, 1) := by decide +kernel
theorem dX10_lay_57 : decode cX10_lay 57 = .ok (.iadd, 1) := by decide +kernel
theorem dX10_lay_58 : decode cX10_lay 58 = .ok (.iload_n 2, 1) := by decide +kernel
theorem dX10_lay_59 : decode cX10_lay 59 = .ok (.iastore, 1) := by decide +kernel
theorem dX10_lay_60 : decode cX10_lay 60 = .ok (.aload_n 0, 1) := by decide +kernel
theorem dX10_lay_61 : decode cX10_lay 61 = .ok (.invokevirtual 226, 3) := by decide +kernel
theorem dX10_lay_64 : decode cX10_lay 64 = .ok (.ireturn, 1) := by decide +kernel
theorem dX10_lift_0 : decode cX10_lift 0 = .ok (.aload_n 0, 1) := by decide +kernel
theorem dX10_lift_1 : decode cX10_lift 1 = .ok (.iload_n 1, 1) := by decide +kernel
theorem dX10_lift_2 : decode cX10_lift 2 = .ok (.invokevirtual 204, 3) := by decide +kernel
theorem dX10_lift_5 : decode cX10_lift 5 = .ok (.ifCond .ne 5, 3) := by decide +kernel
theorem dX10_lift_8 : decode cX10_lift 8 = .ok (.iconst (-1), 1) := by decide +kernel
theorem dX10_lift_9 : decode cX10_lift 9 = .ok (.ireturn, 1) := by decide +kernel
theorem dX10_lift_10 : decode cX10_lift 10 = .ok (.aload_n 0, 1) := by decide +kernel
theorem dX10_lift_11 : decode cX10_lift 11 = .ok (.getfield 29, 3) := by decide +kernel
theorem dX10_lift_14 : decode cX10_lift 14 = .ok (.iconst 2, 1) := by decide +kernel
theorem dX10_lift_15 : decode cX10_lift 15 = .ok (.iload_n 1, 1) := by decide +kernel
theorem dX10_lift_16 : decode cX10_lift 16 = .ok (.iadd, 1) := by decide +kernel
theorem dX10_lift_17 : decode cX10_lift 17 = .ok (.iaload, 1) := by decide +kernel
theorem dX10_lift_18 : decode cX10_lift 18 = .ok (.bipush (-9), 2) := by decide +kernel
theorem dX10_lift_20 : decode cX10_lift 20 = .ok (.if_icmp .ne 6, 3) := by decide +kernel
theorem dX10_lift_23 : decode cX10_lift 23 = .ok (.bipush (-2), 2) := by decide +kernel
theorem dX10_lift_25 : decode cX10_lift 25 = .ok (.ireturn, 1) := by decide +kernel
theorem dX10_lift_26 : decode cX10_lift 26 = .ok (.aload_n 0, 1) := by decide +kernel
theorem dX10_lift_27 : decode cX10_lift 27 = .ok (.invokevirtual 223, 3) := by decide +kernel
theorem dX10_lift_30 : decode cX10_lift 30 = .ok (.aload_n 0, 1) := by decide +kernel
theorem dX10_lift_31 : decode cX10_lift 31 = .ok (.getfield 29, 3) := by decide +kernel
theorem dX10_lift_34 : decode cX10_lift 34 = .ok (.iconst 2, 1) := by decide +kernel
theorem dX10_lift_35 : decode cX10_lift 35 = .ok (.iload_n 1, 1) := by decide +kernel
theorem dX10_lift_36 : decode cX10_lift 36 = .ok (.iadd, 1) := by decide +kernel
theorem dX10_lift_37 : decode cX10_lift 37 = .ok (.iaload, 1) := by decide +kernel
theorem dX10_lift_38 : decode cX10_lift 38 = .ok (.istore_n 2, 1) := by decide +kernel
theorem dX10_lift_39 : decode cX10_lift 39 = .ok (.aload_n 0, 1) := by decide +kernel
theorem dX10_lift_40 : decode cX10_lift 40 = .ok (.getfield 29, 3) := by decide +kernel
theorem dX10_lift_43 : decode cX10_lift 43 = .ok (.iconst 2, 1) := by decide +kernel
theorem dX10_lift_44 : decode cX10_lift 44 = .ok (.iload_n 1, 1) := by decide +kernel
theorem dX10_lift_45 : decode cX10_lift 45 = .ok (.iadd, 1) := by decide +kernel
theorem dX10_lift_46 : decode cX10_lift 46 = .ok (.bipush (-9), 2) := by decide +kernel
theorem dX10_lift_48 : decode cX10_lift 48 = .ok (.iastore, 1) := by decide +kernel
theorem dX10_lift_49 : decode cX10_lift 49 = .ok (.iload_n 2, 1) := by decide +kernel
theorem dX10_lift_50 : decode cX10_lift 50 = .ok (.ireturn, 1) := by decide +kernel
theorem dX10_turn_0 : decode cX10_turn 0 = .ok (.aload_n 0, 1) := by decide +kernel
theorem dX10_turn_1 : decode cX10_turn 1 = .ok (.iload_n 1, 1) := by decide +kernel
theorem dX10_turn_2 : decode cX10_turn 2 = .ok (.invokevirtual 204, 3) := by decide +kernel
theorem dX10_turn_5 : decode cX10_turn 5 = .ok (.ifCond .ne 5, 3) := by decide +kernel
theorem dX10_turn_8 : decode cX10_turn 8 = .ok (.iconst (-1), 1) := by decide +kernel
theorem dX10_turn_9 : decode cX10_turn 9 = .ok (.ireturn, 1) := by decide +kernel
theorem dX10_turn_10 : decode cX10_turn 10 = .ok (.aload_n 0, 1) := by decide +kernel
theorem dX10_turn_11 : decode cX10_turn 11 = .ok (.invokevirtual 223, 3) := by decide +kernel
theorem dX10_turn_14 : decode cX10_turn 14 = .ok (.aload_n 0, 1) := by decide +kernel
theorem dX10_turn_15 : decode cX10_turn 15 = .ok (.getfield 29, 3) := by decide +kernel
theorem dX10_turn_18 : decode cX10_turn 18 = .ok (.bipush 6, 2) := by decide +kernel
theorem dX10_turn_20 : decode cX10_turn 20 = .ok (.iload_n 1, 1) := by decide +kernel
theorem dX10_turn_21 : decode cX10_turn 21 = .ok (.iadd, 1) := by decide +kernel
theorem dX10_turn_22 : decode cX10_turn 22 = .ok (.dup2, 1) := by decide +kernel
theorem dX10_turn_23 : decode cX10_turn 23 = .ok (.iaload, 1) := by decide +kernel
theorem dX10_turn_24 : decode cX10_turn 24 = .ok (.iconst 2, 1) := by decide +kernel
theorem dX10_turn_25 : decode cX10_turn 25 = .ok (.idiv, 1) := by decide +kernel
theorem dX10_turn_26 : decode cX10_turn 26 = .ok (.iastore, 1) := by decide +kernel
theorem dX10_turn_27 : decode cX10_turn 27 = .ok (.aload_n 0, 1) := by decide +kernel
theorem dX10_turn_28 : decode cX10_turn 28 = .ok (.getfield 29, 3) := by decide +kernel
theorem dX10_turn_31 : decode cX10_turn 31 = .ok (.bipush 6, 2) := by decide +kernel
theorem dX10_turn_33 : decode cX10_turn 33 = .ok (.iload_n 1, 1) := by decide +kernel
theorem dX10_turn_34 : decode cX10_turn 34 = .ok (.iadd, 1) := by decide +kernel
theorem dX10_turn_35 : decode cX10_turn 35 = .ok (.iaload, 1) := by decide +kernel
theorem dX10_turn_36 : decode cX10_turn 36 = .ok (.ireturn, 1) := by decide +kernel
theorem dX10_findMore_0 : decode cX10_findMore 0 = .ok (.iconst 0, 1) := by decide +kernel
theorem dX10_findMore_1 : decode cX10_findMore 1 = .ok (.istore_n 2, 1) := by decide +kernel
theorem dX10_findMore_2 : decode cX10_findMore 2 = .ok (.iload_n 2, 1) := by decide +kernel
theorem dX10_findMore_3 : decode cX10_findMore 3 = .ok (.iconst 4, 1) := by decide +kernel
theorem dX10_findMore_4 : decode cX10_findMore 4 = .ok (.if_icmp .ge 16, 3) := by decide +kernel
theorem dX10_findMore_7 : decode cX10_findMore 7 = .ok (.aload_n 0, 1) := by decide +kernel
theorem dX10_findMore_8 : decode cX10_findMore 8 = .ok (.getfield 75, 3) := by decide +kernel
theorem dX10_findMore_11 : decode cX10_findMore 11 = .ok (.iload_n 2, 1) := by decide +kernel
theorem dX10_findMore_12 : decode cX10_findMore 12 = .ok (.iconst 0, 1) := by decide +kernel
theorem dX10_findMore_13 : decode cX10_findMore 13 = .ok (.iastore, 1) := by decide +kernel
theorem dX10_findMore_14 : decode cX10_findMore 14 = .ok (.iinc 2 1, 3) := by decide +kernel
theorem dX10_findMore_17 : decode cX10_findMore 17 = .ok (.goto (-15), 3) := by decide +kernel
theorem dX10_findMore_20 : decode cX10_findMore 20 = .ok (.iconst 0, 1) := by decide +kernel
theorem dX10_findMore_21 : decode cX10_findMore 21 = .ok (.istore_n 2, 1) := by decide +kernel
theorem dX10_findMore_22 : decode cX10_findMore 22 = .ok (.iload_n 2, 1) := by decide +kernel
theorem dX10_findMore_23 : decode cX10_findMore 23 = .ok (.aload_n 0, 1) := by decide +kernel
theorem dX10_findMore_24 : decode cX10_findMore 24 = .ok (.getfield 165, 3) := by decide +kernel
theorem dX10_findMore_27 : decode cX10_findMore 27 = .ok (.if_icmp .ge 115, 3) := by decide +kernel
theorem dX10_findMore_30 : decode cX10_findMore 30 = .ok (.aload_n 0, 1) := by decide +kernel
theorem dX10_findMore_31 : decode cX10_findMore 31 = .ok (.iload_n 2, 1) := by decide +kernel
theorem dX10_findMore_32 : decode cX10_findMore 32 = .ok (.iload_n 1, 1) := by decide +kernel
theorem dX10_findMore_33 : decode cX10_findMore 33 = .ok (.invokevirtual 194, 3) := by decide +kernel
theorem dX10_findMore_36 : decode cX10_findMore 36 = .ok (.ifCond .eq 100, 3) := by decide +kernel
theorem dX10_findMore_39 : decode cX10_findMore 39 = .ok (.aload_n 0, 1) := by decide +kernel
theorem dX10_findMore_40 : decode cX10_findMore 40 = .ok (.aload_n 0, 1) := by decide +kernel
theorem dX10_findMore_41 : decode cX10_findMore 41 = .ok (.getfield 19, 3) := by decide +kernel
theorem dX10_findMore_44 : decode cX10_findMore 44 = .ok (.iconst 4, 1) := by decide +kernel
theorem dX10_findMore_45 : decode cX10_findMore 45 = .ok (.iload_n 2, 1) := by decide +kernel
theorem dX10_findMore_46 : decode cX10_findMore 46 = .ok (.imul, 1) := by decide +kernel
theorem dX10_findMore_47 : decode cX10_findMore 47 = .ok (.iaload, 1) := by decide +kernel
theorem dX10_findMore_48 : decode cX10_findMore 48 = .ok (.invokevirtual 197, 3) := by decide +kernel
theorem dX10_findMore_51 : decode cX10_findMore 51 = .ok (.iconst 0, 1) := by decide +kernel
theorem dX10_findMore_52 : decode cX10_findMore 52 = .ok (.istore_n 3, 1) := by decide +kernel
theorem dX10_findMore_53 : decode cX10_findMore 53 = .ok (.iload_n 3, 1) := by decide +kernel
theorem dX10_findMore_54 : decode cX10_findMore 54 = .ok (.aload_n 0, 1) := by decide +kernel
theorem dX10_findMore_55 : decode cX10_findMore 55 = .ok (.getfield 7, 3) := by decide +kernel
theorem dX10_findMore_58 : decode cX10_findMore 58 = .ok (.aload_n 0, 1) := by decide +kernel
theorem dX10_findMore_59 : decode cX10_findMore 59 = .ok (.getfield 13, 3) := by decide +kernel
theorem dX10_findMore_62 : decode cX10_findMore 62 = .ok (.imul, 1) := by decide +kernel
theorem dX10_findMore_63 : decode cX10_findMore 63 = .ok (.if_icmp .ge 73, 3) := by decide +kernel
theorem dX10_findMore_66 : decode cX10_findMore 66 = .ok (.aload_n 0, 1) := by decide +kernel
theorem dX10_findMore_67 : decode cX10_findMore 67 = .ok (.getfield 19, 3) := by decide +kernel
theorem dX10_findMore_70 : decode cX10_findMore 70 = .ok (.iconst 4, 1) := by decide +kernel
theorem dX10_findMore_71 : decode cX10_findMore 71 = .ok (.iload_n 2, 1) := by decide +kernel
theorem dX10_findMore_72 : decode cX10_findMore 72 = .ok (.imul, 1) := by decide +kernel
theorem dX10_findMore_73 : decode cX10_findMore 73 = .ok (.iconst 1, 1) := by decide +kernel
theorem dX10_findMore_74 : decode cX10_findMore 74 = .ok (.iadd, 1) := by decide +kernel
theorem dX10_findMore_75 : decode cX10_findMore 75 = .ok (.iaload, 1) := by decide +kernel
theorem dX10_findMore_76 : decode cX10_findMore 76 = .ok (.aload_n 0, 1) := by decide +kernel
theorem dX10_findMore_77 : decode cX10_findMore 77 = .ok (.getfield 72, 3) := by decide +kernel
theorem dX10_findMore_80 : decode cX10_findMore 80 = .ok (.iload_n 3, 1) := by decide +kernel
theorem dX10_findMore_81 : decode cX10_findMore 81 = .ok (.iaload, 1) := by decide +kernel
theorem dX10_findMore_82 : decode cX10_findMore 82 = .ok (.invokestatic 201, 3) := by decide +kernel
theorem dX10_findMore_85 : decode cX10_findMore 85 = .ok (.bipush 10, 2) := by decide +kernel
theorem dX10_findMore_87 : decode cX10_findMore 87 = .ok (.idiv, 1) := by decide +kernel
theorem dX10_findMore_88 : decode cX10_findMore 88 = .ok (.istore 4, 2) := by decide +kernel
theorem dX10_findMore_90 : decode cX10_findMore 90 = .ok (.aload_n 0, 1) := by decide +kernel
theorem dX10_findMore_91 : decode cX10_findMore 91 = .ok (.getfield 69, 3) := by decide +kernel
theorem dX10_findMore_94 : decode cX10_findMore 94 = .ok (.iload_n 3, 1) := by decide +kernel
theorem dX10_findMore_95 : decode cX10_findMore 95 = .ok (.iaload, 1) := by decide +kernel
theorem dX10_findMore_96 : decode cX10_findMore 96 = .ok (.bipush (-9), 2) := by decide +kernel
theorem dX10_findMore_98 : decode cX10_findMore 98 = .ok (.if_icmp .eq 32, 3) := by decide +kernel
theorem dX10_findMore_101 : decode cX10_findMore 101 = .ok (.iload 4, 2) := by decide +kernel
theorem dX10_findMore_103 : decode cX10_findMore 103 = .ok (.aload_n 0, 1) := by decide +kernel
theorem dX10_findMore_104 : decode cX10_findMore 104 = .ok (.getfield 75, 3) := by decide +kernel
theorem dX10_findMore_107 : decode cX10_findMore 107 = .ok (.aload_n 0, 1) := by decide +kernel
theorem dX10_findMore_108 : decode cX10_findMore 108 = .ok (.getfield 69, 3) := by decide +kernel
theorem dX10_findMore_111 : decode cX10_findMore 111 = .ok (.iload_n 3, 1) := by decide +kernel
theorem dX10_findMore_112 : decode cX10_findMore 112 = .ok (.iaload, 1) := by decide +kernel
theorem dX10_findMore_113 : decode cX10_findMore 113 = .ok (.iaload, 1) := by decide +kernel
theorem dX10_findMore_114 : decode cX10_findMore 114 = .ok (.if_icmp .le 16, 3) := by decide +kernel
theorem dX10_findMore_117 : decode cX10_findMore 117 = .ok (.aload_n 0, 1) := by decide +kernel
theorem dX10_findMore_118 : decode cX10_findMore 118 = .ok (.getfield 75, 3) := by decide +kernel
theorem dX10_findMore_121 : decode cX10_findMore 121 = .ok (.aload_n 0, 1) := by decide +kernel
theorem dX10_findMore_122 : decode cX10_findMore 122 = .ok (.getfield 69, 3) := by decide +kernel
theorem dX10_findMore_125 : decode cX10_findMore 125 = .ok (.iload_n 3, 1) := by decide +kernel
theorem dX10_findMore_126 : decode cX10_findMore 126 = .ok (.iaload, 1) := by decide +kernel
theorem dX10_findMore_127 : decode cX10_findMore 127 = .ok (.iload 4, 2) := by decide +kernel
theorem dX10_findMore_129 : decode cX10_findMore 129 = .ok (.iastore, 1) := by decide +kernel
theorem dX10_findMore_130 : decode cX10_findMore 130 = .ok (.iinc 3 1, 3) := by decide +kernel
theorem dX10_findMore_133 : decode cX10_findMore 133 = .ok (.goto (-80), 3) := by decide +kernel
theorem dX10_findMore_136 : decode cX10_findMore 136 = .ok (.iinc 2 1, 3) := by decide +kernel
theorem dX10_findMore_139 : decode cX10_findMore 139 = .ok (.goto (-117), 3) := by decide +kernel
theorem dX10_findMore_142 : decode cX10_findMore 142 = .ok (.return_, 1) := by decide +kernel
theorem dX10_hour_0 : decode cX10_hour 0 = .ok (.aload_n 0, 1) := by decide +kernel
theorem dX10_hour_1 : decode cX10_hour 1 = .ok (.getfield 29, 3) := by decide +kernel
theorem dX10_hour_4 : decode cX10_hour 4 = .ok (.iconst 0, 1) := by decide +kernel
theorem dX10_hour_5 : decode cX10_hour 5 = .ok (.iaload, 1) := by decide +kernel
theorem dX10_hour_6 : decode cX10_hour 6 = .ok (.bipush 99, 2) := by decide +kernel
theorem dX10_hour_8 : decode cX10_hour 8 = .ok (.if_icmp .ne 6, 3) := by decide +kernel
theorem dX10_hour_11 : decode cX10_hour 11 = .ok (.bipush (-2), 2) := by decide +kernel
theorem dX10_hour_13 : decode cX10_hour 13 = .ok (.ireturn, 1) := by decide +kernel
theorem dX10_hour_14 : decode cX10_hour 14 = .ok (.aload_n 0, 1) := by decide +kernel
theorem dX10_hour_15 : decode cX10_hour 15 = .ok (.invokevirtual 223, 3) := by decide +kernel
theorem dX10_hour_18 : decode cX10_hour 18 = .ok (.aload_n 0, 1) := by decide +kernel
theorem dX10_hour_19 : decode cX10_hour 19 = .ok (.invokevirtual 211, 3) := by decide +kernel
theorem dX10_hour_22 : decode cX10_hour 22 = .ok (.aload_n 0, 1) := by decide +kernel
theorem dX10_hour_23 : decode cX10_hour 23 = .ok (.aload_n 0, 1) := by decide +kernel
theorem dX10_hour_24 : decode cX10_hour 24 = .ok (.getfield 29, 3) := by decide +kernel
theorem dX10_hour_27 : decode cX10_hour 27 = .ok (.iconst 1, 1) := by decide +kernel
theorem dX10_hour_28 : decode cX10_hour 28 = .ok (.iaload, 1) := by decide +kernel
theorem dX10_hour_29 : decode cX10_hour 29 = .ok (.invokevirtual 229, 3) := by decide +kernel
theorem dX10_hour_32 : decode cX10_hour 32 = .ok (.iconst 0, 1) := by decide +kernel
theorem dX10_hour_33 : decode cX10_hour 33 = .ok (.istore_n 1, 1) := by decide +kernel
theorem dX10_hour_34 : decode cX10_hour 34 = .ok (.iload_n 1, 1) := by decide +kernel
theorem dX10_hour_35 : decode cX10_hour 35 = .ok (.aload_n 0, 1) := by decide +kernel
theorem dX10_hour_36 : decode cX10_hour 36 = .ok (.getfield 94, 3) := by decide +kernel
theorem dX10_hour_39 : decode cX10_hour 39 = .ok (.if_icmp .ge 27, 3) := by decide +kernel
theorem dX10_hour_42 : decode cX10_hour 42 = .ok (.aload_n 0, 1) := by decide +kernel
theorem dX10_hour_43 : decode cX10_hour 43 = .ok (.getfield 29, 3) := by decide +kernel
theorem dX10_hour_46 : decode cX10_hour 46 = .ok (.bipush 6, 2) := by decide +kernel
theorem dX10_hour_48 : decode cX10_hour 48 = .ok (.iload_n 1, 1) := by decide +kernel
theorem dX10_hour_49 : decode cX10_hour 49 = .ok (.iadd, 1) := by decide +kernel
theorem dX10_hour_50 : decode cX10_hour 50 = .ok (.dup2, 1) := by decide +kernel
theorem dX10_hour_51 : decode cX10_hour 51 = .ok (.iaload, 1) := by decide +kernel
theorem dX10_hour_52 : decode cX10_hour 52 = .ok (.aload_n 0, 1) := by decide +kernel
theorem dX10_hour_53 : decode cX10_hour 53 = .ok (.getfield 75, 3) := by decide +kernel
theorem dX10_hour_56 : decode cX10_hour 56 = .ok (.iload_n 1, 1) := by decide +kernel
theorem dX10_hour_57 : decode cX10_hour 57 = .ok (.iaload, 1) := by decide +kernel
theorem dX10_hour_58 : decode cX10_hour 58 = .ok (.iadd, 1) := by decide +kernel
theorem dX10_hour_59 : decode cX10_hour 59 = .ok (.iastore, 1) := by decide +kernel
theorem dX10_hour_60 : decode cX10_hour 60 = .ok (.iinc 1 1, 3) := by decide +kernel
theorem dX10_hour_63 : decode cX10_hour 63 = .ok (.goto (-29), 3) := by decide +kernel
theorem dX10_hour_66 : decode cX10_hour 66 = .ok (.aload_n 0, 1) := by decide +kernel
theorem dX10_hour_67 : decode cX10_hour 67 = .ok (.getfield 29, 3) := by decide +kernel
theorem dX10_hour_70 : decode cX10_hour 70 = .ok (.iconst 0, 1) := by decide +kernel
theorem dX10_hour_71 : decode cX10_hour 71 = .ok (.dup2, 1) := by decide +kernel
theorem dX10_hour_72 : decode cX10_hour 72 = .ok (.iaload, 1) := by decide +kernel
theorem dX10_hour_73 : decode cX10_hour 73 = .ok (.aload_n 0, 1) := by decide +kernel
theorem dX10_hour_74 : decode cX10_hour 74 = .ok (.getfield 29, 3) := by decide +kernel
theorem dX10_hour_77 : decode cX10_hour 77 = .ok (.iconst 1, 1) := by decide +kernel
theorem dX10_hour_78 : decode cX10_hour 78 = .ok (.iaload, 1) := by decide +kernel
theorem dX10_hour_79 : decode cX10_hour 79 = .ok (.bipush 23, 2) := by decide +kernel
theorem dX10_hour_81 : decode cX10_hour 81 = .ok (.if_icmp .ne 7, 3) := by decide +kernel
theorem dX10_hour_84 : decode cX10_hour 84 = .ok (.iconst 1, 1) := by decide +kernel
theorem dX10_hour_85 : decode cX10_hour 85 = .ok (.goto 4, 3) := by decide +kernel
theorem dX10_hour_88 : decode cX10_hour 88 = .ok (.iconst 0, 1) := by decide +kernel
theorem dX10_hour_89 : decode cX10_hour 89 = .ok (.iadd, 1) := by decide +kernel
theorem dX10_hour_90 : decode cX10_hour 90 = .ok (.iastore, 1) := by decide +kernel
theorem dX10_hour_91 : decode cX10_hour 91 = .ok (.aload_n 0, 1) := by decide +kernel
theorem dX10_hour_92 : decode cX10_hour 92 = .ok (.getfield 29, 3) := by decide +kernel
theorem dX10_hour_95 : decode cX10_hour 95 = .ok (.iconst 1, 1) := by decide +kernel
theorem dX10_hour_96 : decode cX10_hour 96 = .ok (.aload_n 0, 1) := by decide +kernel
theorem dX10_hour_97 : decode cX10_hour 97 = .ok (.getfield 29, 3) := by decide +kernel
theorem dX10_hour_100 : decode cX10_hour 100 = .ok (.iconst 1, 1) := by decide +kernel
theorem dX10_hour_101 : decode cX10_hour 101 = .ok (.iaload, 1) := by decide +kernel
theorem dX10_hour_102 : decode cX10_hour 102 = .ok (.iconst 1, 1) := by decide +kernel
theorem dX10_hour_103 : decode cX10_hour 103 = .ok (.iadd, 1) := by decide +kernel
theorem dX10_hour_104 : decode cX10_hour 104 = .ok (.bipush 24, 2) := by decide +kernel
theorem dX10_hour_106 : decode cX10_hour 106 = .ok (.irem, 1) := by decide +kernel
theorem dX10_hour_107 : decode cX10_hour 107 = .ok (.iastore, 1) := by decide +kernel
theorem dX10_hour_108 : decode cX10_hour 108 = .ok (.aload_n 0, 1) := by decide +kernel
theorem dX10_hour_109 : decode cX10_hour 109 = .ok (.getfield 29, 3) := by decide +kernel
theorem dX10_hour_112 : decode cX10_hour 112 = .ok (.iconst 1, 1) := by decide +kernel
theorem dX10_hour_113 : decode cX10_hour 113 = .ok (.iaload, 1) := by decide +kernel
theorem dX10_hour_114 : decode cX10_hour 114 = .ok (.ireturn, 1) := by decide +kernel
theorem dX10_undo_0 : decode cX10_undo 0 = .ok (.aload_n 0, 1) := by decide +kernel
theorem dX10_undo_1 : decode cX10_undo 1 = .ok (.getfield 171, 3) := by decide +kernel
theorem dX10_undo_4 : decode cX10_undo 4 = .ok (.ifCond .ne 6, 3) := by decide +kernel
theorem dX10_undo_7 : decode cX10_undo 7 = .ok (.bipush (-2), 2) := by decide +kernel
theorem dX10_undo_9 : decode cX10_undo 9 = .ok (.ireturn, 1) := by decide +kernel
theorem dX10_undo_10 : decode cX10_undo 10 = .ok (.aload_n 0, 1) := by decide +kernel
theorem dX10_undo_11 : decode cX10_undo 11 = .ok (.dup, 1) := by decide +kernel
theorem dX10_undo_12 : decode cX10_undo 12 = .ok (.getfield 171, 3) := by decide +kernel
theorem dX10_undo_15 : decode cX10_undo 15 = .ok (.iconst 1, 1) := by decide +kernel
theorem dX10_undo_16 : decode cX10_undo 16 = .ok (.isub, 1) := by decide +kernel
theorem dX10_undo_17 : decode cX10_undo 17 = .ok (.putfield 171, 3) := by decide +kernel
theorem dX10_undo_20 : decode cX10_undo 20 = .ok (.iconst 0, 1) := by decide +kernel
theorem dX10_undo_21 : decode cX10_undo 21 = .ok (.istore_n 1, 1) := by decide +kernel
theorem dX10_undo_22 : decode cX10_undo 22 = .ok (.iload_n 1, 1) := by decide +kernel
theorem dX10_undo_23 : decode cX10_undo 23 = .ok (.bipush 10, 2) := by decide +kernel
theorem dX10_undo_25 : decode cX10_undo 25 = .ok (.if_icmp .ge 29, 3) := by decide +kernel
theorem dX10_undo_28 : decode cX10_undo 28 = .ok (.aload_n 0, 1) := by decide +kernel
theorem dX10_undo_29 : decode cX10_undo 29 = .ok (.getfield 29, 3) := by decide +kernel
theorem dX10_undo_32 : decode cX10_undo 32 = .ok (.iload_n 1, 1) := by decide +kernel
theorem dX10_undo_33 : decode cX10_undo 33 = .ok (.aload_n 0, 1) := by decide +kernel
theorem dX10_undo_34 : decode cX10_undo 34 = .ok (.getfield 32, 3) := by decide +kernel
theorem dX10_undo_37 : decode cX10_undo 37 = .ok (.bipush 10, 2) := by decide +kernel
theorem dX10_undo_39 : decode cX10_undo 39 = .ok (.aload_n 0, 1) := by decide +kernel
theorem dX10_undo_40 : decode cX10_undo 40 = .ok (.getfield 171, 3) := by decide +kernel
theorem dX10_undo_43 : decode cX10_undo 43 = .ok (.imul, 1) := by decide +kernel
theorem dX10_undo_44 : decode cX10_undo 44 = .ok (.iload_n 1, 1) := by decide +kernel
theorem dX10_undo_45 : decode cX10_undo 45 = .ok (.iadd, 1) := by decide +kernel
theorem dX10_undo_46 : decode cX10_undo 46 = .ok (.iaload, 1) := by decide +kernel
theorem dX10_undo_47 : decode cX10_undo 47 = .ok (.iastore, 1) := by decide +kernel
theorem dX10_undo_48 : decode cX10_undo 48 = .ok (.iinc 1 1, 3) := by decide +kernel
theorem dX10_undo_51 : decode cX10_undo 51 = .ok (.goto (-29), 3) := by decide +kernel
theorem dX10_undo_54 : decode cX10_undo 54 = .ok (.aload_n 0, 1) := by decide +kernel
theorem dX10_undo_55 : decode cX10_undo 55 = .ok (.getfield 171, 3) := by decide +kernel
theorem dX10_undo_58 : decode cX10_undo 58 = .ok (.ireturn, 1) := by decide +kernel
theorem dX10_wakes_0 : decode cX10_wakes 0 = .ok (.bipush (-9), 2) := by decide +kernel
theorem dX10_wakes_2 : decode cX10_wakes 2 = .ok (.istore_n 2, 1) := by decide +kernel
theorem dX10_wakes_3 : decode cX10_wakes 3 = .ok (.iconst 0, 1) := by decide +kernel
theorem dX10_wakes_4 : decode cX10_wakes 4 = .ok (.istore_n 3, 1) := by decide +kernel
theorem dX10_wakes_5 : decode cX10_wakes 5 = .ok (.iload_n 3, 1) := by decide +kernel
theorem dX10_wakes_6 : decode cX10_wakes 6 = .ok (.aload_n 0, 1) := by decide +kernel
theorem dX10_wakes_7 : decode cX10_wakes 7 = .ok (.getfield 165, 3) := by decide +kernel
theorem dX10_wakes_10 : decode cX10_wakes 10 = .ok (.if_icmp .ge 194, 3) := by decide +kernel
theorem dX10_wakes_13 : decode cX10_wakes 13 = .ok (.aload_n 0, 1) := by decide +kernel
theorem dX10_wakes_14 : decode cX10_wakes 14 = .ok (.getfield 19, 3) := by decide +kernel
theorem dX10_wakes_17 : decode cX10_wakes 17 = .ok (.iconst 4, 1) := by decide +kernel
theorem dX10_wakes_18 : decode cX10_wakes 18 = .ok (.iload_n 3, 1) := by decide +kernel
theorem dX10_wakes_19 : decode cX10_wakes 19 = .ok (.imul, 1) := by decide +kernel
theorem dX10_wakes_20 : decode cX10_wakes 20 = .ok (.iconst 2, 1) := by decide +kernel
theorem dX10_wakes_21 : decode cX10_wakes 21 = .ok (.iadd, 1) := by decide +kernel
theorem dX10_wakes_22 : decode cX10_wakes 22 = .ok (.iaload, 1) := by decide +kernel
theorem dX10_wakes_23 : decode cX10_wakes 23 = .ok (.aload_n 0, 1) := by decide +kernel
theorem dX10_wakes_24 : decode cX10_wakes 24 = .ok (.getfield 26, 3) := by decide +kernel
theorem dX10_wakes_27 : decode cX10_wakes 27 = .ok (.iconst 4, 1) := by decide +kernel
theorem dX10_wakes_28 : decode cX10_wakes 28 = .ok (.iload_n 1, 1) := by decide +kernel
theorem dX10_wakes_29 : decode cX10_wakes 29 = .ok (.imul, 1) := by decide +kernel
theorem dX10_wakes_30 : decode cX10_wakes 30 = .ok (.iconst 1, 1) := by decide +kernel
theorem dX10_wakes_31 : decode cX10_wakes 31 = .ok (.iadd, 1) := by decide +kernel
theorem dX10_wakes_32 : decode cX10_wakes 32 = .ok (.iaload, 1) := by decide +kernel
theorem dX10_wakes_33 : decode cX10_wakes 33 = .ok (.if_icmp .le 16, 3) := by decide +kernel
theorem dX10_wakes_36 : decode cX10_wakes 36 = .ok (.aload_n 0, 1) := by decide +kernel
theorem dX10_wakes_37 : decode cX10_wakes 37 = .ok (.getfield 19, 3) := by decide +kernel
theorem dX10_wakes_40 : decode cX10_wakes 40 = .ok (.iconst 4, 1) := by decide +kernel
theorem dX10_wakes_41 : decode cX10_wakes 41 = .ok (.iload_n 3, 1) := by decide +kernel
theorem dX10_wakes_42 : decode cX10_wakes 42 = .ok (.imul, 1) := by decide +kernel
theorem dX10_wakes_43 : decode cX10_wakes 43 = .ok (.iconst 2, 1) := by decide +kernel
theorem dX10_wakes_44 : decode cX10_wakes 44 = .ok (.iadd, 1) := by decide +kernel
theorem dX10_wakes_45 : decode cX10_wakes 45 = .ok (.iaload, 1) := by decide +kernel
theorem dX10_wakes_46 : decode cX10_wakes 46 = .ok (.goto 13, 3) := by decide +kernel
theorem dX10_wakes_49 : decode cX10_wakes 49 = .ok (.aload_n 0, 1) := by decide +kernel
theorem dX10_wakes_50 : decode cX10_wakes 50 = .ok (.getfield 26, 3) := by decide +kernel
theorem dX10_wakes_53 : decode cX10_wakes 53 = .ok (.iconst 4, 1) := by decide +kernel
theorem dX10_wakes_54 : decode cX10_wakes 54 = .ok (.iload_n 1, 1) := by decide +kernel
theorem dX10_wakes_55 : decode cX10_wakes 55 = .ok (.imul, 1) := by decide +kernel
theorem dX10_wakes_56 : decode cX10_wakes 56 = .ok (.iconst 1, 1) := by decide +kernel
theorem dX10_wakes_57 : decode cX10_wakes 57 = .ok (.iadd, 1) := by decide +kernel
theorem dX10_wakes_58 : decode cX10_wakes 58 = .ok (.iaload, 1) := by decide +kernel
theorem dX10_wakes_59 : decode cX10_wakes 59 = .ok (.istore 4, 2) := by decide +kernel
theorem dX10_wakes_61 : decode cX10_wakes 61 = .ok (.aload_n 0, 1) := by decide +kernel
theorem dX10_wakes_62 : decode cX10_wakes 62 = .ok (.getfield 19, 3) := by decide +kernel
theorem dX10_wakes_65 : decode cX10_wakes 65 = .ok (.iconst 4, 1) := by decide +kernel
theorem dX10_wakes_66 : decode cX10_wakes 66 = .ok (.iload_n 3, 1) := by decide +kernel
theorem dX10_wakes_67 : decode cX10_wakes 67 = .ok (.imul, 1) := by decide +kernel
theorem dX10_wakes_68 : decode cX10_wakes 68 = .ok (.iconst 3, 1) := by decide +kernel
theorem dX10_wakes_69 : decode cX10_wakes 69 = .ok (.iadd, 1) := by decide +kernel
theorem dX10_wakes_70 : decode cX10_wakes 70 = .ok (.iaload, 1) := by decide +kernel
theorem dX10_wakes_71 : decode cX10_wakes 71 = .ok (.aload_n 0, 1) := by decide +kernel
theorem dX10_wakes_72 : decode cX10_wakes 72 = .ok (.getfield 26, 3) := by decide +kernel
theorem dX10_wakes_75 : decode cX10_wakes 75 = .ok (.iconst 4, 1) := by decide +kernel
theorem dX10_wakes_76 : decode cX10_wakes 76 = .ok (.iload_n 1, 1) := by decide +kernel
theorem dX10_wakes_77 : decode cX10_wakes 77 = .ok (.imul, 1) := by decide +kernel
theorem dX10_wakes_78 : decode cX10_wakes 78 = .ok (.iconst 2, 1) := by decide +kernel
theorem dX10_wakes_79 : decode cX10_wakes 79 = .ok (.iadd, 1) := by decide +kernel
theorem dX10_wakes_80 : decode cX10_wakes 80 = .ok (.iaload, 1) := by decide +kernel
theorem dX10_wakes_81 : decode cX10_wakes 81 = .ok (.if_icmp .ge 16, 3) := by decide +kernel
theorem dX10_wakes_84 : decode cX10_wakes 84 = .ok (.aload_n 0, 1) := by decide +kernel
theorem dX10_wakes_85 : decode cX10_wakes 85 = .ok (.getfield 19, 3) := by decide +kernel
theorem dX10_wakes_88 : decode cX10_wakes 88 = .ok (.iconst 4, 1) := by decide +kernel
theorem dX10_wakes_89 : decode cX10_wakes 89 = .ok (.iload_n 3, 1) := by decide +kernel
theorem dX10_wakes_90 : decode cX10_wakes 90 = .ok (.imul, 1) := by decide +kernel
theorem dX10_wakes_91 : decode cX10_wakes 91 = .ok (.iconst 3, 1) := by decide +kernel
theorem dX10_wakes_92 : decode cX10_wakes 92 = .ok (.iadd, 1) := by decide +kernel
theorem dX10_wakes_93 : decode cX10_wakes 93 = .ok (.iaload, 1) := by decide +kernel
theorem dX10_wakes_94 : decode cX10_wakes 94 = .ok (.goto 13, 3) := by decide +kernel
theorem dX10_wakes_97 : decode cX10_wakes 97 = .ok (.aload_n 0, 1) := by decide +kernel
theorem dX10_wakes_98 : decode cX10_wakes 98 = .ok (.getfield 26, 3) := by decide +kernel
theorem dX10_wakes_101 : decode cX10_wakes 101 = .ok (.iconst 4, 1) := by decide +kernel
theorem dX10_wakes_102 : decode cX10_wakes 102 = .ok (.iload_n 1, 1) := by decide +kernel
theorem dX10_wakes_103 : decode cX10_wakes 103 = .ok (.imul, 1) := by decide +kernel
theorem dX10_wakes_104 : decode cX10_wakes 104 = .ok (.iconst 2, 1) := by decide +kernel
theorem dX10_wakes_105 : decode cX10_wakes 105 = .ok (.iadd, 1) := by decide +kernel
theorem dX10_wakes_106 : decode cX10_wakes 106 = .ok (.iaload, 1) := by decide +kernel
theorem dX10_wakes_107 : decode cX10_wakes 107 = .ok (.istore 5, 2) := by decide +kernel
theorem dX10_wakes_109 : decode cX10_wakes 109 = .ok (.iload 4, 2) := by decide +kernel
theorem dX10_wakes_111 : decode cX10_wakes 111 = .ok (.iload 5, 2) := by decide +kernel
theorem dX10_wakes_113 : decode cX10_wakes 113 = .ok (.if_icmp .gt 85, 3) := by decide +kernel
theorem dX10_wakes_116 : decode cX10_wakes 116 = .ok (.aload_n 0, 1) := by decide +kernel
theorem dX10_wakes_117 : decode cX10_wakes 117 = .ok (.aload_n 0, 1) := by decide +kernel
theorem dX10_wakes_118 : decode cX10_wakes 118 = .ok (.getfield 19, 3) := by decide +kernel
theorem dX10_wakes_121 : decode cX10_wakes 121 = .ok (.iconst 4, 1) := by decide +kernel
theorem dX10_wakes_122 : decode cX10_wakes 122 = .ok (.iload_n 3, 1) := by decide +kernel
theorem dX10_wakes_123 : decode cX10_wakes 123 = .ok (.imul, 1) := by decide +kernel
theorem dX10_wakes_124 : decode cX10_wakes 124 = .ok (.iaload, 1) := by decide +kernel
theorem dX10_wakes_125 : decode cX10_wakes 125 = .ok (.invokevirtual 197, 3) := by decide +kernel
theorem dX10_wakes_128 : decode cX10_wakes 128 = .ok (.aload_n 0, 1) := by decide +kernel
theorem dX10_wakes_129 : decode cX10_wakes 129 = .ok (.getfield 19, 3) := by decide +kernel
theorem dX10_wakes_132 : decode cX10_wakes 132 = .ok (.iconst 4, 1) := by decide +kernel
theorem dX10_wakes_133 : decode cX10_wakes 133 = .ok (.iload_n 3, 1) := by decide +kernel
theorem dX10_wakes_134 : decode cX10_wakes 134 = .ok (.imul, 1) := by decide +kernel
theorem dX10_wakes_135 : decode cX10_wakes 135 = .ok (.iconst 1, 1) := by decide +kernel
theorem dX10_wakes_136 : decode cX10_wakes 136 = .ok (.iadd, 1) := by decide +kernel
theorem dX10_wakes_137 : decode cX10_wakes 137 = .ok (.iaload, 1) := by decide +kernel
theorem dX10_wakes_138 : decode cX10_wakes 138 = .ok (.aload_n 0, 1) := by decide +kernel
theorem dX10_wakes_139 : decode cX10_wakes 139 = .ok (.getfield 72, 3) := by decide +kernel
theorem dX10_wakes_142 : decode cX10_wakes 142 = .ok (.aload_n 0, 1) := by decide +kernel
theorem dX10_wakes_143 : decode cX10_wakes 143 = .ok (.getfield 26, 3) := by decide +kernel
theorem dX10_wakes_146 : decode cX10_wakes 146 = .ok (.iconst 4, 1) := by decide +kernel
theorem dX10_wakes_147 : decode cX10_wakes 147 = .ok (.iload_n 1, 1) := by decide +kernel
theorem dX10_wakes_148 : decode cX10_wakes 148 = .ok (.imul, 1) := by decide +kernel
theorem dX10_wakes_149 : decode cX10_wakes 149 = .ok (.iaload, 1) := by decide +kernel
theorem dX10_wakes_150 : decode cX10_wakes 150 = .ok (.iaload, 1) := by decide +kernel
theorem dX10_wakes_151 : decode cX10_wakes 151 = .ok (.invokestatic 201, 3) := by decide +kernel
theorem dX10_wakes_154 : decode cX10_wakes 154 = .ok (.aload_n 0, 1) := by decide +kernel
theorem dX10_wakes_155 : decode cX10_wakes 155 = .ok (.getfield 26, 3) := by decide +kernel
theorem dX10_wakes_158 : decode cX10_wakes 158 = .ok (.iconst 4, 1) := by decide +kernel
theorem dX10_wakes_159 : decode cX10_wakes 159 = .ok (.iload_n 1, 1) := by decide +kernel
theorem dX10_wakes_160 : decode cX10_wakes 160 = .ok (.imul, 1) := by decide +kernel
theorem dX10_wakes_161 : decode cX10_wakes 161 = .ok (.iconst 3, 1) := by decide +kernel
theorem dX10_wakes_162 : decode cX10_wakes 162 = .ok (.iadd, 1) := by decide +kernel
theorem dX10_wakes_163 : decode cX10_wakes 163 = .ok (.iaload, 1) := by decide +kernel
theorem dX10_wakes_164 : decode cX10_wakes 164 = .ok (.if_icmp .le 7, 3) := by decide +kernel
theorem dX10_wakes_167 : decode cX10_wakes 167 = .ok (.iconst 1, 1) := by decide +kernel
theorem dX10_wakes_168 : decode cX10_wakes 168 = .ok (.goto 4, 3) := by decide +kernel
theorem dX10_wakes_171 : decode cX10_wakes 171 = .ok (.iconst 0, 1) := by decide +kernel
theorem dX10_wakes_172 : decode cX10_wakes 172 = .ok (.istore 6, 2) := by decide +kernel
theorem dX10_wakes_174 : decode cX10_wakes 174 = .ok (.iload 6, 2) := by decide +kernel
theorem dX10_wakes_176 : decode cX10_wakes 176 = .ok (.ifCond .eq 20, 3) := by decide +kernel
theorem dX10_wakes_179 : decode cX10_wakes 179 = .ok (.iload_n 2, 1) := by decide +kernel
theorem dX10_wakes_180 : decode cX10_wakes 180 = .ok (.bipush (-9), 2) := by decide +kernel
theorem dX10_wakes_182 : decode cX10_wakes 182 = .ok (.if_icmp .eq 9, 3) := by decide +kernel
theorem dX10_wakes_185 : decode cX10_wakes 185 = .ok (.iload 4, 2) := by decide +kernel
theorem dX10_wakes_187 : decode cX10_wakes 187 = .ok (.iload_n 2, 1) := by decide +kernel
theorem dX10_wakes_188 : decode cX10_wakes 188 = .ok (.if_icmp .ge 8, 3) := by decide +kernel
theorem dX10_wakes_191 : decode cX10_wakes 191 = .ok (.iload 4, 2) := by decide +kernel
theorem dX10_wakes_193 : decode cX10_wakes 193 = .ok (.goto 4, 3) := by decide +kernel
theorem dX10_wakes_196 : decode cX10_wakes 196 = .ok (.iload_n 2, 1) := by decide +kernel
theorem dX10_wakes_197 : decode cX10_wakes 197 = .ok (.istore_n 2, 1) := by decide +kernel
theorem dX10_wakes_198 : decode cX10_wakes 198 = .ok (.iinc 3 1, 3) := by decide +kernel
theorem dX10_wakes_201 : decode cX10_wakes 201 = .ok (.goto (-196), 3) := by decide +kernel
theorem dX10_wakes_204 : decode cX10_wakes 204 = .ok (.iload_n 2, 1) := by decide +kernel
theorem dX10_wakes_205 : decode cX10_wakes 205 = .ok (.ireturn, 1) := by decide +kernel
theorem dX10_firstWaked_0 : decode cX10_firstWaked 0 = .ok (.iconst 0, 1) := by decide +kernel
theorem dX10_firstWaked_1 : decode cX10_firstWaked 1 = .ok (.istore_n 1, 1) := by decide +kernel
theorem dX10_firstWaked_2 : decode cX10_firstWaked 2 = .ok (.iload_n 1, 1) := by decide +kernel
theorem dX10_firstWaked_3 : decode cX10_firstWaked 3 = .ok (.aload_n 0, 1) := by decide +kernel
theorem dX10_firstWaked_4 : decode cX10_firstWaked 4 = .ok (.getfield 168, 3) := by decide +kernel
theorem dX10_firstWaked_7 : decode cX10_firstWaked 7 = .ok (.if_icmp .ge 21, 3) := by decide +kernel
theorem dX10_firstWaked_10 : decode cX10_firstWaked 10 = .ok (.aload_n 0, 1) := by decide +kernel
theorem dX10_firstWaked_11 : decode cX10_firstWaked 11 = .ok (.iload_n 1, 1) := by decide +kernel
theorem dX10_firstWaked_12 : decode cX10_firstWaked 12 = .ok (.invokevirtual 232, 3) := by decide +kernel
theorem dX10_firstWaked_15 : decode cX10_firstWaked 15 = .ok (.bipush (-9), 2) := by decide +kernel
theorem dX10_firstWaked_17 : decode cX10_firstWaked 17 = .ok (.if_icmp .eq 5, 3) := by decide +kernel
theorem dX10_firstWaked_20 : decode cX10_firstWaked 20 = .ok (.iload_n 1, 1) := by decide +kernel
theorem dX10_firstWaked_21 : decode cX10_firstWaked 21 = .ok (.ireturn, 1) := by decide +kernel
theorem dX10_firstWaked_22 : decode cX10_firstWaked 22 = .ok (.iinc 1 1, 3) := by decide +kernel
theorem dX10_firstWaked_25 : decode cX10_firstWaked 25 = .ok (.goto (-23), 3) := by decide +kernel
theorem dX10_firstWaked_28 : decode cX10_firstWaked 28 = .ok (.bipush (-9), 2) := by decide +kernel
theorem dX10_firstWaked_30 : decode cX10_firstWaked 30 = .ok (.ireturn, 1) := by decide +kernel
theorem dX10_waked_0 : decode cX10_waked 0 = .ok (.iload_n 1, 1) := by decide +kernel
theorem dX10_waked_1 : decode cX10_waked 1 = .ok (.iconst 0, 1) := by decide +kernel
theorem dX10_waked_2 : decode cX10_waked 2 = .ok (.iconst 1, 1) := by decide +kernel
theorem dX10_waked_3 : decode cX10_waked 3 = .ok (.invokestatic 90, 3) := by decide +kernel
theorem dX10_waked_6 : decode cX10_waked 6 = .ok (.ifCond .ne 5, 3) := by decide +kernel
theorem dX10_waked_9 : decode cX10_waked 9 = .ok (.iconst (-1), 1) := by decide +kernel
theorem dX10_waked_10 : decode cX10_waked 10 = .ok (.ireturn, 1) := by decide +kernel
theorem dX10_waked_11 : decode cX10_waked 11 = .ok (.aload_n 0, 1) := by decide +kernel
theorem dX10_waked_12 : decode cX10_waked 12 = .ok (.invokevirtual 211, 3) := by decide +kernel
theorem dX10_waked_15 : decode cX10_waked 15 = .ok (.aload_n 0, 1) := by decide +kernel
theorem dX10_waked_16 : decode cX10_waked 16 = .ok (.invokevirtual 235, 3) := by decide +kernel
theorem dX10_waked_19 : decode cX10_waked 19 = .ok (.istore_n 2, 1) := by decide +kernel
theorem dX10_waked_20 : decode cX10_waked 20 = .ok (.iload_n 2, 1) := by decide +kernel
theorem dX10_waked_21 : decode cX10_waked 21 = .ok (.bipush (-9), 2) := by decide +kernel
theorem dX10_waked_23 : decode cX10_waked 23 = .ok (.if_icmp .eq 7, 3) := by decide +kernel
theorem dX10_waked_26 : decode cX10_waked 26 = .ok (.iload_n 1, 1) := by decide +kernel
theorem dX10_waked_27 : decode cX10_waked 27 = .ok (.ifCond .ne 7, 3) := by decide +kernel
theorem dX10_waked_30 : decode cX10_waked 30 = .ok (.iload_n 2, 1) := by decide +kernel
theorem dX10_waked_31 : decode cX10_waked 31 = .ok (.goto 8, 3) := by decide +kernel
theorem dX10_waked_34 : decode cX10_waked 34 = .ok (.aload_n 0, 1) := by decide +kernel
theorem dX10_waked_35 : decode cX10_waked 35 = .ok (.iload_n 2, 1) := by decide +kernel
theorem dX10_waked_36 : decode cX10_waked 36 = .ok (.invokevirtual 232, 3) := by decide +kernel
theorem dX10_waked_39 : decode cX10_waked 39 = .ok (.ireturn, 1) := by decide +kernel
theorem dX10_through_0 : decode cX10_through 0 = .ok (.iload_n 1, 1) := by decide +kernel
theorem dX10_through_1 : decode cX10_through 1 = .ok (.iconst 0, 1) := by decide +kernel
theorem dX10_through_2 : decode cX10_through 2 = .ok (.iconst 1, 1) := by decide +kernel
theorem dX10_through_3 : decode cX10_through 3 = .ok (.invokestatic 90, 3) := by decide +kernel
theorem dX10_through_6 : decode cX10_through 6 = .ok (.ifCond .ne 5, 3) := by decide +kernel
theorem dX10_through_9 : decode cX10_through 9 = .ok (.iconst (-1), 1) := by decide +kernel
theorem dX10_through_10 : decode cX10_through 10 = .ok (.ireturn, 1) := by decide +kernel
theorem dX10_through_11 : decode cX10_through 11 = .ok (.aload_n 0, 1) := by decide +kernel
theorem dX10_through_12 : decode cX10_through 12 = .ok (.invokevirtual 211, 3) := by decide +kernel
theorem dX10_through_15 : decode cX10_through 15 = .ok (.iconst 0, 1) := by decide +kernel
theorem dX10_through_16 : decode cX10_through 16 = .ok (.istore_n 2, 1) := by decide +kernel
theorem dX10_through_17 : decode cX10_through 17 = .ok (.iconst 0, 1) := by decide +kernel
theorem dX10_through_18 : decode cX10_through 18 = .ok (.istore_n 3, 1) := by decide +kernel
theorem dX10_through_19 : decode cX10_through 19 = .ok (.iload_n 3, 1) := by decide +kernel
theorem dX10_through_20 : decode cX10_through 20 = .ok (.aload_n 0, 1) := by decide +kernel
theorem dX10_through_21 : decode cX10_through 21 = .ok (.getfield 94, 3) := by decide +kernel
theorem dX10_through_24 : decode cX10_through 24 = .ok (.if_icmp .ge 54, 3) := by decide +kernel
theorem dX10_through_27 : decode cX10_through 27 = .ok (.aload_n 0, 1) := by decide +kernel
theorem dX10_through_28 : decode cX10_through 28 = .ok (.getfield 78, 3) := by decide +kernel
theorem dX10_through_31 : decode cX10_through 31 = .ok (.iload_n 3, 1) := by decide +kernel
theorem dX10_through_32 : decode cX10_through 32 = .ok (.aload_n 0, 1) := by decide +kernel
theorem dX10_through_33 : decode cX10_through 33 = .ok (.getfield 29, 3) := by decide +kernel
theorem dX10_through_36 : decode cX10_through 36 = .ok (.bipush 6, 2) := by decide +kernel
theorem dX10_through_38 : decode cX10_through 38 = .ok (.iload_n 3, 1) := by decide +kernel
theorem dX10_through_39 : decode cX10_through 39 = .ok (.iadd, 1) := by decide +kernel
theorem dX10_through_40 : decode cX10_through 40 = .ok (.iaload, 1) := by decide +kernel
theorem dX10_through_41 : decode cX10_through 41 = .ok (.iastore, 1) := by decide +kernel
theorem dX10_through_42 : decode cX10_through 42 = .ok (.iload_n 2, 1) := by decide +kernel
theorem dX10_through_43 : decode cX10_through 43 = .ok (.aload_n 0, 1) := by decide +kernel
theorem dX10_through_44 : decode cX10_through 44 = .ok (.getfield 63, 3) := by decide +kernel
theorem dX10_through_47 : decode cX10_through 47 = .ok (.iload_n 3, 1) := by decide +kernel
theorem dX10_through_48 : decode cX10_through 48 = .ok (.iaload, 1) := by decide +kernel
theorem dX10_through_49 : decode cX10_through 49 = .ok (.bipush (-9), 2) := by decide +kernel
theorem dX10_through_51 : decode cX10_through 51 = .ok (.if_icmp .eq 18, 3) := by decide +kernel
theorem dX10_through_54 : decode cX10_through 54 = .ok (.aload_n 0, 1) := by decide +kernel
theorem dX10_through_55 : decode cX10_through 55 = .ok (.getfield 66, 3) := by decide +kernel
theorem dX10_through_58 : decode cX10_through 58 = .ok (.iload_n 3, 1) := by decide +kernel
theorem dX10_through_59 : decode cX10_through 59 = .ok (.iaload, 1) := by decide +kernel
theorem dX10_through_60 : decode cX10_through 60 = .ok (.ifCond .le 9, 3) := by decide +kernel
theorem dX10_through_63 : decode cX10_through 63 = .ok (.iconst 1, 1) := by decide +kernel
theorem dX10_through_64 : decode cX10_through 64 = .ok (.iload_n 3, 1) := by decide +kernel
theorem dX10_through_65 : decode cX10_through 65 = .ok (.ishl, 1) := by decide +kernel
theorem dX10_through_66 : decode cX10_through 66 = .ok (.goto 4, 3) := by decide +kernel
theorem dX10_through_69 : decode cX10_through 69 = .ok (.iconst 0, 1) := by decide +kernel
theorem dX10_through_70 : decode cX10_through 70 = .ok (.ior, 1) := by decide +kernel
theorem dX10_through_71 : decode cX10_through 71 = .ok (.istore_n 2, 1) := by decide +kernel
theorem dX10_through_72 : decode cX10_through 72 = .ok (.iinc 3 1, 3) := by decide +kernel
theorem dX10_through_75 : decode cX10_through 75 = .ok (.goto (-56), 3) := by decide +kernel
theorem dX10_through_78 : decode cX10_through 78 = .ok (.iconst 1, 1) := by decide +kernel
theorem dX10_through_79 : decode cX10_through 79 = .ok (.istore_n 3, 1) := by decide +kernel
theorem dX10_through_80 : decode cX10_through 80 = .ok (.iload_n 3, 1) := by decide +kernel
theorem dX10_through_81 : decode cX10_through 81 = .ok (.sipush 240, 3) := by decide +kernel
theorem dX10_through_84 : decode cX10_through 84 = .ok (.if_icmp .gt 132, 3) := by decide +kernel
theorem dX10_through_87 : decode cX10_through 87 = .ok (.aload_n 0, 1) := by decide +kernel
theorem dX10_through_88 : decode cX10_through 88 = .ok (.aload_n 0, 1) := by decide +kernel
theorem dX10_through_89 : decode cX10_through 89 = .ok (.getfield 29, 3) := by decide +kernel
theorem dX10_through_92 : decode cX10_through 92 = .ok (.iconst 1, 1) := by decide +kernel
theorem dX10_through_93 : decode cX10_through 93 = .ok (.iaload, 1) := by decide +kernel
theorem dX10_through_94 : decode cX10_through 94 = .ok (.iload_n 3, 1) := by decide +kernel
theorem dX10_through_95 : decode cX10_through 95 = .ok (.iadd, 1) := by decide +kernel
theorem dX10_through_96 : decode cX10_through 96 = .ok (.iconst 1, 1) := by decide +kernel
theorem dX10_through_97 : decode cX10_through 97 = .ok (.isub, 1) := by decide +kernel
theorem dX10_through_98 : decode cX10_through 98 = .ok (.bipush 24, 2) := by decide +kernel
theorem dX10_through_100 : decode cX10_through 100 = .ok (.irem, 1) := by decide +kernel
theorem dX10_through_101 : decode cX10_through 101 = .ok (.invokevirtual 229, 3) := by decide +kernel
theorem dX10_through_104 : decode cX10_through 104 = .ok (.bipush (-9), 2) := by decide +kernel
theorem dX10_through_106 : decode cX10_through 106 = .ok (.istore 4, 2) := by decide +kernel
theorem dX10_through_108 : decode cX10_through 108 = .ok (.aload_n 0, 1) := by decide +kernel
theorem dX10_through_109 : decode cX10_through 109 = .ok (.getfield 94, 3) := by decide +kernel
theorem dX10_through_112 : decode cX10_through 112 = .ok (.iconst 1, 1) := by decide +kernel
theorem dX10_through_113 : decode cX10_through 113 = .ok (.isub, 1) := by decide +kernel
theorem dX10_through_114 : decode cX10_through 114 = .ok (.istore 5, 2) := by decide +kernel
theorem dX10_through_116 : decode cX10_through 116 = .ok (.iload 5, 2) := by decide +kernel
theorem dX10_through_118 : decode cX10_through 118 = .ok (.ifCond .lt 74, 3) := by decide +kernel
theorem dX10_through_121 : decode cX10_through 121 = .ok (.aload_n 0, 1) := by decide +kernel
theorem dX10_through_122 : decode cX10_through 122 = .ok (.getfield 78, 3) := by decide +kernel
theorem dX10_through_125 : decode cX10_through 125 = .ok (.iload 5, 2) := by decide +kernel
theorem dX10_through_127 : decode cX10_through 127 = .ok (.dup2, 1) := by decide +kernel
theorem dX10_through_128 : decode cX10_through 128 = .ok (.iaload, 1) := by decide +kernel
theorem dX10_through_129 : decode cX10_through 129 = .ok (.aload_n 0, 1) := by decide +kernel
theorem dX10_through_130 : decode cX10_through 130 = .ok (.getfield 75, 3) := by decide +kernel
theorem dX10_through_133 : decode cX10_through 133 = .ok (.iload 5, 2) := by decide +kernel
theorem dX10_through_135 : decode cX10_through 135 = .ok (.iaload, 1) := by decide +kernel
theorem dX10_through_136 : decode cX10_through 136 = .ok (.iadd, 1) := by decide +kernel
theorem dX10_through_137 : decode cX10_through 137 = .ok (.iastore, 1) := by decide +kernel
theorem dX10_through_138 : decode cX10_through 138 = .ok (.aload_n 0, 1) := by decide +kernel
theorem dX10_through_139 : decode cX10_through 139 = .ok (.getfield 66, 3) := by decide +kernel
theorem dX10_through_142 : decode cX10_through 142 = .ok (.iload 5, 2) := by decide +kernel
theorem dX10_through_144 : decode cX10_through 144 = .ok (.aload_n 0, 1) := by decide +kernel
theorem dX10_through_145 : decode cX10_through 145 = .ok (.iload 5, 2) := by decide +kernel
theorem dX10_through_147 : decode cX10_through 147 = .ok (.aload_n 0, 1) := by decide +kernel
theorem dX10_through_148 : decode cX10_through 148 = .ok (.getfield 78, 3) := by decide +kernel
theorem dX10_through_151 : decode cX10_through 151 = .ok (.iload 5, 2) := by decide +kernel
theorem dX10_through_153 : decode cX10_through 153 = .ok (.iaload, 1) := by decide +kernel
theorem dX10_through_154 : decode cX10_through 154 = .ok (.invokevirtual 180, 3) := by decide +kernel
theorem dX10_through_157 : decode cX10_through 157 = .ok (.iastore, 1) := by decide +kernel
theorem dX10_through_158 : decode cX10_through 158 = .ok (.iload_n 2, 1) := by decide +kernel
theorem dX10_through_159 : decode cX10_through 159 = .ok (.iload 5, 2) := by decide +kernel
theorem dX10_through_161 : decode cX10_through 161 = .ok (.invokestatic 238, 3) := by decide +kernel
theorem dX10_through_164 : decode cX10_through 164 = .ok (.ifCond .eq 18, 3) := by decide +kernel
theorem dX10_through_167 : decode cX10_through 167 = .ok (.aload_n 0, 1) := by decide +kernel
theorem dX10_through_168 : decode cX10_through 168 = .ok (.getfield 66, 3) := by decide +kernel
theorem dX10_through_171 : decode cX10_through 171 = .ok (.iload 5, 2) := by decide +kernel
theorem dX10_through_173 : decode cX10_through 173 = .ok (.iaload, 1) := by decide +kernel
theorem dX10_through_174 : decode cX10_through 174 = .ok (.ifCond .ne 8, 3) := by decide +kernel
theorem dX10_through_177 : decode cX10_through 177 = .ok (.iload 5, 2) := by decide +kernel
theorem dX10_through_179 : decode cX10_through 179 = .ok (.goto 5, 3) := by decide +kernel
theorem dX10_through_182 : decode cX10_through 182 = .ok (.iload 4, 2) := by decide +kernel
theorem dX10_through_184 : decode cX10_through 184 = .ok (.istore 4, 2) := by decide +kernel
theorem dX10_through_186 : decode cX10_through 186 = .ok (.iinc 5 (-1), 3) := by decide +kernel
theorem dX10_through_189 : decode cX10_through 189 = .ok (.goto (-73), 3) := by decide +kernel
theorem dX10_through_192 : decode cX10_through 192 = .ok (.iload 4, 2) := by decide +kernel
theorem dX10_through_194 : decode cX10_through 194 = .ok (.bipush (-9), 2) := by decide +kernel
theorem dX10_through_196 : decode cX10_through 196 = .ok (.if_icmp .eq 14, 3) := by decide +kernel
theorem dX10_through_199 : decode cX10_through 199 = .ok (.iload_n 1, 1) := by decide +kernel
theorem dX10_through_200 : decode cX10_through 200 = .ok (.ifCond .ne 7, 3) := by decide +kernel
theorem dX10_through_203 : decode cX10_through 203 = .ok (.iload_n 3, 1) := by decide +kernel
theorem dX10_through_204 : decode cX10_through 204 = .ok (.goto 5, 3) := by decide +kernel
theorem dX10_through_207 : decode cX10_through 207 = .ok (.iload 4, 2) := by decide +kernel
theorem dX10_through_209 : decode cX10_through 209 = .ok (.ireturn, 1) := by decide +kernel
theorem dX10_through_210 : decode cX10_through 210 = .ok (.iinc 3 1, 3) := by decide +kernel
theorem dX10_through_213 : decode cX10_through 213 = .ok (.goto (-133), 3) := by decide +kernel
theorem dX10_through_216 : decode cX10_through 216 = .ok (.bipush (-9), 2) := by decide +kernel
theorem dX10_through_218 : decode cX10_through 218 = .ok (.ireturn, 1) := by decide +kernel
theorem dX10_comesFirst_0 : decode cX10_comesFirst 0 = .ok (.iconst 0, 1) := by decide +kernel
theorem dX10_comesFirst_1 : decode cX10_comesFirst 1 = .ok (.istore_n 1, 1) := by decide +kernel
theorem dX10_comesFirst_2 : decode cX10_comesFirst 2 = .ok (.iload_n 1, 1) := by decide +kernel
theorem dX10_comesFirst_3 : decode cX10_comesFirst 3 = .ok (.aload_n 0, 1) := by decide +kernel
theorem dX10_comesFirst_4 : decode cX10_comesFirst 4 = .ok (.getfield 94, 3) := by decide +kernel
theorem dX10_comesFirst_7 : decode cX10_comesFirst 7 = .ok (.if_icmp .ge 69, 3) := by decide +kernel
theorem dX10_comesFirst_10 : decode cX10_comesFirst 10 = .ok (.aload_n 0, 1) := by decide +kernel
theorem dX10_comesFirst_11 : decode cX10_comesFirst 11 = .ok (.getfield 63, 3) := by decide +kernel
theorem dX10_comesFirst_14 : decode cX10_comesFirst 14 = .ok (.iload_n 1, 1) := by decide +kernel
theorem dX10_comesFirst_15 : decode cX10_comesFirst 15 = .ok (.iaload, 1) := by decide +kernel
theorem dX10_comesFirst_16 : decode cX10_comesFirst 16 = .ok (.bipush (-9), 2) := by decide +kernel
theorem dX10_comesFirst_18 : decode cX10_comesFirst 18 = .ok (.if_icmp .ne 7, 3) := by decide +kernel
theorem dX10_comesFirst_21 : decode cX10_comesFirst 21 = .ok (.iconst (-1), 1) := by decide +kernel
theorem dX10_comesFirst_22 : decode cX10_comesFirst 22 = .ok (.goto 9, 3) := by decide +kernel
theorem dX10_comesFirst_25 : decode cX10_comesFirst 25 = .ok (.aload_n 0, 1) := by decide +kernel
theorem dX10_comesFirst_26 : decode cX10_comesFirst 26 = .ok (.getfield 63, 3) := by decide +kernel
theorem dX10_comesFirst_29 : decode cX10_comesFirst 29 = .ok (.iload_n 1, 1) := by decide +kernel
theorem dX10_comesFirst_30 : decode cX10_comesFirst 30 = .ok (.iaload, 1) := by decide +kernel
theorem dX10_comesFirst_31 : decode cX10_comesFirst 31 = .ok (.istore_n 2, 1) := by decide +kernel
theorem dX10_comesFirst_32 : decode cX10_comesFirst 32 = .ok (.aload_n 0, 1) := by decide +kernel
theorem dX10_comesFirst_33 : decode cX10_comesFirst 33 = .ok (.getfield 81, 3) := by decide +kernel
theorem dX10_comesFirst_36 : decode cX10_comesFirst 36 = .ok (.iload_n 1, 1) := by decide +kernel
theorem dX10_comesFirst_37 : decode cX10_comesFirst 37 = .ok (.iaload, 1) := by decide +kernel
theorem dX10_comesFirst_38 : decode cX10_comesFirst 38 = .ok (.bipush (-9), 2) := by decide +kernel
theorem dX10_comesFirst_40 : decode cX10_comesFirst 40 = .ok (.if_icmp .ne 7, 3) := by decide +kernel
theorem dX10_comesFirst_43 : decode cX10_comesFirst 43 = .ok (.iconst (-1), 1) := by decide +kernel
theorem dX10_comesFirst_44 : decode cX10_comesFirst 44 = .ok (.goto 9, 3) := by decide +kernel
theorem dX10_comesFirst_47 : decode cX10_comesFirst 47 = .ok (.aload_n 0, 1) := by decide +kernel
theorem dX10_comesFirst_48 : decode cX10_comesFirst 48 = .ok (.getfield 81, 3) := by decide +kernel
theorem dX10_comesFirst_51 : decode cX10_comesFirst 51 = .ok (.iload_n 1, 1) := by decide +kernel
theorem dX10_comesFirst_52 : decode cX10_comesFirst 52 = .ok (.iaload, 1) := by decide +kernel
theorem dX10_comesFirst_53 : decode cX10_comesFirst 53 = .ok (.istore_n 3, 1) := by decide +kernel
theorem dX10_comesFirst_54 : decode cX10_comesFirst 54 = .ok (.iload_n 2, 1) := by decide +kernel
theorem dX10_comesFirst_55 : decode cX10_comesFirst 55 = .ok (.iload_n 3, 1) := by decide +kernel
theorem dX10_comesFirst_56 : decode cX10_comesFirst 56 = .ok (.if_icmp .eq 14, 3) := by decide +kernel
theorem dX10_comesFirst_59 : decode cX10_comesFirst 59 = .ok (.iload_n 2, 1) := by decide +kernel
theorem dX10_comesFirst_60 : decode cX10_comesFirst 60 = .ok (.iload_n 3, 1) := by decide +kernel
theorem dX10_comesFirst_61 : decode cX10_comesFirst 61 = .ok (.if_icmp .ge 7, 3) := by decide +kernel
theorem dX10_comesFirst_64 : decode cX10_comesFirst 64 = .ok (.iconst 1, 1) := by decide +kernel
theorem dX10_comesFirst_65 : decode cX10_comesFirst 65 = .ok (.goto 4, 3) := by decide +kernel
theorem dX10_comesFirst_68 : decode cX10_comesFirst 68 = .ok (.iconst 0, 1) := by decide +kernel
theorem dX10_comesFirst_69 : decode cX10_comesFirst 69 = .ok (.ireturn, 1) := by decide +kernel
theorem dX10_comesFirst_70 : decode cX10_comesFirst 70 = .ok (.iinc 1 1, 3) := by decide +kernel
theorem dX10_comesFirst_73 : decode cX10_comesFirst 73 = .ok (.goto (-71), 3) := by decide +kernel
theorem dX10_comesFirst_76 : decode cX10_comesFirst 76 = .ok (.iconst 0, 1) := by decide +kernel
theorem dX10_comesFirst_77 : decode cX10_comesFirst 77 = .ok (.ireturn, 1) := by decide +kernel
theorem dX10_offers_0 : decode cX10_offers 0 = .ok (.aload_n 0, 1) := by decide +kernel
theorem dX10_offers_1 : decode cX10_offers 1 = .ok (.getfield 241, 3) := by decide +kernel
theorem dX10_offers_4 : decode cX10_offers 4 = .ok (.bipush (-9), 2) := by decide +kernel
theorem dX10_offers_6 : decode cX10_offers 6 = .ok (.if_icmp .eq 26, 3) := by decide +kernel
theorem dX10_offers_9 : decode cX10_offers 9 = .ok (.iload_n 1, 1) := by decide +kernel
theorem dX10_offers_10 : decode cX10_offers 10 = .ok (.aload_n 0, 1) := by decide +kernel
theorem dX10_offers_11 : decode cX10_offers 11 = .ok (.getfield 241, 3) := by decide +kernel
theorem dX10_offers_14 : decode cX10_offers 14 = .ok (.if_icmp .lt 18, 3) := by decide +kernel
theorem dX10_offers_17 : decode cX10_offers 17 = .ok (.iload_n 1, 1) := by decide +kernel
theorem dX10_offers_18 : decode cX10_offers 18 = .ok (.aload_n 0, 1) := by decide +kernel
theorem dX10_offers_19 : decode cX10_offers 19 = .ok (.getfield 241, 3) := by decide +kernel
theorem dX10_offers_22 : decode cX10_offers 22 = .ok (.if_icmp .ne 14, 3) := by decide +kernel
theorem dX10_offers_25 : decode cX10_offers 25 = .ok (.aload_n 0, 1) := by decide +kernel
theorem dX10_offers_26 : decode cX10_offers 26 = .ok (.invokevirtual 244, 3) := by decide +kernel
theorem dX10_offers_29 : decode cX10_offers 29 = .ok (.ifCond .eq 7, 3) := by decide +kernel
theorem dX10_offers_32 : decode cX10_offers 32 = .ok (.iconst 1, 1) := by decide +kernel
theorem dX10_offers_33 : decode cX10_offers 33 = .ok (.goto 4, 3) := by decide +kernel
theorem dX10_offers_36 : decode cX10_offers 36 = .ok (.iconst 0, 1) := by decide +kernel
theorem dX10_offers_37 : decode cX10_offers 37 = .ok (.istore_n 2, 1) := by decide +kernel
theorem dX10_offers_38 : decode cX10_offers 38 = .ok (.iload_n 2, 1) := by decide +kernel
theorem dX10_offers_39 : decode cX10_offers 39 = .ok (.ifCond .eq 42, 3) := by decide +kernel
theorem dX10_offers_42 : decode cX10_offers 42 = .ok (.aload_n 0, 1) := by decide +kernel
theorem dX10_offers_43 : decode cX10_offers 43 = .ok (.invokevirtual 235, 3) := by decide +kernel
theorem dX10_offers_46 : decode cX10_offers 46 = .ok (.bipush (-9), 2) := by decide +kernel
theorem dX10_offers_48 : decode cX10_offers 48 = .ok (.if_icmp .ne 33, 3) := by decide +kernel
theorem dX10_offers_51 : decode cX10_offers 51 = .ok (.aload_n 0, 1) := by decide +kernel
theorem dX10_offers_52 : decode cX10_offers 52 = .ok (.iload_n 1, 1) := by decide +kernel
theorem dX10_offers_53 : decode cX10_offers 53 = .ok (.putfield 241, 3) := by decide +kernel
theorem dX10_offers_56 : decode cX10_offers 56 = .ok (.iconst 0, 1) := by decide +kernel
theorem dX10_offers_57 : decode cX10_offers 57 = .ok (.istore_n 3, 1) := by decide +kernel
theorem dX10_offers_58 : decode cX10_offers 58 = .ok (.iload_n 3, 1) := by decide +kernel
theorem dX10_offers_59 : decode cX10_offers 59 = .ok (.iconst 4, 1) := by decide +kernel
theorem dX10_offers_60 : decode cX10_offers 60 = .ok (.if_icmp .ge 21, 3) := by decide +kernel
theorem dX10_offers_63 : decode cX10_offers 63 = .ok (.aload_n 0, 1) := by decide +kernel
theorem dX10_offers_64 : decode cX10_offers 64 = .ok (.getfield 81, 3) := by decide +kernel
theorem dX10_offers_67 : decode cX10_offers 67 = .ok (.iload_n 3, 1) := by decide +kernel
theorem dX10_offers_68 : decode cX10_offers 68 = .ok (.aload_n 0, 1) := by decide +kernel
theorem dX10_offers_69 : decode cX10_offers 69 = .ok (.getfield 63, 3) := by decide +kernel
theorem dX10_offers_72 : decode cX10_offers 72 = .ok (.iload_n 3, 1) := by decide +kernel
theorem dX10_offers_73 : decode cX10_offers 73 = .ok (.iaload, 1) := by decide +kernel
theorem dX10_offers_74 : decode cX10_offers 74 = .ok (.iastore, 1) := by decide +kernel
theorem dX10_offers_75 : decode cX10_offers 75 = .ok (.iinc 3 1, 3) := by decide +kernel
theorem dX10_offers_78 : decode cX10_offers 78 = .ok (.goto (-20), 3) := by decide +kernel
theorem dX10_offers_81 : decode cX10_offers 81 = .ok (.return_, 1) := by decide +kernel
theorem dX10_offersMore_0 : decode cX10_offersMore 0 = .ok (.iconst 0, 1) := by decide +kernel
theorem dX10_offersMore_1 : decode cX10_offersMore 1 = .ok (.istore 4, 2) := by decide +kernel
theorem dX10_offersMore_3 : decode cX10_offersMore 3 = .ok (.iload 4, 2) := by decide +kernel
theorem dX10_offersMore_5 : decode cX10_offersMore 5 = .ok (.aload_n 0, 1) := by decide +kernel
theorem dX10_offersMore_6 : decode cX10_offersMore 6 = .ok (.getfield 7, 3) := by decide +kernel
theorem dX10_offersMore_9 : decode cX10_offersMore 9 = .ok (.aload_n 0, 1) := by decide +kernel
theorem dX10_offersMore_10 : decode cX10_offersMore 10 = .ok (.getfield 13, 3) := by decide +kernel
theorem dX10_offersMore_13 : decode cX10_offersMore 13 = .ok (.imul, 1) := by decide +kernel
theorem dX10_offersMore_14 : decode cX10_offersMore 14 = .ok (.if_icmp .ge 44, 3) := by decide +kernel
theorem dX10_offersMore_17 : decode cX10_offersMore 17 = .ok (.aload_n 0, 1) := by decide +kernel
theorem dX10_offersMore_18 : decode cX10_offersMore 18 = .ok (.invokevirtual 211, 3) := by decide +kernel
theorem dX10_offersMore_21 : decode cX10_offersMore 21 = .ok (.iload_n 3, 1) := by decide +kernel
theorem dX10_offersMore_22 : decode cX10_offersMore 22 = .ok (.ifCond .eq 30, 3) := by decide +kernel
theorem dX10_offersMore_25 : decode cX10_offersMore 25 = .ok (.aload_n 0, 1) := by decide +kernel
theorem dX10_offersMore_26 : decode cX10_offersMore 26 = .ok (.iload_n 1, 1) := by decide +kernel
theorem dX10_offersMore_27 : decode cX10_offersMore 27 = .ok (.iload 4, 2) := by decide +kernel
theorem dX10_offersMore_29 : decode cX10_offersMore 29 = .ok (.invokevirtual 220, 3) := by decide +kernel
theorem dX10_offersMore_32 : decode cX10_offersMore 32 = .ok (.ifCond .eq 20, 3) := by decide +kernel
theorem dX10_offersMore_35 : decode cX10_offersMore 35 = .ok (.aload_n 0, 1) := by decide +kernel
theorem dX10_offersMore_36 : decode cX10_offersMore 36 = .ok (.getfield 63, 3) := by decide +kernel
theorem dX10_offersMore_39 : decode cX10_offersMore 39 = .ok (.iload_n 1, 1) := by decide +kernel
theorem dX10_offersMore_40 : decode cX10_offersMore 40 = .ok (.iload 4, 2) := by decide +kernel
theorem dX10_offersMore_42 : decode cX10_offersMore 42 = .ok (.iastore, 1) := by decide +kernel
theorem dX10_offersMore_43 : decode cX10_offersMore 43 = .ok (.aload_n 0, 1) := by decide +kernel
theorem dX10_offersMore_44 : decode cX10_offersMore 44 = .ok (.invokevirtual 184, 3) := by decide +kernel
theorem dX10_offersMore_47 : decode cX10_offersMore 47 = .ok (.aload_n 0, 1) := by decide +kernel
theorem dX10_offersMore_48 : decode cX10_offersMore 48 = .ok (.iload_n 2, 1) := by decide +kernel
theorem dX10_offersMore_49 : decode cX10_offersMore 49 = .ok (.invokevirtual 248, 3) := by decide +kernel
theorem dX10_offersMore_52 : decode cX10_offersMore 52 = .ok (.iinc 4 1, 3) := by decide +kernel
theorem dX10_offersMore_55 : decode cX10_offersMore 55 = .ok (.goto (-52), 3) := by decide +kernel
theorem dX10_offersMore_58 : decode cX10_offersMore 58 = .ok (.return_, 1) := by decide +kernel
theorem dX10_offersTwo_0 : decode cX10_offersTwo 0 = .ok (.aload_n 0, 1) := by decide +kernel
theorem dX10_offersTwo_1 : decode cX10_offersTwo 1 = .ok (.getfield 7, 3) := by decide +kernel
theorem dX10_offersTwo_4 : decode cX10_offersTwo 4 = .ok (.aload_n 0, 1) := by decide +kernel
theorem dX10_offersTwo_5 : decode cX10_offersTwo 5 = .ok (.getfield 13, 3) := by decide +kernel
theorem dX10_offersTwo_8 : decode cX10_offersTwo 8 = .ok (.imul, 1) := by decide +kernel
theorem dX10_offersTwo_9 : decode cX10_offersTwo 9 = .ok (.istore_n 3, 1) := by decide +kernel
theorem dX10_offersTwo_10 : decode cX10_offersTwo 10 = .ok (.iconst 0, 1) := by decide +kernel
theorem dX10_offersTwo_11 : decode cX10_offersTwo 11 = .ok (.istore 4, 2) := by decide +kernel
theorem dX10_offersTwo_13 : decode cX10_offersTwo 13 = .ok (.iload 4, 2) := by decide +kernel
theorem dX10_offersTwo_15 : decode cX10_offersTwo 15 = .ok (.iload_n 3, 1) := by decide +kernel
theorem dX10_offersTwo_16 : decode cX10_offersTwo 16 = .ok (.iload_n 3, 1) := by decide +kernel
theorem dX10_offersTwo_17 : decode cX10_offersTwo 17 = .ok (.imul, 1) := by decide +kernel
theorem dX10_offersTwo_18 : decode cX10_offersTwo 18 = .ok (.if_icmp .ge 90, 3) := by decide +kernel
theorem dX10_offersTwo_21 : decode cX10_offersTwo 21 = .ok (.aload_n 0, 1) := by decide +kernel
theorem dX10_offersTwo_22 : decode cX10_offersTwo 22 = .ok (.invokevirtual 211, 3) := by decide +kernel
theorem dX10_offersTwo_25 : decode cX10_offersTwo 25 = .ok (.aload_n 0, 1) := by decide +kernel
theorem dX10_offersTwo_26 : decode cX10_offersTwo 26 = .ok (.iload_n 1, 1) := by decide +kernel
theorem dX10_offersTwo_27 : decode cX10_offersTwo 27 = .ok (.iload 4, 2) := by decide +kernel
theorem dX10_offersTwo_29 : decode cX10_offersTwo 29 = .ok (.iload_n 3, 1) := by decide +kernel
theorem dX10_offersTwo_30 : decode cX10_offersTwo 30 = .ok (.idiv, 1) := by decide +kernel
theorem dX10_offersTwo_31 : decode cX10_offersTwo 31 = .ok (.invokevirtual 220, 3) := by decide +kernel
theorem dX10_offersTwo_34 : decode cX10_offersTwo 34 = .ok (.ifCond .eq 68, 3) := by decide +kernel
theorem dX10_offersTwo_37 : decode cX10_offersTwo 37 = .ok (.aload_n 0, 1) := by decide +kernel
theorem dX10_offersTwo_38 : decode cX10_offersTwo 38 = .ok (.getfield 63, 3) := by decide +kernel
theorem dX10_offersTwo_41 : decode cX10_offersTwo 41 = .ok (.iload_n 1, 1) := by decide +kernel
theorem dX10_offersTwo_42 : decode cX10_offersTwo 42 = .ok (.iload 4, 2) := by decide +kernel
theorem dX10_offersTwo_44 : decode cX10_offersTwo 44 = .ok (.iload_n 3, 1) := by decide +kernel
theorem dX10_offersTwo_45 : decode cX10_offersTwo 45 = .ok (.idiv, 1) := by decide +kernel
theorem dX10_offersTwo_46 : decode cX10_offersTwo 46 = .ok (.iastore, 1) := by decide +kernel
theorem dX10_offersTwo_47 : decode cX10_offersTwo 47 = .ok (.aload_n 0, 1) := by decide +kernel
theorem dX10_offersTwo_48 : decode cX10_offersTwo 48 = .ok (.invokevirtual 184, 3) := by decide +kernel
theorem dX10_offersTwo_51 : decode cX10_offersTwo 51 = .ok (.aload_n 0, 1) := by decide +kernel
theorem dX10_offersTwo_52 : decode cX10_offersTwo 52 = .ok (.iload_n 2, 1) := by decide +kernel
theorem dX10_offersTwo_53 : decode cX10_offersTwo 53 = .ok (.iload 4, 2) := by decide +kernel
theorem dX10_offersTwo_55 : decode cX10_offersTwo 55 = .ok (.iload_n 3, 1) := by decide +kernel
theorem dX10_offersTwo_56 : decode cX10_offersTwo 56 = .ok (.irem, 1) := by decide +kernel
theorem dX10_offersTwo_57 : decode cX10_offersTwo 57 = .ok (.invokevirtual 220, 3) := by decide +kernel
theorem dX10_offersTwo_60 : decode cX10_offersTwo 60 = .ok (.ifCond .eq 42, 3) := by decide +kernel
theorem dX10_offersTwo_63 : decode cX10_offersTwo 63 = .ok (.aload_n 0, 1) := by decide +kernel
theorem dX10_offersTwo_64 : decode cX10_offersTwo 64 = .ok (.getfield 63, 3) := by decide +kernel
theorem dX10_offersTwo_67 : decode cX10_offersTwo 67 = .ok (.iload_n 2, 1) := by decide +kernel
theorem dX10_offersTwo_68 : decode cX10_offersTwo 68 = .ok (.iload 4, 2) := by decide +kernel
theorem dX10_offersTwo_70 : decode cX10_offersTwo 70 = .ok (.iload_n 3, 1) := by decide +kernel
theorem dX10_offersTwo_71 : decode cX10_offersTwo 71 = .ok (.irem, 1) := by decide +kernel
theorem dX10_offersTwo_72 : decode cX10_offersTwo 72 = .ok (.iastore, 1) := by decide +kernel
theorem dX10_offersTwo_73 : decode cX10_offersTwo 73 = .ok (.aload_n 0, 1) := by decide +kernel
theorem dX10_offersTwo_74 : decode cX10_offersTwo 74 = .ok (.invokevirtual 184, 3) := by decide +kernel
theorem dX10_offersTwo_77 : decode cX10_offersTwo 77 = .ok (.aload_n 0, 1) := by decide +kernel
theorem dX10_offersTwo_78 : decode cX10_offersTwo 78 = .ok (.aload_n 0, 1) := by decide +kernel
theorem dX10_offersTwo_79 : decode cX10_offersTwo 79 = .ok (.getfield 23, 3) := by decide +kernel
theorem dX10_offersTwo_82 : decode cX10_offersTwo 82 = .ok (.iconst 4, 1) := by decide +kernel
theorem dX10_offersTwo_83 : decode cX10_offersTwo 83 = .ok (.iload_n 1, 1) := by decide +kernel
theorem dX10_offersTwo_84 : decode cX10_offersTwo 84 = .ok (.imul, 1) := by decide +kernel
theorem dX10_offersTwo_85 : decode cX10_offersTwo 85 = .ok (.iconst 3, 1) := by decide +kernel
theorem dX10_offersTwo_86 : decode cX10_offersTwo 86 = .ok (.iadd, 1) := by decide +kernel
theorem dX10_offersTwo_87 : decode cX10_offersTwo 87 = .ok (.iaload, 1) := by decide +kernel
theorem dX10_offersTwo_88 : decode cX10_offersTwo 88 = .ok (.aload_n 0, 1) := by decide +kernel
theorem dX10_offersTwo_89 : decode cX10_offersTwo 89 = .ok (.getfield 23, 3) := by decide +kernel
theorem dX10_offersTwo_92 : decode cX10_offersTwo 92 = .ok (.iconst 4, 1) := by decide +kernel
theorem dX10_offersTwo_93 : decode cX10_offersTwo 93 = .ok (.iload_n 2, 1) := by decide +kernel
theorem dX10_offersTwo_94 : decode cX10_offersTwo 94 = .ok (.imul, 1) := by decide +kernel
theorem dX10_offersTwo_95 : decode cX10_offersTwo 95 = .ok (.iconst 3, 1) := by decide +kernel
theorem dX10_offersTwo_96 : decode cX10_offersTwo 96 = .ok (.iadd, 1) := by decide +kernel
theorem dX10_offersTwo_97 : decode cX10_offersTwo 97 = .ok (.iaload, 1) := by decide +kernel
theorem dX10_offersTwo_98 : decode cX10_offersTwo 98 = .ok (.iadd, 1) := by decide +kernel
theorem dX10_offersTwo_99 : decode cX10_offersTwo 99 = .ok (.invokevirtual 248, 3) := by decide +kernel
theorem dX10_offersTwo_102 : decode cX10_offersTwo 102 = .ok (.iinc 4 1, 3) := by decide +kernel
theorem dX10_offersTwo_105 : decode cX10_offersTwo 105 = .ok (.goto (-92), 3) := by decide +kernel
theorem dX10_offersTwo_108 : decode cX10_offersTwo 108 = .ok (.return_, 1) := by decide +kernel
theorem dX10_findBought_0 : decode cX10_findBought 0 = .ok (.aload_n 0, 1) := by decide +kernel
theorem dX10_findBought_1 : decode cX10_findBought 1 = .ok (.bipush (-9), 2) := by decide +kernel
theorem dX10_findBought_3 : decode cX10_findBought 3 = .ok (.putfield 241, 3) := by decide +kernel
theorem dX10_findBought_6 : decode cX10_findBought 6 = .ok (.aload_n 0, 1) := by decide +kernel
theorem dX10_findBought_7 : decode cX10_findBought 7 = .ok (.invokevirtual 211, 3) := by decide +kernel
theorem dX10_findBought_10 : decode cX10_findBought 10 = .ok (.aload_n 0, 1) := by decide +kernel
theorem dX10_findBought_11 : decode cX10_findBought 11 = .ok (.iconst 0, 1) := by decide +kernel
theorem dX10_findBought_12 : decode cX10_findBought 12 = .ok (.invokevirtual 248, 3) := by decide +kernel
theorem dX10_findBought_15 : decode cX10_findBought 15 = .ok (.iconst 0, 1) := by decide +kernel
theorem dX10_findBought_16 : decode cX10_findBought 16 = .ok (.istore_n 1, 1) := by decide +kernel
theorem dX10_findBought_17 : decode cX10_findBought 17 = .ok (.iload_n 1, 1) := by decide +kernel
theorem dX10_findBought_18 : decode cX10_findBought 18 = .ok (.aload_n 0, 1) := by decide +kernel
theorem dX10_findBought_19 : decode cX10_findBought 19 = .ok (.getfield 94, 3) := by decide +kernel
theorem dX10_findBought_22 : decode cX10_findBought 22 = .ok (.if_icmp .ge 92, 3) := by decide +kernel
theorem dX10_findBought_25 : decode cX10_findBought 25 = .ok (.aload_n 0, 1) := by decide +kernel
theorem dX10_findBought_26 : decode cX10_findBought 26 = .ok (.iload_n 1, 1) := by decide +kernel
theorem dX10_findBought_27 : decode cX10_findBought 27 = .ok (.aload_n 0, 1) := by decide +kernel
theorem dX10_findBought_28 : decode cX10_findBought 28 = .ok (.getfield 23, 3) := by decide +kernel
theorem dX10_findBought_31 : decode cX10_findBought 31 = .ok (.iconst 4, 1) := by decide +kernel
theorem dX10_findBought_32 : decode cX10_findBought 32 = .ok (.iload_n 1, 1) := by decide +kernel
theorem dX10_findBought_33 : decode cX10_findBought 33 = .ok (.imul, 1) := by decide +kernel
theorem dX10_findBought_34 : decode cX10_findBought 34 = .ok (.iconst 3, 1) := by decide +kernel
theorem dX10_findBought_35 : decode cX10_findBought 35 = .ok (.iadd, 1) := by decide +kernel
theorem dX10_findBought_36 : decode cX10_findBought 36 = .ok (.iaload, 1) := by decide +kernel
theorem dX10_findBought_37 : decode cX10_findBought 37 = .ok (.aload_n 0, 1) := by decide +kernel
theorem dX10_findBought_38 : decode cX10_findBought 38 = .ok (.getfield 29, 3) := by decide +kernel
theorem dX10_findBought_41 : decode cX10_findBought 41 = .ok (.iconst 2, 1) := by decide +kernel
theorem dX10_findBought_42 : decode cX10_findBought 42 = .ok (.iload_n 1, 1) := by decide +kernel
theorem dX10_findBought_43 : decode cX10_findBought 43 = .ok (.iadd, 1) := by decide +kernel
theorem dX10_findBought_44 : decode cX10_findBought 44 = .ok (.iaload, 1) := by decide +kernel
theorem dX10_findBought_45 : decode cX10_findBought 45 = .ok (.bipush (-9), 2) := by decide +kernel
theorem dX10_findBought_47 : decode cX10_findBought 47 = .ok (.if_icmp .ne 7, 3) := by decide +kernel
theorem dX10_findBought_50 : decode cX10_findBought 50 = .ok (.iconst 1, 1) := by decide +kernel
theorem dX10_findBought_51 : decode cX10_findBought 51 = .ok (.goto 4, 3) := by decide +kernel
theorem dX10_findBought_54 : decode cX10_findBought 54 = .ok (.iconst 0, 1) := by decide +kernel
theorem dX10_findBought_55 : decode cX10_findBought 55 = .ok (.invokevirtual 251, 3) := by decide +kernel
theorem dX10_findBought_58 : decode cX10_findBought 58 = .ok (.iload_n 1, 1) := by decide +kernel
theorem dX10_findBought_59 : decode cX10_findBought 59 = .ok (.iconst 1, 1) := by decide +kernel
theorem dX10_findBought_60 : decode cX10_findBought 60 = .ok (.iadd, 1) := by decide +kernel
theorem dX10_findBought_61 : decode cX10_findBought 61 = .ok (.istore_n 2, 1) := by decide +kernel
theorem dX10_findBought_62 : decode cX10_findBought 62 = .ok (.iload_n 2, 1) := by decide +kernel
theorem dX10_findBought_63 : decode cX10_findBought 63 = .ok (.aload_n 0, 1) := by decide +kernel
theorem dX10_findBought_64 : decode cX10_findBought 64 = .ok (.getfield 94, 3) := by decide +kernel
theorem dX10_findBought_67 : decode cX10_findBought 67 = .ok (.if_icmp .ge 41, 3) := by decide +kernel
theorem dX10_findBought_70 : decode cX10_findBought 70 = .ok (.aload_n 0, 1) := by decide +kernel
theorem dX10_findBought_71 : decode cX10_findBought 71 = .ok (.getfield 29, 3) := by decide +kernel
theorem dX10_findBought_74 : decode cX10_findBought 74 = .ok (.iconst 2, 1) := by decide +kernel
theorem dX10_findBought_75 : decode cX10_findBought 75 = .ok (.iload_n 1, 1) := by decide +kernel
theorem dX10_findBought_76 : decode cX10_findBought 76 = .ok (.iadd, 1) := by decide +kernel
theorem dX10_findBought_77 : decode cX10_findBought 77 = .ok (.iaload, 1) := by decide +kernel
theorem dX10_findBought_78 : decode cX10_findBought 78 = .ok (.bipush (-9), 2) := by decide +kernel
theorem dX10_findBought_80 : decode cX10_findBought 80 = .ok (.if_icmp .ne 22, 3) := by decide +kernel
theorem dX10_findBought_83 : decode cX10_findBought 83 = .ok (.aload_n 0, 1) := by decide +kernel
theorem dX10_findBought_84 : decode cX10_findBought 84 = .ok (.getfield 29, 3) := by decide +kernel
theorem dX10_findBought_87 : decode cX10_findBought 87 = .ok (.iconst 2, 1) := by decide +kernel
theorem dX10_findBought_88 : decode cX10_findBought 88 = .ok (.iload_n 2, 1) := by decide +kernel
theorem dX10_findBought_89 : decode cX10_findBought 89 = .ok (.iadd, 1) := by decide +kernel
theorem dX10_findBought_90 : decode cX10_findBought 90 = .ok (.iaload, 1) := by decide +kernel
theorem dX10_findBought_91 : decode cX10_findBought 91 = .ok (.bipush (-9), 2) := by decide +kernel
theorem dX10_findBought_93 : decode cX10_findBought 93 = .ok (.if_icmp .ne 9, 3) := by decide +kernel
theorem dX10_findBought_96 : decode cX10_findBought 96 = .ok (.aload_n 0, 1) := by decide +kernel
theorem dX10_findBought_97 : decode cX10_findBought 97 = .ok (.iload_n 1, 1) := by decide +kernel
theorem dX10_findBought_98 : decode cX10_findBought 98 = .ok (.iload_n 2, 1) := by decide +kernel
theorem dX10_findBought_99 : decode cX10_findBought 99 = .ok (.invokevirtual 255, 3) := by decide +kernel
theorem dX10_findBought_102 : decode cX10_findBought 102 = .ok (.iinc 2 1, 3) := by decide +kernel
theorem dX10_findBought_105 : decode cX10_findBought 105 = .ok (.goto (-43), 3) := by decide +kernel
theorem dX10_findBought_108 : decode cX10_findBought 108 = .ok (.iinc 1 1, 3) := by decide +kernel
theorem dX10_findBought_111 : decode cX10_findBought 111 = .ok (.goto (-94), 3) := by decide +kernel
theorem dX10_findBought_114 : decode cX10_findBought 114 = .ok (.return_, 1) := by decide +kernel
theorem dX10_toBuy_0 : decode cX10_toBuy 0 = .ok (.iload_n 1, 1) := by decide +kernel
theorem dX10_toBuy_1 : decode cX10_toBuy 1 = .ok (.bipush (-9), 2) := by decide +kernel
theorem dX10_toBuy_3 : decode cX10_toBuy 3 = .ok (.if_icmp .eq 26, 3) := by decide +kernel
theorem dX10_toBuy_6 : decode cX10_toBuy 6 = .ok (.aload_n 0, 1) := by decide +kernel
theorem dX10_toBuy_7 : decode cX10_toBuy 7 = .ok (.iload_n 1, 1) := by decide +kernel
theorem dX10_toBuy_8 : decode cX10_toBuy 8 = .ok (.invokevirtual 204, 3) := by decide +kernel
theorem dX10_toBuy_11 : decode cX10_toBuy 11 = .ok (.ifCond .eq 16, 3) := by decide +kernel
theorem dX10_toBuy_14 : decode cX10_toBuy 14 = .ok (.aload_n 0, 1) := by decide +kernel
theorem dX10_toBuy_15 : decode cX10_toBuy 15 = .ok (.getfield 29, 3) := by decide +kernel
theorem dX10_toBuy_18 : decode cX10_toBuy 18 = .ok (.iconst 2, 1) := by decide +kernel
theorem dX10_toBuy_19 : decode cX10_toBuy 19 = .ok (.iload_n 1, 1) := by decide +kernel
theorem dX10_toBuy_20 : decode cX10_toBuy 20 = .ok (.iadd, 1) := by decide +kernel
theorem dX10_toBuy_21 : decode cX10_toBuy 21 = .ok (.iaload, 1) := by decide +kernel
theorem dX10_toBuy_22 : decode cX10_toBuy 22 = .ok (.bipush (-9), 2) := by decide +kernel
theorem dX10_toBuy_24 : decode cX10_toBuy 24 = .ok (.if_icmp .eq 5, 3) := by decide +kernel
theorem dX10_toBuy_27 : decode cX10_toBuy 27 = .ok (.iconst (-1), 1) := by decide +kernel
theorem dX10_toBuy_28 : decode cX10_toBuy 28 = .ok (.ireturn, 1) := by decide +kernel
theorem dX10_toBuy_29 : decode cX10_toBuy 29 = .ok (.aload_n 0, 1) := by decide +kernel
theorem dX10_toBuy_30 : decode cX10_toBuy 30 = .ok (.invokevirtual 259, 3) := by decide +kernel
theorem dX10_toBuy_33 : decode cX10_toBuy 33 = .ok (.aload_n 0, 1) := by decide +kernel
theorem dX10_toBuy_34 : decode cX10_toBuy 34 = .ok (.getfield 241, 3) := by decide +kernel
theorem dX10_toBuy_37 : decode cX10_toBuy 37 = .ok (.bipush (-9), 2) := by decide +kernel
theorem dX10_toBuy_39 : decode cX10_toBuy 39 = .ok (.if_icmp .eq 9, 3) := by decide +kernel
theorem dX10_toBuy_42 : decode cX10_toBuy 42 = .ok (.iload_n 1, 1) := by decide +kernel
theorem dX10_toBuy_43 : decode cX10_toBuy 43 = .ok (.bipush (-9), 2) := by decide +kernel
theorem dX10_toBuy_45 : decode cX10_toBuy 45 = .ok (.if_icmp .ne 8, 3) := by decide +kernel
theorem dX10_toBuy_48 : decode cX10_toBuy 48 = .ok (.aload_n 0, 1) := by decide +kernel
theorem dX10_toBuy_49 : decode cX10_toBuy 49 = .ok (.getfield 241, 3) := by decide +kernel
theorem dX10_toBuy_52 : decode cX10_toBuy 52 = .ok (.ireturn, 1) := by decide +kernel
theorem dX10_toBuy_53 : decode cX10_toBuy 53 = .ok (.aload_n 0, 1) := by decide +kernel
theorem dX10_toBuy_54 : decode cX10_toBuy 54 = .ok (.getfield 81, 3) := by decide +kernel
theorem dX10_toBuy_57 : decode cX10_toBuy 57 = .ok (.iload_n 1, 1) := by decide +kernel
theorem dX10_toBuy_58 : decode cX10_toBuy 58 = .ok (.iaload, 1) := by decide +kernel
theorem dX10_toBuy_59 : decode cX10_toBuy 59 = .ok (.bipush (-9), 2) := by decide +kernel
theorem dX10_toBuy_61 : decode cX10_toBuy 61 = .ok (.if_icmp .ne 8, 3) := by decide +kernel
theorem dX10_toBuy_64 : decode cX10_toBuy 64 = .ok (.bipush (-5), 2) := by decide +kernel
theorem dX10_toBuy_66 : decode cX10_toBuy 66 = .ok (.goto 9, 3) := by decide +kernel
theorem dX10_toBuy_69 : decode cX10_toBuy 69 = .ok (.aload_n 0, 1) := by decide +kernel
theorem dX10_toBuy_70 : decode cX10_toBuy 70 = .ok (.getfield 81, 3) := by decide +kernel
theorem dX10_toBuy_73 : decode cX10_toBuy 73 = .ok (.iload_n 1, 1) := by decide +kernel
theorem dX10_toBuy_74 : decode cX10_toBuy 74 = .ok (.iaload, 1) := by decide +kernel
theorem dX10_toBuy_75 : decode cX10_toBuy 75 = .ok (.ireturn, 1) := by decide +kernel
theorem dX10_loudRooms_0 : decode cX10_loudRooms 0 = .ok (.iconst 0, 1) := by decide +kernel
theorem dX10_loudRooms_1 : decode cX10_loudRooms 1 = .ok (.istore_n 1, 1) := by decide +kernel
theorem dX10_loudRooms_2 : decode cX10_loudRooms 2 = .ok (.iconst 0, 1) := by decide +kernel
theorem dX10_loudRooms_3 : decode cX10_loudRooms 3 = .ok (.istore_n 2, 1) := by decide +kernel
theorem dX10_loudRooms_4 : decode cX10_loudRooms 4 = .ok (.iload_n 2, 1) := by decide +kernel
theorem dX10_loudRooms_5 : decode cX10_loudRooms 5 = .ok (.aload_n 0, 1) := by decide +kernel
theorem dX10_loudRooms_6 : decode cX10_loudRooms 6 = .ok (.getfield 168, 3) := by decide +kernel
theorem dX10_loudRooms_9 : decode cX10_loudRooms 9 = .ok (.if_icmp .ge 136, 3) := by decide +kernel
theorem dX10_loudRooms_12 : decode cX10_loudRooms 12 = .ok (.iconst 0, 1) := by decide +kernel
theorem dX10_loudRooms_13 : decode cX10_loudRooms 13 = .ok (.istore_n 3, 1) := by decide +kernel
theorem dX10_loudRooms_14 : decode cX10_loudRooms 14 = .ok (.iconst 0, 1) := by decide +kernel
theorem dX10_loudRooms_15 : decode cX10_loudRooms 15 = .ok (.istore 4, 2) := by decide +kernel
theorem dX10_loudRooms_17 : decode cX10_loudRooms 17 = .ok (.iload 4, 2) := by decide +kernel
theorem dX10_loudRooms_19 : decode cX10_loudRooms 19 = .ok (.aload_n 0, 1) := by decide +kernel
theorem dX10_loudRooms_20 : decode cX10_loudRooms 20 = .ok (.getfield 165, 3) := by decide +kernel
theorem dX10_loudRooms_23 : decode cX10_loudRooms 23 = .ok (.if_icmp .ge 112, 3) := by decide +kernel
theorem dX10_loudRooms_26 : decode cX10_loudRooms 26 = .ok (.aload_n 0, 1) := by decide +kernel
theorem dX10_loudRooms_27 : decode cX10_loudRooms 27 = .ok (.getfield 19, 3) := by decide +kernel
theorem dX10_loudRooms_30 : decode cX10_loudRooms 30 = .ok (.iconst 4, 1) := by decide +kernel
theorem dX10_loudRooms_31 : decode cX10_loudRooms 31 = .ok (.iload 4, 2) := by decide +kernel
theorem dX10_loudRooms_33 : decode cX10_loudRooms 33 = .ok (.imul, 1) := by decide +kernel
theorem dX10_loudRooms_34 : decode cX10_loudRooms 34 = .ok (.iconst 2, 1) := by decide +kernel
theorem dX10_loudRooms_35 : decode cX10_loudRooms 35 = .ok (.iadd, 1) := by decide +kernel
theorem dX10_loudRooms_36 : decode cX10_loudRooms 36 = .ok (.iaload, 1) := by decide +kernel
theorem dX10_loudRooms_37 : decode cX10_loudRooms 37 = .ok (.aload_n 0, 1) := by decide +kernel
theorem dX10_loudRooms_38 : decode cX10_loudRooms 38 = .ok (.getfield 26, 3) := by decide +kernel
theorem dX10_loudRooms_41 : decode cX10_loudRooms 41 = .ok (.iconst 4, 1) := by decide +kernel
theorem dX10_loudRooms_42 : decode cX10_loudRooms 42 = .ok (.iload_n 2, 1) := by decide +kernel
theorem dX10_loudRooms_43 : decode cX10_loudRooms 43 = .ok (.imul, 1) := by decide +kernel
theorem dX10_loudRooms_44 : decode cX10_loudRooms 44 = .ok (.iconst 2, 1) := by decide +kernel
theorem dX10_loudRooms_45 : decode cX10_loudRooms 45 = .ok (.iadd, 1) := by decide +kernel
theorem dX10_loudRooms_46 : decode cX10_loudRooms 46 = .ok (.iaload, 1) := by decide +kernel
theorem dX10_loudRooms_47 : decode cX10_loudRooms 47 = .ok (.if_icmp .gt 82, 3) := by decide +kernel
theorem dX10_loudRooms_50 : decode cX10_loudRooms 50 = .ok (.aload_n 0, 1) := by decide +kernel
theorem dX10_loudRooms_51 : decode cX10_loudRooms 51 = .ok (.getfield 19, 3) := by decide +kernel
theorem dX10_loudRooms_54 : decode cX10_loudRooms 54 = .ok (.iconst 4, 1) := by decide +kernel
theorem dX10_loudRooms_55 : decode cX10_loudRooms 55 = .ok (.iload 4, 2) := by decide +kernel
theorem dX10_loudRooms_57 : decode cX10_loudRooms 57 = .ok (.imul, 1) := by decide +kernel
theorem dX10_loudRooms_58 : decode cX10_loudRooms 58 = .ok (.iconst 3, 1) := by decide +kernel
theorem dX10_loudRooms_59 : decode cX10_loudRooms 59 = .ok (.iadd, 1) := by decide +kernel
theorem dX10_loudRooms_60 : decode cX10_loudRooms 60 = .ok (.iaload, 1) := by decide +kernel
theorem dX10_loudRooms_61 : decode cX10_loudRooms 61 = .ok (.aload_n 0, 1) := by decide +kernel
theorem dX10_loudRooms_62 : decode cX10_loudRooms 62 = .ok (.getfield 26, 3) := by decide +kernel
theorem dX10_loudRooms_65 : decode cX10_loudRooms 65 = .ok (.iconst 4, 1) := by decide +kernel
theorem dX10_loudRooms_66 : decode cX10_loudRooms 66 = .ok (.iload_n 2, 1) := by decide +kernel
theorem dX10_loudRooms_67 : decode cX10_loudRooms 67 = .ok (.imul, 1) := by decide +kernel
theorem dX10_loudRooms_68 : decode cX10_loudRooms 68 = .ok (.iconst 1, 1) := by decide +kernel
theorem dX10_loudRooms_69 : decode cX10_loudRooms 69 = .ok (.iadd, 1) := by decide +kernel
theorem dX10_loudRooms_70 : decode cX10_loudRooms 70 = .ok (.iaload, 1) := by decide +kernel
theorem dX10_loudRooms_71 : decode cX10_loudRooms 71 = .ok (.if_icmp .lt 58, 3) := by decide +kernel
theorem dX10_loudRooms_74 : decode cX10_loudRooms 74 = .ok (.aload_n 0, 1) := by decide +kernel
theorem dX10_loudRooms_75 : decode cX10_loudRooms 75 = .ok (.aload_n 0, 1) := by decide +kernel
theorem dX10_loudRooms_76 : decode cX10_loudRooms 76 = .ok (.getfield 19, 3) := by decide +kernel
theorem dX10_loudRooms_79 : decode cX10_loudRooms 79 = .ok (.iconst 4, 1) := by decide +kernel
theorem dX10_loudRooms_80 : decode cX10_loudRooms 80 = .ok (.iload 4, 2) := by decide +kernel
theorem dX10_loudRooms_82 : decode cX10_loudRooms 82 = .ok (.imul, 1) := by decide +kernel
theorem dX10_loudRooms_83 : decode cX10_loudRooms 83 = .ok (.iaload, 1) := by decide +kernel
theorem dX10_loudRooms_84 : decode cX10_loudRooms 84 = .ok (.invokevirtual 197, 3) := by decide +kernel
theorem dX10_loudRooms_87 : decode cX10_loudRooms 87 = .ok (.aload_n 0, 1) := by decide +kernel
theorem dX10_loudRooms_88 : decode cX10_loudRooms 88 = .ok (.getfield 19, 3) := by decide +kernel
theorem dX10_loudRooms_91 : decode cX10_loudRooms 91 = .ok (.iconst 4, 1) := by decide +kernel
theorem dX10_loudRooms_92 : decode cX10_loudRooms 92 = .ok (.iload 4, 2) := by decide +kernel
theorem dX10_loudRooms_94 : decode cX10_loudRooms 94 = .ok (.imul, 1) := by decide +kernel
theorem dX10_loudRooms_95 : decode cX10_loudRooms 95 = .ok (.iconst 1, 1) := by decide +kernel
theorem dX10_loudRooms_96 : decode cX10_loudRooms 96 = .ok (.iadd, 1) := by decide +kernel
theorem dX10_loudRooms_97 : decode cX10_loudRooms 97 = .ok (.iaload, 1) := by decide +kernel
theorem dX10_loudRooms_98 : decode cX10_loudRooms 98 = .ok (.aload_n 0, 1) := by decide +kernel
theorem dX10_loudRooms_99 : decode cX10_loudRooms 99 = .ok (.getfield 72, 3) := by decide +kernel
theorem dX10_loudRooms_102 : decode cX10_loudRooms 102 = .ok (.aload_n 0, 1) := by decide +kernel
theorem dX10_loudRooms_103 : decode cX10_loudRooms 103 = .ok (.getfield 26, 3) := by decide +kernel
theorem dX10_loudRooms_106 : decode cX10_loudRooms 106 = .ok (.iconst 4, 1) := by decide +kernel
theorem dX10_loudRooms_107 : decode cX10_loudRooms 107 = .ok (.iload_n 2, 1) := by decide +kernel
theorem dX10_loudRooms_108 : decode cX10_loudRooms 108 = .ok (.imul, 1) := by decide +kernel
theorem dX10_loudRooms_109 : decode cX10_loudRooms 109 = .ok (.iaload, 1) := by decide +kernel
theorem dX10_loudRooms_110 : decode cX10_loudRooms 110 = .ok (.iaload, 1) := by decide +kernel
theorem dX10_loudRooms_111 : decode cX10_loudRooms 111 = .ok (.invokestatic 201, 3) := by decide +kernel
theorem dX10_loudRooms_114 : decode cX10_loudRooms 114 = .ok (.istore 5, 2) := by decide +kernel
theorem dX10_loudRooms_116 : decode cX10_loudRooms 116 = .ok (.iload 5, 2) := by decide +kernel
theorem dX10_loudRooms_118 : decode cX10_loudRooms 118 = .ok (.iload_n 3, 1) := by decide +kernel
theorem dX10_loudRooms_119 : decode cX10_loudRooms 119 = .ok (.if_icmp .le 8, 3) := by decide +kernel
theorem dX10_loudRooms_122 : decode cX10_loudRooms 122 = .ok (.iload 5, 2) := by decide +kernel
theorem dX10_loudRooms_124 : decode cX10_loudRooms 124 = .ok (.goto 4, 3) := by decide +kernel
theorem dX10_loudRooms_127 : decode cX10_loudRooms 127 = .ok (.iload_n 3, 1) := by decide +kernel
theorem dX10_loudRooms_128 : decode cX10_loudRooms 128 = .ok (.istore_n 3, 1) := by decide +kernel
theorem dX10_loudRooms_129 : decode cX10_loudRooms 129 = .ok (.iinc 4 1, 3) := by decide +kernel
theorem dX10_loudRooms_132 : decode cX10_loudRooms 132 = .ok (.goto (-115), 3) := by decide +kernel
theorem dX10_loudRooms_135 : decode cX10_loudRooms 135 = .ok (.iload_n 1, 1) := by decide +kernel
theorem dX10_loudRooms_136 : decode cX10_loudRooms 136 = .ok (.iload_n 3, 1) := by decide +kernel
theorem dX10_loudRooms_137 : decode cX10_loudRooms 137 = .ok (.iadd, 1) := by decide +kernel
theorem dX10_loudRooms_138 : decode cX10_loudRooms 138 = .ok (.istore_n 1, 1) := by decide +kernel
theorem dX10_loudRooms_139 : decode cX10_loudRooms 139 = .ok (.iinc 2 1, 3) := by decide +kernel
theorem dX10_loudRooms_142 : decode cX10_loudRooms 142 = .ok (.goto (-138), 3) := by decide +kernel
theorem dX10_loudRooms_145 : decode cX10_loudRooms 145 = .ok (.iload_n 1, 1) := by decide +kernel
theorem dX10_loudRooms_146 : decode cX10_loudRooms 146 = .ok (.ireturn, 1) := by decide +kernel
theorem dX10_gain_0 : decode cX10_gain 0 = .ok (.aload_n 0, 1) := by decide +kernel
theorem dX10_gain_1 : decode cX10_gain 1 = .ok (.iload_n 1, 1) := by decide +kernel
theorem dX10_gain_2 : decode cX10_gain 2 = .ok (.invokevirtual 204, 3) := by decide +kernel
theorem dX10_gain_5 : decode cX10_gain 5 = .ok (.ifCond .eq 16, 3) := by decide +kernel
theorem dX10_gain_8 : decode cX10_gain 8 = .ok (.aload_n 0, 1) := by decide +kernel
theorem dX10_gain_9 : decode cX10_gain 9 = .ok (.getfield 29, 3) := by decide +kernel
theorem dX10_gain_12 : decode cX10_gain 12 = .ok (.iconst 2, 1) := by decide +kernel
theorem dX10_gain_13 : decode cX10_gain 13 = .ok (.iload_n 1, 1) := by decide +kernel
theorem dX10_gain_14 : decode cX10_gain 14 = .ok (.iadd, 1) := by decide +kernel
theorem dX10_gain_15 : decode cX10_gain 15 = .ok (.iaload, 1) := by decide +kernel
theorem dX10_gain_16 : decode cX10_gain 16 = .ok (.bipush (-9), 2) := by decide +kernel
theorem dX10_gain_18 : decode cX10_gain 18 = .ok (.if_icmp .ne 7, 3) := by decide +kernel
theorem dX10_gain_21 : decode cX10_gain 21 = .ok (.ldc_w 262, 3) := by decide +kernel
theorem dX10_gain_24 : decode cX10_gain 24 = .ok (.ireturn, 1) := by decide +kernel
theorem dX10_gain_25 : decode cX10_gain 25 = .ok (.aload_n 0, 1) := by decide +kernel
theorem dX10_gain_26 : decode cX10_gain 26 = .ok (.invokevirtual 211, 3) := by decide +kernel
theorem dX10_gain_29 : decode cX10_gain 29 = .ok (.aload_n 0, 1) := by decide +kernel
theorem dX10_gain_30 : decode cX10_gain 30 = .ok (.invokevirtual 263, 3) := by decide +kernel
theorem dX10_gain_33 : decode cX10_gain 33 = .ok (.istore_n 2, 1) := by decide +kernel
theorem dX10_gain_34 : decode cX10_gain 34 = .ok (.aload_n 0, 1) := by decide +kernel
theorem dX10_gain_35 : decode cX10_gain 35 = .ok (.getfield 63, 3) := by decide +kernel
theorem dX10_gain_38 : decode cX10_gain 38 = .ok (.iload_n 1, 1) := by decide +kernel
theorem dX10_gain_39 : decode cX10_gain 39 = .ok (.bipush (-9), 2) := by decide +kernel
theorem dX10_gain_41 : decode cX10_gain 41 = .ok (.iastore, 1) := by decide +kernel
theorem dX10_gain_42 : decode cX10_gain 42 = .ok (.aload_n 0, 1) := by decide +kernel
theorem dX10_gain_43 : decode cX10_gain 43 = .ok (.invokevirtual 184, 3) := by decide +kernel
theorem dX10_gain_46 : decode cX10_gain 46 = .ok (.aload_n 0, 1) := by decide +kernel
theorem dX10_gain_47 : decode cX10_gain 47 = .ok (.invokevirtual 263, 3) := by decide +kernel
theorem dX10_gain_50 : decode cX10_gain 50 = .ok (.iload_n 2, 1) := by decide +kernel
theorem dX10_gain_51 : decode cX10_gain 51 = .ok (.isub, 1) := by decide +kernel
theorem dX10_gain_52 : decode cX10_gain 52 = .ok (.ireturn, 1) := by decide +kernel
theorem dX10_hear_0 : decode cX10_hear 0 = .ok (.aload_n 0, 1) := by decide +kernel
theorem dX10_hear_1 : decode cX10_hear 1 = .ok (.iload_n 1, 1) := by decide +kernel
theorem dX10_hear_2 : decode cX10_hear 2 = .ok (.invokevirtual 208, 3) := by decide +kernel
theorem dX10_hear_5 : decode cX10_hear 5 = .ok (.ifCond .eq 13, 3) := by decide +kernel
theorem dX10_hear_8 : decode cX10_hear 8 = .ok (.iload_n 2, 1) := by decide +kernel
theorem dX10_hear_9 : decode cX10_hear 9 = .ok (.iconst 0, 1) := by decide +kernel
theorem dX10_hear_10 : decode cX10_hear 10 = .ok (.bipush 99, 2) := by decide +kernel
theorem dX10_hear_12 : decode cX10_hear 12 = .ok (.invokestatic 90, 3) := by decide +kernel
theorem dX10_hear_15 : decode cX10_hear 15 = .ok (.ifCond .ne 5, 3) := by decide +kernel
theorem dX10_hear_18 : decode cX10_hear 18 = .ok (.iconst (-1), 1) := by decide +kernel
theorem dX10_hear_19 : decode cX10_hear 19 = .ok (.ireturn, 1) := by decide +kernel
theorem dX10_hear_20 : decode cX10_hear 20 = .ok (.aload_n 0, 1) := by decide +kernel
theorem dX10_hear_21 : decode cX10_hear 21 = .ok (.getfield 174, 3) := by decide +kernel
theorem dX10_hear_24 : decode cX10_hear 24 = .ok (.iconst 4, 1) := by decide +kernel
theorem dX10_hear_25 : decode cX10_hear 25 = .ok (.if_icmp .ne 6, 3) := by decide +kernel
theorem dX10_hear_28 : decode cX10_hear 28 = .ok (.bipush (-3), 2) := by decide +kernel
theorem dX10_hear_30 : decode cX10_hear 30 = .ok (.ireturn, 1) := by decide +kernel
theorem dX10_hear_31 : decode cX10_hear 31 = .ok (.aload_n 0, 1) := by decide +kernel
theorem dX10_hear_32 : decode cX10_hear 32 = .ok (.getfield 42, 3) := by decide +kernel
theorem dX10_hear_35 : decode cX10_hear 35 = .ok (.iconst 2, 1) := by decide +kernel
theorem dX10_hear_36 : decode cX10_hear 36 = .ok (.aload_n 0, 1) := by decide +kernel
theorem dX10_hear_37 : decode cX10_hear 37 = .ok (.getfield 174, 3) := by decide +kernel
theorem dX10_hear_40 : decode cX10_hear 40 = .ok (.imul, 1) := by decide +kernel
theorem dX10_hear_41 : decode cX10_hear 41 = .ok (.iload_n 1, 1) := by decide +kernel
theorem dX10_hear_42 : decode cX10_hear 42 = .ok (.iastore, 1) := by decide +kernel
theorem dX10_hear_43 : decode cX10_hear 43 = .ok (.aload_n 0, 1) := by decide +kernel
theorem dX10_hear_44 : decode cX10_hear 44 = .ok (.getfield 42, 3) := by decide +kernel
theorem dX10_hear_47 : decode cX10_hear 47 = .ok (.iconst 2, 1) := by decide +kernel
theorem dX10_hear_48 : decode cX10_hear 48 = .ok (.aload_n 0, 1) := by decide +kernel
theorem dX10_hear_49 : decode cX10_hear 49 = .ok (.getfield 174, 3) := by decide +kernel
theorem dX10_hear_52 : decode cX10_hear 52 = .ok (.imul, 1) := by decide +kernel
theorem dX10_hear_53 : decode cX10_hear 53 = .ok (.iconst 1, 1) := by decide +kernel
theorem dX10_hear_54 : decode cX10_hear 54 = .ok (.iadd, 1) := by decide +kernel
theorem dX10_hear_55 : decode cX10_hear 55 = .ok (.iload_n 2, 1) := by decide +kernel
theorem dX10_hear_56 : decode cX10_hear 56 = .ok (.iastore, 1) := by decide +kernel
theorem dX10_hear_57 : decode cX10_hear 57 = .ok (.aload_n 0, 1) := by decide +kernel
theorem dX10_hear_58 : decode cX10_hear 58 = .ok (.dup, 1) := by decide +kernel
theorem dX10_hear_59 : decode cX10_hear 59 = .ok (.getfield 174, 3) := by decide +kernel
theorem dX10_hear_62 : decode cX10_hear 62 = .ok (.iconst 1, 1) := by decide +kernel
theorem dX10_hear_63 : decode cX10_hear 63 = .ok (.iadd, 1) := by decide +kernel
theorem dX10_hear_64 : decode cX10_hear 64 = .ok (.putfield 174, 3) := by decide +kernel
theorem dX10_hear_67 : decode cX10_hear 67 = .ok (.aload_n 0, 1) := by decide +kernel
theorem dX10_hear_68 : decode cX10_hear 68 = .ok (.getfield 174, 3) := by decide +kernel
theorem dX10_hear_71 : decode cX10_hear 71 = .ok (.ireturn, 1) := by decide +kernel
theorem dX10_forget_0 : decode cX10_forget 0 = .ok (.iload_n 1, 1) := by decide +kernel
theorem dX10_forget_1 : decode cX10_forget 1 = .ok (.iconst 0, 1) := by decide +kernel
theorem dX10_forget_2 : decode cX10_forget 2 = .ok (.iconst 1, 1) := by decide +kernel
theorem dX10_forget_3 : decode cX10_forget 3 = .ok (.invokestatic 90, 3) := by decide +kernel
theorem dX10_forget_6 : decode cX10_forget 6 = .ok (.ifCond .ne 5, 3) := by decide +kernel
theorem dX10_forget_9 : decode cX10_forget 9 = .ok (.iconst (-1), 1) := by decide +kernel
theorem dX10_forget_10 : decode cX10_forget 10 = .ok (.ireturn, 1) := by decide +kernel
theorem dX10_forget_11 : decode cX10_forget 11 = .ok (.iload_n 1, 1) := by decide +kernel
theorem dX10_forget_12 : decode cX10_forget 12 = .ok (.ifCond .ne 10, 3) := by decide +kernel
theorem dX10_forget_15 : decode cX10_forget 15 = .ok (.aload_n 0, 1) := by decide +kernel
theorem dX10_forget_16 : decode cX10_forget 16 = .ok (.getfield 174, 3) := by decide +kernel
theorem dX10_forget_19 : decode cX10_forget 19 = .ok (.goto 7, 3) := by decide +kernel
theorem dX10_forget_22 : decode cX10_forget 22 = .ok (.aload_n 0, 1) := by decide +kernel
theorem dX10_forget_23 : decode cX10_forget 23 = .ok (.getfield 177, 3) := by decide +kernel
theorem dX10_forget_26 : decode cX10_forget 26 = .ok (.istore_n 2, 1) := by decide +kernel
theorem dX10_forget_27 : decode cX10_forget 27 = .ok (.aload_n 0, 1) := by decide +kernel
theorem dX10_forget_28 : decode cX10_forget 28 = .ok (.iload_n 1, 1) := by decide +kernel
theorem dX10_forget_29 : decode cX10_forget 29 = .ok (.ifCond .ne 7, 3) := by decide +kernel
theorem dX10_forget_32 : decode cX10_forget 32 = .ok (.iconst 0, 1) := by decide +kernel
theorem dX10_forget_33 : decode cX10_forget 33 = .ok (.goto 7, 3) := by decide +kernel
theorem dX10_forget_36 : decode cX10_forget 36 = .ok (.aload_n 0, 1) := by decide +kernel
theorem dX10_forget_37 : decode cX10_forget 37 = .ok (.getfield 174, 3) := by decide +kernel
theorem dX10_forget_40 : decode cX10_forget 40 = .ok (.putfield 174, 3) := by decide +kernel
theorem dX10_forget_43 : decode cX10_forget 43 = .ok (.aload_n 0, 1) := by decide +kernel
theorem dX10_forget_44 : decode cX10_forget 44 = .ok (.iload_n 1, 1) := by decide +kernel
theorem dX10_forget_45 : decode cX10_forget 45 = .ok (.iconst 1, 1) := by decide +kernel
theorem dX10_forget_46 : decode cX10_forget 46 = .ok (.if_icmp .ne 7, 3) := by decide +kernel
theorem dX10_forget_49 : decode cX10_forget 49 = .ok (.iconst 0, 1) := by decide +kernel
theorem dX10_forget_50 : decode cX10_forget 50 = .ok (.goto 7, 3) := by decide +kernel
theorem dX10_forget_53 : decode cX10_forget 53 = .ok (.aload_n 0, 1) := by decide +kernel
theorem dX10_forget_54 : decode cX10_forget 54 = .ok (.getfield 177, 3) := by decide +kernel
theorem dX10_forget_57 : decode cX10_forget 57 = .ok (.putfield 177, 3) := by decide +kernel
theorem dX10_forget_60 : decode cX10_forget 60 = .ok (.iload_n 2, 1) := by decide +kernel
theorem dX10_forget_61 : decode cX10_forget 61 = .ok (.ireturn, 1) := by decide +kernel
theorem dX10_strengthsAt_0 : decode cX10_strengthsAt 0 = .ok (.aload_n 0, 1) := by decide +kernel
theorem dX10_strengthsAt_1 : decode cX10_strengthsAt 1 = .ok (.iload_n 1, 1) := by decide +kernel
theorem dX10_strengthsAt_2 : decode cX10_strengthsAt 2 = .ok (.invokevirtual 197, 3) := by decide +kernel
theorem dX10_strengthsAt_5 : decode cX10_strengthsAt 5 = .ok (.iconst 0, 1) := by decide +kernel
theorem dX10_strengthsAt_6 : decode cX10_strengthsAt 6 = .ok (.istore_n 2, 1) := by decide +kernel
theorem dX10_strengthsAt_7 : decode cX10_strengthsAt 7 = .ok (.iconst 1, 1) := by decide +kernel
theorem dX10_strengthsAt_8 : decode cX10_strengthsAt 8 = .ok (.istore_n 3, 1) := by decide +kernel
theorem dX10_strengthsAt_9 : decode cX10_strengthsAt 9 = .ok (.iload_n 3, 1) := by decide +kernel
theorem dX10_strengthsAt_10 : decode cX10_strengthsAt 10 = .ok (.bipush 99, 2) := by decide +kernel
theorem dX10_strengthsAt_12 : decode cX10_strengthsAt 12 = .ok (.if_icmp .gt 87, 3) := by decide +kernel
theorem dX10_strengthsAt_15 : decode cX10_strengthsAt 15 = .ok (.iconst 1, 1) := by decide +kernel
theorem dX10_strengthsAt_16 : decode cX10_strengthsAt 16 = .ok (.istore 4, 2) := by decide +kernel
theorem dX10_strengthsAt_18 : decode cX10_strengthsAt 18 = .ok (.iconst 0, 1) := by decide +kernel
theorem dX10_strengthsAt_19 : decode cX10_strengthsAt 19 = .ok (.istore 5, 2) := by decide +kernel
theorem dX10_strengthsAt_21 : decode cX10_strengthsAt 21 = .ok (.iload 5, 2) := by decide +kernel
theorem dX10_strengthsAt_23 : decode cX10_strengthsAt 23 = .ok (.aload_n 0, 1) := by decide +kernel
theorem dX10_strengthsAt_24 : decode cX10_strengthsAt 24 = .ok (.getfield 174, 3) := by decide +kernel
theorem dX10_strengthsAt_27 : decode cX10_strengthsAt 27 = .ok (.if_icmp .ge 53, 3) := by decide +kernel
theorem dX10_strengthsAt_30 : decode cX10_strengthsAt 30 = .ok (.iload 4, 2) := by decide +kernel
theorem dX10_strengthsAt_32 : decode cX10_strengthsAt 32 = .ok (.ifCond .eq 39, 3) := by decide +kernel
theorem dX10_strengthsAt_35 : decode cX10_strengthsAt 35 = .ok (.iload_n 3, 1) := by decide +kernel
theorem dX10_strengthsAt_36 : decode cX10_strengthsAt 36 = .ok (.aload_n 0, 1) := by decide +kernel
theorem dX10_strengthsAt_37 : decode cX10_strengthsAt 37 = .ok (.getfield 72, 3) := by decide +kernel
theorem dX10_strengthsAt_40 : decode cX10_strengthsAt 40 = .ok (.aload_n 0, 1) := by decide +kernel
theorem dX10_strengthsAt_41 : decode cX10_strengthsAt 41 = .ok (.getfield 42, 3) := by decide +kernel
theorem dX10_strengthsAt_44 : decode cX10_strengthsAt 44 = .ok (.iconst 2, 1) := by decide +kernel
theorem dX10_strengthsAt_45 : decode cX10_strengthsAt 45 = .ok (.iload 5, 2) := by decide +kernel
theorem dX10_strengthsAt_47 : decode cX10_strengthsAt 47 = .ok (.imul, 1) := by decide +kernel
theorem dX10_strengthsAt_48 : decode cX10_strengthsAt 48 = .ok (.iaload, 1) := by decide +kernel
theorem dX10_strengthsAt_49 : decode cX10_strengthsAt 49 = .ok (.iaload, 1) := by decide +kernel
theorem dX10_strengthsAt_50 : decode cX10_strengthsAt 50 = .ok (.invokestatic 201, 3) := by decide +kernel
theorem dX10_strengthsAt_53 : decode cX10_strengthsAt 53 = .ok (.aload_n 0, 1) := by decide +kernel
theorem dX10_strengthsAt_54 : decode cX10_strengthsAt 54 = .ok (.getfield 42, 3) := by decide +kernel
theorem dX10_strengthsAt_57 : decode cX10_strengthsAt 57 = .ok (.iconst 2, 1) := by decide +kernel
theorem dX10_strengthsAt_58 : decode cX10_strengthsAt 58 = .ok (.iload 5, 2) := by decide +kernel
theorem dX10_strengthsAt_60 : decode cX10_strengthsAt 60 = .ok (.imul, 1) := by decide +kernel
theorem dX10_strengthsAt_61 : decode cX10_strengthsAt 61 = .ok (.iconst 1, 1) := by decide +kernel
theorem dX10_strengthsAt_62 : decode cX10_strengthsAt 62 = .ok (.iadd, 1) := by decide +kernel
theorem dX10_strengthsAt_63 : decode cX10_strengthsAt 63 = .ok (.iaload, 1) := by decide +kernel
theorem dX10_strengthsAt_64 : decode cX10_strengthsAt 64 = .ok (.if_icmp .ne 7, 3) := by decide +kernel
theorem dX10_strengthsAt_67 : decode cX10_strengthsAt 67 = .ok (.iconst 1, 1) := by decide +kernel
theorem dX10_strengthsAt_68 : decode cX10_strengthsAt 68 = .ok (.goto 4, 3) := by decide +kernel
theorem dX10_strengthsAt_71 : decode cX10_strengthsAt 71 = .ok (.iconst 0, 1) := by decide +kernel
theorem dX10_strengthsAt_72 : decode cX10_strengthsAt 72 = .ok (.istore 4, 2) := by decide +kernel
theorem dX10_strengthsAt_74 : decode cX10_strengthsAt 74 = .ok (.iinc 5 1, 3) := by decide +kernel
theorem dX10_strengthsAt_77 : decode cX10_strengthsAt 77 = .ok (.goto (-56), 3) := by decide +kernel
theorem dX10_strengthsAt_80 : decode cX10_strengthsAt 80 = .ok (.iload_n 2, 1) := by decide +kernel
theorem dX10_strengthsAt_81 : decode cX10_strengthsAt 81 = .ok (.iload 4, 2) := by decide +kernel
theorem dX10_strengthsAt_83 : decode cX10_strengthsAt 83 = .ok (.ifCond .eq 7, 3) := by decide +kernel
theorem dX10_strengthsAt_86 : decode cX10_strengthsAt 86 = .ok (.iconst 1, 1) := by decide +kernel
theorem dX10_strengthsAt_87 : decode cX10_strengthsAt 87 = .ok (.goto 4, 3) := by decide +kernel
theorem dX10_strengthsAt_90 : decode cX10_strengthsAt 90 = .ok (.iconst 0, 1) := by decide +kernel
theorem dX10_strengthsAt_91 : decode cX10_strengthsAt 91 = .ok (.iadd, 1) := by decide +kernel
theorem dX10_strengthsAt_92 : decode cX10_strengthsAt 92 = .ok (.istore_n 2, 1) := by decide +kernel
theorem dX10_strengthsAt_93 : decode cX10_strengthsAt 93 = .ok (.iinc 3 1, 3) := by decide +kernel
theorem dX10_strengthsAt_96 : decode cX10_strengthsAt 96 = .ok (.goto (-87), 3) := by decide +kernel
theorem dX10_strengthsAt_99 : decode cX10_strengthsAt 99 = .ok (.iload_n 2, 1) := by decide +kernel
theorem dX10_strengthsAt_100 : decode cX10_strengthsAt 100 = .ok (.ireturn, 1) := by decide +kernel
theorem dX10_sources_0 : decode cX10_sources 0 = .ok (.aload_n 0, 1) := by decide +kernel
theorem dX10_sources_1 : decode cX10_sources 1 = .ok (.invokevirtual 211, 3) := by decide +kernel
theorem dX10_sources_4 : decode cX10_sources 4 = .ok (.iconst 0, 1) := by decide +kernel
theorem dX10_sources_5 : decode cX10_sources 5 = .ok (.istore_n 1, 1) := by decide +kernel
theorem dX10_sources_6 : decode cX10_sources 6 = .ok (.iconst 0, 1) := by decide +kernel
theorem dX10_sources_7 : decode cX10_sources 7 = .ok (.istore_n 2, 1) := by decide +kernel
theorem dX10_sources_8 : decode cX10_sources 8 = .ok (.iload_n 2, 1) := by decide +kernel
theorem dX10_sources_9 : decode cX10_sources 9 = .ok (.aload_n 0, 1) := by decide +kernel
theorem dX10_sources_10 : decode cX10_sources 10 = .ok (.getfield 7, 3) := by decide +kernel
theorem dX10_sources_13 : decode cX10_sources 13 = .ok (.aload_n 0, 1) := by decide +kernel
theorem dX10_sources_14 : decode cX10_sources 14 = .ok (.getfield 13, 3) := by decide +kernel
theorem dX10_sources_17 : decode cX10_sources 17 = .ok (.imul, 1) := by decide +kernel
theorem dX10_sources_18 : decode cX10_sources 18 = .ok (.if_icmp .ge 27, 3) := by decide +kernel
theorem dX10_sources_21 : decode cX10_sources 21 = .ok (.iload_n 1, 1) := by decide +kernel
theorem dX10_sources_22 : decode cX10_sources 22 = .ok (.aload_n 0, 1) := by decide +kernel
theorem dX10_sources_23 : decode cX10_sources 23 = .ok (.iload_n 2, 1) := by decide +kernel
theorem dX10_sources_24 : decode cX10_sources 24 = .ok (.invokevirtual 266, 3) := by decide +kernel
theorem dX10_sources_27 : decode cX10_sources 27 = .ok (.ifCond .le 9, 3) := by decide +kernel
theorem dX10_sources_30 : decode cX10_sources 30 = .ok (.iconst 1, 1) := by decide +kernel
theorem dX10_sources_31 : decode cX10_sources 31 = .ok (.iload_n 2, 1) := by decide +kernel
theorem dX10_sources_32 : decode cX10_sources 32 = .ok (.ishl, 1) := by decide +kernel
theorem dX10_sources_33 : decode cX10_sources 33 = .ok (.goto 4, 3) := by decide +kernel
theorem dX10_sources_36 : decode cX10_sources 36 = .ok (.iconst 0, 1) := by decide +kernel
theorem dX10_sources_37 : decode cX10_sources 37 = .ok (.ior, 1) := by decide +kernel
theorem dX10_sources_38 : decode cX10_sources 38 = .ok (.istore_n 1, 1) := by decide +kernel
theorem dX10_sources_39 : decode cX10_sources 39 = .ok (.iinc 2 1, 3) := by decide +kernel
theorem dX10_sources_42 : decode cX10_sources 42 = .ok (.goto (-34), 3) := by decide +kernel
theorem dX10_sources_45 : decode cX10_sources 45 = .ok (.iload_n 1, 1) := by decide +kernel
theorem dX10_sources_46 : decode cX10_sources 46 = .ok (.ireturn, 1) := by decide +kernel
theorem dX10_strengths_0 : decode cX10_strengths 0 = .ok (.aload_n 0, 1) := by decide +kernel
theorem dX10_strengths_1 : decode cX10_strengths 1 = .ok (.iload_n 1, 1) := by decide +kernel
theorem dX10_strengths_2 : decode cX10_strengths 2 = .ok (.invokevirtual 208, 3) := by decide +kernel
theorem dX10_strengths_5 : decode cX10_strengths 5 = .ok (.ifCond .ne 5, 3) := by decide +kernel
theorem dX10_strengths_8 : decode cX10_strengths 8 = .ok (.iconst (-1), 1) := by decide +kernel
theorem dX10_strengths_9 : decode cX10_strengths 9 = .ok (.ireturn, 1) := by decide +kernel
theorem dX10_strengths_10 : decode cX10_strengths 10 = .ok (.aload_n 0, 1) := by decide +kernel
theorem dX10_strengths_11 : decode cX10_strengths 11 = .ok (.invokevirtual 211, 3) := by decide +kernel
theorem dX10_strengths_14 : decode cX10_strengths 14 = .ok (.aload_n 0, 1) := by decide +kernel
theorem dX10_strengths_15 : decode cX10_strengths 15 = .ok (.iload_n 1, 1) := by decide +kernel
theorem dX10_strengths_16 : decode cX10_strengths 16 = .ok (.invokevirtual 266, 3) := by decide +kernel
theorem dX10_strengths_19 : decode cX10_strengths 19 = .ok (.ireturn, 1) := by decide +kernel
theorem dX10_hired_0 : decode cX10_hired 0 = .ok (.aload_n 0, 1) := by decide +kernel
theorem dX10_hired_1 : decode cX10_hired 1 = .ok (.iload_n 1, 1) := by decide +kernel
theorem dX10_hired_2 : decode cX10_hired 2 = .ok (.invokevirtual 208, 3) := by decide +kernel
theorem dX10_hired_5 : decode cX10_hired 5 = .ok (.ifCond .eq 18, 3) := by decide +kernel
theorem dX10_hired_8 : decode cX10_hired 8 = .ok (.aload_n 0, 1) := by decide +kernel
theorem dX10_hired_9 : decode cX10_hired 9 = .ok (.iload_n 2, 1) := by decide +kernel
theorem dX10_hired_10 : decode cX10_hired 10 = .ok (.invokevirtual 208, 3) := by decide +kernel
theorem dX10_hired_13 : decode cX10_hired 13 = .ok (.ifCond .eq 10, 3) := by decide +kernel
theorem dX10_hired_16 : decode cX10_hired 16 = .ok (.iload_n 3, 1) := by decide +kernel
theorem dX10_hired_17 : decode cX10_hired 17 = .ok (.invokestatic 269, 3) := by decide +kernel
theorem dX10_hired_20 : decode cX10_hired 20 = .ok (.ifCond .ne 5, 3) := by decide +kernel
theorem dX10_hired_23 : decode cX10_hired 23 = .ok (.iconst (-1), 1) := by decide +kernel
theorem dX10_hired_24 : decode cX10_hired 24 = .ok (.ireturn, 1) := by decide +kernel
theorem dX10_hired_25 : decode cX10_hired 25 = .ok (.aload_n 0, 1) := by decide +kernel
theorem dX10_hired_26 : decode cX10_hired 26 = .ok (.invokevirtual 211, 3) := by decide +kernel
theorem dX10_hired_29 : decode cX10_hired 29 = .ok (.aload_n 0, 1) := by decide +kernel
theorem dX10_hired_30 : decode cX10_hired 30 = .ok (.iload_n 1, 1) := by decide +kernel
theorem dX10_hired_31 : decode cX10_hired 31 = .ok (.invokevirtual 197, 3) := by decide +kernel
theorem dX10_hired_34 : decode cX10_hired 34 = .ok (.aload_n 0, 1) := by decide +kernel
theorem dX10_hired_35 : decode cX10_hired 35 = .ok (.getfield 72, 3) := by decide +kernel
theorem dX10_hired_38 : decode cX10_hired 38 = .ok (.iload_n 2, 1) := by decide +kernel
theorem dX10_hired_39 : decode cX10_hired 39 = .ok (.iaload, 1) := by decide +kernel
theorem dX10_hired_40 : decode cX10_hired 40 = .ok (.iload_n 3, 1) := by decide +kernel
theorem dX10_hired_41 : decode cX10_hired 41 = .ok (.iadd, 1) := by decide +kernel
theorem dX10_hired_42 : decode cX10_hired 42 = .ok (.bipush 99, 2) := by decide +kernel
theorem dX10_hired_44 : decode cX10_hired 44 = .ok (.if_icmp .gt 14, 3) := by decide +kernel
theorem dX10_hired_47 : decode cX10_hired 47 = .ok (.aload_n 0, 1) := by decide +kernel
theorem dX10_hired_48 : decode cX10_hired 48 = .ok (.getfield 72, 3) := by decide +kernel
theorem dX10_hired_51 : decode cX10_hired 51 = .ok (.iload_n 2, 1) := by decide +kernel
theorem dX10_hired_52 : decode cX10_hired 52 = .ok (.iaload, 1) := by decide +kernel
theorem dX10_hired_53 : decode cX10_hired 53 = .ok (.iload_n 3, 1) := by decide +kernel
theorem dX10_hired_54 : decode cX10_hired 54 = .ok (.iadd, 1) := by decide +kernel
theorem dX10_hired_55 : decode cX10_hired 55 = .ok (.goto 5, 3) := by decide +kernel
theorem dX10_hired_58 : decode cX10_hired 58 = .ok (.bipush (-9), 2) := by decide +kernel
theorem dX10_hired_60 : decode cX10_hired 60 = .ok (.ireturn, 1) := by decide +kernel
theorem dX10_isQuiet_0 : decode cX10_isQuiet 0 = .ok (.aload_n 0, 1) := by decide +kernel
theorem dX10_isQuiet_1 : decode cX10_isQuiet 1 = .ok (.iload_n 1, 1) := by decide +kernel
theorem dX10_isQuiet_2 : decode cX10_isQuiet 2 = .ok (.invokevirtual 197, 3) := by decide +kernel
theorem dX10_isQuiet_5 : decode cX10_isQuiet 5 = .ok (.iconst 1, 1) := by decide +kernel
theorem dX10_isQuiet_6 : decode cX10_isQuiet 6 = .ok (.istore_n 3, 1) := by decide +kernel
theorem dX10_isQuiet_7 : decode cX10_isQuiet 7 = .ok (.iconst 0, 1) := by decide +kernel
theorem dX10_isQuiet_8 : decode cX10_isQuiet 8 = .ok (.istore 4, 2) := by decide +kernel
theorem dX10_isQuiet_10 : decode cX10_isQuiet 10 = .ok (.iload 4, 2) := by decide +kernel
theorem dX10_isQuiet_12 : decode cX10_isQuiet 12 = .ok (.aload_n 0, 1) := by decide +kernel
theorem dX10_isQuiet_13 : decode cX10_isQuiet 13 = .ok (.getfield 168, 3) := by decide +kernel
theorem dX10_isQuiet_16 : decode cX10_isQuiet 16 = .ok (.if_icmp .ge 51, 3) := by decide +kernel
theorem dX10_isQuiet_19 : decode cX10_isQuiet 19 = .ok (.iload_n 3, 1) := by decide +kernel
theorem dX10_isQuiet_20 : decode cX10_isQuiet 20 = .ok (.ifCond .eq 39, 3) := by decide +kernel
theorem dX10_isQuiet_23 : decode cX10_isQuiet 23 = .ok (.iload_n 2, 1) := by decide +kernel
theorem dX10_isQuiet_24 : decode cX10_isQuiet 24 = .ok (.aload_n 0, 1) := by decide +kernel
theorem dX10_isQuiet_25 : decode cX10_isQuiet 25 = .ok (.getfield 72, 3) := by decide +kernel
theorem dX10_isQuiet_28 : decode cX10_isQuiet 28 = .ok (.aload_n 0, 1) := by decide +kernel
theorem dX10_isQuiet_29 : decode cX10_isQuiet 29 = .ok (.getfield 26, 3) := by decide +kernel
theorem dX10_isQuiet_32 : decode cX10_isQuiet 32 = .ok (.iconst 4, 1) := by decide +kernel
theorem dX10_isQuiet_33 : decode cX10_isQuiet 33 = .ok (.iload 4, 2) := by decide +kernel
theorem dX10_isQuiet_35 : decode cX10_isQuiet 35 = .ok (.imul, 1) := by decide +kernel
theorem dX10_isQuiet_36 : decode cX10_isQuiet 36 = .ok (.iaload, 1) := by decide +kernel
theorem dX10_isQuiet_37 : decode cX10_isQuiet 37 = .ok (.iaload, 1) := by decide +kernel
theorem dX10_isQuiet_38 : decode cX10_isQuiet 38 = .ok (.invokestatic 201, 3) := by decide +kernel
theorem dX10_isQuiet_41 : decode cX10_isQuiet 41 = .ok (.aload_n 0, 1) := by decide +kernel
theorem dX10_isQuiet_42 : decode cX10_isQuiet 42 = .ok (.getfield 26, 3) := by decide +kernel
theorem dX10_isQuiet_45 : decode cX10_isQuiet 45 = .ok (.iconst 4, 1) := by decide +kernel
theorem dX10_isQuiet_46 : decode cX10_isQuiet 46 = .ok (.iload 4, 2) := by decide +kernel
theorem dX10_isQuiet_48 : decode cX10_isQuiet 48 = .ok (.imul, 1) := by decide +kernel
theorem dX10_isQuiet_49 : decode cX10_isQuiet 49 = .ok (.iconst 3, 1) := by decide +kernel
theorem dX10_isQuiet_50 : decode cX10_isQuiet 50 = .ok (.iadd, 1) := by decide +kernel
theorem dX10_isQuiet_51 : decode cX10_isQuiet 51 = .ok (.iaload, 1) := by decide +kernel
theorem dX10_isQuiet_52 : decode cX10_isQuiet 52 = .ok (.if_icmp .gt 7, 3) := by decide +kernel
theorem dX10_isQuiet_55 : decode cX10_isQuiet 55 = .ok (.iconst 1, 1) := by decide +kernel
theorem dX10_isQuiet_56 : decode cX10_isQuiet 56 = .ok (.goto 4, 3) := by decide +kernel
theorem dX10_isQuiet_59 : decode cX10_isQuiet 59 = .ok (.iconst 0, 1) := by decide +kernel
theorem dX10_isQuiet_60 : decode cX10_isQuiet 60 = .ok (.istore_n 3, 1) := by decide +kernel
theorem dX10_isQuiet_61 : decode cX10_isQuiet 61 = .ok (.iinc 4 1, 3) := by decide +kernel
theorem dX10_isQuiet_64 : decode cX10_isQuiet 64 = .ok (.goto (-54), 3) := by decide +kernel
theorem dX10_isQuiet_67 : decode cX10_isQuiet 67 = .ok (.iload_n 3, 1) := by decide +kernel
theorem dX10_isQuiet_68 : decode cX10_isQuiet 68 = .ok (.ireturn, 1) := by decide +kernel
theorem dX10_way_0 : decode cX10_way 0 = .ok (.aload_n 0, 1) := by decide +kernel
theorem dX10_way_1 : decode cX10_way 1 = .ok (.iload_n 1, 1) := by decide +kernel
theorem dX10_way_2 : decode cX10_way 2 = .ok (.invokevirtual 208, 3) := by decide +kernel
theorem dX10_way_5 : decode cX10_way 5 = .ok (.ifCond .eq 18, 3) := by decide +kernel
theorem dX10_way_8 : decode cX10_way 8 = .ok (.aload_n 0, 1) := by decide +kernel
theorem dX10_way_9 : decode cX10_way 9 = .ok (.iload_n 2, 1) := by decide +kernel
theorem dX10_way_10 : decode cX10_way 10 = .ok (.invokevirtual 208, 3) := by decide +kernel
theorem dX10_way_13 : decode cX10_way 13 = .ok (.ifCond .eq 10, 3) := by decide +kernel
theorem dX10_way_16 : decode cX10_way 16 = .ok (.iload_n 3, 1) := by decide +kernel
theorem dX10_way_17 : decode cX10_way 17 = .ok (.invokestatic 269, 3) := by decide +kernel
theorem dX10_way_20 : decode cX10_way 20 = .ok (.ifCond .ne 5, 3) := by decide +kernel
theorem dX10_way_23 : decode cX10_way 23 = .ok (.iconst (-1), 1) := by decide +kernel
theorem dX10_way_24 : decode cX10_way 24 = .ok (.ireturn, 1) := by decide +kernel
theorem dX10_way_25 : decode cX10_way 25 = .ok (.aload_n 0, 1) := by decide +kernel
theorem dX10_way_26 : decode cX10_way 26 = .ok (.invokevirtual 211, 3) := by decide +kernel
theorem dX10_way_29 : decode cX10_way 29 = .ok (.aload_n 0, 1) := by decide +kernel
theorem dX10_way_30 : decode cX10_way 30 = .ok (.getfield 7, 3) := by decide +kernel
theorem dX10_way_33 : decode cX10_way 33 = .ok (.aload_n 0, 1) := by decide +kernel
theorem dX10_way_34 : decode cX10_way 34 = .ok (.getfield 13, 3) := by decide +kernel
theorem dX10_way_37 : decode cX10_way 37 = .ok (.imul, 1) := by decide +kernel
theorem dX10_way_38 : decode cX10_way 38 = .ok (.istore 4, 2) := by decide +kernel
theorem dX10_way_40 : decode cX10_way 40 = .ok (.iconst 0, 1) := by decide +kernel
theorem dX10_way_41 : decode cX10_way 41 = .ok (.istore 5, 2) := by decide +kernel
theorem dX10_way_43 : decode cX10_way 43 = .ok (.iconst 0, 1) := by decide +kernel
theorem dX10_way_44 : decode cX10_way 44 = .ok (.istore 6, 2) := by decide +kernel
theorem dX10_way_46 : decode cX10_way 46 = .ok (.iload 6, 2) := by decide +kernel
theorem dX10_way_48 : decode cX10_way 48 = .ok (.iload 4, 2) := by decide +kernel
theorem dX10_way_50 : decode cX10_way 50 = .ok (.if_icmp .ge 52, 3) := by decide +kernel
theorem dX10_way_53 : decode cX10_way 53 = .ok (.iload 5, 2) := by decide +kernel
theorem dX10_way_55 : decode cX10_way 55 = .ok (.aload_n 0, 1) := by decide +kernel
theorem dX10_way_56 : decode cX10_way 56 = .ok (.iload 6, 2) := by decide +kernel
theorem dX10_way_58 : decode cX10_way 58 = .ok (.iload_n 3, 1) := by decide +kernel
theorem dX10_way_59 : decode cX10_way 59 = .ok (.invokevirtual 272, 3) := by decide +kernel
theorem dX10_way_62 : decode cX10_way 62 = .ok (.ifCond .eq 10, 3) := by decide +kernel
theorem dX10_way_65 : decode cX10_way 65 = .ok (.iconst 1, 1) := by decide +kernel
theorem dX10_way_66 : decode cX10_way 66 = .ok (.iload 6, 2) := by decide +kernel
theorem dX10_way_68 : decode cX10_way 68 = .ok (.ishl, 1) := by decide +kernel
theorem dX10_way_69 : decode cX10_way 69 = .ok (.goto 4, 3) := by decide +kernel
theorem dX10_way_72 : decode cX10_way 72 = .ok (.iconst 0, 1) := by decide +kernel
theorem dX10_way_73 : decode cX10_way 73 = .ok (.ior, 1) := by decide +kernel
theorem dX10_way_74 : decode cX10_way 74 = .ok (.istore 5, 2) := by decide +kernel
theorem dX10_way_76 : decode cX10_way 76 = .ok (.aload_n 0, 1) := by decide +kernel
theorem dX10_way_77 : decode cX10_way 77 = .ok (.getfield 84, 3) := by decide +kernel
theorem dX10_way_80 : decode cX10_way 80 = .ok (.iload 6, 2) := by decide +kernel
theorem dX10_way_82 : decode cX10_way 82 = .ok (.iload 6, 2) := by decide +kernel
theorem dX10_way_84 : decode cX10_way 84 = .ok (.iload_n 1, 1) := by decide +kernel
theorem dX10_way_85 : decode cX10_way 85 = .ok (.if_icmp .ne 7, 3) := by decide +kernel
theorem dX10_way_88 : decode cX10_way 88 = .ok (.iconst 0, 1) := by decide +kernel
theorem dX10_way_89 : decode cX10_way 89 = .ok (.goto 6, 3) := by decide +kernel
theorem dX10_way_92 : decode cX10_way 92 = .ok (.sipush 10000, 3) := by decide +kernel
theorem dX10_way_95 : decode cX10_way 95 = .ok (.iastore, 1) := by decide +kernel
theorem dX10_way_96 : decode cX10_way 96 = .ok (.iinc 6 1, 3) := by decide +kernel
theorem dX10_way_99 : decode cX10_way 99 = .ok (.goto (-53), 3) := by decide +kernel
theorem dX10_way_102 : decode cX10_way 102 = .ok (.iload 5, 2) := by decide +kernel
theorem dX10_way_104 : decode cX10_way 104 = .ok (.iload_n 1, 1) := by decide +kernel
theorem dX10_way_105 : decode cX10_way 105 = .ok (.invokestatic 238, 3) := by decide +kernel
theorem dX10_way_108 : decode cX10_way 108 = .ok (.ifCond .ne 6, 3) := by decide +kernel
theorem dX10_way_111 : decode cX10_way 111 = .ok (.bipush (-9), 2) := by decide +kernel
theorem dX10_way_113 : decode cX10_way 113 = .ok (.ireturn, 1) := by decide +kernel
theorem dX10_way_114 : decode cX10_way 114 = .ok (.iconst 0, 1) := by decide +kernel
theorem dX10_way_115 : decode cX10_way 115 = .ok (.istore 6, 2) := by decide +kernel
theorem dX10_way_117 : decode cX10_way 117 = .ok (.iload 6, 2) := by decide +kernel
theorem dX10_way_119 : decode cX10_way 119 = .ok (.iload 4, 2) := by decide +kernel
theorem dX10_way_121 : decode cX10_way 121 = .ok (.if_icmp .ge 120, 3) := by decide +kernel
theorem dX10_way_124 : decode cX10_way 124 = .ok (.iconst 0, 1) := by decide +kernel
theorem dX10_way_125 : decode cX10_way 125 = .ok (.istore 7, 2) := by decide +kernel
theorem dX10_way_127 : decode cX10_way 127 = .ok (.iload 7, 2) := by decide +kernel
theorem dX10_way_129 : decode cX10_way 129 = .ok (.iload 4, 2) := by decide +kernel
theorem dX10_way_131 : decode cX10_way 131 = .ok (.iload 4, 2) := by decide +kernel
theorem dX10_way_133 : decode cX10_way 133 = .ok (.imul, 1) := by decide +kernel
theorem dX10_way_134 : decode cX10_way 134 = .ok (.if_icmp .ge 101, 3) := by decide +kernel
theorem dX10_way_137 : decode cX10_way 137 = .ok (.iload 7, 2) := by decide +kernel
theorem dX10_way_139 : decode cX10_way 139 = .ok (.iload 4, 2) := by decide +kernel
theorem dX10_way_141 : decode cX10_way 141 = .ok (.idiv, 1) := by decide +kernel
theorem dX10_way_142 : decode cX10_way 142 = .ok (.istore 8, 2) := by decide +kernel
theorem dX10_way_144 : decode cX10_way 144 = .ok (.iload 7, 2) := by decide +kernel
theorem dX10_way_146 : decode cX10_way 146 = .ok (.iload 4, 2) := by decide +kernel
theorem dX10_way_148 : decode cX10_way 148 = .ok (.irem, 1) := by decide +kernel
theorem dX10_way_149 : decode cX10_way 149 = .ok (.istore 9, 2) := by decide +kernel
theorem dX10_way_151 : decode cX10_way 151 = .ok (.aload_n 0, 1) := by decide +kernel
theorem dX10_way_152 : decode cX10_way 152 = .ok (.iload 8, 2) := by decide +kernel
theorem dX10_way_154 : decode cX10_way 154 = .ok (.iload 9, 2) := by decide +kernel
theorem dX10_way_156 : decode cX10_way 156 = .ok (.invokevirtual 187, 3) := by decide +kernel
theorem dX10_way_159 : decode cX10_way 159 = .ok (.ifCond .eq 36, 3) := by decide +kernel
theorem dX10_way_162 : decode cX10_way 162 = .ok (.iload 5, 2) := by decide +kernel
theorem dX10_way_164 : decode cX10_way 164 = .ok (.iload 9, 2) := by decide +kernel
theorem dX10_way_166 : decode cX10_way 166 = .ok (.invokestatic 238, 3) := by decide +kernel
theorem dX10_way_169 : decode cX10_way 169 = .ok (.ifCond .eq 26, 3) := by decide +kernel
theorem dX10_way_172 : decode cX10_way 172 = .ok (.aload_n 0, 1) := by decide +kernel
theorem dX10_way_173 : decode cX10_way 173 = .ok (.getfield 84, 3) := by decide +kernel
theorem dX10_way_176 : decode cX10_way 176 = .ok (.iload 8, 2) := by decide +kernel
theorem dX10_way_178 : decode cX10_way 178 = .ok (.iaload, 1) := by decide +kernel
theorem dX10_way_179 : decode cX10_way 179 = .ok (.iconst 1, 1) := by decide +kernel
theorem dX10_way_180 : decode cX10_way 180 = .ok (.iadd, 1) := by decide +kernel
theorem dX10_way_181 : decode cX10_way 181 = .ok (.aload_n 0, 1) := by decide +kernel
theorem dX10_way_182 : decode cX10_way 182 = .ok (.getfield 84, 3) := by decide +kernel
theorem dX10_way_185 : decode cX10_way 185 = .ok (.iload 9, 2) := by decide +kernel
theorem dX10_way_187 : decode cX10_way 187 = .ok (.iaload, 1) := by decide +kernel
theorem dX10_way_188 : decode cX10_way 188 = .ok (.if_icmp .ge 7, 3) := by decide +kernel
theorem dX10_way_191 : decode cX10_way 191 = .ok (.iconst 1, 1) := by decide +kernel
theorem dX10_way_192 : decode cX10_way 192 = .ok (.goto 4, 3) := by decide +kernel
theorem dX10_way_195 : decode cX10_way 195 = .ok (.iconst 0, 1) := by decide +kernel
theorem dX10_way_196 : decode cX10_way 196 = .ok (.istore 10, 2) := by decide +kernel
theorem dX10_way_198 : decode cX10_way 198 = .ok (.aload_n 0, 1) := by decide +kernel
theorem dX10_way_199 : decode cX10_way 199 = .ok (.getfield 84, 3) := by decide +kernel
theorem dX10_way_202 : decode cX10_way 202 = .ok (.iload 9, 2) := by decide +kernel
theorem dX10_way_204 : decode cX10_way 204 = .ok (.iload 10, 2) := by decide +kernel
theorem dX10_way_206 : decode cX10_way 206 = .ok (.ifCond .eq 15, 3) := by decide +kernel
theorem dX10_way_209 : decode cX10_way 209 = .ok (.aload_n 0, 1) := by decide +kernel
theorem dX10_way_210 : decode cX10_way 210 = .ok (.getfield 84, 3) := by decide +kernel
theorem dX10_way_213 : decode cX10_way 213 = .ok (.iload 8, 2) := by decide +kernel
theorem dX10_way_215 : decode cX10_way 215 = .ok (.iaload, 1) := by decide +kernel
theorem dX10_way_216 : decode cX10_way 216 = .ok (.iconst 1, 1) := by decide +kernel
theorem dX10_way_217 : decode cX10_way 217 = .ok (.iadd, 1) := by decide +kernel
theorem dX10_way_218 : decode cX10_way 218 = .ok (.goto 10, 3) := by decide +kernel
theorem dX10_way_221 : decode cX10_way 221 = .ok (.aload_n 0, 1) := by decide +kernel
theorem dX10_way_222 : decode cX10_way 222 = .ok (.getfield 84, 3) := by decide +kernel
theorem dX10_way_225 : decode cX10_way 225 = .ok (.iload 9, 2) := by decide +kernel
theorem dX10_way_227 : decode cX10_way 227 = .ok (.iaload, 1) := by decide +kernel
theorem dX10_way_228 : decode cX10_way 228 = .ok (.iastore, 1) := by decide +kernel
theorem dX10_way_229 : decode cX10_way 229 = .ok (.iinc 7 1, 3) := by decide +kernel
theorem dX10_way_232 : decode cX10_way 232 = .ok (.goto (-105), 3) := by decide +kernel
theorem dX10_way_235 : decode cX10_way 235 = .ok (.iinc 6 1, 3) := by decide +kernel
theorem dX10_way_238 : decode cX10_way 238 = .ok (.goto (-121), 3) := by decide +kernel
theorem dX10_way_241 : decode cX10_way 241 = .ok (.aload_n 0, 1) := by decide +kernel
theorem dX10_way_242 : decode cX10_way 242 = .ok (.getfield 84, 3) := by decide +kernel
theorem dX10_way_245 : decode cX10_way 245 = .ok (.iload_n 2, 1) := by decide +kernel
theorem dX10_way_246 : decode cX10_way 246 = .ok (.iaload, 1) := by decide +kernel
theorem dX10_way_247 : decode cX10_way 247 = .ok (.sipush 10000, 3) := by decide +kernel
theorem dX10_way_250 : decode cX10_way 250 = .ok (.if_icmp .ge 12, 3) := by decide +kernel
theorem dX10_way_253 : decode cX10_way 253 = .ok (.aload_n 0, 1) := by decide +kernel
theorem dX10_way_254 : decode cX10_way 254 = .ok (.getfield 84, 3) := by decide +kernel
theorem dX10_way_257 : decode cX10_way 257 = .ok (.iload_n 2, 1) := by decide +kernel
theorem dX10_way_258 : decode cX10_way 258 = .ok (.iaload, 1) := by decide +kernel
theorem dX10_way_259 : decode cX10_way 259 = .ok (.goto 5, 3) := by decide +kernel
theorem dX10_way_262 : decode cX10_way 262 = .ok (.bipush (-9), 2) := by decide +kernel
theorem dX10_way_264 : decode cX10_way 264 = .ok (.ireturn, 1) := by decide +kernel
theorem dX10_tap_0 : decode cX10_tap 0 = .ok (.aload_n 0, 1) := by decide +kernel
theorem dX10_tap_1 : decode cX10_tap 1 = .ok (.iload_n 1, 1) := by decide +kernel
theorem dX10_tap_2 : decode cX10_tap 2 = .ok (.invokevirtual 208, 3) := by decide +kernel
theorem dX10_tap_5 : decode cX10_tap 5 = .ok (.ifCond .eq 29, 3) := by decide +kernel
theorem dX10_tap_8 : decode cX10_tap 8 = .ok (.iload_n 2, 1) := by decide +kernel
theorem dX10_tap_9 : decode cX10_tap 9 = .ok (.invokestatic 269, 3) := by decide +kernel
theorem dX10_tap_12 : decode cX10_tap 12 = .ok (.ifCond .eq 22, 3) := by decide +kernel
theorem dX10_tap_15 : decode cX10_tap 15 = .ok (.aload_n 0, 1) := by decide +kernel
theorem dX10_tap_16 : decode cX10_tap 16 = .ok (.iload_n 3, 1) := by decide +kernel
theorem dX10_tap_17 : decode cX10_tap 17 = .ok (.invokevirtual 208, 3) := by decide +kernel
theorem dX10_tap_20 : decode cX10_tap 20 = .ok (.ifCond .eq 14, 3) := by decide +kernel
theorem dX10_tap_23 : decode cX10_tap 23 = .ok (.iload 4, 2) := by decide +kernel
theorem dX10_tap_25 : decode cX10_tap 25 = .ok (.iconst 0, 1) := by decide +kernel
theorem dX10_tap_26 : decode cX10_tap 26 = .ok (.bipush 99, 2) := by decide +kernel
theorem dX10_tap_28 : decode cX10_tap 28 = .ok (.invokestatic 90, 3) := by decide +kernel
theorem dX10_tap_31 : decode cX10_tap 31 = .ok (.ifCond .ne 5, 3) := by decide +kernel
theorem dX10_tap_34 : decode cX10_tap 34 = .ok (.iconst (-1), 1) := by decide +kernel
theorem dX10_tap_35 : decode cX10_tap 35 = .ok (.ireturn, 1) := by decide +kernel
theorem dX10_tap_36 : decode cX10_tap 36 = .ok (.aload_n 0, 1) := by decide +kernel
theorem dX10_tap_37 : decode cX10_tap 37 = .ok (.getfield 177, 3) := by decide +kernel
theorem dX10_tap_40 : decode cX10_tap 40 = .ok (.iconst 4, 1) := by decide +kernel
theorem dX10_tap_41 : decode cX10_tap 41 = .ok (.if_icmp .ne 6, 3) := by decide +kernel
theorem dX10_tap_44 : decode cX10_tap 44 = .ok (.bipush (-3), 2) := by decide +kernel
theorem dX10_tap_46 : decode cX10_tap 46 = .ok (.ireturn, 1) := by decide +kernel
theorem dX10_tap_47 : decode cX10_tap 47 = .ok (.aload_n 0, 1) := by decide +kernel
theorem dX10_tap_48 : decode cX10_tap 48 = .ok (.getfield 45, 3) := by decide +kernel
theorem dX10_tap_51 : decode cX10_tap 51 = .ok (.iconst 4, 1) := by decide +kernel
theorem dX10_tap_52 : decode cX10_tap 52 = .ok (.aload_n 0, 1) := by decide +kernel
theorem dX10_tap_53 : decode cX10_tap 53 = .ok (.getfield 177, 3) := by decide +kernel
theorem dX10_tap_56 : decode cX10_tap 56 = .ok (.imul, 1) := by decide +kernel
theorem dX10_tap_57 : decode cX10_tap 57 = .ok (.iload_n 1, 1) := by decide +kernel
theorem dX10_tap_58 : decode cX10_tap 58 = .ok (.iastore, 1) := by decide +kernel
theorem dX10_tap_59 : decode cX10_tap 59 = .ok (.aload_n 0, 1) := by decide +kernel
theorem dX10_tap_60 : decode cX10_tap 60 = .ok (.getfield 45, 3) := by decide +kernel
theorem dX10_tap_63 : decode cX10_tap 63 = .ok (.iconst 4, 1) := by decide +kernel
theorem dX10_tap_64 : decode cX10_tap 64 = .ok (.aload_n 0, 1) := by decide +kernel
theorem dX10_tap_65 : decode cX10_tap 65 = .ok (.getfield 177, 3) := by decide +kernel
theorem dX10_tap_68 : decode cX10_tap 68 = .ok (.imul, 1) := by decide +kernel
theorem dX10_tap_69 : decode cX10_tap 69 = .ok (.iconst 1, 1) := by decide +kernel
theorem dX10_tap_70 : decode cX10_tap 70 = .ok (.iadd, 1) := by decide +kernel
theorem dX10_tap_71 : decode cX10_tap 71 = .ok (.iload_n 2, 1) := by decide +kernel
theorem dX10_tap_72 : decode cX10_tap 72 = .ok (.iastore, 1) := by decide +kernel
theorem dX10_tap_73 : decode cX10_tap 73 = .ok (.aload_n 0, 1) := by decide +kernel
theorem dX10_tap_74 : decode cX10_tap 74 = .ok (.getfield 45, 3) := by decide +kernel
theorem dX10_tap_77 : decode cX10_tap 77 = .ok (.iconst 4, 1) := by decide +kernel
theorem dX10_tap_78 : decode cX10_tap 78 = .ok (.aload_n 0, 1) := by decide +kernel
theorem dX10_tap_79 : decode cX10_tap 79 = .ok (.getfield 177, 3) := by decide +kernel
theorem dX10_tap_82 : decode cX10_tap 82 = .ok (.imul, 1) := by decide +kernel
theorem dX10_tap_83 : decode cX10_tap 83 = .ok (.iconst 2, 1) := by decide +kernel
theorem dX10_tap_84 : decode cX10_tap 84 = .ok (.iadd, 1) := by decide +kernel
theorem dX10_tap_85 : decode cX10_tap 85 = .ok (.iload_n 3, 1) := by decide +kernel
theorem dX10_tap_86 : decode cX10_tap 86 = .ok (.iastore, 1) := by decide +kernel
theorem dX10_tap_87 : decode cX10_tap 87 = .ok (.aload_n 0, 1) := by decide +kernel
theorem dX10_tap_88 : decode cX10_tap 88 = .ok (.getfield 45, 3) := by decide +kernel
theorem dX10_tap_91 : decode cX10_tap 91 = .ok (.iconst 4, 1) := by decide +kernel
theorem dX10_tap_92 : decode cX10_tap 92 = .ok (.aload_n 0, 1) := by decide +kernel
theorem dX10_tap_93 : decode cX10_tap 93 = .ok (.getfield 177, 3) := by decide +kernel
theorem dX10_tap_96 : decode cX10_tap 96 = .ok (.imul, 1) := by decide +kernel
theorem dX10_tap_97 : decode cX10_tap 97 = .ok (.iconst 3, 1) := by decide +kernel
theorem dX10_tap_98 : decode cX10_tap 98 = .ok (.iadd, 1) := by decide +kernel
theorem dX10_tap_99 : decode cX10_tap 99 = .ok (.iload 4, 2) := by decide +kernel
theorem dX10_tap_101 : decode cX10_tap 101 = .ok (.iastore, 1) := by decide +kernel
theorem dX10_tap_102 : decode cX10_tap 102 = .ok (.aload_n 0, 1) := by decide +kernel
theorem dX10_tap_103 : decode cX10_tap 103 = .ok (.dup, 1) := by decide +kernel
theorem dX10_tap_104 : decode cX10_tap 104 = .ok (.getfield 177, 3) := by decide +kernel
theorem dX10_tap_107 : decode cX10_tap 107 = .ok (.iconst 1, 1) := by decide +kernel
theorem dX10_tap_108 : decode cX10_tap 108 = .ok (.iadd, 1) := by decide +kernel
theorem dX10_tap_109 : decode cX10_tap 109 = .ok (.putfield 177, 3) := by decide +kernel
theorem dX10_tap_112 : decode cX10_tap 112 = .ok (.aload_n 0, 1) := by decide +kernel
theorem dX10_tap_113 : decode cX10_tap 113 = .ok (.getfield 177, 3) := by decide +kernel
theorem dX10_tap_116 : decode cX10_tap 116 = .ok (.ireturn, 1) := by decide +kernel
theorem dX10_mayBe_0 : decode cX10_mayBe 0 = .ok (.iconst 0, 1) := by decide +kernel
theorem dX10_mayBe_1 : decode cX10_mayBe 1 = .ok (.istore_n 1, 1) := by decide +kernel
theorem dX10_mayBe_2 : decode cX10_mayBe 2 = .ok (.iconst 0, 1) := by decide +kernel
theorem dX10_mayBe_3 : decode cX10_mayBe 3 = .ok (.istore_n 2, 1) := by decide +kernel
theorem dX10_mayBe_4 : decode cX10_mayBe 4 = .ok (.iload_n 2, 1) := by decide +kernel
theorem dX10_mayBe_5 : decode cX10_mayBe 5 = .ok (.aload_n 0, 1) := by decide +kernel
theorem dX10_mayBe_6 : decode cX10_mayBe 6 = .ok (.getfield 94, 3) := by decide +kernel
theorem dX10_mayBe_9 : decode cX10_mayBe 9 = .ok (.if_icmp .ge 136, 3) := by decide +kernel
theorem dX10_mayBe_12 : decode cX10_mayBe 12 = .ok (.aload_n 0, 1) := by decide +kernel
theorem dX10_mayBe_13 : decode cX10_mayBe 13 = .ok (.invokevirtual 211, 3) := by decide +kernel
theorem dX10_mayBe_16 : decode cX10_mayBe 16 = .ok (.aload_n 0, 1) := by decide +kernel
theorem dX10_mayBe_17 : decode cX10_mayBe 17 = .ok (.getfield 66, 3) := by decide +kernel
theorem dX10_mayBe_20 : decode cX10_mayBe 20 = .ok (.iload_n 2, 1) := by decide +kernel
theorem dX10_mayBe_21 : decode cX10_mayBe 21 = .ok (.iconst 0, 1) := by decide +kernel
theorem dX10_mayBe_22 : decode cX10_mayBe 22 = .ok (.iastore, 1) := by decide +kernel
theorem dX10_mayBe_23 : decode cX10_mayBe 23 = .ok (.aload_n 0, 1) := by decide +kernel
theorem dX10_mayBe_24 : decode cX10_mayBe 24 = .ok (.getfield 63, 3) := by decide +kernel
theorem dX10_mayBe_27 : decode cX10_mayBe 27 = .ok (.iload_n 2, 1) := by decide +kernel
theorem dX10_mayBe_28 : decode cX10_mayBe 28 = .ok (.iaload, 1) := by decide +kernel
theorem dX10_mayBe_29 : decode cX10_mayBe 29 = .ok (.bipush (-9), 2) := by decide +kernel
theorem dX10_mayBe_31 : decode cX10_mayBe 31 = .ok (.if_icmp .eq 7, 3) := by decide +kernel
theorem dX10_mayBe_34 : decode cX10_mayBe 34 = .ok (.iconst 1, 1) := by decide +kernel
theorem dX10_mayBe_35 : decode cX10_mayBe 35 = .ok (.goto 4, 3) := by decide +kernel
theorem dX10_mayBe_38 : decode cX10_mayBe 38 = .ok (.iconst 0, 1) := by decide +kernel
theorem dX10_mayBe_39 : decode cX10_mayBe 39 = .ok (.istore_n 3, 1) := by decide +kernel
theorem dX10_mayBe_40 : decode cX10_mayBe 40 = .ok (.iconst 0, 1) := by decide +kernel
theorem dX10_mayBe_41 : decode cX10_mayBe 41 = .ok (.istore 4, 2) := by decide +kernel
theorem dX10_mayBe_43 : decode cX10_mayBe 43 = .ok (.iload 4, 2) := by decide +kernel
theorem dX10_mayBe_45 : decode cX10_mayBe 45 = .ok (.aload_n 0, 1) := by decide +kernel
theorem dX10_mayBe_46 : decode cX10_mayBe 46 = .ok (.getfield 177, 3) := by decide +kernel
theorem dX10_mayBe_49 : decode cX10_mayBe 49 = .ok (.if_icmp .ge 76, 3) := by decide +kernel
theorem dX10_mayBe_52 : decode cX10_mayBe 52 = .ok (.iload_n 3, 1) := by decide +kernel
theorem dX10_mayBe_53 : decode cX10_mayBe 53 = .ok (.ifCond .eq 72, 3) := by decide +kernel
theorem dX10_mayBe_56 : decode cX10_mayBe 56 = .ok (.aload_n 0, 1) := by decide +kernel
theorem dX10_mayBe_57 : decode cX10_mayBe 57 = .ok (.aload_n 0, 1) := by decide +kernel
theorem dX10_mayBe_58 : decode cX10_mayBe 58 = .ok (.getfield 45, 3) := by decide +kernel
theorem dX10_mayBe_61 : decode cX10_mayBe 61 = .ok (.iconst 4, 1) := by decide +kernel
theorem dX10_mayBe_62 : decode cX10_mayBe 62 = .ok (.iload 4, 2) := by decide +kernel
theorem dX10_mayBe_64 : decode cX10_mayBe 64 = .ok (.imul, 1) := by decide +kernel
theorem dX10_mayBe_65 : decode cX10_mayBe 65 = .ok (.iaload, 1) := by decide +kernel
theorem dX10_mayBe_66 : decode cX10_mayBe 66 = .ok (.invokevirtual 197, 3) := by decide +kernel
theorem dX10_mayBe_69 : decode cX10_mayBe 69 = .ok (.aload_n 0, 1) := by decide +kernel
theorem dX10_mayBe_70 : decode cX10_mayBe 70 = .ok (.getfield 45, 3) := by decide +kernel
theorem dX10_mayBe_73 : decode cX10_mayBe 73 = .ok (.iconst 4, 1) := by decide +kernel
theorem dX10_mayBe_74 : decode cX10_mayBe 74 = .ok (.iload 4, 2) := by decide +kernel
theorem dX10_mayBe_76 : decode cX10_mayBe 76 = .ok (.imul, 1) := by decide +kernel
theorem dX10_mayBe_77 : decode cX10_mayBe 77 = .ok (.iconst 1, 1) := by decide +kernel
theorem dX10_mayBe_78 : decode cX10_mayBe 78 = .ok (.iadd, 1) := by decide +kernel
theorem dX10_mayBe_79 : decode cX10_mayBe 79 = .ok (.iaload, 1) := by decide +kernel
theorem dX10_mayBe_80 : decode cX10_mayBe 80 = .ok (.aload_n 0, 1) := by decide +kernel
theorem dX10_mayBe_81 : decode cX10_mayBe 81 = .ok (.getfield 72, 3) := by decide +kernel
theorem dX10_mayBe_84 : decode cX10_mayBe 84 = .ok (.aload_n 0, 1) := by decide +kernel
theorem dX10_mayBe_85 : decode cX10_mayBe 85 = .ok (.getfield 45, 3) := by decide +kernel
theorem dX10_mayBe_88 : decode cX10_mayBe 88 = .ok (.iconst 4, 1) := by decide +kernel
theorem dX10_mayBe_89 : decode cX10_mayBe 89 = .ok (.iload 4, 2) := by decide +kernel
theorem dX10_mayBe_91 : decode cX10_mayBe 91 = .ok (.imul, 1) := by decide +kernel
theorem dX10_mayBe_92 : decode cX10_mayBe 92 = .ok (.iconst 2, 1) := by decide +kernel
theorem dX10_mayBe_93 : decode cX10_mayBe 93 = .ok (.iadd, 1) := by decide +kernel
theorem dX10_mayBe_94 : decode cX10_mayBe 94 = .ok (.iaload, 1) := by decide +kernel
theorem dX10_mayBe_95 : decode cX10_mayBe 95 = .ok (.iaload, 1) := by decide +kernel
theorem dX10_mayBe_96 : decode cX10_mayBe 96 = .ok (.invokestatic 201, 3) := by decide +kernel
theorem dX10_mayBe_99 : decode cX10_mayBe 99 = .ok (.aload_n 0, 1) := by decide +kernel
theorem dX10_mayBe_100 : decode cX10_mayBe 100 = .ok (.getfield 45, 3) := by decide +kernel
theorem dX10_mayBe_103 : decode cX10_mayBe 103 = .ok (.iconst 4, 1) := by decide +kernel
theorem dX10_mayBe_104 : decode cX10_mayBe 104 = .ok (.iload 4, 2) := by decide +kernel
theorem dX10_mayBe_106 : decode cX10_mayBe 106 = .ok (.imul, 1) := by decide +kernel
theorem dX10_mayBe_107 : decode cX10_mayBe 107 = .ok (.iconst 3, 1) := by decide +kernel
theorem dX10_mayBe_108 : decode cX10_mayBe 108 = .ok (.iadd, 1) := by decide +kernel
theorem dX10_mayBe_109 : decode cX10_mayBe 109 = .ok (.iaload, 1) := by decide +kernel
theorem dX10_mayBe_110 : decode cX10_mayBe 110 = .ok (.if_icmp .ne 7, 3) := by decide +kernel
theorem dX10_mayBe_113 : decode cX10_mayBe 113 = .ok (.iconst 1, 1) := by decide +kernel
theorem dX10_mayBe_114 : decode cX10_mayBe 114 = .ok (.goto 4, 3) := by decide +kernel
theorem dX10_mayBe_117 : decode cX10_mayBe 117 = .ok (.iconst 0, 1) := by decide +kernel
theorem dX10_mayBe_118 : decode cX10_mayBe 118 = .ok (.istore_n 3, 1) := by decide +kernel
theorem dX10_mayBe_119 : decode cX10_mayBe 119 = .ok (.iinc 4 1, 3) := by decide +kernel
theorem dX10_mayBe_122 : decode cX10_mayBe 122 = .ok (.goto (-79), 3) := by decide +kernel
theorem dX10_mayBe_125 : decode cX10_mayBe 125 = .ok (.iload_n 1, 1) := by decide +kernel
theorem dX10_mayBe_126 : decode cX10_mayBe 126 = .ok (.iload_n 3, 1) := by decide +kernel
theorem dX10_mayBe_127 : decode cX10_mayBe 127 = .ok (.ifCond .eq 9, 3) := by decide +kernel
theorem dX10_mayBe_130 : decode cX10_mayBe 130 = .ok (.iconst 1, 1) := by decide +kernel
theorem dX10_mayBe_131 : decode cX10_mayBe 131 = .ok (.iload_n 2, 1) := by decide +kernel
theorem dX10_mayBe_132 : decode cX10_mayBe 132 = .ok (.ishl, 1) := by decide +kernel
theorem dX10_mayBe_133 : decode cX10_mayBe 133 = .ok (.goto 4, 3) := by decide +kernel
theorem dX10_mayBe_136 : decode cX10_mayBe 136 = .ok (.iconst 0, 1) := by decide +kernel
theorem dX10_mayBe_137 : decode cX10_mayBe 137 = .ok (.ior, 1) := by decide +kernel
theorem dX10_mayBe_138 : decode cX10_mayBe 138 = .ok (.istore_n 1, 1) := by decide +kernel
theorem dX10_mayBe_139 : decode cX10_mayBe 139 = .ok (.iinc 2 1, 3) := by decide +kernel
theorem dX10_mayBe_142 : decode cX10_mayBe 142 = .ok (.goto (-138), 3) := by decide +kernel
theorem dX10_mayBe_145 : decode cX10_mayBe 145 = .ok (.iload_n 1, 1) := by decide +kernel
theorem dX10_mayBe_146 : decode cX10_mayBe 146 = .ok (.ireturn, 1) := by decide +kernel
theorem dX10_odds_0 : decode cX10_odds 0 = .ok (.iload_n 1, 1) := by decide +kernel
theorem dX10_odds_1 : decode cX10_odds 1 = .ok (.iconst 0, 1) := by decide +kernel
theorem dX10_odds_2 : decode cX10_odds 2 = .ok (.aload_n 0, 1) := by decide +kernel
theorem dX10_odds_3 : decode cX10_odds 3 = .ok (.getfield 168, 3) := by decide +kernel
theorem dX10_odds_6 : decode cX10_odds 6 = .ok (.iconst 1, 1) := by decide +kernel
theorem dX10_odds_7 : decode cX10_odds 7 = .ok (.isub, 1) := by decide +kernel
theorem dX10_odds_8 : decode cX10_odds 8 = .ok (.invokestatic 90, 3) := by decide +kernel
theorem dX10_odds_11 : decode cX10_odds 11 = .ok (.ifCond .eq 22, 3) := by decide +kernel
theorem dX10_odds_14 : decode cX10_odds 14 = .ok (.iload_n 2, 1) := by decide +kernel
theorem dX10_odds_15 : decode cX10_odds 15 = .ok (.iconst 0, 1) := by decide +kernel
theorem dX10_odds_16 : decode cX10_odds 16 = .ok (.bipush 10, 2) := by decide +kernel
theorem dX10_odds_18 : decode cX10_odds 18 = .ok (.invokestatic 90, 3) := by decide +kernel
theorem dX10_odds_21 : decode cX10_odds 21 = .ok (.ifCond .eq 12, 3) := by decide +kernel
theorem dX10_odds_24 : decode cX10_odds 24 = .ok (.iload_n 3, 1) := by decide +kernel
theorem dX10_odds_25 : decode cX10_odds 25 = .ok (.iconst 0, 1) := by decide +kernel
theorem dX10_odds_26 : decode cX10_odds 26 = .ok (.iconst 1, 1) := by decide +kernel
theorem dX10_odds_27 : decode cX10_odds 27 = .ok (.invokestatic 90, 3) := by decide +kernel
theorem dX10_odds_30 : decode cX10_odds 30 = .ok (.ifCond .ne 5, 3) := by decide +kernel
theorem dX10_odds_33 : decode cX10_odds 33 = .ok (.iconst (-1), 1) := by decide +kernel
theorem dX10_odds_34 : decode cX10_odds 34 = .ok (.ireturn, 1) := by decide +kernel
theorem dX10_odds_35 : decode cX10_odds 35 = .ok (.aload_n 0, 1) := by decide +kernel
theorem dX10_odds_36 : decode cX10_odds 36 = .ok (.invokevirtual 211, 3) := by decide +kernel
theorem dX10_odds_39 : decode cX10_odds 39 = .ok (.iconst 1, 1) := by decide +kernel
theorem dX10_odds_40 : decode cX10_odds 40 = .ok (.istore 4, 2) := by decide +kernel
theorem dX10_odds_42 : decode cX10_odds 42 = .ok (.iconst 1, 1) := by decide +kernel
theorem dX10_odds_43 : decode cX10_odds 43 = .ok (.istore 5, 2) := by decide +kernel
theorem dX10_odds_45 : decode cX10_odds 45 = .ok (.iconst 0, 1) := by decide +kernel
theorem dX10_odds_46 : decode cX10_odds 46 = .ok (.istore 6, 2) := by decide +kernel
theorem dX10_odds_48 : decode cX10_odds 48 = .ok (.iload 6, 2) := by decide +kernel
theorem dX10_odds_50 : decode cX10_odds 50 = .ok (.aload_n 0, 1) := by decide +kernel
theorem dX10_odds_51 : decode cX10_odds 51 = .ok (.getfield 165, 3) := by decide +kernel
theorem dX10_odds_54 : decode cX10_odds 54 = .ok (.if_icmp .ge 78, 3) := by decide +kernel
theorem dX10_odds_57 : decode cX10_odds 57 = .ok (.aload_n 0, 1) := by decide +kernel
theorem dX10_odds_58 : decode cX10_odds 58 = .ok (.aload_n 0, 1) := by decide +kernel
theorem dX10_odds_59 : decode cX10_odds 59 = .ok (.getfield 19, 3) := by decide +kernel
theorem dX10_odds_62 : decode cX10_odds 62 = .ok (.iconst 4, 1) := by decide +kernel
theorem dX10_odds_63 : decode cX10_odds 63 = .ok (.iload 6, 2) := by decide +kernel
theorem dX10_odds_65 : decode cX10_odds 65 = .ok (.imul, 1) := by decide +kernel
theorem dX10_odds_66 : decode cX10_odds 66 = .ok (.iaload, 1) := by decide +kernel
theorem dX10_odds_67 : decode cX10_odds 67 = .ok (.invokevirtual 197, 3) := by decide +kernel
theorem dX10_odds_70 : decode cX10_odds 70 = .ok (.aload_n 0, 1) := by decide +kernel
theorem dX10_odds_71 : decode cX10_odds 71 = .ok (.getfield 19, 3) := by decide +kernel
theorem dX10_odds_74 : decode cX10_odds 74 = .ok (.iconst 4, 1) := by decide +kernel
theorem dX10_odds_75 : decode cX10_odds 75 = .ok (.iload 6, 2) := by decide +kernel
theorem dX10_odds_77 : decode cX10_odds 77 = .ok (.imul, 1) := by decide +kernel
theorem dX10_odds_78 : decode cX10_odds 78 = .ok (.iconst 1, 1) := by decide +kernel
theorem dX10_odds_79 : decode cX10_odds 79 = .ok (.iadd, 1) := by decide +kernel
theorem dX10_odds_80 : decode cX10_odds 80 = .ok (.iaload, 1) := by decide +kernel
theorem dX10_odds_81 : decode cX10_odds 81 = .ok (.aload_n 0, 1) := by decide +kernel
theorem dX10_odds_82 : decode cX10_odds 82 = .ok (.getfield 72, 3) := by decide +kernel
theorem dX10_odds_85 : decode cX10_odds 85 = .ok (.aload_n 0, 1) := by decide +kernel
theorem dX10_odds_86 : decode cX10_odds 86 = .ok (.getfield 26, 3) := by decide +kernel
theorem dX10_odds_89 : decode cX10_odds 89 = .ok (.iconst 4, 1) := by decide +kernel
theorem dX10_odds_90 : decode cX10_odds 90 = .ok (.iload_n 1, 1) := by decide +kernel
theorem dX10_odds_91 : decode cX10_odds 91 = .ok (.imul, 1) := by decide +kernel
theorem dX10_odds_92 : decode cX10_odds 92 = .ok (.iaload, 1) := by decide +kernel
theorem dX10_odds_93 : decode cX10_odds 93 = .ok (.iaload, 1) := by decide +kernel
theorem dX10_odds_94 : decode cX10_odds 94 = .ok (.invokestatic 201, 3) := by decide +kernel
theorem dX10_odds_97 : decode cX10_odds 97 = .ok (.aload_n 0, 1) := by decide +kernel
theorem dX10_odds_98 : decode cX10_odds 98 = .ok (.getfield 26, 3) := by decide +kernel
theorem dX10_odds_101 : decode cX10_odds 101 = .ok (.iconst 4, 1) := by decide +kernel
theorem dX10_odds_102 : decode cX10_odds 102 = .ok (.iload_n 1, 1) := by decide +kernel
theorem dX10_odds_103 : decode cX10_odds 103 = .ok (.imul, 1) := by decide +kernel
theorem dX10_odds_104 : decode cX10_odds 104 = .ok (.iconst 3, 1) := by decide +kernel
theorem dX10_odds_105 : decode cX10_odds 105 = .ok (.iadd, 1) := by decide +kernel
theorem dX10_odds_106 : decode cX10_odds 106 = .ok (.iaload, 1) := by decide +kernel
theorem dX10_odds_107 : decode cX10_odds 107 = .ok (.if_icmp .le 19, 3) := by decide +kernel
theorem dX10_odds_110 : decode cX10_odds 110 = .ok (.iload 4, 2) := by decide +kernel
theorem dX10_odds_112 : decode cX10_odds 112 = .ok (.bipush 10, 2) := by decide +kernel
theorem dX10_odds_114 : decode cX10_odds 114 = .ok (.iload_n 2, 1) := by decide +kernel
theorem dX10_odds_115 : decode cX10_odds 115 = .ok (.isub, 1) := by decide +kernel
theorem dX10_odds_116 : decode cX10_odds 116 = .ok (.imul, 1) := by decide +kernel
theorem dX10_odds_117 : decode cX10_odds 117 = .ok (.istore 4, 2) := by decide +kernel
theorem dX10_odds_119 : decode cX10_odds 119 = .ok (.iload 5, 2) := by decide +kernel
theorem dX10_odds_121 : decode cX10_odds 121 = .ok (.bipush 10, 2) := by decide +kernel
theorem dX10_odds_123 : decode cX10_odds 123 = .ok (.imul, 1) := by decide +kernel
theorem dX10_odds_124 : decode cX10_odds 124 = .ok (.istore 5, 2) := by decide +kernel
theorem dX10_odds_126 : decode cX10_odds 126 = .ok (.iinc 6 1, 3) := by decide +kernel
theorem dX10_odds_129 : decode cX10_odds 129 = .ok (.goto (-81), 3) := by decide +kernel
theorem dX10_odds_132 : decode cX10_odds 132 = .ok (.iload 4, 2) := by decide +kernel
theorem dX10_odds_134 : decode cX10_odds 134 = .ok (.istore 6, 2) := by decide +kernel
theorem dX10_odds_136 : decode cX10_odds 136 = .ok (.iload 5, 2) := by decide +kernel
theorem dX10_odds_138 : decode cX10_odds 138 = .ok (.istore 7, 2) := by decide +kernel
theorem dX10_odds_140 : decode cX10_odds 140 = .ok (.iload 7, 2) := by decide +kernel
theorem dX10_odds_142 : decode cX10_odds 142 = .ok (.ifCond .le 21, 3) := by decide +kernel
theorem dX10_odds_145 : decode cX10_odds 145 = .ok (.iload 6, 2) := by decide +kernel
theorem dX10_odds_147 : decode cX10_odds 147 = .ok (.iload 7, 2) := by decide +kernel
theorem dX10_odds_149 : decode cX10_odds 149 = .ok (.irem, 1) := by decide +kernel
theorem dX10_odds_150 : decode cX10_odds 150 = .ok (.istore 8, 2) := by decide +kernel
theorem dX10_odds_152 : decode cX10_odds 152 = .ok (.iload 7, 2) := by decide +kernel
theorem dX10_odds_154 : decode cX10_odds 154 = .ok (.istore 6, 2) := by decide +kernel
theorem dX10_odds_156 : decode cX10_odds 156 = .ok (.iload 8, 2) := by decide +kernel
theorem dX10_odds_158 : decode cX10_odds 158 = .ok (.istore 7, 2) := by decide +kernel
theorem dX10_odds_160 : decode cX10_odds 160 = .ok (.goto (-20), 3) := by decide +kernel
theorem dX10_odds_163 : decode cX10_odds 163 = .ok (.iload_n 3, 1) := by decide +kernel
theorem dX10_odds_164 : decode cX10_odds 164 = .ok (.ifCond .ne 8, 3) := by decide +kernel
theorem dX10_odds_167 : decode cX10_odds 167 = .ok (.iload 4, 2) := by decide +kernel
theorem dX10_odds_169 : decode cX10_odds 169 = .ok (.goto 5, 3) := by decide +kernel
theorem dX10_odds_172 : decode cX10_odds 172 = .ok (.iload 5, 2) := by decide +kernel
theorem dX10_odds_174 : decode cX10_odds 174 = .ok (.iload 6, 2) := by decide +kernel
theorem dX10_odds_176 : decode cX10_odds 176 = .ok (.idiv, 1) := by decide +kernel
theorem dX10_odds_177 : decode cX10_odds 177 = .ok (.ireturn, 1) := by decide +kernel
theorem dX10_sheetRate_0 : decode cX10_sheetRate 0 = .ok (.aload_n 0, 1) := by decide +kernel
theorem dX10_sheetRate_1 : decode cX10_sheetRate 1 = .ok (.dup, 1) := by decide +kernel
theorem dX10_sheetRate_2 : decode cX10_sheetRate 2 = .ok (.getfield 275, 3) := by decide +kernel
theorem dX10_sheetRate_5 : decode cX10_sheetRate 5 = .ok (.lconst 1, 1) := by decide +kernel
theorem dX10_sheetRate_6 : decode cX10_sheetRate 6 = .ok (.ladd, 1) := by decide +kernel
theorem dX10_sheetRate_7 : decode cX10_sheetRate 7 = .ok (.putfield 275, 3) := by decide +kernel
theorem dX10_sheetRate_10 : decode cX10_sheetRate 10 = .ok (.aload_n 0, 1) := by decide +kernel
theorem dX10_sheetRate_11 : decode cX10_sheetRate 11 = .ok (.iload_n 1, 1) := by decide +kernel
theorem dX10_sheetRate_12 : decode cX10_sheetRate 12 = .ok (.aload_n 0, 1) := by decide +kernel
theorem dX10_sheetRate_13 : decode cX10_sheetRate 13 = .ok (.getfield 29, 3) := by decide +kernel
theorem dX10_sheetRate_16 : decode cX10_sheetRate 16 = .ok (.bipush 6, 2) := by decide +kernel
theorem dX10_sheetRate_18 : decode cX10_sheetRate 18 = .ok (.iload_n 1, 1) := by decide +kernel
theorem dX10_sheetRate_19 : decode cX10_sheetRate 19 = .ok (.iadd, 1) := by decide +kernel
theorem dX10_sheetRate_20 : decode cX10_sheetRate 20 = .ok (.iaload, 1) := by decide +kernel
theorem dX10_sheetRate_21 : decode cX10_sheetRate 21 = .ok (.invokevirtual 180, 3) := by decide +kernel
theorem dX10_sheetRate_24 : decode cX10_sheetRate 24 = .ok (.ireturn, 1) := by decide +kernel
theorem dX10_churchRate_0 : decode cX10_churchRate 0 = .ok (.aload_n 0, 1) := by decide +kernel
theorem dX10_churchRate_1 : decode cX10_churchRate 1 = .ok (.dup, 1) := by decide +kernel
theorem dX10_churchRate_2 : decode cX10_churchRate 2 = .ok (.getfield 275, 3) := by decide +kernel
theorem dX10_churchRate_5 : decode cX10_churchRate 5 = .ok (.ldc2_w 279, 3) := by decide +kernel
theorem dX10_churchRate_8 : decode cX10_churchRate 8 = .ok (.ladd, 1) := by decide +kernel
theorem dX10_churchRate_9 : decode cX10_churchRate 9 = .ok (.putfield 275, 3) := by decide +kernel
theorem dX10_churchRate_12 : decode cX10_churchRate 12 = .ok (.aload_n 0, 1) := by decide +kernel
theorem dX10_churchRate_13 : decode cX10_churchRate 13 = .ok (.iload_n 1, 1) := by decide +kernel
theorem dX10_churchRate_14 : decode cX10_churchRate 14 = .ok (.invokevirtual 281, 3) := by decide +kernel
theorem dX10_churchRate_17 : decode cX10_churchRate 17 = .ok (.aload_n 0, 1) := by decide +kernel
theorem dX10_churchRate_18 : decode cX10_churchRate 18 = .ok (.getfield 23, 3) := by decide +kernel
theorem dX10_churchRate_21 : decode cX10_churchRate 21 = .ok (.iconst 4, 1) := by decide +kernel
theorem dX10_churchRate_22 : decode cX10_churchRate 22 = .ok (.iload_n 1, 1) := by decide +kernel
theorem dX10_churchRate_23 : decode cX10_churchRate 23 = .ok (.imul, 1) := by decide +kernel
theorem dX10_churchRate_24 : decode cX10_churchRate 24 = .ok (.iconst 3, 1) := by decide +kernel
theorem dX10_churchRate_25 : decode cX10_churchRate 25 = .ok (.iadd, 1) := by decide +kernel
theorem dX10_churchRate_26 : decode cX10_churchRate 26 = .ok (.iaload, 1) := by decide +kernel
theorem dX10_churchRate_27 : decode cX10_churchRate 27 = .ok (.iadd, 1) := by decide +kernel
theorem dX10_churchRate_28 : decode cX10_churchRate 28 = .ok (.ireturn, 1) := by decide +kernel
theorem dX10_snowRate_0 : decode cX10_snowRate 0 = .ok (.aload_n 0, 1) := by decide +kernel
theorem dX10_snowRate_1 : decode cX10_snowRate 1 = .ok (.dup, 1) := by decide +kernel
theorem dX10_snowRate_2 : decode cX10_snowRate 2 = .ok (.getfield 275, 3) := by decide +kernel
theorem dX10_snowRate_5 : decode cX10_snowRate 5 = .ok (.ldc2_w 284, 3) := by decide +kernel
theorem dX10_snowRate_8 : decode cX10_snowRate 8 = .ok (.ladd, 1) := by decide +kernel
theorem dX10_snowRate_9 : decode cX10_snowRate 9 = .ok (.putfield 275, 3) := by decide +kernel
theorem dX10_snowRate_12 : decode cX10_snowRate 12 = .ok (.aload_n 0, 1) := by decide +kernel
theorem dX10_snowRate_13 : decode cX10_snowRate 13 = .ok (.iload_n 1, 1) := by decide +kernel
theorem dX10_snowRate_14 : decode cX10_snowRate 14 = .ok (.invokevirtual 281, 3) := by decide +kernel
theorem dX10_snowRate_17 : decode cX10_snowRate 17 = .ok (.aload_n 0, 1) := by decide +kernel
theorem dX10_snowRate_18 : decode cX10_snowRate 18 = .ok (.getfield 29, 3) := by decide +kernel
theorem dX10_snowRate_21 : decode cX10_snowRate 21 = .ok (.bipush 6, 2) := by decide +kernel
theorem dX10_snowRate_23 : decode cX10_snowRate 23 = .ok (.iload_n 1, 1) := by decide +kernel
theorem dX10_snowRate_24 : decode cX10_snowRate 24 = .ok (.iadd, 1) := by decide +kernel
theorem dX10_snowRate_25 : decode cX10_snowRate 25 = .ok (.iaload, 1) := by decide +kernel
theorem dX10_snowRate_26 : decode cX10_snowRate 26 = .ok (.isub, 1) := by decide +kernel
theorem dX10_snowRate_27 : decode cX10_snowRate 27 = .ok (.ireturn, 1) := by decide +kernel
theorem dX10_rate_0 : decode cX10_rate 0 = .ok (.iload_n 1, 1) := by decide +kernel
theorem dX10_rate_1 : decode cX10_rate 1 = .ok (.iconst 0, 1) := by decide +kernel
theorem dX10_rate_2 : decode cX10_rate 2 = .ok (.iconst 5, 1) := by decide +kernel
theorem dX10_rate_3 : decode cX10_rate 3 = .ok (.invokestatic 90, 3) := by decide +kernel
theorem dX10_rate_6 : decode cX10_rate 6 = .ok (.ifCond .eq 11, 3) := by decide +kernel
theorem dX10_rate_9 : decode cX10_rate 9 = .ok (.aload_n 0, 1) := by decide +kernel
theorem dX10_rate_10 : decode cX10_rate 10 = .ok (.iload_n 2, 1) := by decide +kernel
theorem dX10_rate_11 : decode cX10_rate 11 = .ok (.invokevirtual 204, 3) := by decide +kernel
theorem dX10_rate_14 : decode cX10_rate 14 = .ok (.ifCond .ne 7, 3) := by decide +kernel
theorem dX10_rate_17 : decode cX10_rate 17 = .ok (.ldc_w 262, 3) := by decide +kernel
theorem dX10_rate_20 : decode cX10_rate 20 = .ok (.ireturn, 1) := by decide +kernel
theorem dX10_rate_21 : decode cX10_rate 21 = .ok (.iload_n 1, 1) := by decide +kernel
theorem dX10_rate_22 : decode cX10_rate 22 = .ok (.tableswitch 92 0 4 #[34, 40, 46, 52, 72], 34) := by decide +kernel
theorem dX10_rate_56 : decode cX10_rate 56 = .ok (.aload_n 0, 1) := by decide +kernel
theorem dX10_rate_57 : decode cX10_rate 57 = .ok (.iload_n 2, 1) := by decide +kernel
theorem dX10_rate_58 : decode cX10_rate 58 = .ok (.invokevirtual 281, 3) := by decide +kernel
theorem dX10_rate_61 : decode cX10_rate 61 = .ok (.ireturn, 1) := by decide +kernel
theorem dX10_rate_62 : decode cX10_rate 62 = .ok (.aload_n 0, 1) := by decide +kernel
theorem dX10_rate_63 : decode cX10_rate 63 = .ok (.iload_n 2, 1) := by decide +kernel
theorem dX10_rate_64 : decode cX10_rate 64 = .ok (.invokevirtual 286, 3) := by decide +kernel
theorem dX10_rate_67 : decode cX10_rate 67 = .ok (.ireturn, 1) := by decide +kernel
theorem dX10_rate_68 : decode cX10_rate 68 = .ok (.aload_n 0, 1) := by decide +kernel
theorem dX10_rate_69 : decode cX10_rate 69 = .ok (.iload_n 2, 1) := by decide +kernel
theorem dX10_rate_70 : decode cX10_rate 70 = .ok (.invokevirtual 289, 3) := by decide +kernel
theorem dX10_rate_73 : decode cX10_rate 73 = .ok (.ireturn, 1) := by decide +kernel
theorem dX10_rate_74 : decode cX10_rate 74 = .ok (.aload_n 0, 1) := by decide +kernel
theorem dX10_rate_75 : decode cX10_rate 75 = .ok (.dup, 1) := by decide +kernel
theorem dX10_rate_76 : decode cX10_rate 76 = .ok (.getfield 275, 3) := by decide +kernel
theorem dX10_rate_79 : decode cX10_rate 79 = .ok (.ldc2_w 292, 3) := by decide +kernel
theorem dX10_rate_82 : decode cX10_rate 82 = .ok (.ladd, 1) := by decide +kernel
theorem dX10_rate_83 : decode cX10_rate 83 = .ok (.putfield 275, 3) := by decide +kernel
theorem dX10_rate_86 : decode cX10_rate 86 = .ok (.iconst 2, 1) := by decide +kernel
theorem dX10_rate_87 : decode cX10_rate 87 = .ok (.aload_n 0, 1) := by decide +kernel
theorem dX10_rate_88 : decode cX10_rate 88 = .ok (.iload_n 2, 1) := by decide +kernel
theorem dX10_rate_89 : decode cX10_rate 89 = .ok (.invokevirtual 286, 3) := by decide +kernel
theorem dX10_rate_92 : decode cX10_rate 92 = .ok (.imul, 1) := by decide +kernel
theorem dX10_rate_93 : decode cX10_rate 93 = .ok (.ireturn, 1) := by decide +kernel
theorem dX10_rate_94 : decode cX10_rate 94 = .ok (.aload_n 0, 1) := by decide +kernel
theorem dX10_rate_95 : decode cX10_rate 95 = .ok (.dup, 1) := by decide +kernel
theorem dX10_rate_96 : decode cX10_rate 96 = .ok (.getfield 275, 3) := by decide +kernel
theorem dX10_rate_99 : decode cX10_rate 99 = .ok (.ldc2_w 294, 3) := by decide +kernel
theorem dX10_rate_102 : decode cX10_rate 102 = .ok (.ladd, 1) := by decide +kernel
theorem dX10_rate_103 : decode cX10_rate 103 = .ok (.putfield 275, 3) := by decide +kernel
theorem dX10_rate_106 : decode cX10_rate 106 = .ok (.aload_n 0, 1) := by decide +kernel
theorem dX10_rate_107 : decode cX10_rate 107 = .ok (.iload_n 2, 1) := by decide +kernel
theorem dX10_rate_108 : decode cX10_rate 108 = .ok (.invokevirtual 289, 3) := by decide +kernel
theorem dX10_rate_111 : decode cX10_rate 111 = .ok (.iload_n 2, 1) := by decide +kernel
theorem dX10_rate_112 : decode cX10_rate 112 = .ok (.iadd, 1) := by decide +kernel
theorem dX10_rate_113 : decode cX10_rate 113 = .ok (.ireturn, 1) := by decide +kernel
theorem dX10_rate_114 : decode cX10_rate 114 = .ok (.aload_n 0, 1) := by decide +kernel
theorem dX10_rate_115 : decode cX10_rate 115 = .ok (.dup, 1) := by decide +kernel
theorem dX10_rate_116 : decode cX10_rate 116 = .ok (.getfield 275, 3) := by decide +kernel
theorem dX10_rate_119 : decode cX10_rate 119 = .ok (.ldc2_w 296, 3) := by decide +kernel
theorem dX10_rate_122 : decode cX10_rate 122 = .ok (.ladd, 1) := by decide +kernel
theorem dX10_rate_123 : decode cX10_rate 123 = .ok (.putfield 275, 3) := by decide +kernel
theorem dX10_rate_126 : decode cX10_rate 126 = .ok (.aload_n 0, 1) := by decide +kernel
theorem dX10_rate_127 : decode cX10_rate 127 = .ok (.iload_n 2, 1) := by decide +kernel
theorem dX10_rate_128 : decode cX10_rate 128 = .ok (.invokevirtual 281, 3) := by decide +kernel
theorem dX10_rate_131 : decode cX10_rate 131 = .ok (.aload_n 0, 1) := by decide +kernel
theorem dX10_rate_132 : decode cX10_rate 132 = .ok (.getfield 29, 3) := by decide +kernel
theorem dX10_rate_135 : decode cX10_rate 135 = .ok (.iconst 1, 1) := by decide +kernel
theorem dX10_rate_136 : decode cX10_rate 136 = .ok (.iaload, 1) := by decide +kernel
theorem dX10_rate_137 : decode cX10_rate 137 = .ok (.iadd, 1) := by decide +kernel
theorem dX10_rate_138 : decode cX10_rate 138 = .ok (.ireturn, 1) := by decide +kernel
theorem dX10_keep_0 : decode cX10_keep 0 = .ok (.iload_n 1, 1) := by decide +kernel
theorem dX10_keep_1 : decode cX10_keep 1 = .ok (.iconst 0, 1) := by decide +kernel
theorem dX10_keep_2 : decode cX10_keep 2 = .ok (.iconst 1, 1) := by decide +kernel
theorem dX10_keep_3 : decode cX10_keep 3 = .ok (.invokestatic 90, 3) := by decide +kernel
theorem dX10_keep_6 : decode cX10_keep 6 = .ok (.ifCond .ne 5, 3) := by decide +kernel
theorem dX10_keep_9 : decode cX10_keep 9 = .ok (.iconst (-1), 1) := by decide +kernel
theorem dX10_keep_10 : decode cX10_keep 10 = .ok (.ireturn, 1) := by decide +kernel
theorem dX10_keep_11 : decode cX10_keep 11 = .ok (.iconst 0, 1) := by decide +kernel
theorem dX10_keep_12 : decode cX10_keep 12 = .ok (.istore_n 2, 1) := by decide +kernel
theorem dX10_keep_13 : decode cX10_keep 13 = .ok (.iload_n 2, 1) := by decide +kernel
theorem dX10_keep_14 : decode cX10_keep 14 = .ok (.bipush 10, 2) := by decide +kernel
theorem dX10_keep_16 : decode cX10_keep 16 = .ok (.if_icmp .ge 26, 3) := by decide +kernel
theorem dX10_keep_19 : decode cX10_keep 19 = .ok (.aload_n 0, 1) := by decide +kernel
theorem dX10_keep_20 : decode cX10_keep 20 = .ok (.getfield 35, 3) := by decide +kernel
theorem dX10_keep_23 : decode cX10_keep 23 = .ok (.bipush 10, 2) := by decide +kernel
theorem dX10_keep_25 : decode cX10_keep 25 = .ok (.iload_n 1, 1) := by decide +kernel
theorem dX10_keep_26 : decode cX10_keep 26 = .ok (.imul, 1) := by decide +kernel
theorem dX10_keep_27 : decode cX10_keep 27 = .ok (.iload_n 2, 1) := by decide +kernel
theorem dX10_keep_28 : decode cX10_keep 28 = .ok (.iadd, 1) := by decide +kernel
theorem dX10_keep_29 : decode cX10_keep 29 = .ok (.aload_n 0, 1) := by decide +kernel
theorem dX10_keep_30 : decode cX10_keep 30 = .ok (.getfield 29, 3) := by decide +kernel
theorem dX10_keep_33 : decode cX10_keep 33 = .ok (.iload_n 2, 1) := by decide +kernel
theorem dX10_keep_34 : decode cX10_keep 34 = .ok (.iaload, 1) := by decide +kernel
theorem dX10_keep_35 : decode cX10_keep 35 = .ok (.iastore, 1) := by decide +kernel
theorem dX10_keep_36 : decode cX10_keep 36 = .ok (.iinc 2 1, 3) := by decide +kernel
theorem dX10_keep_39 : decode cX10_keep 39 = .ok (.goto (-26), 3) := by decide +kernel
theorem dX10_keep_42 : decode cX10_keep 42 = .ok (.aload_n 0, 1) := by decide +kernel
theorem dX10_keep_43 : decode cX10_keep 43 = .ok (.getfield 38, 3) := by decide +kernel
theorem dX10_keep_46 : decode cX10_keep 46 = .ok (.iload_n 1, 1) := by decide +kernel
theorem dX10_keep_47 : decode cX10_keep 47 = .ok (.iconst 1, 1) := by decide +kernel
theorem dX10_keep_48 : decode cX10_keep 48 = .ok (.bastore, 1) := by decide +kernel
theorem dX10_keep_49 : decode cX10_keep 49 = .ok (.aload_n 0, 1) := by decide +kernel
theorem dX10_keep_50 : decode cX10_keep 50 = .ok (.getfield 29, 3) := by decide +kernel
theorem dX10_keep_53 : decode cX10_keep 53 = .ok (.iconst 0, 1) := by decide +kernel
theorem dX10_keep_54 : decode cX10_keep 54 = .ok (.iaload, 1) := by decide +kernel
theorem dX10_keep_55 : decode cX10_keep 55 = .ok (.ireturn, 1) := by decide +kernel
theorem dX10_back_0 : decode cX10_back 0 = .ok (.iload_n 1, 1) := by decide +kernel
theorem dX10_back_1 : decode cX10_back 1 = .ok (.iconst 0, 1) := by decide +kernel
theorem dX10_back_2 : decode cX10_back 2 = .ok (.iconst 1, 1) := by decide +kernel
theorem dX10_back_3 : decode cX10_back 3 = .ok (.invokestatic 90, 3) := by decide +kernel
theorem dX10_back_6 : decode cX10_back 6 = .ok (.ifCond .ne 5, 3) := by decide +kernel
theorem dX10_back_9 : decode cX10_back 9 = .ok (.iconst (-1), 1) := by decide +kernel
theorem dX10_back_10 : decode cX10_back 10 = .ok (.ireturn, 1) := by decide +kernel
theorem dX10_back_11 : decode cX10_back 11 = .ok (.aload_n 0, 1) := by decide +kernel
theorem dX10_back_12 : decode cX10_back 12 = .ok (.getfield 38, 3) := by decide +kernel
theorem dX10_back_15 : decode cX10_back 15 = .ok (.iload_n 1, 1) := by decide +kernel
theorem dX10_back_16 : decode cX10_back 16 = .ok (.baload, 1) := by decide +kernel
theorem dX10_back_17 : decode cX10_back 17 = .ok (.ifCond .ne 6, 3) := by decide +kernel
theorem dX10_back_20 : decode cX10_back 20 = .ok (.bipush (-2), 2) := by decide +kernel
theorem dX10_back_22 : decode cX10_back 22 = .ok (.ireturn, 1) := by decide +kernel
theorem dX10_back_23 : decode cX10_back 23 = .ok (.iconst 0, 1) := by decide +kernel
theorem dX10_back_24 : decode cX10_back 24 = .ok (.istore_n 2, 1) := by decide +kernel
theorem dX10_back_25 : decode cX10_back 25 = .ok (.iload_n 2, 1) := by decide +kernel
theorem dX10_back_26 : decode cX10_back 26 = .ok (.bipush 10, 2) := by decide +kernel
theorem dX10_back_28 : decode cX10_back 28 = .ok (.if_icmp .ge 26, 3) := by decide +kernel
theorem dX10_back_31 : decode cX10_back 31 = .ok (.aload_n 0, 1) := by decide +kernel
theorem dX10_back_32 : decode cX10_back 32 = .ok (.getfield 29, 3) := by decide +kernel
theorem dX10_back_35 : decode cX10_back 35 = .ok (.iload_n 2, 1) := by decide +kernel
theorem dX10_back_36 : decode cX10_back 36 = .ok (.aload_n 0, 1) := by decide +kernel
theorem dX10_back_37 : decode cX10_back 37 = .ok (.getfield 35, 3) := by decide +kernel
theorem dX10_back_40 : decode cX10_back 40 = .ok (.bipush 10, 2) := by decide +kernel
theorem dX10_back_42 : decode cX10_back 42 = .ok (.iload_n 1, 1) := by decide +kernel
theorem dX10_back_43 : decode cX10_back 43 = .ok (.imul, 1) := by decide +kernel
theorem dX10_back_44 : decode cX10_back 44 = .ok (.iload_n 2, 1) := by decide +kernel
theorem dX10_back_45 : decode cX10_back 45 = .ok (.iadd, 1) := by decide +kernel
theorem dX10_back_46 : decode cX10_back 46 = .ok (.iaload, 1) := by decide +kernel
theorem dX10_back_47 : decode cX10_back 47 = .ok (.iastore, 1) := by decide +kernel
theorem dX10_back_48 : decode cX10_back 48 = .ok (.iinc 2 1, 3) := by decide +kernel
theorem dX10_back_51 : decode cX10_back 51 = .ok (.goto (-26), 3) := by decide +kernel
theorem dX10_back_54 : decode cX10_back 54 = .ok (.aload_n 0, 1) := by decide +kernel
theorem dX10_back_55 : decode cX10_back 55 = .ok (.iconst 0, 1) := by decide +kernel
theorem dX10_back_56 : decode cX10_back 56 = .ok (.putfield 171, 3) := by decide +kernel
theorem dX10_back_59 : decode cX10_back 59 = .ok (.aload_n 0, 1) := by decide +kernel
theorem dX10_back_60 : decode cX10_back 60 = .ok (.getfield 29, 3) := by decide +kernel
theorem dX10_back_63 : decode cX10_back 63 = .ok (.iconst 0, 1) := by decide +kernel
theorem dX10_back_64 : decode cX10_back 64 = .ok (.iaload, 1) := by decide +kernel
theorem dX10_back_65 : decode cX10_back 65 = .ok (.ireturn, 1) := by decide +kernel
theorem dX10_count_0 : decode cX10_count 0 = .ok (.iload_n 1, 1) := by decide +kernel
theorem dX10_count_1 : decode cX10_count 1 = .ok (.tableswitch 96 0 8 #[51, 56, 61, 66, 71, 76, 81, 86, 91], 51) := by decide +kernel
theorem dX10_count_52 : decode cX10_count 52 = .ok (.aload_n 0, 1) := by decide +kernel
theorem dX10_count_53 : decode cX10_count 53 = .ok (.getfield 7, 3) := by decide +kernel
theorem dX10_count_56 : decode cX10_count 56 = .ok (.ireturn, 1) := by decide +kernel
theorem dX10_count_57 : decode cX10_count 57 = .ok (.aload_n 0, 1) := by decide +kernel
theorem dX10_count_58 : decode cX10_count 58 = .ok (.getfield 13, 3) := by decide +kernel
theorem dX10_count_61 : decode cX10_count 61 = .ok (.ireturn, 1) := by decide +kernel
theorem dX10_count_62 : decode cX10_count 62 = .ok (.aload_n 0, 1) := by decide +kernel
theorem dX10_count_63 : decode cX10_count 63 = .ok (.getfield 16, 3) := by decide +kernel
theorem dX10_count_66 : decode cX10_count 66 = .ok (.ireturn, 1) := by decide +kernel
theorem dX10_count_67 : decode cX10_count 67 = .ok (.aload_n 0, 1) := by decide +kernel
theorem dX10_count_68 : decode cX10_count 68 = .ok (.getfield 165, 3) := by decide +kernel
theorem dX10_count_71 : decode cX10_count 71 = .ok (.ireturn, 1) := by decide +kernel
theorem dX10_count_72 : decode cX10_count 72 = .ok (.aload_n 0, 1) := by decide +kernel
theorem dX10_count_73 : decode cX10_count 73 = .ok (.getfield 94, 3) := by decide +kernel
theorem dX10_count_76 : decode cX10_count 76 = .ok (.ireturn, 1) := by decide +kernel
theorem dX10_count_77 : decode cX10_count 77 = .ok (.aload_n 0, 1) := by decide +kernel
theorem dX10_count_78 : decode cX10_count 78 = .ok (.getfield 168, 3) := by decide +kernel
theorem dX10_count_81 : decode cX10_count 81 = .ok (.ireturn, 1) := by decide +kernel
theorem dX10_count_82 : decode cX10_count 82 = .ok (.aload_n 0, 1) := by decide +kernel
theorem dX10_count_83 : decode cX10_count 83 = .ok (.getfield 174, 3) := by decide +kernel
theorem dX10_count_86 : decode cX10_count 86 = .ok (.ireturn, 1) := by decide +kernel
theorem dX10_count_87 : decode cX10_count 87 = .ok (.aload_n 0, 1) := by decide +kernel
theorem dX10_count_88 : decode cX10_count 88 = .ok (.getfield 177, 3) := by decide +kernel
theorem dX10_count_91 : decode cX10_count 91 = .ok (.ireturn, 1) := by decide +kernel
theorem dX10_count_92 : decode cX10_count 92 = .ok (.aload_n 0, 1) := by decide +kernel
theorem dX10_count_93 : decode cX10_count 93 = .ok (.getfield 97, 3) := by decide +kernel
theorem dX10_count_96 : decode cX10_count 96 = .ok (.ireturn, 1) := by decide +kernel
theorem dX10_count_97 : decode cX10_count 97 = .ok (.iconst (-1), 1) := by decide +kernel
theorem dX10_count_98 : decode cX10_count 98 = .ok (.ireturn, 1) := by decide +kernel
theorem dX10_trace_0 : decode cX10_trace 0 = .ok (.aload_n 0, 1) := by decide +kernel
theorem dX10_trace_1 : decode cX10_trace 1 = .ok (.getfield 275, 3) := by decide +kernel
theorem dX10_trace_4 : decode cX10_trace 4 = .ok (.lreturn, 1) := by decide +kernel
theorem dJ6_bitCount_0f7a4_0 : decode cJ6_bitCount_0f7a4 0 = .ok (.iload_n 0, 1) := by decide +kernel
theorem dJ6_bitCount_0f7a4_1 : decode cJ6_bitCount_0f7a4 1 = .ok (.iload_n 0, 1) := by decide +kernel
theorem dJ6_bitCount_0f7a4_2 : decode cJ6_bitCount_0f7a4 2 = .ok (.iconst 1, 1) := by decide +kernel
theorem dJ6_bitCount_0f7a4_3 : decode cJ6_bitCount_0f7a4 3 = .ok (.iushr, 1) := by decide +kernel
theorem dJ6_bitCount_0f7a4_4 : decode cJ6_bitCount_0f7a4 4 = .ok (.ldc_w 265, 3) := by decide +kernel
theorem dJ6_bitCount_0f7a4_7 : decode cJ6_bitCount_0f7a4 7 = .ok (.iand, 1) := by decide +kernel
theorem dJ6_bitCount_0f7a4_8 : decode cJ6_bitCount_0f7a4 8 = .ok (.isub, 1) := by decide +kernel
theorem dJ6_bitCount_0f7a4_9 : decode cJ6_bitCount_0f7a4 9 = .ok (.istore_n 0, 1) := by decide +kernel
theorem dJ6_bitCount_0f7a4_10 : decode cJ6_bitCount_0f7a4 10 = .ok (.iload_n 0, 1) := by decide +kernel
theorem dJ6_bitCount_0f7a4_11 : decode cJ6_bitCount_0f7a4 11 = .ok (.ldc_w 266, 3) := by decide +kernel
theorem dJ6_bitCount_0f7a4_14 : decode cJ6_bitCount_0f7a4 14 = .ok (.iand, 1) := by decide +kernel
theorem dJ6_bitCount_0f7a4_15 : decode cJ6_bitCount_0f7a4 15 = .ok (.iload_n 0, 1) := by decide +kernel
theorem dJ6_bitCount_0f7a4_16 : decode cJ6_bitCount_0f7a4 16 = .ok (.iconst 2, 1) := by decide +kernel
theorem dJ6_bitCount_0f7a4_17 : decode cJ6_bitCount_0f7a4 17 = .ok (.iushr, 1) := by decide +kernel
theorem dJ6_bitCount_0f7a4_18 : decode cJ6_bitCount_0f7a4 18 = .ok (.ldc_w 266, 3) := by decide +kernel
theorem dJ6_bitCount_0f7a4_21 : decode cJ6_bitCount_0f7a4 21 = .ok (.iand, 1) := by decide +kernel
theorem dJ6_bitCount_0f7a4_22 : decode cJ6_bitCount_0f7a4 22 = .ok (.iadd, 1) := by decide +kernel
theorem dJ6_bitCount_0f7a4_23 : decode cJ6_bitCount_0f7a4 23 = .ok (.istore_n 0, 1) := by decide +kernel
theorem dJ6_bitCount_0f7a4_24 : decode cJ6_bitCount_0f7a4 24 = .ok (.iload_n 0, 1) := by decide +kernel
theorem dJ6_bitCount_0f7a4_25 : decode cJ6_bitCount_0f7a4 25 = .ok (.iload_n 0, 1) := by decide +kernel
theorem dJ6_bitCount_0f7a4_26 : decode cJ6_bitCount_0f7a4 26 = .ok (.iconst 4, 1) := by decide +kernel
theorem dJ6_bitCount_0f7a4_27 : decode cJ6_bitCount_0f7a4 27 = .ok (.iushr, 1) := by decide +kernel
theorem dJ6_bitCount_0f7a4_28 : decode cJ6_bitCount_0f7a4 28 = .ok (.iadd, 1) := by decide +kernel
theorem dJ6_bitCount_0f7a4_29 : decode cJ6_bitCount_0f7a4 29 = .ok (.ldc_w 267, 3) := by decide +kernel
theorem dJ6_bitCount_0f7a4_32 : decode cJ6_bitCount_0f7a4 32 = .ok (.iand, 1) := by decide +kernel
theorem dJ6_bitCount_0f7a4_33 : decode cJ6_bitCount_0f7a4 33 = .ok (.istore_n 0, 1) := by decide +kernel
theorem dJ6_bitCount_0f7a4_34 : decode cJ6_bitCount_0f7a4 34 = .ok (.iload_n 0, 1) := by decide +kernel
theorem dJ6_bitCount_0f7a4_35 : decode cJ6_bitCount_0f7a4 35 = .ok (.iload_n 0, 1) := by decide +kernel
theorem dJ6_bitCount_0f7a4_36 : decode cJ6_bitCount_0f7a4 36 = .ok (.bipush 8, 2) := by decide +kernel
theorem dJ6_bitCount_0f7a4_38 : decode cJ6_bitCount_0f7a4 38 = .ok (.iushr, 1) := by decide +kernel
theorem dJ6_bitCount_0f7a4_39 : decode cJ6_bitCount_0f7a4 39 = .ok (.iadd, 1) := by decide +kernel
theorem dJ6_bitCount_0f7a4_40 : decode cJ6_bitCount_0f7a4 40 = .ok (.istore_n 0, 1) := by decide +kernel
theorem dJ6_bitCount_0f7a4_41 : decode cJ6_bitCount_0f7a4 41 = .ok (.iload_n 0, 1) := by decide +kernel
theorem dJ6_bitCount_0f7a4_42 : decode cJ6_bitCount_0f7a4 42 = .ok (.iload_n 0, 1) := by decide +kernel
theorem dJ6_bitCount_0f7a4_43 : decode cJ6_bitCount_0f7a4 43 = .ok (.bipush 16, 2) := by decide +kernel
theorem dJ6_bitCount_0f7a4_45 : decode cJ6_bitCount_0f7a4 45 = .ok (.iushr, 1) := by decide +kernel
theorem dJ6_bitCount_0f7a4_46 : decode cJ6_bitCount_0f7a4 46 = .ok (.iadd, 1) := by decide +kernel
theorem dJ6_bitCount_0f7a4_47 : decode cJ6_bitCount_0f7a4 47 = .ok (.istore_n 0, 1) := by decide +kernel
theorem dJ6_bitCount_0f7a4_48 : decode cJ6_bitCount_0f7a4 48 = .ok (.iload_n 0, 1) := by decide +kernel
theorem dJ6_bitCount_0f7a4_49 : decode cJ6_bitCount_0f7a4 49 = .ok (.bipush 63, 2) := by decide +kernel
theorem dJ6_bitCount_0f7a4_51 : decode cJ6_bitCount_0f7a4 51 = .ok (.iand, 1) := by decide +kernel
theorem dJ6_bitCount_0f7a4_52 : decode cJ6_bitCount_0f7a4 52 = .ok (.ireturn, 1) := by decide +kernel
theorem dJ9_max_7cf53_0 : decode cJ9_max_7cf53 0 = .ok (.iload_n 0, 1) := by decide +kernel
theorem dJ9_max_7cf53_1 : decode cJ9_max_7cf53 1 = .ok (.iload_n 1, 1) := by decide +kernel
theorem dJ9_max_7cf53_2 : decode cJ9_max_7cf53 2 = .ok (.if_icmp .lt 7, 3) := by decide +kernel
theorem dJ9_max_7cf53_5 : decode cJ9_max_7cf53 5 = .ok (.iload_n 0, 1) := by decide +kernel
theorem dJ9_max_7cf53_6 : decode cJ9_max_7cf53 6 = .ok (.goto 4, 3) := by decide +kernel
theorem dJ9_max_7cf53_9 : decode cJ9_max_7cf53 9 = .ok (.iload_n 1, 1) := by decide +kernel
theorem dJ9_max_7cf53_10 : decode cJ9_max_7cf53 10 = .ok (.ireturn, 1) := by decide +kernel
theorem dJ9_min_7cf53_0 : decode cJ9_min_7cf53 0 = .ok (.iload_n 0, 1) := by decide +kernel
theorem dJ9_min_7cf53_1 : decode cJ9_min_7cf53 1 = .ok (.iload_n 1, 1) := by decide +kernel
theorem dJ9_min_7cf53_2 : decode cJ9_min_7cf53 2 = .ok (.if_icmp .gt 7, 3) := by decide +kernel
theorem dJ9_min_7cf53_5 : decode cJ9_min_7cf53 5 = .ok (.iload_n 0, 1) := by decide +kernel
theorem dJ9_min_7cf53_6 : decode cJ9_min_7cf53 6 = .ok (.goto 4, 3) := by decide +kernel
theorem dJ9_min_7cf53_9 : decode cJ9_min_7cf53 9 = .ok (.iload_n 1, 1) := by decide +kernel
theorem dJ9_min_7cf53_10 : decode cJ9_min_7cf53 10 = .ok (.ireturn, 1) := by decide +kernel
theorem dL_law_0 : decode cL_law 0 = .ok (.new 7, 3) := by decide +kernel
theorem dL_law_3 : decode cL_law 3 = .ok (.dup, 1) := by decide +kernel
theorem dL_law_4 : decode cL_law 4 = .ok (.invokespecial 9, 3) := by decide +kernel
theorem dL_law_7 : decode cL_law 7 = .ok (.astore_n 1, 1) := by decide +kernel
theorem dL_law_8 : decode cL_law 8 = .ok (.new 10, 3) := by decide +kernel
theorem dL_law_11 : decode cL_law 11 = .ok (.dup, 1) := by decide +kernel
theorem dL_law_12 : decode cL_law 12 = .ok (.invokespecial 12, 3) := by decide +kernel
theorem dL_law_15 : decode cL_law 15 = .ok (.astore_n 2, 1) := by decide +kernel
theorem dL_law_16 : decode cL_law 16 = .ok (.iconst 0, 1) := by decide +kernel
theorem dL_law_17 : decode cL_law 17 = .ok (.istore_n 3, 1) := by decide +kernel
theorem dL_law_18 : decode cL_law 18 = .ok (.iload_n 3, 1) := by decide +kernel
theorem dL_law_19 : decode cL_law 19 = .ok (.aload_n 0, 1) := by decide +kernel
theorem dL_law_20 : decode cL_law 20 = .ok (.arraylength, 1) := by decide +kernel
theorem dL_law_21 : decode cL_law 21 = .ok (.iconst 5, 1) := by decide +kernel
theorem dL_law_22 : decode cL_law 22 = .ok (.isub, 1) := by decide +kernel
theorem dL_law_23 : decode cL_law 23 = .ok (.if_icmp .gt 986, 3) := by decide +kernel
theorem dL_law_26 : decode cL_law 26 = .ok (.aload_n 0, 1) := by decide +kernel
theorem dL_law_27 : decode cL_law 27 = .ok (.iload_n 3, 1) := by decide +kernel
theorem dL_law_28 : decode cL_law 28 = .ok (.iaload, 1) := by decide +kernel
theorem dL_law_29 : decode cL_law 29 = .ok (.bipush 31, 2) := by decide +kernel
theorem dL_law_31 : decode cL_law 31 = .ok (.iand, 1) := by decide +kernel
theorem dL_law_32 : decode cL_law 32 = .ok (.tableswitch 971 0 31 #[144, 167, 180, 193, 226, 259, 292, 315, 348, 371, 404, 427, 450, 463, 476, 499, 522, 545, 568, 601, 624, 637, 660, 703, 746, 799, 812, 855, 888, 911, 934, 957], 144) := by decide +kernel
theorem dL_law_176 : decode cL_law 176 = .ok (.aload_n 1, 1) := by decide +kernel
theorem dL_law_177 : decode cL_law 177 = .ok (.aload_n 0, 1) := by decide +kernel
theorem dL_law_178 : decode cL_law 178 = .ok (.iload_n 3, 1) := by decide +kernel
theorem dL_law_179 : decode cL_law 179 = .ok (.iconst 1, 1) := by decide +kernel
theorem dL_law_180 : decode cL_law 180 = .ok (.iadd, 1) := by decide +kernel
theorem dL_law_181 : decode cL_law 181 = .ok (.iaload, 1) := by decide +kernel
theorem dL_law_182 : decode cL_law 182 = .ok (.invokevirtual 13, 3) := by decide +kernel
theorem dL_law_185 : decode cL_law 185 = .ok (.aload_n 2, 1) := by decide +kernel
theorem dL_law_186 : decode cL_law 186 = .ok (.aload_n 0, 1) := by decide +kernel
theorem dL_law_187 : decode cL_law 187 = .ok (.iload_n 3, 1) := by decide +kernel
theorem dL_law_188 : decode cL_law 188 = .ok (.iconst 1, 1) := by decide +kernel
theorem dL_law_189 : decode cL_law 189 = .ok (.iadd, 1) := by decide +kernel
theorem dL_law_190 : decode cL_law 190 = .ok (.iaload, 1) := by decide +kernel
theorem dL_law_191 : decode cL_law 191 = .ok (.invokevirtual 17, 3) := by decide +kernel
theorem dL_law_194 : decode cL_law 194 = .ok (.if_icmp .eq 809, 3) := by decide +kernel
theorem dL_law_197 : decode cL_law 197 = .ok (.iconst 0, 1) := by decide +kernel
theorem dL_law_198 : decode cL_law 198 = .ok (.ireturn, 1) := by decide +kernel
theorem dL_law_199 : decode cL_law 199 = .ok (.aload_n 1, 1) := by decide +kernel
theorem dL_law_200 : decode cL_law 200 = .ok (.invokevirtual 18, 3) := by decide +kernel
theorem dL_law_203 : decode cL_law 203 = .ok (.aload_n 2, 1) := by decide +kernel
theorem dL_law_204 : decode cL_law 204 = .ok (.invokevirtual 22, 3) := by decide +kernel
theorem dL_law_207 : decode cL_law 207 = .ok (.if_icmp .eq 796, 3) := by decide +kernel
theorem dL_law_210 : decode cL_law 210 = .ok (.iconst 0, 1) := by decide +kernel
theorem dL_law_211 : decode cL_law 211 = .ok (.ireturn, 1) := by decide +kernel
theorem dL_law_212 : decode cL_law 212 = .ok (.aload_n 1, 1) := by decide +kernel
theorem dL_law_213 : decode cL_law 213 = .ok (.invokevirtual 23, 3) := by decide +kernel
theorem dL_law_216 : decode cL_law 216 = .ok (.aload_n 2, 1) := by decide +kernel
theorem dL_law_217 : decode cL_law 217 = .ok (.invokevirtual 26, 3) := by decide +kernel
theorem dL_law_220 : decode cL_law 220 = .ok (.if_icmp .eq 783, 3) := by decide +kernel
theorem dL_law_223 : decode cL_law 223 = .ok (.iconst 0, 1) := by decide +kernel
theorem dL_law_224 : decode cL_law 224 = .ok (.ireturn, 1) := by decide +kernel
theorem dL_law_225 : decode cL_law 225 = .ok (.aload_n 1, 1) := by decide +kernel
theorem dL_law_226 : decode cL_law 226 = .ok (.aload_n 0, 1) := by decide +kernel
theorem dL_law_227 : decode cL_law 227 = .ok (.iload_n 3, 1) := by decide +kernel
theorem dL_law_228 : decode cL_law 228 = .ok (.iconst 1, 1) := by decide +kernel
theorem dL_law_229 : decode cL_law 229 = .ok (.iadd, 1) := by decide +kernel
theorem dL_law_230 : decode cL_law 230 = .ok (.iaload, 1) := by decide +kernel
theorem dL_law_231 : decode cL_law 231 = .ok (.aload_n 0, 1) := by decide +kernel
theorem dL_law_232 : decode cL_law 232 = .ok (.iload_n 3, 1) := by decide +kernel
theorem dL_law_233 : decode cL_law 233 = .ok (.iconst 2, 1) := by decide +kernel
theorem dL_law_234 : decode cL_law 234 = .ok (.iadd, 1) := by decide +kernel
theorem dL_law_235 : decode cL_law 235 = .ok (.iaload, 1) := by decide +kernel
theorem dL_law_236 : decode cL_law 236 = .ok (.invokevirtual 27, 3) := by decide +kernel
theorem dL_law_239 : decode cL_law 239 = .ok (.aload_n 2, 1) := by decide +kernel
theorem dL_law_240 : decode cL_law 240 = .ok (.aload_n 0, 1) := by decide +kernel
theorem dL_law_241 : decode cL_law 241 = .ok (.iload_n 3, 1) := by decide +kernel
theorem dL_law_242 : decode cL_law 242 = .ok (.iconst 1, 1) := by decide +kernel
theorem dL_law_243 : decode cL_law 243 = .ok (.iadd, 1) := by decide +kernel
theorem dL_law_244 : decode cL_law 244 = .ok (.iaload, 1) := by decide +kernel
theorem dL_law_245 : decode cL_law 245 = .ok (.aload_n 0, 1) := by decide +kernel
theorem dL_law_246 : decode cL_law 246 = .ok (.iload_n 3, 1) := by decide +kernel
theorem dL_law_247 : decode cL_law 247 = .ok (.iconst 2, 1) := by decide +kernel
theorem dL_law_248 : decode cL_law 248 = .ok (.iadd, 1) := by decide +kernel
theorem dL_law_249 : decode cL_law 249 = .ok (.iaload, 1) := by decide +kernel
theorem dL_law_250 : decode cL_law 250 = .ok (.invokevirtual 31, 3) := by decide +kernel
theorem dL_law_253 : decode cL_law 253 = .ok (.if_icmp .eq 750, 3) := by decide +kernel
theorem dL_law_256 : decode cL_law 256 = .ok (.iconst 0, 1) := by decide +kernel
theorem dL_law_257 : decode cL_law 257 = .ok (.ireturn, 1) := by decide +kernel
theorem dL_law_258 : decode cL_law 258 = .ok (.aload_n 1, 1) := by decide +kernel
theorem dL_law_259 : decode cL_law 259 = .ok (.aload_n 0, 1) := by decide +kernel
theorem dL_law_260 : decode cL_law 260 = .ok (.iload_n 3, 1) := by decide +kernel
theorem dL_law_261 : decode cL_law 261 = .ok (.iconst 1, 1) := by decide +kernel
theorem dL_law_262 : decode cL_law 262 = .ok (.iadd, 1) := by decide +kernel
theorem dL_law_263 : decode cL_law 263 = .ok (.iaload, 1) := by decide +kernel
theorem dL_law_264 : decode cL_law 264 = .ok (.aload_n 0, 1) := by decide +kernel
theorem dL_law_265 : decode cL_law 265 = .ok (.iload_n 3, 1) := by decide +kernel
theorem dL_law_266 : decode cL_law 266 = .ok (.iconst 2, 1) := by decide +kernel
theorem dL_law_267 : decode cL_law 267 = .ok (.iadd, 1) := by decide +kernel
theorem dL_law_268 : decode cL_law 268 = .ok (.iaload, 1) := by decide +kernel
theorem dL_law_269 : decode cL_law 269 = .ok (.invokevirtual 32, 3) := by decide +kernel
theorem dL_law_272 : decode cL_law 272 = .ok (.aload_n 2, 1) := by decide +kernel
theorem dL_law_273 : decode cL_law 273 = .ok (.aload_n 0, 1) := by decide +kernel
theorem dL_law_274 : decode cL_law 274 = .ok (.iload_n 3, 1) := by decide +kernel
theorem dL_law_275 : decode cL_law 275 = .ok (.iconst 1, 1) := by decide +kernel
theorem dL_law_276 : decode cL_law 276 = .ok (.iadd, 1) := by decide +kernel
theorem dL_law_277 : decode cL_law 277 = .ok (.iaload, 1) := by decide +kernel
theorem dL_law_278 : decode cL_law 278 = .ok (.aload_n 0, 1) := by decide +kernel
theorem dL_law_279 : decode cL_law 279 = .ok (.iload_n 3, 1) := by decide +kernel
theorem dL_law_280 : decode cL_law 280 = .ok (.iconst 2, 1) := by decide +kernel
theorem dL_law_281 : decode cL_law 281 = .ok (.iadd, 1) := by decide +kernel
theorem dL_law_282 : decode cL_law 282 = .ok (.iaload, 1) := by decide +kernel
theorem dL_law_283 : decode cL_law 283 = .ok (.invokevirtual 35, 3) := by decide +kernel
theorem dL_law_286 : decode cL_law 286 = .ok (.if_icmp .eq 717, 3) := by decide +kernel
theorem dL_law_289 : decode cL_law 289 = .ok (.iconst 0, 1) := by decide +kernel
theorem dL_law_290 : decode cL_law 290 = .ok (.ireturn, 1) := by decide +kernel
theorem dL_law_291 : decode cL_law 291 = .ok (.aload_n 1, 1) := by decide +kernel
theorem dL_law_292 : decode cL_law 292 = .ok (.aload_n 0, 1) := by decide +kernel
theorem dL_law_293 : decode cL_law 293 = .ok (.iload_n 3, 1) := by decide +kernel
theorem dL_law_294 : decode cL_law 294 = .ok (.iconst 1, 1) := by decide +kernel
theorem dL_law_295 : decode cL_law 295 = .ok (.iadd, 1) := by decide +kernel
theorem dL_law_296 : decode cL_law 296 = .ok (.iaload, 1) := by decide +kernel
theorem dL_law_297 : decode cL_law 297 = .ok (.aload_n 0, 1) := by decide +kernel
theorem dL_law_298 : decode cL_law 298 = .ok (.iload_n 3, 1) := by decide +kernel
theorem dL_law_299 : decode cL_law 299 = .ok (.iconst 2, 1) := by decide +kernel
theorem dL_law_300 : decode cL_law 300 = .ok (.iadd, 1) := by decide +kernel
theorem dL_law_301 : decode cL_law 301 = .ok (.iaload, 1) := by decide +kernel
theorem dL_law_302 : decode cL_law 302 = .ok (.invokevirtual 36, 3) := by decide +kernel
theorem dL_law_305 : decode cL_law 305 = .ok (.aload_n 2, 1) := by decide +kernel
theorem dL_law_306 : decode cL_law 306 = .ok (.aload_n 0, 1) := by decide +kernel
theorem dL_law_307 : decode cL_law 307 = .ok (.iload_n 3, 1) := by decide +kernel
theorem dL_law_308 : decode cL_law 308 = .ok (.iconst 1, 1) := by decide +kernel
theorem dL_law_309 : decode cL_law 309 = .ok (.iadd, 1) := by decide +kernel
theorem dL_law_310 : decode cL_law 310 = .ok (.iaload, 1) := by decide +kernel
theorem dL_law_311 : decode cL_law 311 = .ok (.aload_n 0, 1) := by decide +kernel
theorem dL_law_312 : decode cL_law 312 = .ok (.iload_n 3, 1) := by decide +kernel
theorem dL_law_313 : decode cL_law 313 = .ok (.iconst 2, 1) := by decide +kernel
theorem dL_law_314 : decode cL_law 314 = .ok (.iadd, 1) := by decide +kernel
theorem dL_law_315 : decode cL_law 315 = .ok (.iaload, 1) := by decide +kernel
theorem dL_law_316 : decode cL_law 316 = .ok (.invokevirtual 39, 3) := by decide +kernel
theorem dL_law_319 : decode cL_law 319 = .ok (.if_icmp .eq 684, 3) := by decide +kernel
theorem dL_law_322 : decode cL_law 322 = .ok (.iconst 0, 1) := by decide +kernel
theorem dL_law_323 : decode cL_law 323 = .ok (.ireturn, 1) := by decide +kernel
theorem dL_law_324 : decode cL_law 324 = .ok (.aload_n 1, 1) := by decide +kernel
theorem dL_law_325 : decode cL_law 325 = .ok (.aload_n 0, 1) := by decide +kernel
theorem dL_law_326 : decode cL_law 326 = .ok (.iload_n 3, 1) := by decide +kernel
theorem dL_law_327 : decode cL_law 327 = .ok (.iconst 1, 1) := by decide +kernel
theorem dL_law_328 : decode cL_law 328 = .ok (.iadd, 1) := by decide +kernel
theorem dL_law_329 : decode cL_law 329 = .ok (.iaload, 1) := by decide +kernel
theorem dL_law_330 : decode cL_law 330 = .ok (.invokevirtual 40, 3) := by decide +kernel
theorem dL_law_333 : decode cL_law 333 = .ok (.aload_n 2, 1) := by decide +kernel
theorem dL_law_334 : decode cL_law 334 = .ok (.aload_n 0, 1) := by decide +kernel
theorem dL_law_335 : decode cL_law 335 = .ok (.iload_n 3, 1) := by decide +kernel
theorem dL_law_336 : decode cL_law 336 = .ok (.iconst 1, 1) := by decide +kernel
theorem dL_law_337 : decode cL_law 337 = .ok (.iadd, 1) := by decide +kernel
theorem dL_law_338 : decode cL_law 338 = .ok (.iaload, 1) := by decide +kernel
theorem dL_law_339 : decode cL_law 339 = .ok (.invokevirtual 43, 3) := by decide +kernel
theorem dL_law_342 : decode cL_law 342 = .ok (.if_icmp .eq 661, 3) := by decide +kernel
theorem dL_law_345 : decode cL_law 345 = .ok (.iconst 0, 1) := by decide +kernel
theorem dL_law_346 : decode cL_law 346 = .ok (.ireturn, 1) := by decide +kernel
theorem dL_law_347 : decode cL_law 347 = .ok (.aload_n 1, 1) := by decide +kernel
theorem dL_law_348 : decode cL_law 348 = .ok (.aload_n 0, 1) := by decide +kernel
theorem dL_law_349 : decode cL_law 349 = .ok (.iload_n 3, 1) := by decide +kernel
theorem dL_law_350 : decode cL_law 350 = .ok (.iconst 1, 1) := by decide +kernel
theorem dL_law_351 : decode cL_law 351 = .ok (.iadd, 1) := by decide +kernel
theorem dL_law_352 : decode cL_law 352 = .ok (.iaload, 1) := by decide +kernel
theorem dL_law_353 : decode cL_law 353 = .ok (.aload_n 0, 1) := by decide +kernel
theorem dL_law_354 : decode cL_law 354 = .ok (.iload_n 3, 1) := by decide +kernel
theorem dL_law_355 : decode cL_law 355 = .ok (.iconst 2, 1) := by decide +kernel
theorem dL_law_356 : decode cL_law 356 = .ok (.iadd, 1) := by decide +kernel
theorem dL_law_357 : decode cL_law 357 = .ok (.iaload, 1) := by decide +kernel
theorem dL_law_358 : decode cL_law 358 = .ok (.invokevirtual 44, 3) := by decide +kernel
theorem dL_law_361 : decode cL_law 361 = .ok (.aload_n 2, 1) := by decide +kernel
theorem dL_law_362 : decode cL_law 362 = .ok (.aload_n 0, 1) := by decide +kernel
theorem dL_law_363 : decode cL_law 363 = .ok (.iload_n 3, 1) := by decide +kernel
theorem dL_law_364 : decode cL_law 364 = .ok (.iconst 1, 1) := by decide +kernel
theorem dL_law_365 : decode cL_law 365 = .ok (.iadd, 1) := by decide +kernel
theorem dL_law_366 : decode cL_law 366 = .ok (.iaload, 1) := by decide +kernel
theorem dL_law_367 : decode cL_law 367 = .ok (.aload_n 0, 1) := by decide +kernel
theorem dL_law_368 : decode cL_law 368 = .ok (.iload_n 3, 1) := by decide +kernel
theorem dL_law_369 : decode cL_law 369 = .ok (.iconst 2, 1) := by decide +kernel
theorem dL_law_370 : decode cL_law 370 = .ok (.iadd, 1) := by decide +kernel
theorem dL_law_371 : decode cL_law 371 = .ok (.iaload, 1) := by decide +kernel
theorem dL_law_372 : decode cL_law 372 = .ok (.invokevirtual 47, 3) := by decide +kernel
theorem dL_law_375 : decode cL_law 375 = .ok (.if_icmp .eq 628, 3) := by decide +kernel
theorem dL_law_378 : decode cL_law 378 = .ok (.iconst 0, 1) := by decide +kernel
theorem dL_law_379 : decode cL_law 379 = .ok (.ireturn, 1) := by decide +kernel
theorem dL_law_380 : decode cL_law 380 = .ok (.aload_n 1, 1) := by decide +kernel
theorem dL_law_381 : decode cL_law 381 = .ok (.aload_n 0, 1) := by decide +kernel
theorem dL_law_382 : decode cL_law 382 = .ok (.iload_n 3, 1) := by decide +kernel
theorem dL_law_383 : decode cL_law 383 = .ok (.iconst 1, 1) := by decide +kernel
theorem dL_law_384 : decode cL_law 384 = .ok (.iadd, 1) := by decide +kernel
theorem dL_law_385 : decode cL_law 385 = .ok (.iaload, 1) := by decide +kernel
theorem dL_law_386 : decode cL_law 386 = .ok (.invokevirtual 48, 3) := by decide +kernel
theorem dL_law_389 : decode cL_law 389 = .ok (.aload_n 2, 1) := by decide +kernel
theorem dL_law_390 : decode cL_law 390 = .ok (.aload_n 0, 1) := by decide +kernel
theorem dL_law_391 : decode cL_law 391 = .ok (.iload_n 3, 1) := by decide +kernel
theorem dL_law_392 : decode cL_law 392 = .ok (.iconst 1, 1) := by decide +kernel
theorem dL_law_393 : decode cL_law 393 = .ok (.iadd, 1) := by decide +kernel
theorem dL_law_394 : decode cL_law 394 = .ok (.iaload, 1) := by decide +kernel
theorem dL_law_395 : decode cL_law 395 = .ok (.invokevirtual 51, 3) := by decide +kernel
theorem dL_law_398 : decode cL_law 398 = .ok (.if_icmp .eq 605, 3) := by decide +kernel
theorem dL_law_401 : decode cL_law 401 = .ok (.iconst 0, 1) := by decide +kernel
theorem dL_law_402 : decode cL_law 402 = .ok (.ireturn, 1) := by decide +kernel
theorem dL_law_403 : decode cL_law 403 = .ok (.aload_n 1, 1) := by decide +kernel
theorem dL_law_404 : decode cL_law 404 = .ok (.aload_n 0, 1) := by decide +kernel
theorem dL_law_405 : decode cL_law 405 = .ok (.iload_n 3, 1) := by decide +kernel
theorem dL_law_406 : decode cL_law 406 = .ok (.iconst 1, 1) := by decide +kernel
theorem dL_law_407 : decode cL_law 407 = .ok (.iadd, 1) := by decide +kernel
theorem dL_law_408 : decode cL_law 408 = .ok (.iaload, 1) := by decide +kernel
theorem dL_law_409 : decode cL_law 409 = .ok (.aload_n 0, 1) := by decide +kernel
theorem dL_law_410 : decode cL_law 410 = .ok (.iload_n 3, 1) := by decide +kernel
theorem dL_law_411 : decode cL_law 411 = .ok (.iconst 2, 1) := by decide +kernel
theorem dL_law_412 : decode cL_law 412 = .ok (.iadd, 1) := by decide +kernel
theorem dL_law_413 : decode cL_law 413 = .ok (.iaload, 1) := by decide +kernel
theorem dL_law_414 : decode cL_law 414 = .ok (.invokevirtual 52, 3) := by decide +kernel
theorem dL_law_417 : decode cL_law 417 = .ok (.aload_n 2, 1) := by decide +kernel
theorem dL_law_418 : decode cL_law 418 = .ok (.aload_n 0, 1) := by decide +kernel
theorem dL_law_419 : decode cL_law 419 = .ok (.iload_n 3, 1) := by decide +kernel
theorem dL_law_420 : decode cL_law 420 = .ok (.iconst 1, 1) := by decide +kernel
theorem dL_law_421 : decode cL_law 421 = .ok (.iadd, 1) := by decide +kernel
theorem dL_law_422 : decode cL_law 422 = .ok (.iaload, 1) := by decide +kernel
theorem dL_law_423 : decode cL_law 423 = .ok (.aload_n 0, 1) := by decide +kernel
theorem dL_law_424 : decode cL_law 424 = .ok (.iload_n 3, 1) := by decide +kernel
theorem dL_law_425 : decode cL_law 425 = .ok (.iconst 2, 1) := by decide +kernel
theorem dL_law_426 : decode cL_law 426 = .ok (.iadd, 1) := by decide +kernel
theorem dL_law_427 : decode cL_law 427 = .ok (.iaload, 1) := by decide +kernel
theorem dL_law_428 : decode cL_law 428 = .ok (.invokevirtual 55, 3) := by decide +kernel
theorem dL_law_431 : decode cL_law 431 = .ok (.if_icmp .eq 572, 3) := by decide +kernel
theorem dL_law_434 : decode cL_law 434 = .ok (.iconst 0, 1) := by decide +kernel
theorem dL_law_435 : decode cL_law 435 = .ok (.ireturn, 1) := by decide +kernel
theorem dL_law_436 : decode cL_law 436 = .ok (.aload_n 1, 1) := by decide +kernel
theorem dL_law_437 : decode cL_law 437 = .ok (.aload_n 0, 1) := by decide +kernel
theorem dL_law_438 : decode cL_law 438 = .ok (.iload_n 3, 1) := by decide +kernel
theorem dL_law_439 : decode cL_law 439 = .ok (.iconst 1, 1) := by decide +kernel
theorem dL_law_440 : decode cL_law 440 = .ok (.iadd, 1) := by decide +kernel
theorem dL_law_441 : decode cL_law 441 = .ok (.iaload, 1) := by decide +kernel
theorem dL_law_442 : decode cL_law 442 = .ok (.invokevirtual 56, 3) := by decide +kernel
theorem dL_law_445 : decode cL_law 445 = .ok (.aload_n 2, 1) := by decide +kernel
theorem dL_law_446 : decode cL_law 446 = .ok (.aload_n 0, 1) := by decide +kernel
theorem dL_law_447 : decode cL_law 447 = .ok (.iload_n 3, 1) := by decide +kernel
theorem dL_law_448 : decode cL_law 448 = .ok (.iconst 1, 1) := by decide +kernel
theorem dL_law_449 : decode cL_law 449 = .ok (.iadd, 1) := by decide +kernel
theorem dL_law_450 : decode cL_law 450 = .ok (.iaload, 1) := by decide +kernel
theorem dL_law_451 : decode cL_law 451 = .ok (.invokevirtual 59, 3) := by decide +kernel
theorem dL_law_454 : decode cL_law 454 = .ok (.if_icmp .eq 549, 3) := by decide +kernel
theorem dL_law_457 : decode cL_law 457 = .ok (.iconst 0, 1) := by decide +kernel
theorem dL_law_458 : decode cL_law 458 = .ok (.ireturn, 1) := by decide +kernel
theorem dL_law_459 : decode cL_law 459 = .ok (.aload_n 1, 1) := by decide +kernel
theorem dL_law_460 : decode cL_law 460 = .ok (.aload_n 0, 1) := by decide +kernel
theorem dL_law_461 : decode cL_law 461 = .ok (.iload_n 3, 1) := by decide +kernel
theorem dL_law_462 : decode cL_law 462 = .ok (.iconst 1, 1) := by decide +kernel
theorem dL_law_463 : decode cL_law 463 = .ok (.iadd, 1) := by decide +kernel
theorem dL_law_464 : decode cL_law 464 = .ok (.iaload, 1) := by decide +kernel
theorem dL_law_465 : decode cL_law 465 = .ok (.invokevirtual 60, 3) := by decide +kernel
theorem dL_law_468 : decode cL_law 468 = .ok (.aload_n 2, 1) := by decide +kernel
theorem dL_law_469 : decode cL_law 469 = .ok (.aload_n 0, 1) := by decide +kernel
theorem dL_law_470 : decode cL_law 470 = .ok (.iload_n 3, 1) := by decide +kernel
theorem dL_law_471 : decode cL_law 471 = .ok (.iconst 1, 1) := by decide +kernel
theorem dL_law_472 : decode cL_law 472 = .ok (.iadd, 1) := by decide +kernel
theorem dL_law_473 : decode cL_law 473 = .ok (.iaload, 1) := by decide +kernel
theorem dL_law_474 : decode cL_law 474 = .ok (.invokevirtual 63, 3) := by decide +kernel
theorem dL_law_477 : decode cL_law 477 = .ok (.if_icmp .eq 526, 3) := by decide +kernel
theorem dL_law_480 : decode cL_law 480 = .ok (.iconst 0, 1) := by decide +kernel
theorem dL_law_481 : decode cL_law 481 = .ok (.ireturn, 1) := by decide +kernel
theorem dL_law_482 : decode cL_law 482 = .ok (.aload_n 1, 1) := by decide +kernel
theorem dL_law_483 : decode cL_law 483 = .ok (.invokevirtual 64, 3) := by decide +kernel
theorem dL_law_486 : decode cL_law 486 = .ok (.aload_n 2, 1) := by decide +kernel
theorem dL_law_487 : decode cL_law 487 = .ok (.invokevirtual 67, 3) := by decide +kernel
theorem dL_law_490 : decode cL_law 490 = .ok (.if_icmp .eq 513, 3) := by decide +kernel
theorem dL_law_493 : decode cL_law 493 = .ok (.iconst 0, 1) := by decide +kernel
theorem dL_law_494 : decode cL_law 494 = .ok (.ireturn, 1) := by decide +kernel
theorem dL_law_495 : decode cL_law 495 = .ok (.aload_n 1, 1) := by decide +kernel
theorem dL_law_496 : decode cL_law 496 = .ok (.invokevirtual 68, 3) := by decide +kernel
theorem dL_law_499 : decode cL_law 499 = .ok (.aload_n 2, 1) := by decide +kernel
theorem dL_law_500 : decode cL_law 500 = .ok (.invokevirtual 71, 3) := by decide +kernel
theorem dL_law_503 : decode cL_law 503 = .ok (.if_icmp .eq 500, 3) := by decide +kernel
theorem dL_law_506 : decode cL_law 506 = .ok (.iconst 0, 1) := by decide +kernel
theorem dL_law_507 : decode cL_law 507 = .ok (.ireturn, 1) := by decide +kernel
theorem dL_law_508 : decode cL_law 508 = .ok (.aload_n 1, 1) := by decide +kernel
theorem dL_law_509 : decode cL_law 509 = .ok (.aload_n 0, 1) := by decide +kernel
theorem dL_law_510 : decode cL_law 510 = .ok (.iload_n 3, 1) := by decide +kernel
theorem dL_law_511 : decode cL_law 511 = .ok (.iconst 1, 1) := by decide +kernel
theorem dL_law_512 : decode cL_law 512 = .ok (.iadd, 1) := by decide +kernel
theorem dL_law_513 : decode cL_law 513 = .ok (.iaload, 1) := by decide +kernel
theorem dL_law_514 : decode cL_law 514 = .ok (.invokevirtual 72, 3) := by decide +kernel
theorem dL_law_517 : decode cL_law 517 = .ok (.aload_n 2, 1) := by decide +kernel
theorem dL_law_518 : decode cL_law 518 = .ok (.aload_n 0, 1) := by decide +kernel
theorem dL_law_519 : decode cL_law 519 = .ok (.iload_n 3, 1) := by decide +kernel
theorem dL_law_520 : decode cL_law 520 = .ok (.iconst 1, 1) := by decide +kernel
theorem dL_law_521 : decode cL_law 521 = .ok (.iadd, 1) := by decide +kernel
theorem dL_law_522 : decode cL_law 522 = .ok (.iaload, 1) := by decide +kernel
theorem dL_law_523 : decode cL_law 523 = .ok (.invokevirtual 75, 3) := by decide +kernel
theorem dL_law_526 : decode cL_law 526 = .ok (.if_icmp .eq 477, 3) := by decide +kernel
theorem dL_law_529 : decode cL_law 529 = .ok (.iconst 0, 1) := by decide +kernel
theorem dL_law_530 : decode cL_law 530 = .ok (.ireturn, 1) := by decide +kernel
theorem dL_law_531 : decode cL_law 531 = .ok (.aload_n 1, 1) := by decide +kernel
theorem dL_law_532 : decode cL_law 532 = .ok (.aload_n 0, 1) := by decide +kernel
theorem dL_law_533 : decode cL_law 533 = .ok (.iload_n 3, 1) := by decide +kernel
theorem dL_law_534 : decode cL_law 534 = .ok (.iconst 1, 1) := by decide +kernel
theorem dL_law_535 : decode cL_law 535 = .ok (.iadd, 1) := by decide +kernel
theorem dL_law_536 : decode cL_law 536 = .ok (.iaload, 1) := by decide +kernel
theorem dL_law_537 : decode cL_law 537 = .ok (.invokevirtual 76, 3) := by decide +kernel
theorem dL_law_540 : decode cL_law 540 = .ok (.aload_n 2, 1) := by decide +kernel
theorem dL_law_541 : decode cL_law 541 = .ok (.aload_n 0, 1) := by decide +kernel
theorem dL_law_542 : decode cL_law 542 = .ok (.iload_n 3, 1) := by decide +kernel
theorem dL_law_543 : decode cL_law 543 = .ok (.iconst 1, 1) := by decide +kernel
theorem dL_law_544 : decode cL_law 544 = .ok (.iadd, 1) := by decide +kernel
theorem dL_law_545 : decode cL_law 545 = .ok (.iaload, 1) := by decide +kernel
theorem dL_law_546 : decode cL_law 546 = .ok (.invokevirtual 79, 3) := by decide +kernel
theorem dL_law_549 : decode cL_law 549 = .ok (.if_icmp .eq 454, 3) := by decide +kernel
theorem dL_law_552 : decode cL_law 552 = .ok (.iconst 0, 1) := by decide +kernel
theorem dL_law_553 : decode cL_law 553 = .ok (.ireturn, 1) := by decide +kernel
theorem dL_law_554 : decode cL_law 554 = .ok (.aload_n 1, 1) := by decide +kernel
theorem dL_law_555 : decode cL_law 555 = .ok (.aload_n 0, 1) := by decide +kernel
theorem dL_law_556 : decode cL_law 556 = .ok (.iload_n 3, 1) := by decide +kernel
theorem dL_law_557 : decode cL_law 557 = .ok (.iconst 1, 1) := by decide +kernel
theorem dL_law_558 : decode cL_law 558 = .ok (.iadd, 1) := by decide +kernel
theorem dL_law_559 : decode cL_law 559 = .ok (.iaload, 1) := by decide +kernel
theorem dL_law_560 : decode cL_law 560 = .ok (.invokevirtual 80, 3) := by decide +kernel
theorem dL_law_563 : decode cL_law 563 = .ok (.aload_n 2, 1) := by decide +kernel
theorem dL_law_564 : decode cL_law 564 = .ok (.aload_n 0, 1) := by decide +kernel
theorem dL_law_565 : decode cL_law 565 = .ok (.iload_n 3, 1) := by decide +kernel
theorem dL_law_566 : decode cL_law 566 = .ok (.iconst 1, 1) := by decide +kernel
theorem dL_law_567 : decode cL_law 567 = .ok (.iadd, 1) := by decide +kernel
theorem dL_law_568 : decode cL_law 568 = .ok (.iaload, 1) := by decide +kernel
theorem dL_law_569 : decode cL_law 569 = .ok (.invokevirtual 83, 3) := by decide +kernel
theorem dL_law_572 : decode cL_law 572 = .ok (.if_icmp .eq 431, 3) := by decide +kernel
theorem dL_law_575 : decode cL_law 575 = .ok (.iconst 0, 1) := by decide +kernel
theorem dL_law_576 : decode cL_law 576 = .ok (.ireturn, 1) := by decide +kernel
theorem dL_law_577 : decode cL_law 577 = .ok (.aload_n 1, 1) := by decide +kernel
theorem dL_law_578 : decode cL_law 578 = .ok (.aload_n 0, 1) := by decide +kernel
theorem dL_law_579 : decode cL_law 579 = .ok (.iload_n 3, 1) := by decide +kernel
theorem dL_law_580 : decode cL_law 580 = .ok (.iconst 1, 1) := by decide +kernel
theorem dL_law_581 : decode cL_law 581 = .ok (.iadd, 1) := by decide +kernel
theorem dL_law_582 : decode cL_law 582 = .ok (.iaload, 1) := by decide +kernel
theorem dL_law_583 : decode cL_law 583 = .ok (.invokevirtual 84, 3) := by decide +kernel
theorem dL_law_586 : decode cL_law 586 = .ok (.aload_n 2, 1) := by decide +kernel
theorem dL_law_587 : decode cL_law 587 = .ok (.aload_n 0, 1) := by decide +kernel
theorem dL_law_588 : decode cL_law 588 = .ok (.iload_n 3, 1) := by decide +kernel
theorem dL_law_589 : decode cL_law 589 = .ok (.iconst 1, 1) := by decide +kernel
theorem dL_law_590 : decode cL_law 590 = .ok (.iadd, 1) := by decide +kernel
theorem dL_law_591 : decode cL_law 591 = .ok (.iaload, 1) := by decide +kernel
theorem dL_law_592 : decode cL_law 592 = .ok (.invokevirtual 87, 3) := by decide +kernel
theorem dL_law_595 : decode cL_law 595 = .ok (.if_icmp .eq 408, 3) := by decide +kernel
theorem dL_law_598 : decode cL_law 598 = .ok (.iconst 0, 1) := by decide +kernel
theorem dL_law_599 : decode cL_law 599 = .ok (.ireturn, 1) := by decide +kernel
theorem dL_law_600 : decode cL_law 600 = .ok (.aload_n 1, 1) := by decide +kernel
theorem dL_law_601 : decode cL_law 601 = .ok (.aload_n 0, 1) := by decide +kernel
theorem dL_law_602 : decode cL_law 602 = .ok (.iload_n 3, 1) := by decide +kernel
theorem dL_law_603 : decode cL_law 603 = .ok (.iconst 1, 1) := by decide +kernel
theorem dL_law_604 : decode cL_law 604 = .ok (.iadd, 1) := by decide +kernel
theorem dL_law_605 : decode cL_law 605 = .ok (.iaload, 1) := by decide +kernel
theorem dL_law_606 : decode cL_law 606 = .ok (.aload_n 0, 1) := by decide +kernel
theorem dL_law_607 : decode cL_law 607 = .ok (.iload_n 3, 1) := by decide +kernel
theorem dL_law_608 : decode cL_law 608 = .ok (.iconst 2, 1) := by decide +kernel
theorem dL_law_609 : decode cL_law 609 = .ok (.iadd, 1) := by decide +kernel
theorem dL_law_610 : decode cL_law 610 = .ok (.iaload, 1) := by decide +kernel
theorem dL_law_611 : decode cL_law 611 = .ok (.invokevirtual 88, 3) := by decide +kernel
theorem dL_law_614 : decode cL_law 614 = .ok (.aload_n 2, 1) := by decide +kernel
theorem dL_law_615 : decode cL_law 615 = .ok (.aload_n 0, 1) := by decide +kernel
theorem dL_law_616 : decode cL_law 616 = .ok (.iload_n 3, 1) := by decide +kernel
theorem dL_law_617 : decode cL_law 617 = .ok (.iconst 1, 1) := by decide +kernel
theorem dL_law_618 : decode cL_law 618 = .ok (.iadd, 1) := by decide +kernel
theorem dL_law_619 : decode cL_law 619 = .ok (.iaload, 1) := by decide +kernel
theorem dL_law_620 : decode cL_law 620 = .ok (.aload_n 0, 1) := by decide +kernel
theorem dL_law_621 : decode cL_law 621 = .ok (.iload_n 3, 1) := by decide +kernel
theorem dL_law_622 : decode cL_law 622 = .ok (.iconst 2, 1) := by decide +kernel
theorem dL_law_623 : decode cL_law 623 = .ok (.iadd, 1) := by decide +kernel
theorem dL_law_624 : decode cL_law 624 = .ok (.iaload, 1) := by decide +kernel
theorem dL_law_625 : decode cL_law 625 = .ok (.invokevirtual 91, 3) := by decide +kernel
theorem dL_law_628 : decode cL_law 628 = .ok (.if_icmp .eq 375, 3) := by decide +kernel
theorem dL_law_631 : decode cL_law 631 = .ok (.iconst 0, 1) := by decide +kernel
theorem dL_law_632 : decode cL_law 632 = .ok (.ireturn, 1) := by decide +kernel
theorem dL_law_633 : decode cL_law 633 = .ok (.aload_n 1, 1) := by decide +kernel
theorem dL_law_634 : decode cL_law 634 = .ok (.aload_n 0, 1) := by decide +kernel
theorem dL_law_635 : decode cL_law 635 = .ok (.iload_n 3, 1) := by decide +kernel
theorem dL_law_636 : decode cL_law 636 = .ok (.iconst 1, 1) := by decide +kernel
theorem dL_law_637 : decode cL_law 637 = .ok (.iadd, 1) := by decide +kernel
theorem dL_law_638 : decode cL_law 638 = .ok (.iaload, 1) := by decide +kernel
theorem dL_law_639 : decode cL_law 639 = .ok (.invokevirtual 92, 3) := by decide +kernel
theorem dL_law_642 : decode cL_law 642 = .ok (.aload_n 2, 1) := by decide +kernel
theorem dL_law_643 : decode cL_law 643 = .ok (.aload_n 0, 1) := by decide +kernel
theorem dL_law_644 : decode cL_law 644 = .ok (.iload_n 3, 1) := by decide +kernel
theorem dL_law_645 : decode cL_law 645 = .ok (.iconst 1, 1) := by decide +kernel
theorem dL_law_646 : decode cL_law 646 = .ok (.iadd, 1) := by decide +kernel
theorem dL_law_647 : decode cL_law 647 = .ok (.iaload, 1) := by decide +kernel
theorem dL_law_648 : decode cL_law 648 = .ok (.invokevirtual 95, 3) := by decide +kernel
theorem dL_law_651 : decode cL_law 651 = .ok (.if_icmp .eq 352, 3) := by decide +kernel
theorem dL_law_654 : decode cL_law 654 = .ok (.iconst 0, 1) := by decide +kernel
theorem dL_law_655 : decode cL_law 655 = .ok (.ireturn, 1) := by decide +kernel
theorem dL_law_656 : decode cL_law 656 = .ok (.aload_n 1, 1) := by decide +kernel
theorem dL_law_657 : decode cL_law 657 = .ok (.invokevirtual 96, 3) := by decide +kernel
theorem dL_law_660 : decode cL_law 660 = .ok (.aload_n 2, 1) := by decide +kernel
theorem dL_law_661 : decode cL_law 661 = .ok (.invokevirtual 99, 3) := by decide +kernel
theorem dL_law_664 : decode cL_law 664 = .ok (.if_icmp .eq 339, 3) := by decide +kernel
theorem dL_law_667 : decode cL_law 667 = .ok (.iconst 0, 1) := by decide +kernel
theorem dL_law_668 : decode cL_law 668 = .ok (.ireturn, 1) := by decide +kernel
theorem dL_law_669 : decode cL_law 669 = .ok (.aload_n 1, 1) := by decide +kernel
theorem dL_law_670 : decode cL_law 670 = .ok (.aload_n 0, 1) := by decide +kernel
theorem dL_law_671 : decode cL_law 671 = .ok (.iload_n 3, 1) := by decide +kernel
theorem dL_law_672 : decode cL_law 672 = .ok (.iconst 1, 1) := by decide +kernel
theorem dL_law_673 : decode cL_law 673 = .ok (.iadd, 1) := by decide +kernel
theorem dL_law_674 : decode cL_law 674 = .ok (.iaload, 1) := by decide +kernel
theorem dL_law_675 : decode cL_law 675 = .ok (.invokevirtual 100, 3) := by decide +kernel
theorem dL_law_678 : decode cL_law 678 = .ok (.aload_n 2, 1) := by decide +kernel
theorem dL_law_679 : decode cL_law 679 = .ok (.aload_n 0, 1) := by decide +kernel
theorem dL_law_680 : decode cL_law 680 = .ok (.iload_n 3, 1) := by decide +kernel
theorem dL_law_681 : decode cL_law 681 = .ok (.iconst 1, 1) := by decide +kernel
theorem dL_law_682 : decode cL_law 682 = .ok (.iadd, 1) := by decide +kernel
theorem dL_law_683 : decode cL_law 683 = .ok (.iaload, 1) := by decide +kernel
theorem dL_law_684 : decode cL_law 684 = .ok (.invokevirtual 103, 3) := by decide +kernel
theorem dL_law_687 : decode cL_law 687 = .ok (.if_icmp .eq 316, 3) := by decide +kernel
theorem dL_law_690 : decode cL_law 690 = .ok (.iconst 0, 1) := by decide +kernel
theorem dL_law_691 : decode cL_law 691 = .ok (.ireturn, 1) := by decide +kernel
theorem dL_law_692 : decode cL_law 692 = .ok (.aload_n 1, 1) := by decide +kernel
theorem dL_law_693 : decode cL_law 693 = .ok (.aload_n 0, 1) := by decide +kernel
theorem dL_law_694 : decode cL_law 694 = .ok (.iload_n 3, 1) := by decide +kernel
theorem dL_law_695 : decode cL_law 695 = .ok (.iconst 1, 1) := by decide +kernel
theorem dL_law_696 : decode cL_law 696 = .ok (.iadd, 1) := by decide +kernel
theorem dL_law_697 : decode cL_law 697 = .ok (.iaload, 1) := by decide +kernel
theorem dL_law_698 : decode cL_law 698 = .ok (.aload_n 0, 1) := by decide +kernel
theorem dL_law_699 : decode cL_law 699 = .ok (.iload_n 3, 1) := by decide +kernel
theorem dL_law_700 : decode cL_law 700 = .ok (.iconst 2, 1) := by decide +kernel
theorem dL_law_701 : decode cL_law 701 = .ok (.iadd, 1) := by decide +kernel
theorem dL_law_702 : decode cL_law 702 = .ok (.iaload, 1) := by decide +kernel
theorem dL_law_703 : decode cL_law 703 = .ok (.aload_n 0, 1) := by decide +kernel
theorem dL_law_704 : decode cL_law 704 = .ok (.iload_n 3, 1) := by decide +kernel
theorem dL_law_705 : decode cL_law 705 = .ok (.iconst 3, 1) := by decide +kernel
theorem dL_law_706 : decode cL_law 706 = .ok (.iadd, 1) := by decide +kernel
theorem dL_law_707 : decode cL_law 707 = .ok (.iaload, 1) := by decide +kernel
theorem dL_law_708 : decode cL_law 708 = .ok (.invokevirtual 104, 3) := by decide +kernel
theorem dL_law_711 : decode cL_law 711 = .ok (.aload_n 2, 1) := by decide +kernel
theorem dL_law_712 : decode cL_law 712 = .ok (.aload_n 0, 1) := by decide +kernel
theorem dL_law_713 : decode cL_law 713 = .ok (.iload_n 3, 1) := by decide +kernel
theorem dL_law_714 : decode cL_law 714 = .ok (.iconst 1, 1) := by decide +kernel
theorem dL_law_715 : decode cL_law 715 = .ok (.iadd, 1) := by decide +kernel
theorem dL_law_716 : decode cL_law 716 = .ok (.iaload, 1) := by decide +kernel
theorem dL_law_717 : decode cL_law 717 = .ok (.aload_n 0, 1) := by decide +kernel
theorem dL_law_718 : decode cL_law 718 = .ok (.iload_n 3, 1) := by decide +kernel
theorem dL_law_719 : decode cL_law 719 = .ok (.iconst 2, 1) := by decide +kernel
theorem dL_law_720 : decode cL_law 720 = .ok (.iadd, 1) := by decide +kernel
theorem dL_law_721 : decode cL_law 721 = .ok (.iaload, 1) := by decide +kernel
theorem dL_law_722 : decode cL_law 722 = .ok (.aload_n 0, 1) := by decide +kernel
theorem dL_law_723 : decode cL_law 723 = .ok (.iload_n 3, 1) := by decide +kernel
theorem dL_law_724 : decode cL_law 724 = .ok (.iconst 3, 1) := by decide +kernel
theorem dL_law_725 : decode cL_law 725 = .ok (.iadd, 1) := by decide +kernel
theorem dL_law_726 : decode cL_law 726 = .ok (.iaload, 1) := by decide +kernel
theorem dL_law_727 : decode cL_law 727 = .ok (.invokevirtual 108, 3) := by decide +kernel
theorem dL_law_730 : decode cL_law 730 = .ok (.if_icmp .eq 273, 3) := by decide +kernel
theorem dL_law_733 : decode cL_law 733 = .ok (.iconst 0, 1) := by decide +kernel
theorem dL_law_734 : decode cL_law 734 = .ok (.ireturn, 1) := by decide +kernel
theorem dL_law_735 : decode cL_law 735 = .ok (.aload_n 1, 1) := by decide +kernel
theorem dL_law_736 : decode cL_law 736 = .ok (.aload_n 0, 1) := by decide +kernel
theorem dL_law_737 : decode cL_law 737 = .ok (.iload_n 3, 1) := by decide +kernel
theorem dL_law_738 : decode cL_law 738 = .ok (.iconst 1, 1) := by decide +kernel
theorem dL_law_739 : decode cL_law 739 = .ok (.iadd, 1) := by decide +kernel
theorem dL_law_740 : decode cL_law 740 = .ok (.iaload, 1) := by decide +kernel
theorem dL_law_741 : decode cL_law 741 = .ok (.aload_n 0, 1) := by decide +kernel
theorem dL_law_742 : decode cL_law 742 = .ok (.iload_n 3, 1) := by decide +kernel
theorem dL_law_743 : decode cL_law 743 = .ok (.iconst 2, 1) := by decide +kernel
theorem dL_law_744 : decode cL_law 744 = .ok (.iadd, 1) := by decide +kernel
theorem dL_law_745 : decode cL_law 745 = .ok (.iaload, 1) := by decide +kernel
theorem dL_law_746 : decode cL_law 746 = .ok (.aload_n 0, 1) := by decide +kernel
theorem dL_law_747 : decode cL_law 747 = .ok (.iload_n 3, 1) := by decide +kernel
theorem dL_law_748 : decode cL_law 748 = .ok (.iconst 3, 1) := by decide +kernel
theorem dL_law_749 : decode cL_law 749 = .ok (.iadd, 1) := by decide +kernel
theorem dL_law_750 : decode cL_law 750 = .ok (.iaload, 1) := by decide +kernel
theorem dL_law_751 : decode cL_law 751 = .ok (.invokevirtual 109, 3) := by decide +kernel
theorem dL_law_754 : decode cL_law 754 = .ok (.aload_n 2, 1) := by decide +kernel
theorem dL_law_755 : decode cL_law 755 = .ok (.aload_n 0, 1) := by decide +kernel
theorem dL_law_756 : decode cL_law 756 = .ok (.iload_n 3, 1) := by decide +kernel
theorem dL_law_757 : decode cL_law 757 = .ok (.iconst 1, 1) := by decide +kernel
theorem dL_law_758 : decode cL_law 758 = .ok (.iadd, 1) := by decide +kernel
theorem dL_law_759 : decode cL_law 759 = .ok (.iaload, 1) := by decide +kernel
theorem dL_law_760 : decode cL_law 760 = .ok (.aload_n 0, 1) := by decide +kernel
theorem dL_law_761 : decode cL_law 761 = .ok (.iload_n 3, 1) := by decide +kernel
theorem dL_law_762 : decode cL_law 762 = .ok (.iconst 2, 1) := by decide +kernel
theorem dL_law_763 : decode cL_law 763 = .ok (.iadd, 1) := by decide +kernel
theorem dL_law_764 : decode cL_law 764 = .ok (.iaload, 1) := by decide +kernel
theorem dL_law_765 : decode cL_law 765 = .ok (.aload_n 0, 1) := by decide +kernel
theorem dL_law_766 : decode cL_law 766 = .ok (.iload_n 3, 1) := by decide +kernel
theorem dL_law_767 : decode cL_law 767 = .ok (.iconst 3, 1) := by decide +kernel
theorem dL_law_768 : decode cL_law 768 = .ok (.iadd, 1) := by decide +kernel
theorem dL_law_769 : decode cL_law 769 = .ok (.iaload, 1) := by decide +kernel
theorem dL_law_770 : decode cL_law 770 = .ok (.invokevirtual 112, 3) := by decide +kernel
theorem dL_law_773 : decode cL_law 773 = .ok (.if_icmp .eq 230, 3) := by decide +kernel
theorem dL_law_776 : decode cL_law 776 = .ok (.iconst 0, 1) := by decide +kernel
theorem dL_law_777 : decode cL_law 777 = .ok (.ireturn, 1) := by decide +kernel
theorem dL_law_778 : decode cL_law 778 = .ok (.aload_n 1, 1) := by decide +kernel
theorem dL_law_779 : decode cL_law 779 = .ok (.aload_n 0, 1) := by decide +kernel
theorem dL_law_780 : decode cL_law 780 = .ok (.iload_n 3, 1) := by decide +kernel
theorem dL_law_781 : decode cL_law 781 = .ok (.iconst 1, 1) := by decide +kernel
theorem dL_law_782 : decode cL_law 782 = .ok (.iadd, 1) := by decide +kernel
theorem dL_law_783 : decode cL_law 783 = .ok (.iaload, 1) := by decide +kernel
theorem dL_law_784 : decode cL_law 784 = .ok (.aload_n 0, 1) := by decide +kernel
theorem dL_law_785 : decode cL_law 785 = .ok (.iload_n 3, 1) := by decide +kernel
theorem dL_law_786 : decode cL_law 786 = .ok (.iconst 2, 1) := by decide +kernel
theorem dL_law_787 : decode cL_law 787 = .ok (.iadd, 1) := by decide +kernel
theorem dL_law_788 : decode cL_law 788 = .ok (.iaload, 1) := by decide +kernel
theorem dL_law_789 : decode cL_law 789 = .ok (.aload_n 0, 1) := by decide +kernel
theorem dL_law_790 : decode cL_law 790 = .ok (.iload_n 3, 1) := by decide +kernel
theorem dL_law_791 : decode cL_law 791 = .ok (.iconst 3, 1) := by decide +kernel
theorem dL_law_792 : decode cL_law 792 = .ok (.iadd, 1) := by decide +kernel
theorem dL_law_793 : decode cL_law 793 = .ok (.iaload, 1) := by decide +kernel
theorem dL_law_794 : decode cL_law 794 = .ok (.aload_n 0, 1) := by decide +kernel
theorem dL_law_795 : decode cL_law 795 = .ok (.iload_n 3, 1) := by decide +kernel
theorem dL_law_796 : decode cL_law 796 = .ok (.iconst 4, 1) := by decide +kernel
theorem dL_law_797 : decode cL_law 797 = .ok (.iadd, 1) := by decide +kernel
theorem dL_law_798 : decode cL_law 798 = .ok (.iaload, 1) := by decide +kernel
theorem dL_law_799 : decode cL_law 799 = .ok (.invokevirtual 113, 3) := by decide +kernel
theorem dL_law_802 : decode cL_law 802 = .ok (.aload_n 2, 1) := by decide +kernel
theorem dL_law_803 : decode cL_law 803 = .ok (.aload_n 0, 1) := by decide +kernel
theorem dL_law_804 : decode cL_law 804 = .ok (.iload_n 3, 1) := by decide +kernel
theorem dL_law_805 : decode cL_law 805 = .ok (.iconst 1, 1) := by decide +kernel
theorem dL_law_806 : decode cL_law 806 = .ok (.iadd, 1) := by decide +kernel
theorem dL_law_807 : decode cL_law 807 = .ok (.iaload, 1) := by decide +kernel
theorem dL_law_808 : decode cL_law 808 = .ok (.aload_n 0, 1) := by decide +kernel
theorem dL_law_809 : decode cL_law 809 = .ok (.iload_n 3, 1) := by decide +kernel
theorem dL_law_810 : decode cL_law 810 = .ok (.iconst 2, 1) := by decide +kernel
theorem dL_law_811 : decode cL_law 811 = .ok (.iadd, 1) := by decide +kernel
theorem dL_law_812 : decode cL_law 812 = .ok (.iaload, 1) := by decide +kernel
theorem dL_law_813 : decode cL_law 813 = .ok (.aload_n 0, 1) := by decide +kernel
theorem dL_law_814 : decode cL_law 814 = .ok (.iload_n 3, 1) := by decide +kernel
theorem dL_law_815 : decode cL_law 815 = .ok (.iconst 3, 1) := by decide +kernel
theorem dL_law_816 : decode cL_law 816 = .ok (.iadd, 1) := by decide +kernel
theorem dL_law_817 : decode cL_law 817 = .ok (.iaload, 1) := by decide +kernel
theorem dL_law_818 : decode cL_law 818 = .ok (.aload_n 0, 1) := by decide +kernel
theorem dL_law_819 : decode cL_law 819 = .ok (.iload_n 3, 1) := by decide +kernel
theorem dL_law_820 : decode cL_law 820 = .ok (.iconst 4, 1) := by decide +kernel
theorem dL_law_821 : decode cL_law 821 = .ok (.iadd, 1) := by decide +kernel
theorem dL_law_822 : decode cL_law 822 = .ok (.iaload, 1) := by decide +kernel
theorem dL_law_823 : decode cL_law 823 = .ok (.invokevirtual 117, 3) := by decide +kernel
theorem dL_law_826 : decode cL_law 826 = .ok (.if_icmp .eq 177, 3) := by decide +kernel
theorem dL_law_829 : decode cL_law 829 = .ok (.iconst 0, 1) := by decide +kernel
theorem dL_law_830 : decode cL_law 830 = .ok (.ireturn, 1) := by decide +kernel
theorem dL_law_831 : decode cL_law 831 = .ok (.aload_n 1, 1) := by decide +kernel
theorem dL_law_832 : decode cL_law 832 = .ok (.invokevirtual 118, 3) := by decide +kernel
theorem dL_law_835 : decode cL_law 835 = .ok (.aload_n 2, 1) := by decide +kernel
theorem dL_law_836 : decode cL_law 836 = .ok (.invokevirtual 121, 3) := by decide +kernel
theorem dL_law_839 : decode cL_law 839 = .ok (.if_icmp .eq 164, 3) := by decide +kernel
theorem dL_law_842 : decode cL_law 842 = .ok (.iconst 0, 1) := by decide +kernel
theorem dL_law_843 : decode cL_law 843 = .ok (.ireturn, 1) := by decide +kernel
theorem dL_law_844 : decode cL_law 844 = .ok (.aload_n 1, 1) := by decide +kernel
theorem dL_law_845 : decode cL_law 845 = .ok (.aload_n 0, 1) := by decide +kernel
theorem dL_law_846 : decode cL_law 846 = .ok (.iload_n 3, 1) := by decide +kernel
theorem dL_law_847 : decode cL_law 847 = .ok (.iconst 1, 1) := by decide +kernel
theorem dL_law_848 : decode cL_law 848 = .ok (.iadd, 1) := by decide +kernel
theorem dL_law_849 : decode cL_law 849 = .ok (.iaload, 1) := by decide +kernel
theorem dL_law_850 : decode cL_law 850 = .ok (.aload_n 0, 1) := by decide +kernel
theorem dL_law_851 : decode cL_law 851 = .ok (.iload_n 3, 1) := by decide +kernel
theorem dL_law_852 : decode cL_law 852 = .ok (.iconst 2, 1) := by decide +kernel
theorem dL_law_853 : decode cL_law 853 = .ok (.iadd, 1) := by decide +kernel
theorem dL_law_854 : decode cL_law 854 = .ok (.iaload, 1) := by decide +kernel
theorem dL_law_855 : decode cL_law 855 = .ok (.aload_n 0, 1) := by decide +kernel
theorem dL_law_856 : decode cL_law 856 = .ok (.iload_n 3, 1) := by decide +kernel
theorem dL_law_857 : decode cL_law 857 = .ok (.iconst 3, 1) := by decide +kernel
theorem dL_law_858 : decode cL_law 858 = .ok (.iadd, 1) := by decide +kernel
theorem dL_law_859 : decode cL_law 859 = .ok (.iaload, 1) := by decide +kernel
theorem dL_law_860 : decode cL_law 860 = .ok (.invokevirtual 122, 3) := by decide +kernel
theorem dL_law_863 : decode cL_law 863 = .ok (.aload_n 2, 1) := by decide +kernel
theorem dL_law_864 : decode cL_law 864 = .ok (.aload_n 0, 1) := by decide +kernel
theorem dL_law_865 : decode cL_law 865 = .ok (.iload_n 3, 1) := by decide +kernel
theorem dL_law_866 : decode cL_law 866 = .ok (.iconst 1, 1) := by decide +kernel
theorem dL_law_867 : decode cL_law 867 = .ok (.iadd, 1) := by decide +kernel
theorem dL_law_868 : decode cL_law 868 = .ok (.iaload, 1) := by decide +kernel
theorem dL_law_869 : decode cL_law 869 = .ok (.aload_n 0, 1) := by decide +kernel
theorem dL_law_870 : decode cL_law 870 = .ok (.iload_n 3, 1) := by decide +kernel
theorem dL_law_871 : decode cL_law 871 = .ok (.iconst 2, 1) := by decide +kernel
theorem dL_law_872 : decode cL_law 872 = .ok (.iadd, 1) := by decide +kernel
theorem dL_law_873 : decode cL_law 873 = .ok (.iaload, 1) := by decide +kernel
theorem dL_law_874 : decode cL_law 874 = .ok (.aload_n 0, 1) := by decide +kernel
theorem dL_law_875 : decode cL_law 875 = .ok (.iload_n 3, 1) := by decide +kernel
theorem dL_law_876 : decode cL_law 876 = .ok (.iconst 3, 1) := by decide +kernel
theorem dL_law_877 : decode cL_law 877 = .ok (.iadd, 1) := by decide +kernel
theorem dL_law_878 : decode cL_law 878 = .ok (.iaload, 1) := by decide +kernel
theorem dL_law_879 : decode cL_law 879 = .ok (.invokevirtual 125, 3) := by decide +kernel
theorem dL_law_882 : decode cL_law 882 = .ok (.if_icmp .eq 121, 3) := by decide +kernel
theorem dL_law_885 : decode cL_law 885 = .ok (.iconst 0, 1) := by decide +kernel
theorem dL_law_886 : decode cL_law 886 = .ok (.ireturn, 1) := by decide +kernel
theorem dL_law_887 : decode cL_law 887 = .ok (.aload_n 1, 1) := by decide +kernel
theorem dL_law_888 : decode cL_law 888 = .ok (.aload_n 0, 1) := by decide +kernel
theorem dL_law_889 : decode cL_law 889 = .ok (.iload_n 3, 1) := by decide +kernel
theorem dL_law_890 : decode cL_law 890 = .ok (.iconst 1, 1) := by decide +kernel
theorem dL_law_891 : decode cL_law 891 = .ok (.iadd, 1) := by decide +kernel
theorem dL_law_892 : decode cL_law 892 = .ok (.iaload, 1) := by decide +kernel
theorem dL_law_893 : decode cL_law 893 = .ok (.aload_n 0, 1) := by decide +kernel
theorem dL_law_894 : decode cL_law 894 = .ok (.iload_n 3, 1) := by decide +kernel
theorem dL_law_895 : decode cL_law 895 = .ok (.iconst 2, 1) := by decide +kernel
theorem dL_law_896 : decode cL_law 896 = .ok (.iadd, 1) := by decide +kernel
theorem dL_law_897 : decode cL_law 897 = .ok (.iaload, 1) := by decide +kernel
theorem dL_law_898 : decode cL_law 898 = .ok (.invokevirtual 126, 3) := by decide +kernel
theorem dL_law_901 : decode cL_law 901 = .ok (.aload_n 2, 1) := by decide +kernel
theorem dL_law_902 : decode cL_law 902 = .ok (.aload_n 0, 1) := by decide +kernel
theorem dL_law_903 : decode cL_law 903 = .ok (.iload_n 3, 1) := by decide +kernel
theorem dL_law_904 : decode cL_law 904 = .ok (.iconst 1, 1) := by decide +kernel
theorem dL_law_905 : decode cL_law 905 = .ok (.iadd, 1) := by decide +kernel
theorem dL_law_906 : decode cL_law 906 = .ok (.iaload, 1) := by decide +kernel
theorem dL_law_907 : decode cL_law 907 = .ok (.aload_n 0, 1) := by decide +kernel
theorem dL_law_908 : decode cL_law 908 = .ok (.iload_n 3, 1) := by decide +kernel
theorem dL_law_909 : decode cL_law 909 = .ok (.iconst 2, 1) := by decide +kernel
theorem dL_law_910 : decode cL_law 910 = .ok (.iadd, 1) := by decide +kernel
theorem dL_law_911 : decode cL_law 911 = .ok (.iaload, 1) := by decide +kernel
theorem dL_law_912 : decode cL_law 912 = .ok (.invokevirtual 129, 3) := by decide +kernel
theorem dL_law_915 : decode cL_law 915 = .ok (.if_icmp .eq 88, 3) := by decide +kernel
theorem dL_law_918 : decode cL_law 918 = .ok (.iconst 0, 1) := by decide +kernel
theorem dL_law_919 : decode cL_law 919 = .ok (.ireturn, 1) := by decide +kernel
theorem dL_law_920 : decode cL_law 920 = .ok (.aload_n 1, 1) := by decide +kernel
theorem dL_law_921 : decode cL_law 921 = .ok (.aload_n 0, 1) := by decide +kernel
theorem dL_law_922 : decode cL_law 922 = .ok (.iload_n 3, 1) := by decide +kernel
theorem dL_law_923 : decode cL_law 923 = .ok (.iconst 1, 1) := by decide +kernel
theorem dL_law_924 : decode cL_law 924 = .ok (.iadd, 1) := by decide +kernel
theorem dL_law_925 : decode cL_law 925 = .ok (.iaload, 1) := by decide +kernel
theorem dL_law_926 : decode cL_law 926 = .ok (.invokevirtual 130, 3) := by decide +kernel
theorem dL_law_929 : decode cL_law 929 = .ok (.aload_n 2, 1) := by decide +kernel
theorem dL_law_930 : decode cL_law 930 = .ok (.aload_n 0, 1) := by decide +kernel
theorem dL_law_931 : decode cL_law 931 = .ok (.iload_n 3, 1) := by decide +kernel
theorem dL_law_932 : decode cL_law 932 = .ok (.iconst 1, 1) := by decide +kernel
theorem dL_law_933 : decode cL_law 933 = .ok (.iadd, 1) := by decide +kernel
theorem dL_law_934 : decode cL_law 934 = .ok (.iaload, 1) := by decide +kernel
theorem dL_law_935 : decode cL_law 935 = .ok (.invokevirtual 133, 3) := by decide +kernel
theorem dL_law_938 : decode cL_law 938 = .ok (.if_icmp .eq 65, 3) := by decide +kernel
theorem dL_law_941 : decode cL_law 941 = .ok (.iconst 0, 1) := by decide +kernel
theorem dL_law_942 : decode cL_law 942 = .ok (.ireturn, 1) := by decide +kernel
theorem dL_law_943 : decode cL_law 943 = .ok (.aload_n 1, 1) := by decide +kernel
theorem dL_law_944 : decode cL_law 944 = .ok (.aload_n 0, 1) := by decide +kernel
theorem dL_law_945 : decode cL_law 945 = .ok (.iload_n 3, 1) := by decide +kernel
theorem dL_law_946 : decode cL_law 946 = .ok (.iconst 1, 1) := by decide +kernel
theorem dL_law_947 : decode cL_law 947 = .ok (.iadd, 1) := by decide +kernel
theorem dL_law_948 : decode cL_law 948 = .ok (.iaload, 1) := by decide +kernel
theorem dL_law_949 : decode cL_law 949 = .ok (.invokevirtual 134, 3) := by decide +kernel
theorem dL_law_952 : decode cL_law 952 = .ok (.aload_n 2, 1) := by decide +kernel
theorem dL_law_953 : decode cL_law 953 = .ok (.aload_n 0, 1) := by decide +kernel
theorem dL_law_954 : decode cL_law 954 = .ok (.iload_n 3, 1) := by decide +kernel
theorem dL_law_955 : decode cL_law 955 = .ok (.iconst 1, 1) := by decide +kernel
theorem dL_law_956 : decode cL_law 956 = .ok (.iadd, 1) := by decide +kernel
theorem dL_law_957 : decode cL_law 957 = .ok (.iaload, 1) := by decide +kernel
theorem dL_law_958 : decode cL_law 958 = .ok (.invokevirtual 137, 3) := by decide +kernel
theorem dL_law_961 : decode cL_law 961 = .ok (.if_icmp .eq 42, 3) := by decide +kernel
theorem dL_law_964 : decode cL_law 964 = .ok (.iconst 0, 1) := by decide +kernel
theorem dL_law_965 : decode cL_law 965 = .ok (.ireturn, 1) := by decide +kernel
theorem dL_law_966 : decode cL_law 966 = .ok (.aload_n 1, 1) := by decide +kernel
theorem dL_law_967 : decode cL_law 967 = .ok (.aload_n 0, 1) := by decide +kernel
theorem dL_law_968 : decode cL_law 968 = .ok (.iload_n 3, 1) := by decide +kernel
theorem dL_law_969 : decode cL_law 969 = .ok (.iconst 1, 1) := by decide +kernel
theorem dL_law_970 : decode cL_law 970 = .ok (.iadd, 1) := by decide +kernel
theorem dL_law_971 : decode cL_law 971 = .ok (.iaload, 1) := by decide +kernel
theorem dL_law_972 : decode cL_law 972 = .ok (.invokevirtual 138, 3) := by decide +kernel
theorem dL_law_975 : decode cL_law 975 = .ok (.aload_n 2, 1) := by decide +kernel
theorem dL_law_976 : decode cL_law 976 = .ok (.aload_n 0, 1) := by decide +kernel
theorem dL_law_977 : decode cL_law 977 = .ok (.iload_n 3, 1) := by decide +kernel
theorem dL_law_978 : decode cL_law 978 = .ok (.iconst 1, 1) := by decide +kernel
theorem dL_law_979 : decode cL_law 979 = .ok (.iadd, 1) := by decide +kernel
theorem dL_law_980 : decode cL_law 980 = .ok (.iaload, 1) := by decide +kernel
theorem dL_law_981 : decode cL_law 981 = .ok (.invokevirtual 141, 3) := by decide +kernel
theorem dL_law_984 : decode cL_law 984 = .ok (.if_icmp .eq 19, 3) := by decide +kernel
theorem dL_law_987 : decode cL_law 987 = .ok (.iconst 0, 1) := by decide +kernel
theorem dL_law_988 : decode cL_law 988 = .ok (.ireturn, 1) := by decide +kernel
theorem dL_law_989 : decode cL_law 989 = .ok (.aload_n 1, 1) := by decide +kernel
theorem dL_law_990 : decode cL_law 990 = .ok (.invokevirtual 142, 3) := by decide +kernel
theorem dL_law_993 : decode cL_law 993 = .ok (.aload_n 2, 1) := by decide +kernel
theorem dL_law_994 : decode cL_law 994 = .ok (.invokevirtual 146, 3) := by decide +kernel
theorem dL_law_997 : decode cL_law 997 = .ok (.lcmp, 1) := by decide +kernel
theorem dL_law_998 : decode cL_law 998 = .ok (.ifCond .eq 5, 3) := by decide +kernel
theorem dL_law_1001 : decode cL_law 1001 = .ok (.iconst 0, 1) := by decide +kernel
theorem dL_law_1002 : decode cL_law 1002 = .ok (.ireturn, 1) := by decide +kernel
theorem dL_law_1003 : decode cL_law 1003 = .ok (.iinc 3 5, 3) := by decide +kernel
theorem dL_law_1006 : decode cL_law 1006 = .ok (.goto (-988), 3) := by decide +kernel
theorem dL_law_1009 : decode cL_law 1009 = .ok (.iconst 1, 1) := by decide +kernel
theorem dL_law_1010 : decode cL_law 1010 = .ok (.ireturn, 1) := by decide +kernel
end
section
/-! THE ABSTRACT MACHINE: cells by number, slots as whole numbers; one judgement WP over the kit's W, a rule an instruction. -/
abbrev Vl : Type := Int ⊕ (Nat ⊕ Int)
abbrev vI (z : Int) : Vl := .inl z
abbrev vR (k : Nat) : Vl := .inr (.inl k)
abbrev vJ (z : Int) : Vl := .inr (.inr z)
abbrev Mem : Type := Nat → Nat → Int
/-- a cell's kind (0 .. 10 the classes, 11 an array of ints, 12 of booleans), its length, its slots that are references (0: none, k + 1: cell k) -/
abbrev Sh : Type := List (Nat × Nat × List Nat)
abbrev inR (z : Int) : Prop := -2147483648 ≤ z ∧ z ≤ 2147483647
abbrev inL (z : Int) : Prop := -9223372036854775808 ≤ z ∧ z ≤ 9223372036854775807
def okv (n : Nat) : Vl → Prop
  | .inl z => inR z
  | .inr (.inl k) => k < n ∨ k = 1000
  | .inr (.inr z) => inL z
def cv (ad : Nat → Nat) : Vl → Value
  | .inl z => .int (Int32.ofInt z)
  | .inr (.inl k) => .ref (ad k)
  | .inr (.inr z) => .long (Int64.ofInt z)
def isJ : Vl → Bool
  | .inr (.inr _) => true
  | _ => false
def RA (c : Nat) : String := match c with
  | 0 => RX0 | 1 => RX1 | 2 => RX2 | 3 => RX3 | 4 => RX4 | 5 => RX5 | 6 => RX6 | 7 => RX7 | 8 => RX8 | 9 => RX9 | _ => RX10
def TA (c : Nat) : u_T := match c with
  | 0 => TX0 | 1 => TX1 | 2 => TX2 | 3 => TX3 | 4 => TX4 | 5 => TX5 | 6 => TX6 | 7 => TX7 | 8 => TX8 | 9 => TX9 | _ => TX10
def tyA (c : Nat) : Nat → FieldType := match c with
  | 0 => tyX0 | 1 => tyX1 | 2 => tyX2 | 3 => tyX3 | 4 => tyX4 | 5 => tyX5 | 6 => tyX6 | 7 => tyX7 | 8 => tyX8 | 9 => tyX9 | _ => tyX10
def nA (c : Nat) : Nat := match c with
  | 0 => 4 | 1 => 7 | 2 => 2 | 3 => 8 | 4 => 4 | 5 => 3 | 6 => 3 | 7 => 2 | 8 => 7 | 9 => 15 | _ => 43
theorem lt11 {c : Nat} (h : c < 11) : c = 0 ∨ c = 1 ∨ c = 2 ∨ c = 3 ∨ c = 4 ∨ c = 5 ∨ c = 6 ∨ c = 7 ∨ c = 8 ∨ c = 9 ∨ c = 10 := by omega
theorem clA {c : Nat} (h : c < 11) : vwCl[c]? = some (RA c, TA c, nA c) := by
  rcases lt11 h with rfl | rfl | rfl | rfl | rfl | rfl | rfl | rfl | rfl | rfl | rfl <;> rfl
def isNest : Cond → Bool
  | .fieldLinkNest .. => true
  | .methodLinkNest .. => true
  | _ => false
def gdW : List Cond := lw_tbl.filter goodWord
theorem gd_of {w : Cond} (h : w ∈ lw_tbl) (hg : goodWord w = true) : w ∈ gdW := List.mem_filter.mpr ⟨h, hg⟩
theorem gd_sub {ws : List Cond} (h : ∀ w ∈ ws, w ∈ lw_tbl) (hg : ws.all goodWord = true) : ∀ w ∈ ws, w ∈ gdW := fun w hw => gd_of (h w hw) (List.all_eq_true.mp hg w hw)
theorem gd_good : GoodIn gdW gdW := fun w h => ⟨h, good_of_word (List.mem_filter.mp h).2⟩
def Nk (s : State) : Prop := ∀ w ∈ lw_tbl, isNest w = true → va_Nw w s
theorem Nk.warm {s U : State} (hW : s.WarmedH U.vm) (h : Nk s) : Nk U := by
  intro w hw hn
  have h1 := h w hw hn
  cases w <;> first | exact va_Nw.warmF hW h1 | exact va_Nw.warmM hW h1 | simp [isNest] at hn
theorem Nk.same {u U : State} (hv : u.vm = U.vm) (h : Nk u) : Nk U := by
  intro w hw hn
  have h1 := h w hw hn
  have ho : w.onTables = true := by cases w <;> first | rfl | simp [isNest] at hn
  exact va_Nw.same ho hv h1
theorem inA0 : ∀ w ∈ wsX00, w ∈ gdW := gd_sub (by decide +kernel) (by decide +kernel)
theorem inA1 : ∀ w ∈ wsX10, w ∈ gdW := gd_sub (by decide +kernel) (by decide +kernel)
theorem inA2 : ∀ w ∈ wsX20, w ∈ gdW := gd_sub (by decide +kernel) (by decide +kernel)
theorem inA3 : ∀ w ∈ wsX30, w ∈ gdW := gd_sub (by decide +kernel) (by decide +kernel)
theorem inA4 : ∀ w ∈ wsX40, w ∈ gdW := gd_sub (by decide +kernel) (by decide +kernel)
theorem inA5 : ∀ w ∈ wsX50, w ∈ gdW := gd_sub (by decide +kernel) (by decide +kernel)
theorem inA6 : ∀ w ∈ wsX60, w ∈ gdW := gd_sub (by decide +kernel) (by decide +kernel)
theorem inA7 : ∀ w ∈ wsX70, w ∈ gdW := gd_sub (by decide +kernel) (by decide +kernel)
theorem inA8 : ∀ w ∈ wsX80, w ∈ gdW := gd_sub (by decide +kernel) (by decide +kernel)
theorem inA9 : ∀ w ∈ wsX90, w ∈ gdW := gd_sub (by decide +kernel) (by decide +kernel)
theorem inA10 : ∀ w ∈ wsX100, w ∈ gdW := gd_sub (by decide +kernel) (by decide +kernel)
theorem inA {c : Nat} (h : c < 11) : ∀ w ∈ u_ws (RA c) (TA c) (nA c), w ∈ gdW := by
  rcases lt11 h with rfl | rfl | rfl | rfl | rfl | rfl | rfl | rfl | rfl | rfl | rfl
  · exact inA0
  · exact inA1
  · exact inA2
  · exact inA3
  · exact inA4
  · exact inA5
  · exact inA6
  · exact inA7
  · exact inA8
  · exact inA9
  · exact inA10
theorem tyA_ok {c : Nat} (h : c < 11) : ∀ k, k < nA c → parseFieldDescriptor (TA c k).2.2.1 = some (tyA c k) := by
  rcases lt11 h with rfl | rfl | rfl | rfl | rfl | rfl | rfl | rfl | rfl | rfl | rfl
  · exact tyX0_ok
  · exact tyX1_ok
  · exact tyX2_ok
  · exact tyX3_ok
  · exact tyX4_ok
  · exact tyX5_ok
  · exact tyX6_ok
  · exact tyX7_ok
  · exact tyX8_ok
  · exact tyX9_ok
  · exact tyX10_ok
theorem nmA {c : Nat} (h : c < 11) : ∀ a, a < nA c → ∀ b, b < nA c → a ≠ b → (TA c a).2.1 ≠ (TA c b).2.1 := by
  rcases lt11 h with rfl | rfl | rfl | rfl | rfl | rfl | rfl | rfl | rfl | rfl | rfl
  · exact nmX0
  · exact nmX1
  · exact nmX2
  · exact nmX3
  · exact nmX4
  · exact nmX5
  · exact nmX6
  · exact nmX7
  · exact nmX8
  · exact nmX9
  · exact nmX10
def isIt : FieldType → Bool
  | .int => true
  | .boolean => true
  | _ => false
def isRt : FieldType → Bool
  | .object _ => true
  | .array _ => true
  | _ => false
def fv (ad : Nat → Nat) (ty : FieldType) (r : Nat) (z : Int) : Value :=
  if isIt ty then .int (Int32.ofInt z) else if isRt ty then (if r = 0 then .null else .ref (ad (r - 1))) else .long (Int64.ofInt z)
def okz (ty : FieldType) (z : Int) : Prop := if isIt ty then inR z else inL z
def sty (q : Nat × Nat × List Nat) (j : Nat) : FieldType := if q.1 < 11 then tyA q.1 j else .int
def okm (sh : Sh) (mem : Mem) : Prop := ∀ (k : Nat) (q : Nat × Nat × List Nat), sh[k]? = some q → ∀ j : Nat, okz (sty q j) (mem k j)
def okS (sh : Sh) : Prop := ∀ (k : Nat) (q : Nat × Nat × List Nat), sh[k]? = some q → ∀ r ∈ q.2.2, r ≤ sh.length
def wc (ad : Nat → Nat) (ca : Nat → ClassId) (mem : Mem) (k : Nat) (q : Nat × Nat × List Nat) : Nat × va_E :=
  (ad k, if q.1 < 11 then .inr (q.1, (List.range (nA q.1)).map (fun j => fv ad (tyA q.1 j) (q.2.2.getD j 0) (mem k j))) else .inl (ca k, q.2.1, .inl (fun j => Int32.ofInt (mem k j))))
def wd (ad : Nat → Nat) (ca : Nat → ClassId) (sh : Sh) (mem : Mem) : va_W := sh.mapIdx (fun k q => wc ad ca mem k q)
theorem wd_get {ad : Nat → Nat} {ca : Nat → ClassId} {sh : Sh} {mem : Mem} (k : Nat) : (wd ad ca sh mem)[k]? = (sh[k]?).map (wc ad ca mem k) := by
  simp [wd, List.getElem?_mapIdx]
theorem wd_len {ad : Nat → Nat} {ca : Nat → ClassId} {sh : Sh} {mem : Mem} : (wd ad ca sh mem).length = sh.length := by simp [wd]
/-- one cell changes -/
theorem wd_set {ad : Nat → Nat} {ca : Nat → ClassId} {sh sh' : Sh} {mem mem' : Mem} {k : Nat} {q : Nat × Nat × List Nat} (h : sh'[k]? = some q) (hs : ∀ j, j ≠ k → sh'[j]? = sh[j]?) (hl : sh'.length = sh.length) (hm : ∀ j, j ≠ k → mem' j = mem j) :
    (wd ad ca sh mem).set k (wc ad ca mem' k q) = wd ad ca sh' mem' := by
  apply List.ext_getElem?
  intro j
  have hk : k < sh.length := by rw [← hl]; exact (List.getElem?_eq_some_iff.mp h).1
  by_cases hj : j = k
  · subst hj
    rw [List.getElem?_set_self (by rw [wd_len]; exact hk), wd_get, h]; rfl
  · rw [List.getElem?_set_ne (Ne.symm hj), wd_get, wd_get, hs j hj]
    congr 1
    funext q'
    simp [wc, hm j hj]
/-- a cell comes -/
theorem wd_push {ad ad' : Nat → Nat} {ca ca' : Nat → ClassId} {sh : Sh} {mem mem' : Mem} {q : Nat × Nat × List Nat} (ho : okS sh) (ha : ∀ j, j < sh.length → ad' j = ad j) (hc : ∀ j, j < sh.length → ca' j = ca j) (hm : ∀ j, j < sh.length → mem' j = mem j) :
    wd ad' ca' (sh ++ [q]) mem' = wd ad ca sh mem ++ [wc ad' ca' mem' sh.length q] := by
  apply List.ext_getElem?
  intro j
  rw [wd_get]
  by_cases hj : j < sh.length
  · rw [List.getElem?_append_left hj, List.getElem?_append_left (by rw [wd_len]; exact hj), wd_get]
    cases hq : sh[j]? with
    | none => rfl
    | some q' =>
      have hr := ho j q' hq
      simp only [Option.map_some, Option.some.injEq, wc, ha j hj, hc j hj, hm j hj, Prod.mk.injEq, true_and]
      split
      · congr 2
        apply List.map_congr_left
        intro i _
        simp only [fv]
        split
        · rfl
        · split
          · split
            · rfl
            · rename_i h0
              have h1 : q'.2.2.getD i 0 ∈ q'.2.2 := by
                rw [List.getD_eq_getElem?_getD] at h0 ⊢
                cases hi : q'.2.2[i]? with
                | none => rw [hi] at h0; exact absurd rfl h0
                | some r => rw [Option.getD_some]; exact List.mem_of_getElem? hi
              have h2 := hr _ h1
              rw [ha _ (by omega)]
          · rfl
      · rfl
  · by_cases hj2 : j = sh.length
    · subst hj2
      rw [List.getElem?_append_right (Nat.le_refl _), List.getElem?_append_right (by rw [wd_len]; exact Nat.le_refl _), wd_len]
      simp
    · rw [List.getElem?_eq_none (by simp; omega), List.getElem?_eq_none (by simp [wd_len]; omega)]
      rfl
abbrev MD : Type := MethodName × ByteArray × Nat × Option FieldType × Nat × Nat
def aty (k : Nat) : FieldType := if k = 12 then .boolean else .int
def Cx (M : MD) (p : Program) (R : Room) (s : State) (m : MethodId) (args : Array Value) (meth : Method) (c : Code) (D : va_G) : Prop :=
  p.tables.exec = Jvm.exec ∧ c.code = M.2.1 ∧ c.maxLocals = M.2.2.1 ∧ meth.sig.returnType = M.2.2.2.1 ∧ meth.locks = false ∧ s.vm.findClass M.1.cls = some m.cls ∧ (∀ w ∈ gdW, w.before args s = true) ∧ Nk s ∧ (M.1.name = "<init>" → meth.name = "<init>") ∧ M.2.2.2.2.1 ≤ R.frames ∧ M.2.2.2.2.2 ≤ R.locals ∧ (∀ (k : Nat) (q : vw_C), vwCl[k]? = some q → u_Kn s q.1 q.2.1 q.2.2 (D.1 k) (D.2 k))
def Wl (D : va_G) (A : Nat → Prop) (H0 : Heap) (s : State) (ad : Nat → Nat) (H : Heap) (locs : List Loc) (sh : Sh) (mem : Mem) : Prop :=
  ∃ (ca : Nat → ClassId) (tys : List (ClassId × FieldType)), va_K D vwCl tys s ∧ (∀ (k : Nat) (q : Nat × Nat × List Nat), sh[k]? = some q → 11 ≤ q.1 → ∃ t : Nat, tys[t]? = some (ca k, aty q.1)) ∧ va_P D vwCl (wd ad ca sh mem) H ∧ va_D A (wd ad ca sh mem) ∧ va_S A H0 H locs ∧ (∀ q : Nat, H0.size ≤ q → A q) ∧ okS sh ∧ okm sh mem
def Sc (scr : Option (Nat × (Nat → Int32))) (s : State) (A : Nat → Prop) (b : Nat) : Prop := match scr with
  | none => True
  | some (L, xs) => va_X b L xs s s.heap ∧ b < s.heap.size ∧ ¬ A b
def Lv (ad : Nat → Nat) (nL n : Nat) (lsr : Array Slot) (ls : List Vl) : Prop :=
  lsr.size = nL ∧ lv_wf lsr ∧ ls.length = nL ∧ (∀ v ∈ ls, okv n v) ∧ ∀ (i : Nat) (v : Vl), ls[i]? = some v → isJ v = false → lsr[i]? = some (.val (cv ad v))
def retOK (M : MD) (pc : Nat) (r : Option Vl) : Prop :=
  (M.2.2.2.1 = none ∧ decode M.2.1 pc = .ok (.return_, 1) ∧ r = none) ∨
  (M.2.2.2.1 = some .int ∧ decode M.2.1 pc = .ok (.ireturn, 1) ∧ ∃ z, r = some (vI z)) ∨
  (M.2.2.2.1 = some .boolean ∧ decode M.2.1 pc = .ok (.ireturn, 1) ∧ ∃ z, r = some (vI z) ∧ (z = 0 ∨ z = 1)) ∨
  (M.2.2.2.1 = some .long ∧ decode M.2.1 pc = .ok (.lreturn, 1) ∧ ∃ z, r = some (vJ z))
def okr (n : Nat) (r : Option Vl) : Prop := ∀ v ∈ r.toList, okv n v
abbrev Po : Type := Option Vl → Sh → Mem → Prop
def Kt (M : MD) (p : Program) (l : Launch) (e : Env) (R : Room) (s : State) (m : MethodId) (args : Array Value) (below : List Frame) (meth : Method) (c : Code) (D : va_G) (A : Nat → Prop) (cells slots : Nat) (Z : State → Prop) (Q : Po) (ad : Nat → Nat) (n : Nat) : Prop :=
  ∀ (r : Option Vl) (sh' : Sh) (mem' : Mem) (ad' : Nat → Nat) (H' : Heap) (locs' : List Loc) (pc' : Nat) (lsr' : Array Slot), Q r sh' mem' → n ≤ sh'.length → (∀ k, (k < n ∨ k = 1000) → ad' k = ad k) → Wl D A s.heap s ad' H' locs' sh' mem' → retOK M pc' r → okr sh'.length r → W p l e R s m args below meth c H' locs' cells slots Z (F0 m pc' lsr' (r.toList.map (cv ad')))
def WP (M : MD) (scr : Option (Nat × (Nat → Int32))) (mc ms : Nat) (Q : Po) (pc : Nat) (ls st : List Vl) (sh : Sh) (mem : Mem) : Prop :=
  ∀ ⦃p : Program⦄ ⦃l : Launch⦄ ⦃e : Env⦄ ⦃R : Room⦄ ⦃s : State⦄ ⦃m : MethodId⦄ ⦃args : Array Value⦄ ⦃below : List Frame⦄ ⦃meth : Method⦄ ⦃c : Code⦄ ⦃D : va_G⦄ ⦃A : Nat → Prop⦄ ⦃ad : Nat → Nat⦄ ⦃H : Heap⦄ ⦃locs : List Loc⦄ ⦃cells slots : Nat⦄ ⦃lsr : Array Slot⦄ ⦃Z : State → Prop⦄,
    Cx M p R s m args meth c D → Wl D A s.heap s ad H locs sh mem → Sc scr s A (ad 1000) → Lv ad M.2.2.1 sh.length lsr ls → (∀ v ∈ st, okv sh.length v) → cells + mc ≤ R.cells → slots + ms ≤ R.slots →
    Kt M p l e R s m args below meth c D A (cells + mc) (slots + ms) Z Q ad sh.length →
    W p l e R s m args below meth c H locs cells slots Z (F0 m pc lsr (st.map (cv ad)))
/-- an instruction that leaves the heap -/
theorem WP.step {M : MD} {scr : Option (Nat × (Nat → Int32))} {mc ms : Nat} {Q : Po} {pc pc' : Nat} {ls ls' st st' : List Vl} {sh : Sh} {mem : Mem}
    (h : ∀ {p : Program} {l : Launch} {e : Env} {R : Room} {s : State} {m : MethodId} {args : Array Value} {below : List Frame} {meth : Method} {c : Code} {D : va_G} {A : Nat → Prop} {ad : Nat → Nat} {H : Heap} {locs : List Loc} {cells slots : Nat} {lsr : Array Slot} {Z : State → Prop},
      Cx M p R s m args meth c D → Wl D A s.heap s ad H locs sh mem → Sc scr s A (ad 1000) → Lv ad M.2.2.1 sh.length lsr ls → (∀ v ∈ st, okv sh.length v) →
      (∀ lsr', Lv ad M.2.2.1 sh.length lsr' ls' → (∀ v ∈ st', okv sh.length v) → W p l e R s m args below meth c H locs cells slots Z (F0 m pc' lsr' (st'.map (cv ad)))) →
      W p l e R s m args below meth c H locs cells slots Z (F0 m pc lsr (st.map (cv ad))))
    (k : WP M scr mc ms Q pc' ls' st' sh mem) : WP M scr mc ms Q pc ls st sh mem := by
  intro p l e R s m args below meth c D A ad H locs cells slots lsr Z hC hW hX hL hst h1 h2 hK
  exact h hC hW hX hL hst (fun lsr' hL' hst' => k hC hW hX hL' hst' h1 h2 hK)
end
section
/-! RULES: what an instruction does in the abstract machine -/
theorem tI {z : Int} (h : inR z) : (Int32.ofInt z).toInt = z := Int32.toInt_ofInt_of_le (by have := h.1; omega) (by have := h.2; omega)
theorem tJ {z : Int} (h : inL z) : (Int64.ofInt z).toInt = z := Int64.toInt_ofInt_of_le (by have := h.1; omega) (by have := h.2; omega)
theorem i_lt {a b : Int} (ha : inR a) (hb : inR b) : Int32.ofInt a < Int32.ofInt b ↔ a < b := by rw [Int32.lt_iff_toInt_lt, tI ha, tI hb]
theorem i_le {a b : Int} (ha : inR a) (hb : inR b) : Int32.ofInt a ≤ Int32.ofInt b ↔ a ≤ b := by rw [Int32.le_iff_toInt_le, tI ha, tI hb]
theorem i_eq {a b : Int} (ha : inR a) (hb : inR b) : Int32.ofInt a = Int32.ofInt b ↔ a = b := by rw [← Int32.toInt_inj, tI ha, tI hb]
theorem i_zero : (Int32.ofInt 0) = 0 := rfl
theorem i_ne0 {b : Int} (hb : inR b) (h : b ≠ 0) : ¬ Int32.ofInt b = 0 := by rw [← i_zero, i_eq hb (by omega)]; exact h
theorem i_cl {z : Int} (h : inR z) : (Int32.ofInt z).toNatClampNeg = z.toNat := by
  show (Int32.ofInt z).toInt.toNat = _
  rw [tI h]
theorem i_in {z : Int} {n : Nat} (h : inR z) (h0 : 0 ≤ z) (h1 : z < n) : vp_in (Int32.ofInt z) n := by
  rw [vp_in_iff, tI h]
  exact ⟨h0, h1⟩
theorem i_div {a b : Int} (ha : inR a) (hb : inR b) (h0 : 0 ≤ a) (h1 : 0 < b) : Int32.ofInt a / Int32.ofInt b = Int32.ofInt (a / b) := by
  rw [← Int.tdiv_eq_ediv_of_nonneg h0]
  exact (Int32.ofInt_tdiv (by rw [Int32.toInt_minValue]; omega) (by show a ≤ Int32.maxValue.toInt; rw [show Int32.maxValue.toInt = 2147483647 from rfl]; omega) (by rw [Int32.toInt_minValue]; omega) (by rw [show Int32.maxValue.toInt = 2147483647 from rfl]; omega)).symm
theorem i_rem {a b : Int} (ha : inR a) (hb : inR b) (h0 : 0 ≤ a) (h1 : 0 < b) : Int32.ofInt a - Int32.ofInt a / Int32.ofInt b * Int32.ofInt b = Int32.ofInt (a % b) := by
  rw [i_div ha hb h0 h1, ← Int32.ofInt_mul, ← Int32.ofInt_sub, Int.emod_def, Int.mul_comm b]
theorem inR0 : inR 0 := by omega
theorem i_and31 {a : Int} : Int32.ofInt a &&& Int32.ofInt 31 = Int32.ofInt (a % 32) := by
  apply Int32.toBitVec_inj.1
  apply BitVec.eq_of_toNat_eq
  have h31 : (31 : Nat) = 2 ^ 5 - 1 := rfl
  simp only [Int32.toBitVec_and, Int32.toBitVec_ofInt, BitVec.toNat_and, BitVec.toNat_ofInt]
  rw [show ((31 : Int) % ((2 ^ 32 : Nat) : Int)).toNat = 2 ^ 5 - 1 from rfl, Nat.and_two_pow_sub_one_eq_mod]
  omega
theorem i_and1 {a : Int} (_ : inR a) (_ : 0 ≤ a) : Int32.ofInt a &&& Int32.ofInt 1 = Int32.ofInt (a % 2) := by
  apply Int32.toBitVec_inj.1
  apply BitVec.eq_of_toNat_eq
  simp only [Int32.toBitVec_and, Int32.toBitVec_ofInt, BitVec.toNat_and, BitVec.toNat_ofInt]
  rw [show ((1 : Int) % ((2 ^ 32 : Nat) : Int)).toNat = 2 ^ 1 - 1 from rfl, Nat.and_two_pow_sub_one_eq_mod]
  omega
theorem i_or {a b : Int} (h0 : 0 ≤ a) (h1 : 0 ≤ b) : Int32.ofInt a ||| Int32.ofInt b = Int32.ofInt ((a.toNat ||| b.toNat : Nat) : Int) := by
  obtain ⟨n, rfl⟩ := Int.eq_ofNat_of_zero_le h0
  obtain ⟨k, rfl⟩ := Int.eq_ofNat_of_zero_le h1
  apply Int32.toBitVec_inj.1
  simp [BitVec.ofInt_natCast]
theorem i_shl1 {b : Int} (h0 : 0 ≤ b) (h1 : b < 31) : Int32.ofInt 1 <<< (Int32.ofInt b &&& 31) = Int32.ofInt ((2 ^ b.toNat : Nat) : Int) := by
  obtain ⟨n, rfl⟩ := Int.eq_ofNat_of_zero_le h0
  have hn : n < 31 := by omega
  have key : ∀ n : Fin 31, Int32.ofInt 1 <<< (Int32.ofInt ((n : Nat) : Int) &&& 31) = Int32.ofInt ((2 ^ ((n : Nat) : Int).toNat : Nat) : Int) := by decide +kernel
  exact key ⟨n, hn⟩
theorem i_shr {a b : Int} (hz : inR a) (ha : 0 ≤ a) (h0 : 0 ≤ b) (h1 : b < 31) : Int32.ofInt a >>> (Int32.ofInt b &&& 31) = Int32.ofInt (a / ((2 ^ b.toNat : Nat) : Int)) := by
  obtain ⟨n, rfl⟩ := Int.eq_ofNat_of_zero_le h0
  have hn : n < 31 := by omega
  have key : ∀ n : Fin 31, (Int32.ofInt ((n : Nat) : Int) &&& 31) = Int32.ofInt ((n : Nat) : Int) := by decide +kernel
  have hk := key ⟨n, hn⟩
  simp only at hk
  rw [hk]
  apply Int32.toInt_inj.1
  have h3 : a / ((2 ^ n : Nat) : Int) ≤ a := Int.ediv_le_self _ ha
  have h4 : 0 ≤ a / ((2 ^ n : Nat) : Int) := Int.ediv_nonneg ha (Int.natCast_nonneg _)
  rw [show (((n : Nat) : Int)).toNat = n from rfl, tI (z := a / _) ⟨by omega, by omega⟩]
  have key2 : ∀ n : Fin 31, (Int32.ofInt ((n : Nat) : Int)).toBitVec.smod 32#32 = BitVec.ofNat 32 n := by decide +kernel
  have hk2 := key2 ⟨n, hn⟩
  simp only at hk2
  show (BitVec.sshiftRight' _ ((Int32.ofInt (n : Int)).toBitVec.smod 32#32)).toInt = _
  rw [hk2, BitVec.toInt_sshiftRight']
  rw [show (BitVec.ofNat 32 n).toNat = n from by rw [BitVec.toNat_ofNat]; exact Nat.mod_eq_of_lt (by omega)]
  rw [show (Int32.ofInt a).toBitVec.toInt = a from tI hz, Int.shiftRight_eq_div_pow]
theorem i_nat (n : Nat) : Int32.ofInt (n : Int) = Int32.ofNat n := Int32.ofInt_eq_ofNat
theorem okv_mono {n n' : Nat} (h : n ≤ n') {v : Vl} (hv : okv n v) : okv n' v := by
  rcases v with z | k | z
  · exact hv
  · exact hv.elim (fun q => Or.inl (Nat.lt_of_lt_of_le q h)) Or.inr
  · exact hv
theorem cv_ag {ad ad' : Nat → Nat} {n : Nat} (h : ∀ k, (k < n ∨ k = 1000) → ad' k = ad k) {v : Vl} (hv : okv n v) : cv ad' v = cv ad v := by
  rcases v with z | k | z
  · rfl
  · show Value.ref (ad' k) = Value.ref (ad k)
    rw [h k hv]
  · rfl
theorem cv_cat {ad : Nat → Nat} {v : Vl} (h : isJ v = false) : (cv ad v).category = 1 := by
  rcases v with z | k | z
  · rfl
  · rfl
  · cases h
theorem cv_cat2 {ad : Nat → Nat} {v : Vl} : (cv ad v).category ≤ 2 := by
  rcases v with z | k | z
  · exact Nat.le_succ _
  · exact Nat.le_succ _
  · exact Nat.le_refl _
def lvl (ad : Nat → Nat) (ls : List Vl) : List (Nat × Value) := (ls.zipIdx.filter (fun q => !isJ q.1)).map (fun q => (q.2, cv ad q.1))
theorem lvl_mem {ad : Nat → Nat} {ls : List Vl} {q : Nat × Value} : q ∈ lvl ad ls ↔ ∃ v, ls[q.1]? = some v ∧ isJ v = false ∧ q.2 = cv ad v := by
  obtain ⟨i, x⟩ := q
  constructor
  · intro h
    obtain ⟨⟨v, j⟩, h1, h2⟩ := List.mem_map.mp h
    obtain ⟨h3, h4⟩ := List.mem_filter.mp h1
    cases h2
    refine ⟨v, ?_, by simpa using h4, rfl⟩
    exact List.mk_mem_zipIdx_iff_getElem?.mp h3
  · rintro ⟨v, h1, h2, h3⟩
    refine List.mem_map.mpr ⟨(v, i), List.mem_filter.mpr ⟨List.mk_mem_zipIdx_iff_getElem?.mpr h1, by simp [h2]⟩, ?_⟩
    simp only at h3
    rw [h3]
theorem Lv.has {ad : Nat → Nat} {nL n : Nat} {lsr : Array Slot} {ls : List Vl} (h : Lv ad nL n lsr ls) : lv_has lsr nL (lvl ad ls) := by
  refine ⟨h.1, h.2.1, fun q hq => ?_⟩
  obtain ⟨v, h1, h2, h3⟩ := lvl_mem.mp hq
  rw [h3]
  exact h.2.2.2.2 _ v h1 h2
theorem Lv.set {ad : Nat → Nat} {nL n : Nat} {lsr lsr' : Array Slot} {ls : List Vl} {i : Nat} {v : Vl} (h : Lv ad nL n lsr ls) (hv : okv n v) {l : List (Nat × Value)} (hl : ∀ q, q ∈ (i, cv ad v) :: (lvl ad ls).filter (fun q => !(q.1 == i) && !(q.1 + 1 == i && q.2.category == 2)) → q ∈ l) (h' : lv_has lsr' nL l) : Lv ad nL n lsr' (ls.set i v) := by
  refine ⟨h'.1, h'.2.1, by rw [List.length_set]; exact h.2.2.1, fun w hw => ?_, fun j w hj hJ => ?_⟩
  · rcases List.mem_or_eq_of_mem_set hw with h1 | h1
    · exact h.2.2.2.1 w h1
    · rw [h1]; exact hv
  · by_cases hij : j = i
    · subst hij
      have hlt : j < ls.length := by
        have := (List.getElem?_eq_some_iff.mp hj).1
        rwa [List.length_set] at this
      rw [List.getElem?_set_self hlt] at hj
      cases hj
      exact h'.2.2 _ (hl _ List.mem_cons_self)
    · rw [List.getElem?_set_ne (Ne.symm hij)] at hj
      refine h'.2.2 (j, cv ad w) (hl _ (List.mem_cons_of_mem _ (List.mem_filter.mpr ⟨lvl_mem.mpr ⟨w, hj, hJ, rfl⟩, ?_⟩)))
      have hc : (cv ad w).category = 1 := cv_cat hJ
      simp [hij, hc]
theorem Lv.get {ad : Nat → Nat} {nL n : Nat} {lsr : Array Slot} {ls : List Vl} (h : Lv ad nL n lsr ls) {i : Nat} {v : Vl} (hi : ls[i]? = some v) (hJ : isJ v = false) : lsr[i]? = some (.val (cv ad v)) := h.2.2.2.2 i v hi hJ
theorem Lv.ok {ad : Nat → Nat} {nL n : Nat} {lsr : Array Slot} {ls : List Vl} (h : Lv ad nL n lsr ls) {i : Nat} {v : Vl} (hi : ls[i]? = some v) : okv n v := h.2.2.2.1 v (List.mem_of_getElem? hi)
theorem Lv.lt {ad : Nat → Nat} {nL n : Nat} {lsr : Array Slot} {ls : List Vl} (h : Lv ad nL n lsr ls) {i : Nat} {v : Vl} (hi : ls[i]? = some v) : i < nL := by rw [← h.2.2.1]; exact (List.getElem?_eq_some_iff.mp hi).1
theorem ok1 {n : Nat} {v : Vl} {st : List Vl} (h : ∀ w ∈ v :: st, okv n w) : okv n v := h v List.mem_cons_self
theorem okt {n : Nat} {v : Vl} {st : List Vl} (h : ∀ w ∈ v :: st, okv n w) : ∀ w ∈ st, okv n w := fun w hw => h w (List.mem_cons_of_mem _ hw)
theorem okc {n : Nat} {v : Vl} {st : List Vl} (hv : okv n v) (h : ∀ w ∈ st, okv n w) : ∀ w ∈ v :: st, okv n w := List.forall_mem_cons.mpr ⟨hv, h⟩
theorem okI {n : Nat} {z : Int} {st : List Vl} (h : ∀ w ∈ vI z :: st, okv n w) : inR z := h (vI z) List.mem_cons_self
theorem okJ {n : Nat} {z : Int} {st : List Vl} (h : ∀ w ∈ vJ z :: st, okv n w) : inL z := h (vJ z) List.mem_cons_self
theorem okcI {n : Nat} {z : Int} {st : List Vl} (hv : inR z) (h : ∀ w ∈ st, okv n w) : ∀ w ∈ vI z :: st, okv n w := List.forall_mem_cons.mpr ⟨hv, h⟩
theorem okcJ {n : Nat} {z : Int} {st : List Vl} (hv : inL z) (h : ∀ w ∈ st, okv n w) : ∀ w ∈ vJ z :: st, okv n w := List.forall_mem_cons.mpr ⟨hv, h⟩
section RU
variable {M : MD} {scr : Option (Nat × (Nat → Int32))} {mc ms : Nat} {Q : Po} {pc tgt : Nat} {ls ls' st : List Vl} {sh : Sh} {mem : Mem} {a b x : Int} {i h : Nat} {off : Int}
theorem q_iconst {n : Int} (hd : decode M.2.1 pc = .ok (.iconst n, 1)) (hn : inR n) (k : WP M scr mc ms Q (pc + 1) ls (vI n :: st) sh mem) : WP M scr mc ms Q pc ls st sh mem :=
  WP.step (fun hC _ _ hL hst kk => lv_iconst hC.1 hC.2.1 hd rfl (kk _ hL (okcI hn hst))) k
theorem q_bipush {n : Int} (hd : decode M.2.1 pc = .ok (.bipush n, 2)) (hv : (Int8.ofInt n).toInt32 = Int32.ofInt n) (hn : inR n) (k : WP M scr mc ms Q (pc + 2) ls (vI n :: st) sh mem) : WP M scr mc ms Q pc ls st sh mem :=
  WP.step (fun hC _ _ hL hst kk => lv_bipush hC.1 hC.2.1 hd hv (kk _ hL (okcI hn hst))) k
theorem q_sipush {n : Int} (hd : decode M.2.1 pc = .ok (.sipush n, 3)) (hv : (Int16.ofInt n).toInt32 = Int32.ofInt n) (hn : inR n) (k : WP M scr mc ms Q (pc + 3) ls (vI n :: st) sh mem) : WP M scr mc ms Q pc ls st sh mem :=
  WP.step (fun hC _ _ hL hst kk => lv_sipush hC.1 hC.2.1 hd hv (kk _ hL (okcI hn hst))) k
theorem q_ldc {n : Int} {idx : Nat} (hd : decode M.2.1 pc = .ok (.ldc idx, 2)) (hc : Cond.constant M.1.cls idx (Int32.ofInt n) ∈ gdW) (hn : inR n) (k : WP M scr mc ms Q (pc + 2) ls (vI n :: st) sh mem) : WP M scr mc ms Q pc ls st sh mem :=
  WP.step (fun hC _ _ hL hst kk => lv_ldc hC.1 hC.2.1 hC.2.2.2.2.2.1 (hC.2.2.2.2.2.2.1 _ hc) hd (kk _ hL (okcI hn hst))) k
theorem q_ldc2 {n : Int} {idx : Nat} (hd : decode M.2.1 pc = .ok (.ldc2_w idx, 3)) (hc : Cond.constantLong M.1.cls idx (Int64.ofInt n) ∈ gdW) (hn : inL n) (k : WP M scr mc ms Q (pc + 3) ls (vJ n :: st) sh mem) : WP M scr mc ms Q pc ls st sh mem :=
  WP.step (fun hC _ _ hL hst kk => lv_ldc2 hC.1 hC.2.1 hC.2.2.2.2.2.1 (hC.2.2.2.2.2.2.1 _ hc) hd (kk _ hL (okcJ hn hst))) k
theorem q_lconst {n : Fin 2} (hd : decode M.2.1 pc = .ok (.lconst n, 1)) {z : Int} (hv : Int64.ofNat (n : Nat) = Int64.ofInt z) (hn : inL z) (k : WP M scr mc ms Q (pc + 1) ls (vJ z :: st) sh mem) : WP M scr mc ms Q pc ls st sh mem :=
  WP.step (fun hC _ _ hL hst kk => lv_lconst hC.1 hC.2.1 hd hv (kk _ hL (okcJ hn hst))) k
theorem q_iload_n {j : Fin 4} (hd : decode M.2.1 pc = .ok (.iload_n j, 1)) (hl : ls[(j : Nat)]? = some (vI x)) (k : WP M scr mc ms Q (pc + 1) ls (vI x :: st) sh mem) : WP M scr mc ms Q pc ls st sh mem :=
  WP.step (fun hC _ _ hL hst kk => lv_iload_n hC.1 hC.2.1 hd rfl (hL.get hl rfl) (kk _ hL (okc (hL.ok hl) hst))) k
theorem q_iload (hd : decode M.2.1 pc = .ok (.iload i, 2)) (hl : ls[i]? = some (vI x)) (k : WP M scr mc ms Q (pc + 2) ls (vI x :: st) sh mem) : WP M scr mc ms Q pc ls st sh mem :=
  WP.step (fun hC _ _ hL hst kk => lv_iload hC.1 hC.2.1 hd (hL.get hl rfl) (kk _ hL (okc (hL.ok hl) hst))) k
theorem q_aload_n {j : Fin 4} (hd : decode M.2.1 pc = .ok (.aload_n j, 1)) (hl : ls[(j : Nat)]? = some (vR h)) (k : WP M scr mc ms Q (pc + 1) ls (vR h :: st) sh mem) : WP M scr mc ms Q pc ls st sh mem :=
  WP.step (fun hC _ _ hL hst kk => lv_aload_n hC.1 hC.2.1 hd rfl (hL.get hl rfl) (kk _ hL (okc (hL.ok hl) hst))) k
theorem q_aload (hd : decode M.2.1 pc = .ok (.aload i, 2)) (hl : ls[i]? = some (vR h)) (k : WP M scr mc ms Q (pc + 2) ls (vR h :: st) sh mem) : WP M scr mc ms Q pc ls st sh mem :=
  WP.step (fun hC _ _ hL hst kk => lv_aload hC.1 hC.2.1 hd (hL.get hl rfl) (kk _ hL (okc (hL.ok hl) hst))) k
theorem q_istore_n {j : Fin 4} (hd : decode M.2.1 pc = .ok (.istore_n j, 1)) (hi : (j : Nat) < M.2.2.1) (hs : ls.set (j : Nat) (vI x) = ls') (k : WP M scr mc ms Q (pc + 1) ls' st sh mem) : WP M scr mc ms Q pc ls (vI x :: st) sh mem := by
  subst hs
  exact WP.step (fun hC _ _ hL hst kk => lv_istore_n hC.1 hC.2.1 hd rfl hL.has hi rfl (fun ls' hl' => kk _ (hL.set (v := vI x) (ok1 hst) (fun _ q => q) hl') (okt hst))) k
theorem q_istore (hd : decode M.2.1 pc = .ok (.istore i, 2)) (hi : i < M.2.2.1) (hs : ls.set i (vI x) = ls') (k : WP M scr mc ms Q (pc + 2) ls' st sh mem) : WP M scr mc ms Q pc ls (vI x :: st) sh mem := by
  subst hs
  exact WP.step (fun hC _ _ hL hst kk => lv_istore hC.1 hC.2.1 hd hL.has hi rfl (fun ls' hl' => kk _ (hL.set (v := vI x) (ok1 hst) (fun _ q => q) hl') (okt hst))) k
theorem q_astore_n {j : Fin 4} (hd : decode M.2.1 pc = .ok (.astore_n j, 1)) (hi : (j : Nat) < M.2.2.1) (hs : ls.set (j : Nat) (vR h) = ls') (k : WP M scr mc ms Q (pc + 1) ls' st sh mem) : WP M scr mc ms Q pc ls (vR h :: st) sh mem := by
  subst hs
  exact WP.step (fun hC _ _ hL hst kk => lv_astore_n hC.1 hC.2.1 hd rfl hL.has hi rfl (fun ls' hl' => kk _ (hL.set (v := vR h) (ok1 hst) (fun _ q => q) hl') (okt hst))) k
theorem q_astore (hd : decode M.2.1 pc = .ok (.astore i, 2)) (hi : i < M.2.2.1) (hs : ls.set i (vR h) = ls') (k : WP M scr mc ms Q (pc + 2) ls' st sh mem) : WP M scr mc ms Q pc ls (vR h :: st) sh mem := by
  subst hs
  exact WP.step (fun hC _ _ hL hst kk => lv_astore hC.1 hC.2.1 hd hL.has hi rfl (fun ls' hl' => kk _ (hL.set (v := vR h) (ok1 hst) (fun _ q => q) hl') (okt hst))) k
theorem q_iinc {n : Int} (hd : decode M.2.1 pc = .ok (.iinc i n, 3)) (hl : ls[i]? = some (vI x)) (hr : inR (x + n)) (hs : ls.set i (vI (x + n)) = ls') (k : WP M scr mc ms Q (pc + 3) ls' st sh mem) : WP M scr mc ms Q pc ls st sh mem := by
  subst hs
  refine WP.step (fun hC _ _ hL hst kk => ?_) k
  have h1 : lv_has _ _ ((i, Value.int (Int32.ofInt x)) :: lvl _ ls) := ⟨hL.1, hL.2.1, fun q hq => by
    rcases List.mem_cons.mp hq with h2 | h2
    · rw [h2]; exact hL.get hl rfl
    · exact hL.has.2.2 q h2⟩
  refine lv_iinc hC.1 hC.2.1 hd h1 (k := 0) rfl (v := Int32.ofInt (x + n)) (Int32.ofInt_add x n).symm (hL.lt hl) rfl (fun ls' hl' => kk _ (hL.set (v := vI (x + n)) hr (fun q hq => ?_) hl') hst)
  rcases List.mem_cons.mp hq with h2 | h2
  · rw [h2]; exact List.mem_cons_self
  · obtain ⟨h3, h4⟩ := List.mem_filter.mp h2
    exact List.mem_cons_of_mem _ (List.mem_filter.mpr ⟨List.mem_cons_of_mem _ h3, h4⟩)
theorem q_iadd (hd : decode M.2.1 pc = .ok (.iadd, 1)) (hr : inR (a + b)) (k : WP M scr mc ms Q (pc + 1) ls (vI (a + b) :: st) sh mem) : WP M scr mc ms Q pc ls (vI b :: vI a :: st) sh mem :=
  WP.step (fun hC _ _ hL hst kk => lv_iadd hC.1 hC.2.1 hd (by rw [← Int32.ofInt_add]; exact kk _ hL (okcI hr (okt (okt hst))))) k
theorem q_isub (hd : decode M.2.1 pc = .ok (.isub, 1)) (hr : inR (a - b)) (k : WP M scr mc ms Q (pc + 1) ls (vI (a - b) :: st) sh mem) : WP M scr mc ms Q pc ls (vI b :: vI a :: st) sh mem :=
  WP.step (fun hC _ _ hL hst kk => lv_isub hC.1 hC.2.1 hd (by rw [← Int32.ofInt_sub]; exact kk _ hL (okcI hr (okt (okt hst))))) k
theorem q_imul (hd : decode M.2.1 pc = .ok (.imul, 1)) (hr : inR (a * b)) (k : WP M scr mc ms Q (pc + 1) ls (vI (a * b) :: st) sh mem) : WP M scr mc ms Q pc ls (vI b :: vI a :: st) sh mem :=
  WP.step (fun hC _ _ hL hst kk => lv_imul hC.1 hC.2.1 hd (by rw [← Int32.ofInt_mul]; exact kk _ hL (okcI hr (okt (okt hst))))) k
theorem q_idiv (hd : decode M.2.1 pc = .ok (.idiv, 1)) (h0 : 0 ≤ a) (h1 : 0 < b) (k : WP M scr mc ms Q (pc + 1) ls (vI (a / b) :: st) sh mem) : WP M scr mc ms Q pc ls (vI b :: vI a :: st) sh mem :=
  WP.step (fun hC _ _ hL hst kk => by
    have hb : inR b := ok1 hst
    have ha : inR a := ok1 (okt hst)
    have h2 : a / b ≤ a := Int.ediv_le_self b h0
    have h3 : 0 ≤ a / b := Int.ediv_nonneg h0 (by omega)
    exact lv_idiv hC.1 hC.2.1 hd (i_ne0 hb (by omega)) (by rw [i_div ha hb h0 h1]; exact kk _ hL (okc (v := vI (a / b)) (show inR _ from ⟨by omega, by have := ha.2; omega⟩) (okt (okt hst))))) k
theorem q_irem (hd : decode M.2.1 pc = .ok (.irem, 1)) (h0 : 0 ≤ a) (h1 : 0 < b) (k : WP M scr mc ms Q (pc + 1) ls (vI (a % b) :: st) sh mem) : WP M scr mc ms Q pc ls (vI b :: vI a :: st) sh mem :=
  WP.step (fun hC _ _ hL hst kk => by
    have hb : inR b := ok1 hst
    have ha : inR a := ok1 (okt hst)
    have h2 : a % b < b := Int.emod_lt_of_pos a h1
    have h3 : 0 ≤ a % b := Int.emod_nonneg a (by omega)
    exact lv_irem hC.1 hC.2.1 hd (i_ne0 hb (by omega)) (by rw [i_rem ha hb h0 h1]; exact kk _ hL (okc (v := vI (a % b)) (show inR _ from ⟨by omega, by have := hb.2; omega⟩) (okt (okt hst))))) k
theorem q_ladd (hd : decode M.2.1 pc = .ok (.ladd, 1)) (hr : inL (a + b)) (k : WP M scr mc ms Q (pc + 1) ls (vJ (a + b) :: st) sh mem) : WP M scr mc ms Q pc ls (vJ b :: vJ a :: st) sh mem :=
  WP.step (fun hC _ _ hL hst kk => lv_ladd hC.1 hC.2.1 hd (by rw [← Int64.ofInt_add]; exact kk _ hL (okcJ hr (okt (okt hst))))) k
theorem q_pop {v : Vl} (hd : decode M.2.1 pc = .ok (.pop, 1)) (hv : isJ v = false) (k : WP M scr mc ms Q (pc + 1) ls st sh mem) : WP M scr mc ms Q pc ls (v :: st) sh mem :=
  WP.step (fun hC _ _ hL hst kk => lv_pop hC.1 hC.2.1 hd (cv_cat hv) (kk _ hL (okt hst))) k
theorem q_dup {v : Vl} (hd : decode M.2.1 pc = .ok (.dup, 1)) (hv : isJ v = false) (k : WP M scr mc ms Q (pc + 1) ls (v :: v :: st) sh mem) : WP M scr mc ms Q pc ls (v :: st) sh mem :=
  WP.step (fun hC _ _ hL hst kk => lv_dup hC.1 hC.2.1 hd (cv_cat hv) (kk _ hL (okc (ok1 hst) hst))) k
theorem q_dup2 {v w : Vl} (hd : decode M.2.1 pc = .ok (.dup2, 1)) (hv : isJ v = false) (hw : isJ w = false) (k : WP M scr mc ms Q (pc + 1) ls (v :: w :: v :: w :: st) sh mem) : WP M scr mc ms Q pc ls (v :: w :: st) sh mem :=
  WP.step (fun hC _ _ hL hst kk => lv_dup2_11 hC.1 hC.2.1 hd (cv_cat hv) (cv_cat hw) (kk _ hL (okc (ok1 hst) (okc (ok1 (okt hst)) hst)))) k
theorem q_goto (hd : decode M.2.1 pc = .ok (.goto off, 3)) (ht : (pc : Int) + off = (tgt : Int)) (k : WP M scr mc ms Q tgt ls st sh mem) : WP M scr mc ms Q pc ls st sh mem :=
  WP.step (fun hC _ _ hL hst kk => lv_goto hC.1 hC.2.1 hd ht (kk _ hL hst)) k
theorem WP.br {P : Prop} {pc1 pc2 : Nat} {st' : List Vl}
    (hh : ∀ {p : Program} {l : Launch} {e : Env} {R : Room} {s : State} {m : MethodId} {args : Array Value} {below : List Frame} {meth : Method} {c : Code} {D : va_G} {ad : Nat → Nat} {H : Heap} {locs : List Loc} {cells slots : Nat} {lsr : Array Slot} {Z : State → Prop},
      Cx M p R s m args meth c D → (∀ v ∈ st, okv sh.length v) →
      (P → W p l e R s m args below meth c H locs cells slots Z (F0 m pc1 lsr (st'.map (cv ad)))) → (¬ P → W p l e R s m args below meth c H locs cells slots Z (F0 m pc2 lsr (st'.map (cv ad)))) →
      W p l e R s m args below meth c H locs cells slots Z (F0 m pc lsr (st.map (cv ad))))
    (hs : ∀ v ∈ st', v ∈ st) (kt : P → WP M scr mc ms Q pc1 ls st' sh mem) (kf : ¬ P → WP M scr mc ms Q pc2 ls st' sh mem) : WP M scr mc ms Q pc ls st sh mem := by
  intro p l e R s m args below meth c D A ad H locs cells slots lsr Z hC hW hX hL hst h1 h2 hK
  exact hh hC hst (fun q => kt q hC hW hX hL (fun v hv => hst v (hs v hv)) h1 h2 hK) (fun q => kf q hC hW hX hL (fun v hv => hst v (hs v hv)) h1 h2 hK)
theorem sub2 {u v : Vl} : ∀ w ∈ st, w ∈ u :: v :: st := fun _ hw => List.mem_cons_of_mem _ (List.mem_cons_of_mem _ hw)
theorem sub1 {u : Vl} : ∀ w ∈ st, w ∈ u :: st := fun _ hw => List.mem_cons_of_mem _ hw
theorem q_icmp_eq (hd : decode M.2.1 pc = .ok (.if_icmp .eq off, 3)) (ht : (pc : Int) + off = (tgt : Int)) (kt : a = b → WP M scr mc ms Q tgt ls st sh mem) (kf : ¬ a = b → WP M scr mc ms Q (pc + 3) ls st sh mem) : WP M scr mc ms Q pc ls (vI b :: vI a :: st) sh mem :=
  WP.br (fun hC hst q1 q2 => lv_icmp_eq hC.1 hC.2.1 hd ht (fun q => q1 ((i_eq (okI (okt hst)) (okI hst)).mp q)) (fun q => q2 (fun z => q ((i_eq (okI (okt hst)) (okI hst)).mpr z)))) sub2 kt kf
theorem q_icmp_ne (hd : decode M.2.1 pc = .ok (.if_icmp .ne off, 3)) (ht : (pc : Int) + off = (tgt : Int)) (kt : ¬ a = b → WP M scr mc ms Q tgt ls st sh mem) (kf : a = b → WP M scr mc ms Q (pc + 3) ls st sh mem) : WP M scr mc ms Q pc ls (vI b :: vI a :: st) sh mem :=
  WP.br (P := ¬ a = b) (fun hC hst q1 q2 => lv_icmp_ne hC.1 hC.2.1 hd ht (fun q => q1 (fun z => q ((i_eq (okI (okt hst)) (okI hst)).mpr z))) (fun q => q2 (fun z => z ((i_eq (okI (okt hst)) (okI hst)).mp q)))) sub2 kt (fun q => kf (Classical.not_not.mp q))
theorem q_icmp_lt (hd : decode M.2.1 pc = .ok (.if_icmp .lt off, 3)) (ht : (pc : Int) + off = (tgt : Int)) (kt : a < b → WP M scr mc ms Q tgt ls st sh mem) (kf : b ≤ a → WP M scr mc ms Q (pc + 3) ls st sh mem) : WP M scr mc ms Q pc ls (vI b :: vI a :: st) sh mem :=
  WP.br (fun hC hst q1 q2 => lv_icmp_lt hC.1 hC.2.1 hd ht (fun q => q1 ((i_lt (okI (okt hst)) (okI hst)).mp q)) (fun q => q2 (fun z => q ((i_lt (okI (okt hst)) (okI hst)).mpr z)))) sub2 kt (fun q => kf (Int.not_lt.mp q))
theorem q_icmp_ge (hd : decode M.2.1 pc = .ok (.if_icmp .ge off, 3)) (ht : (pc : Int) + off = (tgt : Int)) (kt : b ≤ a → WP M scr mc ms Q tgt ls st sh mem) (kf : a < b → WP M scr mc ms Q (pc + 3) ls st sh mem) : WP M scr mc ms Q pc ls (vI b :: vI a :: st) sh mem :=
  WP.br (fun hC hst q1 q2 => lv_icmp_ge hC.1 hC.2.1 hd ht (fun q => q1 ((i_le (okI hst) (okI (okt hst))).mp q)) (fun q => q2 (fun z => q ((i_le (okI hst) (okI (okt hst))).mpr z)))) sub2 kt (fun q => kf (Int.not_le.mp q))
theorem q_icmp_gt (hd : decode M.2.1 pc = .ok (.if_icmp .gt off, 3)) (ht : (pc : Int) + off = (tgt : Int)) (kt : b < a → WP M scr mc ms Q tgt ls st sh mem) (kf : a ≤ b → WP M scr mc ms Q (pc + 3) ls st sh mem) : WP M scr mc ms Q pc ls (vI b :: vI a :: st) sh mem :=
  WP.br (fun hC hst q1 q2 => lv_icmp_gt hC.1 hC.2.1 hd ht (fun q => q1 ((i_lt (okI hst) (okI (okt hst))).mp q)) (fun q => q2 (fun z => q ((i_lt (okI hst) (okI (okt hst))).mpr z)))) sub2 kt (fun q => kf (Int.not_lt.mp q))
theorem q_icmp_le (hd : decode M.2.1 pc = .ok (.if_icmp .le off, 3)) (ht : (pc : Int) + off = (tgt : Int)) (kt : a ≤ b → WP M scr mc ms Q tgt ls st sh mem) (kf : b < a → WP M scr mc ms Q (pc + 3) ls st sh mem) : WP M scr mc ms Q pc ls (vI b :: vI a :: st) sh mem :=
  WP.br (fun hC hst q1 q2 => lv_icmp_le hC.1 hC.2.1 hd ht (fun q => q1 ((i_le (okI (okt hst)) (okI hst)).mp q)) (fun q => q2 (fun z => q ((i_le (okI (okt hst)) (okI hst)).mpr z)))) sub2 kt (fun q => kf (Int.not_le.mp q))
theorem q_if_eq (hd : decode M.2.1 pc = .ok (.ifCond .eq off, 3)) (ht : (pc : Int) + off = (tgt : Int)) (kt : a = 0 → WP M scr mc ms Q tgt ls st sh mem) (kf : ¬ a = 0 → WP M scr mc ms Q (pc + 3) ls st sh mem) : WP M scr mc ms Q pc ls (vI a :: st) sh mem :=
  WP.br (fun hC hst q1 q2 => lv_if_eq hC.1 hC.2.1 hd ht (fun q => q1 ((i_eq (okI hst) inR0).mp q)) (fun q => q2 (fun z => q ((i_eq (okI hst) inR0).mpr z)))) sub1 kt kf
theorem q_if_ne (hd : decode M.2.1 pc = .ok (.ifCond .ne off, 3)) (ht : (pc : Int) + off = (tgt : Int)) (kt : ¬ a = 0 → WP M scr mc ms Q tgt ls st sh mem) (kf : a = 0 → WP M scr mc ms Q (pc + 3) ls st sh mem) : WP M scr mc ms Q pc ls (vI a :: st) sh mem :=
  WP.br (P := ¬ a = 0) (fun hC hst q1 q2 => lv_if_ne hC.1 hC.2.1 hd ht (fun q => q1 (fun z => q ((i_eq (okI hst) inR0).mpr z))) (fun q => q2 (fun z => z ((i_eq (okI hst) inR0).mp q)))) sub1 kt (fun q => kf (Classical.not_not.mp q))
theorem q_if_lt (hd : decode M.2.1 pc = .ok (.ifCond .lt off, 3)) (ht : (pc : Int) + off = (tgt : Int)) (kt : a < 0 → WP M scr mc ms Q tgt ls st sh mem) (kf : 0 ≤ a → WP M scr mc ms Q (pc + 3) ls st sh mem) : WP M scr mc ms Q pc ls (vI a :: st) sh mem :=
  WP.br (fun hC hst q1 q2 => lv_if_lt hC.1 hC.2.1 hd ht (fun q => q1 ((i_lt (okI hst) inR0).mp q)) (fun q => q2 (fun z => q ((i_lt (okI hst) inR0).mpr z)))) sub1 kt (fun q => kf (Int.not_lt.mp q))
theorem q_if_ge (hd : decode M.2.1 pc = .ok (.ifCond .ge off, 3)) (ht : (pc : Int) + off = (tgt : Int)) (kt : 0 ≤ a → WP M scr mc ms Q tgt ls st sh mem) (kf : a < 0 → WP M scr mc ms Q (pc + 3) ls st sh mem) : WP M scr mc ms Q pc ls (vI a :: st) sh mem :=
  WP.br (fun hC hst q1 q2 => lv_if_ge hC.1 hC.2.1 hd ht (fun q => q1 ((i_le inR0 (okI hst)).mp q)) (fun q => q2 (fun z => q ((i_le inR0 (okI hst)).mpr z)))) sub1 kt (fun q => kf (Int.not_le.mp q))
theorem q_if_gt (hd : decode M.2.1 pc = .ok (.ifCond .gt off, 3)) (ht : (pc : Int) + off = (tgt : Int)) (kt : 0 < a → WP M scr mc ms Q tgt ls st sh mem) (kf : a ≤ 0 → WP M scr mc ms Q (pc + 3) ls st sh mem) : WP M scr mc ms Q pc ls (vI a :: st) sh mem :=
  WP.br (fun hC hst q1 q2 => lv_if_gt hC.1 hC.2.1 hd ht (fun q => q1 ((i_lt inR0 (okI hst)).mp q)) (fun q => q2 (fun z => q ((i_lt inR0 (okI hst)).mpr z)))) sub1 kt (fun q => kf (Int.not_lt.mp q))
theorem q_if_le (hd : decode M.2.1 pc = .ok (.ifCond .le off, 3)) (ht : (pc : Int) + off = (tgt : Int)) (kt : a ≤ 0 → WP M scr mc ms Q tgt ls st sh mem) (kf : 0 < a → WP M scr mc ms Q (pc + 3) ls st sh mem) : WP M scr mc ms Q pc ls (vI a :: st) sh mem :=
  WP.br (fun hC hst q1 q2 => lv_if_le hC.1 hC.2.1 hd ht (fun q => q1 ((i_le (okI hst) inR0).mp q)) (fun q => q2 (fun z => q ((i_le (okI hst) inR0).mpr z)))) sub1 kt (fun q => kf (Int.not_le.mp q))
theorem q_lcmp (hd : decode M.2.1 pc = .ok (.lcmp, 1)) (k : WP M scr mc ms Q (pc + 1) ls (vI (if b < a then 1 else if a = b then 0 else -1) :: st) sh mem) : WP M scr mc ms Q pc ls (vJ b :: vJ a :: st) sh mem :=
  WP.step (fun hC _ _ hL hst kk => W.lcmp hC.1 hC.2.1 hd (by
    have h1 : lg_cmp (Int64.ofInt a) (Int64.ofInt b) = Int32.ofInt (if b < a then 1 else if a = b then 0 else -1) := by
      have e1 : (Int64.ofInt a > Int64.ofInt b) ↔ b < a := by
        show Int64.ofInt b < Int64.ofInt a ↔ _
        rw [Int64.lt_iff_toInt_lt, tJ (okJ hst), tJ (okJ (okt hst))]
      have e2 : (Int64.ofInt a = Int64.ofInt b) ↔ a = b := by rw [← Int64.toInt_inj, tJ (okJ hst), tJ (okJ (okt hst))]
      unfold lg_cmp
      by_cases c1 : b < a
      · rw [if_pos (e1.mpr c1), if_pos c1]; rfl
      · rw [if_neg (fun z => c1 (e1.mp z)), if_neg c1]
        by_cases c2 : a = b
        · rw [if_pos (e2.mpr c2), if_pos c2]; rfl
        · rw [if_neg (fun z => c2 (e2.mp z)), if_neg c2]; rfl
    rw [h1]
    exact kk _ hL (okcI (by split <;> (try split) <;> omega) (okt (okt hst))))) k
theorem q_and1 (hd : decode M.2.1 pc = .ok (.iand, 1)) (h0 : 0 ≤ a) (k : WP M scr mc ms Q (pc + 1) ls (vI (a % 2) :: st) sh mem) : WP M scr mc ms Q pc ls (vI 1 :: vI a :: st) sh mem :=
  WP.step (fun hC _ _ hL hst kk => lv_iand hC.1 hC.2.1 hd (by rw [i_and1 (okI (okt hst)) h0]; exact kk _ hL (okcI (by omega) (okt (okt hst))))) k
theorem q_and31 (hd : decode M.2.1 pc = .ok (.iand, 1)) (k : WP M scr mc ms Q (pc + 1) ls (vI (a % 32) :: st) sh mem) : WP M scr mc ms Q pc ls (vI 31 :: vI a :: st) sh mem :=
  WP.step (fun hC _ _ hL hst kk => lv_iand hC.1 hC.2.1 hd (by rw [i_and31]; exact kk _ hL (okcI (by omega) (okt (okt hst))))) k
theorem q_ior (hd : decode M.2.1 pc = .ok (.ior, 1)) (h0 : 0 ≤ a) (h1 : 0 ≤ b) (k : WP M scr mc ms Q (pc + 1) ls (vI ((a.toNat ||| b.toNat : Nat) : Int) :: st) sh mem) : WP M scr mc ms Q pc ls (vI b :: vI a :: st) sh mem :=
  WP.step (fun hC _ _ hL hst kk => lv_ior hC.1 hC.2.1 hd (by
    have hb := okI hst
    have ha := okI (okt hst)
    rw [i_or h0 h1]
    have h2 : (a.toNat ||| b.toNat) < 2 ^ 31 := Nat.or_lt_two_pow (by omega) (by omega)
    exact kk _ hL (okcI (by omega) (okt (okt hst))))) k
theorem q_shl1 (hd : decode M.2.1 pc = .ok (.ishl, 1)) (h0 : 0 ≤ b) (h1 : b < 31) (k : WP M scr mc ms Q (pc + 1) ls (vI ((2 ^ b.toNat : Nat) : Int) :: st) sh mem) : WP M scr mc ms Q pc ls (vI b :: vI 1 :: st) sh mem :=
  WP.step (fun hC _ _ hL hst kk => lv_ishl hC.1 hC.2.1 hd (by
    rw [i_shl1 h0 h1]
    have h2 : (2 : Nat) ^ b.toNat ≤ 2 ^ 30 := Nat.pow_le_pow_right (by omega) (by omega)
    have hr : inR ((2 ^ b.toNat : Nat) : Int) := by
      generalize 2 ^ b.toNat = N at h2 ⊢
      omega
    exact kk _ hL (okcI hr (okt (okt hst))))) k
theorem q_shr (hd : decode M.2.1 pc = .ok (.ishr, 1)) (ha : 0 ≤ a) (h0 : 0 ≤ b) (h1 : b < 31) (k : WP M scr mc ms Q (pc + 1) ls (vI (a / ((2 ^ b.toNat : Nat) : Int)) :: st) sh mem) : WP M scr mc ms Q pc ls (vI b :: vI a :: st) sh mem :=
  WP.step (fun hC _ _ hL hst kk => lv_ishr hC.1 hC.2.1 hd (by
    have hz := okI (okt hst)
    rw [i_shr hz ha h0 h1]
    have h3 : a / ((2 ^ b.toNat : Nat) : Int) ≤ a := Int.ediv_le_self _ ha
    have h4 : 0 ≤ a / ((2 ^ b.toNat : Nat) : Int) := Int.ediv_nonneg ha (Int.natCast_nonneg _)
    exact kk _ hL (okcI (by omega) (okt (okt hst))))) k
end RU
end
section
/-! RULES of the heap: fields, arrays, new cells -/
def LF (own : String) (idx ci k : Nat) : Prop := ci < 11 ∧ k < nA ci ∧ (Cond.fieldLink own idx (TA ci k).1 (TA ci k).2.1 (TA ci k).2.2.1 ∈ gdW ∨ ∃ host, Cond.fieldLinkNest own idx (TA ci k).1 (TA ci k).2.1 (TA ci k).2.2.1 host ∈ lw_tbl)
def mset (mem : Mem) (h k : Nat) (z : Int) : Mem := fun h' k' => if h' = h ∧ k' = k then z else mem h' k'
theorem mset_ne {mem : Mem} {h k : Nat} {z : Int} (j : Nat) (hj : j ≠ h) : mset mem h k z j = mem j := by
  funext i
  simp [mset, hj]
theorem mset_eq {mem : Mem} {h k : Nat} {z : Int} : mset mem h k z h k = z := by simp [mset]
theorem mset_at {mem : Mem} {h k : Nat} {z : Int} (h' k' : Nat) : mset mem h k z h' k' = if h' = h ∧ k' = k then z else mem h' k' := rfl
theorem wd_obj {ad : Nat → Nat} {ca : Nat → ClassId} {sh : Sh} {mem : Mem} {h ci n : Nat} {rs : List Nat} (hs : sh[h]? = some (ci, n, rs)) (hc : ci < 11) : (wd ad ca sh mem)[h]? = some (ad h, .inr (ci, (List.range (nA ci)).map (fun j => fv ad (tyA ci j) (rs.getD j 0) (mem h j)))) := by
  rw [wd_get, hs]
  simp [wc, hc]
theorem wd_arr {ad : Nat → Nat} {ca : Nat → ClassId} {sh : Sh} {mem : Mem} {h ci n : Nat} {rs : List Nat} (hs : sh[h]? = some (ci, n, rs)) (hc : ¬ ci < 11) : (wd ad ca sh mem)[h]? = some (ad h, .inl (ca h, n, .inl (fun j => Int32.ofInt (mem h j)))) := by
  rw [wd_get, hs]
  simp [wc, hc]
theorem okm_set {sh : Sh} {mem : Mem} {h k : Nat} {z : Int} (hm : okm sh mem) {q : Nat × Nat × List Nat} (hs : sh[h]? = some q) (hz : okz (sty q k) z) : okm sh (mset mem h k z) := by
  intro h' q' hq j
  by_cases e : h' = h ∧ j = k
  · obtain ⟨rfl, rfl⟩ := e
    rw [hs] at hq
    cases hq
    rw [mset_eq]
    exact hz
  · show okz _ (if _ then _ else _)
    rw [if_neg e]
    exact hm h' q' hq j
theorem it_fits {ty : FieldType} (h : isIt ty = true) (z : Int) : fits ty (.int (Int32.ofInt z)) = true ∨ ty = .boolean := by
  cases ty <;> first | exact Or.inr rfl | exact Or.inl rfl | cases h
/-- a whole number may stand in a slot of this type -/
def fit (ty : FieldType) (z : Int) : Prop := ty = .boolean → z = 0 ∨ z = 1
theorem fit_narrow {ty : FieldType} (h : isIt ty = true) {z : Int} (hf : fit ty z) : narrow ty (.int (Int32.ofInt z)) = .int (Int32.ofInt z) := by
  by_cases hb : ty = .boolean
  · subst hb
    rcases hf rfl with rfl | rfl <;> rfl
  · cases ty <;> first | rfl | exact absurd rfl hb | cases h
theorem fit_fits {ty : FieldType} (h : isIt ty = true) {z : Int} (hf : fit ty z) : fits ty (.int (Int32.ofInt z)) = true := by
  by_cases hb : ty = .boolean
  · subst hb
    rcases hf rfl with rfl | rfl <;> rfl
  · cases ty <;> first | rfl | exact absurd rfl hb | cases h
theorem fit_int {z : Int} : fit .int z := fun h => by cases h
section HE
variable {M : MD} {scr : Option (Nat × (Nat → Int32))} {mc ms : Nat} {Q : Po} {pc : Nat} {ls st : List Vl} {sh : Sh} {mem : Mem} {a b z : Int} {i h idx ci k n : Nat} {rs : List Nat}
theorem q_get (hd : decode M.2.1 pc = .ok (.getfield idx, 3)) (hl : LF M.1.cls idx ci k) (hs : sh[h]? = some (ci, n, rs)) {v : Vl} (hv : ∀ ad : Nat → Nat, fv ad (tyA ci k) (rs.getD k 0) (mem h k) = cv ad v) (hok : okS sh → okz (tyA ci k) (mem h k) → okv sh.length v) (kk : WP M scr mc ms Q (pc + 3) ls (v :: st) sh mem) : WP M scr mc ms Q pc ls (vR h :: st) sh mem := by
  intro p l e R s m args below meth c D A ad H locs cells slots lsr Z hC hW hX hL hst h1 h2 hK
  obtain ⟨hc, hk, hlk⟩ := hl
  obtain ⟨ca, tys, w1, w2, w3, w4, w5, w6, w7, w8⟩ := id hW
  have hfs : ((List.range (nA ci)).map (fun j => fv ad (tyA ci j) (rs.getD j 0) (mem h j)))[k]? = some (cv ad v) := by
    rw [List.getElem?_map, List.getElem?_range hk, Option.map_some, hv]
  have hz : okz (tyA ci k) (mem h k) := by
    have h3 := w8 h _ hs k
    rwa [show sty (ci, n, rs) k = tyA ci k from if_pos hc] at h3
  have kk' := kk hC hW hX hL (okc (hok w7 hz) (okt hst)) h1 h2 hK
  rcases hlk with hlk | ⟨host, hlk⟩
  · exact va_get (D := D) (ci := ci) hC.1 hC.2.1 hC.2.2.2.2.2.2.1 (inA hc) hC.2.2.2.2.2.1 w1 w3 h (wd_obj hs hc) (clA hc) k hk (hC.2.2.2.2.2.2.1 _ hlk) (fun _ h9 => h9) hfs hd kk'
  · exact va_getN (D := D) (ci := ci) hC.1 hC.2.1 hC.2.2.2.2.2.2.1 (inA hc) hC.2.2.2.2.2.1 w1 w3 h (wd_obj hs hc) (clA hc) k hk (va_Nw.use rfl (hC.2.2.2.2.2.2.2.1 _ hlk rfl)) (fun _ h9 => h9) hfs hd kk'
theorem q_geti (hd : decode M.2.1 pc = .ok (.getfield idx, 3)) (hl : LF M.1.cls idx ci k) (hs : sh[h]? = some (ci, n, rs)) (ht : isIt (tyA ci k) = true) (kk : WP M scr mc ms Q (pc + 3) ls (vI (mem h k) :: st) sh mem) : WP M scr mc ms Q pc ls (vR h :: st) sh mem :=
  q_get hd hl hs (v := vI (mem h k)) (fun ad => by simp [fv, ht, cv]) (fun _ hz => by rw [okz, if_pos ht] at hz; exact hz) kk
theorem q_getl (hd : decode M.2.1 pc = .ok (.getfield idx, 3)) (hl : LF M.1.cls idx ci k) (hs : sh[h]? = some (ci, n, rs)) (ht : tyA ci k = .long) (kk : WP M scr mc ms Q (pc + 3) ls (vJ (mem h k) :: st) sh mem) : WP M scr mc ms Q pc ls (vR h :: st) sh mem :=
  q_get hd hl hs (v := vJ (mem h k)) (fun ad => by rw [ht]; rfl) (fun _ hz => by rw [ht] at hz; exact hz) kk
theorem q_getr (hd : decode M.2.1 pc = .ok (.getfield idx, 3)) (hl : LF M.1.cls idx ci k) (hs : sh[h]? = some (ci, n, rs)) (ht : isRt (tyA ci k) = true) {r : Nat} (hr : rs[k]? = some (r + 1)) (kk : WP M scr mc ms Q (pc + 3) ls (vR r :: st) sh mem) : WP M scr mc ms Q pc ls (vR h :: st) sh mem :=
  q_get hd hl hs (v := vR r) (fun ad => by
    have h1 : isIt (tyA ci k) = false := by cases hq : tyA ci k <;> first | rfl | (rw [hq] at ht; cases ht)
    simp [fv, h1, ht, List.getD_eq_getElem?_getD, hr, cv]) (fun hS _ => Or.inl (by
      have := hS h _ hs (r + 1) (List.mem_of_getElem? hr)
      omega)) kk
/-- a field is written -/
theorem q_put (hd : decode M.2.1 pc = .ok (.putfield idx, 3)) (hl : LF M.1.cls idx ci k) (hs : sh[h]? = some (ci, n, rs)) {v : Vl} {sh' : Sh} {rs' : List Nat} {mem' : Mem} (hs' : sh'[h]? = some (ci, n, rs')) (hse : ∀ j, j ≠ h → sh'[j]? = sh[j]?) (hsl : sh'.length = sh.length) (hme : ∀ j, j ≠ h → mem' j = mem j)
    (hfs : ∀ ad : Nat → Nat, ((List.range (nA ci)).map (fun j => fv ad (tyA ci j) (rs.getD j 0) (mem h j))).set k (cv ad v) = (List.range (nA ci)).map (fun j => fv ad (tyA ci j) (rs'.getD j 0) (mem' h j)))
    (hn : ∀ ad : Nat → Nat, narrow (tyA ci k) (cv ad v) = cv ad v) (hf : ∀ ad : Nat → Nat, fits (tyA ci k) (cv ad v) = true) (hfin : (TA ci k).2.2.2 = false ∨ ((TA ci k).2.2.2 = true ∧ M.1.name = "<init>" ∧ (TA ci k).1 = M.1.cls ∧ Cond.fieldLink M.1.cls idx (TA ci k).1 (TA ci k).2.1 (TA ci k).2.2.1 ∈ gdW))
    (hok : okv sh.length v → okS sh → okS sh') (hom : okv sh.length v → okm sh mem → okm sh' mem') (kk : WP M scr mc ms Q (pc + 3) ls st sh' mem') : WP M scr mc ms Q pc ls (v :: vR h :: st) sh mem := by
  intro p l e R s m args below meth c D A ad H locs cells slots lsr Z hC hW hX hL hst h1 h2 hK
  obtain ⟨hc, hk, hlk⟩ := hl
  obtain ⟨ca, tys, w1, w2, w3, w4, w5, w6, w7, w8⟩ := id hW
  have hkl : k < ((List.range (nA ci)).map (fun j => fv ad (tyA ci j) (rs.getD j 0) (mem h j))).length := by simpa using hk
  have hwd : (wd ad ca sh mem).set h (ad h, .inr (ci, ((List.range (nA ci)).map (fun j => fv ad (tyA ci j) (rs.getD j 0) (mem h j))).set k (cv ad v))) = wd ad ca sh' mem' := by
    rw [hfs]
    have h3 := wd_set (ad := ad) (ca := ca) (mem := mem) (mem' := mem') hs' hse hsl hme
    simp only [wc, hc, if_true] at h3
    exact h3
  have kk' : ∀ (H1 : Heap) (locs1 : List Loc), va_P D vwCl ((wd ad ca sh mem).set h (ad h, .inr (ci, ((List.range (nA ci)).map (fun j => fv ad (tyA ci j) (rs.getD j 0) (mem h j))).set k (cv ad v)))) H1 → va_D A ((wd ad ca sh mem).set h (ad h, .inr (ci, ((List.range (nA ci)).map (fun j => fv ad (tyA ci j) (rs.getD j 0) (mem h j))).set k (cv ad v)))) → va_S A s.heap H1 locs1 → W p l e R s m args below meth c H1 locs1 cells slots Z (F0 m (pc + 3) lsr (st.map (cv ad))) := by
    intro H1 locs1 x1 x2 x3
    rw [hwd] at x1 x2
    refine kk hC ⟨ca, tys, w1, fun j q hj hq => ?_, x1, x2, x3, w6, hok (ok1 hst) w7, hom (ok1 hst) w8⟩ hX (by rw [hsl]; exact hL) (by rw [hsl]; exact okt (okt hst)) h1 h2 (by rw [hsl]; exact hK)
    by_cases hjh : j = h
    · subst hjh
      rw [hs'] at hj
      cases hj
      omega
    · exact w2 j q (by rw [← hse j hjh]; exact hj) hq
  rcases hfin with hfin | ⟨hfin, hin, hdecl, hlk⟩
  · rcases hlk with hlk | ⟨host, hlk⟩
    · exact va_put (D := D) (ci := ci) hC.1 hC.2.1 hC.2.2.2.2.2.2.1 (inA hc) (tyA ci) (tyA_ok hc) (nmA hc) hC.2.2.2.2.2.1 w1 w3 w4 w5 h (wd_obj hs hc) (clA hc) k hk (hC.2.2.2.2.2.2.1 _ hlk) (fun _ h9 => h9) hfin (tyA_ok hc k hk) (hn ad) (hf ad) hkl hd kk'
    · exact va_putN (D := D) (ci := ci) hC.1 hC.2.1 hC.2.2.2.2.2.2.1 (inA hc) (tyA ci) (tyA_ok hc) (nmA hc) hC.2.2.2.2.2.1 w1 w3 w4 w5 h (wd_obj hs hc) (clA hc) k hk (va_Nw.use rfl (hC.2.2.2.2.2.2.2.1 _ hlk rfl)) (fun _ h9 => h9) hfin (tyA_ok hc k hk) (hn ad) (hf ad) hkl hd kk'
  · exact va_putF (D := D) (ci := ci) hC.1 hC.2.1 hC.2.2.2.2.2.2.1 (inA hc) (tyA ci) (tyA_ok hc) (nmA hc) hC.2.2.2.2.2.1 w1 w3 w4 w5 h (wd_obj hs hc) (clA hc) k hk (hC.2.2.2.2.2.2.1 _ hlk) (fun _ h9 => h9) hfin (hC.2.2.2.2.2.2.2.2.1 hin) hdecl (tyA_ok hc k hk) (hn ad) (hf ad) hkl hd kk'
theorem fs_mset {ad : Nat → Nat} {v : Value} (hk : k < nA ci) (hv : fv ad (tyA ci k) (rs.getD k 0) z = v) : ((List.range (nA ci)).map (fun j => fv ad (tyA ci j) (rs.getD j 0) (mem h j))).set k v = (List.range (nA ci)).map (fun j => fv ad (tyA ci j) (rs.getD j 0) (mset mem h k z h j)) := by
  apply List.ext_getElem?
  intro j
  by_cases hj : j = k
  · subst hj
    rw [List.getElem?_set_self (by simpa using hk), List.getElem?_map, List.getElem?_range hk, Option.map_some, mset_eq, hv]
  · rw [List.getElem?_set_ne (Ne.symm hj), List.getElem?_map, List.getElem?_map]
    by_cases hjn : j < nA ci
    · rw [List.getElem?_range hjn, Option.map_some, Option.map_some, mset_at, if_neg (fun q => hj q.2)]
    · rw [List.getElem?_eq_none (by simpa using hjn)]
      rfl
theorem q_puti (hd : decode M.2.1 pc = .ok (.putfield idx, 3)) (hl : LF M.1.cls idx ci k) (hs : sh[h]? = some (ci, n, rs)) (ht : isIt (tyA ci k) = true) (hfin : (TA ci k).2.2.2 = false ∨ ((TA ci k).2.2.2 = true ∧ M.1.name = "<init>" ∧ (TA ci k).1 = M.1.cls ∧ Cond.fieldLink M.1.cls idx (TA ci k).1 (TA ci k).2.1 (TA ci k).2.2.1 ∈ gdW)) (hf : fit (tyA ci k) z)
    (kk : WP M scr mc ms Q (pc + 3) ls st sh (mset mem h k z)) : WP M scr mc ms Q pc ls (vI z :: vR h :: st) sh mem :=
  q_put hd hl hs (v := vI z) hs (fun _ _ => rfl) rfl (fun j hj => mset_ne j hj) (fun ad => fs_mset hl.2.1 (by simp [fv, ht, cv])) (fun _ => fit_narrow ht hf) (fun _ => fit_fits ht hf) hfin (fun _ q => q)
    (fun hz q => okm_set q hs (by rw [show sty (ci, n, rs) k = tyA ci k from if_pos hl.1, okz, if_pos ht]; exact hz)) kk
theorem q_putl (hd : decode M.2.1 pc = .ok (.putfield idx, 3)) (hl : LF M.1.cls idx ci k) (hs : sh[h]? = some (ci, n, rs)) (ht : tyA ci k = .long) (hfin : (TA ci k).2.2.2 = false)
    (kk : WP M scr mc ms Q (pc + 3) ls st sh (mset mem h k z)) : WP M scr mc ms Q pc ls (vJ z :: vR h :: st) sh mem :=
  q_put hd hl hs (v := vJ z) hs (fun _ _ => rfl) rfl (fun j hj => mset_ne j hj) (fun ad => fs_mset hl.2.1 (by rw [ht]; rfl)) (fun _ => by rw [ht]; rfl) (fun _ => by rw [ht]; rfl) (Or.inl hfin) (fun _ q => q)
    (fun hz q => okm_set q hs (by rw [show sty (ci, n, rs) k = tyA ci k from if_pos hl.1, ht]; exact hz)) kk
theorem rt_narrow {ty : FieldType} (h : isRt ty = true) (r : Nat) : narrow ty (.ref r) = .ref r := by
  cases ty <;> first | rfl | cases h
theorem rt_fits {ty : FieldType} (h : isRt ty = true) (r : Nat) : fits ty (.ref r) = true := by
  cases ty <;> first | rfl | cases h
theorem rt_it {ty : FieldType} (h : isRt ty = true) : isIt ty = false := by
  cases ty <;> first | rfl | cases h
theorem q_putr (hd : decode M.2.1 pc = .ok (.putfield idx, 3)) (hl : LF M.1.cls idx ci k) (hs : sh[h]? = some (ci, n, rs)) (ht : isRt (tyA ci k) = true) {r : Nat} (hr : r < sh.length) (hkr : k < rs.length) (hfin : (TA ci k).2.2.2 = false ∨ ((TA ci k).2.2.2 = true ∧ M.1.name = "<init>" ∧ (TA ci k).1 = M.1.cls ∧ Cond.fieldLink M.1.cls idx (TA ci k).1 (TA ci k).2.1 (TA ci k).2.2.1 ∈ gdW))
    {sh' : Sh} (he : sh.set h (ci, n, rs.set k (r + 1)) = sh') (kk : WP M scr mc ms Q (pc + 3) ls st sh' mem) : WP M scr mc ms Q pc ls (vR r :: vR h :: st) sh mem := by
  have hh : h < sh.length := (List.getElem?_eq_some_iff.mp hs).1
  subst he
  refine q_put hd hl hs (v := vR r) (rs' := rs.set k (r + 1)) (mem' := mem) (List.getElem?_set_self hh) (fun j hj => List.getElem?_set_ne (Ne.symm hj)) List.length_set (fun _ _ => rfl) (fun ad => ?_) (fun ad => rt_narrow ht _) (fun ad => rt_fits ht _) hfin (fun _ q => ?_) (fun _ q => ?_) kk
  · apply List.ext_getElem?
    intro j
    by_cases hj : j = k
    · subst hj
      rw [List.getElem?_set_self (by simpa using hl.2.1), List.getElem?_map, List.getElem?_range hl.2.1, Option.map_some]
      simp [fv, rt_it ht, ht, List.getD_eq_getElem?_getD, List.getElem?_set_self hkr, cv]
    · rw [List.getElem?_set_ne (Ne.symm hj), List.getElem?_map, List.getElem?_map]
      by_cases hjn : j < nA ci
      · rw [List.getElem?_range hjn, Option.map_some, Option.map_some, List.getD_eq_getElem?_getD, List.getD_eq_getElem?_getD, List.getElem?_set_ne (Ne.symm hj)]
      · rw [List.getElem?_eq_none (by simpa using hjn)]
        rfl
  · intro j q' hq x hx
    rw [List.length_set]
    by_cases hjh : j = h
    · subst hjh
      rw [List.getElem?_set_self hh] at hq
      cases hq
      rcases List.mem_or_eq_of_mem_set hx with h3 | h3
      · exact q j _ hs x h3
      · omega
    · rw [List.getElem?_set_ne (Ne.symm hjh)] at hq
      exact q j _ hq x hx
  · intro j q' hq i
    by_cases hjh : j = h
    · subst hjh
      rw [List.getElem?_set_self hh] at hq
      cases hq
      exact q j _ hs i
    · rw [List.getElem?_set_ne (Ne.symm hjh)] at hq
      exact q j _ hq i
theorem arr_ty {s : State} {ca : Nat → ClassId} {tys : List (ClassId × FieldType)} (w2 : ∀ (k : Nat) (q : Nat × Nat × List Nat), sh[k]? = some q → 11 ≤ q.1 → ∃ t : Nat, tys[t]? = some (ca k, aty q.1)) (hs : sh[h]? = some (ci, n, rs)) (hc : 11 ≤ ci) : ∃ t : Nat, tys[t]? = some (ca h, aty ci) := w2 h _ hs hc
theorem q_iald (hd : decode M.2.1 pc = .ok (.iaload, 1)) (hs : sh[h]? = some (11, n, rs)) (h0 : 0 ≤ a) (h1 : a < n) (kk : WP M scr mc ms Q (pc + 1) ls (vI (mem h a.toNat) :: st) sh mem) : WP M scr mc ms Q pc ls (vI a :: vR h :: st) sh mem := by
  refine WP.step (fun hC hW _ hL hst kk => ?_) kk
  obtain ⟨ca, tys, w1, w2, w3, w4, w5, w6, w7, w8⟩ := id hW
  obtain ⟨t, ht⟩ := w2 h _ hs (Nat.le_of_ble_eq_true rfl)
  have ha : inR a := okI hst
  refine va_iald hC.1 hC.2.1 w1 w3 h t (wd_arr hs (by decide)) ht (i_in ha h0 h1) hd ?_
  rw [i_cl ha]
  have hz : inR (mem h a.toNat) := w8 h _ hs a.toNat
  exact kk _ hL (okcI hz (okt (okt hst)))
theorem q_zald (hd : decode M.2.1 pc = .ok (.baload, 1)) (hs : sh[h]? = some (12, n, rs)) (h0 : 0 ≤ a) (h1 : a < n) (kk : WP M scr mc ms Q (pc + 1) ls (vI (mem h a.toNat) :: st) sh mem) : WP M scr mc ms Q pc ls (vI a :: vR h :: st) sh mem := by
  refine WP.step (fun hC hW _ hL hst kk => ?_) kk
  obtain ⟨ca, tys, w1, w2, w3, w4, w5, w6, w7, w8⟩ := id hW
  obtain ⟨t, ht⟩ := w2 h _ hs (Nat.le_of_ble_eq_true rfl)
  have ha : inR a := okI hst
  refine va_zald hC.1 hC.2.1 w1 w3 h t (wd_arr hs (by decide)) ht (i_in ha h0 h1) hd ?_
  rw [i_cl ha]
  have hz : inR (mem h a.toNat) := w8 h _ hs a.toNat
  exact kk _ hL (okcI hz (okt (okt hst)))
theorem wd_aset {ad : Nat → Nat} {ca : Nat → ClassId} {f : Nat → Int32} (hs : sh[h]? = some (ci, n, rs)) (hc : ¬ ci < 11) (hf : f = fun j => Int32.ofInt (mset mem h i z h j)) : (wd ad ca sh mem).set h (ad h, .inl (ca h, n, .inl f)) = wd ad ca sh (mset mem h i z) := by
  have h3 := wd_set (ad := ad) (ca := ca) (mem := mem) (mem' := mset mem h i z) hs (fun _ _ => rfl) rfl (fun j hj => mset_ne j hj)
  simp only [wc, hc, if_false] at h3
  rw [hf]
  exact h3
theorem upd_mset (ha : inR a) : upd (fun j => Int32.ofInt (mem h j)) (Int32.ofInt a).toNatClampNeg (Int32.ofInt z) = fun j => Int32.ofInt (mset mem h a.toNat z h j) := by
  rw [i_cl ha]
  funext j
  simp only [upd, mset_at, true_and]
  split <;> rfl
theorem q_iast (hd : decode M.2.1 pc = .ok (.iastore, 1)) (hs : sh[h]? = some (11, n, rs)) (h0 : 0 ≤ a) (h1 : a < n) (kk : WP M scr mc ms Q (pc + 1) ls st sh (mset mem h a.toNat z)) : WP M scr mc ms Q pc ls (vI z :: vI a :: vR h :: st) sh mem := by
  intro p l e R s m args below meth c D A ad H locs cells slots lsr Z hC hW hX hL hst hm1 hm2 hK
  obtain ⟨ca, tys, w1, w2, w3, w4, w5, w6, w7, w8⟩ := id hW
  obtain ⟨t, ht⟩ := w2 h _ hs (Nat.le_of_ble_eq_true rfl)
  have hz : inR z := okI hst
  have ha : inR a := okI (okt hst)
  refine va_iast hC.1 hC.2.1 w1 w3 w4 w5 h t (wd_arr hs (by decide)) ht (i_in ha h0 h1) hd (fun H1 locs1 x1 x2 x3 => ?_)
  rw [upd_mset ha, wd_aset hs (by decide) rfl] at x1 x2
  exact kk hC ⟨ca, tys, w1, w2, x1, x2, x3, w6, w7, okm_set w8 hs hz⟩ hX hL (okt (okt (okt hst))) hm1 hm2 hK
theorem q_zast (hd : decode M.2.1 pc = .ok (.bastore, 1)) (hs : sh[h]? = some (12, n, rs)) (h0 : 0 ≤ a) (h1 : a < n) (hb : z = 0 ∨ z = 1) (kk : WP M scr mc ms Q (pc + 1) ls st sh (mset mem h a.toNat z)) : WP M scr mc ms Q pc ls (vI z :: vI a :: vR h :: st) sh mem := by
  intro p l e R s m args below meth c D A ad H locs cells slots lsr Z hC hW hX hL hst hm1 hm2 hK
  obtain ⟨ca, tys, w1, w2, w3, w4, w5, w6, w7, w8⟩ := id hW
  obtain ⟨t, ht⟩ := w2 h _ hs (Nat.le_of_ble_eq_true rfl)
  have hz : inR z := okI hst
  have ha : inR a := okI (okt hst)
  refine va_zast hC.1 hC.2.1 w1 w3 w4 w5 h t (wd_arr hs (by decide)) ht (i_in ha h0 h1) hd (fun H1 locs1 x1 x2 x3 => ?_)
  rw [show vp_nar .boolean (Int32.ofInt z) = Int32.ofInt z from by rcases hb with rfl | rfl <;> rfl, upd_mset ha, wd_aset hs (by decide) rfl] at x1 x2
  exact kk hC ⟨ca, tys, w1, w2, x1, x2, x3, w6, w7, okm_set w8 hs hz⟩ hX hL (okt (okt (okt hst))) hm1 hm2 hK
end HE
end
section
/-! RULES: calls, returns, new cells, the script; contracts of methods (Tot) -/
abbrev wsM (M : MD) : List Cond := Cond.code M.1 M.2.1 M.2.2.1 M.2.2.2.1 :: gdW
abbrev rmM (M : MD) (mc ms : Nat) : Room := { frames := M.2.2.2.2.1, cells := mc, slots := ms, locals := M.2.2.2.2.2 }
def W0 (D : va_G) (A : Nat → Prop) (ad : Nat → Nat) (t : State) (sh : Sh) (mem : Mem) : Prop :=
  ∃ (ca : Nat → ClassId) (tys : List (ClassId × FieldType)), va_K D vwCl tys t ∧ (∀ (k : Nat) (q : Nat × Nat × List Nat), sh[k]? = some q → 11 ≤ q.1 → ∃ t : Nat, tys[t]? = some (ca k, aty q.1)) ∧ va_P D vwCl (wd ad ca sh mem) t.heap ∧ va_D A (wd ad ca sh mem) ∧ okS sh ∧ okm sh mem
def QG (Q : Po) (D : va_G) (A : Nat → Prop) (ad : Nat → Nat) (n : Nat) : Array Value → State → Outcome → State → Prop := fun _ st oc t =>
  (∃ (r : Option Vl) (sh' : Sh) (mem' : Mem) (ad' : Nat → Nat), oc = .returned (r.map (cv ad')) ∧ Q r sh' mem' ∧ n ≤ sh'.length ∧ (∀ k, (k < n ∨ k = 1000) → ad' k = ad k) ∧ okr sh'.length r ∧ W0 D A ad' t sh' mem') ∧ va_F A st t
abbrev PG (D : va_G) (ad : Nat → Nat) (ca : Nat → ClassId) (tys : List (ClassId × FieldType)) (sz : Nat) (as : List Vl) (sh : Sh) (mem : Mem) : Array Value → State → Prop :=
  va_Pc (as.map (cv ad)) (fun U => U.heap.size = sz ∧ Nk U ∧ va_K D vwCl tys U ∧ va_P D vwCl (wd ad ca sh mem) U.heap ∧ va_D (fun _ => True) (wd ad ca sh mem))
def Tot (M : MD) (mc ms : Nat) (as : List Vl) (sh : Sh) (mem : Mem) (Q : Po) : Prop :=
  ∀ (l : Launch) (D : va_G) (ad : Nat → Nat) (ca : Nat → ClassId) (tys : List (ClassId × FieldType)) (sz : Nat), (∀ (k : Nat) (q : Nat × Nat × List Nat), sh[k]? = some q → 11 ≤ q.1 → ∃ t : Nat, tys[t]? = some (ca k, aty q.1)) → okS sh → okm sh mem → (∀ v ∈ as, okv sh.length v) →
    Met l M.1 (wsM M) (rmM M mc ms) (PG D ad ca tys sz as sh mem) (QG Q D (va_A (wd ad ca sh mem) sz) ad sh.length) mc ms (va_A (wd ad ca sh mem) sz)
theorem lg_len : ∀ (vs : List Value), (∀ v ∈ vs, v.category = 1) → (lg_sl vs).length = vs.length
  | [], _ => rfl
  | v :: vs, h => by
    have h1 := h v List.mem_cons_self
    have h2 := lg_len vs (fun w hw => h w (List.mem_cons_of_mem _ hw))
    simp only [lg_sl, List.flatMap_cons, List.length_append, List.length_cons] at h2 ⊢
    rw [h2, if_neg (by omega)]
    simp; omega
theorem lv_args_at : ∀ (vs : List Value) (i j : Nat) (v : Value), (∀ v ∈ vs, v.category = 1) → vs[j]? = some v → (i + j, v) ∈ lv_args i vs
  | [], _, _, _, _, h => by simp at h
  | w :: vs, i, 0, v, _, h => by
    simp at h
    subst h
    exact List.mem_cons_self
  | w :: vs, i, j + 1, v, hc, h => by
    have h1 := hc w List.mem_cons_self
    simp only [List.getElem?_cons_succ] at h
    have h2 := lv_args_at vs (i + 1) j v (fun z hz => hc z (List.mem_cons_of_mem _ hz)) h
    simp only [lv_args]
    rw [if_neg (by omega)]
    refine List.mem_cons_of_mem _ ?_
    rw [show i + (j + 1) = i + 1 + j by omega]
    exact h2
theorem Lv.entry {ad : Nat → Nat} {nL n : Nat} {as : List Vl} (hlen : as.length ≤ nL) (hj : ∀ v ∈ as, isJ v = false) (hok : ∀ v ∈ as, okv n v) : Lv ad nL n ((lg_sl (as.map (cv ad)) ++ List.replicate (nL - (lg_sl (as.map (cv ad))).length) Slot.unset).toArray) (as ++ List.replicate (nL - as.length) (vJ 0)) := by
  have hc : ∀ v ∈ as.map (cv ad), v.category = 1 := by
    intro v hv
    obtain ⟨w, hw, rfl⟩ := List.mem_map.mp hv
    exact cv_cat (hj w hw)
  have hl := lg_len _ hc
  rw [List.length_map] at hl
  have h := lv_entry (as.map (cv ad)) (n := nL) (by omega)
  refine ⟨h.1, h.2.1, by rw [List.length_append, List.length_replicate]; omega, fun v hv => ?_, fun i v hi hJ => ?_⟩
  · rcases List.mem_append.mp hv with h1 | h1
    · exact hok v h1
    · rw [List.eq_of_mem_replicate h1]
      exact show inL 0 by omega
  · by_cases hi2 : i < as.length
    · rw [List.getElem?_append_left hi2] at hi
      have h1 := lv_args_at (as.map (cv ad)) 0 i (cv ad v) hc (by rw [List.getElem?_map, hi]; rfl)
      rw [Nat.zero_add] at h1
      exact h.2.2 _ h1
    · rw [List.getElem?_append_right (by omega)] at hi
      have h1 := List.eq_of_mem_replicate (List.mem_of_getElem? hi)
      rw [h1] at hJ
      cases hJ
theorem Lv.ag {ad ad' : Nat → Nat} {nL n n' : Nat} {lsr : Array Slot} {ls : List Vl} (h : Lv ad nL n lsr ls) (hag : ∀ k, (k < n ∨ k = 1000) → ad' k = ad k) (hn : n ≤ n') : Lv ad' nL n' lsr ls := by
  refine ⟨h.1, h.2.1, h.2.2.1, fun v hv => okv_mono hn (h.2.2.2.1 v hv), fun i v hi hJ => ?_⟩
  rw [cv_ag hag (h.ok hi)]
  exact h.get hi hJ
theorem map_ag {ad ad' : Nat → Nat} {n : Nat} {st : List Vl} (hag : ∀ k, (k < n ∨ k = 1000) → ad' k = ad k) (h : ∀ v ∈ st, okv n v) : st.map (cv ad') = st.map (cv ad) := List.map_congr_left (fun v hv => cv_ag hag (h v hv))
theorem Tot.of {M : MD} {mc ms : Nat} {as : List Vl} {sh : Sh} {mem : Mem} {Q : Po} (hy : plainName M.1.cls = true) (hlen : as.length ≤ M.2.2.1) (hj : ∀ v ∈ as, isJ v = false) {ls : List Vl} (hls : as ++ List.replicate (M.2.2.1 - as.length) (vJ 0) = ls)
    (h : WP M none mc ms Q 0 ls [] sh mem) : Tot M mc ms as sh mem Q := by
  subst hls
  intro l D ad ca tys sz w2 w7 w8 hok
  refine Met.ofW (cc := M.2.1) (maxL := M.2.2.1) (ret := M.2.2.2.1) hy rfl ?_
  intro p e s m args below meth c s₁ B hml hv
  obtain ⟨rfl, hsz, hN, hK, hP, hD0⟩ := hv
  have hts := atoms_spec (ws := wsM M) B.pre
  have hlocks := B.notSynchronized
  subst hsz
  have hD := hD0.self (sz := s.heap.size)
  have hS : va_S (va_A (wd ad ca sh mem) s.heap.size) s.heap s.heap [] := va_S.rf
  rw [lg_entry_eq]
  refine h ⟨B.exec, B.bytes, hml, B.returns, hlocks, findClass_of_methodNamed B.named, fun w hw => hts w (List.mem_cons_of_mem _ hw), hN, fun hi => ((name_of_methodNamed B.named B.method).1).trans hi, Nat.le_refl _, Nat.le_refl _, hK.1⟩ ⟨ca, tys, hK, w2, hP, hD, hS, fun q hq => Or.inr hq, w7, w8⟩ trivial (Lv.entry hlen hj hok) (fun v hv => by cases hv) (by show 0 + mc ≤ mc; omega) (by show 0 + ms ≤ ms; omega) ?_
  intro r sh' mem' ad' H' locs' pc' lsr' hQ hn hag hW hret hokr
  obtain ⟨ca', tys', x1, x2, x3, x4, x5, x6, x7, x8⟩ := hW
  rw [Nat.zero_add, Nat.zero_add]
  have hend : ∀ (t : State), t.heap = H' → s.WarmedH t.vm → QG Q D (va_A (wd ad ca sh mem) s.heap.size) ad sh.length (as.map (cv ad)).toArray s (.returned (r.map (cv ad'))) t := fun t ht hWm =>
    ⟨⟨r, sh', mem', ad', rfl, hQ, hn, hag, hokr, ca', tys', va_K.moved hWm.alike x1, x2, by rw [ht]; exact x3, x4, x7, x8⟩, x5.F ht⟩
  rcases hret with ⟨h1, h2, rfl⟩ | ⟨h1, h2, z, rfl⟩ | ⟨h1, h2, z, rfl, hz⟩ | ⟨h1, h2, z, rfl⟩
  · exact W.vret B.exec B.bytes (B.returns.trans h1) hend x5.2.2 h2 hlocks
  · exact W.iret B.exec B.bytes (B.returns.trans h1) hend x5.2.2 h2 hlocks
  · exact W.zret B.exec B.bytes (B.returns.trans h1) (by rcases hz with rfl | rfl <;> rfl) hend x5.2.2 h2 hlocks
  · exact W.lret B.exec B.bytes (B.returns.trans h1) hend x5.2.2 h2 hlocks
theorem WP.mono {M : MD} {scr : Option (Nat × (Nat → Int32))} {mc ms pc : Nat} {ls st : List Vl} {sh : Sh} {mem : Mem} {Q Q' : Po} (h : WP M scr mc ms Q pc ls st sh mem) (hq : ∀ r sh' mem', Q r sh' mem' → Q' r sh' mem') : WP M scr mc ms Q' pc ls st sh mem := by
  intro p l e R s m args below meth c D A ad H locs cells slots lsr Z hC hW hX hL hst h1 h2 hK
  exact h hC hW hX hL hst h1 h2 (fun r sh' mem' ad' H' locs' pc' lsr' hQ => hK r sh' mem' ad' H' locs' pc' lsr' (hq _ _ _ hQ))
section CA
variable {M M' : MD} {scr : Option (Nat × (Nat → Int32))} {mc ms mc' ms' mcT msT : Nat} {Q Q' : Po} {pc : Nat} {ls st st0 as : List Vl} {sh : Sh} {mem : Mem} {a b z : Int} {i h idx ci k n n0 : Nat} {rs : List Nat}
theorem av_call {p : Program} {l : Launch} {e : Env} {R : Room} {s : State} {m : MethodId} {args : Array Value} {below : List Frame} {meth : Method} {c : Code} {H : Heap} {locs : List Loc} {cells slots : Nat} {Z : State → Prop} {lsr : Array Slot} {rest st1 : List Value} {ar : Array Value} {A0 A1 : Nat → Prop} {H0 : Heap} {free : Addr → Prop} {D : va_G} {ad : Nat → Nat} {n : Nat}
    (hr : va_Run p l e R s m args below meth c H locs cells slots mc ms (F0 m pc lsr st1) rest (QG Q D A1 ad n ar) free) (hS : va_S A0 H0 H locs) (hA : ∀ q, q < H.size → A1 q → A0 q) (hA' : ∀ q, A1 q → A0 q) (hf : ∀ q, free q → A0 q)
    (kk : ∀ (r : Option Vl) (sh' : Sh) (mem' : Mem) (ad' : Nat → Nat) (H1 : Heap) (locs1 : List Loc), Q r sh' mem' → n ≤ sh'.length → (∀ k, (k < n ∨ k = 1000) → ad' k = ad k) → okr sh'.length r → (∃ (ca : Nat → ClassId) (tys : List (ClassId × FieldType)), va_K D vwCl tys s ∧ (∀ (k : Nat) (q : Nat × Nat × List Nat), sh'[k]? = some q → 11 ≤ q.1 → ∃ t : Nat, tys[t]? = some (ca k, aty q.1)) ∧ va_P D vwCl (wd ad' ca sh' mem') H1 ∧ va_D A0 (wd ad' ca sh' mem') ∧ okS sh' ∧ okm sh' mem') → va_S A0 H0 H1 locs1 →
      W p l e R s m args below meth c H1 locs1 (cells + mc) (slots + ms) Z (F0 m (pc + 3) lsr ((r.map (cv ad')).toList ++ rest))) : W p l e R s m args below meth c H locs cells slots Z (F0 m pc lsr st1) := by
  intro T hT X
  obtain ⟨v, st₀, t, T', L, h0, X', hL, e1, e2, ⟨⟨r, sh', mem', ad', hv, hq, hn, hag, hor, ca, tys, x1, x2, x3, x4, x7, x8⟩, hz, hk⟩, stp⟩ := hr T hT X
  cases hv
  rw [h0] at hz hk
  have hvm : s.vm.Alike t.vm := by rw [← e2]; exact X'.warmed.alike
  obtain ⟨t2, a1, b1⟩ := kk r sh' mem' ad' T'.heap (locs ++ L) hq hn hag hor ⟨ca, tys, va_K.moved hvm.symm x1, x2, by rw [e1]; exact x3, x4.weaken (fun _ q _ h => hA' q.1 h), x7, x8⟩
    ⟨Nat.le_trans hS.1 (by rw [e1]; exact hz), fun q h1 h2 => by rw [e1, hk q (Nat.lt_of_lt_of_le h1 hS.1) (fun z => h2 (hA q (Nat.lt_of_lt_of_le h1 hS.1) z))]; exact hS.2.1 q h1 h2, fun q hq => by
      rcases List.mem_append.mp hq with h | h
      · exact hS.2.2 q h
      · exact hf _ (hL q h)⟩ T' rfl X'
  exact ⟨t2, stp t2 a1, b1⟩
/-- a callee, and how much it may take -/
abbrev KM (M' : MD) (n : Nat) : Prop := Cond.code M'.1 M'.2.1 M'.2.2.1 M'.2.2.2.1 ∈ gdW ∧ Cond.initialized M'.1.cls ∈ gdW ∧ (M'.1.cls ≠ "java/lang/invoke/MethodHandle" ∧ M'.1.cls ≠ "java/lang/invoke/VarHandle" ∧ (parseMethodDescriptor M'.1.desc).map (fun d => d.parameters.length) = some n)
abbrev KR (M M' : MD) : Prop := M'.2.2.2.2.1 + 1 ≤ M.2.2.2.2.1 ∧ 8 + (M'.2.2.1 + 11) + M'.2.2.2.2.2 ≤ M.2.2.2.2.2
theorem wsM_good (hm : KM M' n) : GoodIn gdW (wsM M') := fun w hw => by
  rcases List.mem_cons.mp hw with h1 | h1
  · rw [h1]; exact gd_good _ hm.1
  · exact gd_good w h1
theorem cat_sum {ad : Nat → Nat} : ∀ (st : List Vl), ((st.map (cv ad)).map (fun v => v.category)).sum ≤ 2 * st.length
  | [] => Nat.le_refl _
  | v :: st => by
    have h1 := cat_sum (ad := ad) st
    have h2 : (cv ad v).category ≤ 2 := cv_cat2
    simp only [List.map_cons, List.sum_cons, List.length_cons]
    omega
/-- what follows a call -/
theorem q_back {p : Program} {l : Launch} {e : Env} {R : Room} {s : State} {m : MethodId} {args : Array Value} {below : List Frame} {meth : Method} {c : Code} {D : va_G} {A : Nat → Prop} {ad : Nat → Nat} {H : Heap} {locs : List Loc} {cells slots : Nat} {lsr : Array Slot} {Z : State → Prop} {st1 : List Value} {ar : Array Value} {ca : Nat → ClassId}
    (hr : va_Run p l e R s m args below meth c H locs cells slots mc' ms' (F0 m pc lsr st1) (st.map (cv ad)) (QG Q' D (va_A (wd ad ca sh mem) H.size) ad sh.length ar) (va_A (wd ad ca sh mem) H.size))
    (hC : Cx M p R s m args meth c D) (w4 : va_D A (wd ad ca sh mem)) (w5 : va_S A s.heap H locs) (w6 : ∀ q : Nat, s.heap.size ≤ q → A q) (hX : Sc scr s A (ad 1000)) (hL : Lv ad M.2.2.1 sh.length lsr ls) (hst : ∀ v ∈ st, okv sh.length v) (h1 : cells + (mc' + mc) ≤ R.cells) (h2 : slots + (ms' + ms) ≤ R.slots)
    (hK : Kt M p l e R s m args below meth c D A (cells + (mc' + mc)) (slots + (ms' + ms)) Z Q ad sh.length)
    (kk : ∀ (r : Option Vl) (sh' : Sh) (mem' : Mem), Q' r sh' mem' → sh.length ≤ sh'.length → WP M scr mc ms Q (pc + 3) ls (r.toList ++ st) sh' mem') : W p l e R s m args below meth c H locs cells slots Z (F0 m pc lsr st1) := by
  have hAA : ∀ q, va_A (wd ad ca sh mem) H.size q → A q := by
    intro q hq
    rcases hq with ⟨k, e, hk⟩ | hq
    · exact w4.2 k (q, e) hk
    · exact w6 q (Nat.le_trans w5.1 hq)
  refine av_call hr w5 (fun q _ h => hAA q h) hAA hAA (fun r sh' mem' ad' H1 locs1 hq hn hag hor hw hS1 => ?_)
  obtain ⟨ca', tys', x1, x2, x3, x4, x7, x8⟩ := hw
  have hmap : (r.map (cv ad')).toList ++ st.map (cv ad) = (r.toList ++ st).map (cv ad') := by
    rw [List.map_append, map_ag hag hst]
    cases r <;> rfl
  rw [hmap]
  rw [← Nat.add_assoc] at h1 h2
  refine kk r sh' mem' hq hn hC ⟨ca', tys', x1, x2, x3, x4, hS1, w6, x7, x8⟩ (by rw [hag 1000 (Or.inr rfl)]; exact hX) (hL.ag hag hn) (fun v hv => ?_) h1 h2 ?_
  · rcases List.mem_append.mp hv with h3 | h3
    · exact hor v h3
    · exact okv_mono hn (hst v h3)
  · intro r2 sh2 mem2 ad2 H2 locs2 pc2 lsr2 g1 g2 g3 g4 g5 g6
    rw [Nat.add_assoc, Nat.add_assoc]
    exact hK r2 sh2 mem2 ad2 H2 locs2 pc2 lsr2 g1 (Nat.le_trans hn g2) (fun k hk => (g3 k (hk.elim (fun q => Or.inl (Nat.lt_of_lt_of_le q hn)) Or.inr)).trans (hag k hk)) g4 g5 g6
theorem pre_blind {D : va_G} {ad : Nat → Nat} {ca : Nat → ClassId} {tys : List (ClassId × FieldType)} {sz : Nat} : FrameBlind (PG D ad ca tys sz as sh mem) := by
  intro a U g mk q
  obtain ⟨q1, q2, q3, q4, q5, q6⟩ := q
  exact ⟨q1, q2, Nk.same (u := U) (U := U.calling g mk a) rfl q3, va_K.moved (u := U) (U := U.calling g mk a) (Vm.Alike.refl U.vm) q4, q5, q6⟩
theorem pre_at {s : State} {H : Heap} {D : va_G} {A : Nat → Prop} {ad : Nat → Nat} {ca : Nat → ClassId} {tys : List (ClassId × FieldType)} (hN : Nk s) (w1 : va_K D vwCl tys s) (w3 : va_P D vwCl (wd ad ca sh mem) H) (w4 : va_D A (wd ad ca sh mem)) : ∀ U : State, U.heap = H → s.WarmedH U.vm → PG D ad ca tys H.size as sh mem (as.map (cv ad)).toArray U :=
  fun U hU hW => ⟨rfl, by rw [hU], hN.warm hW, va_K.moved hW.alike w1, by rw [hU]; exact w3, w4.weaken (fun _ _ _ _ => trivial)⟩
theorem q_callV (hd : decode M.2.1 pc = .ok (.invokevirtual idx, 3)) (hm : KM M' n) (hiv : Cond.instanceMethod M'.1 ∈ gdW ∧ Cond.selects M'.1.cls M'.1 M'.1 ∈ gdW) (hl : Cond.methodLink M.1.cls idx M'.1 ∈ gdW) (hR : KR M M') (hs : sh[h]? = some (ci, n0, rs)) (hci : ci < 11 ∧ RA ci = M'.1.cls) (hn : as.length = n) (hst : as.reverse ++ vR h :: st = st0) (hlen : st.length ≤ 4) (hT : Tot M' mc' ms' (vR h :: as) sh mem Q') (hmc : mc' + mc = mcT) (hms : ms' + ms = msT)
    (kk : ∀ (r : Option Vl) (sh' : Sh) (mem' : Mem), Q' r sh' mem' → sh.length ≤ sh'.length → WP M scr mc ms Q (pc + 3) ls (r.toList ++ st) sh' mem') : WP M scr mcT msT Q pc ls st0 sh mem := by
  subst hst; subst hmc; subst hms
  intro p l e R s m args below meth c D A ad H locs cells slots lsr Z hC hW hX hL hst h1 h2 hK
  obtain ⟨ca, tys, w1, w2, w3, w4, w5, w6, w7, w8⟩ := id hW
  have hst' : ∀ v ∈ st, okv sh.length v := fun v hv => hst v (List.mem_append_right _ (List.mem_cons_of_mem _ hv))
  have has : ∀ v ∈ vR h :: as, okv sh.length v := okc (hst _ (List.mem_append_right _ List.mem_cons_self)) (fun v hv => hst v (List.mem_append_left _ (List.mem_reverse.mpr hv)))
  have hM := hT l D ad ca tys H.size w2 w7 w8 has
  have hsum := cat_sum (ad := ad) st
  have hG : GoodIn gdW (wsV M.1.cls idx M'.1.cls M'.1 (wsM M')) := by
    intro w hw
    unfold wsV at hw
    rcases List.mem_append.mp hw with h3 | h3
    · simp only [List.mem_cons, List.not_mem_nil, or_false] at h3
      rcases h3 with h3 | h3 | h3 | h3
      · rw [h3]; exact gd_good _ hl
      · rw [h3]; exact gd_good _ hiv.1
      · rw [h3]; exact gd_good _ hiv.2
      · rw [h3]; exact gd_good _ hm.2.1
    · exact wsM_good hm w h3
  have hre := va_recv w1 w3 (clA hci.1) (wd_obj (ad := ad) (ca := ca) (mem := mem) hs hci.1)
  rw [hci.2] at hre
  refine q_back (mc' := mc') (ms' := ms') (st := st) (Q' := Q') (va_runV (As := as.map (cv ad)) (rest := st.map (cv ad)) (b := ad h) ⟨hC.1, hC.2.1, hC.2.2.1, hC.2.2.2.2.2.1, hC.2.2.2.2.2.2.1⟩ hM (cwV n hC.2.2.2.2.2.2.1 hG rfl rfl rfl ⟨rfl, hm.2.2⟩ ⟨Nat.le_trans hR.1 hC.2.2.2.2.2.2.2.2.2.1, Nat.le_trans hR.2 hC.2.2.2.2.2.2.2.2.2.2.1⟩) ⟨pre_blind, hre, pre_at (as := vR h :: as) hC.2.2.2.2.2.2.2.1 w1 w3 w4⟩ rfl (by rw [List.length_map]; exact hn) hL.1 (by simp [List.map_append, List.map_reverse]; rfl) (lv_room (by omega)) hd ⟨by show cells + mc' ≤ R.cells; omega, by show slots + ms' ≤ R.slots; omega⟩) hC w4 w5 w6 hX hL hst' h1 h2 hK kk
theorem q_callS (hd : decode M.2.1 pc = .ok (.invokestatic idx, 3)) (hm : KM M' n) (hiv : Cond.static M'.1 ∈ gdW) (hl : Cond.methodLink M.1.cls idx M'.1 ∈ gdW) (hR : KR M M') (hn : as.length = n) (hst : as.reverse ++ st = st0) (hlen : st.length ≤ 4) (hT : Tot M' mc' ms' as sh mem Q') (hmc : mc' + mc = mcT) (hms : ms' + ms = msT)
    (kk : ∀ (r : Option Vl) (sh' : Sh) (mem' : Mem), Q' r sh' mem' → sh.length ≤ sh'.length → WP M scr mc ms Q (pc + 3) ls (r.toList ++ st) sh' mem') : WP M scr mcT msT Q pc ls st0 sh mem := by
  subst hst; subst hmc; subst hms
  intro p l e R s m args below meth c D A ad H locs cells slots lsr Z hC hW hX hL hst h1 h2 hK
  obtain ⟨ca, tys, w1, w2, w3, w4, w5, w6, w7, w8⟩ := id hW
  have hst' : ∀ v ∈ st, okv sh.length v := fun v hv => hst v (List.mem_append_right _ hv)
  have has : ∀ v ∈ as, okv sh.length v := fun v hv => hst v (List.mem_append_left _ (List.mem_reverse.mpr hv))
  have hM := hT l D ad ca tys H.size w2 w7 w8 has
  have hsum := cat_sum (ad := ad) st
  have hts := hC.2.2.2.2.2.2.1
  refine q_back (mc' := mc') (ms' := ms') (st := st) (Q' := Q') (va_runS (As := as.map (cv ad)) (rest := st.map (cv ad)) ⟨hC.1, hC.2.1, hC.2.2.1, hC.2.2.2.2.2.1, hts⟩ hM ⟨callB_of n hts (wsM_good hm) rfl rfl rfl (hts _ hm.2.1) (hts _ hl) hm.2.2 ⟨Nat.le_trans hR.1 hC.2.2.2.2.2.2.2.2.2.1, Nat.le_trans hR.2 hC.2.2.2.2.2.2.2.2.2.2.1⟩, hts _ hiv⟩ ⟨pre_blind, pre_at (as := as) hC.2.2.2.2.2.2.2.1 w1 w3 w4⟩ rfl (by rw [List.length_map]; exact hn) hL.1 (by simp [List.map_append, List.map_reverse]) (lv_room (by omega)) hd ⟨by show cells + mc' ≤ R.cells; omega, by show slots + ms' ≤ R.slots; omega⟩) hC w4 w5 w6 hX hL hst' h1 h2 hK kk
theorem q_callI (hd : decode M.2.1 pc = .ok (.invokespecial idx, 3)) (hm : KM M' n) (hiv : M'.1.name = "<init>" ∧ M'.2.2.2.1 = none ∧ Cond.instanceMethod M'.1 ∈ gdW) (hl : Cond.methodLink M.1.cls idx M'.1 ∈ gdW ∨ ∃ host, Cond.methodLinkNest M.1.cls idx M'.1 host ∈ lw_tbl) (hR : KR M M') (hn : as.length = n) (hst : as.reverse ++ vR h :: st = st0) (hlen : st.length ≤ 4) (hT : Tot M' mc' ms' (vR h :: as) sh mem Q') (hmc : mc' + mc = mcT) (hms : ms' + ms = msT)
    (kk : ∀ (r : Option Vl) (sh' : Sh) (mem' : Mem), Q' r sh' mem' → sh.length ≤ sh'.length → WP M scr mc ms Q (pc + 3) ls (r.toList ++ st) sh' mem') : WP M scr mcT msT Q pc ls st0 sh mem := by
  subst hst; subst hmc; subst hms
  intro p l e R s m args below meth c D A ad H locs cells slots lsr Z hC hW hX hL hst h1 h2 hK
  obtain ⟨ca, tys, w1, w2, w3, w4, w5, w6, w7, w8⟩ := id hW
  have hst' : ∀ v ∈ st, okv sh.length v := fun v hv => hst v (List.mem_append_right _ (List.mem_cons_of_mem _ hv))
  have has : ∀ v ∈ vR h :: as, okv sh.length v := okc (hst _ (List.mem_append_right _ List.mem_cons_self)) (fun v hv => hst v (List.mem_append_left _ (List.mem_reverse.mpr hv)))
  have hM := hT l D ad ca tys H.size w2 w7 w8 has
  have hsum := cat_sum (ad := ad) st
  have hts := hC.2.2.2.2.2.2.1
  have hw : wsM M' = Cond.code M'.1 M'.2.1 M'.2.2.1 none :: gdW := by rw [← hiv.2.1]
  have hRR : (rmM M' mc' ms').frames + 1 ≤ R.frames ∧ 8 + (M'.2.2.1 + 11) + (rmM M' mc' ms').locals ≤ R.locals := ⟨Nat.le_trans hR.1 hC.2.2.2.2.2.2.2.2.2.1, Nat.le_trans hR.2 hC.2.2.2.2.2.2.2.2.2.2.1⟩
  rcases hl with hl | ⟨host, hl⟩
  · refine q_back (mc' := mc') (ms' := ms') (st := st) (Q' := Q') (va_runI (As := as.map (cv ad)) (rest := st.map (cv ad)) (b := ad h) ⟨hC.1, hC.2.1, hC.2.2.1, hC.2.2.2.2.2.1, hts⟩ hM (cwI n hts (wsM_good hm) hw rfl rfl (hts _ hm.2.1) (hts _ hl) (hts _ hiv.2.2) hiv.1 hm.2.2 hRR) ⟨pre_blind, pre_at (as := vR h :: as) hC.2.2.2.2.2.2.2.1 w1 w3 w4⟩ rfl (by rw [List.length_map]; exact hn) hL.1 (by simp [List.map_append, List.map_reverse]; rfl) (lv_room (by omega)) hd ⟨by show cells + mc' ≤ R.cells; omega, by show slots + ms' ≤ R.slots; omega⟩) hC w4 w5 w6 hX hL hst' h1 h2 hK kk
  · refine q_back (mc' := mc') (ms' := ms') (st := st) (Q' := Q') (va_runIN (As := as.map (cv ad)) (rest := st.map (cv ad)) (b := ad h) ⟨hC.1, hC.2.1, hC.2.2.1, hC.2.2.2.2.2.1, hts⟩ hM ⟨va_cnB n hts (wsM_good hm) hw rfl rfl (hC.2.2.2.2.2.2.2.1 _ hl rfl) (hts _ hm.2.1) hm.2.2 hRR, hiv.1, hts _ hiv.2.2⟩ ⟨pre_blind, pre_at (as := vR h :: as) hC.2.2.2.2.2.2.2.1 w1 w3 w4⟩ rfl (by rw [List.length_map]; exact hn) hL.1 (by simp [List.map_append, List.map_reverse]; rfl) (lv_room (by omega)) hd ⟨by show cells + mc' ≤ R.cells; omega, by show slots + ms' ≤ R.slots; omega⟩) hC w4 w5 w6 hX hL hst' h1 h2 hK kk
end CA
end
section
/-! RULES: returns, new cells, Math, the script, switches -/
section MO
variable {M M' : MD} {scr : Option (Nat × (Nat → Int32))} {mc ms mcT msT : Nat} {Q Q' : Po} {pc tgt : Nat} {ls st st0 as : List Vl} {sh : Sh} {mem : Mem} {a b z : Int} {i h idx ci k n n0 : Nat} {rs : List Nat}
theorem q_ret {r : Option Vl} (hst : st = r.toList) (hr : retOK M pc r) (hq : Q r sh mem) : WP M scr mc ms Q pc ls st sh mem := by
  subst hst
  intro p l e R s m args below meth c D A ad H locs cells slots lsr Z hC hW hX hL hst h1 h2 hK
  exact W.widen (k := cells + mc) (n := slots + ms) (Nat.le_add_right _ _) (Nat.le_add_right _ _) (hK r sh mem ad H locs pc lsr hq (Nat.le_refl _) (fun _ _ => rfl) hW hr hst)
theorem q_iret (hd : decode M.2.1 pc = .ok (.ireturn, 1)) (hr : M.2.2.2.1 = some .int) (hq : Q (some (vI a)) sh mem) : WP M scr mc ms Q pc ls [vI a] sh mem :=
  q_ret (r := some (vI a)) rfl (Or.inr (Or.inl ⟨hr, hd, a, rfl⟩)) hq
theorem q_zret (hd : decode M.2.1 pc = .ok (.ireturn, 1)) (hr : M.2.2.2.1 = some .boolean) (hb : a = 0 ∨ a = 1) (hq : Q (some (vI a)) sh mem) : WP M scr mc ms Q pc ls [vI a] sh mem :=
  q_ret (r := some (vI a)) rfl (Or.inr (Or.inr (Or.inl ⟨hr, hd, a, rfl, hb⟩))) hq
theorem q_lret (hd : decode M.2.1 pc = .ok (.lreturn, 1)) (hr : M.2.2.2.1 = some .long) (hq : Q (some (vJ a)) sh mem) : WP M scr mc ms Q pc ls [vJ a] sh mem :=
  q_ret (r := some (vJ a)) rfl (Or.inr (Or.inr (Or.inr ⟨hr, hd, a, rfl⟩))) hq
theorem q_vret (hd : decode M.2.1 pc = .ok (.return_, 1)) (hr : M.2.2.2.1 = none) (hq : Q none sh mem) : WP M scr mc ms Q pc ls [] sh mem :=
  q_ret (r := none) rfl (Or.inl ⟨hr, hd, rfl⟩) hq
theorem q_max (hd : decode M.2.1 pc = .ok (.invokestatic idx, 3)) (hl : Cond.methodLink M.1.cls idx Lib.Math.max.name ∈ gdW) (hw : Cond.static Lib.Math.max.name ∈ gdW ∧ Cond.initialized "java/lang/Math" ∈ gdW ∧ Cond.code Lib.Math.max.name Lib.Math.max.code 2 (some .int) ∈ gdW) (hR : 1 ≤ M.2.2.2.2.1 ∧ 21 ≤ M.2.2.2.2.2) (hlen : st.length ≤ 4)
    (kk : WP M scr mc ms Q (pc + 3) ls (vI (max a b) :: st) sh mem) : WP M scr mc ms Q pc ls (vI b :: vI a :: st) sh mem := by
  intro p l e R s m args below meth c D A ad H locs cells slots lsr Z hC hW hX hL hst h1 h2 hK
  have hts := hC.2.2.2.2.2.2.1
  have hb : inR b := okI hst
  have ha : inR a := okI (okt hst)
  have hsum := cat_sum (ad := ad) st
  have hF := hC.2.2.2.2.2.2.2.2.2.1
  have hLo := hC.2.2.2.2.2.2.2.2.2.2.1
  refine va_mmax hC.1 hC.2.1 (hC.2.2.1.trans hL.1.symm) hC.2.2.2.2.2.1 (hts _ hl) (hts _ hw.1) (hts _ hw.2.1) (hts _ hw.2.2) (by omega) (by omega) (by omega) (by omega) hd ?_
  have hm : (if Int32.ofInt a < Int32.ofInt b then Int32.ofInt b else Int32.ofInt a) = Int32.ofInt (max a b) := by
    by_cases c1 : a < b
    · rw [if_pos ((i_lt ha hb).mpr c1), show max a b = b by omega]
    · rw [if_neg (fun q => c1 ((i_lt ha hb).mp q)), show max a b = a by omega]
  rw [hm]
  exact kk hC hW hX hL (okcI (by omega) (okt (okt hst))) h1 h2 hK
theorem q_min (hd : decode M.2.1 pc = .ok (.invokestatic idx, 3)) (hl : Cond.methodLink M.1.cls idx Lib.Math.min.name ∈ gdW) (hw : Cond.static Lib.Math.min.name ∈ gdW ∧ Cond.initialized "java/lang/Math" ∈ gdW ∧ Cond.code Lib.Math.min.name Lib.Math.min.code 2 (some .int) ∈ gdW) (hR : 1 ≤ M.2.2.2.2.1 ∧ 21 ≤ M.2.2.2.2.2) (hlen : st.length ≤ 4)
    (kk : WP M scr mc ms Q (pc + 3) ls (vI (min a b) :: st) sh mem) : WP M scr mc ms Q pc ls (vI b :: vI a :: st) sh mem := by
  intro p l e R s m args below meth c D A ad H locs cells slots lsr Z hC hW hX hL hst h1 h2 hK
  have hts := hC.2.2.2.2.2.2.1
  have hb : inR b := okI hst
  have ha : inR a := okI (okt hst)
  have hsum := cat_sum (ad := ad) st
  have hF := hC.2.2.2.2.2.2.2.2.2.1
  have hLo := hC.2.2.2.2.2.2.2.2.2.2.1
  refine va_mmin hC.1 hC.2.1 (hC.2.2.1.trans hL.1.symm) hC.2.2.2.2.2.1 (hts _ hl) (hts _ hw.1) (hts _ hw.2.1) (hts _ hw.2.2) (by omega) (by omega) (by omega) (by omega) hd ?_
  have hm : (if Int32.ofInt b < Int32.ofInt a then Int32.ofInt b else Int32.ofInt a) = Int32.ofInt (min a b) := by
    by_cases c1 : b < a
    · rw [if_pos ((i_lt hb ha).mpr c1), show min a b = b by omega]
    · rw [if_neg (fun q => c1 ((i_lt hb ha).mp q)), show min a b = a by omega]
  rw [hm]
  exact kk hC hW hX hL (okcI (by omega) (okt (okt hst))) h1 h2 hK
theorem q_objinit (hd : decode M.2.1 pc = .ok (.invokespecial idx, 3)) (hl : Cond.methodLink M.1.cls idx Lib.objectInit ∈ gdW) (hw : Cond.instanceMethod Lib.objectInit ∈ gdW ∧ Cond.code Lib.objectInit ⟨#[0xb1]⟩ 1 none ∈ gdW) (hR : 1 ≤ M.2.2.2.2.1 ∧ 21 ≤ M.2.2.2.2.2) (hlen : st.length ≤ 4)
    (kk : WP M scr mc ms Q (pc + 3) ls st sh mem) : WP M scr mc ms Q pc ls (vR h :: st) sh mem := by
  intro p l e R s m args below meth c D A ad H locs cells slots lsr Z hC hW hX hL hst h1 h2 hK
  have hts := hC.2.2.2.2.2.2.1
  have hsum := cat_sum (ad := ad) st
  have hF := hC.2.2.2.2.2.2.2.2.2.1
  have hLo := hC.2.2.2.2.2.2.2.2.2.2.1
  exact W.objInit (g := F0 m pc lsr (Value.ref (ad h) :: st.map (cv ad))) hC.1 hC.2.1 hC.2.2.2.2.2.1 (hts _ hl) (hts _ hw.1) (hts _ hw.2) rfl (hL.1.trans hC.2.2.1.symm) rfl hd (by omega) (by show 2 * 0 + _ + 12 ≤ _; omega) (kk hC hW hX hL (okt hst) h1 h2 hK)
def mnew (mem : Mem) (k : Nat) : Mem := fun h j => if h = k then 0 else mem h j
theorem mnew_ne {k : Nat} (j : Nat) (hj : j ≠ k) : mnew mem k j = mem j := by
  funext i
  simp [mnew, hj]
theorem okz0 {ty : FieldType} : okz ty 0 := by
  unfold okz
  split <;> omega
theorem okm_push {q : Nat × Nat × List Nat} (hm : okm sh mem) : okm (sh ++ [q]) (mnew mem sh.length) := by
  intro k q' hq j
  by_cases hk : k = sh.length
  · subst hk
    show okz _ (if sh.length = sh.length then 0 else _)
    rw [if_pos rfl]
    exact okz0
  · rw [mnew_ne k hk]
    by_cases hl : k < sh.length
    · rw [List.getElem?_append_left hl] at hq
      exact hm k q' hq j
    · rw [List.getElem?_eq_none (by simp; omega)] at hq
      cases hq
theorem okS_push {q : Nat × Nat × List Nat} (ho : okS sh) (hr : ∀ r ∈ q.2.2, r ≤ sh.length) : okS (sh ++ [q]) := by
  intro k q' hq r hrr
  rw [List.length_append]
  by_cases hl : k < sh.length
  · rw [List.getElem?_append_left hl] at hq
    exact Nat.le_trans (ho k q' hq r hrr) (Nat.le_add_right _ _)
  · rw [List.getElem?_append_right (by omega)] at hq
    have hz : k - sh.length < 1 := (List.getElem?_eq_some_iff.mp hq).1
    rw [show k - sh.length = 0 by omega] at hq
    cases hq
    exact Nat.le_trans (hr r hrr) (Nat.le_add_right _ _)
theorem tyA_kinds {ci : Nat} (hc : ci < 11) : ∀ j, j < nA ci → defaultValue (tyA ci j) = fv (fun _ => 0) (tyA ci j) 0 0 := by
  rcases lt11 hc with rfl | rfl | rfl | rfl | rfl | rfl | rfl | rfl | rfl | rfl | rfl <;> decide +kernel
theorem fv00 {ad ad' : Nat → Nat} {ty : FieldType} : fv ad ty 0 0 = fv ad' ty 0 0 := by
  unfold fv
  rfl
/-- what follows a cell that comes -/
theorem q_came {p : Program} {l : Launch} {e : Env} {R : Room} {s : State} {m : MethodId} {args : Array Value} {below : List Frame} {meth : Method} {c : Code} {D : va_G} {A : Nat → Prop} {ad : Nat → Nat} {H1 : Heap} {locs : List Loc} {cells slots : Nat} {lsr : Array Slot} {Z : State → Prop} {ca : Nat → ClassId} {tys : List (ClassId × FieldType)} {q : Nat × Nat × List Nat} {x cA : Nat} {len N : Nat}
    (hC : Cx M p R s m args meth c D) (w1 : va_K D vwCl tys s) (w2 : ∀ (k : Nat) (q' : Nat × Nat × List Nat), (sh ++ [q])[k]? = some q' → 11 ≤ q'.1 → ∃ t : Nat, tys[t]? = some ((if k = sh.length then cA else ca k), aty q'.1)) (w3 : va_P D vwCl (wd ad ca sh mem ++ [wc (fun k => if k = sh.length then x else ad k) (fun k => if k = sh.length then cA else ca k) (mnew mem sh.length) sh.length q]) H1) (w4 : va_D A (wd ad ca sh mem ++ [wc (fun k => if k = sh.length then x else ad k) (fun k => if k = sh.length then cA else ca k) (mnew mem sh.length) sh.length q])) (w5 : va_S A s.heap H1 locs) (w6 : ∀ q : Nat, s.heap.size ≤ q → A q) (w7 : okS sh) (w8 : okm sh mem) (hrq : ∀ r ∈ q.2.2, r ≤ sh.length) (h1000 : sh.length < 1000)
    (hX : Sc scr s A (ad 1000)) (hL : Lv ad M.2.2.1 sh.length lsr ls) (hst : ∀ v ∈ st, okv sh.length v) (h1 : cells + (1 + mc) ≤ R.cells) (h2 : slots + (N + ms) ≤ R.slots)
    (hK : Kt M p l e R s m args below meth c D A (cells + (1 + mc)) (slots + (N + ms)) Z Q ad sh.length)
    (kk : WP M scr mc ms Q (pc + len) ls (vR sh.length :: st) (sh ++ [q]) (mnew mem sh.length)) : W p l e R s m args below meth c H1 locs (cells + 1) (slots + N) Z (F0 m (pc + len) lsr (.ref x :: st.map (cv ad))) := by
  have hag : ∀ k, (k < sh.length ∨ k = 1000) → (fun k => if k = sh.length then x else ad k) k = ad k := fun k hk => if_neg (by omega)
  have hle : sh.length ≤ (sh ++ [q]).length := by rw [List.length_append]; omega
  have hpush : wd (fun k => if k = sh.length then x else ad k) (fun k => if k = sh.length then cA else ca k) (sh ++ [q]) (mnew mem sh.length) = wd ad ca sh mem ++ [wc (fun k => if k = sh.length then x else ad k) (fun k => if k = sh.length then cA else ca k) (mnew mem sh.length) sh.length q] :=
    wd_push w7 (fun j hj => if_neg (by omega)) (fun j hj => if_neg (by omega)) (fun j hj => mnew_ne j (by omega))
  have hmap : (Value.ref x :: st.map (cv ad)) = (vR sh.length :: st).map (cv (fun k => if k = sh.length then x else ad k)) := by
    rw [List.map_cons, map_ag hag hst]
    show _ = Value.ref (if sh.length = sh.length then x else ad sh.length) :: _
    rw [if_pos rfl]
  rw [hmap]
  rw [← hpush] at w3 w4
  rw [← Nat.add_assoc] at h1 h2
  refine kk hC ⟨_, tys, w1, w2, w3, w4, w5, w6, okS_push w7 hrq, okm_push w8⟩ (by rw [if_neg (show ¬ 1000 = sh.length by omega)]; exact hX) (hL.ag hag hle) (okc (Or.inl (by rw [List.length_append]; exact Nat.lt_succ_self _)) (fun v hv => okv_mono hle (hst v hv))) h1 h2 ?_
  intro r2 sh2 mem2 ad2 H2 locs2 pc2 lsr2 g1 g2 g3 g4 g5 g6
  rw [Nat.add_assoc, Nat.add_assoc]
  exact hK r2 sh2 mem2 ad2 H2 locs2 pc2 lsr2 g1 (Nat.le_trans hle g2) (fun k hk => (g3 k (hk.elim (fun q => Or.inl (Nat.lt_of_lt_of_le q hle)) Or.inr)).trans (hag k hk)) g4 g5 g6
theorem w2_push {ca : Nat → ClassId} {tys : List (ClassId × FieldType)} {q : Nat × Nat × List Nat} {cA : Nat} (w2 : ∀ (k : Nat) (q : Nat × Nat × List Nat), sh[k]? = some q → 11 ≤ q.1 → ∃ t : Nat, tys[t]? = some (ca k, aty q.1)) (hq : 11 ≤ q.1 → ∃ t : Nat, tys[t]? = some (cA, aty q.1)) :
    ∀ (k : Nat) (q' : Nat × Nat × List Nat), (sh ++ [q])[k]? = some q' → 11 ≤ q'.1 → ∃ t : Nat, tys[t]? = some ((if k = sh.length then cA else ca k), aty q'.1) := by
  intro k q' hk h11
  by_cases hl : k < sh.length
  · rw [List.getElem?_append_left hl] at hk
    rw [if_neg (by omega)]
    exact w2 k q' hk h11
  · rw [List.getElem?_append_right (by omega)] at hk
    have hz : k - sh.length < 1 := (List.getElem?_eq_some_iff.mp hk).1
    rw [show k - sh.length = 0 by omega] at hk
    cases hk
    rw [if_pos (by omega)]
    exact hq h11
theorem q_new (hd : decode M.2.1 pc = .ok (.new idx, 3)) (hc : ci < 11) (hl : Cond.classLink M.1.cls idx (RA ci) ∈ gdW) (hw : Cond.instantiable (RA ci) (nA ci) ∈ gdW ∧ Cond.initialized (RA ci) ∈ gdW) (h1000 : sh.length < 1000) {sh' : Sh} (he : sh ++ [(ci, 0, List.replicate (nA ci) 0)] = sh') (hmc : 1 + mc = mcT) (hms : nA ci + ms = msT)
    (kk : WP M scr mc ms Q (pc + 3) ls (vR sh.length :: st) sh' (mnew mem sh.length)) : WP M scr mcT msT Q pc ls st sh mem := by
  subst hmc; subst hms; subst he
  intro p l e R s m args below meth c D A ad H locs cells slots lsr Z hC hW hX hL hst h1 h2 hK
  obtain ⟨ca, tys, w1, w2, w3, w4, w5, w6, w7, w8⟩ := id hW
  have hts := hC.2.2.2.2.2.2.1
  refine va_new (ci := ci) (fs := (List.range (nA ci)).map (fun j => fv (fun _ => 0) (tyA ci j) 0 0)) hC.1 hC.2.1 hts (inA hc) (tyA ci) (tyA_ok hc) hC.2.2.2.2.2.1 (hts _ hl) (hts _ hw.1) (hts _ hw.2) w1 w3 w4 w5 w6 (clA hc) (fun j hj => ?_) (by omega) (by omega) hd (fun x H1 hP hD hS => ?_)
  · rw [tyA_kinds hc j hj]
    simp [vp_V, List.getD_eq_getElem?_getD, List.getElem?_range hj]
  · have hwc : wc (fun k => if k = sh.length then x else ad k) (fun k => if k = sh.length then 0 else ca k) (mnew mem sh.length) sh.length (ci, 0, List.replicate (nA ci) 0) = (x, .inr (ci, (List.range (nA ci)).map (fun j => fv (fun _ => 0) (tyA ci j) 0 0))) := by
      simp only [wc, hc, if_true, Prod.mk.injEq, true_and]
      congr 2
      apply List.map_congr_left
      intro j hj
      have hj' : j < nA ci := List.mem_range.mp hj
      rw [List.getD_eq_getElem?_getD, List.getElem?_replicate, if_pos hj', Option.getD_some]
      show fv _ _ 0 (if sh.length = sh.length then 0 else _) = _
      rw [if_pos rfl]
      exact fv00
    rw [← hwc] at hP hD
    exact q_came (N := nA ci) (len := 3) hC w1 (w2_push w2 (fun h => absurd hc (by show ¬ ci < 11; exact Nat.not_lt.mpr h))) hP hD hS w6 w7 w8 (fun r hr => by rw [List.eq_of_mem_replicate hr]; exact Nat.zero_le _) h1000 hX hL hst h1 h2 hK kk
theorem q_newi (hd : decode M.2.1 pc = .ok (.newarray .int, 2)) (hw : Cond.arrayClass .int ∈ gdW) (h0 : 0 ≤ a) (ha : a ≤ 1000) (h1000 : sh.length < 1000) {sh' : Sh} (he : sh ++ [(11, a.toNat, [])] = sh') (hmc : 1 + mc = mcT) (hms : a.toNat + ms = msT)
    (kk : WP M scr mc ms Q (pc + 2) ls (vR sh.length :: st) sh' (mnew mem sh.length)) : WP M scr mcT msT Q pc ls (vI a :: st) sh mem := by
  subst hmc; subst hms; subst he
  intro p l e R s m args below meth c D A ad H locs cells slots lsr Z hC hW hX hL hst h1 h2 hK
  obtain ⟨ca, tys, w1, w2, w3, w4, w5, w6, w7, w8⟩ := id hW
  have hts := hC.2.2.2.2.2.2.1
  have hr : inR a := okI hst
  refine va_newa (ty := .int) (atype := .int) (N' := a.toNat) (a0 := (a.toNat, .inl (fun _ => Int32.ofInt 0))) hC.1 hC.2.1 (hts _ hw) rfl w1 w3 w4 w5 w6 (fun cA => rfl) (by rw [← i_zero, i_lt hr inR0]; omega) (i_cl hr) (by show a.toNat * 4 ≤ _; omega) (by omega) (by omega) hd (fun x cA H1 hK' hP hD hS => ?_)
  have hwc : wc (fun k => if k = sh.length then x else ad k) (fun k => if k = sh.length then cA else ca k) (mnew mem sh.length) sh.length (11, a.toNat, []) = (x, .inl (cA, a.toNat, .inl (fun _ => Int32.ofInt 0))) := by
    simp [wc, mnew]
  rw [← hwc] at hP hD
  have w2' : ∀ (k : Nat) (q : Nat × Nat × List Nat), sh[k]? = some q → 11 ≤ q.1 → ∃ t : Nat, (tys ++ [(cA, FieldType.int)])[t]? = some (ca k, aty q.1) := fun k q hk hq => by
    obtain ⟨t, ht⟩ := w2 k q hk hq
    exact ⟨t, by rw [List.getElem?_append_left (List.getElem?_eq_some_iff.mp ht).1]; exact ht⟩
  exact q_came (N := a.toNat) (len := 2) hC hK' (w2_push w2' (fun _ => ⟨tys.length, by rw [List.getElem?_append_right (Nat.le_refl _), Nat.sub_self]; rfl⟩)) hP hD hS w6 w7 w8 (fun r hr => by cases hr) h1000 hX hL (okt hst) h1 h2 hK kk
theorem q_newz (hd : decode M.2.1 pc = .ok (.newarray .boolean, 2)) (hw : Cond.arrayClass .boolean ∈ gdW) (h0 : 0 ≤ a) (ha : a ≤ 1000) (h1000 : sh.length < 1000) {sh' : Sh} (he : sh ++ [(12, a.toNat, [])] = sh') (hmc : 1 + mc = mcT) (hms : a.toNat + ms = msT)
    (kk : WP M scr mc ms Q (pc + 2) ls (vR sh.length :: st) sh' (mnew mem sh.length)) : WP M scr mcT msT Q pc ls (vI a :: st) sh mem := by
  subst hmc; subst hms; subst he
  intro p l e R s m args below meth c D A ad H locs cells slots lsr Z hC hW hX hL hst h1 h2 hK
  obtain ⟨ca, tys, w1, w2, w3, w4, w5, w6, w7, w8⟩ := id hW
  have hts := hC.2.2.2.2.2.2.1
  have hr : inR a := okI hst
  refine va_newa (ty := .boolean) (atype := .boolean) (N' := a.toNat) (a0 := (a.toNat, .inl (fun _ => Int32.ofInt 0))) hC.1 hC.2.1 (hts _ hw) rfl w1 w3 w4 w5 w6 (fun cA => rfl) (by rw [← i_zero, i_lt hr inR0]; omega) (i_cl hr) (by show a.toNat * 1 ≤ _; omega) (by omega) (by omega) hd (fun x cA H1 hK' hP hD hS => ?_)
  have hwc : wc (fun k => if k = sh.length then x else ad k) (fun k => if k = sh.length then cA else ca k) (mnew mem sh.length) sh.length (12, a.toNat, []) = (x, .inl (cA, a.toNat, .inl (fun _ => Int32.ofInt 0))) := by
    simp [wc, mnew]
  rw [← hwc] at hP hD
  have w2' : ∀ (k : Nat) (q : Nat × Nat × List Nat), sh[k]? = some q → 11 ≤ q.1 → ∃ t : Nat, (tys ++ [(cA, FieldType.boolean)])[t]? = some (ca k, aty q.1) := fun k q hk hq => by
    obtain ⟨t, ht⟩ := w2 k q hk hq
    exact ⟨t, by rw [List.getElem?_append_left (List.getElem?_eq_some_iff.mp ht).1]; exact ht⟩
  exact q_came (N := a.toNat) (len := 2) hC hK' (w2_push w2' (fun _ => ⟨tys.length, by rw [List.getElem?_append_right (Nat.le_refl _), Nat.sub_self]; rfl⟩)) hP hD hS w6 w7 w8 (fun r hr => by cases hr) h1000 hX hL (okt hst) h1 h2 hK kk
theorem q_slen {L : Nat} {xs : Nat → Int32} (hL : L ≤ 1000) (hd : decode M.2.1 pc = .ok (.arraylength, 1)) (kk : WP M (some (L, xs)) mc ms Q (pc + 1) ls (vI (L : Int) :: st) sh mem) : WP M (some (L, xs)) mc ms Q pc ls (vR 1000 :: st) sh mem := by
  intro p l e R s m args below meth c D A ad H locs cells slots lsr Z hC hW hX hLv hst h1 h2 hK
  obtain ⟨ca, tys, w1, w2, w3, w4, w5, w6, w7, w8⟩ := id hW
  refine va_slen hC.1 hC.2.1 hX.1 hX.2.1 hX.2.2 w5 hd ?_
  rw [← i_nat]
  exact kk hC hW hX hLv (okcI (by omega) (okt hst)) h1 h2 hK
theorem q_sld {L : Nat} {xs : Nat → Int32} (hd : decode M.2.1 pc = .ok (.iaload, 1)) (h0 : 0 ≤ a) (hL : a < L) (kk : WP M (some (L, xs)) mc ms Q (pc + 1) ls (vI (xs a.toNat).toInt :: st) sh mem) : WP M (some (L, xs)) mc ms Q pc ls (vI a :: vR 1000 :: st) sh mem := by
  intro p l e R s m args below meth c D A ad H locs cells slots lsr Z hC hW hX hLv hst h1 h2 hK
  obtain ⟨ca, tys, w1, w2, w3, w4, w5, w6, w7, w8⟩ := id hW
  have hr : inR a := okI hst
  refine va_sld hC.1 hC.2.1 hX.1 hX.2.1 hX.2.2 w5 (i_in hr h0 hL) hd ?_
  rw [i_cl hr]
  have e2 : (Value.int (xs a.toNat) :: st.map (cv ad)) = (vI (xs a.toNat).toInt :: st).map (cv ad) := by simp [cv]
  rw [e2]
  have h3 := (xs a.toNat).le_toInt
  have h4 := (xs a.toNat).toInt_lt
  exact kk hC hW hX hLv (okcI ⟨by omega, by omega⟩ (okt (okt hst))) h1 h2 hK
theorem q_tsw {dflt lo hi : Int} {offs : Array Int} {len dt : Nat} (tg : List Nat) (hd : decode M.2.1 pc = .ok (.tableswitch dflt lo hi offs, len)) (htg : offs.toList = tg.map (fun (t : Nat) => ((t : Int) - pc))) (hdt : (pc : Int) + dflt = (dt : Int)) (hlen : lo + tg.length = hi + 1)
    (kin : ∀ (j t : Nat), tg[j]? = some t → a = lo + j → WP M scr mc ms Q t ls st sh mem) (kout : (a < lo ∨ hi < a) → WP M scr mc ms Q dt ls st sh mem) : WP M scr mc ms Q pc ls (vI a :: st) sh mem := by
  intro p l e R s m args below meth c D A ad H locs cells slots lsr Z hC hW hX hLv hst h1 h2 hK
  have hr : inR a := okI hst
  by_cases hin : a < lo ∨ hi < a
  · exact lv_tableOut hC.1 hC.2.1 hd (by rw [tI hr]; exact hin) hdt (kout hin hC hW hX hLv (okt hst) h1 h2 hK)
  · have hj : (a - lo).toNat < tg.length := by omega
    obtain ⟨t, ht⟩ : ∃ t, tg[(a - lo).toNat]? = some t := ⟨_, List.getElem?_eq_getElem hj⟩
    have ho : offs[((Int32.ofInt a).toInt - lo).toNat]? = some ((t : Int) - pc) := by
      rw [tI hr, ← Array.getElem?_toList, htg, List.getElem?_map, ht]
      rfl
    exact lv_tableIn hC.1 hC.2.1 hd (by rw [tI hr]; omega) (by rw [tI hr]; omega) ho (by omega) (kin _ t ht (by omega) hC hW hX hLv (okt hst) h1 h2 hK)
theorem q_lsw {dflt : Int} {ps : Array (Int × Int)} {len dt : Nat} (ks : List (Int × Nat)) (hd : decode M.2.1 pc = .ok (.lookupswitch dflt ps, len)) (hks : ps.toList = ks.map (fun q => (q.1, (q.2 : Int) - pc))) (hord : (ps.toList.zip (ps.toList.drop 1)).all (fun (a, next) => a.1 < next.1) = true) (hdt : (pc : Int) + dflt = (dt : Int))
    (hoff : ∀ q ∈ ks, Op.lookupswitch.offset ps.toList dflt q.1 = (q.2 : Int) - pc) (hout : ∀ x : Int, (∀ q ∈ ks, x ≠ q.1) → Op.lookupswitch.offset ps.toList dflt x = dflt)
    (kin : ∀ q ∈ ks, a = q.1 → WP M scr mc ms Q q.2 ls st sh mem) (kout : (∀ q ∈ ks, a ≠ q.1) → WP M scr mc ms Q dt ls st sh mem) : WP M scr mc ms Q pc ls (vI a :: st) sh mem := by
  intro p l e R s m args below meth c D A ad H locs cells slots lsr Z hC hW hX hLv hst h1 h2 hK
  have hr : inR a := okI hst
  by_cases hin : ∃ q, q ∈ ks ∧ a = q.1
  · obtain ⟨q, hq, he⟩ := hin
    exact lv_lookup (off := (q.2 : Int) - pc) hC.1 hC.2.1 hd hord (by rw [tI hr, he]; exact hoff q hq) (by omega) (kin q hq he hC hW hX hLv (okt hst) h1 h2 hK)
  · have hn : ∀ q ∈ ks, a ≠ q.1 := fun q hq he => hin ⟨q, hq, he⟩
    exact lv_lookup hC.1 hC.2.1 hd hord (by rw [tI hr]; exact hout a hn) hdt (kout hn hC hW hX hLv (okt hst) h1 h2 hK)
end MO
end
section
/-! LINKS of the program: made by mk_links.py out of the printed names and tables -/
theorem tb_at {w : Cond} (i : Nat) (h : tables_1[i]? = some w) : w ∈ lw_tbl := List.mem_append_right _ (List.mem_of_getElem? h)
theorem gd_at {w : Cond} (i : Nat) (h : tables_1[i]? = some w) (hg : goodWord w = true) : w ∈ gdW := gd_of (tb_at i h) hg
theorem pv_at {q : MethodName × Nat} (i : Nat) (h : lw_privs[i]? = some q) : Cond.selects q.1.cls q.1 q.1 ∈ gdW := gd_of (List.mem_append_left _ (List.mem_map.mpr ⟨q, List.mem_of_getElem? h, rfl⟩)) rfl
abbrev mX0_init : MD := (yX0_init, cX0_init, 4, none, 1, 21)
abbrev mX0_search : MD := (yX0_search, cX0_search, 7, none, 6, 151)
abbrev mX0_tryLaying : MD := (yX0_tryLaying, cX0_tryLaying, 7, (some .boolean), 5, 125)
abbrev mX0_rankOf : MD := (yX0_rankOf, cX0_rankOf, 5, (some .int), 2, 43)
abbrev mX0_hasFound : MD := (yX0_hasFound, cX0_hasFound, 1, (some .boolean), 0, 0)
abbrev mX0_price : MD := (yX0_price, cX0_price, 1, (some .int), 0, 0)
abbrev mX0_cellOf : MD := (yX0_cellOf, cX0_cellOf, 4, (some .int), 0, 0)
abbrev mX1_init : MD := (yX1_init, cX1_init, 2, none, 3, 66)
abbrev mX1_measure : MD := (yX1_measure, cX1_measure, 3, none, 2, 44)
abbrev mX1_neighbour : MD := (yX1_neighbour, cX1_neighbour, 4, (some .int), 1, 21)
abbrev mX1_nextTo : MD := (yX1_nextTo, cX1_nextTo, 3, (some .int), 1, 21)
abbrev mX1_show : MD := (yX1_show, cX1_show, 3, none, 3, 68)
abbrev mX1_weighSteps : MD := (yX1_weighSteps, cX1_weighSteps, 4, none, 1, 24)
abbrev mX1_taken : MD := (yX1_taken, cX1_taken, 5, (some .int), 0, 0)
abbrev mX1_setThick : MD := (yX1_setThick, cX1_setThick, 3, none, 2, 47)
abbrev mX1_sheetOn : MD := (yX1_sheetOn, cX1_sheetOn, 2, (some .int), 1, 21)
abbrev mX1_canLie : MD := (yX1_canLie, cX1_canLie, 6, (some .boolean), 2, 43)
abbrev mX1_spreadOut : MD := (yX1_spreadOut, cX1_spreadOut, 6, none, 2, 43)
abbrev mX1_cover : MD := (yX1_cover, cX1_cover, 3, none, 3, 68)
abbrev mX1_uncover : MD := (yX1_uncover, cX1_uncover, 3, none, 2, 47)
abbrev mX1_lost : MD := (yX1_lost, cX1_lost, 3, (some .int), 2, 54)
abbrev mX1_sound : MD := (yX1_sound, cX1_sound, 8, none, 1, 27)
abbrev mX1_passOn : MD := (yX1_passOn, cX1_passOn, 8, (some .boolean), 0, 0)
abbrev mX2_init : MD := (yX2_init, cX2_init, 3, none, 1, 21)
abbrev mX2_loudBy : MD := (yX2_loudBy, cX2_loudBy, 4, (some .int), 3, 76)
abbrev mX2_loudWithin : MD := (yX2_loudWithin, cX2_loudWithin, 7, (some .int), 3, 76)
abbrev mX2_loudOnSheet : MD := (yX2_loudOnSheet, cX2_loudOnSheet, 5, (some .int), 4, 102)
abbrev mX2_loudInRooms : MD := (yX2_loudInRooms, cX2_loudInRooms, 4, (some .int), 4, 102)
abbrev mX2_firstWaked : MD := (yX2_firstWaked, cX2_firstWaked, 4, (some .int), 4, 102)
abbrev mX2_firstLoudHour : MD := (yX2_firstLoudHour, cX2_firstLoudHour, 3, (some .int), 4, 102)
abbrev mX2_wakes : MD := (yX2_wakes, cX2_wakes, 4, (some .boolean), 4, 99)
abbrev mX2_isUnheard : MD := (yX2_isUnheard, cX2_isUnheard, 4, (some .boolean), 4, 99)
abbrev mX3_init : MD := (yX3_init, cX3_init, 1, none, 3, 63)
abbrev mX3_begin : MD := (yX3_begin, cX3_begin, 1, none, 2, 43)
abbrev mX3_copyFrom : MD := (yX3_copyFrom, cX3_copyFrom, 2, none, 3, 67)
abbrev mX3_form : MD := (yX3_form, cX3_form, 3, none, 1, 21)
abbrev mX3_hasCell : MD := (yX3_hasCell, cX3_hasCell, 2, (some .boolean), 0, 0)
abbrev mX3_thickNow : MD := (yX3_thickNow, cX3_thickNow, 3, (some .int), 2, 43)
abbrev mX4_init : MD := (yX4_init, cX4_init, 1, none, 1, 21)
abbrev mX4_begin : MD := (yX4_begin, cX4_begin, 2, none, 0, 0)
abbrev mX4_copyFrom : MD := (yX4_copyFrom, cX4_copyFrom, 3, none, 0, 0)
abbrev mX4_hasSheet : MD := (yX4_hasSheet, cX4_hasSheet, 1, (some .boolean), 0, 0)
abbrev mX4_cellOf : MD := (yX4_cellOf, cX4_cellOf, 2, (some .int), 1, 20)
abbrev mX4_isLaid : MD := (yX4_isLaid, cX4_isLaid, 2, (some .boolean), 2, 41)
abbrev mX4_put : MD := (yX4_put, cX4_put, 3, none, 1, 20)
abbrev mX4_wornOf : MD := (yX4_wornOf, cX4_wornOf, 2, (some .int), 1, 20)
abbrev mX4_wear : MD := (yX4_wear, cX4_wear, 3, none, 1, 20)
abbrev mX4_laidBits : MD := (yX4_laidBits, cX4_laidBits, 3, (some .int), 3, 62)
abbrev mX4_tick : MD := (yX4_tick, cX4_tick, 1, none, 0, 0)
abbrev mX5_init : MD := (yX5_init, cX5_init, 1, none, 2, 42)
abbrev mX5_size : MD := (yX5_size, cX5_size, 1, (some .int), 0, 0)
abbrev mX5_drop : MD := (yX5_drop, cX5_drop, 1, none, 0, 0)
abbrev mX5_remember : MD := (yX5_remember, cX5_remember, 2, none, 3, 65)
abbrev mX5_recall : MD := (yX5_recall, cX5_recall, 2, none, 3, 66)
abbrev mX6_init : MD := (yX6_init, cX6_init, 2, none, 1, 21)
abbrev mX6_size : MD := (yX6_size, cX6_size, 1, (some .int), 0, 0)
abbrev mX6_has : MD := (yX6_has, cX6_has, 2, (some .boolean), 0, 0)
abbrev mX6_isFull : MD := (yX6_isFull, cX6_isFull, 1, (some .boolean), 0, 0)
abbrev mX6_get : MD := (yX6_get, cX6_get, 3, (some .int), 1, 21)
abbrev mX6_append : MD := (yX6_append, cX6_append, 6, none, 1, 20)
abbrev mX6_drop : MD := (yX6_drop, cX6_drop, 1, none, 0, 0)
abbrev mX6_copyFrom : MD := (yX6_copyFrom, cX6_copyFrom, 3, none, 2, 45)
abbrev mX7_init : MD := (yX7_init, cX7_init, 2, none, 1, 21)
abbrev mX7_hasPlace : MD := (yX7_hasPlace, cX7_hasPlace, 2, (some .boolean), 0, 0)
abbrev mX7_put : MD := (yX7_put, cX7_put, 5, none, 2, 41)
abbrev mX7_bring : MD := (yX7_bring, cX7_bring, 5, none, 2, 42)
abbrev mX8_init : MD := (yX8_init, cX8_init, 1, none, 1, 21)
abbrev mX8_size : MD := (yX8_size, cX8_size, 1, (some .int), 0, 0)
abbrev mX8_isFull : MD := (yX8_isFull, cX8_isFull, 1, (some .boolean), 0, 0)
abbrev mX8_append : MD := (yX8_append, cX8_append, 2, none, 1, 20)
abbrev mX8_drop : MD := (yX8_drop, cX8_drop, 1, none, 0, 0)
abbrev mX8_tell : MD := (yX8_tell, cX8_tell, 3, (some .int), 4, 91)
abbrev mX8_mayBegin : MD := (yX8_mayBegin, cX8_mayBegin, 3, (some .boolean), 1, 20)
abbrev mX8_tellItem : MD := (yX8_tellItem, cX8_tellItem, 5, (some .boolean), 3, 67)
abbrev mX8_fieldsOf : MD := (yX8_fieldsOf, cX8_fieldsOf, 1, (some .int), 0, 0)
abbrev mX8_least : MD := (yX8_least, cX8_least, 3, (some .int), 0, 0)
abbrev mX8_greatest : MD := (yX8_greatest, cX8_greatest, 3, (some .int), 0, 0)
abbrev mX8_enter : MD := (yX8_enter, cX8_enter, 3, none, 2, 45)
abbrev mX8_step : MD := (yX8_step, cX8_step, 1, none, 2, 43)
abbrev mX8_stepNumber : MD := (yX8_stepNumber, cX8_stepNumber, 3, none, 1, 21)
abbrev mX8_isDigit : MD := (yX8_isDigit, cX8_isDigit, 1, (some .boolean), 0, 0)
abbrev mX9_init : MD := (yX9_init, cX9_init, 1, none, 4, 87)
abbrev mX9_type : MD := (yX9_type, cX9_type, 2, (some .int), 2, 41)
abbrev mX9_clear : MD := (yX9_clear, cX9_clear, 2, (some .int), 1, 20)
abbrev mX9_house : MD := (yX9_house, cX9_house, 2, (some .int), 5, 113)
abbrev mX9_startAnew : MD := (yX9_startAnew, cX9_startAnew, 2, none, 1, 21)
abbrev mX9_noise : MD := (yX9_noise, cX9_noise, 3, (some .int), 2, 43)
abbrev mX9_sheet : MD := (yX9_sheet, cX9_sheet, 3, (some .int), 3, 65)
abbrev mX9_room : MD := (yX9_room, cX9_room, 3, (some .int), 2, 43)
abbrev mX9_onCell : MD := (yX9_onCell, cX9_onCell, 2, (some .int), 4, 90)
abbrev mX9_loud : MD := (yX9_loud, cX9_loud, 3, (some .int), 4, 102)
abbrev mX9_now : MD := (yX9_now, cX9_now, 2, (some .int), 4, 84)
abbrev mX9_lay : MD := (yX9_lay, cX9_lay, 3, (some .int), 4, 90)
abbrev mX9_lift : MD := (yX9_lift, cX9_lift, 3, (some .int), 4, 86)
abbrev mX9_turn : MD := (yX9_turn, cX9_turn, 2, (some .int), 4, 86)
abbrev mX9_hour : MD := (yX9_hour, cX9_hour, 1, (some .int), 6, 148)
abbrev mX9_undo : MD := (yX9_undo, cX9_undo, 1, (some .int), 4, 87)
abbrev mX9_passHour : MD := (yX9_passHour, cX9_passHour, 3, none, 5, 126)
abbrev mX9_waked : MD := (yX9_waked, cX9_waked, 3, (some .int), 5, 125)
abbrev mX9_through : MD := (yX9_through, cX9_through, 3, (some .int), 7, 171)
abbrev mX9_firstThrough : MD := (yX9_firstThrough, cX9_firstThrough, 4, (some .int), 6, 148)
abbrev mX9_wholeBits : MD := (yX9_wholeBits, cX9_wholeBits, 3, (some .int), 3, 65)
abbrev mX9_toBuy : MD := (yX9_toBuy, cX9_toBuy, 2, (some .int), 7, 177)
abbrev mX9_gain : MD := (yX9_gain, cX9_gain, 3, (some .int), 5, 125)
abbrev mX9_hear : MD := (yX9_hear, cX9_hear, 3, (some .int), 2, 45)
abbrev mX9_forget : MD := (yX9_forget, cX9_forget, 4, (some .int), 1, 22)
abbrev mX9_sources : MD := (yX9_sources, cX9_sources, 3, (some .int), 4, 102)
abbrev mX9_strengths : MD := (yX9_strengths, cX9_strengths, 2, (some .int), 4, 102)
abbrev mX9_strengthsAt : MD := (yX9_strengthsAt, cX9_strengthsAt, 7, (some .int), 3, 76)
abbrev mX9_hired : MD := (yX9_hired, cX9_hired, 5, (some .int), 4, 90)
abbrev mX9_way : MD := (yX9_way, cX9_way, 5, (some .int), 6, 147)
abbrev mX9_walkOn : MD := (yX9_walkOn, cX9_walkOn, 6, none, 5, 122)
abbrev mX9_tap : MD := (yX9_tap, cX9_tap, 5, (some .int), 2, 45)
abbrev mX9_mayBe : MD := (yX9_mayBe, cX9_mayBe, 3, (some .int), 5, 121)
abbrev mX9_tapsAgreeWithSham : MD := (yX9_tapsAgreeWithSham, cX9_tapsAgreeWithSham, 3, (some .boolean), 4, 99)
abbrev mX9_odds : MD := (yX9_odds, cX9_odds, 7, (some .int), 5, 122)
abbrev mX9_commonDivisor : MD := (yX9_commonDivisor, cX9_commonDivisor, 6, (some .int), 0, 0)
abbrev mX9_rate : MD := (yX9_rate, cX9_rate, 3, (some .int), 6, 128)
abbrev mX9_asSheet : MD := (yX9_asSheet, cX9_asSheet, 2, (some .int), 3, 65)
abbrev mX9_asChurch : MD := (yX9_asChurch, cX9_asChurch, 2, (some .int), 4, 86)
abbrev mX9_asSnow : MD := (yX9_asSnow, cX9_asSnow, 2, (some .int), 4, 86)
abbrev mX9_asCrypt : MD := (yX9_asCrypt, cX9_asCrypt, 2, (some .int), 5, 107)
abbrev mX9_asSlush : MD := (yX9_asSlush, cX9_asSlush, 2, (some .int), 5, 107)
abbrev mX9_asBell : MD := (yX9_asBell, cX9_asBell, 2, (some .int), 4, 86)
abbrev mX9_keep : MD := (yX9_keep, cX9_keep, 2, (some .int), 3, 65)
abbrev mX9_back : MD := (yX9_back, cX9_back, 2, (some .int), 3, 66)
abbrev mX9_count : MD := (yX9_count, cX9_count, 2, (some .int), 1, 20)
abbrev mX9_trace : MD := (yX9_trace, cX9_trace, 1, (some .long), 0, 0)
abbrev mX9_isWithin : MD := (yX9_isWithin, cX9_isWithin, 3, (some .boolean), 0, 0)
abbrev mX9_hasBit : MD := (yX9_hasBit, cX9_hasBit, 2, (some .boolean), 0, 0)
abbrev mX10_init : MD := (yX10_init, cX10_init, 1, none, 2, 43)
abbrev mX10_bare : MD := (yX10_bare, cX10_bare, 2, none, 1, 22)
abbrev mX10_in : MD := (yX10_in, cX10_in, 3, (some .boolean), 0, 0)
abbrev mX10_has : MD := (yX10_has, cX10_has, 2, (some .boolean), 0, 0)
abbrev mX10_isCell : MD := (yX10_isCell, cX10_isCell, 2, (some .boolean), 1, 22)
abbrev mX10_isSheet : MD := (yX10_isSheet, cX10_isSheet, 2, (some .boolean), 1, 22)
abbrev mX10_isStrength : MD := (yX10_isStrength, cX10_isStrength, 1, (some .boolean), 1, 22)
abbrev mX10_type : MD := (yX10_type, cX10_type, 2, (some .int), 1, 22)
abbrev mX10_clear : MD := (yX10_clear, cX10_clear, 2, (some .int), 0, 0)
abbrev mX10_letterAt : MD := (yX10_letterAt, cX10_letterAt, 2, (some .int), 0, 0)
abbrev mX10_next : MD := (yX10_next, cX10_next, 2, none, 1, 22)
abbrev mX10_must : MD := (yX10_must, cX10_must, 2, none, 2, 43)
abbrev mX10_readInto : MD := (yX10_readInto, cX10_readInto, 6, (some .int), 3, 64)
abbrev mX10_readYard : MD := (yX10_readYard, cX10_readYard, 2, none, 4, 89)
abbrev mX10_readFall : MD := (yX10_readFall, cX10_readFall, 1, none, 4, 89)
abbrev mX10_cells : MD := (yX10_cells, cX10_cells, 1, (some .int), 0, 0)
abbrev mX10_readNoise : MD := (yX10_readNoise, cX10_readNoise, 3, none, 4, 89)
abbrev mX10_readSheet : MD := (yX10_readSheet, cX10_readSheet, 2, none, 4, 89)
abbrev mX10_readRoom : MD := (yX10_readRoom, cX10_readRoom, 3, none, 4, 89)
abbrev mX10_readItem : MD := (yX10_readItem, cX10_readItem, 3, none, 5, 111)
abbrev mX10_house : MD := (yX10_house, cX10_house, 3, (some .int), 6, 133)
abbrev mX10_thickNow : MD := (yX10_thickNow, cX10_thickNow, 4, (some .int), 0, 0)
abbrev mX10_layCells : MD := (yX10_layCells, cX10_layCells, 3, none, 0, 0)
abbrev mX10_asNow : MD := (yX10_asNow, cX10_asNow, 2, none, 1, 23)
abbrev mX10_mayLie : MD := (yX10_mayLie, cX10_mayLie, 6, (some .boolean), 0, 0)
abbrev mX10_isNext : MD := (yX10_isNext, cX10_isNext, 5, (some .boolean), 0, 0)
abbrev mX10_takes : MD := (yX10_takes, cX10_takes, 4, (some .int), 0, 0)
abbrev mX10_spreads : MD := (yX10_spreads, cX10_spreads, 6, none, 1, 24)
abbrev mX10_left : MD := (yX10_left, cX10_left, 2, (some .int), 0, 0)
abbrev mX10_sounds : MD := (yX10_sounds, cX10_sounds, 3, (some .boolean), 1, 22)
abbrev mX10_loudAt : MD := (yX10_loudAt, cX10_loudAt, 6, (some .int), 2, 49)
abbrev mX10_noise : MD := (yX10_noise, cX10_noise, 3, (some .int), 1, 22)
abbrev mX10_sheet : MD := (yX10_sheet, cX10_sheet, 3, (some .int), 2, 43)
abbrev mX10_room : MD := (yX10_room, cX10_room, 3, (some .int), 1, 22)
abbrev mX10_onCell : MD := (yX10_onCell, cX10_onCell, 2, (some .int), 2, 44)
abbrev mX10_loud : MD := (yX10_loud, cX10_loud, 3, (some .int), 3, 74)
abbrev mX10_laidSet : MD := (yX10_laidSet, cX10_laidSet, 3, (some .int), 0, 0)
abbrev mX10_now : MD := (yX10_now, cX10_now, 2, (some .int), 1, 22)
abbrev mX10_remembers : MD := (yX10_remembers, cX10_remembers, 2, none, 0, 0)
abbrev mX10_laidMany : MD := (yX10_laidMany, cX10_laidMany, 3, (some .int), 0, 0)
abbrev mX10_lay : MD := (yX10_lay, cX10_lay, 3, (some .int), 2, 44)
abbrev mX10_lift : MD := (yX10_lift, cX10_lift, 3, (some .int), 2, 43)
abbrev mX10_turn : MD := (yX10_turn, cX10_turn, 2, (some .int), 2, 43)
abbrev mX10_findMore : MD := (yX10_findMore, cX10_findMore, 5, none, 2, 49)
abbrev mX10_hour : MD := (yX10_hour, cX10_hour, 2, (some .int), 3, 73)
abbrev mX10_undo : MD := (yX10_undo, cX10_undo, 2, (some .int), 0, 0)
abbrev mX10_wakes : MD := (yX10_wakes, cX10_wakes, 7, (some .int), 2, 49)
abbrev mX10_firstWaked : MD := (yX10_firstWaked, cX10_firstWaked, 2, (some .int), 3, 75)
abbrev mX10_waked : MD := (yX10_waked, cX10_waked, 3, (some .int), 4, 96)
abbrev mX10_through : MD := (yX10_through, cX10_through, 6, (some .int), 3, 73)
abbrev mX10_comesFirst : MD := (yX10_comesFirst, cX10_comesFirst, 4, (some .boolean), 0, 0)
abbrev mX10_offers : MD := (yX10_offers, cX10_offers, 4, none, 4, 96)
abbrev mX10_offersMore : MD := (yX10_offersMore, cX10_offersMore, 5, none, 5, 119)
abbrev mX10_offersTwo : MD := (yX10_offersTwo, cX10_offersTwo, 5, none, 5, 119)
abbrev mX10_findBought : MD := (yX10_findBought, cX10_findBought, 3, none, 6, 143)
abbrev mX10_toBuy : MD := (yX10_toBuy, cX10_toBuy, 2, (some .int), 7, 165)
abbrev mX10_loudRooms : MD := (yX10_loudRooms, cX10_loudRooms, 6, (some .int), 2, 49)
abbrev mX10_gain : MD := (yX10_gain, cX10_gain, 3, (some .int), 3, 74)
abbrev mX10_hear : MD := (yX10_hear, cX10_hear, 3, (some .int), 2, 43)
abbrev mX10_forget : MD := (yX10_forget, cX10_forget, 3, (some .int), 1, 22)
abbrev mX10_strengthsAt : MD := (yX10_strengthsAt, cX10_strengthsAt, 6, (some .int), 2, 49)
abbrev mX10_sources : MD := (yX10_sources, cX10_sources, 3, (some .int), 3, 74)
abbrev mX10_strengths : MD := (yX10_strengths, cX10_strengths, 2, (some .int), 3, 74)
abbrev mX10_hired : MD := (yX10_hired, cX10_hired, 4, (some .int), 2, 49)
abbrev mX10_isQuiet : MD := (yX10_isQuiet, cX10_isQuiet, 5, (some .boolean), 2, 49)
abbrev mX10_way : MD := (yX10_way, cX10_way, 11, (some .int), 3, 73)
abbrev mX10_tap : MD := (yX10_tap, cX10_tap, 5, (some .int), 2, 43)
abbrev mX10_mayBe : MD := (yX10_mayBe, cX10_mayBe, 5, (some .int), 2, 49)
abbrev mX10_odds : MD := (yX10_odds, cX10_odds, 9, (some .int), 2, 49)
abbrev mX10_sheetRate : MD := (yX10_sheetRate, cX10_sheetRate, 2, (some .int), 1, 23)
abbrev mX10_churchRate : MD := (yX10_churchRate, cX10_churchRate, 2, (some .int), 2, 44)
abbrev mX10_snowRate : MD := (yX10_snowRate, cX10_snowRate, 2, (some .int), 2, 44)
abbrev mX10_rate : MD := (yX10_rate, cX10_rate, 3, (some .int), 3, 65)
abbrev mX10_keep : MD := (yX10_keep, cX10_keep, 3, (some .int), 1, 22)
abbrev mX10_back : MD := (yX10_back, cX10_back, 3, (some .int), 1, 22)
abbrev mX10_count : MD := (yX10_count, cX10_count, 2, (some .int), 0, 0)
abbrev mX10_trace : MD := (yX10_trace, cX10_trace, 1, (some .long), 0, 0)
abbrev mJ6_bitCount_0f7a4 : MD := (yJ6_bitCount_0f7a4, cJ6_bitCount_0f7a4, 1, (some .int), 0, 0)
abbrev mL_law : MD := (yL_law, cL_law, 4, (some .boolean), 10, 396)
theorem kmX0_cellOf : KM mX0_cellOf 1 := ⟨gd_at 692 (by decide +kernel) rfl, gd_at 11 (by decide +kernel) rfl, ⟨by decide +kernel, by decide +kernel, by decide +kernel⟩⟩
theorem kvX1_weighSteps : Cond.instanceMethod mX1_weighSteps.1 ∈ gdW ∧ Cond.selects mX1_weighSteps.1.cls mX1_weighSteps.1 mX1_weighSteps.1 ∈ gdW := ⟨gd_at 489 (by decide +kernel) rfl, pv_at (q := (yX1_weighSteps, 7)) 9 (by decide +kernel)⟩
theorem kvX1_cover : Cond.instanceMethod mX1_cover.1 ∈ gdW ∧ Cond.selects mX1_cover.1.cls mX1_cover.1 mX1_cover.1 ∈ gdW := ⟨gd_at 674 (by decide +kernel) rfl, gd_at 675 (by decide +kernel) rfl⟩
theorem kmX2_loudWithin : KM mX2_loudWithin 3 := ⟨gd_at 506 (by decide +kernel) rfl, gd_at 10 (by decide +kernel) rfl, ⟨by decide +kernel, by decide +kernel, by decide +kernel⟩⟩
theorem kmX2_isUnheard : KM mX2_isUnheard 2 := ⟨gd_at 739 (by decide +kernel) rfl, gd_at 10 (by decide +kernel) rfl, ⟨by decide +kernel, by decide +kernel, by decide +kernel⟩⟩
theorem kvX3_thickNow : Cond.instanceMethod mX3_thickNow.1 ∈ gdW ∧ Cond.selects mX3_thickNow.1.cls mX3_thickNow.1 mX3_thickNow.1 ∈ gdW := ⟨gd_at 455 (by decide +kernel) rfl, gd_at 456 (by decide +kernel) rfl⟩
theorem kvX4_put : Cond.instanceMethod mX4_put.1 ∈ gdW ∧ Cond.selects mX4_put.1.cls mX4_put.1 mX4_put.1 ∈ gdW := ⟨gd_at 562 (by decide +kernel) rfl, gd_at 563 (by decide +kernel) rfl⟩
theorem kmX5_drop : KM mX5_drop 0 := ⟨gd_at 431 (by decide +kernel) rfl, gd_at 7 (by decide +kernel) rfl, ⟨by decide +kernel, by decide +kernel, by decide +kernel⟩⟩
theorem kvX6_isFull : Cond.instanceMethod mX6_isFull.1 ∈ gdW ∧ Cond.selects mX6_isFull.1.cls mX6_isFull.1 mX6_isFull.1 ∈ gdW := ⟨gd_at 373 (by decide +kernel) rfl, gd_at 374 (by decide +kernel) rfl⟩
theorem kmX7_put : KM mX7_put 2 := ⟨gd_at 553 (by decide +kernel) rfl, gd_at 8 (by decide +kernel) rfl, ⟨by decide +kernel, by decide +kernel, by decide +kernel⟩⟩
theorem kvX8_drop : Cond.instanceMethod mX8_drop.1 ∈ gdW ∧ Cond.selects mX8_drop.1.cls mX8_drop.1 mX8_drop.1 ∈ gdW := ⟨gd_at 344 (by decide +kernel) rfl, gd_at 345 (by decide +kernel) rfl⟩
theorem kvX8_enter : Cond.instanceMethod mX8_enter.1 ∈ gdW ∧ Cond.selects mX8_enter.1.cls mX8_enter.1 mX8_enter.1 ∈ gdW := ⟨gd_at 392 (by decide +kernel) rfl, pv_at (q := (yX8_enter, 7)) 6 (by decide +kernel)⟩
theorem kvX9_house : Cond.instanceMethod mX9_house.1 ∈ gdW ∧ Cond.selects mX9_house.1.cls mX9_house.1 mX9_house.1 ∈ gdW := ⟨gd_at 348 (by decide +kernel) rfl, gd_at 349 (by decide +kernel) rfl⟩
theorem kvX9_loud : Cond.instanceMethod mX9_loud.1 ∈ gdW ∧ Cond.selects mX9_loud.1.cls mX9_loud.1 mX9_loud.1 ∈ gdW := ⟨gd_at 500 (by decide +kernel) rfl, gd_at 501 (by decide +kernel) rfl⟩
theorem kvX9_undo : Cond.instanceMethod mX9_undo.1 ∈ gdW ∧ Cond.selects mX9_undo.1.cls mX9_undo.1 mX9_undo.1 ∈ gdW := ⟨gd_at 607 (by decide +kernel) rfl, gd_at 608 (by decide +kernel) rfl⟩
theorem kvX9_toBuy : Cond.instanceMethod mX9_toBuy.1 ∈ gdW ∧ Cond.selects mX9_toBuy.1.cls mX9_toBuy.1 mX9_toBuy.1 ∈ gdW := ⟨gd_at 652 (by decide +kernel) rfl, gd_at 653 (by decide +kernel) rfl⟩
theorem kvX9_strengthsAt : Cond.instanceMethod mX9_strengthsAt.1 ∈ gdW ∧ Cond.selects mX9_strengthsAt.1.cls mX9_strengthsAt.1 mX9_strengthsAt.1 ∈ gdW := ⟨gd_at 719 (by decide +kernel) rfl, pv_at (q := (yX9_strengthsAt, 15)) 19 (by decide +kernel)⟩
theorem kvX9_tapsAgreeWithSham : Cond.instanceMethod mX9_tapsAgreeWithSham.1 ∈ gdW ∧ Cond.selects mX9_tapsAgreeWithSham.1.cls mX9_tapsAgreeWithSham.1 mX9_tapsAgreeWithSham.1 ∈ gdW := ⟨gd_at 762 (by decide +kernel) rfl, pv_at (q := (yX9_tapsAgreeWithSham, 15)) 21 (by decide +kernel)⟩
theorem kmX9_asCrypt : KM mX9_asCrypt 1 := ⟨gd_at 797 (by decide +kernel) rfl, gd_at 1 (by decide +kernel) rfl, ⟨by decide +kernel, by decide +kernel, by decide +kernel⟩⟩
theorem kmX9_trace : KM mX9_trace 0 := ⟨gd_at 826 (by decide +kernel) rfl, gd_at 1 (by decide +kernel) rfl, ⟨by decide +kernel, by decide +kernel, by decide +kernel⟩⟩
theorem kvX10_isSheet : Cond.instanceMethod mX10_isSheet.1 ∈ gdW ∧ Cond.selects mX10_isSheet.1.cls mX10_isSheet.1 mX10_isSheet.1 ∈ gdW := ⟨gd_at 1036 (by decide +kernel) rfl, pv_at (q := (yX10_isSheet, 43)) 40 (by decide +kernel)⟩
theorem kmX10_readInto : KM mX10_readInto 4 := ⟨gd_at 1005 (by decide +kernel) rfl, gd_at 12 (by decide +kernel) rfl, ⟨by decide +kernel, by decide +kernel, by decide +kernel⟩⟩
theorem kmX10_readRoom : KM mX10_readRoom 0 := ⟨gd_at 1025 (by decide +kernel) rfl, gd_at 12 (by decide +kernel) rfl, ⟨by decide +kernel, by decide +kernel, by decide +kernel⟩⟩
theorem kmX10_mayLie : KM mX10_mayLie 2 := ⟨gd_at 1104 (by decide +kernel) rfl, gd_at 12 (by decide +kernel) rfl, ⟨by decide +kernel, by decide +kernel, by decide +kernel⟩⟩
theorem kvX10_loudAt : Cond.instanceMethod mX10_loudAt.1 ∈ gdW ∧ Cond.selects mX10_loudAt.1.cls mX10_loudAt.1 mX10_loudAt.1 ∈ gdW := ⟨gd_at 1068 (by decide +kernel) rfl, pv_at (q := (yX10_loudAt, 43)) 45 (by decide +kernel)⟩
theorem kvX10_laidSet : Cond.instanceMethod mX10_laidSet.1 ∈ gdW ∧ Cond.selects mX10_laidSet.1.cls mX10_laidSet.1 mX10_laidSet.1 ∈ gdW := ⟨gd_at 1095 (by decide +kernel) rfl, pv_at (q := (yX10_laidSet, 43)) 50 (by decide +kernel)⟩
theorem kvX10_turn : Cond.instanceMethod mX10_turn.1 ∈ gdW ∧ Cond.selects mX10_turn.1.cls mX10_turn.1 mX10_turn.1 ∈ gdW := ⟨gd_at 1118 (by decide +kernel) rfl, gd_at 1119 (by decide +kernel) rfl⟩
theorem kvX10_waked : Cond.instanceMethod mX10_waked.1 ∈ gdW ∧ Cond.selects mX10_waked.1.cls mX10_waked.1 mX10_waked.1 ∈ gdW := ⟨gd_at 1134 (by decide +kernel) rfl, gd_at 1135 (by decide +kernel) rfl⟩
theorem kvX10_findBought : Cond.instanceMethod mX10_findBought.1 ∈ gdW ∧ Cond.selects mX10_findBought.1.cls mX10_findBought.1 mX10_findBought.1 ∈ gdW := ⟨gd_at 1158 (by decide +kernel) rfl, pv_at (q := (yX10_findBought, 43)) 57 (by decide +kernel)⟩
theorem kvX10_strengthsAt : Cond.instanceMethod mX10_strengthsAt.1 ∈ gdW ∧ Cond.selects mX10_strengthsAt.1.cls mX10_strengthsAt.1 mX10_strengthsAt.1 ∈ gdW := ⟨gd_at 1199 (by decide +kernel) rfl, pv_at (q := (yX10_strengthsAt, 43)) 63 (by decide +kernel)⟩
theorem kvX10_tap : Cond.instanceMethod mX10_tap.1 ∈ gdW ∧ Cond.selects mX10_tap.1.cls mX10_tap.1 mX10_tap.1 ∈ gdW := ⟨gd_at 1221 (by decide +kernel) rfl, gd_at 1222 (by decide +kernel) rfl⟩
theorem kvX10_rate : Cond.instanceMethod mX10_rate.1 ∈ gdW ∧ Cond.selects mX10_rate.1.cls mX10_rate.1 mX10_rate.1 ∈ gdW := ⟨gd_at 1233 (by decide +kernel) rfl, gd_at 1234 (by decide +kernel) rfl⟩
theorem lf_RX8_18 : LF RX8 18 8 2 := ⟨by decide, by decide, Or.inl (gd_at 30 (by decide +kernel) rfl)⟩
theorem lf_RX3_47 : LF RX3 47 3 4 := ⟨by decide, by decide, Or.inl (gd_at 107 (by decide +kernel) rfl)⟩
theorem lf_RX5_18 : LF RX5 18 5 2 := ⟨by decide, by decide, Or.inl (gd_at 187 (by decide +kernel) rfl)⟩
theorem lf_RX0_24 : LF RX0 24 0 2 := ⟨by decide, by decide, Or.inl (gd_at 262 (by decide +kernel) rfl)⟩
theorem lf_RX9_71 : LF RX9 71 9 10 := ⟨by decide, by decide, Or.inl (gd_at 283 (by decide +kernel) rfl)⟩
theorem lf_RX10_168 : LF RX10 168 10 7 := ⟨by decide, by decide, Or.inl (gd_at 847 (by decide +kernel) rfl)⟩
theorem lf_RX10_48 : LF RX10 48 10 19 := ⟨by decide, by decide, Or.inl (gd_at 859 (by decide +kernel) rfl)⟩
theorem lf_RX10_57 : LF RX10 57 10 31 := ⟨by decide, by decide, Or.inl (gd_at 871 (by decide +kernel) rfl)⟩
theorem lf_RX2_30 : LF RX2 30 3 0 := ⟨by decide, by decide, Or.inr ⟨"QuietByYard", tb_at 92 (by decide +kernel)⟩⟩
theorem lf_RX1_94 : LF RX1 94 3 4 := ⟨by decide, by decide, Or.inr ⟨"QuietByYard", tb_at 108 (by decide +kernel)⟩⟩
theorem lf_RX7_34 : LF RX7 34 4 3 := ⟨by decide, by decide, Or.inr ⟨"QuietByYard", tb_at 154 (by decide +kernel)⟩⟩
theorem lm_RX3_54 : Cond.methodLink RX3 54 Lib.Math.min.name ∈ gdW := gd_at 84 (by decide +kernel) rfl
theorem lm_RX1_3 : Cond.methodLink RX1 3 Lib.objectInit ∈ gdW := gd_at 204 (by decide +kernel) rfl
theorem lm_RX8_22 : Cond.methodLink RX8 22 yX8_isFull ∈ gdW := gd_at 334 (by decide +kernel) rfl
theorem lm_RX8_59 : Cond.methodLink RX8 59 yX6_isFull ∈ gdW := gd_at 372 (by decide +kernel) rfl
theorem lm_RX6_37 : Cond.methodLink RX6 37 yX6_size ∈ gdW := gd_at 409 (by decide +kernel) rfl
theorem lm_RL_32 : Cond.methodLink RL 32 yX9_sheet ∈ gdW := gd_at 439 (by decide +kernel) rfl
theorem lm_RX1_56 : Cond.methodLink RX1 56 yX6_size ∈ gdW := gd_at 474 (by decide +kernel) rfl
theorem lm_RX2_36 : Cond.methodLink RX2 36 yX6_size ∈ gdW := gd_at 507 (by decide +kernel) rfl
theorem lm_RX9_189 : Cond.methodLink RX9 189 yX1_canLie ∈ gdW := gd_at 541 (by decide +kernel) rfl
theorem lm_RX9_205 : Cond.methodLink RX9 205 yX4_wear ∈ gdW := gd_at 579 (by decide +kernel) rfl
theorem lm_RX7_44 : Cond.methodLink RX7 44 yX4_put ∈ gdW := gd_at 618 (by decide +kernel) rfl
theorem lm_RX0_34 : Cond.methodLink RX0 34 yX6_size ∈ gdW := gd_at 659 (by decide +kernel) rfl
theorem lm_RX9_250 : Cond.methodLink RX9 250 yX0_cellOf ∈ gdW := gd_at 689 (by decide +kernel) rfl
theorem lm_RX9_276 : Cond.methodLink RX9 276 Lib.Math.max.name ∈ gdW := gd_at 723 (by decide +kernel) rfl
theorem lm_RL_122 : Cond.methodLink RL 122 yX9_odds ∈ gdW := gd_at 765 (by decide +kernel) rfl
theorem lm_RL_134 : Cond.methodLink RL 134 yX9_back ∈ gdW := gd_at 814 (by decide +kernel) rfl
theorem lm_RX10_103 : Cond.methodLink RX10 103 yX10_letterAt ∈ gdW := gd_at 986 (by decide +kernel) rfl
theorem lm_RX10_204 : Cond.methodLink RX10 204 yX10_isSheet ∈ gdW := gd_at 1034 (by decide +kernel) rfl
theorem lm_RX10_191 : Cond.methodLink RX10 191 yX10_takes ∈ gdW := gd_at 1082 (by decide +kernel) rfl
theorem lm_RL_71 : Cond.methodLink RL 71 yX10_undo ∈ gdW := gd_at 1129 (by decide +kernel) rfl
theorem lm_RL_87 : Cond.methodLink RL 87 yX10_gain ∈ gdW := gd_at 1176 (by decide +kernel) rfl
theorem lm_RL_121 : Cond.methodLink RL 121 yX10_mayBe ∈ gdW := gd_at 1224 (by decide +kernel) rfl
theorem lk_RX9_330 : Cond.constantLong RX9 330 (Int64.ofInt (100000)) ∈ gdW := gd_at 808 (by decide +kernel) rfl
theorem lk_RX10_262 : Cond.constant RX10 262 (Int32.ofInt (-1000000)) ∈ gdW := gd_at 1180 (by decide +kernel) rfl
theorem lk_RX10_279 : Cond.constantLong RX10 279 (Int64.ofInt (10)) ∈ gdW := gd_at 1244 (by decide +kernel) rfl
theorem lk_RX10_284 : Cond.constantLong RX10 284 (Int64.ofInt (100)) ∈ gdW := gd_at 1249 (by decide +kernel) rfl
theorem lk_RX10_292 : Cond.constantLong RX10 292 (Int64.ofInt (1000)) ∈ gdW := gd_at 1250 (by decide +kernel) rfl
theorem lk_RX10_294 : Cond.constantLong RX10 294 (Int64.ofInt (10000)) ∈ gdW := gd_at 1251 (by decide +kernel) rfl
theorem lk_RX10_296 : Cond.constantLong RX10 296 (Int64.ofInt (100000)) ∈ gdW := gd_at 1252 (by decide +kernel) rfl
theorem k_max : Cond.static Lib.Math.max.name ∈ gdW ∧ Cond.initialized "java/lang/Math" ∈ gdW ∧ Cond.code Lib.Math.max.name Lib.Math.max.code 2 (some .int) ∈ gdW := ⟨gd_at 64 (by decide +kernel) rfl, gd_at 5 (by decide +kernel) rfl, gd_at 65 (by decide +kernel) rfl⟩
theorem k_min : Cond.static Lib.Math.min.name ∈ gdW ∧ Cond.initialized "java/lang/Math" ∈ gdW ∧ Cond.code Lib.Math.min.name Lib.Math.min.code 2 (some .int) ∈ gdW := ⟨gd_at 85 (by decide +kernel) rfl, gd_at 5 (by decide +kernel) rfl, gd_at 86 (by decide +kernel) rfl⟩
theorem k_oin : Cond.instanceMethod Lib.objectInit ∈ gdW ∧ Cond.code Lib.objectInit ⟨#[0xb1]⟩ 1 none ∈ gdW := ⟨gd_at 20 (by decide +kernel) rfl, gd_at 21 (by decide +kernel) rfl⟩
theorem k_ai : Cond.arrayClass .int ∈ gdW := gd_at 50 (by decide +kernel) rfl
theorem k_az : Cond.arrayClass .boolean ∈ gdW := gd_at 239 (by decide +kernel) rfl
end
