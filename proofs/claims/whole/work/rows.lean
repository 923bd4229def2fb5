section
-- ===== PART A: goes FIRST, ahead of the names: the tables' words, and 'selects' of the private methods out of them =====
/-- a private method of a class that the tables say can be made, by its rows of tables_1 -/
def lw_okq (q : MethodName × Nat) : Prop := (q.1.cls ≠ "java/lang/invoke/MethodHandle" ∧ q.1.cls ≠ "java/lang/invoke/VarHandle") ∧ Cond.instantiable q.1.cls q.2 ∈ tables_1 ∧ Cond.privateMethod q.1 ∈ tables_1 ∧ Cond.instanceMethod q.1 ∈ tables_1
theorem lw_p0 : lw_okq (⟨"HeldPart", "contactAt", "(I)LHeldPart$Pin;"⟩, 11) := ⟨⟨by decide +kernel, by decide +kernel⟩, List.mem_of_getElem? (i := 21) (by decide +kernel), List.mem_of_getElem? (i := 384) (by decide +kernel), List.mem_of_getElem? (i := 385) (by decide +kernel)⟩
theorem lw_p1 : lw_okq (⟨"HeldPart", "takePlacing", "()V"⟩, 11) := ⟨⟨by decide +kernel, by decide +kernel⟩, List.mem_of_getElem? (i := 21) (by decide +kernel), List.mem_of_getElem? (i := 446) (by decide +kernel), List.mem_of_getElem? (i := 447) (by decide +kernel)⟩
theorem lw_p2 : lw_okq (⟨"HeldPart", "placerAt", "(I)LHeldPart$Pin;"⟩, 11) := ⟨⟨by decide +kernel, by decide +kernel⟩, List.mem_of_getElem? (i := 21) (by decide +kernel), List.mem_of_getElem? (i := 454) (by decide +kernel), List.mem_of_getElem? (i := 455) (by decide +kernel)⟩
theorem lw_p3 : lw_okq (⟨"HeldPart$Cone", "takeCross", "(JJJI)V"⟩, 11) := ⟨⟨by decide +kernel, by decide +kernel⟩, List.mem_of_getElem? (i := 31) (by decide +kernel), List.mem_of_getElem? (i := 505) (by decide +kernel), List.mem_of_getElem? (i := 506) (by decide +kernel)⟩
theorem lw_p4 : lw_okq (⟨"HeldPart$Cone", "alongNormal", "(I)J"⟩, 11) := ⟨⟨by decide +kernel, by decide +kernel⟩, List.mem_of_getElem? (i := 31) (by decide +kernel), List.mem_of_getElem? (i := 509) (by decide +kernel), List.mem_of_getElem? (i := 510) (by decide +kernel)⟩
theorem lw_p5 : lw_okq (⟨"HeldPart", "isFormHeld", "(I)Z"⟩, 11) := ⟨⟨by decide +kernel, by decide +kernel⟩, List.mem_of_getElem? (i := 21) (by decide +kernel), List.mem_of_getElem? (i := 517) (by decide +kernel), List.mem_of_getElem? (i := 518) (by decide +kernel)⟩
theorem lw_p6 : lw_okq (⟨"HeldPart$Cone", "boundBoth", "(JJJ)V"⟩, 11) := ⟨⟨by decide +kernel, by decide +kernel⟩, List.mem_of_getElem? (i := 31) (by decide +kernel), List.mem_of_getElem? (i := 526) (by decide +kernel), List.mem_of_getElem? (i := 527) (by decide +kernel)⟩
theorem lw_p7 : lw_okq (⟨"HeldPart$Cone", "boundOnce", "(JJJ)V"⟩, 11) := ⟨⟨by decide +kernel, by decide +kernel⟩, List.mem_of_getElem? (i := 31) (by decide +kernel), List.mem_of_getElem? (i := 530) (by decide +kernel), List.mem_of_getElem? (i := 531) (by decide +kernel)⟩
theorem lw_p8 : lw_okq (⟨"HeldPart$Cone", "boundLine", "()V"⟩, 11) := ⟨⟨by decide +kernel, by decide +kernel⟩, List.mem_of_getElem? (i := 31) (by decide +kernel), List.mem_of_getElem? (i := 534) (by decide +kernel), List.mem_of_getElem? (i := 535) (by decide +kernel)⟩
theorem lw_p9 : lw_okq (⟨"HeldPart$Cone", "boundIfOneSided", "()V"⟩, 11) := ⟨⟨by decide +kernel, by decide +kernel⟩, List.mem_of_getElem? (i := 31) (by decide +kernel), List.mem_of_getElem? (i := 538) (by decide +kernel), List.mem_of_getElem? (i := 539) (by decide +kernel)⟩
theorem lw_p10 : lw_okq (⟨"HeldPart$Cone", "boundPlane", "()V"⟩, 11) := ⟨⟨by decide +kernel, by decide +kernel⟩, List.mem_of_getElem? (i := 31) (by decide +kernel), List.mem_of_getElem? (i := 542) (by decide +kernel), List.mem_of_getElem? (i := 543) (by decide +kernel)⟩
theorem lw_p11 : lw_okq (⟨"HeldPart$Cone", "boundSpace", "()V"⟩, 11) := ⟨⟨by decide +kernel, by decide +kernel⟩, List.mem_of_getElem? (i := 31) (by decide +kernel), List.mem_of_getElem? (i := 546) (by decide +kernel), List.mem_of_getElem? (i := 547) (by decide +kernel)⟩
theorem lw_p12 : lw_okq (⟨"HeldPart$Cone", "isBoundBy", "(II)Z"⟩, 11) := ⟨⟨by decide +kernel, by decide +kernel⟩, List.mem_of_getElem? (i := 31) (by decide +kernel), List.mem_of_getElem? (i := 550) (by decide +kernel), List.mem_of_getElem? (i := 551) (by decide +kernel)⟩
theorem lw_p13 : lw_okq (⟨"HeldPart", "refreshPushes", "()V"⟩, 11) := ⟨⟨by decide +kernel, by decide +kernel⟩, List.mem_of_getElem? (i := 21) (by decide +kernel), List.mem_of_getElem? (i := 572) (by decide +kernel), List.mem_of_getElem? (i := 573) (by decide +kernel)⟩
theorem lw_p14 : lw_okq (⟨"HeldPart", "addPushes", "(LHeldPart$Pin;)V"⟩, 11) := ⟨⟨by decide +kernel, by decide +kernel⟩, List.mem_of_getElem? (i := 21) (by decide +kernel), List.mem_of_getElem? (i := 576) (by decide +kernel), List.mem_of_getElem? (i := 577) (by decide +kernel)⟩
theorem lw_p15 : lw_okq (⟨"HeldPart", "isHeld", "(JJJJ)Z"⟩, 11) := ⟨⟨by decide +kernel, by decide +kernel⟩, List.mem_of_getElem? (i := 21) (by decide +kernel), List.mem_of_getElem? (i := 583) (by decide +kernel), List.mem_of_getElem? (i := 584) (by decide +kernel)⟩
def lw_privs_1 : List (MethodName × Nat) := [(⟨"HeldPart", "contactAt", "(I)LHeldPart$Pin;"⟩, 11), (⟨"HeldPart", "takePlacing", "()V"⟩, 11), (⟨"HeldPart", "placerAt", "(I)LHeldPart$Pin;"⟩, 11), (⟨"HeldPart$Cone", "takeCross", "(JJJI)V"⟩, 11), (⟨"HeldPart$Cone", "alongNormal", "(I)J"⟩, 11), (⟨"HeldPart", "isFormHeld", "(I)Z"⟩, 11), (⟨"HeldPart$Cone", "boundBoth", "(JJJ)V"⟩, 11), (⟨"HeldPart$Cone", "boundOnce", "(JJJ)V"⟩, 11), (⟨"HeldPart$Cone", "boundLine", "()V"⟩, 11), (⟨"HeldPart$Cone", "boundIfOneSided", "()V"⟩, 11), (⟨"HeldPart$Cone", "boundPlane", "()V"⟩, 11), (⟨"HeldPart$Cone", "boundSpace", "()V"⟩, 11), (⟨"HeldPart$Cone", "isBoundBy", "(II)Z"⟩, 11), (⟨"HeldPart", "refreshPushes", "()V"⟩, 11), (⟨"HeldPart", "addPushes", "(LHeldPart$Pin;)V"⟩, 11), (⟨"HeldPart", "isHeld", "(JJJJ)Z"⟩, 11)]
theorem lw_r1 : ∀ q ∈ lw_privs_1, lw_okq q := List.forall_mem_cons.mpr ⟨lw_p0, List.forall_mem_cons.mpr ⟨lw_p1, List.forall_mem_cons.mpr ⟨lw_p2, List.forall_mem_cons.mpr ⟨lw_p3, List.forall_mem_cons.mpr ⟨lw_p4, List.forall_mem_cons.mpr ⟨lw_p5, List.forall_mem_cons.mpr ⟨lw_p6, List.forall_mem_cons.mpr ⟨lw_p7, List.forall_mem_cons.mpr ⟨lw_p8, List.forall_mem_cons.mpr ⟨lw_p9, List.forall_mem_cons.mpr ⟨lw_p10, List.forall_mem_cons.mpr ⟨lw_p11, List.forall_mem_cons.mpr ⟨lw_p12, List.forall_mem_cons.mpr ⟨lw_p13, List.forall_mem_cons.mpr ⟨lw_p14, List.forall_mem_cons.mpr ⟨lw_p15, fun _ h => absurd h List.not_mem_nil⟩⟩⟩⟩⟩⟩⟩⟩⟩⟩⟩⟩⟩⟩⟩⟩
theorem lw_p16 : lw_okq (⟨"HeldPart$Cut", "narrow", "(JJ)V"⟩, 6) := ⟨⟨by decide +kernel, by decide +kernel⟩, List.mem_of_getElem? (i := 77) (by decide +kernel), List.mem_of_getElem? (i := 617) (by decide +kernel), List.mem_of_getElem? (i := 618) (by decide +kernel)⟩
theorem lw_p17 : lw_okq (⟨"HeldPart", "tryThree", "(III)V"⟩, 11) := ⟨⟨by decide +kernel, by decide +kernel⟩, List.mem_of_getElem? (i := 21) (by decide +kernel), List.mem_of_getElem? (i := 646) (by decide +kernel), List.mem_of_getElem? (i := 647) (by decide +kernel)⟩
theorem lw_p18 : lw_okq (⟨"HeldPart$Plan", "markReached", "(I)V"⟩, 8) := ⟨⟨by decide +kernel, by decide +kernel⟩, List.mem_of_getElem? (i := 144) (by decide +kernel), List.mem_of_getElem? (i := 686) (by decide +kernel), List.mem_of_getElem? (i := 687) (by decide +kernel)⟩
theorem lw_p19 : lw_okq (⟨"HeldPart$Plan", "after", "(II)I"⟩, 8) := ⟨⟨by decide +kernel, by decide +kernel⟩, List.mem_of_getElem? (i := 144) (by decide +kernel), List.mem_of_getElem? (i := 690) (by decide +kernel), List.mem_of_getElem? (i := 691) (by decide +kernel)⟩
theorem lw_p20 : lw_okq (⟨"HeldPart$Plan", "countToGo", "(I)V"⟩, 8) := ⟨⟨by decide +kernel, by decide +kernel⟩, List.mem_of_getElem? (i := 144) (by decide +kernel), List.mem_of_getElem? (i := 694) (by decide +kernel), List.mem_of_getElem? (i := 695) (by decide +kernel)⟩
theorem lw_p21 : lw_okq (⟨"HeldPart$Plan", "leastBehind", "(I)I"⟩, 8) := ⟨⟨by decide +kernel, by decide +kernel⟩, List.mem_of_getElem? (i := 144) (by decide +kernel), List.mem_of_getElem? (i := 701) (by decide +kernel), List.mem_of_getElem? (i := 702) (by decide +kernel)⟩
theorem lw_p22 : lw_okq (⟨"HeldPart$Plan", "writeRow", "(I)V"⟩, 8) := ⟨⟨by decide +kernel, by decide +kernel⟩, List.mem_of_getElem? (i := 144) (by decide +kernel), List.mem_of_getElem? (i := 705) (by decide +kernel), List.mem_of_getElem? (i := 706) (by decide +kernel)⟩
theorem lw_p23 : lw_okq (⟨"HeldPart$Plan", "firstSideOnward", "(I)I"⟩, 8) := ⟨⟨by decide +kernel, by decide +kernel⟩, List.mem_of_getElem? (i := 144) (by decide +kernel), List.mem_of_getElem? (i := 709) (by decide +kernel), List.mem_of_getElem? (i := 710) (by decide +kernel)⟩
theorem lw_p24 : lw_okq (⟨"HeldPart$Path", "isNear", "(IILHeldPart$Pin;)Z"⟩, 4) := ⟨⟨by decide +kernel, by decide +kernel⟩, List.mem_of_getElem? (i := 180) (by decide +kernel), List.mem_of_getElem? (i := 745) (by decide +kernel), List.mem_of_getElem? (i := 746) (by decide +kernel)⟩
theorem lw_p25 : lw_okq (⟨"HeldPart", "shelfAt", "(I)LHeldPart$Shelf;"⟩, 11) := ⟨⟨by decide +kernel, by decide +kernel⟩, List.mem_of_getElem? (i := 21) (by decide +kernel), List.mem_of_getElem? (i := 761) (by decide +kernel), List.mem_of_getElem? (i := 762) (by decide +kernel)⟩
theorem lw_p26 : lw_okq (⟨"HeldPart", "wrenchRow", "()[I"⟩, 11) := ⟨⟨by decide +kernel, by decide +kernel⟩, List.mem_of_getElem? (i := 21) (by decide +kernel), List.mem_of_getElem? (i := 777) (by decide +kernel), List.mem_of_getElem? (i := 778) (by decide +kernel)⟩
theorem lw_p27 : lw_okq (⟨"java/lang/Throwable", "fillInStackTrace", "(I)Ljava/lang/Throwable;"⟩, 6) := ⟨⟨by decide +kernel, by decide +kernel⟩, List.mem_of_getElem? (i := 891) (by decide +kernel), List.mem_of_getElem? (i := 889) (by decide +kernel), List.mem_of_getElem? (i := 890) (by decide +kernel)⟩
theorem lw_p28 : lw_okq (⟨"HeldPartModel", "isPlace", "(II)Z"⟩, 39) := ⟨⟨by decide +kernel, by decide +kernel⟩, List.mem_of_getElem? (i := 990) (by decide +kernel), List.mem_of_getElem? (i := 1122) (by decide +kernel), List.mem_of_getElem? (i := 1123) (by decide +kernel)⟩
theorem lw_p29 : lw_okq (⟨"HeldPartModel", "in", "(III)Z"⟩, 39) := ⟨⟨by decide +kernel, by decide +kernel⟩, List.mem_of_getElem? (i := 990) (by decide +kernel), List.mem_of_getElem? (i := 1126) (by decide +kernel), List.mem_of_getElem? (i := 1127) (by decide +kernel)⟩
theorem lw_p30 : lw_okq (⟨"HeldPartModel", "hasGrip", "(I)Z"⟩, 39) := ⟨⟨by decide +kernel, by decide +kernel⟩, List.mem_of_getElem? (i := 990) (by decide +kernel), List.mem_of_getElem? (i := 1130) (by decide +kernel), List.mem_of_getElem? (i := 1131) (by decide +kernel)⟩
theorem lw_p31 : lw_okq (⟨"HeldPartModel", "isContact", "(I)Z"⟩, 39) := ⟨⟨by decide +kernel, by decide +kernel⟩, List.mem_of_getElem? (i := 990) (by decide +kernel), List.mem_of_getElem? (i := 1142) (by decide +kernel), List.mem_of_getElem? (i := 1143) (by decide +kernel)⟩
def lw_privs_2 : List (MethodName × Nat) := [(⟨"HeldPart$Cut", "narrow", "(JJ)V"⟩, 6), (⟨"HeldPart", "tryThree", "(III)V"⟩, 11), (⟨"HeldPart$Plan", "markReached", "(I)V"⟩, 8), (⟨"HeldPart$Plan", "after", "(II)I"⟩, 8), (⟨"HeldPart$Plan", "countToGo", "(I)V"⟩, 8), (⟨"HeldPart$Plan", "leastBehind", "(I)I"⟩, 8), (⟨"HeldPart$Plan", "writeRow", "(I)V"⟩, 8), (⟨"HeldPart$Plan", "firstSideOnward", "(I)I"⟩, 8), (⟨"HeldPart$Path", "isNear", "(IILHeldPart$Pin;)Z"⟩, 4), (⟨"HeldPart", "shelfAt", "(I)LHeldPart$Shelf;"⟩, 11), (⟨"HeldPart", "wrenchRow", "()[I"⟩, 11), (⟨"java/lang/Throwable", "fillInStackTrace", "(I)Ljava/lang/Throwable;"⟩, 6), (⟨"HeldPartModel", "isPlace", "(II)Z"⟩, 39), (⟨"HeldPartModel", "in", "(III)Z"⟩, 39), (⟨"HeldPartModel", "hasGrip", "(I)Z"⟩, 39), (⟨"HeldPartModel", "isContact", "(I)Z"⟩, 39)]
theorem lw_r2 : ∀ q ∈ lw_privs_2, lw_okq q := List.forall_mem_cons.mpr ⟨lw_p16, List.forall_mem_cons.mpr ⟨lw_p17, List.forall_mem_cons.mpr ⟨lw_p18, List.forall_mem_cons.mpr ⟨lw_p19, List.forall_mem_cons.mpr ⟨lw_p20, List.forall_mem_cons.mpr ⟨lw_p21, List.forall_mem_cons.mpr ⟨lw_p22, List.forall_mem_cons.mpr ⟨lw_p23, List.forall_mem_cons.mpr ⟨lw_p24, List.forall_mem_cons.mpr ⟨lw_p25, List.forall_mem_cons.mpr ⟨lw_p26, List.forall_mem_cons.mpr ⟨lw_p27, List.forall_mem_cons.mpr ⟨lw_p28, List.forall_mem_cons.mpr ⟨lw_p29, List.forall_mem_cons.mpr ⟨lw_p30, List.forall_mem_cons.mpr ⟨lw_p31, fun _ h => absurd h List.not_mem_nil⟩⟩⟩⟩⟩⟩⟩⟩⟩⟩⟩⟩⟩⟩⟩⟩
theorem lw_p32 : lw_okq (⟨"HeldPartModel", "pushesOf", "(I)I"⟩, 39) := ⟨⟨by decide +kernel, by decide +kernel⟩, List.mem_of_getElem? (i := 990) (by decide +kernel), List.mem_of_getElem? (i := 1154) (by decide +kernel), List.mem_of_getElem? (i := 1155) (by decide +kernel)⟩
theorem lw_p33 : lw_okq (⟨"HeldPartModel", "direct", "(II)J"⟩, 39) := ⟨⟨by decide +kernel, by decide +kernel⟩, List.mem_of_getElem? (i := 990) (by decide +kernel), List.mem_of_getElem? (i := 1162) (by decide +kernel), List.mem_of_getElem? (i := 1163) (by decide +kernel)⟩
theorem lw_p34 : lw_okq (⟨"HeldPartModel", "along", "(I)I"⟩, 39) := ⟨⟨by decide +kernel, by decide +kernel⟩, List.mem_of_getElem? (i := 990) (by decide +kernel), List.mem_of_getElem? (i := 1166) (by decide +kernel), List.mem_of_getElem? (i := 1167) (by decide +kernel)⟩
theorem lw_p35 : lw_okq (⟨"HeldPartModel", "up", "(I)I"⟩, 39) := ⟨⟨by decide +kernel, by decide +kernel⟩, List.mem_of_getElem? (i := 990) (by decide +kernel), List.mem_of_getElem? (i := 1170) (by decide +kernel), List.mem_of_getElem? (i := 1171) (by decide +kernel)⟩
theorem lw_p36 : lw_okq (⟨"HeldPartModel", "part", "(JJIII)J"⟩, 39) := ⟨⟨by decide +kernel, by decide +kernel⟩, List.mem_of_getElem? (i := 990) (by decide +kernel), List.mem_of_getElem? (i := 1174) (by decide +kernel), List.mem_of_getElem? (i := 1175) (by decide +kernel)⟩
theorem lw_p37 : lw_okq (⟨"HeldPartModel", "pushed", "(III)J"⟩, 39) := ⟨⟨by decide +kernel, by decide +kernel⟩, List.mem_of_getElem? (i := 990) (by decide +kernel), List.mem_of_getElem? (i := 1178) (by decide +kernel), List.mem_of_getElem? (i := 1179) (by decide +kernel)⟩
theorem lw_p38 : lw_okq (⟨"HeldPartModel", "addDirections", "(IZ)V"⟩, 39) := ⟨⟨by decide +kernel, by decide +kernel⟩, List.mem_of_getElem? (i := 990) (by decide +kernel), List.mem_of_getElem? (i := 1187) (by decide +kernel), List.mem_of_getElem? (i := 1188) (by decide +kernel)⟩
theorem lw_p39 : lw_okq (⟨"HeldPartModel", "add", "(JJJ)V"⟩, 39) := ⟨⟨by decide +kernel, by decide +kernel⟩, List.mem_of_getElem? (i := 990) (by decide +kernel), List.mem_of_getElem? (i := 1191) (by decide +kernel), List.mem_of_getElem? (i := 1192) (by decide +kernel)⟩
theorem lw_p40 : lw_okq (⟨"HeldPartModel", "rankOf", "()I"⟩, 39) := ⟨⟨by decide +kernel, by decide +kernel⟩, List.mem_of_getElem? (i := 990) (by decide +kernel), List.mem_of_getElem? (i := 1195) (by decide +kernel), List.mem_of_getElem? (i := 1196) (by decide +kernel)⟩
theorem lw_p41 : lw_okq (⟨"HeldPartModel", "isNought", "(I)Z"⟩, 39) := ⟨⟨by decide +kernel, by decide +kernel⟩, List.mem_of_getElem? (i := 990) (by decide +kernel), List.mem_of_getElem? (i := 1199) (by decide +kernel), List.mem_of_getElem? (i := 1200) (by decide +kernel)⟩
theorem lw_p42 : lw_okq (⟨"HeldPartModel", "across", "(II)Z"⟩, 39) := ⟨⟨by decide +kernel, by decide +kernel⟩, List.mem_of_getElem? (i := 990) (by decide +kernel), List.mem_of_getElem? (i := 1203) (by decide +kernel), List.mem_of_getElem? (i := 1204) (by decide +kernel)⟩
theorem lw_p43 : lw_okq (⟨"HeldPartModel", "against", "(I)J"⟩, 39) := ⟨⟨by decide +kernel, by decide +kernel⟩, List.mem_of_getElem? (i := 990) (by decide +kernel), List.mem_of_getElem? (i := 1207) (by decide +kernel), List.mem_of_getElem? (i := 1208) (by decide +kernel)⟩
theorem lw_p44 : lw_okq (⟨"HeldPartModel", "findHidden", "()V"⟩, 39) := ⟨⟨by decide +kernel, by decide +kernel⟩, List.mem_of_getElem? (i := 990) (by decide +kernel), List.mem_of_getElem? (i := 1216) (by decide +kernel), List.mem_of_getElem? (i := 1217) (by decide +kernel)⟩
theorem lw_p45 : lw_okq (⟨"HeldPartModel", "divisor", "(JJ)J"⟩, 39) := ⟨⟨by decide +kernel, by decide +kernel⟩, List.mem_of_getElem? (i := 990) (by decide +kernel), List.mem_of_getElem? (i := 1220) (by decide +kernel), List.mem_of_getElem? (i := 1221) (by decide +kernel)⟩
theorem lw_p46 : lw_okq (⟨"HeldPartModel", "abs", "(J)J"⟩, 39) := ⟨⟨by decide +kernel, by decide +kernel⟩, List.mem_of_getElem? (i := 990) (by decide +kernel), List.mem_of_getElem? (i := 1224) (by decide +kernel), List.mem_of_getElem? (i := 1225) (by decide +kernel)⟩
theorem lw_p47 : lw_okq (⟨"HeldPartModel", "isForm", "()I"⟩, 39) := ⟨⟨by decide +kernel, by decide +kernel⟩, List.mem_of_getElem? (i := 990) (by decide +kernel), List.mem_of_getElem? (i := 1232) (by decide +kernel), List.mem_of_getElem? (i := 1233) (by decide +kernel)⟩
def lw_privs_3 : List (MethodName × Nat) := [(⟨"HeldPartModel", "pushesOf", "(I)I"⟩, 39), (⟨"HeldPartModel", "direct", "(II)J"⟩, 39), (⟨"HeldPartModel", "along", "(I)I"⟩, 39), (⟨"HeldPartModel", "up", "(I)I"⟩, 39), (⟨"HeldPartModel", "part", "(JJIII)J"⟩, 39), (⟨"HeldPartModel", "pushed", "(III)J"⟩, 39), (⟨"HeldPartModel", "addDirections", "(IZ)V"⟩, 39), (⟨"HeldPartModel", "add", "(JJJ)V"⟩, 39), (⟨"HeldPartModel", "rankOf", "()I"⟩, 39), (⟨"HeldPartModel", "isNought", "(I)Z"⟩, 39), (⟨"HeldPartModel", "across", "(II)Z"⟩, 39), (⟨"HeldPartModel", "against", "(I)J"⟩, 39), (⟨"HeldPartModel", "findHidden", "()V"⟩, 39), (⟨"HeldPartModel", "divisor", "(JJ)J"⟩, 39), (⟨"HeldPartModel", "abs", "(J)J"⟩, 39), (⟨"HeldPartModel", "isForm", "()I"⟩, 39)]
theorem lw_r3 : ∀ q ∈ lw_privs_3, lw_okq q := List.forall_mem_cons.mpr ⟨lw_p32, List.forall_mem_cons.mpr ⟨lw_p33, List.forall_mem_cons.mpr ⟨lw_p34, List.forall_mem_cons.mpr ⟨lw_p35, List.forall_mem_cons.mpr ⟨lw_p36, List.forall_mem_cons.mpr ⟨lw_p37, List.forall_mem_cons.mpr ⟨lw_p38, List.forall_mem_cons.mpr ⟨lw_p39, List.forall_mem_cons.mpr ⟨lw_p40, List.forall_mem_cons.mpr ⟨lw_p41, List.forall_mem_cons.mpr ⟨lw_p42, List.forall_mem_cons.mpr ⟨lw_p43, List.forall_mem_cons.mpr ⟨lw_p44, List.forall_mem_cons.mpr ⟨lw_p45, List.forall_mem_cons.mpr ⟨lw_p46, List.forall_mem_cons.mpr ⟨lw_p47, fun _ h => absurd h List.not_mem_nil⟩⟩⟩⟩⟩⟩⟩⟩⟩⟩⟩⟩⟩⟩⟩⟩
theorem lw_p48 : lw_okq (⟨"HeldPartModel", "sideOf", "()I"⟩, 39) := ⟨⟨by decide +kernel, by decide +kernel⟩, List.mem_of_getElem? (i := 990) (by decide +kernel), List.mem_of_getElem? (i := 1236) (by decide +kernel), List.mem_of_getElem? (i := 1237) (by decide +kernel)⟩
theorem lw_p49 : lw_okq (⟨"HeldPartModel", "isLoad", "(III)Z"⟩, 39) := ⟨⟨by decide +kernel, by decide +kernel⟩, List.mem_of_getElem? (i := 990) (by decide +kernel), List.mem_of_getElem? (i := 1248) (by decide +kernel), List.mem_of_getElem? (i := 1249) (by decide +kernel)⟩
theorem lw_p50 : lw_okq (⟨"HeldPartModel", "prepare", "()V"⟩, 39) := ⟨⟨by decide +kernel, by decide +kernel⟩, List.mem_of_getElem? (i := 990) (by decide +kernel), List.mem_of_getElem? (i := 1252) (by decide +kernel), List.mem_of_getElem? (i := 1253) (by decide +kernel)⟩
theorem lw_p51 : lw_okq (⟨"HeldPartModel", "isFace", "(I)Z"⟩, 39) := ⟨⟨by decide +kernel, by decide +kernel⟩, List.mem_of_getElem? (i := 990) (by decide +kernel), List.mem_of_getElem? (i := 1256) (by decide +kernel), List.mem_of_getElem? (i := 1257) (by decide +kernel)⟩
theorem lw_p52 : lw_okq (⟨"HeldPartModel", "isHeld", "(IIII)Z"⟩, 39) := ⟨⟨by decide +kernel, by decide +kernel⟩, List.mem_of_getElem? (i := 990) (by decide +kernel), List.mem_of_getElem? (i := 1260) (by decide +kernel), List.mem_of_getElem? (i := 1261) (by decide +kernel)⟩
theorem lw_p53 : lw_okq (⟨"HeldPartModel", "isGoalIn", "()Z"⟩, 39) := ⟨⟨by decide +kernel, by decide +kernel⟩, List.mem_of_getElem? (i := 990) (by decide +kernel), List.mem_of_getElem? (i := 1264) (by decide +kernel), List.mem_of_getElem? (i := 1265) (by decide +kernel)⟩
theorem lw_p54 : lw_okq (⟨"HeldPartModel", "isAlong", "(I)Z"⟩, 39) := ⟨⟨by decide +kernel, by decide +kernel⟩, List.mem_of_getElem? (i := 990) (by decide +kernel), List.mem_of_getElem? (i := 1268) (by decide +kernel), List.mem_of_getElem? (i := 1269) (by decide +kernel)⟩
theorem lw_p55 : lw_okq (⟨"HeldPartModel", "isBetween", "(II)Z"⟩, 39) := ⟨⟨by decide +kernel, by decide +kernel⟩, List.mem_of_getElem? (i := 990) (by decide +kernel), List.mem_of_getElem? (i := 1272) (by decide +kernel), List.mem_of_getElem? (i := 1273) (by decide +kernel)⟩
theorem lw_p56 : lw_okq (⟨"HeldPartModel", "heldLoads", "(I)I"⟩, 39) := ⟨⟨by decide +kernel, by decide +kernel⟩, List.mem_of_getElem? (i := 990) (by decide +kernel), List.mem_of_getElem? (i := 1288) (by decide +kernel), List.mem_of_getElem? (i := 1289) (by decide +kernel)⟩
theorem lw_p57 : lw_okq (⟨"HeldPartModel", "isFeature", "(III)Z"⟩, 39) := ⟨⟨by decide +kernel, by decide +kernel⟩, List.mem_of_getElem? (i := 990) (by decide +kernel), List.mem_of_getElem? (i := 1300) (by decide +kernel), List.mem_of_getElem? (i := 1301) (by decide +kernel)⟩
theorem lw_p58 : lw_okq (⟨"HeldPartModel", "canPlace", "(I)Z"⟩, 39) := ⟨⟨by decide +kernel, by decide +kernel⟩, List.mem_of_getElem? (i := 990) (by decide +kernel), List.mem_of_getElem? (i := 1304) (by decide +kernel), List.mem_of_getElem? (i := 1305) (by decide +kernel)⟩
theorem lw_p59 : lw_okq (⟨"HeldPartModel", "setFeature", "(III)V"⟩, 39) := ⟨⟨by decide +kernel, by decide +kernel⟩, List.mem_of_getElem? (i := 990) (by decide +kernel), List.mem_of_getElem? (i := 1308) (by decide +kernel), List.mem_of_getElem? (i := 1309) (by decide +kernel)⟩
theorem lw_p60 : lw_okq (⟨"HeldPartModel", "findWorst", "(III)Z"⟩, 39) := ⟨⟨by decide +kernel, by decide +kernel⟩, List.mem_of_getElem? (i := 990) (by decide +kernel), List.mem_of_getElem? (i := 1312) (by decide +kernel), List.mem_of_getElem? (i := 1313) (by decide +kernel)⟩
theorem lw_p61 : lw_okq (⟨"HeldPartModel", "determinant", "(I)J"⟩, 39) := ⟨⟨by decide +kernel, by decide +kernel⟩, List.mem_of_getElem? (i := 990) (by decide +kernel), List.mem_of_getElem? (i := 1316) (by decide +kernel), List.mem_of_getElem? (i := 1317) (by decide +kernel)⟩
theorem lw_p62 : lw_okq (⟨"HeldPartModel", "at", "(III)J"⟩, 39) := ⟨⟨by decide +kernel, by decide +kernel⟩, List.mem_of_getElem? (i := 990) (by decide +kernel), List.mem_of_getElem? (i := 1320) (by decide +kernel), List.mem_of_getElem? (i := 1321) (by decide +kernel)⟩
theorem lw_p63 : lw_okq (⟨"HeldPartModel", "findFewest", "()V"⟩, 39) := ⟨⟨by decide +kernel, by decide +kernel⟩, List.mem_of_getElem? (i := 990) (by decide +kernel), List.mem_of_getElem? (i := 1336) (by decide +kernel), List.mem_of_getElem? (i := 1337) (by decide +kernel)⟩
def lw_privs_4 : List (MethodName × Nat) := [(⟨"HeldPartModel", "sideOf", "()I"⟩, 39), (⟨"HeldPartModel", "isLoad", "(III)Z"⟩, 39), (⟨"HeldPartModel", "prepare", "()V"⟩, 39), (⟨"HeldPartModel", "isFace", "(I)Z"⟩, 39), (⟨"HeldPartModel", "isHeld", "(IIII)Z"⟩, 39), (⟨"HeldPartModel", "isGoalIn", "()Z"⟩, 39), (⟨"HeldPartModel", "isAlong", "(I)Z"⟩, 39), (⟨"HeldPartModel", "isBetween", "(II)Z"⟩, 39), (⟨"HeldPartModel", "heldLoads", "(I)I"⟩, 39), (⟨"HeldPartModel", "isFeature", "(III)Z"⟩, 39), (⟨"HeldPartModel", "canPlace", "(I)Z"⟩, 39), (⟨"HeldPartModel", "setFeature", "(III)V"⟩, 39), (⟨"HeldPartModel", "findWorst", "(III)Z"⟩, 39), (⟨"HeldPartModel", "determinant", "(I)J"⟩, 39), (⟨"HeldPartModel", "at", "(III)J"⟩, 39), (⟨"HeldPartModel", "findFewest", "()V"⟩, 39)]
theorem lw_r4 : ∀ q ∈ lw_privs_4, lw_okq q := List.forall_mem_cons.mpr ⟨lw_p48, List.forall_mem_cons.mpr ⟨lw_p49, List.forall_mem_cons.mpr ⟨lw_p50, List.forall_mem_cons.mpr ⟨lw_p51, List.forall_mem_cons.mpr ⟨lw_p52, List.forall_mem_cons.mpr ⟨lw_p53, List.forall_mem_cons.mpr ⟨lw_p54, List.forall_mem_cons.mpr ⟨lw_p55, List.forall_mem_cons.mpr ⟨lw_p56, List.forall_mem_cons.mpr ⟨lw_p57, List.forall_mem_cons.mpr ⟨lw_p58, List.forall_mem_cons.mpr ⟨lw_p59, List.forall_mem_cons.mpr ⟨lw_p60, List.forall_mem_cons.mpr ⟨lw_p61, List.forall_mem_cons.mpr ⟨lw_p62, List.forall_mem_cons.mpr ⟨lw_p63, fun _ h => absurd h List.not_mem_nil⟩⟩⟩⟩⟩⟩⟩⟩⟩⟩⟩⟩⟩⟩⟩⟩
theorem lw_p64 : lw_okq (⟨"HeldPartModel", "work", "(II)I"⟩, 39) := ⟨⟨by decide +kernel, by decide +kernel⟩, List.mem_of_getElem? (i := 990) (by decide +kernel), List.mem_of_getElem? (i := 1340) (by decide +kernel), List.mem_of_getElem? (i := 1341) (by decide +kernel)⟩
theorem lw_p65 : lw_okq (⟨"HeldPartModel", "sideFor", "(I)I"⟩, 39) := ⟨⟨by decide +kernel, by decide +kernel⟩, List.mem_of_getElem? (i := 990) (by decide +kernel), List.mem_of_getElem? (i := 1348) (by decide +kernel), List.mem_of_getElem? (i := 1349) (by decide +kernel)⟩
theorem lw_p66 : lw_okq (⟨"HeldPartModel", "firstMeeting", "(I)I"⟩, 39) := ⟨⟨by decide +kernel, by decide +kernel⟩, List.mem_of_getElem? (i := 990) (by decide +kernel), List.mem_of_getElem? (i := 1368) (by decide +kernel), List.mem_of_getElem? (i := 1369) (by decide +kernel)⟩
theorem lw_p67 : lw_okq (⟨"HeldPartModel", "isNear", "(III)Z"⟩, 39) := ⟨⟨by decide +kernel, by decide +kernel⟩, List.mem_of_getElem? (i := 990) (by decide +kernel), List.mem_of_getElem? (i := 1372) (by decide +kernel), List.mem_of_getElem? (i := 1373) (by decide +kernel)⟩
theorem lw_p68 : lw_okq (⟨"HeldPartModel", "isShelf", "(I)Z"⟩, 39) := ⟨⟨by decide +kernel, by decide +kernel⟩, List.mem_of_getElem? (i := 990) (by decide +kernel), List.mem_of_getElem? (i := 1388) (by decide +kernel), List.mem_of_getElem? (i := 1389) (by decide +kernel)⟩
theorem lw_p69 : lw_okq (⟨"HeldPartModel", "wipe", "(I)V"⟩, 39) := ⟨⟨by decide +kernel, by decide +kernel⟩, List.mem_of_getElem? (i := 990) (by decide +kernel), List.mem_of_getElem? (i := 1392) (by decide +kernel), List.mem_of_getElem? (i := 1393) (by decide +kernel)⟩
theorem lw_p70 : lw_okq (⟨"HeldPartModel", "lacksContact", "(I)I"⟩, 39) := ⟨⟨by decide +kernel, by decide +kernel⟩, List.mem_of_getElem? (i := 990) (by decide +kernel), List.mem_of_getElem? (i := 1412) (by decide +kernel), List.mem_of_getElem? (i := 1413) (by decide +kernel)⟩
def lw_privs_5 : List (MethodName × Nat) := [(⟨"HeldPartModel", "work", "(II)I"⟩, 39), (⟨"HeldPartModel", "sideFor", "(I)I"⟩, 39), (⟨"HeldPartModel", "firstMeeting", "(I)I"⟩, 39), (⟨"HeldPartModel", "isNear", "(III)Z"⟩, 39), (⟨"HeldPartModel", "isShelf", "(I)Z"⟩, 39), (⟨"HeldPartModel", "wipe", "(I)V"⟩, 39), (⟨"HeldPartModel", "lacksContact", "(I)I"⟩, 39)]
theorem lw_r5 : ∀ q ∈ lw_privs_5, lw_okq q := List.forall_mem_cons.mpr ⟨lw_p64, List.forall_mem_cons.mpr ⟨lw_p65, List.forall_mem_cons.mpr ⟨lw_p66, List.forall_mem_cons.mpr ⟨lw_p67, List.forall_mem_cons.mpr ⟨lw_p68, List.forall_mem_cons.mpr ⟨lw_p69, List.forall_mem_cons.mpr ⟨lw_p70, fun _ h => absurd h List.not_mem_nil⟩⟩⟩⟩⟩⟩⟩
def lw_privs : List (MethodName × Nat) := lw_privs_1 ++ (lw_privs_2 ++ (lw_privs_3 ++ (lw_privs_4 ++ (lw_privs_5))))
def lw_tbl : List Cond := k2_sels lw_privs ++ tables_1
theorem lw_privs_ok : ∀ q ∈ lw_privs, lw_okq q := by
  show ∀ q ∈ lw_privs_1 ++ (lw_privs_2 ++ (lw_privs_3 ++ (lw_privs_4 ++ (lw_privs_5)))), lw_okq q
  exact List.forall_mem_append.mpr ⟨lw_r1, List.forall_mem_append.mpr ⟨lw_r2, List.forall_mem_append.mpr ⟨lw_r3, List.forall_mem_append.mpr ⟨lw_r4, lw_r5⟩⟩⟩⟩
end
section
def RX0 : String := "HeldPart$Ball"
def TX0 : u_T := fun k => match k with
  | 0 => ("HeldPart$Pad", "grip", "I", true)
  | 1 => ("HeldPart$Pin", "direction", "I", true)
  | 2 => ("HeldPart$Pin", "directionX", "I", true)
  | 3 => ("HeldPart$Pin", "directionY", "I", true)
  | 4 => ("HeldPart$Pin", "body", "I", true)
  | 5 => ("HeldPart$Pin", "number", "I", false)
  | 6 => ("HeldPart$Pin", "x", "I", false)
  | 7 => ("HeldPart$Pin", "y", "I", false)
  | _ => ("HeldPart$Pin", "missed", "I", false)
def tyX0 : Nat → FieldType := fun k => match k with
  | 0 => .int
  | 1 => .int
  | 2 => .int
  | 3 => .int
  | 4 => .int
  | 5 => .int
  | 6 => .int
  | 7 => .int
  | _ => .int
abbrev wsX00 : List Cond := u_ws RX0 TX0 9
theorem nmX0 : ∀ a, a < 9 → ∀ b, b < 9 → a ≠ b → (TX0 a).2.1 ≠ (TX0 b).2.1 := by decide +kernel
theorem tyX0_ok : ∀ k, k < 9 → parseFieldDescriptor (TX0 k).2.2.1 = some (tyX0 k) := by decide +kernel
abbrev cX0_init : ByteArray := prog_2_method_1_code
def yX0_init : MethodName := ⟨RX0, "<init>", "(IIIII)V"⟩
abbrev cX0_kind : ByteArray := prog_2_method_2_code
def yX0_kind : MethodName := ⟨RX0, "kind", "()I"⟩
abbrev cX0_pushCount : ByteArray := prog_2_method_3_code
def yX0_pushCount : MethodName := ⟨RX0, "pushCount", "()I"⟩
abbrev cX0_leans : ByteArray := prog_2_method_4_code
def yX0_leans : MethodName := ⟨RX0, "leans", "(I)I"⟩
abbrev cX0_weighs : ByteArray := prog_2_method_5_code
def yX0_weighs : MethodName := ⟨RX0, "weighs", "()I"⟩
def RX1 : String := "HeldPart$Clamp"
def TX1 : u_T := fun k => match k with
  | 0 => ("HeldPart$Pin", "direction", "I", true)
  | 1 => ("HeldPart$Pin", "directionX", "I", true)
  | 2 => ("HeldPart$Pin", "directionY", "I", true)
  | 3 => ("HeldPart$Pin", "body", "I", true)
  | 4 => ("HeldPart$Pin", "number", "I", false)
  | 5 => ("HeldPart$Pin", "x", "I", false)
  | 6 => ("HeldPart$Pin", "y", "I", false)
  | _ => ("HeldPart$Pin", "missed", "I", false)
def tyX1 : Nat → FieldType := fun k => match k with
  | 0 => .int
  | 1 => .int
  | 2 => .int
  | 3 => .int
  | 4 => .int
  | 5 => .int
  | 6 => .int
  | _ => .int
abbrev wsX10 : List Cond := u_ws RX1 TX1 8
theorem nmX1 : ∀ a, a < 8 → ∀ b, b < 8 → a ≠ b → (TX1 a).2.1 ≠ (TX1 b).2.1 := by decide +kernel
theorem tyX1_ok : ∀ k, k < 8 → parseFieldDescriptor (TX1 k).2.2.1 = some (tyX1 k) := by decide +kernel
abbrev cX1_init : ByteArray := prog_3_method_1_code
def yX1_init : MethodName := ⟨RX1, "<init>", "(IIII)V"⟩
abbrev cX1_kind : ByteArray := prog_3_method_2_code
def yX1_kind : MethodName := ⟨RX1, "kind", "()I"⟩
abbrev cX1_places : ByteArray := prog_3_method_3_code
def yX1_places : MethodName := ⟨RX1, "places", "()Z"⟩
abbrev cX1_weighs : ByteArray := prog_3_method_4_code
def yX1_weighs : MethodName := ⟨RX1, "weighs", "()I"⟩
def RX2 : String := "HeldPart$Cone"
def TX2 : u_T := fun k => match k with
  | 0 => ("HeldPart$Cone", "p", "[J", true)
  | 1 => ("HeldPart$Cone", "q", "[J", true)
  | 2 => ("HeldPart$Cone", "m", "[J", true)
  | 3 => ("HeldPart$Cone", "size", "I", false)
  | 4 => ("HeldPart$Cone", "boundA", "[J", true)
  | 5 => ("HeldPart$Cone", "boundB", "[J", true)
  | 6 => ("HeldPart$Cone", "boundW", "[J", true)
  | 7 => ("HeldPart$Cone", "normals", "I", false)
  | 8 => ("HeldPart$Cone", "normalA", "J", false)
  | 9 => ("HeldPart$Cone", "normalB", "J", false)
  | _ => ("HeldPart$Cone", "normalW", "J", false)
def tyX2 : Nat → FieldType := fun k => match k with
  | 0 => .array .long
  | 1 => .array .long
  | 2 => .array .long
  | 3 => .int
  | 4 => .array .long
  | 5 => .array .long
  | 6 => .array .long
  | 7 => .int
  | 8 => .long
  | 9 => .long
  | _ => .long
abbrev wsX20 : List Cond := u_ws RX2 TX2 11
theorem nmX2 : ∀ a, a < 11 → ∀ b, b < 11 → a ≠ b → (TX2 a).2.1 ≠ (TX2 b).2.1 := by decide +kernel
theorem tyX2_ok : ∀ k, k < 11 → parseFieldDescriptor (TX2 k).2.2.1 = some (tyX2 k) := by decide +kernel
abbrev cX2_init : ByteArray := prog_4_method_1_code
def yX2_init : MethodName := ⟨RX2, "<init>", "()V"⟩
abbrev cX2_clear : ByteArray := prog_4_method_2_code
def yX2_clear : MethodName := ⟨RX2, "clear", "()V"⟩
abbrev cX2_add : ByteArray := prog_4_method_3_code
def yX2_add : MethodName := ⟨RX2, "add", "(LHeldPart$Pin;I)V"⟩
abbrev cX2_measured : ByteArray := prog_4_method_4_code
def yX2_measured : MethodName := ⟨RX2, "measured", "()I"⟩
abbrev cX2_reduceNormal : ByteArray := prog_4_method_5_code
def yX2_reduceNormal : MethodName := ⟨RX2, "reduceNormal", "()V"⟩
abbrev cX2_bound : ByteArray := prog_4_method_6_code
def yX2_bound : MethodName := ⟨RX2, "bound", "()V"⟩
abbrev cX2_contains : ByteArray := prog_4_method_7_code
def yX2_contains : MethodName := ⟨RX2, "contains", "(JJJ)Z"⟩
abbrev cX2_along : ByteArray := prog_4_method_8_code
def yX2_along : MethodName := ⟨RX2, "along", "(IJJJ)J"⟩
abbrev cX2_boundLine : ByteArray := prog_4_method_9_code
def yX2_boundLine : MethodName := ⟨RX2, "boundLine", "()V"⟩
abbrev cX2_boundPlane : ByteArray := prog_4_method_10_code
def yX2_boundPlane : MethodName := ⟨RX2, "boundPlane", "()V"⟩
abbrev cX2_boundSpace : ByteArray := prog_4_method_11_code
def yX2_boundSpace : MethodName := ⟨RX2, "boundSpace", "()V"⟩
abbrev cX2_isBoundBy : ByteArray := prog_4_method_12_code
def yX2_isBoundBy : MethodName := ⟨RX2, "isBoundBy", "(II)Z"⟩
abbrev cX2_boundIfOneSided : ByteArray := prog_4_method_13_code
def yX2_boundIfOneSided : MethodName := ⟨RX2, "boundIfOneSided", "()V"⟩
abbrev cX2_boundBoth : ByteArray := prog_4_method_14_code
def yX2_boundBoth : MethodName := ⟨RX2, "boundBoth", "(JJJ)V"⟩
abbrev cX2_boundOnce : ByteArray := prog_4_method_15_code
def yX2_boundOnce : MethodName := ⟨RX2, "boundOnce", "(JJJ)V"⟩
abbrev cX2_takeCross : ByteArray := prog_4_method_16_code
def yX2_takeCross : MethodName := ⟨RX2, "takeCross", "(JJJI)V"⟩
abbrev cX2_alongNormal : ByteArray := prog_4_method_17_code
def yX2_alongNormal : MethodName := ⟨RX2, "alongNormal", "(I)J"⟩
def RX3 : String := "HeldPart$Cut"
def TX3 : u_T := fun k => match k with
  | 0 => ("HeldPart$Cut", "p", "[I", true)
  | 1 => ("HeldPart$Cut", "q", "[I", true)
  | 2 => ("HeldPart$Cut", "m", "[I", true)
  | 3 => ("HeldPart$Cut", "size", "I", false)
  | 4 => ("HeldPart$Cut", "low", "J", false)
  | _ => ("HeldPart$Cut", "high", "J", false)
def tyX3 : Nat → FieldType := fun k => match k with
  | 0 => .array .int
  | 1 => .array .int
  | 2 => .array .int
  | 3 => .int
  | 4 => .long
  | _ => .long
abbrev wsX30 : List Cond := u_ws RX3 TX3 6
theorem nmX3 : ∀ a, a < 6 → ∀ b, b < 6 → a ≠ b → (TX3 a).2.1 ≠ (TX3 b).2.1 := by decide +kernel
theorem tyX3_ok : ∀ k, k < 6 → parseFieldDescriptor (TX3 k).2.2.1 = some (tyX3 k) := by decide +kernel
abbrev cX3_init : ByteArray := prog_5_method_1_code
def yX3_init : MethodName := ⟨RX3, "<init>", "()V"⟩
abbrev cX3_taken : ByteArray := prog_5_method_2_code
def yX3_taken : MethodName := ⟨RX3, "taken", "(III)Z"⟩
abbrev cX3_leastPull : ByteArray := prog_5_method_3_code
def yX3_leastPull : MethodName := ⟨RX3, "leastPull", "(LHeldPart$Cone;[J)I"⟩
abbrev cX3_narrow : ByteArray := prog_5_method_4_code
def yX3_narrow : MethodName := ⟨RX3, "narrow", "(JJ)V"⟩
def RX4 : String := "HeldPart$Misses"
def TX4 : u_T := fun k => match k with
  | 0 => ("HeldPart$Misses", "feature", "[J", true)
  | 1 => ("HeldPart$Misses", "first", "[J", true)
  | 2 => ("HeldPart$Misses", "second", "[J", true)
  | 3 => ("HeldPart$Misses", "third", "[J", true)
  | 4 => ("HeldPart$Misses", "above", "J", false)
  | 5 => ("HeldPart$Misses", "below", "J", false)
  | 6 => ("HeldPart$Misses", "bestAbove", "J", false)
  | 7 => ("HeldPart$Misses", "bestBelow", "J", false)
  | _ => ("HeldPart$Misses", "bestThree", "I", false)
def tyX4 : Nat → FieldType := fun k => match k with
  | 0 => .array .long
  | 1 => .array .long
  | 2 => .array .long
  | 3 => .array .long
  | 4 => .long
  | 5 => .long
  | 6 => .long
  | 7 => .long
  | _ => .int
abbrev wsX40 : List Cond := u_ws RX4 TX4 9
theorem nmX4 : ∀ a, a < 9 → ∀ b, b < 9 → a ≠ b → (TX4 a).2.1 ≠ (TX4 b).2.1 := by decide +kernel
theorem tyX4_ok : ∀ k, k < 9 → parseFieldDescriptor (TX4 k).2.2.1 = some (tyX4 k) := by decide +kernel
abbrev cX4_init : ByteArray := prog_6_method_1_code
def yX4_init : MethodName := ⟨RX4, "<init>", "()V"⟩
abbrev cX4_aim : ByteArray := prog_6_method_2_code
def yX4_aim : MethodName := ⟨RX4, "aim", "(III)V"⟩
abbrev cX4_forgetBest : ByteArray := prog_6_method_3_code
def yX4_forgetBest : MethodName := ⟨RX4, "forgetBest", "()V"⟩
abbrev cX4_isWeighed : ByteArray := prog_6_method_4_code
def yX4_isWeighed : MethodName := ⟨RX4, "isWeighed", "(LHeldPart$Pin;LHeldPart$Pin;LHeldPart$Pin;)Z"⟩
abbrev cX4_rememberIfBetter : ByteArray := prog_6_method_5_code
def yX4_rememberIfBetter : MethodName := ⟨RX4, "rememberIfBetter", "(I)V"⟩
abbrev cX4_fill : ByteArray := prog_6_method_6_code
def yX4_fill : MethodName := ⟨RX4, "fill", "([JLHeldPart$Pin;)V"⟩
abbrev cX4_determinant : ByteArray := prog_6_method_7_code
def yX4_determinant : MethodName := ⟨RX4, "determinant", "([J[J[J)J"⟩
def RX5 : String := "HeldPart$Pad"
def TX5 : u_T := fun k => match k with
  | 0 => ("HeldPart$Pin", "direction", "I", true)
  | 1 => ("HeldPart$Pin", "directionX", "I", true)
  | 2 => ("HeldPart$Pin", "directionY", "I", true)
  | 3 => ("HeldPart$Pin", "body", "I", true)
  | 4 => ("HeldPart$Pin", "number", "I", false)
  | 5 => ("HeldPart$Pin", "x", "I", false)
  | 6 => ("HeldPart$Pin", "y", "I", false)
  | 7 => ("HeldPart$Pin", "missed", "I", false)
  | _ => ("HeldPart$Pad", "grip", "I", true)
def tyX5 : Nat → FieldType := fun k => match k with
  | 0 => .int
  | 1 => .int
  | 2 => .int
  | 3 => .int
  | 4 => .int
  | 5 => .int
  | 6 => .int
  | 7 => .int
  | _ => .int
abbrev wsX50 : List Cond := u_ws RX5 TX5 9
theorem nmX5 : ∀ a, a < 9 → ∀ b, b < 9 → a ≠ b → (TX5 a).2.1 ≠ (TX5 b).2.1 := by decide +kernel
theorem tyX5_ok : ∀ k, k < 9 → parseFieldDescriptor (TX5 k).2.2.1 = some (tyX5 k) := by decide +kernel
abbrev cX5_init : ByteArray := prog_7_method_1_code
def yX5_init : MethodName := ⟨RX5, "<init>", "(IIIII)V"⟩
abbrev cX5_kind : ByteArray := prog_7_method_2_code
def yX5_kind : MethodName := ⟨RX5, "kind", "()I"⟩
abbrev cX5_gripped : ByteArray := prog_7_method_3_code
def yX5_gripped : MethodName := ⟨RX5, "gripped", "()I"⟩
abbrev cX5_pushCount : ByteArray := prog_7_method_4_code
def yX5_pushCount : MethodName := ⟨RX5, "pushCount", "()I"⟩
abbrev cX5_leans : ByteArray := prog_7_method_5_code
def yX5_leans : MethodName := ⟨RX5, "leans", "(I)I"⟩
abbrev cX5_weighs : ByteArray := prog_7_method_6_code
def yX5_weighs : MethodName := ⟨RX5, "weighs", "()I"⟩
abbrev cX5_fail : ByteArray := prog_7_method_7_code
def yX5_fail : MethodName := ⟨RX5, "fail", "()V"⟩
def RX6 : String := "HeldPart$Path"
def TX6 : u_T := fun k => match k with
  | 0 => ("HeldPart$Path", "x", "[I", true)
  | 1 => ("HeldPart$Path", "y", "[I", true)
  | 2 => ("HeldPart$Path", "size", "I", false)
  | _ => ("HeldPart$Path", "radius", "I", false)
def tyX6 : Nat → FieldType := fun k => match k with
  | 0 => .array .int
  | 1 => .array .int
  | 2 => .int
  | _ => .int
abbrev wsX60 : List Cond := u_ws RX6 TX6 4
theorem nmX6 : ∀ a, a < 4 → ∀ b, b < 4 → a ≠ b → (TX6 a).2.1 ≠ (TX6 b).2.1 := by decide +kernel
theorem tyX6_ok : ∀ k, k < 4 → parseFieldDescriptor (TX6 k).2.2.1 = some (tyX6 k) := by decide +kernel
abbrev cX6_init : ByteArray := prog_8_method_1_code
def yX6_init : MethodName := ⟨RX6, "<init>", "()V"⟩
abbrev cX6_taken : ByteArray := prog_8_method_2_code
def yX6_taken : MethodName := ⟨RX6, "taken", "(II)Z"⟩
abbrev cX6_firstLineNear : ByteArray := prog_8_method_3_code
def yX6_firstLineNear : MethodName := ⟨RX6, "firstLineNear", "(LHeldPart$Pin;)I"⟩
abbrev cX6_isNear : ByteArray := prog_8_method_4_code
def yX6_isNear : MethodName := ⟨RX6, "isNear", "(IILHeldPart$Pin;)Z"⟩
def RX7 : String := "HeldPart$Pin"
def TX7 : u_T := fun k => match k with
  | 0 => ("HeldPart$Pin", "direction", "I", true)
  | 1 => ("HeldPart$Pin", "directionX", "I", true)
  | 2 => ("HeldPart$Pin", "directionY", "I", true)
  | 3 => ("HeldPart$Pin", "body", "I", true)
  | 4 => ("HeldPart$Pin", "number", "I", false)
  | 5 => ("HeldPart$Pin", "x", "I", false)
  | 6 => ("HeldPart$Pin", "y", "I", false)
  | _ => ("HeldPart$Pin", "missed", "I", false)
def tyX7 : Nat → FieldType := fun k => match k with
  | 0 => .int
  | 1 => .int
  | 2 => .int
  | 3 => .int
  | 4 => .int
  | 5 => .int
  | 6 => .int
  | _ => .int
abbrev wsX70 : List Cond := u_ws RX7 TX7 8
theorem nmX7 : ∀ a, a < 8 → ∀ b, b < 8 → a ≠ b → (TX7 a).2.1 ≠ (TX7 b).2.1 := by decide +kernel
theorem tyX7_ok : ∀ k, k < 8 → parseFieldDescriptor (TX7 k).2.2.1 = some (tyX7 k) := by decide +kernel
abbrev cX7_init : ByteArray := prog_9_method_1_code
def yX7_init : MethodName := ⟨RX7, "<init>", "(IIII)V"⟩
abbrev cX7_kind : ByteArray := prog_9_method_2_code
def yX7_kind : MethodName := ⟨RX7, "kind", "()I"⟩
abbrev cX7_gripped : ByteArray := prog_9_method_3_code
def yX7_gripped : MethodName := ⟨RX7, "gripped", "()I"⟩
abbrev cX7_places : ByteArray := prog_9_method_4_code
def yX7_places : MethodName := ⟨RX7, "places", "()Z"⟩
abbrev cX7_pushCount : ByteArray := prog_9_method_5_code
def yX7_pushCount : MethodName := ⟨RX7, "pushCount", "()I"⟩
abbrev cX7_leans : ByteArray := prog_9_method_6_code
def yX7_leans : MethodName := ⟨RX7, "leans", "(I)I"⟩
abbrev cX7_weighs : ByteArray := prog_9_method_7_code
def yX7_weighs : MethodName := ⟨RX7, "weighs", "()I"⟩
abbrev cX7_fail : ByteArray := prog_9_method_8_code
def yX7_fail : MethodName := ⟨RX7, "fail", "()V"⟩
abbrev cX7_pushX : ByteArray := prog_9_method_9_code
def yX7_pushX : MethodName := ⟨RX7, "pushX", "(I)I"⟩
abbrev cX7_pushY : ByteArray := prog_9_method_10_code
def yX7_pushY : MethodName := ⟨RX7, "pushY", "(I)I"⟩
abbrev cX7_turn : ByteArray := prog_9_method_11_code
def yX7_turn : MethodName := ⟨RX7, "turn", "(I)I"⟩
def RX8 : String := "HeldPart$Plan"
def TX8 : u_T := fun k => match k with
  | 0 => ("HeldPart$Plan", "sides", "[I", true)
  | 1 => ("HeldPart$Plan", "ahead", "[I", true)
  | 2 => ("HeldPart$Plan", "size", "I", false)
  | 3 => ("HeldPart$Plan", "togo", "[B", true)
  | 4 => ("HeldPart$Plan", "rowSide", "[I", true)
  | 5 => ("HeldPart$Plan", "rowDone", "[I", true)
  | 6 => ("HeldPart$Plan", "fewest", "I", false)
  | _ => ("HeldPart$Plan", "isFound", "Z", false)
def tyX8 : Nat → FieldType := fun k => match k with
  | 0 => .array .int
  | 1 => .array .int
  | 2 => .int
  | 3 => .array .byte
  | 4 => .array .int
  | 5 => .array .int
  | 6 => .int
  | _ => .boolean
abbrev wsX80 : List Cond := u_ws RX8 TX8 8
theorem nmX8 : ∀ a, a < 8 → ∀ b, b < 8 → a ≠ b → (TX8 a).2.1 ≠ (TX8 b).2.1 := by decide +kernel
theorem tyX8_ok : ∀ k, k < 8 → parseFieldDescriptor (TX8 k).2.2.1 = some (tyX8 k) := by decide +kernel
abbrev cX8_init : ByteArray := prog_10_method_1_code
def yX8_init : MethodName := ⟨RX8, "<init>", "()V"⟩
abbrev cX8_taken : ByteArray := prog_10_method_2_code
def yX8_taken : MethodName := ⟨RX8, "taken", "(II)Z"⟩
abbrev cX8_takenBy : ByteArray := prog_10_method_3_code
def yX8_takenBy : MethodName := ⟨RX8, "takenBy", "(II)I"⟩
abbrev cX8_findFewest : ByteArray := prog_10_method_4_code
def yX8_findFewest : MethodName := ⟨RX8, "findFewest", "()V"⟩
abbrev cX8_sideRow : ByteArray := prog_10_method_5_code
def yX8_sideRow : MethodName := ⟨RX8, "sideRow", "()[B"⟩
abbrev cX8_after : ByteArray := prog_10_method_6_code
def yX8_after : MethodName := ⟨RX8, "after", "(II)I"⟩
abbrev cX8_markReached : ByteArray := prog_10_method_7_code
def yX8_markReached : MethodName := ⟨RX8, "markReached", "(I)V"⟩
abbrev cX8_countToGo : ByteArray := prog_10_method_8_code
def yX8_countToGo : MethodName := ⟨RX8, "countToGo", "(I)V"⟩
abbrev cX8_leastBehind : ByteArray := prog_10_method_9_code
def yX8_leastBehind : MethodName := ⟨RX8, "leastBehind", "(I)I"⟩
abbrev cX8_writeRow : ByteArray := prog_10_method_10_code
def yX8_writeRow : MethodName := ⟨RX8, "writeRow", "(I)V"⟩
abbrev cX8_firstSideOnward : ByteArray := prog_10_method_11_code
def yX8_firstSideOnward : MethodName := ⟨RX8, "firstSideOnward", "(I)I"⟩
def RX9 : String := "HeldPart$Shelf"
def TX9 : u_T := fun k => match k with
  | 0 => ("HeldPart$Shelf", "contact", "LHeldPart$Pin;", false)
  | 1 => ("HeldPart$Shelf", "ints", "[I", false)
  | _ => ("HeldPart$Shelf", "bytes", "[B", false)
def tyX9 : Nat → FieldType := fun k => match k with
  | 0 => .object "HeldPart$Pin"
  | 1 => .array .int
  | _ => .array .byte
abbrev wsX90 : List Cond := u_ws RX9 TX9 3
theorem nmX9 : ∀ a, a < 3 → ∀ b, b < 3 → a ≠ b → (TX9 a).2.1 ≠ (TX9 b).2.1 := by decide +kernel
theorem tyX9_ok : ∀ k, k < 3 → parseFieldDescriptor (TX9 k).2.2.1 = some (tyX9 k) := by decide +kernel
abbrev cX9_init : ByteArray := prog_11_method_1_code
def yX9_init : MethodName := ⟨RX9, "<init>", "()V"⟩
abbrev cX9_clear : ByteArray := prog_11_method_2_code
def yX9_clear : MethodName := ⟨RX9, "clear", "()V"⟩
abbrev cX9_take : ByteArray := prog_11_method_3_code
def yX9_take : MethodName := ⟨RX9, "take", "(LHeldPart$Pin;)V"⟩
abbrev cX9_takeInts : ByteArray := prog_11_method_4_code
def yX9_takeInts : MethodName := ⟨RX9, "takeInts", "([I)V"⟩
abbrev cX9_takeBytes : ByteArray := prog_11_method_5_code
def yX9_takeBytes : MethodName := ⟨RX9, "takeBytes", "([B)V"⟩
abbrev cX9_isBare : ByteArray := prog_11_method_6_code
def yX9_isBare : MethodName := ⟨RX9, "isBare", "()Z"⟩
abbrev cX9_isRowLike : ByteArray := prog_11_method_7_code
def yX9_isRowLike : MethodName := ⟨RX9, "isRowLike", "(LHeldPart$Shelf;)Z"⟩
abbrev cX9_hasPlaces : ByteArray := prog_11_method_8_code
def yX9_hasPlaces : MethodName := ⟨RX9, "hasPlaces", "(II)Z"⟩
abbrev cX9_valueAt : ByteArray := prog_11_method_9_code
def yX9_valueAt : MethodName := ⟨RX9, "valueAt", "(I)J"⟩
abbrev cX9_passOn : ByteArray := prog_11_method_10_code
def yX9_passOn : MethodName := ⟨RX9, "passOn", "(ILHeldPart$Shelf;II)V"⟩
def RX10 : String := "HeldPart"
def TX10 : u_T := fun k => match k with
  | 0 => ("HeldPart", "contacts", "[LHeldPart$Pin;", true)
  | 1 => ("HeldPart", "contactCount", "I", false)
  | 2 => ("HeldPart", "directions", "LHeldPart$Cone;", true)
  | 3 => ("HeldPart", "pushes", "LHeldPart$Cone;", true)
  | 4 => ("HeldPart", "clamped", "[J", true)
  | 5 => ("HeldPart", "pushesAreOld", "Z", false)
  | 6 => ("HeldPart", "cut", "LHeldPart$Cut;", true)
  | 7 => ("HeldPart", "misses", "LHeldPart$Misses;", true)
  | 8 => ("HeldPart", "plan", "LHeldPart$Plan;", true)
  | 9 => ("HeldPart", "path", "LHeldPart$Path;", true)
  | _ => ("HeldPart", "shelves", "[LHeldPart$Shelf;", true)
def tyX10 : Nat → FieldType := fun k => match k with
  | 0 => .array (.object "HeldPart$Pin")
  | 1 => .int
  | 2 => .object "HeldPart$Cone"
  | 3 => .object "HeldPart$Cone"
  | 4 => .array .long
  | 5 => .boolean
  | 6 => .object "HeldPart$Cut"
  | 7 => .object "HeldPart$Misses"
  | 8 => .object "HeldPart$Plan"
  | 9 => .object "HeldPart$Path"
  | _ => .array (.object "HeldPart$Shelf")
abbrev wsX100 : List Cond := u_ws RX10 TX10 11
theorem nmX10 : ∀ a, a < 11 → ∀ b, b < 11 → a ≠ b → (TX10 a).2.1 ≠ (TX10 b).2.1 := by decide +kernel
theorem tyX10_ok : ∀ k, k < 11 → parseFieldDescriptor (TX10 k).2.2.1 = some (tyX10 k) := by decide +kernel
abbrev cX10_init : ByteArray := prog_1_method_1_code
def yX10_init : MethodName := ⟨RX10, "<init>", "()V"⟩
abbrev cX10_contact : ByteArray := prog_1_method_2_code
def yX10_contact : MethodName := ⟨RX10, "contact", "(IIII)I"⟩
abbrev cX10_undo : ByteArray := prog_1_method_3_code
def yX10_undo : MethodName := ⟨RX10, "undo", "()I"⟩
abbrev cX10_move : ByteArray := prog_1_method_4_code
def yX10_move : MethodName := ⟨RX10, "move", "(III)I"⟩
abbrev cX10_miss : ByteArray := prog_1_method_5_code
def yX10_miss : MethodName := ⟨RX10, "miss", "(II)I"⟩
abbrev cX10_look : ByteArray := prog_1_method_6_code
def yX10_look : MethodName := ⟨RX10, "look", "(II)I"⟩
abbrev cX10_wrench : ByteArray := prog_1_method_7_code
def yX10_wrench : MethodName := ⟨RX10, "wrench", "(III)J"⟩
abbrev cX10_rank : ByteArray := prog_1_method_8_code
def yX10_rank : MethodName := ⟨RX10, "rank", "()I"⟩
abbrev cX10_hidden : ByteArray := prog_1_method_9_code
def yX10_hidden : MethodName := ⟨RX10, "hidden", "(I)J"⟩
abbrev cX10_form : ByteArray := prog_1_method_10_code
def yX10_form : MethodName := ⟨RX10, "form", "()I"⟩
abbrev cX10_without : ByteArray := prog_1_method_11_code
def yX10_without : MethodName := ⟨RX10, "without", "(I)I"⟩
abbrev cX10_held : ByteArray := prog_1_method_12_code
def yX10_held : MethodName := ⟨RX10, "held", "(IIII)I"⟩
abbrev cX10_load : ByteArray := prog_1_method_13_code
def yX10_load : MethodName := ⟨RX10, "load", "(III)I"⟩
abbrev cX10_unload : ByteArray := prog_1_method_14_code
def yX10_unload : MethodName := ⟨RX10, "unload", "()I"⟩
abbrev cX10_loads : ByteArray := prog_1_method_15_code
def yX10_loads : MethodName := ⟨RX10, "loads", "(I)I"⟩
abbrev cX10_pull : ByteArray := prog_1_method_16_code
def yX10_pull : MethodName := ⟨RX10, "pull", "()I"⟩
abbrev cX10_worst : ByteArray := prog_1_method_17_code
def yX10_worst : MethodName := ⟨RX10, "worst", "(IIIIZ)J"⟩
abbrev cX10_best : ByteArray := prog_1_method_18_code
def yX10_best : MethodName := ⟨RX10, "best", "(III)I"⟩
abbrev cX10_step : ByteArray := prog_1_method_19_code
def yX10_step : MethodName := ⟨RX10, "step", "(II)I"⟩
abbrev cX10_setups : ByteArray := prog_1_method_20_code
def yX10_setups : MethodName := ⟨RX10, "setups", "()I"⟩
abbrev cX10_setup : ByteArray := prog_1_method_21_code
def yX10_setup : MethodName := ⟨RX10, "setup", "(II)I"⟩
abbrev cX10_told : ByteArray := prog_1_method_22_code
def yX10_told : MethodName := ⟨RX10, "told", "(II)I"⟩
abbrev cX10_point : ByteArray := prog_1_method_23_code
def yX10_point : MethodName := ⟨RX10, "point", "(II)I"⟩
abbrev cX10_tool : ByteArray := prog_1_method_24_code
def yX10_tool : MethodName := ⟨RX10, "tool", "(I)I"⟩
abbrev cX10_meets : ByteArray := prog_1_method_25_code
def yX10_meets : MethodName := ⟨RX10, "meets", "(I)I"⟩
abbrev cX10_met : ByteArray := prog_1_method_26_code
def yX10_met : MethodName := ⟨RX10, "met", "()I"⟩
abbrev cX10_count : ByteArray := prog_1_method_27_code
def yX10_count : MethodName := ⟨RX10, "count", "(I)I"⟩
abbrev cX10_keep : ByteArray := prog_1_method_28_code
def yX10_keep : MethodName := ⟨RX10, "keep", "(III)I"⟩
abbrev cX10_make : ByteArray := prog_1_method_29_code
def yX10_make : MethodName := ⟨RX10, "make", "(III)I"⟩
abbrev cX10_element : ByteArray := prog_1_method_30_code
def yX10_element : MethodName := ⟨RX10, "element", "(II)J"⟩
abbrev cX10_copy : ByteArray := prog_1_method_31_code
def yX10_copy : MethodName := ⟨RX10, "copy", "(IIIII)I"⟩
abbrev cX10_weight : ByteArray := prog_1_method_32_code
def yX10_weight : MethodName := ⟨RX10, "weight", "(I)I"⟩
abbrev cX10_toss : ByteArray := prog_1_method_33_code
def yX10_toss : MethodName := ⟨RX10, "toss", "(I)I"⟩
abbrev cX10_isWithin : ByteArray := prog_1_method_34_code
def yX10_isWithin : MethodName := ⟨RX10, "isWithin", "(II)Z"⟩
abbrev cX10_isPlace : ByteArray := prog_1_method_35_code
def yX10_isPlace : MethodName := ⟨RX10, "isPlace", "(II)Z"⟩
abbrev cX10_isDirection : ByteArray := prog_1_method_36_code
def yX10_isDirection : MethodName := ⟨RX10, "isDirection", "(I)Z"⟩
abbrev cX10_isGrip : ByteArray := prog_1_method_37_code
def yX10_isGrip : MethodName := ⟨RX10, "isGrip", "(II)Z"⟩
abbrev cX10_isLoad : ByteArray := prog_1_method_38_code
def yX10_isLoad : MethodName := ⟨RX10, "isLoad", "(III)Z"⟩
abbrev cX10_isPull : ByteArray := prog_1_method_39_code
def yX10_isPull : MethodName := ⟨RX10, "isPull", "(I)Z"⟩
abbrev cX10_contactAt : ByteArray := prog_1_method_40_code
def yX10_contactAt : MethodName := ⟨RX10, "contactAt", "(I)LHeldPart$Pin;"⟩
abbrev cX10_placerAt : ByteArray := prog_1_method_41_code
def yX10_placerAt : MethodName := ⟨RX10, "placerAt", "(I)LHeldPart$Pin;"⟩
abbrev cX10_shelfAt : ByteArray := prog_1_method_42_code
def yX10_shelfAt : MethodName := ⟨RX10, "shelfAt", "(I)LHeldPart$Shelf;"⟩
abbrev cX10_made : ByteArray := prog_1_method_43_code
def yX10_made : MethodName := ⟨RX10, "made", "(IIIIII)LHeldPart$Pin;"⟩
abbrev cX10_twinOf : ByteArray := prog_1_method_44_code
def yX10_twinOf : MethodName := ⟨RX10, "twinOf", "(LHeldPart$Pin;)LHeldPart$Pin;"⟩
abbrev cX10_failureOf : ByteArray := prog_1_method_45_code
def yX10_failureOf : MethodName := ⟨RX10, "failureOf", "(LHeldPart$Pin;)I"⟩
abbrev cX10_wrenchRow : ByteArray := prog_1_method_46_code
def yX10_wrenchRow : MethodName := ⟨RX10, "wrenchRow", "()[I"⟩
abbrev cX10_takePlacing : ByteArray := prog_1_method_47_code
def yX10_takePlacing : MethodName := ⟨RX10, "takePlacing", "()V"⟩
abbrev cX10_isFormHeld : ByteArray := prog_1_method_48_code
def yX10_isFormHeld : MethodName := ⟨RX10, "isFormHeld", "(I)Z"⟩
abbrev cX10_refreshPushes : ByteArray := prog_1_method_49_code
def yX10_refreshPushes : MethodName := ⟨RX10, "refreshPushes", "()V"⟩
abbrev cX10_addPushes : ByteArray := prog_1_method_50_code
def yX10_addPushes : MethodName := ⟨RX10, "addPushes", "(LHeldPart$Pin;)V"⟩
abbrev cX10_isHeld : ByteArray := prog_1_method_51_code
def yX10_isHeld : MethodName := ⟨RX10, "isHeld", "(JJJJ)Z"⟩
abbrev cX10_tryThree : ByteArray := prog_1_method_52_code
def yX10_tryThree : MethodName := ⟨RX10, "tryThree", "(III)V"⟩
abbrev cX10_commonDivisor : ByteArray := prog_1_method_53_code
def yX10_commonDivisor : MethodName := ⟨RX10, "commonDivisor", "(JJ)J"⟩
def RX11 : String := "HeldPartModel"
def TX11 : u_T := fun k => match k with
  | 0 => ("HeldPartModel", "thrown", "I", false)
  | 1 => ("HeldPartModel", "contacts", "I", false)
  | 2 => ("HeldPartModel", "kind", "[I", true)
  | 3 => ("HeldPartModel", "way", "[I", true)
  | 4 => ("HeldPartModel", "x", "[I", true)
  | 5 => ("HeldPartModel", "y", "[I", true)
  | 6 => ("HeldPartModel", "grip", "[I", true)
  | 7 => ("HeldPartModel", "body", "[I", true)
  | 8 => ("HeldPartModel", "miss", "[I", true)
  | 9 => ("HeldPartModel", "many", "I", false)
  | 10 => ("HeldPartModel", "row", "[J", true)
  | 11 => ("HeldPartModel", "cross", "[J", true)
  | 12 => ("HeldPartModel", "rank0", "I", false)
  | 13 => ("HeldPartModel", "faces", "I", false)
  | 14 => ("HeldPartModel", "face", "[J", true)
  | 15 => ("HeldPartModel", "clampSum", "[J", true)
  | 16 => ("HeldPartModel", "goal", "[J", true)
  | 17 => ("HeldPartModel", "loads", "I", false)
  | 18 => ("HeldPartModel", "load", "[I", true)
  | 19 => ("HeldPartModel", "three", "[J", true)
  | 20 => ("HeldPartModel", "feature", "[J", true)
  | 21 => ("HeldPartModel", "above", "J", false)
  | 22 => ("HeldPartModel", "below", "J", false)
  | 23 => ("HeldPartModel", "steps", "I", false)
  | 24 => ("HeldPartModel", "sides", "[I", true)
  | 25 => ("HeldPartModel", "ahead", "[I", true)
  | 26 => ("HeldPartModel", "more", "[I", true)
  | 27 => ("HeldPartModel", "points", "I", false)
  | 28 => ("HeldPartModel", "radius", "I", false)
  | 29 => ("HeldPartModel", "px", "[I", true)
  | 30 => ("HeldPartModel", "py", "[I", true)
  | 31 => ("HeldPartModel", "held", "[I", true)
  | 32 => ("HeldPartModel", "heldNumber", "[I", true)
  | 33 => ("HeldPartModel", "heldKind", "[I", true)
  | 34 => ("HeldPartModel", "heldGrip", "[I", true)
  | 35 => ("HeldPartModel", "heldBody", "[I", true)
  | 36 => ("HeldPartModel", "size", "[I", true)
  | 37 => ("HeldPartModel", "item", "[I", true)
  | _ => ("HeldPartModel", "aside", "[I", true)
def tyX11 : Nat → FieldType := fun k => match k with
  | 0 => .int
  | 1 => .int
  | 2 => .array .int
  | 3 => .array .int
  | 4 => .array .int
  | 5 => .array .int
  | 6 => .array .int
  | 7 => .array .int
  | 8 => .array .int
  | 9 => .int
  | 10 => .array .long
  | 11 => .array .long
  | 12 => .int
  | 13 => .int
  | 14 => .array .long
  | 15 => .array .long
  | 16 => .array .long
  | 17 => .int
  | 18 => .array .int
  | 19 => .array .long
  | 20 => .array .long
  | 21 => .long
  | 22 => .long
  | 23 => .int
  | 24 => .array .int
  | 25 => .array .int
  | 26 => .array .int
  | 27 => .int
  | 28 => .int
  | 29 => .array .int
  | 30 => .array .int
  | 31 => .array .int
  | 32 => .array .int
  | 33 => .array .int
  | 34 => .array .int
  | 35 => .array .int
  | 36 => .array .int
  | 37 => .array .int
  | _ => .array .int
abbrev wsX110 : List Cond := u_ws RX11 TX11 39
theorem nmX11 : ∀ a, a < 39 → ∀ b, b < 39 → a ≠ b → (TX11 a).2.1 ≠ (TX11 b).2.1 := by decide +kernel
theorem tyX11_ok : ∀ k, k < 39 → parseFieldDescriptor (TX11 k).2.2.1 = some (tyX11 k) := by decide +kernel
abbrev cX11_init : ByteArray := prog_13_method_1_code
def yX11_init : MethodName := ⟨RX11, "<init>", "()V"⟩
abbrev cX11_thrown : ByteArray := prog_13_method_2_code
def yX11_thrown : MethodName := ⟨RX11, "thrown", "()I"⟩
abbrev cX11_in : ByteArray := prog_13_method_3_code
def yX11_in : MethodName := ⟨RX11, "in", "(III)Z"⟩
abbrev cX11_abs : ByteArray := prog_13_method_4_code
def yX11_abs : MethodName := ⟨RX11, "abs", "(J)J"⟩
abbrev cX11_isContact : ByteArray := prog_13_method_5_code
def yX11_isContact : MethodName := ⟨RX11, "isContact", "(I)Z"⟩
abbrev cX11_isPlace : ByteArray := prog_13_method_6_code
def yX11_isPlace : MethodName := ⟨RX11, "isPlace", "(II)Z"⟩
abbrev cX11_hasGrip : ByteArray := prog_13_method_7_code
def yX11_hasGrip : MethodName := ⟨RX11, "hasGrip", "(I)Z"⟩
abbrev cX11_contact : ByteArray := prog_13_method_8_code
def yX11_contact : MethodName := ⟨RX11, "contact", "(IIII)I"⟩
abbrev cX11_undo : ByteArray := prog_13_method_9_code
def yX11_undo : MethodName := ⟨RX11, "undo", "()I"⟩
abbrev cX11_move : ByteArray := prog_13_method_10_code
def yX11_move : MethodName := ⟨RX11, "move", "(III)I"⟩
abbrev cX11_miss : ByteArray := prog_13_method_11_code
def yX11_miss : MethodName := ⟨RX11, "miss", "(II)I"⟩
abbrev cX11_pushesOf : ByteArray := prog_13_method_12_code
def yX11_pushesOf : MethodName := ⟨RX11, "pushesOf", "(I)I"⟩
abbrev cX11_look : ByteArray := prog_13_method_13_code
def yX11_look : MethodName := ⟨RX11, "look", "(II)I"⟩
abbrev cX11_along : ByteArray := prog_13_method_14_code
def yX11_along : MethodName := ⟨RX11, "along", "(I)I"⟩
abbrev cX11_up : ByteArray := prog_13_method_15_code
def yX11_up : MethodName := ⟨RX11, "up", "(I)I"⟩
abbrev cX11_part : ByteArray := prog_13_method_16_code
def yX11_part : MethodName := ⟨RX11, "part", "(JJIII)J"⟩
abbrev cX11_direct : ByteArray := prog_13_method_17_code
def yX11_direct : MethodName := ⟨RX11, "direct", "(II)J"⟩
abbrev cX11_pushed : ByteArray := prog_13_method_18_code
def yX11_pushed : MethodName := ⟨RX11, "pushed", "(III)J"⟩
abbrev cX11_wrench : ByteArray := prog_13_method_19_code
def yX11_wrench : MethodName := ⟨RX11, "wrench", "(III)J"⟩
abbrev cX11_add : ByteArray := prog_13_method_20_code
def yX11_add : MethodName := ⟨RX11, "add", "(JJJ)V"⟩
abbrev cX11_addDirections : ByteArray := prog_13_method_21_code
def yX11_addDirections : MethodName := ⟨RX11, "addDirections", "(IZ)V"⟩
abbrev cX11_across : ByteArray := prog_13_method_22_code
def yX11_across : MethodName := ⟨RX11, "across", "(II)Z"⟩
abbrev cX11_against : ByteArray := prog_13_method_23_code
def yX11_against : MethodName := ⟨RX11, "against", "(I)J"⟩
abbrev cX11_isNought : ByteArray := prog_13_method_24_code
def yX11_isNought : MethodName := ⟨RX11, "isNought", "(I)Z"⟩
abbrev cX11_rankOf : ByteArray := prog_13_method_25_code
def yX11_rankOf : MethodName := ⟨RX11, "rankOf", "()I"⟩
abbrev cX11_rank : ByteArray := prog_13_method_26_code
def yX11_rank : MethodName := ⟨RX11, "rank", "()I"⟩
abbrev cX11_divisor : ByteArray := prog_13_method_27_code
def yX11_divisor : MethodName := ⟨RX11, "divisor", "(JJ)J"⟩
abbrev cX11_findHidden : ByteArray := prog_13_method_28_code
def yX11_findHidden : MethodName := ⟨RX11, "findHidden", "()V"⟩
abbrev cX11_hidden : ByteArray := prog_13_method_29_code
def yX11_hidden : MethodName := ⟨RX11, "hidden", "(I)J"⟩
abbrev cX11_sideOf : ByteArray := prog_13_method_30_code
def yX11_sideOf : MethodName := ⟨RX11, "sideOf", "()I"⟩
abbrev cX11_isForm : ByteArray := prog_13_method_31_code
def yX11_isForm : MethodName := ⟨RX11, "isForm", "()I"⟩
abbrev cX11_form : ByteArray := prog_13_method_32_code
def yX11_form : MethodName := ⟨RX11, "form", "()I"⟩
abbrev cX11_without : ByteArray := prog_13_method_33_code
def yX11_without : MethodName := ⟨RX11, "without", "(I)I"⟩
abbrev cX11_prepare : ByteArray := prog_13_method_34_code
def yX11_prepare : MethodName := ⟨RX11, "prepare", "()V"⟩
abbrev cX11_isFace : ByteArray := prog_13_method_35_code
def yX11_isFace : MethodName := ⟨RX11, "isFace", "(I)Z"⟩
abbrev cX11_isGoalIn : ByteArray := prog_13_method_36_code
def yX11_isGoalIn : MethodName := ⟨RX11, "isGoalIn", "()Z"⟩
abbrev cX11_isAlong : ByteArray := prog_13_method_37_code
def yX11_isAlong : MethodName := ⟨RX11, "isAlong", "(I)Z"⟩
abbrev cX11_isBetween : ByteArray := prog_13_method_38_code
def yX11_isBetween : MethodName := ⟨RX11, "isBetween", "(II)Z"⟩
abbrev cX11_isHeld : ByteArray := prog_13_method_39_code
def yX11_isHeld : MethodName := ⟨RX11, "isHeld", "(IIII)Z"⟩
abbrev cX11_isLoad : ByteArray := prog_13_method_40_code
def yX11_isLoad : MethodName := ⟨RX11, "isLoad", "(III)Z"⟩
abbrev cX11_held : ByteArray := prog_13_method_41_code
def yX11_held : MethodName := ⟨RX11, "held", "(IIII)I"⟩
abbrev cX11_load : ByteArray := prog_13_method_42_code
def yX11_load : MethodName := ⟨RX11, "load", "(III)I"⟩
abbrev cX11_unload : ByteArray := prog_13_method_43_code
def yX11_unload : MethodName := ⟨RX11, "unload", "()I"⟩
abbrev cX11_heldLoads : ByteArray := prog_13_method_44_code
def yX11_heldLoads : MethodName := ⟨RX11, "heldLoads", "(I)I"⟩
abbrev cX11_loads : ByteArray := prog_13_method_45_code
def yX11_loads : MethodName := ⟨RX11, "loads", "(I)I"⟩
abbrev cX11_pull : ByteArray := prog_13_method_46_code
def yX11_pull : MethodName := ⟨RX11, "pull", "()I"⟩
abbrev cX11_determinant : ByteArray := prog_13_method_47_code
def yX11_determinant : MethodName := ⟨RX11, "determinant", "(I)J"⟩
abbrev cX11_at : ByteArray := prog_13_method_48_code
def yX11_at : MethodName := ⟨RX11, "at", "(III)J"⟩
abbrev cX11_setFeature : ByteArray := prog_13_method_49_code
def yX11_setFeature : MethodName := ⟨RX11, "setFeature", "(III)V"⟩
abbrev cX11_findWorst : ByteArray := prog_13_method_50_code
def yX11_findWorst : MethodName := ⟨RX11, "findWorst", "(III)Z"⟩
abbrev cX11_isFeature : ByteArray := prog_13_method_51_code
def yX11_isFeature : MethodName := ⟨RX11, "isFeature", "(III)Z"⟩
abbrev cX11_canPlace : ByteArray := prog_13_method_52_code
def yX11_canPlace : MethodName := ⟨RX11, "canPlace", "(I)Z"⟩
abbrev cX11_worst : ByteArray := prog_13_method_53_code
def yX11_worst : MethodName := ⟨RX11, "worst", "(IIIIZ)J"⟩
abbrev cX11_best : ByteArray := prog_13_method_54_code
def yX11_best : MethodName := ⟨RX11, "best", "(III)I"⟩
abbrev cX11_step : ByteArray := prog_13_method_55_code
def yX11_step : MethodName := ⟨RX11, "step", "(II)I"⟩
abbrev cX11_work : ByteArray := prog_13_method_56_code
def yX11_work : MethodName := ⟨RX11, "work", "(II)I"⟩
abbrev cX11_findFewest : ByteArray := prog_13_method_57_code
def yX11_findFewest : MethodName := ⟨RX11, "findFewest", "()V"⟩
abbrev cX11_setups : ByteArray := prog_13_method_58_code
def yX11_setups : MethodName := ⟨RX11, "setups", "()I"⟩
abbrev cX11_sideFor : ByteArray := prog_13_method_59_code
def yX11_sideFor : MethodName := ⟨RX11, "sideFor", "(I)I"⟩
abbrev cX11_setup : ByteArray := prog_13_method_60_code
def yX11_setup : MethodName := ⟨RX11, "setup", "(II)I"⟩
abbrev cX11_told : ByteArray := prog_13_method_61_code
def yX11_told : MethodName := ⟨RX11, "told", "(II)I"⟩
abbrev cX11_point : ByteArray := prog_13_method_62_code
def yX11_point : MethodName := ⟨RX11, "point", "(II)I"⟩
abbrev cX11_tool : ByteArray := prog_13_method_63_code
def yX11_tool : MethodName := ⟨RX11, "tool", "(I)I"⟩
abbrev cX11_isNear : ByteArray := prog_13_method_64_code
def yX11_isNear : MethodName := ⟨RX11, "isNear", "(III)Z"⟩
abbrev cX11_firstMeeting : ByteArray := prog_13_method_65_code
def yX11_firstMeeting : MethodName := ⟨RX11, "firstMeeting", "(I)I"⟩
abbrev cX11_meets : ByteArray := prog_13_method_66_code
def yX11_meets : MethodName := ⟨RX11, "meets", "(I)I"⟩
abbrev cX11_met : ByteArray := prog_13_method_67_code
def yX11_met : MethodName := ⟨RX11, "met", "()I"⟩
abbrev cX11_count : ByteArray := prog_13_method_68_code
def yX11_count : MethodName := ⟨RX11, "count", "(I)I"⟩
abbrev cX11_isShelf : ByteArray := prog_13_method_69_code
def yX11_isShelf : MethodName := ⟨RX11, "isShelf", "(I)Z"⟩
abbrev cX11_wipe : ByteArray := prog_13_method_70_code
def yX11_wipe : MethodName := ⟨RX11, "wipe", "(I)V"⟩
abbrev cX11_keep : ByteArray := prog_13_method_71_code
def yX11_keep : MethodName := ⟨RX11, "keep", "(III)I"⟩
abbrev cX11_make : ByteArray := prog_13_method_72_code
def yX11_make : MethodName := ⟨RX11, "make", "(III)I"⟩
abbrev cX11_element : ByteArray := prog_13_method_73_code
def yX11_element : MethodName := ⟨RX11, "element", "(II)J"⟩
abbrev cX11_copy : ByteArray := prog_13_method_74_code
def yX11_copy : MethodName := ⟨RX11, "copy", "(IIIII)I"⟩
abbrev cX11_lacksContact : ByteArray := prog_13_method_75_code
def yX11_lacksContact : MethodName := ⟨RX11, "lacksContact", "(I)I"⟩
abbrev cX11_weight : ByteArray := prog_13_method_76_code
def yX11_weight : MethodName := ⟨RX11, "weight", "(I)I"⟩
abbrev cX11_toss : ByteArray := prog_13_method_77_code
def yX11_toss : MethodName := ⟨RX11, "toss", "(I)I"⟩
def RJ9 : String := "java/lang/Math"
def TJ9 : u_T := fun k => match k with
  | _ => ("", "", "", false)
def tyJ9 : Nat → FieldType := fun k => match k with
  | _ => .int
abbrev wsJ90 : List Cond := u_ws RJ9 TJ9 0
theorem nmJ9 : ∀ a, a < 0 → ∀ b, b < 0 → a ≠ b → (TJ9 a).2.1 ≠ (TJ9 b).2.1 := by decide +kernel
theorem tyJ9_ok : ∀ k, k < 0 → parseFieldDescriptor (TJ9 k).2.2.1 = some (tyJ9 k) := by decide +kernel
abbrev cJ9_floorDiv_f86c9 : ByteArray := prog_17_method_49_code
def yJ9_floorDiv_f86c9 : MethodName := ⟨RJ9, "floorDiv", "(JJ)J"⟩
abbrev cJ9_abs_067f4 : ByteArray := prog_17_method_61_code
def yJ9_abs_067f4 : MethodName := ⟨RJ9, "abs", "(J)J"⟩
abbrev cJ9_max_f86c9 : ByteArray := prog_17_method_66_code
def yJ9_max_f86c9 : MethodName := ⟨RJ9, "max", "(JJ)J"⟩
abbrev cJ9_min_7cf53 : ByteArray := prog_17_method_69_code
def yJ9_min_7cf53 : MethodName := ⟨RJ9, "min", "(II)I"⟩
abbrev cJ9_min_f86c9 : ByteArray := prog_17_method_70_code
def yJ9_min_f86c9 : MethodName := ⟨RJ9, "min", "(JJ)J"⟩
def RJ0 : String := "java/lang/String"
def TJ0 : u_T := fun k => match k with
  | _ => ("", "", "", false)
def tyJ0 : Nat → FieldType := fun k => match k with
  | _ => .int
abbrev wsJ00 : List Cond := u_ws RJ0 TJ0 0
theorem nmJ0 : ∀ a, a < 0 → ∀ b, b < 0 → a ≠ b → (TJ0 a).2.1 ≠ (TJ0 b).2.1 := by decide +kernel
theorem tyJ0_ok : ∀ k, k < 0 → parseFieldDescriptor (TJ0 k).2.2.1 = some (tyJ0 k) := by decide +kernel
def RJ10 : String := "java/lang/System"
def TJ10 : u_T := fun k => match k with
  | _ => ("", "", "", false)
def tyJ10 : Nat → FieldType := fun k => match k with
  | _ => .int
abbrev wsJ100 : List Cond := u_ws RJ10 TJ10 0
theorem nmJ10 : ∀ a, a < 0 → ∀ b, b < 0 → a ≠ b → (TJ10 a).2.1 ≠ (TJ10 b).2.1 := by decide +kernel
theorem tyJ10_ok : ∀ k, k < 0 → parseFieldDescriptor (TJ10 k).2.2.1 = some (tyJ10 k) := by decide +kernel
def RL : String := "HeldPartLaw"
abbrev cL_wrench : ByteArray := method_3_code
def yL_wrench : MethodName := ⟨RL, "wrench", "(LHeldPart;III[J)I"⟩
abbrev cL_hidden : ByteArray := method_4_code
def yL_hidden : MethodName := ⟨RL, "hidden", "(LHeldPart;I[J)I"⟩
abbrev cL_worst : ByteArray := method_5_code
def yL_worst : MethodName := ⟨RL, "worst", "(LHeldPart;IIIIZ[J)I"⟩
abbrev cL_element : ByteArray := method_6_code
def yL_element : MethodName := ⟨RL, "element", "(LHeldPart;II[J)I"⟩
abbrev cL_law : ByteArray := code
def yL_law : MethodName := ⟨RL, "law", "([I)Z"⟩
abbrev vwCl : List vw_C := [(RX0, TX0, 9), (RX1, TX1, 8), (RX2, TX2, 11), (RX3, TX3, 6), (RX4, TX4, 9), (RX5, TX5, 9), (RX6, TX6, 4), (RX7, TX7, 8), (RX8, TX8, 8), (RX9, TX9, 3), (RX10, TX10, 11), (RX11, TX11, 39)]
end
section
theorem dX0_init_0 : decode cX0_init 0 = .ok (.aload_n 0, 1) := by decide +kernel
theorem dX0_init_1 : decode cX0_init 1 = .ok (.iload_n 1, 1) := by decide +kernel
theorem dX0_init_2 : decode cX0_init 2 = .ok (.iload_n 2, 1) := by decide +kernel
theorem dX0_init_3 : decode cX0_init 3 = .ok (.iload_n 3, 1) := by decide +kernel
theorem dX0_init_4 : decode cX0_init 4 = .ok (.iload 4, 2) := by decide +kernel
theorem dX0_init_6 : decode cX0_init 6 = .ok (.iload 5, 2) := by decide +kernel
theorem dX0_init_8 : decode cX0_init 8 = .ok (.invokespecial 3, 3) := by decide +kernel
theorem dX0_init_11 : decode cX0_init 11 = .ok (.return_, 1) := by decide +kernel
theorem dX0_kind_0 : decode cX0_kind 0 = .ok (.iconst 3, 1) := by decide +kernel
theorem dX0_kind_1 : decode cX0_kind 1 = .ok (.ireturn, 1) := by decide +kernel
theorem dX0_pushCount_0 : decode cX0_pushCount 0 = .ok (.iconst 3, 1) := by decide +kernel
theorem dX0_pushCount_1 : decode cX0_pushCount 1 = .ok (.ireturn, 1) := by decide +kernel
theorem dX0_leans_0 : decode cX0_leans 0 = .ok (.iconst 1, 1) := by decide +kernel
theorem dX0_leans_1 : decode cX0_leans 1 = .ok (.iload_n 1, 1) := by decide +kernel
theorem dX0_leans_2 : decode cX0_leans 2 = .ok (.isub, 1) := by decide +kernel
theorem dX0_leans_3 : decode cX0_leans 3 = .ok (.ireturn, 1) := by decide +kernel
theorem dX0_weighs_0 : decode cX0_weighs 0 = .ok (.iconst 2, 1) := by decide +kernel
theorem dX0_weighs_1 : decode cX0_weighs 1 = .ok (.bipush 10, 2) := by decide +kernel
theorem dX0_weighs_3 : decode cX0_weighs 3 = .ok (.aload_n 0, 1) := by decide +kernel
theorem dX0_weighs_4 : decode cX0_weighs 4 = .ok (.getfield 9, 3) := by decide +kernel
theorem dX0_weighs_7 : decode cX0_weighs 7 = .ok (.iadd, 1) := by decide +kernel
theorem dX0_weighs_8 : decode cX0_weighs 8 = .ok (.aload_n 0, 1) := by decide +kernel
theorem dX0_weighs_9 : decode cX0_weighs 9 = .ok (.getfield 15, 3) := by decide +kernel
theorem dX0_weighs_12 : decode cX0_weighs 12 = .ok (.iadd, 1) := by decide +kernel
theorem dX0_weighs_13 : decode cX0_weighs 13 = .ok (.bipush 100, 2) := by decide +kernel
theorem dX0_weighs_15 : decode cX0_weighs 15 = .ok (.iadd, 1) := by decide +kernel
theorem dX0_weighs_16 : decode cX0_weighs 16 = .ok (.imul, 1) := by decide +kernel
theorem dX0_weighs_17 : decode cX0_weighs 17 = .ok (.ireturn, 1) := by decide +kernel
theorem dX1_init_0 : decode cX1_init 0 = .ok (.aload_n 0, 1) := by decide +kernel
theorem dX1_init_1 : decode cX1_init 1 = .ok (.iload_n 1, 1) := by decide +kernel
theorem dX1_init_2 : decode cX1_init 2 = .ok (.iload_n 2, 1) := by decide +kernel
theorem dX1_init_3 : decode cX1_init 3 = .ok (.iload_n 3, 1) := by decide +kernel
theorem dX1_init_4 : decode cX1_init 4 = .ok (.iload 4, 2) := by decide +kernel
theorem dX1_init_6 : decode cX1_init 6 = .ok (.invokespecial 3, 3) := by decide +kernel
theorem dX1_init_9 : decode cX1_init 9 = .ok (.return_, 1) := by decide +kernel
theorem dX1_kind_0 : decode cX1_kind 0 = .ok (.iconst 2, 1) := by decide +kernel
theorem dX1_kind_1 : decode cX1_kind 1 = .ok (.ireturn, 1) := by decide +kernel
theorem dX1_places_0 : decode cX1_places 0 = .ok (.iconst 0, 1) := by decide +kernel
theorem dX1_places_1 : decode cX1_places 1 = .ok (.ireturn, 1) := by decide +kernel
theorem dX1_weighs_0 : decode cX1_weighs 0 = .ok (.bipush 10, 2) := by decide +kernel
theorem dX1_weighs_2 : decode cX1_weighs 2 = .ok (.aload_n 0, 1) := by decide +kernel
theorem dX1_weighs_3 : decode cX1_weighs 3 = .ok (.getfield 9, 3) := by decide +kernel
theorem dX1_weighs_6 : decode cX1_weighs 6 = .ok (.iadd, 1) := by decide +kernel
theorem dX1_weighs_7 : decode cX1_weighs 7 = .ok (.sipush 1000, 3) := by decide +kernel
theorem dX1_weighs_10 : decode cX1_weighs 10 = .ok (.iadd, 1) := by decide +kernel
theorem dX1_weighs_11 : decode cX1_weighs 11 = .ok (.ireturn, 1) := by decide +kernel
theorem dX2_init_0 : decode cX2_init 0 = .ok (.aload_n 0, 1) := by decide +kernel
theorem dX2_init_1 : decode cX2_init 1 = .ok (.invokespecial 3, 3) := by decide +kernel
theorem dX2_init_4 : decode cX2_init 4 = .ok (.aload_n 0, 1) := by decide +kernel
theorem dX2_init_5 : decode cX2_init 5 = .ok (.bipush 30, 2) := by decide +kernel
theorem dX2_init_7 : decode cX2_init 7 = .ok (.newarray .long, 2) := by decide +kernel
theorem dX2_init_9 : decode cX2_init 9 = .ok (.putfield 9, 3) := by decide +kernel
theorem dX2_init_12 : decode cX2_init 12 = .ok (.aload_n 0, 1) := by decide +kernel
theorem dX2_init_13 : decode cX2_init 13 = .ok (.bipush 30, 2) := by decide +kernel
theorem dX2_init_15 : decode cX2_init 15 = .ok (.newarray .long, 2) := by decide +kernel
theorem dX2_init_17 : decode cX2_init 17 = .ok (.putfield 15, 3) := by decide +kernel
theorem dX2_init_20 : decode cX2_init 20 = .ok (.aload_n 0, 1) := by decide +kernel
theorem dX2_init_21 : decode cX2_init 21 = .ok (.bipush 30, 2) := by decide +kernel
theorem dX2_init_23 : decode cX2_init 23 = .ok (.newarray .long, 2) := by decide +kernel
theorem dX2_init_25 : decode cX2_init 25 = .ok (.putfield 18, 3) := by decide +kernel
theorem dX2_init_28 : decode cX2_init 28 = .ok (.aload_n 0, 1) := by decide +kernel
theorem dX2_init_29 : decode cX2_init 29 = .ok (.iconst 0, 1) := by decide +kernel
theorem dX2_init_30 : decode cX2_init 30 = .ok (.putfield 21, 3) := by decide +kernel
theorem dX2_init_33 : decode cX2_init 33 = .ok (.aload_n 0, 1) := by decide +kernel
theorem dX2_init_34 : decode cX2_init 34 = .ok (.bipush 32, 2) := by decide +kernel
theorem dX2_init_36 : decode cX2_init 36 = .ok (.newarray .long, 2) := by decide +kernel
theorem dX2_init_38 : decode cX2_init 38 = .ok (.putfield 25, 3) := by decide +kernel
theorem dX2_init_41 : decode cX2_init 41 = .ok (.aload_n 0, 1) := by decide +kernel
theorem dX2_init_42 : decode cX2_init 42 = .ok (.bipush 32, 2) := by decide +kernel
theorem dX2_init_44 : decode cX2_init 44 = .ok (.newarray .long, 2) := by decide +kernel
theorem dX2_init_46 : decode cX2_init 46 = .ok (.putfield 28, 3) := by decide +kernel
theorem dX2_init_49 : decode cX2_init 49 = .ok (.aload_n 0, 1) := by decide +kernel
theorem dX2_init_50 : decode cX2_init 50 = .ok (.bipush 32, 2) := by decide +kernel
theorem dX2_init_52 : decode cX2_init 52 = .ok (.newarray .long, 2) := by decide +kernel
theorem dX2_init_54 : decode cX2_init 54 = .ok (.putfield 31, 3) := by decide +kernel
theorem dX2_init_57 : decode cX2_init 57 = .ok (.aload_n 0, 1) := by decide +kernel
theorem dX2_init_58 : decode cX2_init 58 = .ok (.iconst 0, 1) := by decide +kernel
theorem dX2_init_59 : decode cX2_init 59 = .ok (.putfield 34, 3) := by decide +kernel
theorem dX2_init_62 : decode cX2_init 62 = .ok (.aload_n 0, 1) := by decide +kernel
theorem dX2_init_63 : decode cX2_init 63 = .ok (.lconst 0, 1) := by decide +kernel
theorem dX2_init_64 : decode cX2_init 64 = .ok (.putfield 37, 3) := by decide +kernel
theorem dX2_init_67 : decode cX2_init 67 = .ok (.aload_n 0, 1) := by decide +kernel
theorem dX2_init_68 : decode cX2_init 68 = .ok (.lconst 0, 1) := by decide +kernel
theorem dX2_init_69 : decode cX2_init 69 = .ok (.putfield 41, 3) := by decide +kernel
theorem dX2_init_72 : decode cX2_init 72 = .ok (.aload_n 0, 1) := by decide +kernel
theorem dX2_init_73 : decode cX2_init 73 = .ok (.lconst 0, 1) := by decide +kernel
theorem dX2_init_74 : decode cX2_init 74 = .ok (.putfield 44, 3) := by decide +kernel
theorem dX2_init_77 : decode cX2_init 77 = .ok (.return_, 1) := by decide +kernel
theorem dX2_clear_0 : decode cX2_clear 0 = .ok (.aload_n 0, 1) := by decide +kernel
theorem dX2_clear_1 : decode cX2_clear 1 = .ok (.iconst 0, 1) := by decide +kernel
theorem dX2_clear_2 : decode cX2_clear 2 = .ok (.putfield 21, 3) := by decide +kernel
theorem dX2_clear_5 : decode cX2_clear 5 = .ok (.aload_n 0, 1) := by decide +kernel
theorem dX2_clear_6 : decode cX2_clear 6 = .ok (.iconst 0, 1) := by decide +kernel
theorem dX2_clear_7 : decode cX2_clear 7 = .ok (.putfield 34, 3) := by decide +kernel
theorem dX2_clear_10 : decode cX2_clear 10 = .ok (.return_, 1) := by decide +kernel
theorem dX2_add_0 : decode cX2_add 0 = .ok (.aload_n 0, 1) := by decide +kernel
theorem dX2_add_1 : decode cX2_add 1 = .ok (.getfield 21, 3) := by decide +kernel
theorem dX2_add_4 : decode cX2_add 4 = .ok (.bipush 30, 2) := by decide +kernel
theorem dX2_add_6 : decode cX2_add 6 = .ok (.if_icmp .ge 58, 3) := by decide +kernel
theorem dX2_add_9 : decode cX2_add 9 = .ok (.aload_n 0, 1) := by decide +kernel
theorem dX2_add_10 : decode cX2_add 10 = .ok (.getfield 9, 3) := by decide +kernel
theorem dX2_add_13 : decode cX2_add 13 = .ok (.aload_n 0, 1) := by decide +kernel
theorem dX2_add_14 : decode cX2_add 14 = .ok (.getfield 21, 3) := by decide +kernel
theorem dX2_add_17 : decode cX2_add 17 = .ok (.aload_n 1, 1) := by decide +kernel
theorem dX2_add_18 : decode cX2_add 18 = .ok (.iload_n 2, 1) := by decide +kernel
theorem dX2_add_19 : decode cX2_add 19 = .ok (.invokevirtual 47, 3) := by decide +kernel
theorem dX2_add_22 : decode cX2_add 22 = .ok (.i2l, 1) := by decide +kernel
theorem dX2_add_23 : decode cX2_add 23 = .ok (.lastore, 1) := by decide +kernel
theorem dX2_add_24 : decode cX2_add 24 = .ok (.aload_n 0, 1) := by decide +kernel
theorem dX2_add_25 : decode cX2_add 25 = .ok (.getfield 15, 3) := by decide +kernel
theorem dX2_add_28 : decode cX2_add 28 = .ok (.aload_n 0, 1) := by decide +kernel
theorem dX2_add_29 : decode cX2_add 29 = .ok (.getfield 21, 3) := by decide +kernel
theorem dX2_add_32 : decode cX2_add 32 = .ok (.aload_n 1, 1) := by decide +kernel
theorem dX2_add_33 : decode cX2_add 33 = .ok (.iload_n 2, 1) := by decide +kernel
theorem dX2_add_34 : decode cX2_add 34 = .ok (.invokevirtual 53, 3) := by decide +kernel
theorem dX2_add_37 : decode cX2_add 37 = .ok (.i2l, 1) := by decide +kernel
theorem dX2_add_38 : decode cX2_add 38 = .ok (.lastore, 1) := by decide +kernel
theorem dX2_add_39 : decode cX2_add 39 = .ok (.aload_n 0, 1) := by decide +kernel
theorem dX2_add_40 : decode cX2_add 40 = .ok (.getfield 18, 3) := by decide +kernel
theorem dX2_add_43 : decode cX2_add 43 = .ok (.aload_n 0, 1) := by decide +kernel
theorem dX2_add_44 : decode cX2_add 44 = .ok (.getfield 21, 3) := by decide +kernel
theorem dX2_add_47 : decode cX2_add 47 = .ok (.aload_n 1, 1) := by decide +kernel
theorem dX2_add_48 : decode cX2_add 48 = .ok (.iload_n 2, 1) := by decide +kernel
theorem dX2_add_49 : decode cX2_add 49 = .ok (.invokevirtual 56, 3) := by decide +kernel
theorem dX2_add_52 : decode cX2_add 52 = .ok (.i2l, 1) := by decide +kernel
theorem dX2_add_53 : decode cX2_add 53 = .ok (.lastore, 1) := by decide +kernel
theorem dX2_add_54 : decode cX2_add 54 = .ok (.aload_n 0, 1) := by decide +kernel
theorem dX2_add_55 : decode cX2_add 55 = .ok (.dup, 1) := by decide +kernel
theorem dX2_add_56 : decode cX2_add 56 = .ok (.getfield 21, 3) := by decide +kernel
theorem dX2_add_59 : decode cX2_add 59 = .ok (.iconst 1, 1) := by decide +kernel
theorem dX2_add_60 : decode cX2_add 60 = .ok (.iadd, 1) := by decide +kernel
theorem dX2_add_61 : decode cX2_add 61 = .ok (.putfield 21, 3) := by decide +kernel
theorem dX2_add_64 : decode cX2_add 64 = .ok (.return_, 1) := by decide +kernel
theorem dX2_measured_0 : decode cX2_measured 0 = .ok (.aload_n 0, 1) := by decide +kernel
theorem dX2_measured_1 : decode cX2_measured 1 = .ok (.getfield 21, 3) := by decide +kernel
theorem dX2_measured_4 : decode cX2_measured 4 = .ok (.ifCond .ne 7, 3) := by decide +kernel
theorem dX2_measured_7 : decode cX2_measured 7 = .ok (.iconst 0, 1) := by decide +kernel
theorem dX2_measured_8 : decode cX2_measured 8 = .ok (.goto 4, 3) := by decide +kernel
theorem dX2_measured_11 : decode cX2_measured 11 = .ok (.iconst 1, 1) := by decide +kernel
theorem dX2_measured_12 : decode cX2_measured 12 = .ok (.istore_n 1, 1) := by decide +kernel
theorem dX2_measured_13 : decode cX2_measured 13 = .ok (.iconst 1, 1) := by decide +kernel
theorem dX2_measured_14 : decode cX2_measured 14 = .ok (.istore_n 2, 1) := by decide +kernel
theorem dX2_measured_15 : decode cX2_measured 15 = .ok (.iload_n 2, 1) := by decide +kernel
theorem dX2_measured_16 : decode cX2_measured 16 = .ok (.aload_n 0, 1) := by decide +kernel
theorem dX2_measured_17 : decode cX2_measured 17 = .ok (.getfield 21, 3) := by decide +kernel
theorem dX2_measured_20 : decode cX2_measured 20 = .ok (.if_icmp .ge 66, 3) := by decide +kernel
theorem dX2_measured_23 : decode cX2_measured 23 = .ok (.iload_n 1, 1) := by decide +kernel
theorem dX2_measured_24 : decode cX2_measured 24 = .ok (.iconst 1, 1) := by decide +kernel
theorem dX2_measured_25 : decode cX2_measured 25 = .ok (.if_icmp .ne 61, 3) := by decide +kernel
theorem dX2_measured_28 : decode cX2_measured 28 = .ok (.aload_n 0, 1) := by decide +kernel
theorem dX2_measured_29 : decode cX2_measured 29 = .ok (.aload_n 0, 1) := by decide +kernel
theorem dX2_measured_30 : decode cX2_measured 30 = .ok (.getfield 9, 3) := by decide +kernel
theorem dX2_measured_33 : decode cX2_measured 33 = .ok (.iconst 0, 1) := by decide +kernel
theorem dX2_measured_34 : decode cX2_measured 34 = .ok (.laload, 1) := by decide +kernel
theorem dX2_measured_35 : decode cX2_measured 35 = .ok (.aload_n 0, 1) := by decide +kernel
theorem dX2_measured_36 : decode cX2_measured 36 = .ok (.getfield 15, 3) := by decide +kernel
theorem dX2_measured_39 : decode cX2_measured 39 = .ok (.iconst 0, 1) := by decide +kernel
theorem dX2_measured_40 : decode cX2_measured 40 = .ok (.laload, 1) := by decide +kernel
theorem dX2_measured_41 : decode cX2_measured 41 = .ok (.aload_n 0, 1) := by decide +kernel
theorem dX2_measured_42 : decode cX2_measured 42 = .ok (.getfield 18, 3) := by decide +kernel
theorem dX2_measured_45 : decode cX2_measured 45 = .ok (.iconst 0, 1) := by decide +kernel
theorem dX2_measured_46 : decode cX2_measured 46 = .ok (.laload, 1) := by decide +kernel
theorem dX2_measured_47 : decode cX2_measured 47 = .ok (.iload_n 2, 1) := by decide +kernel
theorem dX2_measured_48 : decode cX2_measured 48 = .ok (.invokevirtual 59, 3) := by decide +kernel
theorem dX2_measured_51 : decode cX2_measured 51 = .ok (.aload_n 0, 1) := by decide +kernel
theorem dX2_measured_52 : decode cX2_measured 52 = .ok (.getfield 37, 3) := by decide +kernel
theorem dX2_measured_55 : decode cX2_measured 55 = .ok (.lconst 0, 1) := by decide +kernel
theorem dX2_measured_56 : decode cX2_measured 56 = .ok (.lcmp, 1) := by decide +kernel
theorem dX2_measured_57 : decode cX2_measured 57 = .ok (.ifCond .ne 21, 3) := by decide +kernel
theorem dX2_measured_60 : decode cX2_measured 60 = .ok (.aload_n 0, 1) := by decide +kernel
theorem dX2_measured_61 : decode cX2_measured 61 = .ok (.getfield 41, 3) := by decide +kernel
theorem dX2_measured_64 : decode cX2_measured 64 = .ok (.lconst 0, 1) := by decide +kernel
theorem dX2_measured_65 : decode cX2_measured 65 = .ok (.lcmp, 1) := by decide +kernel
theorem dX2_measured_66 : decode cX2_measured 66 = .ok (.ifCond .ne 12, 3) := by decide +kernel
theorem dX2_measured_69 : decode cX2_measured 69 = .ok (.aload_n 0, 1) := by decide +kernel
theorem dX2_measured_70 : decode cX2_measured 70 = .ok (.getfield 44, 3) := by decide +kernel
theorem dX2_measured_73 : decode cX2_measured 73 = .ok (.lconst 0, 1) := by decide +kernel
theorem dX2_measured_74 : decode cX2_measured 74 = .ok (.lcmp, 1) := by decide +kernel
theorem dX2_measured_75 : decode cX2_measured 75 = .ok (.ifCond .eq 5, 3) := by decide +kernel
theorem dX2_measured_78 : decode cX2_measured 78 = .ok (.iconst 2, 1) := by decide +kernel
theorem dX2_measured_79 : decode cX2_measured 79 = .ok (.istore_n 1, 1) := by decide +kernel
theorem dX2_measured_80 : decode cX2_measured 80 = .ok (.iinc 2 1, 3) := by decide +kernel
theorem dX2_measured_83 : decode cX2_measured 83 = .ok (.goto (-68), 3) := by decide +kernel
theorem dX2_measured_86 : decode cX2_measured 86 = .ok (.iconst 1, 1) := by decide +kernel
theorem dX2_measured_87 : decode cX2_measured 87 = .ok (.istore_n 2, 1) := by decide +kernel
theorem dX2_measured_88 : decode cX2_measured 88 = .ok (.iload_n 2, 1) := by decide +kernel
theorem dX2_measured_89 : decode cX2_measured 89 = .ok (.aload_n 0, 1) := by decide +kernel
theorem dX2_measured_90 : decode cX2_measured 90 = .ok (.getfield 21, 3) := by decide +kernel
theorem dX2_measured_93 : decode cX2_measured 93 = .ok (.if_icmp .ge 26, 3) := by decide +kernel
theorem dX2_measured_96 : decode cX2_measured 96 = .ok (.iload_n 1, 1) := by decide +kernel
theorem dX2_measured_97 : decode cX2_measured 97 = .ok (.iconst 2, 1) := by decide +kernel
theorem dX2_measured_98 : decode cX2_measured 98 = .ok (.if_icmp .ne 21, 3) := by decide +kernel
theorem dX2_measured_101 : decode cX2_measured 101 = .ok (.aload_n 0, 1) := by decide +kernel
theorem dX2_measured_102 : decode cX2_measured 102 = .ok (.iload_n 2, 1) := by decide +kernel
theorem dX2_measured_103 : decode cX2_measured 103 = .ok (.invokevirtual 63, 3) := by decide +kernel
theorem dX2_measured_106 : decode cX2_measured 106 = .ok (.lconst 0, 1) := by decide +kernel
theorem dX2_measured_107 : decode cX2_measured 107 = .ok (.lcmp, 1) := by decide +kernel
theorem dX2_measured_108 : decode cX2_measured 108 = .ok (.ifCond .eq 5, 3) := by decide +kernel
theorem dX2_measured_111 : decode cX2_measured 111 = .ok (.iconst 3, 1) := by decide +kernel
theorem dX2_measured_112 : decode cX2_measured 112 = .ok (.istore_n 1, 1) := by decide +kernel
theorem dX2_measured_113 : decode cX2_measured 113 = .ok (.iinc 2 1, 3) := by decide +kernel
theorem dX2_measured_116 : decode cX2_measured 116 = .ok (.goto (-28), 3) := by decide +kernel
theorem dX2_measured_119 : decode cX2_measured 119 = .ok (.iload_n 1, 1) := by decide +kernel
theorem dX2_measured_120 : decode cX2_measured 120 = .ok (.ireturn, 1) := by decide +kernel
theorem dX2_reduceNormal_0 : decode cX2_reduceNormal 0 = .ok (.aload_n 0, 1) := by decide +kernel
theorem dX2_reduceNormal_1 : decode cX2_reduceNormal 1 = .ok (.getfield 37, 3) := by decide +kernel
theorem dX2_reduceNormal_4 : decode cX2_reduceNormal 4 = .ok (.aload_n 0, 1) := by decide +kernel
theorem dX2_reduceNormal_5 : decode cX2_reduceNormal 5 = .ok (.getfield 41, 3) := by decide +kernel
theorem dX2_reduceNormal_8 : decode cX2_reduceNormal 8 = .ok (.invokestatic 67, 3) := by decide +kernel
theorem dX2_reduceNormal_11 : decode cX2_reduceNormal 11 = .ok (.aload_n 0, 1) := by decide +kernel
theorem dX2_reduceNormal_12 : decode cX2_reduceNormal 12 = .ok (.getfield 44, 3) := by decide +kernel
theorem dX2_reduceNormal_15 : decode cX2_reduceNormal 15 = .ok (.invokestatic 67, 3) := by decide +kernel
theorem dX2_reduceNormal_18 : decode cX2_reduceNormal 18 = .ok (.lstore_n 1, 1) := by decide +kernel
theorem dX2_reduceNormal_19 : decode cX2_reduceNormal 19 = .ok (.aload_n 0, 1) := by decide +kernel
theorem dX2_reduceNormal_20 : decode cX2_reduceNormal 20 = .ok (.getfield 44, 3) := by decide +kernel
theorem dX2_reduceNormal_23 : decode cX2_reduceNormal 23 = .ok (.lconst 0, 1) := by decide +kernel
theorem dX2_reduceNormal_24 : decode cX2_reduceNormal 24 = .ok (.lcmp, 1) := by decide +kernel
theorem dX2_reduceNormal_25 : decode cX2_reduceNormal 25 = .ok (.ifCond .eq 10, 3) := by decide +kernel
theorem dX2_reduceNormal_28 : decode cX2_reduceNormal 28 = .ok (.aload_n 0, 1) := by decide +kernel
theorem dX2_reduceNormal_29 : decode cX2_reduceNormal 29 = .ok (.getfield 44, 3) := by decide +kernel
theorem dX2_reduceNormal_32 : decode cX2_reduceNormal 32 = .ok (.goto 23, 3) := by decide +kernel
theorem dX2_reduceNormal_35 : decode cX2_reduceNormal 35 = .ok (.aload_n 0, 1) := by decide +kernel
theorem dX2_reduceNormal_36 : decode cX2_reduceNormal 36 = .ok (.getfield 37, 3) := by decide +kernel
theorem dX2_reduceNormal_39 : decode cX2_reduceNormal 39 = .ok (.lconst 0, 1) := by decide +kernel
theorem dX2_reduceNormal_40 : decode cX2_reduceNormal 40 = .ok (.lcmp, 1) := by decide +kernel
theorem dX2_reduceNormal_41 : decode cX2_reduceNormal 41 = .ok (.ifCond .eq 10, 3) := by decide +kernel
theorem dX2_reduceNormal_44 : decode cX2_reduceNormal 44 = .ok (.aload_n 0, 1) := by decide +kernel
theorem dX2_reduceNormal_45 : decode cX2_reduceNormal 45 = .ok (.getfield 37, 3) := by decide +kernel
theorem dX2_reduceNormal_48 : decode cX2_reduceNormal 48 = .ok (.goto 7, 3) := by decide +kernel
theorem dX2_reduceNormal_51 : decode cX2_reduceNormal 51 = .ok (.aload_n 0, 1) := by decide +kernel
theorem dX2_reduceNormal_52 : decode cX2_reduceNormal 52 = .ok (.getfield 41, 3) := by decide +kernel
theorem dX2_reduceNormal_55 : decode cX2_reduceNormal 55 = .ok (.lstore_n 3, 1) := by decide +kernel
theorem dX2_reduceNormal_56 : decode cX2_reduceNormal 56 = .ok (.lload_n 3, 1) := by decide +kernel
theorem dX2_reduceNormal_57 : decode cX2_reduceNormal 57 = .ok (.lconst 0, 1) := by decide +kernel
theorem dX2_reduceNormal_58 : decode cX2_reduceNormal 58 = .ok (.lcmp, 1) := by decide +kernel
theorem dX2_reduceNormal_59 : decode cX2_reduceNormal 59 = .ok (.ifCond .ge 6, 3) := by decide +kernel
theorem dX2_reduceNormal_62 : decode cX2_reduceNormal 62 = .ok (.lload_n 1, 1) := by decide +kernel
theorem dX2_reduceNormal_63 : decode cX2_reduceNormal 63 = .ok (.lneg, 1) := by decide +kernel
theorem dX2_reduceNormal_64 : decode cX2_reduceNormal 64 = .ok (.lstore_n 1, 1) := by decide +kernel
theorem dX2_reduceNormal_65 : decode cX2_reduceNormal 65 = .ok (.lload_n 1, 1) := by decide +kernel
theorem dX2_reduceNormal_66 : decode cX2_reduceNormal 66 = .ok (.lconst 0, 1) := by decide +kernel
theorem dX2_reduceNormal_67 : decode cX2_reduceNormal 67 = .ok (.lcmp, 1) := by decide +kernel
theorem dX2_reduceNormal_68 : decode cX2_reduceNormal 68 = .ok (.ifCond .eq 33, 3) := by decide +kernel
theorem dX2_reduceNormal_71 : decode cX2_reduceNormal 71 = .ok (.aload_n 0, 1) := by decide +kernel
theorem dX2_reduceNormal_72 : decode cX2_reduceNormal 72 = .ok (.dup, 1) := by decide +kernel
theorem dX2_reduceNormal_73 : decode cX2_reduceNormal 73 = .ok (.getfield 37, 3) := by decide +kernel
theorem dX2_reduceNormal_76 : decode cX2_reduceNormal 76 = .ok (.lload_n 1, 1) := by decide +kernel
theorem dX2_reduceNormal_77 : decode cX2_reduceNormal 77 = .ok (.ldiv, 1) := by decide +kernel
theorem dX2_reduceNormal_78 : decode cX2_reduceNormal 78 = .ok (.putfield 37, 3) := by decide +kernel
theorem dX2_reduceNormal_81 : decode cX2_reduceNormal 81 = .ok (.aload_n 0, 1) := by decide +kernel
theorem dX2_reduceNormal_82 : decode cX2_reduceNormal 82 = .ok (.dup, 1) := by decide +kernel
theorem dX2_reduceNormal_83 : decode cX2_reduceNormal 83 = .ok (.getfield 41, 3) := by decide +kernel
theorem dX2_reduceNormal_86 : decode cX2_reduceNormal 86 = .ok (.lload_n 1, 1) := by decide +kernel
theorem dX2_reduceNormal_87 : decode cX2_reduceNormal 87 = .ok (.ldiv, 1) := by decide +kernel
theorem dX2_reduceNormal_88 : decode cX2_reduceNormal 88 = .ok (.putfield 41, 3) := by decide +kernel
theorem dX2_reduceNormal_91 : decode cX2_reduceNormal 91 = .ok (.aload_n 0, 1) := by decide +kernel
theorem dX2_reduceNormal_92 : decode cX2_reduceNormal 92 = .ok (.dup, 1) := by decide +kernel
theorem dX2_reduceNormal_93 : decode cX2_reduceNormal 93 = .ok (.getfield 44, 3) := by decide +kernel
theorem dX2_reduceNormal_96 : decode cX2_reduceNormal 96 = .ok (.lload_n 1, 1) := by decide +kernel
theorem dX2_reduceNormal_97 : decode cX2_reduceNormal 97 = .ok (.ldiv, 1) := by decide +kernel
theorem dX2_reduceNormal_98 : decode cX2_reduceNormal 98 = .ok (.putfield 44, 3) := by decide +kernel
theorem dX2_reduceNormal_101 : decode cX2_reduceNormal 101 = .ok (.return_, 1) := by decide +kernel
theorem dX2_bound_0 : decode cX2_bound 0 = .ok (.aload_n 0, 1) := by decide +kernel
theorem dX2_bound_1 : decode cX2_bound 1 = .ok (.iconst 0, 1) := by decide +kernel
theorem dX2_bound_2 : decode cX2_bound 2 = .ok (.putfield 34, 3) := by decide +kernel
theorem dX2_bound_5 : decode cX2_bound 5 = .ok (.aload_n 0, 1) := by decide +kernel
theorem dX2_bound_6 : decode cX2_bound 6 = .ok (.invokevirtual 71, 3) := by decide +kernel
theorem dX2_bound_9 : decode cX2_bound 9 = .ok (.tableswitch 65 0 2 #[27, 51, 58], 27) := by decide +kernel
theorem dX2_bound_36 : decode cX2_bound 36 = .ok (.aload_n 0, 1) := by decide +kernel
theorem dX2_bound_37 : decode cX2_bound 37 = .ok (.lconst 1, 1) := by decide +kernel
theorem dX2_bound_38 : decode cX2_bound 38 = .ok (.lconst 0, 1) := by decide +kernel
theorem dX2_bound_39 : decode cX2_bound 39 = .ok (.lconst 0, 1) := by decide +kernel
theorem dX2_bound_40 : decode cX2_bound 40 = .ok (.invokevirtual 75, 3) := by decide +kernel
theorem dX2_bound_43 : decode cX2_bound 43 = .ok (.aload_n 0, 1) := by decide +kernel
theorem dX2_bound_44 : decode cX2_bound 44 = .ok (.lconst 0, 1) := by decide +kernel
theorem dX2_bound_45 : decode cX2_bound 45 = .ok (.lconst 1, 1) := by decide +kernel
theorem dX2_bound_46 : decode cX2_bound 46 = .ok (.lconst 0, 1) := by decide +kernel
theorem dX2_bound_47 : decode cX2_bound 47 = .ok (.invokevirtual 75, 3) := by decide +kernel
theorem dX2_bound_50 : decode cX2_bound 50 = .ok (.aload_n 0, 1) := by decide +kernel
theorem dX2_bound_51 : decode cX2_bound 51 = .ok (.lconst 0, 1) := by decide +kernel
theorem dX2_bound_52 : decode cX2_bound 52 = .ok (.lconst 0, 1) := by decide +kernel
theorem dX2_bound_53 : decode cX2_bound 53 = .ok (.lconst 1, 1) := by decide +kernel
theorem dX2_bound_54 : decode cX2_bound 54 = .ok (.invokevirtual 75, 3) := by decide +kernel
theorem dX2_bound_57 : decode cX2_bound 57 = .ok (.goto 21, 3) := by decide +kernel
theorem dX2_bound_60 : decode cX2_bound 60 = .ok (.aload_n 0, 1) := by decide +kernel
theorem dX2_bound_61 : decode cX2_bound 61 = .ok (.invokevirtual 79, 3) := by decide +kernel
theorem dX2_bound_64 : decode cX2_bound 64 = .ok (.goto 14, 3) := by decide +kernel
theorem dX2_bound_67 : decode cX2_bound 67 = .ok (.aload_n 0, 1) := by decide +kernel
theorem dX2_bound_68 : decode cX2_bound 68 = .ok (.invokevirtual 82, 3) := by decide +kernel
theorem dX2_bound_71 : decode cX2_bound 71 = .ok (.goto 7, 3) := by decide +kernel
theorem dX2_bound_74 : decode cX2_bound 74 = .ok (.aload_n 0, 1) := by decide +kernel
theorem dX2_bound_75 : decode cX2_bound 75 = .ok (.invokevirtual 85, 3) := by decide +kernel
theorem dX2_bound_78 : decode cX2_bound 78 = .ok (.return_, 1) := by decide +kernel
theorem dX2_contains_0 : decode cX2_contains 0 = .ok (.iconst 0, 1) := by decide +kernel
theorem dX2_contains_1 : decode cX2_contains 1 = .ok (.istore 7, 2) := by decide +kernel
theorem dX2_contains_3 : decode cX2_contains 3 = .ok (.iload 7, 2) := by decide +kernel
theorem dX2_contains_5 : decode cX2_contains 5 = .ok (.aload_n 0, 1) := by decide +kernel
theorem dX2_contains_6 : decode cX2_contains 6 = .ok (.getfield 34, 3) := by decide +kernel
theorem dX2_contains_9 : decode cX2_contains 9 = .ok (.if_icmp .ge 26, 3) := by decide +kernel
theorem dX2_contains_12 : decode cX2_contains 12 = .ok (.aload_n 0, 1) := by decide +kernel
theorem dX2_contains_13 : decode cX2_contains 13 = .ok (.iload 7, 2) := by decide +kernel
theorem dX2_contains_15 : decode cX2_contains 15 = .ok (.lload_n 1, 1) := by decide +kernel
theorem dX2_contains_16 : decode cX2_contains 16 = .ok (.lload_n 3, 1) := by decide +kernel
theorem dX2_contains_17 : decode cX2_contains 17 = .ok (.lload 5, 2) := by decide +kernel
theorem dX2_contains_19 : decode cX2_contains 19 = .ok (.invokevirtual 88, 3) := by decide +kernel
theorem dX2_contains_22 : decode cX2_contains 22 = .ok (.lconst 0, 1) := by decide +kernel
theorem dX2_contains_23 : decode cX2_contains 23 = .ok (.lcmp, 1) := by decide +kernel
theorem dX2_contains_24 : decode cX2_contains 24 = .ok (.ifCond .ge 5, 3) := by decide +kernel
theorem dX2_contains_27 : decode cX2_contains 27 = .ok (.iconst 0, 1) := by decide +kernel
theorem dX2_contains_28 : decode cX2_contains 28 = .ok (.ireturn, 1) := by decide +kernel
theorem dX2_contains_29 : decode cX2_contains 29 = .ok (.iinc 7 1, 3) := by decide +kernel
theorem dX2_contains_32 : decode cX2_contains 32 = .ok (.goto (-29), 3) := by decide +kernel
theorem dX2_contains_35 : decode cX2_contains 35 = .ok (.iconst 1, 1) := by decide +kernel
theorem dX2_contains_36 : decode cX2_contains 36 = .ok (.ireturn, 1) := by decide +kernel
theorem dX2_along_0 : decode cX2_along 0 = .ok (.iload_n 1, 1) := by decide +kernel
theorem dX2_along_1 : decode cX2_along 1 = .ok (.ifCond .lt 17, 3) := by decide +kernel
theorem dX2_along_4 : decode cX2_along 4 = .ok (.iload_n 1, 1) := by decide +kernel
theorem dX2_along_5 : decode cX2_along 5 = .ok (.aload_n 0, 1) := by decide +kernel
theorem dX2_along_6 : decode cX2_along 6 = .ok (.getfield 34, 3) := by decide +kernel
theorem dX2_along_9 : decode cX2_along 9 = .ok (.if_icmp .ge 9, 3) := by decide +kernel
theorem dX2_along_12 : decode cX2_along 12 = .ok (.iload_n 1, 1) := by decide +kernel
theorem dX2_along_13 : decode cX2_along 13 = .ok (.bipush 32, 2) := by decide +kernel
theorem dX2_along_15 : decode cX2_along 15 = .ok (.if_icmp .lt 5, 3) := by decide +kernel
theorem dX2_along_18 : decode cX2_along 18 = .ok (.lconst 0, 1) := by decide +kernel
theorem dX2_along_19 : decode cX2_along 19 = .ok (.lreturn, 1) := by decide +kernel
theorem dX2_along_20 : decode cX2_along 20 = .ok (.aload_n 0, 1) := by decide +kernel
theorem dX2_along_21 : decode cX2_along 21 = .ok (.getfield 25, 3) := by decide +kernel
theorem dX2_along_24 : decode cX2_along 24 = .ok (.iload_n 1, 1) := by decide +kernel
theorem dX2_along_25 : decode cX2_along 25 = .ok (.laload, 1) := by decide +kernel
theorem dX2_along_26 : decode cX2_along 26 = .ok (.lload_n 2, 1) := by decide +kernel
theorem dX2_along_27 : decode cX2_along 27 = .ok (.lmul, 1) := by decide +kernel
theorem dX2_along_28 : decode cX2_along 28 = .ok (.aload_n 0, 1) := by decide +kernel
theorem dX2_along_29 : decode cX2_along 29 = .ok (.getfield 28, 3) := by decide +kernel
theorem dX2_along_32 : decode cX2_along 32 = .ok (.iload_n 1, 1) := by decide +kernel
theorem dX2_along_33 : decode cX2_along 33 = .ok (.laload, 1) := by decide +kernel
theorem dX2_along_34 : decode cX2_along 34 = .ok (.lload 4, 2) := by decide +kernel
theorem dX2_along_36 : decode cX2_along 36 = .ok (.lmul, 1) := by decide +kernel
theorem dX2_along_37 : decode cX2_along 37 = .ok (.ladd, 1) := by decide +kernel
theorem dX2_along_38 : decode cX2_along 38 = .ok (.aload_n 0, 1) := by decide +kernel
theorem dX2_along_39 : decode cX2_along 39 = .ok (.getfield 31, 3) := by decide +kernel
theorem dX2_along_42 : decode cX2_along 42 = .ok (.iload_n 1, 1) := by decide +kernel
theorem dX2_along_43 : decode cX2_along 43 = .ok (.laload, 1) := by decide +kernel
theorem dX2_along_44 : decode cX2_along 44 = .ok (.lload 6, 2) := by decide +kernel
theorem dX2_along_46 : decode cX2_along 46 = .ok (.lmul, 1) := by decide +kernel
theorem dX2_along_47 : decode cX2_along 47 = .ok (.ladd, 1) := by decide +kernel
theorem dX2_along_48 : decode cX2_along 48 = .ok (.lreturn, 1) := by decide +kernel
theorem dX2_boundLine_0 : decode cX2_boundLine 0 = .ok (.aload_n 0, 1) := by decide +kernel
theorem dX2_boundLine_1 : decode cX2_boundLine 1 = .ok (.lconst 0, 1) := by decide +kernel
theorem dX2_boundLine_2 : decode cX2_boundLine 2 = .ok (.aload_n 0, 1) := by decide +kernel
theorem dX2_boundLine_3 : decode cX2_boundLine 3 = .ok (.getfield 18, 3) := by decide +kernel
theorem dX2_boundLine_6 : decode cX2_boundLine 6 = .ok (.iconst 0, 1) := by decide +kernel
theorem dX2_boundLine_7 : decode cX2_boundLine 7 = .ok (.laload, 1) := by decide +kernel
theorem dX2_boundLine_8 : decode cX2_boundLine 8 = .ok (.aload_n 0, 1) := by decide +kernel
theorem dX2_boundLine_9 : decode cX2_boundLine 9 = .ok (.getfield 15, 3) := by decide +kernel
theorem dX2_boundLine_12 : decode cX2_boundLine 12 = .ok (.iconst 0, 1) := by decide +kernel
theorem dX2_boundLine_13 : decode cX2_boundLine 13 = .ok (.laload, 1) := by decide +kernel
theorem dX2_boundLine_14 : decode cX2_boundLine 14 = .ok (.lneg, 1) := by decide +kernel
theorem dX2_boundLine_15 : decode cX2_boundLine 15 = .ok (.invokevirtual 75, 3) := by decide +kernel
theorem dX2_boundLine_18 : decode cX2_boundLine 18 = .ok (.aload_n 0, 1) := by decide +kernel
theorem dX2_boundLine_19 : decode cX2_boundLine 19 = .ok (.aload_n 0, 1) := by decide +kernel
theorem dX2_boundLine_20 : decode cX2_boundLine 20 = .ok (.getfield 18, 3) := by decide +kernel
theorem dX2_boundLine_23 : decode cX2_boundLine 23 = .ok (.iconst 0, 1) := by decide +kernel
theorem dX2_boundLine_24 : decode cX2_boundLine 24 = .ok (.laload, 1) := by decide +kernel
theorem dX2_boundLine_25 : decode cX2_boundLine 25 = .ok (.lneg, 1) := by decide +kernel
theorem dX2_boundLine_26 : decode cX2_boundLine 26 = .ok (.lconst 0, 1) := by decide +kernel
theorem dX2_boundLine_27 : decode cX2_boundLine 27 = .ok (.aload_n 0, 1) := by decide +kernel
theorem dX2_boundLine_28 : decode cX2_boundLine 28 = .ok (.getfield 9, 3) := by decide +kernel
theorem dX2_boundLine_31 : decode cX2_boundLine 31 = .ok (.iconst 0, 1) := by decide +kernel
theorem dX2_boundLine_32 : decode cX2_boundLine 32 = .ok (.laload, 1) := by decide +kernel
theorem dX2_boundLine_33 : decode cX2_boundLine 33 = .ok (.invokevirtual 75, 3) := by decide +kernel
theorem dX2_boundLine_36 : decode cX2_boundLine 36 = .ok (.aload_n 0, 1) := by decide +kernel
theorem dX2_boundLine_37 : decode cX2_boundLine 37 = .ok (.aload_n 0, 1) := by decide +kernel
theorem dX2_boundLine_38 : decode cX2_boundLine 38 = .ok (.getfield 15, 3) := by decide +kernel
theorem dX2_boundLine_41 : decode cX2_boundLine 41 = .ok (.iconst 0, 1) := by decide +kernel
theorem dX2_boundLine_42 : decode cX2_boundLine 42 = .ok (.laload, 1) := by decide +kernel
theorem dX2_boundLine_43 : decode cX2_boundLine 43 = .ok (.aload_n 0, 1) := by decide +kernel
theorem dX2_boundLine_44 : decode cX2_boundLine 44 = .ok (.getfield 9, 3) := by decide +kernel
theorem dX2_boundLine_47 : decode cX2_boundLine 47 = .ok (.iconst 0, 1) := by decide +kernel
theorem dX2_boundLine_48 : decode cX2_boundLine 48 = .ok (.laload, 1) := by decide +kernel
theorem dX2_boundLine_49 : decode cX2_boundLine 49 = .ok (.lneg, 1) := by decide +kernel
theorem dX2_boundLine_50 : decode cX2_boundLine 50 = .ok (.lconst 0, 1) := by decide +kernel
theorem dX2_boundLine_51 : decode cX2_boundLine 51 = .ok (.invokevirtual 75, 3) := by decide +kernel
theorem dX2_boundLine_54 : decode cX2_boundLine 54 = .ok (.aload_n 0, 1) := by decide +kernel
theorem dX2_boundLine_55 : decode cX2_boundLine 55 = .ok (.aload_n 0, 1) := by decide +kernel
theorem dX2_boundLine_56 : decode cX2_boundLine 56 = .ok (.getfield 9, 3) := by decide +kernel
theorem dX2_boundLine_59 : decode cX2_boundLine 59 = .ok (.iconst 0, 1) := by decide +kernel
theorem dX2_boundLine_60 : decode cX2_boundLine 60 = .ok (.laload, 1) := by decide +kernel
theorem dX2_boundLine_61 : decode cX2_boundLine 61 = .ok (.putfield 37, 3) := by decide +kernel
theorem dX2_boundLine_64 : decode cX2_boundLine 64 = .ok (.aload_n 0, 1) := by decide +kernel
theorem dX2_boundLine_65 : decode cX2_boundLine 65 = .ok (.aload_n 0, 1) := by decide +kernel
theorem dX2_boundLine_66 : decode cX2_boundLine 66 = .ok (.getfield 15, 3) := by decide +kernel
theorem dX2_boundLine_69 : decode cX2_boundLine 69 = .ok (.iconst 0, 1) := by decide +kernel
theorem dX2_boundLine_70 : decode cX2_boundLine 70 = .ok (.laload, 1) := by decide +kernel
theorem dX2_boundLine_71 : decode cX2_boundLine 71 = .ok (.putfield 41, 3) := by decide +kernel
theorem dX2_boundLine_74 : decode cX2_boundLine 74 = .ok (.aload_n 0, 1) := by decide +kernel
theorem dX2_boundLine_75 : decode cX2_boundLine 75 = .ok (.aload_n 0, 1) := by decide +kernel
theorem dX2_boundLine_76 : decode cX2_boundLine 76 = .ok (.getfield 18, 3) := by decide +kernel
theorem dX2_boundLine_79 : decode cX2_boundLine 79 = .ok (.iconst 0, 1) := by decide +kernel
theorem dX2_boundLine_80 : decode cX2_boundLine 80 = .ok (.laload, 1) := by decide +kernel
theorem dX2_boundLine_81 : decode cX2_boundLine 81 = .ok (.putfield 44, 3) := by decide +kernel
theorem dX2_boundLine_84 : decode cX2_boundLine 84 = .ok (.aload_n 0, 1) := by decide +kernel
theorem dX2_boundLine_85 : decode cX2_boundLine 85 = .ok (.invokevirtual 92, 3) := by decide +kernel
theorem dX2_boundLine_88 : decode cX2_boundLine 88 = .ok (.return_, 1) := by decide +kernel
theorem dX2_boundPlane_0 : decode cX2_boundPlane 0 = .ok (.aload_n 0, 1) := by decide +kernel
theorem dX2_boundPlane_1 : decode cX2_boundPlane 1 = .ok (.getfield 37, 3) := by decide +kernel
theorem dX2_boundPlane_4 : decode cX2_boundPlane 4 = .ok (.lstore_n 1, 1) := by decide +kernel
theorem dX2_boundPlane_5 : decode cX2_boundPlane 5 = .ok (.aload_n 0, 1) := by decide +kernel
theorem dX2_boundPlane_6 : decode cX2_boundPlane 6 = .ok (.getfield 41, 3) := by decide +kernel
theorem dX2_boundPlane_9 : decode cX2_boundPlane 9 = .ok (.lstore_n 3, 1) := by decide +kernel
theorem dX2_boundPlane_10 : decode cX2_boundPlane 10 = .ok (.aload_n 0, 1) := by decide +kernel
theorem dX2_boundPlane_11 : decode cX2_boundPlane 11 = .ok (.getfield 44, 3) := by decide +kernel
theorem dX2_boundPlane_14 : decode cX2_boundPlane 14 = .ok (.lstore 5, 2) := by decide +kernel
theorem dX2_boundPlane_16 : decode cX2_boundPlane 16 = .ok (.aload_n 0, 1) := by decide +kernel
theorem dX2_boundPlane_17 : decode cX2_boundPlane 17 = .ok (.lload_n 1, 1) := by decide +kernel
theorem dX2_boundPlane_18 : decode cX2_boundPlane 18 = .ok (.lload_n 3, 1) := by decide +kernel
theorem dX2_boundPlane_19 : decode cX2_boundPlane 19 = .ok (.lload 5, 2) := by decide +kernel
theorem dX2_boundPlane_21 : decode cX2_boundPlane 21 = .ok (.invokevirtual 75, 3) := by decide +kernel
theorem dX2_boundPlane_24 : decode cX2_boundPlane 24 = .ok (.iconst 0, 1) := by decide +kernel
theorem dX2_boundPlane_25 : decode cX2_boundPlane 25 = .ok (.istore 7, 2) := by decide +kernel
theorem dX2_boundPlane_27 : decode cX2_boundPlane 27 = .ok (.iload 7, 2) := by decide +kernel
theorem dX2_boundPlane_29 : decode cX2_boundPlane 29 = .ok (.aload_n 0, 1) := by decide +kernel
theorem dX2_boundPlane_30 : decode cX2_boundPlane 30 = .ok (.getfield 21, 3) := by decide +kernel
theorem dX2_boundPlane_33 : decode cX2_boundPlane 33 = .ok (.if_icmp .ge 23, 3) := by decide +kernel
theorem dX2_boundPlane_36 : decode cX2_boundPlane 36 = .ok (.aload_n 0, 1) := by decide +kernel
theorem dX2_boundPlane_37 : decode cX2_boundPlane 37 = .ok (.lload_n 1, 1) := by decide +kernel
theorem dX2_boundPlane_38 : decode cX2_boundPlane 38 = .ok (.lload_n 3, 1) := by decide +kernel
theorem dX2_boundPlane_39 : decode cX2_boundPlane 39 = .ok (.lload 5, 2) := by decide +kernel
theorem dX2_boundPlane_41 : decode cX2_boundPlane 41 = .ok (.iload 7, 2) := by decide +kernel
theorem dX2_boundPlane_43 : decode cX2_boundPlane 43 = .ok (.invokevirtual 59, 3) := by decide +kernel
theorem dX2_boundPlane_46 : decode cX2_boundPlane 46 = .ok (.aload_n 0, 1) := by decide +kernel
theorem dX2_boundPlane_47 : decode cX2_boundPlane 47 = .ok (.invokevirtual 92, 3) := by decide +kernel
theorem dX2_boundPlane_50 : decode cX2_boundPlane 50 = .ok (.iinc 7 1, 3) := by decide +kernel
theorem dX2_boundPlane_53 : decode cX2_boundPlane 53 = .ok (.goto (-26), 3) := by decide +kernel
theorem dX2_boundPlane_56 : decode cX2_boundPlane 56 = .ok (.return_, 1) := by decide +kernel
theorem dX2_boundSpace_0 : decode cX2_boundSpace 0 = .ok (.iconst 0, 1) := by decide +kernel
theorem dX2_boundSpace_1 : decode cX2_boundSpace 1 = .ok (.istore_n 1, 1) := by decide +kernel
theorem dX2_boundSpace_2 : decode cX2_boundSpace 2 = .ok (.iload_n 1, 1) := by decide +kernel
theorem dX2_boundSpace_3 : decode cX2_boundSpace 3 = .ok (.aload_n 0, 1) := by decide +kernel
theorem dX2_boundSpace_4 : decode cX2_boundSpace 4 = .ok (.getfield 21, 3) := by decide +kernel
theorem dX2_boundSpace_7 : decode cX2_boundSpace 7 = .ok (.if_icmp .ge 93, 3) := by decide +kernel
theorem dX2_boundSpace_10 : decode cX2_boundSpace 10 = .ok (.iload_n 1, 1) := by decide +kernel
theorem dX2_boundSpace_11 : decode cX2_boundSpace 11 = .ok (.iconst 1, 1) := by decide +kernel
theorem dX2_boundSpace_12 : decode cX2_boundSpace 12 = .ok (.iadd, 1) := by decide +kernel
theorem dX2_boundSpace_13 : decode cX2_boundSpace 13 = .ok (.istore_n 2, 1) := by decide +kernel
theorem dX2_boundSpace_14 : decode cX2_boundSpace 14 = .ok (.iload_n 2, 1) := by decide +kernel
theorem dX2_boundSpace_15 : decode cX2_boundSpace 15 = .ok (.aload_n 0, 1) := by decide +kernel
theorem dX2_boundSpace_16 : decode cX2_boundSpace 16 = .ok (.getfield 21, 3) := by decide +kernel
theorem dX2_boundSpace_19 : decode cX2_boundSpace 19 = .ok (.if_icmp .ge 75, 3) := by decide +kernel
theorem dX2_boundSpace_22 : decode cX2_boundSpace 22 = .ok (.aload_n 0, 1) := by decide +kernel
theorem dX2_boundSpace_23 : decode cX2_boundSpace 23 = .ok (.iload_n 1, 1) := by decide +kernel
theorem dX2_boundSpace_24 : decode cX2_boundSpace 24 = .ok (.iload_n 2, 1) := by decide +kernel
theorem dX2_boundSpace_25 : decode cX2_boundSpace 25 = .ok (.invokevirtual 95, 3) := by decide +kernel
theorem dX2_boundSpace_28 : decode cX2_boundSpace 28 = .ok (.ifCond .eq 6, 3) := by decide +kernel
theorem dX2_boundSpace_31 : decode cX2_boundSpace 31 = .ok (.goto 57, 3) := by decide +kernel
theorem dX2_boundSpace_34 : decode cX2_boundSpace 34 = .ok (.aload_n 0, 1) := by decide +kernel
theorem dX2_boundSpace_35 : decode cX2_boundSpace 35 = .ok (.aload_n 0, 1) := by decide +kernel
theorem dX2_boundSpace_36 : decode cX2_boundSpace 36 = .ok (.getfield 9, 3) := by decide +kernel
theorem dX2_boundSpace_39 : decode cX2_boundSpace 39 = .ok (.iload_n 1, 1) := by decide +kernel
theorem dX2_boundSpace_40 : decode cX2_boundSpace 40 = .ok (.laload, 1) := by decide +kernel
theorem dX2_boundSpace_41 : decode cX2_boundSpace 41 = .ok (.aload_n 0, 1) := by decide +kernel
theorem dX2_boundSpace_42 : decode cX2_boundSpace 42 = .ok (.getfield 15, 3) := by decide +kernel
theorem dX2_boundSpace_45 : decode cX2_boundSpace 45 = .ok (.iload_n 1, 1) := by decide +kernel
theorem dX2_boundSpace_46 : decode cX2_boundSpace 46 = .ok (.laload, 1) := by decide +kernel
theorem dX2_boundSpace_47 : decode cX2_boundSpace 47 = .ok (.aload_n 0, 1) := by decide +kernel
theorem dX2_boundSpace_48 : decode cX2_boundSpace 48 = .ok (.getfield 18, 3) := by decide +kernel
theorem dX2_boundSpace_51 : decode cX2_boundSpace 51 = .ok (.iload_n 1, 1) := by decide +kernel
theorem dX2_boundSpace_52 : decode cX2_boundSpace 52 = .ok (.laload, 1) := by decide +kernel
theorem dX2_boundSpace_53 : decode cX2_boundSpace 53 = .ok (.iload_n 2, 1) := by decide +kernel
theorem dX2_boundSpace_54 : decode cX2_boundSpace 54 = .ok (.invokevirtual 59, 3) := by decide +kernel
theorem dX2_boundSpace_57 : decode cX2_boundSpace 57 = .ok (.aload_n 0, 1) := by decide +kernel
theorem dX2_boundSpace_58 : decode cX2_boundSpace 58 = .ok (.getfield 37, 3) := by decide +kernel
theorem dX2_boundSpace_61 : decode cX2_boundSpace 61 = .ok (.lconst 0, 1) := by decide +kernel
theorem dX2_boundSpace_62 : decode cX2_boundSpace 62 = .ok (.lcmp, 1) := by decide +kernel
theorem dX2_boundSpace_63 : decode cX2_boundSpace 63 = .ok (.ifCond .ne 21, 3) := by decide +kernel
theorem dX2_boundSpace_66 : decode cX2_boundSpace 66 = .ok (.aload_n 0, 1) := by decide +kernel
theorem dX2_boundSpace_67 : decode cX2_boundSpace 67 = .ok (.getfield 41, 3) := by decide +kernel
theorem dX2_boundSpace_70 : decode cX2_boundSpace 70 = .ok (.lconst 0, 1) := by decide +kernel
theorem dX2_boundSpace_71 : decode cX2_boundSpace 71 = .ok (.lcmp, 1) := by decide +kernel
theorem dX2_boundSpace_72 : decode cX2_boundSpace 72 = .ok (.ifCond .ne 12, 3) := by decide +kernel
theorem dX2_boundSpace_75 : decode cX2_boundSpace 75 = .ok (.aload_n 0, 1) := by decide +kernel
theorem dX2_boundSpace_76 : decode cX2_boundSpace 76 = .ok (.getfield 44, 3) := by decide +kernel
theorem dX2_boundSpace_79 : decode cX2_boundSpace 79 = .ok (.lconst 0, 1) := by decide +kernel
theorem dX2_boundSpace_80 : decode cX2_boundSpace 80 = .ok (.lcmp, 1) := by decide +kernel
theorem dX2_boundSpace_81 : decode cX2_boundSpace 81 = .ok (.ifCond .eq 7, 3) := by decide +kernel
theorem dX2_boundSpace_84 : decode cX2_boundSpace 84 = .ok (.aload_n 0, 1) := by decide +kernel
theorem dX2_boundSpace_85 : decode cX2_boundSpace 85 = .ok (.invokevirtual 92, 3) := by decide +kernel
theorem dX2_boundSpace_88 : decode cX2_boundSpace 88 = .ok (.iinc 2 1, 3) := by decide +kernel
theorem dX2_boundSpace_91 : decode cX2_boundSpace 91 = .ok (.goto (-77), 3) := by decide +kernel
theorem dX2_boundSpace_94 : decode cX2_boundSpace 94 = .ok (.iinc 1 1, 3) := by decide +kernel
theorem dX2_boundSpace_97 : decode cX2_boundSpace 97 = .ok (.goto (-95), 3) := by decide +kernel
theorem dX2_boundSpace_100 : decode cX2_boundSpace 100 = .ok (.return_, 1) := by decide +kernel
theorem dX2_isBoundBy_0 : decode cX2_isBoundBy 0 = .ok (.iconst 0, 1) := by decide +kernel
theorem dX2_isBoundBy_1 : decode cX2_isBoundBy 1 = .ok (.istore_n 3, 1) := by decide +kernel
theorem dX2_isBoundBy_2 : decode cX2_isBoundBy 2 = .ok (.iload_n 3, 1) := by decide +kernel
theorem dX2_isBoundBy_3 : decode cX2_isBoundBy 3 = .ok (.aload_n 0, 1) := by decide +kernel
theorem dX2_isBoundBy_4 : decode cX2_isBoundBy 4 = .ok (.getfield 34, 3) := by decide +kernel
theorem dX2_isBoundBy_7 : decode cX2_isBoundBy 7 = .ok (.if_icmp .ge 67, 3) := by decide +kernel
theorem dX2_isBoundBy_10 : decode cX2_isBoundBy 10 = .ok (.aload_n 0, 1) := by decide +kernel
theorem dX2_isBoundBy_11 : decode cX2_isBoundBy 11 = .ok (.iload_n 3, 1) := by decide +kernel
theorem dX2_isBoundBy_12 : decode cX2_isBoundBy 12 = .ok (.aload_n 0, 1) := by decide +kernel
theorem dX2_isBoundBy_13 : decode cX2_isBoundBy 13 = .ok (.getfield 9, 3) := by decide +kernel
theorem dX2_isBoundBy_16 : decode cX2_isBoundBy 16 = .ok (.iload_n 1, 1) := by decide +kernel
theorem dX2_isBoundBy_17 : decode cX2_isBoundBy 17 = .ok (.laload, 1) := by decide +kernel
theorem dX2_isBoundBy_18 : decode cX2_isBoundBy 18 = .ok (.aload_n 0, 1) := by decide +kernel
theorem dX2_isBoundBy_19 : decode cX2_isBoundBy 19 = .ok (.getfield 15, 3) := by decide +kernel
theorem dX2_isBoundBy_22 : decode cX2_isBoundBy 22 = .ok (.iload_n 1, 1) := by decide +kernel
theorem dX2_isBoundBy_23 : decode cX2_isBoundBy 23 = .ok (.laload, 1) := by decide +kernel
theorem dX2_isBoundBy_24 : decode cX2_isBoundBy 24 = .ok (.aload_n 0, 1) := by decide +kernel
theorem dX2_isBoundBy_25 : decode cX2_isBoundBy 25 = .ok (.getfield 18, 3) := by decide +kernel
theorem dX2_isBoundBy_28 : decode cX2_isBoundBy 28 = .ok (.iload_n 1, 1) := by decide +kernel
theorem dX2_isBoundBy_29 : decode cX2_isBoundBy 29 = .ok (.laload, 1) := by decide +kernel
theorem dX2_isBoundBy_30 : decode cX2_isBoundBy 30 = .ok (.invokevirtual 88, 3) := by decide +kernel
theorem dX2_isBoundBy_33 : decode cX2_isBoundBy 33 = .ok (.lconst 0, 1) := by decide +kernel
theorem dX2_isBoundBy_34 : decode cX2_isBoundBy 34 = .ok (.lcmp, 1) := by decide +kernel
theorem dX2_isBoundBy_35 : decode cX2_isBoundBy 35 = .ok (.ifCond .ne 33, 3) := by decide +kernel
theorem dX2_isBoundBy_38 : decode cX2_isBoundBy 38 = .ok (.aload_n 0, 1) := by decide +kernel
theorem dX2_isBoundBy_39 : decode cX2_isBoundBy 39 = .ok (.iload_n 3, 1) := by decide +kernel
theorem dX2_isBoundBy_40 : decode cX2_isBoundBy 40 = .ok (.aload_n 0, 1) := by decide +kernel
theorem dX2_isBoundBy_41 : decode cX2_isBoundBy 41 = .ok (.getfield 9, 3) := by decide +kernel
theorem dX2_isBoundBy_44 : decode cX2_isBoundBy 44 = .ok (.iload_n 2, 1) := by decide +kernel
theorem dX2_isBoundBy_45 : decode cX2_isBoundBy 45 = .ok (.laload, 1) := by decide +kernel
theorem dX2_isBoundBy_46 : decode cX2_isBoundBy 46 = .ok (.aload_n 0, 1) := by decide +kernel
theorem dX2_isBoundBy_47 : decode cX2_isBoundBy 47 = .ok (.getfield 15, 3) := by decide +kernel
theorem dX2_isBoundBy_50 : decode cX2_isBoundBy 50 = .ok (.iload_n 2, 1) := by decide +kernel
theorem dX2_isBoundBy_51 : decode cX2_isBoundBy 51 = .ok (.laload, 1) := by decide +kernel
theorem dX2_isBoundBy_52 : decode cX2_isBoundBy 52 = .ok (.aload_n 0, 1) := by decide +kernel
theorem dX2_isBoundBy_53 : decode cX2_isBoundBy 53 = .ok (.getfield 18, 3) := by decide +kernel
theorem dX2_isBoundBy_56 : decode cX2_isBoundBy 56 = .ok (.iload_n 2, 1) := by decide +kernel
theorem dX2_isBoundBy_57 : decode cX2_isBoundBy 57 = .ok (.laload, 1) := by decide +kernel
theorem dX2_isBoundBy_58 : decode cX2_isBoundBy 58 = .ok (.invokevirtual 88, 3) := by decide +kernel
theorem dX2_isBoundBy_61 : decode cX2_isBoundBy 61 = .ok (.lconst 0, 1) := by decide +kernel
theorem dX2_isBoundBy_62 : decode cX2_isBoundBy 62 = .ok (.lcmp, 1) := by decide +kernel
theorem dX2_isBoundBy_63 : decode cX2_isBoundBy 63 = .ok (.ifCond .ne 5, 3) := by decide +kernel
theorem dX2_isBoundBy_66 : decode cX2_isBoundBy 66 = .ok (.iconst 1, 1) := by decide +kernel
theorem dX2_isBoundBy_67 : decode cX2_isBoundBy 67 = .ok (.ireturn, 1) := by decide +kernel
theorem dX2_isBoundBy_68 : decode cX2_isBoundBy 68 = .ok (.iinc 3 1, 3) := by decide +kernel
theorem dX2_isBoundBy_71 : decode cX2_isBoundBy 71 = .ok (.goto (-69), 3) := by decide +kernel
theorem dX2_isBoundBy_74 : decode cX2_isBoundBy 74 = .ok (.iconst 0, 1) := by decide +kernel
theorem dX2_isBoundBy_75 : decode cX2_isBoundBy 75 = .ok (.ireturn, 1) := by decide +kernel
theorem dX2_boundIfOneSided_0 : decode cX2_boundIfOneSided 0 = .ok (.iconst 0, 1) := by decide +kernel
theorem dX2_boundIfOneSided_1 : decode cX2_boundIfOneSided 1 = .ok (.istore_n 1, 1) := by decide +kernel
theorem dX2_boundIfOneSided_2 : decode cX2_boundIfOneSided 2 = .ok (.iconst 0, 1) := by decide +kernel
theorem dX2_boundIfOneSided_3 : decode cX2_boundIfOneSided 3 = .ok (.istore_n 2, 1) := by decide +kernel
theorem dX2_boundIfOneSided_4 : decode cX2_boundIfOneSided 4 = .ok (.iconst 0, 1) := by decide +kernel
theorem dX2_boundIfOneSided_5 : decode cX2_boundIfOneSided 5 = .ok (.istore_n 3, 1) := by decide +kernel
theorem dX2_boundIfOneSided_6 : decode cX2_boundIfOneSided 6 = .ok (.iload_n 3, 1) := by decide +kernel
theorem dX2_boundIfOneSided_7 : decode cX2_boundIfOneSided 7 = .ok (.aload_n 0, 1) := by decide +kernel
theorem dX2_boundIfOneSided_8 : decode cX2_boundIfOneSided 8 = .ok (.getfield 21, 3) := by decide +kernel
theorem dX2_boundIfOneSided_11 : decode cX2_boundIfOneSided 11 = .ok (.if_icmp .ge 54, 3) := by decide +kernel
theorem dX2_boundIfOneSided_14 : decode cX2_boundIfOneSided 14 = .ok (.iload_n 1, 1) := by decide +kernel
theorem dX2_boundIfOneSided_15 : decode cX2_boundIfOneSided 15 = .ok (.ifCond .eq 7, 3) := by decide +kernel
theorem dX2_boundIfOneSided_18 : decode cX2_boundIfOneSided 18 = .ok (.iload_n 2, 1) := by decide +kernel
theorem dX2_boundIfOneSided_19 : decode cX2_boundIfOneSided 19 = .ok (.ifCond .ne 46, 3) := by decide +kernel
theorem dX2_boundIfOneSided_22 : decode cX2_boundIfOneSided 22 = .ok (.aload_n 0, 1) := by decide +kernel
theorem dX2_boundIfOneSided_23 : decode cX2_boundIfOneSided 23 = .ok (.iload_n 3, 1) := by decide +kernel
theorem dX2_boundIfOneSided_24 : decode cX2_boundIfOneSided 24 = .ok (.invokevirtual 63, 3) := by decide +kernel
theorem dX2_boundIfOneSided_27 : decode cX2_boundIfOneSided 27 = .ok (.lstore 4, 2) := by decide +kernel
theorem dX2_boundIfOneSided_29 : decode cX2_boundIfOneSided 29 = .ok (.iload_n 1, 1) := by decide +kernel
theorem dX2_boundIfOneSided_30 : decode cX2_boundIfOneSided 30 = .ok (.lload 4, 2) := by decide +kernel
theorem dX2_boundIfOneSided_32 : decode cX2_boundIfOneSided 32 = .ok (.lconst 0, 1) := by decide +kernel
theorem dX2_boundIfOneSided_33 : decode cX2_boundIfOneSided 33 = .ok (.lcmp, 1) := by decide +kernel
theorem dX2_boundIfOneSided_34 : decode cX2_boundIfOneSided 34 = .ok (.ifCond .le 7, 3) := by decide +kernel
theorem dX2_boundIfOneSided_37 : decode cX2_boundIfOneSided 37 = .ok (.iconst 1, 1) := by decide +kernel
theorem dX2_boundIfOneSided_38 : decode cX2_boundIfOneSided 38 = .ok (.goto 4, 3) := by decide +kernel
theorem dX2_boundIfOneSided_41 : decode cX2_boundIfOneSided 41 = .ok (.iconst 0, 1) := by decide +kernel
theorem dX2_boundIfOneSided_42 : decode cX2_boundIfOneSided 42 = .ok (.ior, 1) := by decide +kernel
theorem dX2_boundIfOneSided_43 : decode cX2_boundIfOneSided 43 = .ok (.istore_n 1, 1) := by decide +kernel
theorem dX2_boundIfOneSided_44 : decode cX2_boundIfOneSided 44 = .ok (.iload_n 2, 1) := by decide +kernel
theorem dX2_boundIfOneSided_45 : decode cX2_boundIfOneSided 45 = .ok (.lload 4, 2) := by decide +kernel
theorem dX2_boundIfOneSided_47 : decode cX2_boundIfOneSided 47 = .ok (.lconst 0, 1) := by decide +kernel
theorem dX2_boundIfOneSided_48 : decode cX2_boundIfOneSided 48 = .ok (.lcmp, 1) := by decide +kernel
theorem dX2_boundIfOneSided_49 : decode cX2_boundIfOneSided 49 = .ok (.ifCond .ge 7, 3) := by decide +kernel
theorem dX2_boundIfOneSided_52 : decode cX2_boundIfOneSided 52 = .ok (.iconst 1, 1) := by decide +kernel
theorem dX2_boundIfOneSided_53 : decode cX2_boundIfOneSided 53 = .ok (.goto 4, 3) := by decide +kernel
theorem dX2_boundIfOneSided_56 : decode cX2_boundIfOneSided 56 = .ok (.iconst 0, 1) := by decide +kernel
theorem dX2_boundIfOneSided_57 : decode cX2_boundIfOneSided 57 = .ok (.ior, 1) := by decide +kernel
theorem dX2_boundIfOneSided_58 : decode cX2_boundIfOneSided 58 = .ok (.istore_n 2, 1) := by decide +kernel
theorem dX2_boundIfOneSided_59 : decode cX2_boundIfOneSided 59 = .ok (.iinc 3 1, 3) := by decide +kernel
theorem dX2_boundIfOneSided_62 : decode cX2_boundIfOneSided 62 = .ok (.goto (-56), 3) := by decide +kernel
theorem dX2_boundIfOneSided_65 : decode cX2_boundIfOneSided 65 = .ok (.iload_n 2, 1) := by decide +kernel
theorem dX2_boundIfOneSided_66 : decode cX2_boundIfOneSided 66 = .ok (.ifCond .ne 22, 3) := by decide +kernel
theorem dX2_boundIfOneSided_69 : decode cX2_boundIfOneSided 69 = .ok (.aload_n 0, 1) := by decide +kernel
theorem dX2_boundIfOneSided_70 : decode cX2_boundIfOneSided 70 = .ok (.aload_n 0, 1) := by decide +kernel
theorem dX2_boundIfOneSided_71 : decode cX2_boundIfOneSided 71 = .ok (.getfield 37, 3) := by decide +kernel
theorem dX2_boundIfOneSided_74 : decode cX2_boundIfOneSided 74 = .ok (.aload_n 0, 1) := by decide +kernel
theorem dX2_boundIfOneSided_75 : decode cX2_boundIfOneSided 75 = .ok (.getfield 41, 3) := by decide +kernel
theorem dX2_boundIfOneSided_78 : decode cX2_boundIfOneSided 78 = .ok (.aload_n 0, 1) := by decide +kernel
theorem dX2_boundIfOneSided_79 : decode cX2_boundIfOneSided 79 = .ok (.getfield 44, 3) := by decide +kernel
theorem dX2_boundIfOneSided_82 : decode cX2_boundIfOneSided 82 = .ok (.invokevirtual 99, 3) := by decide +kernel
theorem dX2_boundIfOneSided_85 : decode cX2_boundIfOneSided 85 = .ok (.goto 26, 3) := by decide +kernel
theorem dX2_boundIfOneSided_88 : decode cX2_boundIfOneSided 88 = .ok (.iload_n 1, 1) := by decide +kernel
theorem dX2_boundIfOneSided_89 : decode cX2_boundIfOneSided 89 = .ok (.ifCond .ne 22, 3) := by decide +kernel
theorem dX2_boundIfOneSided_92 : decode cX2_boundIfOneSided 92 = .ok (.aload_n 0, 1) := by decide +kernel
theorem dX2_boundIfOneSided_93 : decode cX2_boundIfOneSided 93 = .ok (.aload_n 0, 1) := by decide +kernel
theorem dX2_boundIfOneSided_94 : decode cX2_boundIfOneSided 94 = .ok (.getfield 37, 3) := by decide +kernel
theorem dX2_boundIfOneSided_97 : decode cX2_boundIfOneSided 97 = .ok (.lneg, 1) := by decide +kernel
theorem dX2_boundIfOneSided_98 : decode cX2_boundIfOneSided 98 = .ok (.aload_n 0, 1) := by decide +kernel
theorem dX2_boundIfOneSided_99 : decode cX2_boundIfOneSided 99 = .ok (.getfield 41, 3) := by decide +kernel
theorem dX2_boundIfOneSided_102 : decode cX2_boundIfOneSided 102 = .ok (.lneg, 1) := by decide +kernel
theorem dX2_boundIfOneSided_103 : decode cX2_boundIfOneSided 103 = .ok (.aload_n 0, 1) := by decide +kernel
theorem dX2_boundIfOneSided_104 : decode cX2_boundIfOneSided 104 = .ok (.getfield 44, 3) := by decide +kernel
theorem dX2_boundIfOneSided_107 : decode cX2_boundIfOneSided 107 = .ok (.lneg, 1) := by decide +kernel
theorem dX2_boundIfOneSided_108 : decode cX2_boundIfOneSided 108 = .ok (.invokevirtual 99, 3) := by decide +kernel
theorem dX2_boundIfOneSided_111 : decode cX2_boundIfOneSided 111 = .ok (.return_, 1) := by decide +kernel
theorem dX2_boundBoth_0 : decode cX2_boundBoth 0 = .ok (.aload_n 0, 1) := by decide +kernel
theorem dX2_boundBoth_1 : decode cX2_boundBoth 1 = .ok (.lload_n 1, 1) := by decide +kernel
theorem dX2_boundBoth_2 : decode cX2_boundBoth 2 = .ok (.lload_n 3, 1) := by decide +kernel
theorem dX2_boundBoth_3 : decode cX2_boundBoth 3 = .ok (.lload 5, 2) := by decide +kernel
theorem dX2_boundBoth_5 : decode cX2_boundBoth 5 = .ok (.invokevirtual 99, 3) := by decide +kernel
theorem dX2_boundBoth_8 : decode cX2_boundBoth 8 = .ok (.aload_n 0, 1) := by decide +kernel
theorem dX2_boundBoth_9 : decode cX2_boundBoth 9 = .ok (.lload_n 1, 1) := by decide +kernel
theorem dX2_boundBoth_10 : decode cX2_boundBoth 10 = .ok (.lneg, 1) := by decide +kernel
theorem dX2_boundBoth_11 : decode cX2_boundBoth 11 = .ok (.lload_n 3, 1) := by decide +kernel
theorem dX2_boundBoth_12 : decode cX2_boundBoth 12 = .ok (.lneg, 1) := by decide +kernel
theorem dX2_boundBoth_13 : decode cX2_boundBoth 13 = .ok (.lload 5, 2) := by decide +kernel
theorem dX2_boundBoth_15 : decode cX2_boundBoth 15 = .ok (.lneg, 1) := by decide +kernel
theorem dX2_boundBoth_16 : decode cX2_boundBoth 16 = .ok (.invokevirtual 99, 3) := by decide +kernel
theorem dX2_boundBoth_19 : decode cX2_boundBoth 19 = .ok (.return_, 1) := by decide +kernel
theorem dX2_boundOnce_0 : decode cX2_boundOnce 0 = .ok (.aload_n 0, 1) := by decide +kernel
theorem dX2_boundOnce_1 : decode cX2_boundOnce 1 = .ok (.getfield 34, 3) := by decide +kernel
theorem dX2_boundOnce_4 : decode cX2_boundOnce 4 = .ok (.bipush 32, 2) := by decide +kernel
theorem dX2_boundOnce_6 : decode cX2_boundOnce 6 = .ok (.if_icmp .ge 44, 3) := by decide +kernel
theorem dX2_boundOnce_9 : decode cX2_boundOnce 9 = .ok (.aload_n 0, 1) := by decide +kernel
theorem dX2_boundOnce_10 : decode cX2_boundOnce 10 = .ok (.getfield 25, 3) := by decide +kernel
theorem dX2_boundOnce_13 : decode cX2_boundOnce 13 = .ok (.aload_n 0, 1) := by decide +kernel
theorem dX2_boundOnce_14 : decode cX2_boundOnce 14 = .ok (.getfield 34, 3) := by decide +kernel
theorem dX2_boundOnce_17 : decode cX2_boundOnce 17 = .ok (.lload_n 1, 1) := by decide +kernel
theorem dX2_boundOnce_18 : decode cX2_boundOnce 18 = .ok (.lastore, 1) := by decide +kernel
theorem dX2_boundOnce_19 : decode cX2_boundOnce 19 = .ok (.aload_n 0, 1) := by decide +kernel
theorem dX2_boundOnce_20 : decode cX2_boundOnce 20 = .ok (.getfield 28, 3) := by decide +kernel
theorem dX2_boundOnce_23 : decode cX2_boundOnce 23 = .ok (.aload_n 0, 1) := by decide +kernel
theorem dX2_boundOnce_24 : decode cX2_boundOnce 24 = .ok (.getfield 34, 3) := by decide +kernel
theorem dX2_boundOnce_27 : decode cX2_boundOnce 27 = .ok (.lload_n 3, 1) := by decide +kernel
theorem dX2_boundOnce_28 : decode cX2_boundOnce 28 = .ok (.lastore, 1) := by decide +kernel
theorem dX2_boundOnce_29 : decode cX2_boundOnce 29 = .ok (.aload_n 0, 1) := by decide +kernel
theorem dX2_boundOnce_30 : decode cX2_boundOnce 30 = .ok (.getfield 31, 3) := by decide +kernel
theorem dX2_boundOnce_33 : decode cX2_boundOnce 33 = .ok (.aload_n 0, 1) := by decide +kernel
theorem dX2_boundOnce_34 : decode cX2_boundOnce 34 = .ok (.getfield 34, 3) := by decide +kernel
theorem dX2_boundOnce_37 : decode cX2_boundOnce 37 = .ok (.lload 5, 2) := by decide +kernel
theorem dX2_boundOnce_39 : decode cX2_boundOnce 39 = .ok (.lastore, 1) := by decide +kernel
theorem dX2_boundOnce_40 : decode cX2_boundOnce 40 = .ok (.aload_n 0, 1) := by decide +kernel
theorem dX2_boundOnce_41 : decode cX2_boundOnce 41 = .ok (.dup, 1) := by decide +kernel
theorem dX2_boundOnce_42 : decode cX2_boundOnce 42 = .ok (.getfield 34, 3) := by decide +kernel
theorem dX2_boundOnce_45 : decode cX2_boundOnce 45 = .ok (.iconst 1, 1) := by decide +kernel
theorem dX2_boundOnce_46 : decode cX2_boundOnce 46 = .ok (.iadd, 1) := by decide +kernel
theorem dX2_boundOnce_47 : decode cX2_boundOnce 47 = .ok (.putfield 34, 3) := by decide +kernel
theorem dX2_boundOnce_50 : decode cX2_boundOnce 50 = .ok (.return_, 1) := by decide +kernel
theorem dX2_takeCross_0 : decode cX2_takeCross 0 = .ok (.iload 7, 2) := by decide +kernel
theorem dX2_takeCross_2 : decode cX2_takeCross 2 = .ok (.ifCond .lt 81, 3) := by decide +kernel
theorem dX2_takeCross_5 : decode cX2_takeCross 5 = .ok (.iload 7, 2) := by decide +kernel
theorem dX2_takeCross_7 : decode cX2_takeCross 7 = .ok (.bipush 30, 2) := by decide +kernel
theorem dX2_takeCross_9 : decode cX2_takeCross 9 = .ok (.if_icmp .ge 74, 3) := by decide +kernel
theorem dX2_takeCross_12 : decode cX2_takeCross 12 = .ok (.aload_n 0, 1) := by decide +kernel
theorem dX2_takeCross_13 : decode cX2_takeCross 13 = .ok (.lload_n 3, 1) := by decide +kernel
theorem dX2_takeCross_14 : decode cX2_takeCross 14 = .ok (.aload_n 0, 1) := by decide +kernel
theorem dX2_takeCross_15 : decode cX2_takeCross 15 = .ok (.getfield 18, 3) := by decide +kernel
theorem dX2_takeCross_18 : decode cX2_takeCross 18 = .ok (.iload 7, 2) := by decide +kernel
theorem dX2_takeCross_20 : decode cX2_takeCross 20 = .ok (.laload, 1) := by decide +kernel
theorem dX2_takeCross_21 : decode cX2_takeCross 21 = .ok (.lmul, 1) := by decide +kernel
theorem dX2_takeCross_22 : decode cX2_takeCross 22 = .ok (.lload 5, 2) := by decide +kernel
theorem dX2_takeCross_24 : decode cX2_takeCross 24 = .ok (.aload_n 0, 1) := by decide +kernel
theorem dX2_takeCross_25 : decode cX2_takeCross 25 = .ok (.getfield 15, 3) := by decide +kernel
theorem dX2_takeCross_28 : decode cX2_takeCross 28 = .ok (.iload 7, 2) := by decide +kernel
theorem dX2_takeCross_30 : decode cX2_takeCross 30 = .ok (.laload, 1) := by decide +kernel
theorem dX2_takeCross_31 : decode cX2_takeCross 31 = .ok (.lmul, 1) := by decide +kernel
theorem dX2_takeCross_32 : decode cX2_takeCross 32 = .ok (.lsub, 1) := by decide +kernel
theorem dX2_takeCross_33 : decode cX2_takeCross 33 = .ok (.putfield 37, 3) := by decide +kernel
theorem dX2_takeCross_36 : decode cX2_takeCross 36 = .ok (.aload_n 0, 1) := by decide +kernel
theorem dX2_takeCross_37 : decode cX2_takeCross 37 = .ok (.lload 5, 2) := by decide +kernel
theorem dX2_takeCross_39 : decode cX2_takeCross 39 = .ok (.aload_n 0, 1) := by decide +kernel
theorem dX2_takeCross_40 : decode cX2_takeCross 40 = .ok (.getfield 9, 3) := by decide +kernel
theorem dX2_takeCross_43 : decode cX2_takeCross 43 = .ok (.iload 7, 2) := by decide +kernel
theorem dX2_takeCross_45 : decode cX2_takeCross 45 = .ok (.laload, 1) := by decide +kernel
theorem dX2_takeCross_46 : decode cX2_takeCross 46 = .ok (.lmul, 1) := by decide +kernel
theorem dX2_takeCross_47 : decode cX2_takeCross 47 = .ok (.lload_n 1, 1) := by decide +kernel
theorem dX2_takeCross_48 : decode cX2_takeCross 48 = .ok (.aload_n 0, 1) := by decide +kernel
theorem dX2_takeCross_49 : decode cX2_takeCross 49 = .ok (.getfield 18, 3) := by decide +kernel
theorem dX2_takeCross_52 : decode cX2_takeCross 52 = .ok (.iload 7, 2) := by decide +kernel
theorem dX2_takeCross_54 : decode cX2_takeCross 54 = .ok (.laload, 1) := by decide +kernel
theorem dX2_takeCross_55 : decode cX2_takeCross 55 = .ok (.lmul, 1) := by decide +kernel
theorem dX2_takeCross_56 : decode cX2_takeCross 56 = .ok (.lsub, 1) := by decide +kernel
theorem dX2_takeCross_57 : decode cX2_takeCross 57 = .ok (.putfield 41, 3) := by decide +kernel
theorem dX2_takeCross_60 : decode cX2_takeCross 60 = .ok (.aload_n 0, 1) := by decide +kernel
theorem dX2_takeCross_61 : decode cX2_takeCross 61 = .ok (.lload_n 1, 1) := by decide +kernel
theorem dX2_takeCross_62 : decode cX2_takeCross 62 = .ok (.aload_n 0, 1) := by decide +kernel
theorem dX2_takeCross_63 : decode cX2_takeCross 63 = .ok (.getfield 15, 3) := by decide +kernel
theorem dX2_takeCross_66 : decode cX2_takeCross 66 = .ok (.iload 7, 2) := by decide +kernel
theorem dX2_takeCross_68 : decode cX2_takeCross 68 = .ok (.laload, 1) := by decide +kernel
theorem dX2_takeCross_69 : decode cX2_takeCross 69 = .ok (.lmul, 1) := by decide +kernel
theorem dX2_takeCross_70 : decode cX2_takeCross 70 = .ok (.lload_n 3, 1) := by decide +kernel
theorem dX2_takeCross_71 : decode cX2_takeCross 71 = .ok (.aload_n 0, 1) := by decide +kernel
theorem dX2_takeCross_72 : decode cX2_takeCross 72 = .ok (.getfield 9, 3) := by decide +kernel
theorem dX2_takeCross_75 : decode cX2_takeCross 75 = .ok (.iload 7, 2) := by decide +kernel
theorem dX2_takeCross_77 : decode cX2_takeCross 77 = .ok (.laload, 1) := by decide +kernel
theorem dX2_takeCross_78 : decode cX2_takeCross 78 = .ok (.lmul, 1) := by decide +kernel
theorem dX2_takeCross_79 : decode cX2_takeCross 79 = .ok (.lsub, 1) := by decide +kernel
theorem dX2_takeCross_80 : decode cX2_takeCross 80 = .ok (.putfield 44, 3) := by decide +kernel
theorem dX2_takeCross_83 : decode cX2_takeCross 83 = .ok (.return_, 1) := by decide +kernel
theorem dX2_alongNormal_0 : decode cX2_alongNormal 0 = .ok (.iload_n 1, 1) := by decide +kernel
theorem dX2_alongNormal_1 : decode cX2_alongNormal 1 = .ok (.ifCond .lt 9, 3) := by decide +kernel
theorem dX2_alongNormal_4 : decode cX2_alongNormal 4 = .ok (.iload_n 1, 1) := by decide +kernel
theorem dX2_alongNormal_5 : decode cX2_alongNormal 5 = .ok (.bipush 30, 2) := by decide +kernel
theorem dX2_alongNormal_7 : decode cX2_alongNormal 7 = .ok (.if_icmp .lt 5, 3) := by decide +kernel
theorem dX2_alongNormal_10 : decode cX2_alongNormal 10 = .ok (.lconst 0, 1) := by decide +kernel
theorem dX2_alongNormal_11 : decode cX2_alongNormal 11 = .ok (.lreturn, 1) := by decide +kernel
theorem dX2_alongNormal_12 : decode cX2_alongNormal 12 = .ok (.aload_n 0, 1) := by decide +kernel
theorem dX2_alongNormal_13 : decode cX2_alongNormal 13 = .ok (.getfield 37, 3) := by decide +kernel
theorem dX2_alongNormal_16 : decode cX2_alongNormal 16 = .ok (.aload_n 0, 1) := by decide +kernel
theorem dX2_alongNormal_17 : decode cX2_alongNormal 17 = .ok (.getfield 9, 3) := by decide +kernel
theorem dX2_alongNormal_20 : decode cX2_alongNormal 20 = .ok (.iload_n 1, 1) := by decide +kernel
theorem dX2_alongNormal_21 : decode cX2_alongNormal 21 = .ok (.laload, 1) := by decide +kernel
theorem dX2_alongNormal_22 : decode cX2_alongNormal 22 = .ok (.lmul, 1) := by decide +kernel
theorem dX2_alongNormal_23 : decode cX2_alongNormal 23 = .ok (.aload_n 0, 1) := by decide +kernel
theorem dX2_alongNormal_24 : decode cX2_alongNormal 24 = .ok (.getfield 41, 3) := by decide +kernel
theorem dX2_alongNormal_27 : decode cX2_alongNormal 27 = .ok (.aload_n 0, 1) := by decide +kernel
theorem dX2_alongNormal_28 : decode cX2_alongNormal 28 = .ok (.getfield 15, 3) := by decide +kernel
theorem dX2_alongNormal_31 : decode cX2_alongNormal 31 = .ok (.iload_n 1, 1) := by decide +kernel
theorem dX2_alongNormal_32 : decode cX2_alongNormal 32 = .ok (.laload, 1) := by decide +kernel
theorem dX2_alongNormal_33 : decode cX2_alongNormal 33 = .ok (.lmul, 1) := by decide +kernel
theorem dX2_alongNormal_34 : decode cX2_alongNormal 34 = .ok (.ladd, 1) := by decide +kernel
theorem dX2_alongNormal_35 : decode cX2_alongNormal 35 = .ok (.aload_n 0, 1) := by decide +kernel
theorem dX2_alongNormal_36 : decode cX2_alongNormal 36 = .ok (.getfield 44, 3) := by decide +kernel
theorem dX2_alongNormal_39 : decode cX2_alongNormal 39 = .ok (.aload_n 0, 1) := by decide +kernel
theorem dX2_alongNormal_40 : decode cX2_alongNormal 40 = .ok (.getfield 18, 3) := by decide +kernel
theorem dX2_alongNormal_43 : decode cX2_alongNormal 43 = .ok (.iload_n 1, 1) := by decide +kernel
theorem dX2_alongNormal_44 : decode cX2_alongNormal 44 = .ok (.laload, 1) := by decide +kernel
theorem dX2_alongNormal_45 : decode cX2_alongNormal 45 = .ok (.lmul, 1) := by decide +kernel
theorem dX2_alongNormal_46 : decode cX2_alongNormal 46 = .ok (.ladd, 1) := by decide +kernel
theorem dX2_alongNormal_47 : decode cX2_alongNormal 47 = .ok (.lreturn, 1) := by decide +kernel
theorem dX3_init_0 : decode cX3_init 0 = .ok (.aload_n 0, 1) := by decide +kernel
theorem dX3_init_1 : decode cX3_init 1 = .ok (.invokespecial 3, 3) := by decide +kernel
theorem dX3_init_4 : decode cX3_init 4 = .ok (.aload_n 0, 1) := by decide +kernel
theorem dX3_init_5 : decode cX3_init 5 = .ok (.bipush 16, 2) := by decide +kernel
theorem dX3_init_7 : decode cX3_init 7 = .ok (.newarray .int, 2) := by decide +kernel
theorem dX3_init_9 : decode cX3_init 9 = .ok (.putfield 9, 3) := by decide +kernel
theorem dX3_init_12 : decode cX3_init 12 = .ok (.aload_n 0, 1) := by decide +kernel
theorem dX3_init_13 : decode cX3_init 13 = .ok (.bipush 16, 2) := by decide +kernel
theorem dX3_init_15 : decode cX3_init 15 = .ok (.newarray .int, 2) := by decide +kernel
theorem dX3_init_17 : decode cX3_init 17 = .ok (.putfield 15, 3) := by decide +kernel
theorem dX3_init_20 : decode cX3_init 20 = .ok (.aload_n 0, 1) := by decide +kernel
theorem dX3_init_21 : decode cX3_init 21 = .ok (.bipush 16, 2) := by decide +kernel
theorem dX3_init_23 : decode cX3_init 23 = .ok (.newarray .int, 2) := by decide +kernel
theorem dX3_init_25 : decode cX3_init 25 = .ok (.putfield 18, 3) := by decide +kernel
theorem dX3_init_28 : decode cX3_init 28 = .ok (.aload_n 0, 1) := by decide +kernel
theorem dX3_init_29 : decode cX3_init 29 = .ok (.iconst 0, 1) := by decide +kernel
theorem dX3_init_30 : decode cX3_init 30 = .ok (.putfield 21, 3) := by decide +kernel
theorem dX3_init_33 : decode cX3_init 33 = .ok (.aload_n 0, 1) := by decide +kernel
theorem dX3_init_34 : decode cX3_init 34 = .ok (.lconst 0, 1) := by decide +kernel
theorem dX3_init_35 : decode cX3_init 35 = .ok (.putfield 25, 3) := by decide +kernel
theorem dX3_init_38 : decode cX3_init 38 = .ok (.aload_n 0, 1) := by decide +kernel
theorem dX3_init_39 : decode cX3_init 39 = .ok (.lconst 0, 1) := by decide +kernel
theorem dX3_init_40 : decode cX3_init 40 = .ok (.putfield 29, 3) := by decide +kernel
theorem dX3_init_43 : decode cX3_init 43 = .ok (.return_, 1) := by decide +kernel
theorem dX3_taken_0 : decode cX3_taken 0 = .ok (.aload_n 0, 1) := by decide +kernel
theorem dX3_taken_1 : decode cX3_taken 1 = .ok (.getfield 21, 3) := by decide +kernel
theorem dX3_taken_4 : decode cX3_taken 4 = .ok (.bipush 16, 2) := by decide +kernel
theorem dX3_taken_6 : decode cX3_taken 6 = .ok (.if_icmp .lt 5, 3) := by decide +kernel
theorem dX3_taken_9 : decode cX3_taken 9 = .ok (.iconst 0, 1) := by decide +kernel
theorem dX3_taken_10 : decode cX3_taken 10 = .ok (.ireturn, 1) := by decide +kernel
theorem dX3_taken_11 : decode cX3_taken 11 = .ok (.aload_n 0, 1) := by decide +kernel
theorem dX3_taken_12 : decode cX3_taken 12 = .ok (.getfield 9, 3) := by decide +kernel
theorem dX3_taken_15 : decode cX3_taken 15 = .ok (.aload_n 0, 1) := by decide +kernel
theorem dX3_taken_16 : decode cX3_taken 16 = .ok (.getfield 21, 3) := by decide +kernel
theorem dX3_taken_19 : decode cX3_taken 19 = .ok (.iload_n 1, 1) := by decide +kernel
theorem dX3_taken_20 : decode cX3_taken 20 = .ok (.iastore, 1) := by decide +kernel
theorem dX3_taken_21 : decode cX3_taken 21 = .ok (.aload_n 0, 1) := by decide +kernel
theorem dX3_taken_22 : decode cX3_taken 22 = .ok (.getfield 15, 3) := by decide +kernel
theorem dX3_taken_25 : decode cX3_taken 25 = .ok (.aload_n 0, 1) := by decide +kernel
theorem dX3_taken_26 : decode cX3_taken 26 = .ok (.getfield 21, 3) := by decide +kernel
theorem dX3_taken_29 : decode cX3_taken 29 = .ok (.iload_n 2, 1) := by decide +kernel
theorem dX3_taken_30 : decode cX3_taken 30 = .ok (.iastore, 1) := by decide +kernel
theorem dX3_taken_31 : decode cX3_taken 31 = .ok (.aload_n 0, 1) := by decide +kernel
theorem dX3_taken_32 : decode cX3_taken 32 = .ok (.getfield 18, 3) := by decide +kernel
theorem dX3_taken_35 : decode cX3_taken 35 = .ok (.aload_n 0, 1) := by decide +kernel
theorem dX3_taken_36 : decode cX3_taken 36 = .ok (.getfield 21, 3) := by decide +kernel
theorem dX3_taken_39 : decode cX3_taken 39 = .ok (.iload_n 3, 1) := by decide +kernel
theorem dX3_taken_40 : decode cX3_taken 40 = .ok (.iastore, 1) := by decide +kernel
theorem dX3_taken_41 : decode cX3_taken 41 = .ok (.aload_n 0, 1) := by decide +kernel
theorem dX3_taken_42 : decode cX3_taken 42 = .ok (.dup, 1) := by decide +kernel
theorem dX3_taken_43 : decode cX3_taken 43 = .ok (.getfield 21, 3) := by decide +kernel
theorem dX3_taken_46 : decode cX3_taken 46 = .ok (.iconst 1, 1) := by decide +kernel
theorem dX3_taken_47 : decode cX3_taken 47 = .ok (.iadd, 1) := by decide +kernel
theorem dX3_taken_48 : decode cX3_taken 48 = .ok (.putfield 21, 3) := by decide +kernel
theorem dX3_taken_51 : decode cX3_taken 51 = .ok (.iconst 1, 1) := by decide +kernel
theorem dX3_taken_52 : decode cX3_taken 52 = .ok (.ireturn, 1) := by decide +kernel
theorem dX3_leastPull_0 : decode cX3_leastPull 0 = .ok (.aload_n 1, 1) := by decide +kernel
theorem dX3_leastPull_1 : decode cX3_leastPull 1 = .ok (.ifnull 13, 3) := by decide +kernel
theorem dX3_leastPull_4 : decode cX3_leastPull 4 = .ok (.aload_n 2, 1) := by decide +kernel
theorem dX3_leastPull_5 : decode cX3_leastPull 5 = .ok (.ifnull 9, 3) := by decide +kernel
theorem dX3_leastPull_8 : decode cX3_leastPull 8 = .ok (.aload_n 2, 1) := by decide +kernel
theorem dX3_leastPull_9 : decode cX3_leastPull 9 = .ok (.arraylength, 1) := by decide +kernel
theorem dX3_leastPull_10 : decode cX3_leastPull 10 = .ok (.iconst 3, 1) := by decide +kernel
theorem dX3_leastPull_11 : decode cX3_leastPull 11 = .ok (.if_icmp .ge 5, 3) := by decide +kernel
theorem dX3_leastPull_14 : decode cX3_leastPull 14 = .ok (.iconst (-1), 1) := by decide +kernel
theorem dX3_leastPull_15 : decode cX3_leastPull 15 = .ok (.ireturn, 1) := by decide +kernel
theorem dX3_leastPull_16 : decode cX3_leastPull 16 = .ok (.aload_n 0, 1) := by decide +kernel
theorem dX3_leastPull_17 : decode cX3_leastPull 17 = .ok (.lconst 0, 1) := by decide +kernel
theorem dX3_leastPull_18 : decode cX3_leastPull 18 = .ok (.putfield 25, 3) := by decide +kernel
theorem dX3_leastPull_21 : decode cX3_leastPull 21 = .ok (.aload_n 0, 1) := by decide +kernel
theorem dX3_leastPull_22 : decode cX3_leastPull 22 = .ok (.ldc2_w 32, 3) := by decide +kernel
theorem dX3_leastPull_25 : decode cX3_leastPull 25 = .ok (.putfield 29, 3) := by decide +kernel
theorem dX3_leastPull_28 : decode cX3_leastPull 28 = .ok (.iconst 0, 1) := by decide +kernel
theorem dX3_leastPull_29 : decode cX3_leastPull 29 = .ok (.istore_n 3, 1) := by decide +kernel
theorem dX3_leastPull_30 : decode cX3_leastPull 30 = .ok (.iload_n 3, 1) := by decide +kernel
theorem dX3_leastPull_31 : decode cX3_leastPull 31 = .ok (.aload_n 0, 1) := by decide +kernel
theorem dX3_leastPull_32 : decode cX3_leastPull 32 = .ok (.getfield 21, 3) := by decide +kernel
theorem dX3_leastPull_35 : decode cX3_leastPull 35 = .ok (.if_icmp .ge 79, 3) := by decide +kernel
theorem dX3_leastPull_38 : decode cX3_leastPull 38 = .ok (.iload_n 3, 1) := by decide +kernel
theorem dX3_leastPull_39 : decode cX3_leastPull 39 = .ok (.bipush 16, 2) := by decide +kernel
theorem dX3_leastPull_41 : decode cX3_leastPull 41 = .ok (.if_icmp .ge 73, 3) := by decide +kernel
theorem dX3_leastPull_44 : decode cX3_leastPull 44 = .ok (.iconst 0, 1) := by decide +kernel
theorem dX3_leastPull_45 : decode cX3_leastPull 45 = .ok (.istore 4, 2) := by decide +kernel
theorem dX3_leastPull_47 : decode cX3_leastPull 47 = .ok (.iload 4, 2) := by decide +kernel
theorem dX3_leastPull_49 : decode cX3_leastPull 49 = .ok (.aload_n 1, 1) := by decide +kernel
theorem dX3_leastPull_50 : decode cX3_leastPull 50 = .ok (.getfield 34, 3) := by decide +kernel
theorem dX3_leastPull_53 : decode cX3_leastPull 53 = .ok (.if_icmp .ge 55, 3) := by decide +kernel
theorem dX3_leastPull_56 : decode cX3_leastPull 56 = .ok (.aload_n 0, 1) := by decide +kernel
theorem dX3_leastPull_57 : decode cX3_leastPull 57 = .ok (.aload_n 1, 1) := by decide +kernel
theorem dX3_leastPull_58 : decode cX3_leastPull 58 = .ok (.iload 4, 2) := by decide +kernel
theorem dX3_leastPull_60 : decode cX3_leastPull 60 = .ok (.aload_n 0, 1) := by decide +kernel
theorem dX3_leastPull_61 : decode cX3_leastPull 61 = .ok (.getfield 9, 3) := by decide +kernel
theorem dX3_leastPull_64 : decode cX3_leastPull 64 = .ok (.iload_n 3, 1) := by decide +kernel
theorem dX3_leastPull_65 : decode cX3_leastPull 65 = .ok (.iaload, 1) := by decide +kernel
theorem dX3_leastPull_66 : decode cX3_leastPull 66 = .ok (.i2l, 1) := by decide +kernel
theorem dX3_leastPull_67 : decode cX3_leastPull 67 = .ok (.aload_n 0, 1) := by decide +kernel
theorem dX3_leastPull_68 : decode cX3_leastPull 68 = .ok (.getfield 15, 3) := by decide +kernel
theorem dX3_leastPull_71 : decode cX3_leastPull 71 = .ok (.iload_n 3, 1) := by decide +kernel
theorem dX3_leastPull_72 : decode cX3_leastPull 72 = .ok (.iaload, 1) := by decide +kernel
theorem dX3_leastPull_73 : decode cX3_leastPull 73 = .ok (.i2l, 1) := by decide +kernel
theorem dX3_leastPull_74 : decode cX3_leastPull 74 = .ok (.aload_n 0, 1) := by decide +kernel
theorem dX3_leastPull_75 : decode cX3_leastPull 75 = .ok (.getfield 18, 3) := by decide +kernel
theorem dX3_leastPull_78 : decode cX3_leastPull 78 = .ok (.iload_n 3, 1) := by decide +kernel
theorem dX3_leastPull_79 : decode cX3_leastPull 79 = .ok (.iaload, 1) := by decide +kernel
theorem dX3_leastPull_80 : decode cX3_leastPull 80 = .ok (.i2l, 1) := by decide +kernel
theorem dX3_leastPull_81 : decode cX3_leastPull 81 = .ok (.invokevirtual 39, 3) := by decide +kernel
theorem dX3_leastPull_84 : decode cX3_leastPull 84 = .ok (.aload_n 1, 1) := by decide +kernel
theorem dX3_leastPull_85 : decode cX3_leastPull 85 = .ok (.iload 4, 2) := by decide +kernel
theorem dX3_leastPull_87 : decode cX3_leastPull 87 = .ok (.aload_n 2, 1) := by decide +kernel
theorem dX3_leastPull_88 : decode cX3_leastPull 88 = .ok (.iconst 0, 1) := by decide +kernel
theorem dX3_leastPull_89 : decode cX3_leastPull 89 = .ok (.laload, 1) := by decide +kernel
theorem dX3_leastPull_90 : decode cX3_leastPull 90 = .ok (.aload_n 2, 1) := by decide +kernel
theorem dX3_leastPull_91 : decode cX3_leastPull 91 = .ok (.iconst 1, 1) := by decide +kernel
theorem dX3_leastPull_92 : decode cX3_leastPull 92 = .ok (.laload, 1) := by decide +kernel
theorem dX3_leastPull_93 : decode cX3_leastPull 93 = .ok (.aload_n 2, 1) := by decide +kernel
theorem dX3_leastPull_94 : decode cX3_leastPull 94 = .ok (.iconst 2, 1) := by decide +kernel
theorem dX3_leastPull_95 : decode cX3_leastPull 95 = .ok (.laload, 1) := by decide +kernel
theorem dX3_leastPull_96 : decode cX3_leastPull 96 = .ok (.invokevirtual 39, 3) := by decide +kernel
theorem dX3_leastPull_99 : decode cX3_leastPull 99 = .ok (.invokevirtual 43, 3) := by decide +kernel
theorem dX3_leastPull_102 : decode cX3_leastPull 102 = .ok (.iinc 4 1, 3) := by decide +kernel
theorem dX3_leastPull_105 : decode cX3_leastPull 105 = .ok (.goto (-58), 3) := by decide +kernel
theorem dX3_leastPull_108 : decode cX3_leastPull 108 = .ok (.iinc 3 1, 3) := by decide +kernel
theorem dX3_leastPull_111 : decode cX3_leastPull 111 = .ok (.goto (-81), 3) := by decide +kernel
theorem dX3_leastPull_114 : decode cX3_leastPull 114 = .ok (.aload_n 0, 1) := by decide +kernel
theorem dX3_leastPull_115 : decode cX3_leastPull 115 = .ok (.getfield 25, 3) := by decide +kernel
theorem dX3_leastPull_118 : decode cX3_leastPull 118 = .ok (.aload_n 0, 1) := by decide +kernel
theorem dX3_leastPull_119 : decode cX3_leastPull 119 = .ok (.getfield 29, 3) := by decide +kernel
theorem dX3_leastPull_122 : decode cX3_leastPull 122 = .ok (.lcmp, 1) := by decide +kernel
theorem dX3_leastPull_123 : decode cX3_leastPull 123 = .ok (.ifCond .gt 11, 3) := by decide +kernel
theorem dX3_leastPull_126 : decode cX3_leastPull 126 = .ok (.aload_n 0, 1) := by decide +kernel
theorem dX3_leastPull_127 : decode cX3_leastPull 127 = .ok (.getfield 25, 3) := by decide +kernel
theorem dX3_leastPull_130 : decode cX3_leastPull 130 = .ok (.l2i, 1) := by decide +kernel
theorem dX3_leastPull_131 : decode cX3_leastPull 131 = .ok (.goto 4, 3) := by decide +kernel
theorem dX3_leastPull_134 : decode cX3_leastPull 134 = .ok (.iconst (-1), 1) := by decide +kernel
theorem dX3_leastPull_135 : decode cX3_leastPull 135 = .ok (.ireturn, 1) := by decide +kernel
theorem dX3_narrow_0 : decode cX3_narrow 0 = .ok (.lload_n 3, 1) := by decide +kernel
theorem dX3_narrow_1 : decode cX3_narrow 1 = .ok (.lconst 0, 1) := by decide +kernel
theorem dX3_narrow_2 : decode cX3_narrow 2 = .ok (.lcmp, 1) := by decide +kernel
theorem dX3_narrow_3 : decode cX3_narrow 3 = .ok (.ifCond .le 23, 3) := by decide +kernel
theorem dX3_narrow_6 : decode cX3_narrow 6 = .ok (.aload_n 0, 1) := by decide +kernel
theorem dX3_narrow_7 : decode cX3_narrow 7 = .ok (.aload_n 0, 1) := by decide +kernel
theorem dX3_narrow_8 : decode cX3_narrow 8 = .ok (.getfield 29, 3) := by decide +kernel
theorem dX3_narrow_11 : decode cX3_narrow 11 = .ok (.lload_n 1, 1) := by decide +kernel
theorem dX3_narrow_12 : decode cX3_narrow 12 = .ok (.lneg, 1) := by decide +kernel
theorem dX3_narrow_13 : decode cX3_narrow 13 = .ok (.lload_n 3, 1) := by decide +kernel
theorem dX3_narrow_14 : decode cX3_narrow 14 = .ok (.invokestatic 47, 3) := by decide +kernel
theorem dX3_narrow_17 : decode cX3_narrow 17 = .ok (.invokestatic 53, 3) := by decide +kernel
theorem dX3_narrow_20 : decode cX3_narrow 20 = .ok (.putfield 29, 3) := by decide +kernel
theorem dX3_narrow_23 : decode cX3_narrow 23 = .ok (.goto 42, 3) := by decide +kernel
theorem dX3_narrow_26 : decode cX3_narrow 26 = .ok (.lload_n 3, 1) := by decide +kernel
theorem dX3_narrow_27 : decode cX3_narrow 27 = .ok (.lconst 0, 1) := by decide +kernel
theorem dX3_narrow_28 : decode cX3_narrow 28 = .ok (.lcmp, 1) := by decide +kernel
theorem dX3_narrow_29 : decode cX3_narrow 29 = .ok (.ifCond .ge 23, 3) := by decide +kernel
theorem dX3_narrow_32 : decode cX3_narrow 32 = .ok (.aload_n 0, 1) := by decide +kernel
theorem dX3_narrow_33 : decode cX3_narrow 33 = .ok (.aload_n 0, 1) := by decide +kernel
theorem dX3_narrow_34 : decode cX3_narrow 34 = .ok (.getfield 25, 3) := by decide +kernel
theorem dX3_narrow_37 : decode cX3_narrow 37 = .ok (.lload_n 1, 1) := by decide +kernel
theorem dX3_narrow_38 : decode cX3_narrow 38 = .ok (.lload_n 3, 1) := by decide +kernel
theorem dX3_narrow_39 : decode cX3_narrow 39 = .ok (.invokestatic 47, 3) := by decide +kernel
theorem dX3_narrow_42 : decode cX3_narrow 42 = .ok (.lneg, 1) := by decide +kernel
theorem dX3_narrow_43 : decode cX3_narrow 43 = .ok (.invokestatic 56, 3) := by decide +kernel
theorem dX3_narrow_46 : decode cX3_narrow 46 = .ok (.putfield 25, 3) := by decide +kernel
theorem dX3_narrow_49 : decode cX3_narrow 49 = .ok (.goto 16, 3) := by decide +kernel
theorem dX3_narrow_52 : decode cX3_narrow 52 = .ok (.lload_n 1, 1) := by decide +kernel
theorem dX3_narrow_53 : decode cX3_narrow 53 = .ok (.lconst 0, 1) := by decide +kernel
theorem dX3_narrow_54 : decode cX3_narrow 54 = .ok (.lcmp, 1) := by decide +kernel
theorem dX3_narrow_55 : decode cX3_narrow 55 = .ok (.ifCond .le 10, 3) := by decide +kernel
theorem dX3_narrow_58 : decode cX3_narrow 58 = .ok (.aload_n 0, 1) := by decide +kernel
theorem dX3_narrow_59 : decode cX3_narrow 59 = .ok (.ldc2_w 59, 3) := by decide +kernel
theorem dX3_narrow_62 : decode cX3_narrow 62 = .ok (.putfield 29, 3) := by decide +kernel
theorem dX3_narrow_65 : decode cX3_narrow 65 = .ok (.return_, 1) := by decide +kernel
theorem dX4_init_0 : decode cX4_init 0 = .ok (.aload_n 0, 1) := by decide +kernel
theorem dX4_init_1 : decode cX4_init 1 = .ok (.invokespecial 3, 3) := by decide +kernel
theorem dX4_init_4 : decode cX4_init 4 = .ok (.aload_n 0, 1) := by decide +kernel
theorem dX4_init_5 : decode cX4_init 5 = .ok (.iconst 3, 1) := by decide +kernel
theorem dX4_init_6 : decode cX4_init 6 = .ok (.newarray .long, 2) := by decide +kernel
theorem dX4_init_8 : decode cX4_init 8 = .ok (.putfield 9, 3) := by decide +kernel
theorem dX4_init_11 : decode cX4_init 11 = .ok (.aload_n 0, 1) := by decide +kernel
theorem dX4_init_12 : decode cX4_init 12 = .ok (.iconst 3, 1) := by decide +kernel
theorem dX4_init_13 : decode cX4_init 13 = .ok (.newarray .long, 2) := by decide +kernel
theorem dX4_init_15 : decode cX4_init 15 = .ok (.putfield 15, 3) := by decide +kernel
theorem dX4_init_18 : decode cX4_init 18 = .ok (.aload_n 0, 1) := by decide +kernel
theorem dX4_init_19 : decode cX4_init 19 = .ok (.iconst 3, 1) := by decide +kernel
theorem dX4_init_20 : decode cX4_init 20 = .ok (.newarray .long, 2) := by decide +kernel
theorem dX4_init_22 : decode cX4_init 22 = .ok (.putfield 18, 3) := by decide +kernel
theorem dX4_init_25 : decode cX4_init 25 = .ok (.aload_n 0, 1) := by decide +kernel
theorem dX4_init_26 : decode cX4_init 26 = .ok (.iconst 3, 1) := by decide +kernel
theorem dX4_init_27 : decode cX4_init 27 = .ok (.newarray .long, 2) := by decide +kernel
theorem dX4_init_29 : decode cX4_init 29 = .ok (.putfield 21, 3) := by decide +kernel
theorem dX4_init_32 : decode cX4_init 32 = .ok (.aload_n 0, 1) := by decide +kernel
theorem dX4_init_33 : decode cX4_init 33 = .ok (.lconst 0, 1) := by decide +kernel
theorem dX4_init_34 : decode cX4_init 34 = .ok (.putfield 24, 3) := by decide +kernel
theorem dX4_init_37 : decode cX4_init 37 = .ok (.aload_n 0, 1) := by decide +kernel
theorem dX4_init_38 : decode cX4_init 38 = .ok (.lconst 1, 1) := by decide +kernel
theorem dX4_init_39 : decode cX4_init 39 = .ok (.putfield 28, 3) := by decide +kernel
theorem dX4_init_42 : decode cX4_init 42 = .ok (.aload_n 0, 1) := by decide +kernel
theorem dX4_init_43 : decode cX4_init 43 = .ok (.lconst 0, 1) := by decide +kernel
theorem dX4_init_44 : decode cX4_init 44 = .ok (.putfield 31, 3) := by decide +kernel
theorem dX4_init_47 : decode cX4_init 47 = .ok (.aload_n 0, 1) := by decide +kernel
theorem dX4_init_48 : decode cX4_init 48 = .ok (.lconst 1, 1) := by decide +kernel
theorem dX4_init_49 : decode cX4_init 49 = .ok (.putfield 34, 3) := by decide +kernel
theorem dX4_init_52 : decode cX4_init 52 = .ok (.aload_n 0, 1) := by decide +kernel
theorem dX4_init_53 : decode cX4_init 53 = .ok (.iconst (-1), 1) := by decide +kernel
theorem dX4_init_54 : decode cX4_init 54 = .ok (.putfield 37, 3) := by decide +kernel
theorem dX4_init_57 : decode cX4_init 57 = .ok (.return_, 1) := by decide +kernel
theorem dX4_aim_0 : decode cX4_aim 0 = .ok (.iload_n 3, 1) := by decide +kernel
theorem dX4_aim_1 : decode cX4_aim 1 = .ok (.invokestatic 41, 3) := by decide +kernel
theorem dX4_aim_4 : decode cX4_aim 4 = .ok (.ifCond .eq 52, 3) := by decide +kernel
theorem dX4_aim_7 : decode cX4_aim 7 = .ok (.aload_n 0, 1) := by decide +kernel
theorem dX4_aim_8 : decode cX4_aim 8 = .ok (.getfield 9, 3) := by decide +kernel
theorem dX4_aim_11 : decode cX4_aim 11 = .ok (.iconst 0, 1) := by decide +kernel
theorem dX4_aim_12 : decode cX4_aim 12 = .ok (.getstatic 45, 3) := by decide +kernel
theorem dX4_aim_15 : decode cX4_aim 15 = .ok (.iload_n 3, 1) := by decide +kernel
theorem dX4_aim_16 : decode cX4_aim 16 = .ok (.iaload, 1) := by decide +kernel
theorem dX4_aim_17 : decode cX4_aim 17 = .ok (.i2l, 1) := by decide +kernel
theorem dX4_aim_18 : decode cX4_aim 18 = .ok (.lastore, 1) := by decide +kernel
theorem dX4_aim_19 : decode cX4_aim 19 = .ok (.aload_n 0, 1) := by decide +kernel
theorem dX4_aim_20 : decode cX4_aim 20 = .ok (.getfield 9, 3) := by decide +kernel
theorem dX4_aim_23 : decode cX4_aim 23 = .ok (.iconst 1, 1) := by decide +kernel
theorem dX4_aim_24 : decode cX4_aim 24 = .ok (.getstatic 49, 3) := by decide +kernel
theorem dX4_aim_27 : decode cX4_aim 27 = .ok (.iload_n 3, 1) := by decide +kernel
theorem dX4_aim_28 : decode cX4_aim 28 = .ok (.iaload, 1) := by decide +kernel
theorem dX4_aim_29 : decode cX4_aim 29 = .ok (.i2l, 1) := by decide +kernel
theorem dX4_aim_30 : decode cX4_aim 30 = .ok (.lastore, 1) := by decide +kernel
theorem dX4_aim_31 : decode cX4_aim 31 = .ok (.aload_n 0, 1) := by decide +kernel
theorem dX4_aim_32 : decode cX4_aim 32 = .ok (.getfield 9, 3) := by decide +kernel
theorem dX4_aim_35 : decode cX4_aim 35 = .ok (.iconst 2, 1) := by decide +kernel
theorem dX4_aim_36 : decode cX4_aim 36 = .ok (.iload_n 1, 1) := by decide +kernel
theorem dX4_aim_37 : decode cX4_aim 37 = .ok (.i2l, 1) := by decide +kernel
theorem dX4_aim_38 : decode cX4_aim 38 = .ok (.aload_n 0, 1) := by decide +kernel
theorem dX4_aim_39 : decode cX4_aim 39 = .ok (.getfield 9, 3) := by decide +kernel
theorem dX4_aim_42 : decode cX4_aim 42 = .ok (.iconst 1, 1) := by decide +kernel
theorem dX4_aim_43 : decode cX4_aim 43 = .ok (.laload, 1) := by decide +kernel
theorem dX4_aim_44 : decode cX4_aim 44 = .ok (.lmul, 1) := by decide +kernel
theorem dX4_aim_45 : decode cX4_aim 45 = .ok (.iload_n 2, 1) := by decide +kernel
theorem dX4_aim_46 : decode cX4_aim 46 = .ok (.i2l, 1) := by decide +kernel
theorem dX4_aim_47 : decode cX4_aim 47 = .ok (.aload_n 0, 1) := by decide +kernel
theorem dX4_aim_48 : decode cX4_aim 48 = .ok (.getfield 9, 3) := by decide +kernel
theorem dX4_aim_51 : decode cX4_aim 51 = .ok (.iconst 0, 1) := by decide +kernel
theorem dX4_aim_52 : decode cX4_aim 52 = .ok (.laload, 1) := by decide +kernel
theorem dX4_aim_53 : decode cX4_aim 53 = .ok (.lmul, 1) := by decide +kernel
theorem dX4_aim_54 : decode cX4_aim 54 = .ok (.lsub, 1) := by decide +kernel
theorem dX4_aim_55 : decode cX4_aim 55 = .ok (.lastore, 1) := by decide +kernel
theorem dX4_aim_56 : decode cX4_aim 56 = .ok (.return_, 1) := by decide +kernel
theorem dX4_forgetBest_0 : decode cX4_forgetBest 0 = .ok (.aload_n 0, 1) := by decide +kernel
theorem dX4_forgetBest_1 : decode cX4_forgetBest 1 = .ok (.iconst (-1), 1) := by decide +kernel
theorem dX4_forgetBest_2 : decode cX4_forgetBest 2 = .ok (.putfield 37, 3) := by decide +kernel
theorem dX4_forgetBest_5 : decode cX4_forgetBest 5 = .ok (.return_, 1) := by decide +kernel
theorem dX4_isWeighed_0 : decode cX4_isWeighed 0 = .ok (.aload_n 0, 1) := by decide +kernel
theorem dX4_isWeighed_1 : decode cX4_isWeighed 1 = .ok (.getfield 15, 3) := by decide +kernel
theorem dX4_isWeighed_4 : decode cX4_isWeighed 4 = .ok (.aload_n 1, 1) := by decide +kernel
theorem dX4_isWeighed_5 : decode cX4_isWeighed 5 = .ok (.invokestatic 52, 3) := by decide +kernel
theorem dX4_isWeighed_8 : decode cX4_isWeighed 8 = .ok (.aload_n 0, 1) := by decide +kernel
theorem dX4_isWeighed_9 : decode cX4_isWeighed 9 = .ok (.getfield 18, 3) := by decide +kernel
theorem dX4_isWeighed_12 : decode cX4_isWeighed 12 = .ok (.aload_n 2, 1) := by decide +kernel
theorem dX4_isWeighed_13 : decode cX4_isWeighed 13 = .ok (.invokestatic 52, 3) := by decide +kernel
theorem dX4_isWeighed_16 : decode cX4_isWeighed 16 = .ok (.aload_n 0, 1) := by decide +kernel
theorem dX4_isWeighed_17 : decode cX4_isWeighed 17 = .ok (.getfield 21, 3) := by decide +kernel
theorem dX4_isWeighed_20 : decode cX4_isWeighed 20 = .ok (.aload_n 3, 1) := by decide +kernel
theorem dX4_isWeighed_21 : decode cX4_isWeighed 21 = .ok (.invokestatic 52, 3) := by decide +kernel
theorem dX4_isWeighed_24 : decode cX4_isWeighed 24 = .ok (.aload_n 0, 1) := by decide +kernel
theorem dX4_isWeighed_25 : decode cX4_isWeighed 25 = .ok (.aload_n 0, 1) := by decide +kernel
theorem dX4_isWeighed_26 : decode cX4_isWeighed 26 = .ok (.getfield 15, 3) := by decide +kernel
theorem dX4_isWeighed_29 : decode cX4_isWeighed 29 = .ok (.aload_n 0, 1) := by decide +kernel
theorem dX4_isWeighed_30 : decode cX4_isWeighed 30 = .ok (.getfield 18, 3) := by decide +kernel
theorem dX4_isWeighed_33 : decode cX4_isWeighed 33 = .ok (.aload_n 0, 1) := by decide +kernel
theorem dX4_isWeighed_34 : decode cX4_isWeighed 34 = .ok (.getfield 21, 3) := by decide +kernel
theorem dX4_isWeighed_37 : decode cX4_isWeighed 37 = .ok (.invokestatic 56, 3) := by decide +kernel
theorem dX4_isWeighed_40 : decode cX4_isWeighed 40 = .ok (.invokestatic 60, 3) := by decide +kernel
theorem dX4_isWeighed_43 : decode cX4_isWeighed 43 = .ok (.putfield 28, 3) := by decide +kernel
theorem dX4_isWeighed_46 : decode cX4_isWeighed 46 = .ok (.aload_n 0, 1) := by decide +kernel
theorem dX4_isWeighed_47 : decode cX4_isWeighed 47 = .ok (.aload_n 0, 1) := by decide +kernel
theorem dX4_isWeighed_48 : decode cX4_isWeighed 48 = .ok (.getfield 9, 3) := by decide +kernel
theorem dX4_isWeighed_51 : decode cX4_isWeighed 51 = .ok (.aload_n 0, 1) := by decide +kernel
theorem dX4_isWeighed_52 : decode cX4_isWeighed 52 = .ok (.getfield 18, 3) := by decide +kernel
theorem dX4_isWeighed_55 : decode cX4_isWeighed 55 = .ok (.aload_n 0, 1) := by decide +kernel
theorem dX4_isWeighed_56 : decode cX4_isWeighed 56 = .ok (.getfield 21, 3) := by decide +kernel
theorem dX4_isWeighed_59 : decode cX4_isWeighed 59 = .ok (.invokestatic 56, 3) := by decide +kernel
theorem dX4_isWeighed_62 : decode cX4_isWeighed 62 = .ok (.invokestatic 60, 3) := by decide +kernel
theorem dX4_isWeighed_65 : decode cX4_isWeighed 65 = .ok (.aload_n 1, 1) := by decide +kernel
theorem dX4_isWeighed_66 : decode cX4_isWeighed 66 = .ok (.getfield 66, 3) := by decide +kernel
theorem dX4_isWeighed_69 : decode cX4_isWeighed 69 = .ok (.i2l, 1) := by decide +kernel
theorem dX4_isWeighed_70 : decode cX4_isWeighed 70 = .ok (.lmul, 1) := by decide +kernel
theorem dX4_isWeighed_71 : decode cX4_isWeighed 71 = .ok (.aload_n 0, 1) := by decide +kernel
theorem dX4_isWeighed_72 : decode cX4_isWeighed 72 = .ok (.getfield 15, 3) := by decide +kernel
theorem dX4_isWeighed_75 : decode cX4_isWeighed 75 = .ok (.aload_n 0, 1) := by decide +kernel
theorem dX4_isWeighed_76 : decode cX4_isWeighed 76 = .ok (.getfield 9, 3) := by decide +kernel
theorem dX4_isWeighed_79 : decode cX4_isWeighed 79 = .ok (.aload_n 0, 1) := by decide +kernel
theorem dX4_isWeighed_80 : decode cX4_isWeighed 80 = .ok (.getfield 21, 3) := by decide +kernel
theorem dX4_isWeighed_83 : decode cX4_isWeighed 83 = .ok (.invokestatic 56, 3) := by decide +kernel
theorem dX4_isWeighed_86 : decode cX4_isWeighed 86 = .ok (.invokestatic 60, 3) := by decide +kernel
theorem dX4_isWeighed_89 : decode cX4_isWeighed 89 = .ok (.aload_n 2, 1) := by decide +kernel
theorem dX4_isWeighed_90 : decode cX4_isWeighed 90 = .ok (.getfield 66, 3) := by decide +kernel
theorem dX4_isWeighed_93 : decode cX4_isWeighed 93 = .ok (.i2l, 1) := by decide +kernel
theorem dX4_isWeighed_94 : decode cX4_isWeighed 94 = .ok (.lmul, 1) := by decide +kernel
theorem dX4_isWeighed_95 : decode cX4_isWeighed 95 = .ok (.ladd, 1) := by decide +kernel
theorem dX4_isWeighed_96 : decode cX4_isWeighed 96 = .ok (.aload_n 0, 1) := by decide +kernel
theorem dX4_isWeighed_97 : decode cX4_isWeighed 97 = .ok (.getfield 15, 3) := by decide +kernel
theorem dX4_isWeighed_100 : decode cX4_isWeighed 100 = .ok (.aload_n 0, 1) := by decide +kernel
theorem dX4_isWeighed_101 : decode cX4_isWeighed 101 = .ok (.getfield 18, 3) := by decide +kernel
theorem dX4_isWeighed_104 : decode cX4_isWeighed 104 = .ok (.aload_n 0, 1) := by decide +kernel
theorem dX4_isWeighed_105 : decode cX4_isWeighed 105 = .ok (.getfield 9, 3) := by decide +kernel
theorem dX4_isWeighed_108 : decode cX4_isWeighed 108 = .ok (.invokestatic 56, 3) := by decide +kernel
theorem dX4_isWeighed_111 : decode cX4_isWeighed 111 = .ok (.invokestatic 60, 3) := by decide +kernel
theorem dX4_isWeighed_114 : decode cX4_isWeighed 114 = .ok (.aload_n 3, 1) := by decide +kernel
theorem dX4_isWeighed_115 : decode cX4_isWeighed 115 = .ok (.getfield 66, 3) := by decide +kernel
theorem dX4_isWeighed_118 : decode cX4_isWeighed 118 = .ok (.i2l, 1) := by decide +kernel
theorem dX4_isWeighed_119 : decode cX4_isWeighed 119 = .ok (.lmul, 1) := by decide +kernel
theorem dX4_isWeighed_120 : decode cX4_isWeighed 120 = .ok (.ladd, 1) := by decide +kernel
theorem dX4_isWeighed_121 : decode cX4_isWeighed 121 = .ok (.putfield 24, 3) := by decide +kernel
theorem dX4_isWeighed_124 : decode cX4_isWeighed 124 = .ok (.aload_n 0, 1) := by decide +kernel
theorem dX4_isWeighed_125 : decode cX4_isWeighed 125 = .ok (.getfield 28, 3) := by decide +kernel
theorem dX4_isWeighed_128 : decode cX4_isWeighed 128 = .ok (.lconst 0, 1) := by decide +kernel
theorem dX4_isWeighed_129 : decode cX4_isWeighed 129 = .ok (.lcmp, 1) := by decide +kernel
theorem dX4_isWeighed_130 : decode cX4_isWeighed 130 = .ok (.ifCond .eq 7, 3) := by decide +kernel
theorem dX4_isWeighed_133 : decode cX4_isWeighed 133 = .ok (.iconst 1, 1) := by decide +kernel
theorem dX4_isWeighed_134 : decode cX4_isWeighed 134 = .ok (.goto 4, 3) := by decide +kernel
theorem dX4_isWeighed_137 : decode cX4_isWeighed 137 = .ok (.iconst 0, 1) := by decide +kernel
theorem dX4_isWeighed_138 : decode cX4_isWeighed 138 = .ok (.ireturn, 1) := by decide +kernel
theorem dX4_rememberIfBetter_0 : decode cX4_rememberIfBetter 0 = .ok (.aload_n 0, 1) := by decide +kernel
theorem dX4_rememberIfBetter_1 : decode cX4_rememberIfBetter 1 = .ok (.getfield 37, 3) := by decide +kernel
theorem dX4_rememberIfBetter_4 : decode cX4_rememberIfBetter 4 = .ok (.ifCond .lt 25, 3) := by decide +kernel
theorem dX4_rememberIfBetter_7 : decode cX4_rememberIfBetter 7 = .ok (.aload_n 0, 1) := by decide +kernel
theorem dX4_rememberIfBetter_8 : decode cX4_rememberIfBetter 8 = .ok (.getfield 24, 3) := by decide +kernel
theorem dX4_rememberIfBetter_11 : decode cX4_rememberIfBetter 11 = .ok (.aload_n 0, 1) := by decide +kernel
theorem dX4_rememberIfBetter_12 : decode cX4_rememberIfBetter 12 = .ok (.getfield 34, 3) := by decide +kernel
theorem dX4_rememberIfBetter_15 : decode cX4_rememberIfBetter 15 = .ok (.lmul, 1) := by decide +kernel
theorem dX4_rememberIfBetter_16 : decode cX4_rememberIfBetter 16 = .ok (.aload_n 0, 1) := by decide +kernel
theorem dX4_rememberIfBetter_17 : decode cX4_rememberIfBetter 17 = .ok (.getfield 31, 3) := by decide +kernel
theorem dX4_rememberIfBetter_20 : decode cX4_rememberIfBetter 20 = .ok (.aload_n 0, 1) := by decide +kernel
theorem dX4_rememberIfBetter_21 : decode cX4_rememberIfBetter 21 = .ok (.getfield 28, 3) := by decide +kernel
theorem dX4_rememberIfBetter_24 : decode cX4_rememberIfBetter 24 = .ok (.lmul, 1) := by decide +kernel
theorem dX4_rememberIfBetter_25 : decode cX4_rememberIfBetter 25 = .ok (.lcmp, 1) := by decide +kernel
theorem dX4_rememberIfBetter_26 : decode cX4_rememberIfBetter 26 = .ok (.ifCond .ge 24, 3) := by decide +kernel
theorem dX4_rememberIfBetter_29 : decode cX4_rememberIfBetter 29 = .ok (.aload_n 0, 1) := by decide +kernel
theorem dX4_rememberIfBetter_30 : decode cX4_rememberIfBetter 30 = .ok (.iload_n 1, 1) := by decide +kernel
theorem dX4_rememberIfBetter_31 : decode cX4_rememberIfBetter 31 = .ok (.putfield 37, 3) := by decide +kernel
theorem dX4_rememberIfBetter_34 : decode cX4_rememberIfBetter 34 = .ok (.aload_n 0, 1) := by decide +kernel
theorem dX4_rememberIfBetter_35 : decode cX4_rememberIfBetter 35 = .ok (.aload_n 0, 1) := by decide +kernel
theorem dX4_rememberIfBetter_36 : decode cX4_rememberIfBetter 36 = .ok (.getfield 24, 3) := by decide +kernel
theorem dX4_rememberIfBetter_39 : decode cX4_rememberIfBetter 39 = .ok (.putfield 31, 3) := by decide +kernel
theorem dX4_rememberIfBetter_42 : decode cX4_rememberIfBetter 42 = .ok (.aload_n 0, 1) := by decide +kernel
theorem dX4_rememberIfBetter_43 : decode cX4_rememberIfBetter 43 = .ok (.aload_n 0, 1) := by decide +kernel
theorem dX4_rememberIfBetter_44 : decode cX4_rememberIfBetter 44 = .ok (.getfield 28, 3) := by decide +kernel
theorem dX4_rememberIfBetter_47 : decode cX4_rememberIfBetter 47 = .ok (.putfield 34, 3) := by decide +kernel
theorem dX4_rememberIfBetter_50 : decode cX4_rememberIfBetter 50 = .ok (.return_, 1) := by decide +kernel
theorem dX4_fill_0 : decode cX4_fill 0 = .ok (.aload_n 0, 1) := by decide +kernel
theorem dX4_fill_1 : decode cX4_fill 1 = .ok (.arraylength, 1) := by decide +kernel
theorem dX4_fill_2 : decode cX4_fill 2 = .ok (.iconst 2, 1) := by decide +kernel
theorem dX4_fill_3 : decode cX4_fill 3 = .ok (.if_icmp .le 30, 3) := by decide +kernel
theorem dX4_fill_6 : decode cX4_fill 6 = .ok (.aload_n 0, 1) := by decide +kernel
theorem dX4_fill_7 : decode cX4_fill 7 = .ok (.iconst 0, 1) := by decide +kernel
theorem dX4_fill_8 : decode cX4_fill 8 = .ok (.aload_n 1, 1) := by decide +kernel
theorem dX4_fill_9 : decode cX4_fill 9 = .ok (.iconst (-1), 1) := by decide +kernel
theorem dX4_fill_10 : decode cX4_fill 10 = .ok (.invokevirtual 71, 3) := by decide +kernel
theorem dX4_fill_13 : decode cX4_fill 13 = .ok (.i2l, 1) := by decide +kernel
theorem dX4_fill_14 : decode cX4_fill 14 = .ok (.lastore, 1) := by decide +kernel
theorem dX4_fill_15 : decode cX4_fill 15 = .ok (.aload_n 0, 1) := by decide +kernel
theorem dX4_fill_16 : decode cX4_fill 16 = .ok (.iconst 1, 1) := by decide +kernel
theorem dX4_fill_17 : decode cX4_fill 17 = .ok (.aload_n 1, 1) := by decide +kernel
theorem dX4_fill_18 : decode cX4_fill 18 = .ok (.iconst (-1), 1) := by decide +kernel
theorem dX4_fill_19 : decode cX4_fill 19 = .ok (.invokevirtual 75, 3) := by decide +kernel
theorem dX4_fill_22 : decode cX4_fill 22 = .ok (.i2l, 1) := by decide +kernel
theorem dX4_fill_23 : decode cX4_fill 23 = .ok (.lastore, 1) := by decide +kernel
theorem dX4_fill_24 : decode cX4_fill 24 = .ok (.aload_n 0, 1) := by decide +kernel
theorem dX4_fill_25 : decode cX4_fill 25 = .ok (.iconst 2, 1) := by decide +kernel
theorem dX4_fill_26 : decode cX4_fill 26 = .ok (.aload_n 1, 1) := by decide +kernel
theorem dX4_fill_27 : decode cX4_fill 27 = .ok (.iconst (-1), 1) := by decide +kernel
theorem dX4_fill_28 : decode cX4_fill 28 = .ok (.invokevirtual 78, 3) := by decide +kernel
theorem dX4_fill_31 : decode cX4_fill 31 = .ok (.i2l, 1) := by decide +kernel
theorem dX4_fill_32 : decode cX4_fill 32 = .ok (.lastore, 1) := by decide +kernel
theorem dX4_fill_33 : decode cX4_fill 33 = .ok (.return_, 1) := by decide +kernel
theorem dX4_determinant_0 : decode cX4_determinant 0 = .ok (.aload_n 0, 1) := by decide +kernel
theorem dX4_determinant_1 : decode cX4_determinant 1 = .ok (.arraylength, 1) := by decide +kernel
theorem dX4_determinant_2 : decode cX4_determinant 2 = .ok (.iconst 3, 1) := by decide +kernel
theorem dX4_determinant_3 : decode cX4_determinant 3 = .ok (.if_icmp .lt 15, 3) := by decide +kernel
theorem dX4_determinant_6 : decode cX4_determinant 6 = .ok (.aload_n 1, 1) := by decide +kernel
theorem dX4_determinant_7 : decode cX4_determinant 7 = .ok (.arraylength, 1) := by decide +kernel
theorem dX4_determinant_8 : decode cX4_determinant 8 = .ok (.iconst 3, 1) := by decide +kernel
theorem dX4_determinant_9 : decode cX4_determinant 9 = .ok (.if_icmp .lt 9, 3) := by decide +kernel
theorem dX4_determinant_12 : decode cX4_determinant 12 = .ok (.aload_n 2, 1) := by decide +kernel
theorem dX4_determinant_13 : decode cX4_determinant 13 = .ok (.arraylength, 1) := by decide +kernel
theorem dX4_determinant_14 : decode cX4_determinant 14 = .ok (.iconst 3, 1) := by decide +kernel
theorem dX4_determinant_15 : decode cX4_determinant 15 = .ok (.if_icmp .ge 5, 3) := by decide +kernel
theorem dX4_determinant_18 : decode cX4_determinant 18 = .ok (.lconst 0, 1) := by decide +kernel
theorem dX4_determinant_19 : decode cX4_determinant 19 = .ok (.lreturn, 1) := by decide +kernel
theorem dX4_determinant_20 : decode cX4_determinant 20 = .ok (.aload_n 0, 1) := by decide +kernel
theorem dX4_determinant_21 : decode cX4_determinant 21 = .ok (.iconst 0, 1) := by decide +kernel
theorem dX4_determinant_22 : decode cX4_determinant 22 = .ok (.laload, 1) := by decide +kernel
theorem dX4_determinant_23 : decode cX4_determinant 23 = .ok (.aload_n 1, 1) := by decide +kernel
theorem dX4_determinant_24 : decode cX4_determinant 24 = .ok (.iconst 1, 1) := by decide +kernel
theorem dX4_determinant_25 : decode cX4_determinant 25 = .ok (.laload, 1) := by decide +kernel
theorem dX4_determinant_26 : decode cX4_determinant 26 = .ok (.aload_n 2, 1) := by decide +kernel
theorem dX4_determinant_27 : decode cX4_determinant 27 = .ok (.iconst 2, 1) := by decide +kernel
theorem dX4_determinant_28 : decode cX4_determinant 28 = .ok (.laload, 1) := by decide +kernel
theorem dX4_determinant_29 : decode cX4_determinant 29 = .ok (.lmul, 1) := by decide +kernel
theorem dX4_determinant_30 : decode cX4_determinant 30 = .ok (.aload_n 1, 1) := by decide +kernel
theorem dX4_determinant_31 : decode cX4_determinant 31 = .ok (.iconst 2, 1) := by decide +kernel
theorem dX4_determinant_32 : decode cX4_determinant 32 = .ok (.laload, 1) := by decide +kernel
theorem dX4_determinant_33 : decode cX4_determinant 33 = .ok (.aload_n 2, 1) := by decide +kernel
theorem dX4_determinant_34 : decode cX4_determinant 34 = .ok (.iconst 1, 1) := by decide +kernel
theorem dX4_determinant_35 : decode cX4_determinant 35 = .ok (.laload, 1) := by decide +kernel
theorem dX4_determinant_36 : decode cX4_determinant 36 = .ok (.lmul, 1) := by decide +kernel
theorem dX4_determinant_37 : decode cX4_determinant 37 = .ok (.lsub, 1) := by decide +kernel
theorem dX4_determinant_38 : decode cX4_determinant 38 = .ok (.lmul, 1) := by decide +kernel
theorem dX4_determinant_39 : decode cX4_determinant 39 = .ok (.aload_n 0, 1) := by decide +kernel
theorem dX4_determinant_40 : decode cX4_determinant 40 = .ok (.iconst 1, 1) := by decide +kernel
theorem dX4_determinant_41 : decode cX4_determinant 41 = .ok (.laload, 1) := by decide +kernel
theorem dX4_determinant_42 : decode cX4_determinant 42 = .ok (.aload_n 1, 1) := by decide +kernel
theorem dX4_determinant_43 : decode cX4_determinant 43 = .ok (.iconst 2, 1) := by decide +kernel
theorem dX4_determinant_44 : decode cX4_determinant 44 = .ok (.laload, 1) := by decide +kernel
theorem dX4_determinant_45 : decode cX4_determinant 45 = .ok (.aload_n 2, 1) := by decide +kernel
theorem dX4_determinant_46 : decode cX4_determinant 46 = .ok (.iconst 0, 1) := by decide +kernel
theorem dX4_determinant_47 : decode cX4_determinant 47 = .ok (.laload, 1) := by decide +kernel
theorem dX4_determinant_48 : decode cX4_determinant 48 = .ok (.lmul, 1) := by decide +kernel
theorem dX4_determinant_49 : decode cX4_determinant 49 = .ok (.aload_n 1, 1) := by decide +kernel
theorem dX4_determinant_50 : decode cX4_determinant 50 = .ok (.iconst 0, 1) := by decide +kernel
theorem dX4_determinant_51 : decode cX4_determinant 51 = .ok (.laload, 1) := by decide +kernel
theorem dX4_determinant_52 : decode cX4_determinant 52 = .ok (.aload_n 2, 1) := by decide +kernel
theorem dX4_determinant_53 : decode cX4_determinant 53 = .ok (.iconst 2, 1) := by decide +kernel
theorem dX4_determinant_54 : decode cX4_determinant 54 = .ok (.laload, 1) := by decide +kernel
theorem dX4_determinant_55 : decode cX4_determinant 55 = .ok (.lmul, 1) := by decide +kernel
theorem dX4_determinant_56 : decode cX4_determinant 56 = .ok (.lsub, 1) := by decide +kernel
theorem dX4_determinant_57 : decode cX4_determinant 57 = .ok (.lmul, 1) := by decide +kernel
theorem dX4_determinant_58 : decode cX4_determinant 58 = .ok (.ladd, 1) := by decide +kernel
theorem dX4_determinant_59 : decode cX4_determinant 59 = .ok (.aload_n 0, 1) := by decide +kernel
theorem dX4_determinant_60 : decode cX4_determinant 60 = .ok (.iconst 2, 1) := by decide +kernel
theorem dX4_determinant_61 : decode cX4_determinant 61 = .ok (.laload, 1) := by decide +kernel
theorem dX4_determinant_62 : decode cX4_determinant 62 = .ok (.aload_n 1, 1) := by decide +kernel
theorem dX4_determinant_63 : decode cX4_determinant 63 = .ok (.iconst 0, 1) := by decide +kernel
theorem dX4_determinant_64 : decode cX4_determinant 64 = .ok (.laload, 1) := by decide +kernel
theorem dX4_determinant_65 : decode cX4_determinant 65 = .ok (.aload_n 2, 1) := by decide +kernel
theorem dX4_determinant_66 : decode cX4_determinant 66 = .ok (.iconst 1, 1) := by decide +kernel
theorem dX4_determinant_67 : decode cX4_determinant 67 = .ok (.laload, 1) := by decide +kernel
theorem dX4_determinant_68 : decode cX4_determinant 68 = .ok (.lmul, 1) := by decide +kernel
theorem dX4_determinant_69 : decode cX4_determinant 69 = .ok (.aload_n 1, 1) := by decide +kernel
theorem dX4_determinant_70 : decode cX4_determinant 70 = .ok (.iconst 1, 1) := by decide +kernel
theorem dX4_determinant_71 : decode cX4_determinant 71 = .ok (.laload, 1) := by decide +kernel
theorem dX4_determinant_72 : decode cX4_determinant 72 = .ok (.aload_n 2, 1) := by decide +kernel
theorem dX4_determinant_73 : decode cX4_determinant 73 = .ok (.iconst 0, 1) := by decide +kernel
theorem dX4_determinant_74 : decode cX4_determinant 74 = .ok (.laload, 1) := by decide +kernel
theorem dX4_determinant_75 : decode cX4_determinant 75 = .ok (.lmul, 1) := by decide +kernel
theorem dX4_determinant_76 : decode cX4_determinant 76 = .ok (.lsub, 1) := by decide +kernel
theorem dX4_determinant_77 : decode cX4_determinant 77 = .ok (.lmul, 1) := by decide +kernel
theorem dX4_determinant_78 : decode cX4_determinant 78 = .ok (.ladd, 1) := by decide +kernel
theorem dX4_determinant_79 : decode cX4_determinant 79 = .ok (.lreturn, 1) := by decide +kernel
theorem dX5_init_0 : decode cX5_init 0 = .ok (.aload_n 0, 1) := by decide +kernel
theorem dX5_init_1 : decode cX5_init 1 = .ok (.iload_n 1, 1) := by decide +kernel
theorem dX5_init_2 : decode cX5_init 2 = .ok (.iload_n 2, 1) := by decide +kernel
theorem dX5_init_3 : decode cX5_init 3 = .ok (.iload_n 3, 1) := by decide +kernel
theorem dX5_init_4 : decode cX5_init 4 = .ok (.iload 5, 2) := by decide +kernel
theorem dX5_init_6 : decode cX5_init 6 = .ok (.invokespecial 3, 3) := by decide +kernel
theorem dX5_init_9 : decode cX5_init 9 = .ok (.aload_n 0, 1) := by decide +kernel
theorem dX5_init_10 : decode cX5_init 10 = .ok (.iload 4, 2) := by decide +kernel
theorem dX5_init_12 : decode cX5_init 12 = .ok (.putfield 9, 3) := by decide +kernel
theorem dX5_init_15 : decode cX5_init 15 = .ok (.return_, 1) := by decide +kernel
theorem dX5_kind_0 : decode cX5_kind 0 = .ok (.iconst 1, 1) := by decide +kernel
theorem dX5_kind_1 : decode cX5_kind 1 = .ok (.ireturn, 1) := by decide +kernel
theorem dX5_gripped_0 : decode cX5_gripped 0 = .ok (.aload_n 0, 1) := by decide +kernel
theorem dX5_gripped_1 : decode cX5_gripped 1 = .ok (.getfield 9, 3) := by decide +kernel
theorem dX5_gripped_4 : decode cX5_gripped 4 = .ok (.ireturn, 1) := by decide +kernel
theorem dX5_pushCount_0 : decode cX5_pushCount 0 = .ok (.iconst 2, 1) := by decide +kernel
theorem dX5_pushCount_1 : decode cX5_pushCount 1 = .ok (.ireturn, 1) := by decide +kernel
theorem dX5_leans_0 : decode cX5_leans 0 = .ok (.iconst 1, 1) := by decide +kernel
theorem dX5_leans_1 : decode cX5_leans 1 = .ok (.iconst 2, 1) := by decide +kernel
theorem dX5_leans_2 : decode cX5_leans 2 = .ok (.iload_n 1, 1) := by decide +kernel
theorem dX5_leans_3 : decode cX5_leans 3 = .ok (.imul, 1) := by decide +kernel
theorem dX5_leans_4 : decode cX5_leans 4 = .ok (.isub, 1) := by decide +kernel
theorem dX5_leans_5 : decode cX5_leans 5 = .ok (.ireturn, 1) := by decide +kernel
theorem dX5_weighs_0 : decode cX5_weighs 0 = .ok (.bipush 10, 2) := by decide +kernel
theorem dX5_weighs_2 : decode cX5_weighs 2 = .ok (.aload_n 0, 1) := by decide +kernel
theorem dX5_weighs_3 : decode cX5_weighs 3 = .ok (.getfield 15, 3) := by decide +kernel
theorem dX5_weighs_6 : decode cX5_weighs 6 = .ok (.iadd, 1) := by decide +kernel
theorem dX5_weighs_7 : decode cX5_weighs 7 = .ok (.aload_n 0, 1) := by decide +kernel
theorem dX5_weighs_8 : decode cX5_weighs 8 = .ok (.getfield 9, 3) := by decide +kernel
theorem dX5_weighs_11 : decode cX5_weighs 11 = .ok (.iadd, 1) := by decide +kernel
theorem dX5_weighs_12 : decode cX5_weighs 12 = .ok (.bipush 100, 2) := by decide +kernel
theorem dX5_weighs_14 : decode cX5_weighs 14 = .ok (.iadd, 1) := by decide +kernel
theorem dX5_weighs_15 : decode cX5_weighs 15 = .ok (.ireturn, 1) := by decide +kernel
theorem dX5_fail_0 : decode cX5_fail 0 = .ok (.new 18, 3) := by decide +kernel
theorem dX5_fail_3 : decode cX5_fail 3 = .ok (.dup, 1) := by decide +kernel
theorem dX5_fail_4 : decode cX5_fail 4 = .ok (.ldc 20, 2) := by decide +kernel
theorem dX5_fail_6 : decode cX5_fail 6 = .ok (.invokespecial 22, 3) := by decide +kernel
theorem dX5_fail_9 : decode cX5_fail 9 = .ok (.athrow, 1) := by decide +kernel
theorem dX6_init_0 : decode cX6_init 0 = .ok (.aload_n 0, 1) := by decide +kernel
theorem dX6_init_1 : decode cX6_init 1 = .ok (.invokespecial 3, 3) := by decide +kernel
theorem dX6_init_4 : decode cX6_init 4 = .ok (.aload_n 0, 1) := by decide +kernel
theorem dX6_init_5 : decode cX6_init 5 = .ok (.bipush 40, 2) := by decide +kernel
theorem dX6_init_7 : decode cX6_init 7 = .ok (.newarray .int, 2) := by decide +kernel
theorem dX6_init_9 : decode cX6_init 9 = .ok (.putfield 9, 3) := by decide +kernel
theorem dX6_init_12 : decode cX6_init 12 = .ok (.aload_n 0, 1) := by decide +kernel
theorem dX6_init_13 : decode cX6_init 13 = .ok (.bipush 40, 2) := by decide +kernel
theorem dX6_init_15 : decode cX6_init 15 = .ok (.newarray .int, 2) := by decide +kernel
theorem dX6_init_17 : decode cX6_init 17 = .ok (.putfield 15, 3) := by decide +kernel
theorem dX6_init_20 : decode cX6_init 20 = .ok (.aload_n 0, 1) := by decide +kernel
theorem dX6_init_21 : decode cX6_init 21 = .ok (.iconst 0, 1) := by decide +kernel
theorem dX6_init_22 : decode cX6_init 22 = .ok (.putfield 18, 3) := by decide +kernel
theorem dX6_init_25 : decode cX6_init 25 = .ok (.aload_n 0, 1) := by decide +kernel
theorem dX6_init_26 : decode cX6_init 26 = .ok (.iconst 0, 1) := by decide +kernel
theorem dX6_init_27 : decode cX6_init 27 = .ok (.putfield 22, 3) := by decide +kernel
theorem dX6_init_30 : decode cX6_init 30 = .ok (.return_, 1) := by decide +kernel
theorem dX6_taken_0 : decode cX6_taken 0 = .ok (.aload_n 0, 1) := by decide +kernel
theorem dX6_taken_1 : decode cX6_taken 1 = .ok (.getfield 18, 3) := by decide +kernel
theorem dX6_taken_4 : decode cX6_taken 4 = .ok (.bipush 40, 2) := by decide +kernel
theorem dX6_taken_6 : decode cX6_taken 6 = .ok (.if_icmp .lt 5, 3) := by decide +kernel
theorem dX6_taken_9 : decode cX6_taken 9 = .ok (.iconst 0, 1) := by decide +kernel
theorem dX6_taken_10 : decode cX6_taken 10 = .ok (.ireturn, 1) := by decide +kernel
theorem dX6_taken_11 : decode cX6_taken 11 = .ok (.aload_n 0, 1) := by decide +kernel
theorem dX6_taken_12 : decode cX6_taken 12 = .ok (.getfield 9, 3) := by decide +kernel
theorem dX6_taken_15 : decode cX6_taken 15 = .ok (.aload_n 0, 1) := by decide +kernel
theorem dX6_taken_16 : decode cX6_taken 16 = .ok (.getfield 18, 3) := by decide +kernel
theorem dX6_taken_19 : decode cX6_taken 19 = .ok (.iload_n 1, 1) := by decide +kernel
theorem dX6_taken_20 : decode cX6_taken 20 = .ok (.iastore, 1) := by decide +kernel
theorem dX6_taken_21 : decode cX6_taken 21 = .ok (.aload_n 0, 1) := by decide +kernel
theorem dX6_taken_22 : decode cX6_taken 22 = .ok (.getfield 15, 3) := by decide +kernel
theorem dX6_taken_25 : decode cX6_taken 25 = .ok (.aload_n 0, 1) := by decide +kernel
theorem dX6_taken_26 : decode cX6_taken 26 = .ok (.getfield 18, 3) := by decide +kernel
theorem dX6_taken_29 : decode cX6_taken 29 = .ok (.iload_n 2, 1) := by decide +kernel
theorem dX6_taken_30 : decode cX6_taken 30 = .ok (.iastore, 1) := by decide +kernel
theorem dX6_taken_31 : decode cX6_taken 31 = .ok (.aload_n 0, 1) := by decide +kernel
theorem dX6_taken_32 : decode cX6_taken 32 = .ok (.dup, 1) := by decide +kernel
theorem dX6_taken_33 : decode cX6_taken 33 = .ok (.getfield 18, 3) := by decide +kernel
theorem dX6_taken_36 : decode cX6_taken 36 = .ok (.iconst 1, 1) := by decide +kernel
theorem dX6_taken_37 : decode cX6_taken 37 = .ok (.iadd, 1) := by decide +kernel
theorem dX6_taken_38 : decode cX6_taken 38 = .ok (.putfield 18, 3) := by decide +kernel
theorem dX6_taken_41 : decode cX6_taken 41 = .ok (.iconst 1, 1) := by decide +kernel
theorem dX6_taken_42 : decode cX6_taken 42 = .ok (.ireturn, 1) := by decide +kernel
theorem dX6_firstLineNear_0 : decode cX6_firstLineNear 0 = .ok (.aload_n 0, 1) := by decide +kernel
theorem dX6_firstLineNear_1 : decode cX6_firstLineNear 1 = .ok (.getfield 18, 3) := by decide +kernel
theorem dX6_firstLineNear_4 : decode cX6_firstLineNear 4 = .ok (.iconst 1, 1) := by decide +kernel
theorem dX6_firstLineNear_5 : decode cX6_firstLineNear 5 = .ok (.if_icmp .ne 7, 3) := by decide +kernel
theorem dX6_firstLineNear_8 : decode cX6_firstLineNear 8 = .ok (.iconst 1, 1) := by decide +kernel
theorem dX6_firstLineNear_9 : decode cX6_firstLineNear 9 = .ok (.goto 9, 3) := by decide +kernel
theorem dX6_firstLineNear_12 : decode cX6_firstLineNear 12 = .ok (.aload_n 0, 1) := by decide +kernel
theorem dX6_firstLineNear_13 : decode cX6_firstLineNear 13 = .ok (.getfield 18, 3) := by decide +kernel
theorem dX6_firstLineNear_16 : decode cX6_firstLineNear 16 = .ok (.iconst 1, 1) := by decide +kernel
theorem dX6_firstLineNear_17 : decode cX6_firstLineNear 17 = .ok (.isub, 1) := by decide +kernel
theorem dX6_firstLineNear_18 : decode cX6_firstLineNear 18 = .ok (.istore_n 2, 1) := by decide +kernel
theorem dX6_firstLineNear_19 : decode cX6_firstLineNear 19 = .ok (.iconst 0, 1) := by decide +kernel
theorem dX6_firstLineNear_20 : decode cX6_firstLineNear 20 = .ok (.istore_n 3, 1) := by decide +kernel
theorem dX6_firstLineNear_21 : decode cX6_firstLineNear 21 = .ok (.iload_n 3, 1) := by decide +kernel
theorem dX6_firstLineNear_22 : decode cX6_firstLineNear 22 = .ok (.iload_n 2, 1) := by decide +kernel
theorem dX6_firstLineNear_23 : decode cX6_firstLineNear 23 = .ok (.if_icmp .ge 35, 3) := by decide +kernel
theorem dX6_firstLineNear_26 : decode cX6_firstLineNear 26 = .ok (.aload_n 0, 1) := by decide +kernel
theorem dX6_firstLineNear_27 : decode cX6_firstLineNear 27 = .ok (.iload_n 3, 1) := by decide +kernel
theorem dX6_firstLineNear_28 : decode cX6_firstLineNear 28 = .ok (.aload_n 0, 1) := by decide +kernel
theorem dX6_firstLineNear_29 : decode cX6_firstLineNear 29 = .ok (.getfield 18, 3) := by decide +kernel
theorem dX6_firstLineNear_32 : decode cX6_firstLineNear 32 = .ok (.iconst 1, 1) := by decide +kernel
theorem dX6_firstLineNear_33 : decode cX6_firstLineNear 33 = .ok (.if_icmp .ne 7, 3) := by decide +kernel
theorem dX6_firstLineNear_36 : decode cX6_firstLineNear 36 = .ok (.iload_n 3, 1) := by decide +kernel
theorem dX6_firstLineNear_37 : decode cX6_firstLineNear 37 = .ok (.goto 6, 3) := by decide +kernel
theorem dX6_firstLineNear_40 : decode cX6_firstLineNear 40 = .ok (.iload_n 3, 1) := by decide +kernel
theorem dX6_firstLineNear_41 : decode cX6_firstLineNear 41 = .ok (.iconst 1, 1) := by decide +kernel
theorem dX6_firstLineNear_42 : decode cX6_firstLineNear 42 = .ok (.iadd, 1) := by decide +kernel
theorem dX6_firstLineNear_43 : decode cX6_firstLineNear 43 = .ok (.aload_n 1, 1) := by decide +kernel
theorem dX6_firstLineNear_44 : decode cX6_firstLineNear 44 = .ok (.invokevirtual 25, 3) := by decide +kernel
theorem dX6_firstLineNear_47 : decode cX6_firstLineNear 47 = .ok (.ifCond .eq 5, 3) := by decide +kernel
theorem dX6_firstLineNear_50 : decode cX6_firstLineNear 50 = .ok (.iload_n 3, 1) := by decide +kernel
theorem dX6_firstLineNear_51 : decode cX6_firstLineNear 51 = .ok (.ireturn, 1) := by decide +kernel
theorem dX6_firstLineNear_52 : decode cX6_firstLineNear 52 = .ok (.iinc 3 1, 3) := by decide +kernel
theorem dX6_firstLineNear_55 : decode cX6_firstLineNear 55 = .ok (.goto (-34), 3) := by decide +kernel
theorem dX6_firstLineNear_58 : decode cX6_firstLineNear 58 = .ok (.iconst (-1), 1) := by decide +kernel
theorem dX6_firstLineNear_59 : decode cX6_firstLineNear 59 = .ok (.ireturn, 1) := by decide +kernel
theorem dX6_isNear_0 : decode cX6_isNear 0 = .ok (.iload_n 1, 1) := by decide +kernel
theorem dX6_isNear_1 : decode cX6_isNear 1 = .ok (.ifCond .lt 19, 3) := by decide +kernel
theorem dX6_isNear_4 : decode cX6_isNear 4 = .ok (.iload_n 2, 1) := by decide +kernel
theorem dX6_isNear_5 : decode cX6_isNear 5 = .ok (.ifCond .lt 15, 3) := by decide +kernel
theorem dX6_isNear_8 : decode cX6_isNear 8 = .ok (.iload_n 1, 1) := by decide +kernel
theorem dX6_isNear_9 : decode cX6_isNear 9 = .ok (.bipush 40, 2) := by decide +kernel
theorem dX6_isNear_11 : decode cX6_isNear 11 = .ok (.if_icmp .ge 9, 3) := by decide +kernel
theorem dX6_isNear_14 : decode cX6_isNear 14 = .ok (.iload_n 2, 1) := by decide +kernel
theorem dX6_isNear_15 : decode cX6_isNear 15 = .ok (.bipush 40, 2) := by decide +kernel
theorem dX6_isNear_17 : decode cX6_isNear 17 = .ok (.if_icmp .lt 5, 3) := by decide +kernel
theorem dX6_isNear_20 : decode cX6_isNear 20 = .ok (.iconst 0, 1) := by decide +kernel
theorem dX6_isNear_21 : decode cX6_isNear 21 = .ok (.ireturn, 1) := by decide +kernel
theorem dX6_isNear_22 : decode cX6_isNear 22 = .ok (.aload_n 0, 1) := by decide +kernel
theorem dX6_isNear_23 : decode cX6_isNear 23 = .ok (.getfield 9, 3) := by decide +kernel
theorem dX6_isNear_26 : decode cX6_isNear 26 = .ok (.iload_n 2, 1) := by decide +kernel
theorem dX6_isNear_27 : decode cX6_isNear 27 = .ok (.iaload, 1) := by decide +kernel
theorem dX6_isNear_28 : decode cX6_isNear 28 = .ok (.aload_n 0, 1) := by decide +kernel
theorem dX6_isNear_29 : decode cX6_isNear 29 = .ok (.getfield 9, 3) := by decide +kernel
theorem dX6_isNear_32 : decode cX6_isNear 32 = .ok (.iload_n 1, 1) := by decide +kernel
theorem dX6_isNear_33 : decode cX6_isNear 33 = .ok (.iaload, 1) := by decide +kernel
theorem dX6_isNear_34 : decode cX6_isNear 34 = .ok (.isub, 1) := by decide +kernel
theorem dX6_isNear_35 : decode cX6_isNear 35 = .ok (.i2l, 1) := by decide +kernel
theorem dX6_isNear_36 : decode cX6_isNear 36 = .ok (.lstore 4, 2) := by decide +kernel
theorem dX6_isNear_38 : decode cX6_isNear 38 = .ok (.aload_n 0, 1) := by decide +kernel
theorem dX6_isNear_39 : decode cX6_isNear 39 = .ok (.getfield 15, 3) := by decide +kernel
theorem dX6_isNear_42 : decode cX6_isNear 42 = .ok (.iload_n 2, 1) := by decide +kernel
theorem dX6_isNear_43 : decode cX6_isNear 43 = .ok (.iaload, 1) := by decide +kernel
theorem dX6_isNear_44 : decode cX6_isNear 44 = .ok (.aload_n 0, 1) := by decide +kernel
theorem dX6_isNear_45 : decode cX6_isNear 45 = .ok (.getfield 15, 3) := by decide +kernel
theorem dX6_isNear_48 : decode cX6_isNear 48 = .ok (.iload_n 1, 1) := by decide +kernel
theorem dX6_isNear_49 : decode cX6_isNear 49 = .ok (.iaload, 1) := by decide +kernel
theorem dX6_isNear_50 : decode cX6_isNear 50 = .ok (.isub, 1) := by decide +kernel
theorem dX6_isNear_51 : decode cX6_isNear 51 = .ok (.i2l, 1) := by decide +kernel
theorem dX6_isNear_52 : decode cX6_isNear 52 = .ok (.lstore 6, 2) := by decide +kernel
theorem dX6_isNear_54 : decode cX6_isNear 54 = .ok (.aload_n 3, 1) := by decide +kernel
theorem dX6_isNear_55 : decode cX6_isNear 55 = .ok (.getfield 29, 3) := by decide +kernel
theorem dX6_isNear_58 : decode cX6_isNear 58 = .ok (.aload_n 0, 1) := by decide +kernel
theorem dX6_isNear_59 : decode cX6_isNear 59 = .ok (.getfield 9, 3) := by decide +kernel
theorem dX6_isNear_62 : decode cX6_isNear 62 = .ok (.iload_n 1, 1) := by decide +kernel
theorem dX6_isNear_63 : decode cX6_isNear 63 = .ok (.iaload, 1) := by decide +kernel
theorem dX6_isNear_64 : decode cX6_isNear 64 = .ok (.isub, 1) := by decide +kernel
theorem dX6_isNear_65 : decode cX6_isNear 65 = .ok (.i2l, 1) := by decide +kernel
theorem dX6_isNear_66 : decode cX6_isNear 66 = .ok (.lstore 8, 2) := by decide +kernel
theorem dX6_isNear_68 : decode cX6_isNear 68 = .ok (.aload_n 3, 1) := by decide +kernel
theorem dX6_isNear_69 : decode cX6_isNear 69 = .ok (.getfield 33, 3) := by decide +kernel
theorem dX6_isNear_72 : decode cX6_isNear 72 = .ok (.aload_n 0, 1) := by decide +kernel
theorem dX6_isNear_73 : decode cX6_isNear 73 = .ok (.getfield 15, 3) := by decide +kernel
theorem dX6_isNear_76 : decode cX6_isNear 76 = .ok (.iload_n 1, 1) := by decide +kernel
theorem dX6_isNear_77 : decode cX6_isNear 77 = .ok (.iaload, 1) := by decide +kernel
theorem dX6_isNear_78 : decode cX6_isNear 78 = .ok (.isub, 1) := by decide +kernel
theorem dX6_isNear_79 : decode cX6_isNear 79 = .ok (.i2l, 1) := by decide +kernel
theorem dX6_isNear_80 : decode cX6_isNear 80 = .ok (.lstore 10, 2) := by decide +kernel
theorem dX6_isNear_82 : decode cX6_isNear 82 = .ok (.aload_n 0, 1) := by decide +kernel
theorem dX6_isNear_83 : decode cX6_isNear 83 = .ok (.getfield 22, 3) := by decide +kernel
theorem dX6_isNear_86 : decode cX6_isNear 86 = .ok (.aload_n 3, 1) := by decide +kernel
theorem dX6_isNear_87 : decode cX6_isNear 87 = .ok (.getfield 35, 3) := by decide +kernel
theorem dX6_isNear_90 : decode cX6_isNear 90 = .ok (.iadd, 1) := by decide +kernel
theorem dX6_isNear_91 : decode cX6_isNear 91 = .ok (.i2l, 1) := by decide +kernel
theorem dX6_isNear_92 : decode cX6_isNear 92 = .ok (.lstore 12, 2) := by decide +kernel
theorem dX6_isNear_94 : decode cX6_isNear 94 = .ok (.lload 4, 2) := by decide +kernel
theorem dX6_isNear_96 : decode cX6_isNear 96 = .ok (.lload 4, 2) := by decide +kernel
theorem dX6_isNear_98 : decode cX6_isNear 98 = .ok (.lmul, 1) := by decide +kernel
theorem dX6_isNear_99 : decode cX6_isNear 99 = .ok (.lload 6, 2) := by decide +kernel
theorem dX6_isNear_101 : decode cX6_isNear 101 = .ok (.lload 6, 2) := by decide +kernel
theorem dX6_isNear_103 : decode cX6_isNear 103 = .ok (.lmul, 1) := by decide +kernel
theorem dX6_isNear_104 : decode cX6_isNear 104 = .ok (.ladd, 1) := by decide +kernel
theorem dX6_isNear_105 : decode cX6_isNear 105 = .ok (.lstore 14, 2) := by decide +kernel
theorem dX6_isNear_107 : decode cX6_isNear 107 = .ok (.lload 8, 2) := by decide +kernel
theorem dX6_isNear_109 : decode cX6_isNear 109 = .ok (.lload 4, 2) := by decide +kernel
theorem dX6_isNear_111 : decode cX6_isNear 111 = .ok (.lmul, 1) := by decide +kernel
theorem dX6_isNear_112 : decode cX6_isNear 112 = .ok (.lload 10, 2) := by decide +kernel
theorem dX6_isNear_114 : decode cX6_isNear 114 = .ok (.lload 6, 2) := by decide +kernel
theorem dX6_isNear_116 : decode cX6_isNear 116 = .ok (.lmul, 1) := by decide +kernel
theorem dX6_isNear_117 : decode cX6_isNear 117 = .ok (.ladd, 1) := by decide +kernel
theorem dX6_isNear_118 : decode cX6_isNear 118 = .ok (.lstore 16, 2) := by decide +kernel
theorem dX6_isNear_120 : decode cX6_isNear 120 = .ok (.lload 16, 2) := by decide +kernel
theorem dX6_isNear_122 : decode cX6_isNear 122 = .ok (.lconst 0, 1) := by decide +kernel
theorem dX6_isNear_123 : decode cX6_isNear 123 = .ok (.lcmp, 1) := by decide +kernel
theorem dX6_isNear_124 : decode cX6_isNear 124 = .ok (.ifCond .gt 29, 3) := by decide +kernel
theorem dX6_isNear_127 : decode cX6_isNear 127 = .ok (.lload 8, 2) := by decide +kernel
theorem dX6_isNear_129 : decode cX6_isNear 129 = .ok (.lload 8, 2) := by decide +kernel
theorem dX6_isNear_131 : decode cX6_isNear 131 = .ok (.lmul, 1) := by decide +kernel
theorem dX6_isNear_132 : decode cX6_isNear 132 = .ok (.lload 10, 2) := by decide +kernel
theorem dX6_isNear_134 : decode cX6_isNear 134 = .ok (.lload 10, 2) := by decide +kernel
theorem dX6_isNear_136 : decode cX6_isNear 136 = .ok (.lmul, 1) := by decide +kernel
theorem dX6_isNear_137 : decode cX6_isNear 137 = .ok (.ladd, 1) := by decide +kernel
theorem dX6_isNear_138 : decode cX6_isNear 138 = .ok (.lload 12, 2) := by decide +kernel
theorem dX6_isNear_140 : decode cX6_isNear 140 = .ok (.lload 12, 2) := by decide +kernel
theorem dX6_isNear_142 : decode cX6_isNear 142 = .ok (.lmul, 1) := by decide +kernel
theorem dX6_isNear_143 : decode cX6_isNear 143 = .ok (.lcmp, 1) := by decide +kernel
theorem dX6_isNear_144 : decode cX6_isNear 144 = .ok (.ifCond .ge 7, 3) := by decide +kernel
theorem dX6_isNear_147 : decode cX6_isNear 147 = .ok (.iconst 1, 1) := by decide +kernel
theorem dX6_isNear_148 : decode cX6_isNear 148 = .ok (.goto 4, 3) := by decide +kernel
theorem dX6_isNear_151 : decode cX6_isNear 151 = .ok (.iconst 0, 1) := by decide +kernel
theorem dX6_isNear_152 : decode cX6_isNear 152 = .ok (.ireturn, 1) := by decide +kernel
theorem dX6_isNear_153 : decode cX6_isNear 153 = .ok (.lload 16, 2) := by decide +kernel
theorem dX6_isNear_155 : decode cX6_isNear 155 = .ok (.lload 14, 2) := by decide +kernel
theorem dX6_isNear_157 : decode cX6_isNear 157 = .ok (.lcmp, 1) := by decide +kernel
theorem dX6_isNear_158 : decode cX6_isNear 158 = .ok (.ifCond .lt 41, 3) := by decide +kernel
theorem dX6_isNear_161 : decode cX6_isNear 161 = .ok (.lload 8, 2) := by decide +kernel
theorem dX6_isNear_163 : decode cX6_isNear 163 = .ok (.lload 4, 2) := by decide +kernel
theorem dX6_isNear_165 : decode cX6_isNear 165 = .ok (.lsub, 1) := by decide +kernel
theorem dX6_isNear_166 : decode cX6_isNear 166 = .ok (.lload 8, 2) := by decide +kernel
theorem dX6_isNear_168 : decode cX6_isNear 168 = .ok (.lload 4, 2) := by decide +kernel
theorem dX6_isNear_170 : decode cX6_isNear 170 = .ok (.lsub, 1) := by decide +kernel
theorem dX6_isNear_171 : decode cX6_isNear 171 = .ok (.lmul, 1) := by decide +kernel
theorem dX6_isNear_172 : decode cX6_isNear 172 = .ok (.lload 10, 2) := by decide +kernel
theorem dX6_isNear_174 : decode cX6_isNear 174 = .ok (.lload 6, 2) := by decide +kernel
theorem dX6_isNear_176 : decode cX6_isNear 176 = .ok (.lsub, 1) := by decide +kernel
theorem dX6_isNear_177 : decode cX6_isNear 177 = .ok (.lload 10, 2) := by decide +kernel
theorem dX6_isNear_179 : decode cX6_isNear 179 = .ok (.lload 6, 2) := by decide +kernel
theorem dX6_isNear_181 : decode cX6_isNear 181 = .ok (.lsub, 1) := by decide +kernel
theorem dX6_isNear_182 : decode cX6_isNear 182 = .ok (.lmul, 1) := by decide +kernel
theorem dX6_isNear_183 : decode cX6_isNear 183 = .ok (.ladd, 1) := by decide +kernel
theorem dX6_isNear_184 : decode cX6_isNear 184 = .ok (.lload 12, 2) := by decide +kernel
theorem dX6_isNear_186 : decode cX6_isNear 186 = .ok (.lload 12, 2) := by decide +kernel
theorem dX6_isNear_188 : decode cX6_isNear 188 = .ok (.lmul, 1) := by decide +kernel
theorem dX6_isNear_189 : decode cX6_isNear 189 = .ok (.lcmp, 1) := by decide +kernel
theorem dX6_isNear_190 : decode cX6_isNear 190 = .ok (.ifCond .ge 7, 3) := by decide +kernel
theorem dX6_isNear_193 : decode cX6_isNear 193 = .ok (.iconst 1, 1) := by decide +kernel
theorem dX6_isNear_194 : decode cX6_isNear 194 = .ok (.goto 4, 3) := by decide +kernel
theorem dX6_isNear_197 : decode cX6_isNear 197 = .ok (.iconst 0, 1) := by decide +kernel
theorem dX6_isNear_198 : decode cX6_isNear 198 = .ok (.ireturn, 1) := by decide +kernel
theorem dX6_isNear_199 : decode cX6_isNear 199 = .ok (.lload 8, 2) := by decide +kernel
theorem dX6_isNear_201 : decode cX6_isNear 201 = .ok (.lload 6, 2) := by decide +kernel
theorem dX6_isNear_203 : decode cX6_isNear 203 = .ok (.lmul, 1) := by decide +kernel
theorem dX6_isNear_204 : decode cX6_isNear 204 = .ok (.lload 10, 2) := by decide +kernel
theorem dX6_isNear_206 : decode cX6_isNear 206 = .ok (.lload 4, 2) := by decide +kernel
theorem dX6_isNear_208 : decode cX6_isNear 208 = .ok (.lmul, 1) := by decide +kernel
theorem dX6_isNear_209 : decode cX6_isNear 209 = .ok (.lsub, 1) := by decide +kernel
theorem dX6_isNear_210 : decode cX6_isNear 210 = .ok (.lstore 18, 2) := by decide +kernel
theorem dX6_isNear_212 : decode cX6_isNear 212 = .ok (.lload 18, 2) := by decide +kernel
theorem dX6_isNear_214 : decode cX6_isNear 214 = .ok (.lload 18, 2) := by decide +kernel
theorem dX6_isNear_216 : decode cX6_isNear 216 = .ok (.lmul, 1) := by decide +kernel
theorem dX6_isNear_217 : decode cX6_isNear 217 = .ok (.lload 12, 2) := by decide +kernel
theorem dX6_isNear_219 : decode cX6_isNear 219 = .ok (.lload 12, 2) := by decide +kernel
theorem dX6_isNear_221 : decode cX6_isNear 221 = .ok (.lmul, 1) := by decide +kernel
theorem dX6_isNear_222 : decode cX6_isNear 222 = .ok (.lload 14, 2) := by decide +kernel
theorem dX6_isNear_224 : decode cX6_isNear 224 = .ok (.lmul, 1) := by decide +kernel
theorem dX6_isNear_225 : decode cX6_isNear 225 = .ok (.lcmp, 1) := by decide +kernel
theorem dX6_isNear_226 : decode cX6_isNear 226 = .ok (.ifCond .ge 7, 3) := by decide +kernel
theorem dX6_isNear_229 : decode cX6_isNear 229 = .ok (.iconst 1, 1) := by decide +kernel
theorem dX6_isNear_230 : decode cX6_isNear 230 = .ok (.goto 4, 3) := by decide +kernel
theorem dX6_isNear_233 : decode cX6_isNear 233 = .ok (.iconst 0, 1) := by decide +kernel
theorem dX6_isNear_234 : decode cX6_isNear 234 = .ok (.ireturn, 1) := by decide +kernel
theorem dX7_init_0 : decode cX7_init 0 = .ok (.aload_n 0, 1) := by decide +kernel
theorem dX7_init_1 : decode cX7_init 1 = .ok (.invokespecial 3, 3) := by decide +kernel
theorem dX7_init_4 : decode cX7_init 4 = .ok (.aload_n 0, 1) := by decide +kernel
theorem dX7_init_5 : decode cX7_init 5 = .ok (.iconst 0, 1) := by decide +kernel
theorem dX7_init_6 : decode cX7_init 6 = .ok (.putfield 9, 3) := by decide +kernel
theorem dX7_init_9 : decode cX7_init 9 = .ok (.aload_n 0, 1) := by decide +kernel
theorem dX7_init_10 : decode cX7_init 10 = .ok (.iconst 0, 1) := by decide +kernel
theorem dX7_init_11 : decode cX7_init 11 = .ok (.putfield 15, 3) := by decide +kernel
theorem dX7_init_14 : decode cX7_init 14 = .ok (.iload_n 1, 1) := by decide +kernel
theorem dX7_init_15 : decode cX7_init 15 = .ok (.invokestatic 18, 3) := by decide +kernel
theorem dX7_init_18 : decode cX7_init 18 = .ok (.istore 5, 2) := by decide +kernel
theorem dX7_init_20 : decode cX7_init 20 = .ok (.aload_n 0, 1) := by decide +kernel
theorem dX7_init_21 : decode cX7_init 21 = .ok (.iload_n 1, 1) := by decide +kernel
theorem dX7_init_22 : decode cX7_init 22 = .ok (.putfield 22, 3) := by decide +kernel
theorem dX7_init_25 : decode cX7_init 25 = .ok (.aload_n 0, 1) := by decide +kernel
theorem dX7_init_26 : decode cX7_init 26 = .ok (.iload 5, 2) := by decide +kernel
theorem dX7_init_28 : decode cX7_init 28 = .ok (.ifCond .eq 11, 3) := by decide +kernel
theorem dX7_init_31 : decode cX7_init 31 = .ok (.getstatic 25, 3) := by decide +kernel
theorem dX7_init_34 : decode cX7_init 34 = .ok (.iload_n 1, 1) := by decide +kernel
theorem dX7_init_35 : decode cX7_init 35 = .ok (.iaload, 1) := by decide +kernel
theorem dX7_init_36 : decode cX7_init 36 = .ok (.goto 4, 3) := by decide +kernel
theorem dX7_init_39 : decode cX7_init 39 = .ok (.iconst 0, 1) := by decide +kernel
theorem dX7_init_40 : decode cX7_init 40 = .ok (.putfield 29, 3) := by decide +kernel
theorem dX7_init_43 : decode cX7_init 43 = .ok (.aload_n 0, 1) := by decide +kernel
theorem dX7_init_44 : decode cX7_init 44 = .ok (.iload 5, 2) := by decide +kernel
theorem dX7_init_46 : decode cX7_init 46 = .ok (.ifCond .eq 11, 3) := by decide +kernel
theorem dX7_init_49 : decode cX7_init 49 = .ok (.getstatic 32, 3) := by decide +kernel
theorem dX7_init_52 : decode cX7_init 52 = .ok (.iload_n 1, 1) := by decide +kernel
theorem dX7_init_53 : decode cX7_init 53 = .ok (.iaload, 1) := by decide +kernel
theorem dX7_init_54 : decode cX7_init 54 = .ok (.goto 4, 3) := by decide +kernel
theorem dX7_init_57 : decode cX7_init 57 = .ok (.iconst 0, 1) := by decide +kernel
theorem dX7_init_58 : decode cX7_init 58 = .ok (.putfield 35, 3) := by decide +kernel
theorem dX7_init_61 : decode cX7_init 61 = .ok (.aload_n 0, 1) := by decide +kernel
theorem dX7_init_62 : decode cX7_init 62 = .ok (.iload_n 2, 1) := by decide +kernel
theorem dX7_init_63 : decode cX7_init 63 = .ok (.putfield 38, 3) := by decide +kernel
theorem dX7_init_66 : decode cX7_init 66 = .ok (.aload_n 0, 1) := by decide +kernel
theorem dX7_init_67 : decode cX7_init 67 = .ok (.iload_n 3, 1) := by decide +kernel
theorem dX7_init_68 : decode cX7_init 68 = .ok (.putfield 41, 3) := by decide +kernel
theorem dX7_init_71 : decode cX7_init 71 = .ok (.aload_n 0, 1) := by decide +kernel
theorem dX7_init_72 : decode cX7_init 72 = .ok (.iload 4, 2) := by decide +kernel
theorem dX7_init_74 : decode cX7_init 74 = .ok (.putfield 44, 3) := by decide +kernel
theorem dX7_init_77 : decode cX7_init 77 = .ok (.return_, 1) := by decide +kernel
theorem dX7_kind_0 : decode cX7_kind 0 = .ok (.iconst 0, 1) := by decide +kernel
theorem dX7_kind_1 : decode cX7_kind 1 = .ok (.ireturn, 1) := by decide +kernel
theorem dX7_gripped_0 : decode cX7_gripped 0 = .ok (.iconst 0, 1) := by decide +kernel
theorem dX7_gripped_1 : decode cX7_gripped 1 = .ok (.ireturn, 1) := by decide +kernel
theorem dX7_places_0 : decode cX7_places 0 = .ok (.iconst 1, 1) := by decide +kernel
theorem dX7_places_1 : decode cX7_places 1 = .ok (.ireturn, 1) := by decide +kernel
theorem dX7_pushCount_0 : decode cX7_pushCount 0 = .ok (.iconst 1, 1) := by decide +kernel
theorem dX7_pushCount_1 : decode cX7_pushCount 1 = .ok (.ireturn, 1) := by decide +kernel
theorem dX7_leans_0 : decode cX7_leans 0 = .ok (.iconst 0, 1) := by decide +kernel
theorem dX7_leans_1 : decode cX7_leans 1 = .ok (.ireturn, 1) := by decide +kernel
theorem dX7_weighs_0 : decode cX7_weighs 0 = .ok (.bipush 10, 2) := by decide +kernel
theorem dX7_weighs_2 : decode cX7_weighs 2 = .ok (.aload_n 0, 1) := by decide +kernel
theorem dX7_weighs_3 : decode cX7_weighs 3 = .ok (.getfield 44, 3) := by decide +kernel
theorem dX7_weighs_6 : decode cX7_weighs 6 = .ok (.iadd, 1) := by decide +kernel
theorem dX7_weighs_7 : decode cX7_weighs 7 = .ok (.ireturn, 1) := by decide +kernel
theorem dX7_fail_0 : decode cX7_fail 0 = .ok (.return_, 1) := by decide +kernel
theorem dX7_pushX_0 : decode cX7_pushX 0 = .ok (.iload_n 1, 1) := by decide +kernel
theorem dX7_pushX_1 : decode cX7_pushX 1 = .ok (.ifCond .ge 10, 3) := by decide +kernel
theorem dX7_pushX_4 : decode cX7_pushX 4 = .ok (.aload_n 0, 1) := by decide +kernel
theorem dX7_pushX_5 : decode cX7_pushX 5 = .ok (.getfield 29, 3) := by decide +kernel
theorem dX7_pushX_8 : decode cX7_pushX 8 = .ok (.goto 26, 3) := by decide +kernel
theorem dX7_pushX_11 : decode cX7_pushX 11 = .ok (.bipush 10, 2) := by decide +kernel
theorem dX7_pushX_13 : decode cX7_pushX 13 = .ok (.aload_n 0, 1) := by decide +kernel
theorem dX7_pushX_14 : decode cX7_pushX 14 = .ok (.getfield 29, 3) := by decide +kernel
theorem dX7_pushX_17 : decode cX7_pushX 17 = .ok (.imul, 1) := by decide +kernel
theorem dX7_pushX_18 : decode cX7_pushX 18 = .ok (.aload_n 0, 1) := by decide +kernel
theorem dX7_pushX_19 : decode cX7_pushX 19 = .ok (.iload_n 1, 1) := by decide +kernel
theorem dX7_pushX_20 : decode cX7_pushX 20 = .ok (.invokevirtual 47, 3) := by decide +kernel
theorem dX7_pushX_23 : decode cX7_pushX 23 = .ok (.aload_n 0, 1) := by decide +kernel
theorem dX7_pushX_24 : decode cX7_pushX 24 = .ok (.invokevirtual 51, 3) := by decide +kernel
theorem dX7_pushX_27 : decode cX7_pushX 27 = .ok (.imul, 1) := by decide +kernel
theorem dX7_pushX_28 : decode cX7_pushX 28 = .ok (.aload_n 0, 1) := by decide +kernel
theorem dX7_pushX_29 : decode cX7_pushX 29 = .ok (.getfield 35, 3) := by decide +kernel
theorem dX7_pushX_32 : decode cX7_pushX 32 = .ok (.imul, 1) := by decide +kernel
theorem dX7_pushX_33 : decode cX7_pushX 33 = .ok (.isub, 1) := by decide +kernel
theorem dX7_pushX_34 : decode cX7_pushX 34 = .ok (.ireturn, 1) := by decide +kernel
theorem dX7_pushY_0 : decode cX7_pushY 0 = .ok (.iload_n 1, 1) := by decide +kernel
theorem dX7_pushY_1 : decode cX7_pushY 1 = .ok (.ifCond .ge 10, 3) := by decide +kernel
theorem dX7_pushY_4 : decode cX7_pushY 4 = .ok (.aload_n 0, 1) := by decide +kernel
theorem dX7_pushY_5 : decode cX7_pushY 5 = .ok (.getfield 35, 3) := by decide +kernel
theorem dX7_pushY_8 : decode cX7_pushY 8 = .ok (.goto 26, 3) := by decide +kernel
theorem dX7_pushY_11 : decode cX7_pushY 11 = .ok (.bipush 10, 2) := by decide +kernel
theorem dX7_pushY_13 : decode cX7_pushY 13 = .ok (.aload_n 0, 1) := by decide +kernel
theorem dX7_pushY_14 : decode cX7_pushY 14 = .ok (.getfield 35, 3) := by decide +kernel
theorem dX7_pushY_17 : decode cX7_pushY 17 = .ok (.imul, 1) := by decide +kernel
theorem dX7_pushY_18 : decode cX7_pushY 18 = .ok (.aload_n 0, 1) := by decide +kernel
theorem dX7_pushY_19 : decode cX7_pushY 19 = .ok (.iload_n 1, 1) := by decide +kernel
theorem dX7_pushY_20 : decode cX7_pushY 20 = .ok (.invokevirtual 47, 3) := by decide +kernel
theorem dX7_pushY_23 : decode cX7_pushY 23 = .ok (.aload_n 0, 1) := by decide +kernel
theorem dX7_pushY_24 : decode cX7_pushY 24 = .ok (.invokevirtual 51, 3) := by decide +kernel
theorem dX7_pushY_27 : decode cX7_pushY 27 = .ok (.imul, 1) := by decide +kernel
theorem dX7_pushY_28 : decode cX7_pushY 28 = .ok (.aload_n 0, 1) := by decide +kernel
theorem dX7_pushY_29 : decode cX7_pushY 29 = .ok (.getfield 29, 3) := by decide +kernel
theorem dX7_pushY_32 : decode cX7_pushY 32 = .ok (.imul, 1) := by decide +kernel
theorem dX7_pushY_33 : decode cX7_pushY 33 = .ok (.iadd, 1) := by decide +kernel
theorem dX7_pushY_34 : decode cX7_pushY 34 = .ok (.ireturn, 1) := by decide +kernel
theorem dX7_turn_0 : decode cX7_turn 0 = .ok (.aload_n 0, 1) := by decide +kernel
theorem dX7_turn_1 : decode cX7_turn 1 = .ok (.getfield 38, 3) := by decide +kernel
theorem dX7_turn_4 : decode cX7_turn 4 = .ok (.aload_n 0, 1) := by decide +kernel
theorem dX7_turn_5 : decode cX7_turn 5 = .ok (.iload_n 1, 1) := by decide +kernel
theorem dX7_turn_6 : decode cX7_turn 6 = .ok (.invokevirtual 55, 3) := by decide +kernel
theorem dX7_turn_9 : decode cX7_turn 9 = .ok (.imul, 1) := by decide +kernel
theorem dX7_turn_10 : decode cX7_turn 10 = .ok (.aload_n 0, 1) := by decide +kernel
theorem dX7_turn_11 : decode cX7_turn 11 = .ok (.getfield 41, 3) := by decide +kernel
theorem dX7_turn_14 : decode cX7_turn 14 = .ok (.aload_n 0, 1) := by decide +kernel
theorem dX7_turn_15 : decode cX7_turn 15 = .ok (.iload_n 1, 1) := by decide +kernel
theorem dX7_turn_16 : decode cX7_turn 16 = .ok (.invokevirtual 58, 3) := by decide +kernel
theorem dX7_turn_19 : decode cX7_turn 19 = .ok (.imul, 1) := by decide +kernel
theorem dX7_turn_20 : decode cX7_turn 20 = .ok (.isub, 1) := by decide +kernel
theorem dX7_turn_21 : decode cX7_turn 21 = .ok (.ireturn, 1) := by decide +kernel
theorem dX8_init_0 : decode cX8_init 0 = .ok (.aload_n 0, 1) := by decide +kernel
theorem dX8_init_1 : decode cX8_init 1 = .ok (.invokespecial 3, 3) := by decide +kernel
theorem dX8_init_4 : decode cX8_init 4 = .ok (.aload_n 0, 1) := by decide +kernel
theorem dX8_init_5 : decode cX8_init 5 = .ok (.bipush 12, 2) := by decide +kernel
theorem dX8_init_7 : decode cX8_init 7 = .ok (.newarray .int, 2) := by decide +kernel
theorem dX8_init_9 : decode cX8_init 9 = .ok (.putfield 9, 3) := by decide +kernel
theorem dX8_init_12 : decode cX8_init 12 = .ok (.aload_n 0, 1) := by decide +kernel
theorem dX8_init_13 : decode cX8_init 13 = .ok (.bipush 12, 2) := by decide +kernel
theorem dX8_init_15 : decode cX8_init 15 = .ok (.newarray .int, 2) := by decide +kernel
theorem dX8_init_17 : decode cX8_init 17 = .ok (.putfield 15, 3) := by decide +kernel
theorem dX8_init_20 : decode cX8_init 20 = .ok (.aload_n 0, 1) := by decide +kernel
theorem dX8_init_21 : decode cX8_init 21 = .ok (.iconst 0, 1) := by decide +kernel
theorem dX8_init_22 : decode cX8_init 22 = .ok (.putfield 18, 3) := by decide +kernel
theorem dX8_init_25 : decode cX8_init 25 = .ok (.aload_n 0, 1) := by decide +kernel
theorem dX8_init_26 : decode cX8_init 26 = .ok (.sipush 4096, 3) := by decide +kernel
theorem dX8_init_29 : decode cX8_init 29 = .ok (.newarray .byte, 2) := by decide +kernel
theorem dX8_init_31 : decode cX8_init 31 = .ok (.putfield 22, 3) := by decide +kernel
theorem dX8_init_34 : decode cX8_init 34 = .ok (.aload_n 0, 1) := by decide +kernel
theorem dX8_init_35 : decode cX8_init 35 = .ok (.bipush 12, 2) := by decide +kernel
theorem dX8_init_37 : decode cX8_init 37 = .ok (.newarray .int, 2) := by decide +kernel
theorem dX8_init_39 : decode cX8_init 39 = .ok (.putfield 26, 3) := by decide +kernel
theorem dX8_init_42 : decode cX8_init 42 = .ok (.aload_n 0, 1) := by decide +kernel
theorem dX8_init_43 : decode cX8_init 43 = .ok (.bipush 12, 2) := by decide +kernel
theorem dX8_init_45 : decode cX8_init 45 = .ok (.newarray .int, 2) := by decide +kernel
theorem dX8_init_47 : decode cX8_init 47 = .ok (.putfield 29, 3) := by decide +kernel
theorem dX8_init_50 : decode cX8_init 50 = .ok (.aload_n 0, 1) := by decide +kernel
theorem dX8_init_51 : decode cX8_init 51 = .ok (.iconst 0, 1) := by decide +kernel
theorem dX8_init_52 : decode cX8_init 52 = .ok (.putfield 32, 3) := by decide +kernel
theorem dX8_init_55 : decode cX8_init 55 = .ok (.aload_n 0, 1) := by decide +kernel
theorem dX8_init_56 : decode cX8_init 56 = .ok (.iconst 1, 1) := by decide +kernel
theorem dX8_init_57 : decode cX8_init 57 = .ok (.putfield 35, 3) := by decide +kernel
theorem dX8_init_60 : decode cX8_init 60 = .ok (.return_, 1) := by decide +kernel
theorem dX8_taken_0 : decode cX8_taken 0 = .ok (.aload_n 0, 1) := by decide +kernel
theorem dX8_taken_1 : decode cX8_taken 1 = .ok (.getfield 18, 3) := by decide +kernel
theorem dX8_taken_4 : decode cX8_taken 4 = .ok (.bipush 12, 2) := by decide +kernel
theorem dX8_taken_6 : decode cX8_taken 6 = .ok (.if_icmp .lt 5, 3) := by decide +kernel
theorem dX8_taken_9 : decode cX8_taken 9 = .ok (.iconst 0, 1) := by decide +kernel
theorem dX8_taken_10 : decode cX8_taken 10 = .ok (.ireturn, 1) := by decide +kernel
theorem dX8_taken_11 : decode cX8_taken 11 = .ok (.aload_n 0, 1) := by decide +kernel
theorem dX8_taken_12 : decode cX8_taken 12 = .ok (.getfield 9, 3) := by decide +kernel
theorem dX8_taken_15 : decode cX8_taken 15 = .ok (.aload_n 0, 1) := by decide +kernel
theorem dX8_taken_16 : decode cX8_taken 16 = .ok (.getfield 18, 3) := by decide +kernel
theorem dX8_taken_19 : decode cX8_taken 19 = .ok (.iload_n 1, 1) := by decide +kernel
theorem dX8_taken_20 : decode cX8_taken 20 = .ok (.iastore, 1) := by decide +kernel
theorem dX8_taken_21 : decode cX8_taken 21 = .ok (.aload_n 0, 1) := by decide +kernel
theorem dX8_taken_22 : decode cX8_taken 22 = .ok (.getfield 15, 3) := by decide +kernel
theorem dX8_taken_25 : decode cX8_taken 25 = .ok (.aload_n 0, 1) := by decide +kernel
theorem dX8_taken_26 : decode cX8_taken 26 = .ok (.getfield 18, 3) := by decide +kernel
theorem dX8_taken_29 : decode cX8_taken 29 = .ok (.iload_n 2, 1) := by decide +kernel
theorem dX8_taken_30 : decode cX8_taken 30 = .ok (.iastore, 1) := by decide +kernel
theorem dX8_taken_31 : decode cX8_taken 31 = .ok (.aload_n 0, 1) := by decide +kernel
theorem dX8_taken_32 : decode cX8_taken 32 = .ok (.dup, 1) := by decide +kernel
theorem dX8_taken_33 : decode cX8_taken 33 = .ok (.getfield 18, 3) := by decide +kernel
theorem dX8_taken_36 : decode cX8_taken 36 = .ok (.iconst 1, 1) := by decide +kernel
theorem dX8_taken_37 : decode cX8_taken 37 = .ok (.iadd, 1) := by decide +kernel
theorem dX8_taken_38 : decode cX8_taken 38 = .ok (.putfield 18, 3) := by decide +kernel
theorem dX8_taken_41 : decode cX8_taken 41 = .ok (.aload_n 0, 1) := by decide +kernel
theorem dX8_taken_42 : decode cX8_taken 42 = .ok (.iconst 0, 1) := by decide +kernel
theorem dX8_taken_43 : decode cX8_taken 43 = .ok (.putfield 35, 3) := by decide +kernel
theorem dX8_taken_46 : decode cX8_taken 46 = .ok (.iconst 1, 1) := by decide +kernel
theorem dX8_taken_47 : decode cX8_taken 47 = .ok (.ireturn, 1) := by decide +kernel
theorem dX8_takenBy_0 : decode cX8_takenBy 0 = .ok (.iconst 1, 1) := by decide +kernel
theorem dX8_takenBy_1 : decode cX8_takenBy 1 = .ok (.aload_n 0, 1) := by decide +kernel
theorem dX8_takenBy_2 : decode cX8_takenBy 2 = .ok (.getfield 18, 3) := by decide +kernel
theorem dX8_takenBy_5 : decode cX8_takenBy 5 = .ok (.ishl, 1) := by decide +kernel
theorem dX8_takenBy_6 : decode cX8_takenBy 6 = .ok (.iconst 1, 1) := by decide +kernel
theorem dX8_takenBy_7 : decode cX8_takenBy 7 = .ok (.isub, 1) := by decide +kernel
theorem dX8_takenBy_8 : decode cX8_takenBy 8 = .ok (.istore_n 3, 1) := by decide +kernel
theorem dX8_takenBy_9 : decode cX8_takenBy 9 = .ok (.iconst 0, 1) := by decide +kernel
theorem dX8_takenBy_10 : decode cX8_takenBy 10 = .ok (.istore 4, 2) := by decide +kernel
theorem dX8_takenBy_12 : decode cX8_takenBy 12 = .ok (.iload_n 1, 1) := by decide +kernel
theorem dX8_takenBy_13 : decode cX8_takenBy 13 = .ok (.istore 5, 2) := by decide +kernel
theorem dX8_takenBy_15 : decode cX8_takenBy 15 = .ok (.iconst 0, 1) := by decide +kernel
theorem dX8_takenBy_16 : decode cX8_takenBy 16 = .ok (.istore 6, 2) := by decide +kernel
theorem dX8_takenBy_18 : decode cX8_takenBy 18 = .ok (.iload 6, 2) := by decide +kernel
theorem dX8_takenBy_20 : decode cX8_takenBy 20 = .ok (.iload_n 2, 1) := by decide +kernel
theorem dX8_takenBy_21 : decode cX8_takenBy 21 = .ok (.if_icmp .ge 38, 3) := by decide +kernel
theorem dX8_takenBy_24 : decode cX8_takenBy 24 = .ok (.iload 4, 2) := by decide +kernel
theorem dX8_takenBy_26 : decode cX8_takenBy 26 = .ok (.iload_n 3, 1) := by decide +kernel
theorem dX8_takenBy_27 : decode cX8_takenBy 27 = .ok (.if_icmp .ne 6, 3) := by decide +kernel
theorem dX8_takenBy_30 : decode cX8_takenBy 30 = .ok (.iload 6, 2) := by decide +kernel
theorem dX8_takenBy_32 : decode cX8_takenBy 32 = .ok (.ireturn, 1) := by decide +kernel
theorem dX8_takenBy_33 : decode cX8_takenBy 33 = .ok (.aload_n 0, 1) := by decide +kernel
theorem dX8_takenBy_34 : decode cX8_takenBy 34 = .ok (.iload 4, 2) := by decide +kernel
theorem dX8_takenBy_36 : decode cX8_takenBy 36 = .ok (.iload 5, 2) := by decide +kernel
theorem dX8_takenBy_38 : decode cX8_takenBy 38 = .ok (.bipush 6, 2) := by decide +kernel
theorem dX8_takenBy_40 : decode cX8_takenBy 40 = .ok (.irem, 1) := by decide +kernel
theorem dX8_takenBy_41 : decode cX8_takenBy 41 = .ok (.invokevirtual 39, 3) := by decide +kernel
theorem dX8_takenBy_44 : decode cX8_takenBy 44 = .ok (.istore 4, 2) := by decide +kernel
theorem dX8_takenBy_46 : decode cX8_takenBy 46 = .ok (.iload 5, 2) := by decide +kernel
theorem dX8_takenBy_48 : decode cX8_takenBy 48 = .ok (.bipush 6, 2) := by decide +kernel
theorem dX8_takenBy_50 : decode cX8_takenBy 50 = .ok (.idiv, 1) := by decide +kernel
theorem dX8_takenBy_51 : decode cX8_takenBy 51 = .ok (.istore 5, 2) := by decide +kernel
theorem dX8_takenBy_53 : decode cX8_takenBy 53 = .ok (.iinc 6 1, 3) := by decide +kernel
theorem dX8_takenBy_56 : decode cX8_takenBy 56 = .ok (.goto (-38), 3) := by decide +kernel
theorem dX8_takenBy_59 : decode cX8_takenBy 59 = .ok (.iload 4, 2) := by decide +kernel
theorem dX8_takenBy_61 : decode cX8_takenBy 61 = .ok (.iload_n 3, 1) := by decide +kernel
theorem dX8_takenBy_62 : decode cX8_takenBy 62 = .ok (.if_icmp .ne 7, 3) := by decide +kernel
theorem dX8_takenBy_65 : decode cX8_takenBy 65 = .ok (.iload_n 2, 1) := by decide +kernel
theorem dX8_takenBy_66 : decode cX8_takenBy 66 = .ok (.goto 4, 3) := by decide +kernel
theorem dX8_takenBy_69 : decode cX8_takenBy 69 = .ok (.iconst (-1), 1) := by decide +kernel
theorem dX8_takenBy_70 : decode cX8_takenBy 70 = .ok (.ireturn, 1) := by decide +kernel
theorem dX8_findFewest_0 : decode cX8_findFewest 0 = .ok (.aload_n 0, 1) := by decide +kernel
theorem dX8_findFewest_1 : decode cX8_findFewest 1 = .ok (.getfield 35, 3) := by decide +kernel
theorem dX8_findFewest_4 : decode cX8_findFewest 4 = .ok (.ifCond .eq 4, 3) := by decide +kernel
theorem dX8_findFewest_7 : decode cX8_findFewest 7 = .ok (.return_, 1) := by decide +kernel
theorem dX8_findFewest_8 : decode cX8_findFewest 8 = .ok (.iconst 1, 1) := by decide +kernel
theorem dX8_findFewest_9 : decode cX8_findFewest 9 = .ok (.aload_n 0, 1) := by decide +kernel
theorem dX8_findFewest_10 : decode cX8_findFewest 10 = .ok (.getfield 18, 3) := by decide +kernel
theorem dX8_findFewest_13 : decode cX8_findFewest 13 = .ok (.ishl, 1) := by decide +kernel
theorem dX8_findFewest_14 : decode cX8_findFewest 14 = .ok (.iconst 1, 1) := by decide +kernel
theorem dX8_findFewest_15 : decode cX8_findFewest 15 = .ok (.isub, 1) := by decide +kernel
theorem dX8_findFewest_16 : decode cX8_findFewest 16 = .ok (.istore_n 1, 1) := by decide +kernel
theorem dX8_findFewest_17 : decode cX8_findFewest 17 = .ok (.iload_n 1, 1) := by decide +kernel
theorem dX8_findFewest_18 : decode cX8_findFewest 18 = .ok (.ifCond .lt 12, 3) := by decide +kernel
theorem dX8_findFewest_21 : decode cX8_findFewest 21 = .ok (.iload_n 1, 1) := by decide +kernel
theorem dX8_findFewest_22 : decode cX8_findFewest 22 = .ok (.aload_n 0, 1) := by decide +kernel
theorem dX8_findFewest_23 : decode cX8_findFewest 23 = .ok (.getfield 22, 3) := by decide +kernel
theorem dX8_findFewest_26 : decode cX8_findFewest 26 = .ok (.arraylength, 1) := by decide +kernel
theorem dX8_findFewest_27 : decode cX8_findFewest 27 = .ok (.if_icmp .lt 4, 3) := by decide +kernel
theorem dX8_findFewest_30 : decode cX8_findFewest 30 = .ok (.return_, 1) := by decide +kernel
theorem dX8_findFewest_31 : decode cX8_findFewest 31 = .ok (.aload_n 0, 1) := by decide +kernel
theorem dX8_findFewest_32 : decode cX8_findFewest 32 = .ok (.iload_n 1, 1) := by decide +kernel
theorem dX8_findFewest_33 : decode cX8_findFewest 33 = .ok (.invokevirtual 43, 3) := by decide +kernel
theorem dX8_findFewest_36 : decode cX8_findFewest 36 = .ok (.aload_n 0, 1) := by decide +kernel
theorem dX8_findFewest_37 : decode cX8_findFewest 37 = .ok (.iload_n 1, 1) := by decide +kernel
theorem dX8_findFewest_38 : decode cX8_findFewest 38 = .ok (.invokevirtual 47, 3) := by decide +kernel
theorem dX8_findFewest_41 : decode cX8_findFewest 41 = .ok (.aload_n 0, 1) := by decide +kernel
theorem dX8_findFewest_42 : decode cX8_findFewest 42 = .ok (.iload_n 1, 1) := by decide +kernel
theorem dX8_findFewest_43 : decode cX8_findFewest 43 = .ok (.invokevirtual 50, 3) := by decide +kernel
theorem dX8_findFewest_46 : decode cX8_findFewest 46 = .ok (.aload_n 0, 1) := by decide +kernel
theorem dX8_findFewest_47 : decode cX8_findFewest 47 = .ok (.iconst 1, 1) := by decide +kernel
theorem dX8_findFewest_48 : decode cX8_findFewest 48 = .ok (.putfield 35, 3) := by decide +kernel
theorem dX8_findFewest_51 : decode cX8_findFewest 51 = .ok (.return_, 1) := by decide +kernel
theorem dX8_sideRow_0 : decode cX8_sideRow 0 = .ok (.aload_n 0, 1) := by decide +kernel
theorem dX8_sideRow_1 : decode cX8_sideRow 1 = .ok (.getfield 32, 3) := by decide +kernel
theorem dX8_sideRow_4 : decode cX8_sideRow 4 = .ok (.ifCond .ge 7, 3) := by decide +kernel
theorem dX8_sideRow_7 : decode cX8_sideRow 7 = .ok (.iconst 0, 1) := by decide +kernel
theorem dX8_sideRow_8 : decode cX8_sideRow 8 = .ok (.goto 12, 3) := by decide +kernel
theorem dX8_sideRow_11 : decode cX8_sideRow 11 = .ok (.aload_n 0, 1) := by decide +kernel
theorem dX8_sideRow_12 : decode cX8_sideRow 12 = .ok (.getfield 32, 3) := by decide +kernel
theorem dX8_sideRow_15 : decode cX8_sideRow 15 = .ok (.bipush 12, 2) := by decide +kernel
theorem dX8_sideRow_17 : decode cX8_sideRow 17 = .ok (.invokestatic 53, 3) := by decide +kernel
theorem dX8_sideRow_20 : decode cX8_sideRow 20 = .ok (.istore_n 1, 1) := by decide +kernel
theorem dX8_sideRow_21 : decode cX8_sideRow 21 = .ok (.iload_n 1, 1) := by decide +kernel
theorem dX8_sideRow_22 : decode cX8_sideRow 22 = .ok (.newarray .byte, 2) := by decide +kernel
theorem dX8_sideRow_24 : decode cX8_sideRow 24 = .ok (.astore_n 2, 1) := by decide +kernel
theorem dX8_sideRow_25 : decode cX8_sideRow 25 = .ok (.iconst 0, 1) := by decide +kernel
theorem dX8_sideRow_26 : decode cX8_sideRow 26 = .ok (.istore_n 3, 1) := by decide +kernel
theorem dX8_sideRow_27 : decode cX8_sideRow 27 = .ok (.iload_n 3, 1) := by decide +kernel
theorem dX8_sideRow_28 : decode cX8_sideRow 28 = .ok (.iload_n 1, 1) := by decide +kernel
theorem dX8_sideRow_29 : decode cX8_sideRow 29 = .ok (.if_icmp .ge 19, 3) := by decide +kernel
theorem dX8_sideRow_32 : decode cX8_sideRow 32 = .ok (.aload_n 2, 1) := by decide +kernel
theorem dX8_sideRow_33 : decode cX8_sideRow 33 = .ok (.iload_n 3, 1) := by decide +kernel
theorem dX8_sideRow_34 : decode cX8_sideRow 34 = .ok (.aload_n 0, 1) := by decide +kernel
theorem dX8_sideRow_35 : decode cX8_sideRow 35 = .ok (.getfield 26, 3) := by decide +kernel
theorem dX8_sideRow_38 : decode cX8_sideRow 38 = .ok (.iload_n 3, 1) := by decide +kernel
theorem dX8_sideRow_39 : decode cX8_sideRow 39 = .ok (.iaload, 1) := by decide +kernel
theorem dX8_sideRow_40 : decode cX8_sideRow 40 = .ok (.i2b, 1) := by decide +kernel
theorem dX8_sideRow_41 : decode cX8_sideRow 41 = .ok (.bastore, 1) := by decide +kernel
theorem dX8_sideRow_42 : decode cX8_sideRow 42 = .ok (.iinc 3 1, 3) := by decide +kernel
theorem dX8_sideRow_45 : decode cX8_sideRow 45 = .ok (.goto (-18), 3) := by decide +kernel
theorem dX8_sideRow_48 : decode cX8_sideRow 48 = .ok (.aload_n 2, 1) := by decide +kernel
theorem dX8_sideRow_49 : decode cX8_sideRow 49 = .ok (.areturn, 1) := by decide +kernel
theorem dX8_after_0 : decode cX8_after 0 = .ok (.iload_n 1, 1) := by decide +kernel
theorem dX8_after_1 : decode cX8_after 1 = .ok (.istore_n 3, 1) := by decide +kernel
theorem dX8_after_2 : decode cX8_after 2 = .ok (.iconst 0, 1) := by decide +kernel
theorem dX8_after_3 : decode cX8_after 3 = .ok (.istore 4, 2) := by decide +kernel
theorem dX8_after_5 : decode cX8_after 5 = .ok (.iload 4, 2) := by decide +kernel
theorem dX8_after_7 : decode cX8_after 7 = .ok (.aload_n 0, 1) := by decide +kernel
theorem dX8_after_8 : decode cX8_after 8 = .ok (.getfield 18, 3) := by decide +kernel
theorem dX8_after_11 : decode cX8_after 11 = .ok (.if_icmp .ge 51, 3) := by decide +kernel
theorem dX8_after_14 : decode cX8_after 14 = .ok (.iload 4, 2) := by decide +kernel
theorem dX8_after_16 : decode cX8_after 16 = .ok (.bipush 12, 2) := by decide +kernel
theorem dX8_after_18 : decode cX8_after 18 = .ok (.if_icmp .ge 44, 3) := by decide +kernel
theorem dX8_after_21 : decode cX8_after 21 = .ok (.aload_n 0, 1) := by decide +kernel
theorem dX8_after_22 : decode cX8_after 22 = .ok (.getfield 9, 3) := by decide +kernel
theorem dX8_after_25 : decode cX8_after 25 = .ok (.iload 4, 2) := by decide +kernel
theorem dX8_after_27 : decode cX8_after 27 = .ok (.iaload, 1) := by decide +kernel
theorem dX8_after_28 : decode cX8_after 28 = .ok (.iload_n 2, 1) := by decide +kernel
theorem dX8_after_29 : decode cX8_after 29 = .ok (.ishr, 1) := by decide +kernel
theorem dX8_after_30 : decode cX8_after 30 = .ok (.iconst 1, 1) := by decide +kernel
theorem dX8_after_31 : decode cX8_after 31 = .ok (.iand, 1) := by decide +kernel
theorem dX8_after_32 : decode cX8_after 32 = .ok (.ifCond .eq 24, 3) := by decide +kernel
theorem dX8_after_35 : decode cX8_after 35 = .ok (.aload_n 0, 1) := by decide +kernel
theorem dX8_after_36 : decode cX8_after 36 = .ok (.getfield 15, 3) := by decide +kernel
theorem dX8_after_39 : decode cX8_after 39 = .ok (.iload 4, 2) := by decide +kernel
theorem dX8_after_41 : decode cX8_after 41 = .ok (.iaload, 1) := by decide +kernel
theorem dX8_after_42 : decode cX8_after 42 = .ok (.iload_n 3, 1) := by decide +kernel
theorem dX8_after_43 : decode cX8_after 43 = .ok (.iconst (-1), 1) := by decide +kernel
theorem dX8_after_44 : decode cX8_after 44 = .ok (.ixor, 1) := by decide +kernel
theorem dX8_after_45 : decode cX8_after 45 = .ok (.iand, 1) := by decide +kernel
theorem dX8_after_46 : decode cX8_after 46 = .ok (.ifCond .ne 10, 3) := by decide +kernel
theorem dX8_after_49 : decode cX8_after 49 = .ok (.iload_n 3, 1) := by decide +kernel
theorem dX8_after_50 : decode cX8_after 50 = .ok (.iconst 1, 1) := by decide +kernel
theorem dX8_after_51 : decode cX8_after 51 = .ok (.iload 4, 2) := by decide +kernel
theorem dX8_after_53 : decode cX8_after 53 = .ok (.ishl, 1) := by decide +kernel
theorem dX8_after_54 : decode cX8_after 54 = .ok (.ior, 1) := by decide +kernel
theorem dX8_after_55 : decode cX8_after 55 = .ok (.istore_n 3, 1) := by decide +kernel
theorem dX8_after_56 : decode cX8_after 56 = .ok (.iinc 4 1, 3) := by decide +kernel
theorem dX8_after_59 : decode cX8_after 59 = .ok (.goto (-54), 3) := by decide +kernel
theorem dX8_after_62 : decode cX8_after 62 = .ok (.iload_n 3, 1) := by decide +kernel
theorem dX8_after_63 : decode cX8_after 63 = .ok (.ireturn, 1) := by decide +kernel
theorem dX8_markReached_0 : decode cX8_markReached 0 = .ok (.iconst 0, 1) := by decide +kernel
theorem dX8_markReached_1 : decode cX8_markReached 1 = .ok (.istore_n 2, 1) := by decide +kernel
theorem dX8_markReached_2 : decode cX8_markReached 2 = .ok (.iload_n 2, 1) := by decide +kernel
theorem dX8_markReached_3 : decode cX8_markReached 3 = .ok (.iload_n 1, 1) := by decide +kernel
theorem dX8_markReached_4 : decode cX8_markReached 4 = .ok (.if_icmp .gt 25, 3) := by decide +kernel
theorem dX8_markReached_7 : decode cX8_markReached 7 = .ok (.iload_n 2, 1) := by decide +kernel
theorem dX8_markReached_8 : decode cX8_markReached 8 = .ok (.aload_n 0, 1) := by decide +kernel
theorem dX8_markReached_9 : decode cX8_markReached 9 = .ok (.getfield 22, 3) := by decide +kernel
theorem dX8_markReached_12 : decode cX8_markReached 12 = .ok (.arraylength, 1) := by decide +kernel
theorem dX8_markReached_13 : decode cX8_markReached 13 = .ok (.if_icmp .ge 16, 3) := by decide +kernel
theorem dX8_markReached_16 : decode cX8_markReached 16 = .ok (.aload_n 0, 1) := by decide +kernel
theorem dX8_markReached_17 : decode cX8_markReached 17 = .ok (.getfield 22, 3) := by decide +kernel
theorem dX8_markReached_20 : decode cX8_markReached 20 = .ok (.iload_n 2, 1) := by decide +kernel
theorem dX8_markReached_21 : decode cX8_markReached 21 = .ok (.iconst 0, 1) := by decide +kernel
theorem dX8_markReached_22 : decode cX8_markReached 22 = .ok (.bastore, 1) := by decide +kernel
theorem dX8_markReached_23 : decode cX8_markReached 23 = .ok (.iinc 2 1, 3) := by decide +kernel
theorem dX8_markReached_26 : decode cX8_markReached 26 = .ok (.goto (-24), 3) := by decide +kernel
theorem dX8_markReached_29 : decode cX8_markReached 29 = .ok (.aload_n 0, 1) := by decide +kernel
theorem dX8_markReached_30 : decode cX8_markReached 30 = .ok (.getfield 22, 3) := by decide +kernel
theorem dX8_markReached_33 : decode cX8_markReached 33 = .ok (.iconst 0, 1) := by decide +kernel
theorem dX8_markReached_34 : decode cX8_markReached 34 = .ok (.iconst 1, 1) := by decide +kernel
theorem dX8_markReached_35 : decode cX8_markReached 35 = .ok (.bastore, 1) := by decide +kernel
theorem dX8_markReached_36 : decode cX8_markReached 36 = .ok (.iconst 0, 1) := by decide +kernel
theorem dX8_markReached_37 : decode cX8_markReached 37 = .ok (.istore_n 2, 1) := by decide +kernel
theorem dX8_markReached_38 : decode cX8_markReached 38 = .ok (.iload_n 2, 1) := by decide +kernel
theorem dX8_markReached_39 : decode cX8_markReached 39 = .ok (.iload_n 1, 1) := by decide +kernel
theorem dX8_markReached_40 : decode cX8_markReached 40 = .ok (.if_icmp .ge 75, 3) := by decide +kernel
theorem dX8_markReached_43 : decode cX8_markReached 43 = .ok (.iload_n 2, 1) := by decide +kernel
theorem dX8_markReached_44 : decode cX8_markReached 44 = .ok (.aload_n 0, 1) := by decide +kernel
theorem dX8_markReached_45 : decode cX8_markReached 45 = .ok (.getfield 22, 3) := by decide +kernel
theorem dX8_markReached_48 : decode cX8_markReached 48 = .ok (.arraylength, 1) := by decide +kernel
theorem dX8_markReached_49 : decode cX8_markReached 49 = .ok (.if_icmp .ge 66, 3) := by decide +kernel
theorem dX8_markReached_52 : decode cX8_markReached 52 = .ok (.aload_n 0, 1) := by decide +kernel
theorem dX8_markReached_53 : decode cX8_markReached 53 = .ok (.getfield 22, 3) := by decide +kernel
theorem dX8_markReached_56 : decode cX8_markReached 56 = .ok (.iload_n 2, 1) := by decide +kernel
theorem dX8_markReached_57 : decode cX8_markReached 57 = .ok (.baload, 1) := by decide +kernel
theorem dX8_markReached_58 : decode cX8_markReached 58 = .ok (.ifCond .ne 6, 3) := by decide +kernel
theorem dX8_markReached_61 : decode cX8_markReached 61 = .ok (.goto 48, 3) := by decide +kernel
theorem dX8_markReached_64 : decode cX8_markReached 64 = .ok (.iconst 0, 1) := by decide +kernel
theorem dX8_markReached_65 : decode cX8_markReached 65 = .ok (.istore_n 3, 1) := by decide +kernel
theorem dX8_markReached_66 : decode cX8_markReached 66 = .ok (.iload_n 3, 1) := by decide +kernel
theorem dX8_markReached_67 : decode cX8_markReached 67 = .ok (.bipush 6, 2) := by decide +kernel
theorem dX8_markReached_69 : decode cX8_markReached 69 = .ok (.if_icmp .ge 40, 3) := by decide +kernel
theorem dX8_markReached_72 : decode cX8_markReached 72 = .ok (.aload_n 0, 1) := by decide +kernel
theorem dX8_markReached_73 : decode cX8_markReached 73 = .ok (.iload_n 2, 1) := by decide +kernel
theorem dX8_markReached_74 : decode cX8_markReached 74 = .ok (.iload_n 3, 1) := by decide +kernel
theorem dX8_markReached_75 : decode cX8_markReached 75 = .ok (.invokevirtual 39, 3) := by decide +kernel
theorem dX8_markReached_78 : decode cX8_markReached 78 = .ok (.istore 4, 2) := by decide +kernel
theorem dX8_markReached_80 : decode cX8_markReached 80 = .ok (.iload 4, 2) := by decide +kernel
theorem dX8_markReached_82 : decode cX8_markReached 82 = .ok (.ifCond .lt 21, 3) := by decide +kernel
theorem dX8_markReached_85 : decode cX8_markReached 85 = .ok (.iload 4, 2) := by decide +kernel
theorem dX8_markReached_87 : decode cX8_markReached 87 = .ok (.aload_n 0, 1) := by decide +kernel
theorem dX8_markReached_88 : decode cX8_markReached 88 = .ok (.getfield 22, 3) := by decide +kernel
theorem dX8_markReached_91 : decode cX8_markReached 91 = .ok (.arraylength, 1) := by decide +kernel
theorem dX8_markReached_92 : decode cX8_markReached 92 = .ok (.if_icmp .ge 11, 3) := by decide +kernel
theorem dX8_markReached_95 : decode cX8_markReached 95 = .ok (.aload_n 0, 1) := by decide +kernel
theorem dX8_markReached_96 : decode cX8_markReached 96 = .ok (.getfield 22, 3) := by decide +kernel
theorem dX8_markReached_99 : decode cX8_markReached 99 = .ok (.iload 4, 2) := by decide +kernel
theorem dX8_markReached_101 : decode cX8_markReached 101 = .ok (.iconst 1, 1) := by decide +kernel
theorem dX8_markReached_102 : decode cX8_markReached 102 = .ok (.bastore, 1) := by decide +kernel
theorem dX8_markReached_103 : decode cX8_markReached 103 = .ok (.iinc 3 1, 3) := by decide +kernel
theorem dX8_markReached_106 : decode cX8_markReached 106 = .ok (.goto (-40), 3) := by decide +kernel
theorem dX8_markReached_109 : decode cX8_markReached 109 = .ok (.iinc 2 1, 3) := by decide +kernel
theorem dX8_markReached_112 : decode cX8_markReached 112 = .ok (.goto (-74), 3) := by decide +kernel
theorem dX8_markReached_115 : decode cX8_markReached 115 = .ok (.return_, 1) := by decide +kernel
theorem dX8_countToGo_0 : decode cX8_countToGo 0 = .ok (.iload_n 1, 1) := by decide +kernel
theorem dX8_countToGo_1 : decode cX8_countToGo 1 = .ok (.aload_n 0, 1) := by decide +kernel
theorem dX8_countToGo_2 : decode cX8_countToGo 2 = .ok (.getfield 22, 3) := by decide +kernel
theorem dX8_countToGo_5 : decode cX8_countToGo 5 = .ok (.arraylength, 1) := by decide +kernel
theorem dX8_countToGo_6 : decode cX8_countToGo 6 = .ok (.invokestatic 53, 3) := by decide +kernel
theorem dX8_countToGo_9 : decode cX8_countToGo 9 = .ok (.iconst 1, 1) := by decide +kernel
theorem dX8_countToGo_10 : decode cX8_countToGo 10 = .ok (.isub, 1) := by decide +kernel
theorem dX8_countToGo_11 : decode cX8_countToGo 11 = .ok (.istore_n 2, 1) := by decide +kernel
theorem dX8_countToGo_12 : decode cX8_countToGo 12 = .ok (.iload_n 2, 1) := by decide +kernel
theorem dX8_countToGo_13 : decode cX8_countToGo 13 = .ok (.ifCond .lt 32, 3) := by decide +kernel
theorem dX8_countToGo_16 : decode cX8_countToGo 16 = .ok (.aload_n 0, 1) := by decide +kernel
theorem dX8_countToGo_17 : decode cX8_countToGo 17 = .ok (.getfield 22, 3) := by decide +kernel
theorem dX8_countToGo_20 : decode cX8_countToGo 20 = .ok (.iload_n 2, 1) := by decide +kernel
theorem dX8_countToGo_21 : decode cX8_countToGo 21 = .ok (.baload, 1) := by decide +kernel
theorem dX8_countToGo_22 : decode cX8_countToGo 22 = .ok (.ifCond .eq 17, 3) := by decide +kernel
theorem dX8_countToGo_25 : decode cX8_countToGo 25 = .ok (.aload_n 0, 1) := by decide +kernel
theorem dX8_countToGo_26 : decode cX8_countToGo 26 = .ok (.getfield 22, 3) := by decide +kernel
theorem dX8_countToGo_29 : decode cX8_countToGo 29 = .ok (.iload_n 2, 1) := by decide +kernel
theorem dX8_countToGo_30 : decode cX8_countToGo 30 = .ok (.iconst 1, 1) := by decide +kernel
theorem dX8_countToGo_31 : decode cX8_countToGo 31 = .ok (.aload_n 0, 1) := by decide +kernel
theorem dX8_countToGo_32 : decode cX8_countToGo 32 = .ok (.iload_n 2, 1) := by decide +kernel
theorem dX8_countToGo_33 : decode cX8_countToGo 33 = .ok (.invokevirtual 58, 3) := by decide +kernel
theorem dX8_countToGo_36 : decode cX8_countToGo 36 = .ok (.iadd, 1) := by decide +kernel
theorem dX8_countToGo_37 : decode cX8_countToGo 37 = .ok (.i2b, 1) := by decide +kernel
theorem dX8_countToGo_38 : decode cX8_countToGo 38 = .ok (.bastore, 1) := by decide +kernel
theorem dX8_countToGo_39 : decode cX8_countToGo 39 = .ok (.iinc 2 (-1), 3) := by decide +kernel
theorem dX8_countToGo_42 : decode cX8_countToGo 42 = .ok (.goto (-30), 3) := by decide +kernel
theorem dX8_countToGo_45 : decode cX8_countToGo 45 = .ok (.return_, 1) := by decide +kernel
theorem dX8_leastBehind_0 : decode cX8_leastBehind 0 = .ok (.bipush 13, 2) := by decide +kernel
theorem dX8_leastBehind_2 : decode cX8_leastBehind 2 = .ok (.istore_n 2, 1) := by decide +kernel
theorem dX8_leastBehind_3 : decode cX8_leastBehind 3 = .ok (.iconst 0, 1) := by decide +kernel
theorem dX8_leastBehind_4 : decode cX8_leastBehind 4 = .ok (.istore_n 3, 1) := by decide +kernel
theorem dX8_leastBehind_5 : decode cX8_leastBehind 5 = .ok (.iload_n 3, 1) := by decide +kernel
theorem dX8_leastBehind_6 : decode cX8_leastBehind 6 = .ok (.bipush 6, 2) := by decide +kernel
theorem dX8_leastBehind_8 : decode cX8_leastBehind 8 = .ok (.if_icmp .ge 45, 3) := by decide +kernel
theorem dX8_leastBehind_11 : decode cX8_leastBehind 11 = .ok (.aload_n 0, 1) := by decide +kernel
theorem dX8_leastBehind_12 : decode cX8_leastBehind 12 = .ok (.iload_n 1, 1) := by decide +kernel
theorem dX8_leastBehind_13 : decode cX8_leastBehind 13 = .ok (.iload_n 3, 1) := by decide +kernel
theorem dX8_leastBehind_14 : decode cX8_leastBehind 14 = .ok (.invokevirtual 39, 3) := by decide +kernel
theorem dX8_leastBehind_17 : decode cX8_leastBehind 17 = .ok (.istore 4, 2) := by decide +kernel
theorem dX8_leastBehind_19 : decode cX8_leastBehind 19 = .ok (.iload 4, 2) := by decide +kernel
theorem dX8_leastBehind_21 : decode cX8_leastBehind 21 = .ok (.iload_n 1, 1) := by decide +kernel
theorem dX8_leastBehind_22 : decode cX8_leastBehind 22 = .ok (.if_icmp .le 25, 3) := by decide +kernel
theorem dX8_leastBehind_25 : decode cX8_leastBehind 25 = .ok (.iload 4, 2) := by decide +kernel
theorem dX8_leastBehind_27 : decode cX8_leastBehind 27 = .ok (.aload_n 0, 1) := by decide +kernel
theorem dX8_leastBehind_28 : decode cX8_leastBehind 28 = .ok (.getfield 22, 3) := by decide +kernel
theorem dX8_leastBehind_31 : decode cX8_leastBehind 31 = .ok (.arraylength, 1) := by decide +kernel
theorem dX8_leastBehind_32 : decode cX8_leastBehind 32 = .ok (.if_icmp .ge 15, 3) := by decide +kernel
theorem dX8_leastBehind_35 : decode cX8_leastBehind 35 = .ok (.iload_n 2, 1) := by decide +kernel
theorem dX8_leastBehind_36 : decode cX8_leastBehind 36 = .ok (.aload_n 0, 1) := by decide +kernel
theorem dX8_leastBehind_37 : decode cX8_leastBehind 37 = .ok (.getfield 22, 3) := by decide +kernel
theorem dX8_leastBehind_40 : decode cX8_leastBehind 40 = .ok (.iload 4, 2) := by decide +kernel
theorem dX8_leastBehind_42 : decode cX8_leastBehind 42 = .ok (.baload, 1) := by decide +kernel
theorem dX8_leastBehind_43 : decode cX8_leastBehind 43 = .ok (.invokestatic 53, 3) := by decide +kernel
theorem dX8_leastBehind_46 : decode cX8_leastBehind 46 = .ok (.istore_n 2, 1) := by decide +kernel
theorem dX8_leastBehind_47 : decode cX8_leastBehind 47 = .ok (.iinc 3 1, 3) := by decide +kernel
theorem dX8_leastBehind_50 : decode cX8_leastBehind 50 = .ok (.goto (-45), 3) := by decide +kernel
theorem dX8_leastBehind_53 : decode cX8_leastBehind 53 = .ok (.iload_n 2, 1) := by decide +kernel
theorem dX8_leastBehind_54 : decode cX8_leastBehind 54 = .ok (.ireturn, 1) := by decide +kernel
theorem dX8_writeRow_0 : decode cX8_writeRow 0 = .ok (.iconst 0, 1) := by decide +kernel
theorem dX8_writeRow_1 : decode cX8_writeRow 1 = .ok (.istore_n 2, 1) := by decide +kernel
theorem dX8_writeRow_2 : decode cX8_writeRow 2 = .ok (.iconst 0, 1) := by decide +kernel
theorem dX8_writeRow_3 : decode cX8_writeRow 3 = .ok (.istore_n 3, 1) := by decide +kernel
theorem dX8_writeRow_4 : decode cX8_writeRow 4 = .ok (.iconst 0, 1) := by decide +kernel
theorem dX8_writeRow_5 : decode cX8_writeRow 5 = .ok (.istore 4, 2) := by decide +kernel
theorem dX8_writeRow_7 : decode cX8_writeRow 7 = .ok (.iload 4, 2) := by decide +kernel
theorem dX8_writeRow_9 : decode cX8_writeRow 9 = .ok (.bipush 12, 2) := by decide +kernel
theorem dX8_writeRow_11 : decode cX8_writeRow 11 = .ok (.if_icmp .ge 58, 3) := by decide +kernel
theorem dX8_writeRow_14 : decode cX8_writeRow 14 = .ok (.iload_n 2, 1) := by decide +kernel
theorem dX8_writeRow_15 : decode cX8_writeRow 15 = .ok (.iload_n 1, 1) := by decide +kernel
theorem dX8_writeRow_16 : decode cX8_writeRow 16 = .ok (.if_icmp .eq 53, 3) := by decide +kernel
theorem dX8_writeRow_19 : decode cX8_writeRow 19 = .ok (.aload_n 0, 1) := by decide +kernel
theorem dX8_writeRow_20 : decode cX8_writeRow 20 = .ok (.iload_n 2, 1) := by decide +kernel
theorem dX8_writeRow_21 : decode cX8_writeRow 21 = .ok (.invokevirtual 62, 3) := by decide +kernel
theorem dX8_writeRow_24 : decode cX8_writeRow 24 = .ok (.istore 5, 2) := by decide +kernel
theorem dX8_writeRow_26 : decode cX8_writeRow 26 = .ok (.aload_n 0, 1) := by decide +kernel
theorem dX8_writeRow_27 : decode cX8_writeRow 27 = .ok (.iload_n 2, 1) := by decide +kernel
theorem dX8_writeRow_28 : decode cX8_writeRow 28 = .ok (.iload 5, 2) := by decide +kernel
theorem dX8_writeRow_30 : decode cX8_writeRow 30 = .ok (.invokevirtual 39, 3) := by decide +kernel
theorem dX8_writeRow_33 : decode cX8_writeRow 33 = .ok (.istore 6, 2) := by decide +kernel
theorem dX8_writeRow_35 : decode cX8_writeRow 35 = .ok (.aload_n 0, 1) := by decide +kernel
theorem dX8_writeRow_36 : decode cX8_writeRow 36 = .ok (.getfield 26, 3) := by decide +kernel
theorem dX8_writeRow_39 : decode cX8_writeRow 39 = .ok (.iload 4, 2) := by decide +kernel
theorem dX8_writeRow_41 : decode cX8_writeRow 41 = .ok (.iload 5, 2) := by decide +kernel
theorem dX8_writeRow_43 : decode cX8_writeRow 43 = .ok (.iastore, 1) := by decide +kernel
theorem dX8_writeRow_44 : decode cX8_writeRow 44 = .ok (.aload_n 0, 1) := by decide +kernel
theorem dX8_writeRow_45 : decode cX8_writeRow 45 = .ok (.getfield 29, 3) := by decide +kernel
theorem dX8_writeRow_48 : decode cX8_writeRow 48 = .ok (.iload 4, 2) := by decide +kernel
theorem dX8_writeRow_50 : decode cX8_writeRow 50 = .ok (.iload 6, 2) := by decide +kernel
theorem dX8_writeRow_52 : decode cX8_writeRow 52 = .ok (.iload_n 2, 1) := by decide +kernel
theorem dX8_writeRow_53 : decode cX8_writeRow 53 = .ok (.iconst (-1), 1) := by decide +kernel
theorem dX8_writeRow_54 : decode cX8_writeRow 54 = .ok (.ixor, 1) := by decide +kernel
theorem dX8_writeRow_55 : decode cX8_writeRow 55 = .ok (.iand, 1) := by decide +kernel
theorem dX8_writeRow_56 : decode cX8_writeRow 56 = .ok (.iastore, 1) := by decide +kernel
theorem dX8_writeRow_57 : decode cX8_writeRow 57 = .ok (.iload 6, 2) := by decide +kernel
theorem dX8_writeRow_59 : decode cX8_writeRow 59 = .ok (.istore_n 2, 1) := by decide +kernel
theorem dX8_writeRow_60 : decode cX8_writeRow 60 = .ok (.iinc 3 1, 3) := by decide +kernel
theorem dX8_writeRow_63 : decode cX8_writeRow 63 = .ok (.iinc 4 1, 3) := by decide +kernel
theorem dX8_writeRow_66 : decode cX8_writeRow 66 = .ok (.goto (-59), 3) := by decide +kernel
theorem dX8_writeRow_69 : decode cX8_writeRow 69 = .ok (.aload_n 0, 1) := by decide +kernel
theorem dX8_writeRow_70 : decode cX8_writeRow 70 = .ok (.iload_n 3, 1) := by decide +kernel
theorem dX8_writeRow_71 : decode cX8_writeRow 71 = .ok (.putfield 32, 3) := by decide +kernel
theorem dX8_writeRow_74 : decode cX8_writeRow 74 = .ok (.return_, 1) := by decide +kernel
theorem dX8_firstSideOnward_0 : decode cX8_firstSideOnward 0 = .ok (.aload_n 0, 1) := by decide +kernel
theorem dX8_firstSideOnward_1 : decode cX8_firstSideOnward 1 = .ok (.iload_n 1, 1) := by decide +kernel
theorem dX8_firstSideOnward_2 : decode cX8_firstSideOnward 2 = .ok (.invokevirtual 58, 3) := by decide +kernel
theorem dX8_firstSideOnward_5 : decode cX8_firstSideOnward 5 = .ok (.istore_n 2, 1) := by decide +kernel
theorem dX8_firstSideOnward_6 : decode cX8_firstSideOnward 6 = .ok (.iconst 0, 1) := by decide +kernel
theorem dX8_firstSideOnward_7 : decode cX8_firstSideOnward 7 = .ok (.istore_n 3, 1) := by decide +kernel
theorem dX8_firstSideOnward_8 : decode cX8_firstSideOnward 8 = .ok (.iload_n 3, 1) := by decide +kernel
theorem dX8_firstSideOnward_9 : decode cX8_firstSideOnward 9 = .ok (.bipush 6, 2) := by decide +kernel
theorem dX8_firstSideOnward_11 : decode cX8_firstSideOnward 11 = .ok (.if_icmp .ge 46, 3) := by decide +kernel
theorem dX8_firstSideOnward_14 : decode cX8_firstSideOnward 14 = .ok (.aload_n 0, 1) := by decide +kernel
theorem dX8_firstSideOnward_15 : decode cX8_firstSideOnward 15 = .ok (.iload_n 1, 1) := by decide +kernel
theorem dX8_firstSideOnward_16 : decode cX8_firstSideOnward 16 = .ok (.iload_n 3, 1) := by decide +kernel
theorem dX8_firstSideOnward_17 : decode cX8_firstSideOnward 17 = .ok (.invokevirtual 39, 3) := by decide +kernel
theorem dX8_firstSideOnward_20 : decode cX8_firstSideOnward 20 = .ok (.istore 4, 2) := by decide +kernel
theorem dX8_firstSideOnward_22 : decode cX8_firstSideOnward 22 = .ok (.iload 4, 2) := by decide +kernel
theorem dX8_firstSideOnward_24 : decode cX8_firstSideOnward 24 = .ok (.iload_n 1, 1) := by decide +kernel
theorem dX8_firstSideOnward_25 : decode cX8_firstSideOnward 25 = .ok (.if_icmp .le 26, 3) := by decide +kernel
theorem dX8_firstSideOnward_28 : decode cX8_firstSideOnward 28 = .ok (.iload 4, 2) := by decide +kernel
theorem dX8_firstSideOnward_30 : decode cX8_firstSideOnward 30 = .ok (.aload_n 0, 1) := by decide +kernel
theorem dX8_firstSideOnward_31 : decode cX8_firstSideOnward 31 = .ok (.getfield 22, 3) := by decide +kernel
theorem dX8_firstSideOnward_34 : decode cX8_firstSideOnward 34 = .ok (.arraylength, 1) := by decide +kernel
theorem dX8_firstSideOnward_35 : decode cX8_firstSideOnward 35 = .ok (.if_icmp .ge 16, 3) := by decide +kernel
theorem dX8_firstSideOnward_38 : decode cX8_firstSideOnward 38 = .ok (.aload_n 0, 1) := by decide +kernel
theorem dX8_firstSideOnward_39 : decode cX8_firstSideOnward 39 = .ok (.getfield 22, 3) := by decide +kernel
theorem dX8_firstSideOnward_42 : decode cX8_firstSideOnward 42 = .ok (.iload 4, 2) := by decide +kernel
theorem dX8_firstSideOnward_44 : decode cX8_firstSideOnward 44 = .ok (.baload, 1) := by decide +kernel
theorem dX8_firstSideOnward_45 : decode cX8_firstSideOnward 45 = .ok (.iload_n 2, 1) := by decide +kernel
theorem dX8_firstSideOnward_46 : decode cX8_firstSideOnward 46 = .ok (.if_icmp .ne 5, 3) := by decide +kernel
theorem dX8_firstSideOnward_49 : decode cX8_firstSideOnward 49 = .ok (.iload_n 3, 1) := by decide +kernel
theorem dX8_firstSideOnward_50 : decode cX8_firstSideOnward 50 = .ok (.ireturn, 1) := by decide +kernel
theorem dX8_firstSideOnward_51 : decode cX8_firstSideOnward 51 = .ok (.iinc 3 1, 3) := by decide +kernel
theorem dX8_firstSideOnward_54 : decode cX8_firstSideOnward 54 = .ok (.goto (-46), 3) := by decide +kernel
theorem dX8_firstSideOnward_57 : decode cX8_firstSideOnward 57 = .ok (.iconst 0, 1) := by decide +kernel
theorem dX8_firstSideOnward_58 : decode cX8_firstSideOnward 58 = .ok (.ireturn, 1) := by decide +kernel
theorem dX9_init_0 : decode cX9_init 0 = .ok (.aload_n 0, 1) := by decide +kernel
theorem dX9_init_1 : decode cX9_init 1 = .ok (.invokespecial 1, 3) := by decide +kernel
theorem dX9_init_4 : decode cX9_init 4 = .ok (.aload_n 0, 1) := by decide +kernel
theorem dX9_init_5 : decode cX9_init 5 = .ok (.aconst_null, 1) := by decide +kernel
theorem dX9_init_6 : decode cX9_init 6 = .ok (.putfield 7, 3) := by decide +kernel
theorem dX9_init_9 : decode cX9_init 9 = .ok (.aload_n 0, 1) := by decide +kernel
theorem dX9_init_10 : decode cX9_init 10 = .ok (.aconst_null, 1) := by decide +kernel
theorem dX9_init_11 : decode cX9_init 11 = .ok (.putfield 13, 3) := by decide +kernel
theorem dX9_init_14 : decode cX9_init 14 = .ok (.aload_n 0, 1) := by decide +kernel
theorem dX9_init_15 : decode cX9_init 15 = .ok (.aconst_null, 1) := by decide +kernel
theorem dX9_init_16 : decode cX9_init 16 = .ok (.putfield 17, 3) := by decide +kernel
theorem dX9_init_19 : decode cX9_init 19 = .ok (.return_, 1) := by decide +kernel
theorem dX9_clear_0 : decode cX9_clear 0 = .ok (.aload_n 0, 1) := by decide +kernel
theorem dX9_clear_1 : decode cX9_clear 1 = .ok (.aconst_null, 1) := by decide +kernel
theorem dX9_clear_2 : decode cX9_clear 2 = .ok (.putfield 7, 3) := by decide +kernel
theorem dX9_clear_5 : decode cX9_clear 5 = .ok (.aload_n 0, 1) := by decide +kernel
theorem dX9_clear_6 : decode cX9_clear 6 = .ok (.aconst_null, 1) := by decide +kernel
theorem dX9_clear_7 : decode cX9_clear 7 = .ok (.putfield 13, 3) := by decide +kernel
theorem dX9_clear_10 : decode cX9_clear 10 = .ok (.aload_n 0, 1) := by decide +kernel
theorem dX9_clear_11 : decode cX9_clear 11 = .ok (.aconst_null, 1) := by decide +kernel
theorem dX9_clear_12 : decode cX9_clear 12 = .ok (.putfield 17, 3) := by decide +kernel
theorem dX9_clear_15 : decode cX9_clear 15 = .ok (.return_, 1) := by decide +kernel
theorem dX9_take_0 : decode cX9_take 0 = .ok (.aload_n 0, 1) := by decide +kernel
theorem dX9_take_1 : decode cX9_take 1 = .ok (.invokevirtual 21, 3) := by decide +kernel
theorem dX9_take_4 : decode cX9_take 4 = .ok (.aload_n 0, 1) := by decide +kernel
theorem dX9_take_5 : decode cX9_take 5 = .ok (.aload_n 1, 1) := by decide +kernel
theorem dX9_take_6 : decode cX9_take 6 = .ok (.putfield 7, 3) := by decide +kernel
theorem dX9_take_9 : decode cX9_take 9 = .ok (.return_, 1) := by decide +kernel
theorem dX9_takeInts_0 : decode cX9_takeInts 0 = .ok (.aload_n 0, 1) := by decide +kernel
theorem dX9_takeInts_1 : decode cX9_takeInts 1 = .ok (.invokevirtual 21, 3) := by decide +kernel
theorem dX9_takeInts_4 : decode cX9_takeInts 4 = .ok (.aload_n 0, 1) := by decide +kernel
theorem dX9_takeInts_5 : decode cX9_takeInts 5 = .ok (.aload_n 1, 1) := by decide +kernel
theorem dX9_takeInts_6 : decode cX9_takeInts 6 = .ok (.putfield 13, 3) := by decide +kernel
theorem dX9_takeInts_9 : decode cX9_takeInts 9 = .ok (.return_, 1) := by decide +kernel
theorem dX9_takeBytes_0 : decode cX9_takeBytes 0 = .ok (.aload_n 0, 1) := by decide +kernel
theorem dX9_takeBytes_1 : decode cX9_takeBytes 1 = .ok (.invokevirtual 21, 3) := by decide +kernel
theorem dX9_takeBytes_4 : decode cX9_takeBytes 4 = .ok (.aload_n 0, 1) := by decide +kernel
theorem dX9_takeBytes_5 : decode cX9_takeBytes 5 = .ok (.aload_n 1, 1) := by decide +kernel
theorem dX9_takeBytes_6 : decode cX9_takeBytes 6 = .ok (.putfield 17, 3) := by decide +kernel
theorem dX9_takeBytes_9 : decode cX9_takeBytes 9 = .ok (.return_, 1) := by decide +kernel
theorem dX9_isBare_0 : decode cX9_isBare 0 = .ok (.aload_n 0, 1) := by decide +kernel
theorem dX9_isBare_1 : decode cX9_isBare 1 = .ok (.getfield 7, 3) := by decide +kernel
theorem dX9_isBare_4 : decode cX9_isBare 4 = .ok (.ifnonnull 21, 3) := by decide +kernel
theorem dX9_isBare_7 : decode cX9_isBare 7 = .ok (.aload_n 0, 1) := by decide +kernel
theorem dX9_isBare_8 : decode cX9_isBare 8 = .ok (.getfield 13, 3) := by decide +kernel
theorem dX9_isBare_11 : decode cX9_isBare 11 = .ok (.ifnonnull 14, 3) := by decide +kernel
theorem dX9_isBare_14 : decode cX9_isBare 14 = .ok (.aload_n 0, 1) := by decide +kernel
theorem dX9_isBare_15 : decode cX9_isBare 15 = .ok (.getfield 17, 3) := by decide +kernel
theorem dX9_isBare_18 : decode cX9_isBare 18 = .ok (.ifnonnull 7, 3) := by decide +kernel
theorem dX9_isBare_21 : decode cX9_isBare 21 = .ok (.iconst 1, 1) := by decide +kernel
theorem dX9_isBare_22 : decode cX9_isBare 22 = .ok (.goto 4, 3) := by decide +kernel
theorem dX9_isBare_25 : decode cX9_isBare 25 = .ok (.iconst 0, 1) := by decide +kernel
theorem dX9_isBare_26 : decode cX9_isBare 26 = .ok (.ireturn, 1) := by decide +kernel
theorem dX9_isRowLike_0 : decode cX9_isRowLike 0 = .ok (.aload_n 0, 1) := by decide +kernel
theorem dX9_isRowLike_1 : decode cX9_isRowLike 1 = .ok (.getfield 13, 3) := by decide +kernel
theorem dX9_isRowLike_4 : decode cX9_isRowLike 4 = .ok (.ifnull 10, 3) := by decide +kernel
theorem dX9_isRowLike_7 : decode cX9_isRowLike 7 = .ok (.aload_n 1, 1) := by decide +kernel
theorem dX9_isRowLike_8 : decode cX9_isRowLike 8 = .ok (.getfield 13, 3) := by decide +kernel
theorem dX9_isRowLike_11 : decode cX9_isRowLike 11 = .ok (.ifnonnull 17, 3) := by decide +kernel
theorem dX9_isRowLike_14 : decode cX9_isRowLike 14 = .ok (.aload_n 0, 1) := by decide +kernel
theorem dX9_isRowLike_15 : decode cX9_isRowLike 15 = .ok (.getfield 17, 3) := by decide +kernel
theorem dX9_isRowLike_18 : decode cX9_isRowLike 18 = .ok (.ifnull 14, 3) := by decide +kernel
theorem dX9_isRowLike_21 : decode cX9_isRowLike 21 = .ok (.aload_n 1, 1) := by decide +kernel
theorem dX9_isRowLike_22 : decode cX9_isRowLike 22 = .ok (.getfield 17, 3) := by decide +kernel
theorem dX9_isRowLike_25 : decode cX9_isRowLike 25 = .ok (.ifnull 7, 3) := by decide +kernel
theorem dX9_isRowLike_28 : decode cX9_isRowLike 28 = .ok (.iconst 1, 1) := by decide +kernel
theorem dX9_isRowLike_29 : decode cX9_isRowLike 29 = .ok (.goto 4, 3) := by decide +kernel
theorem dX9_isRowLike_32 : decode cX9_isRowLike 32 = .ok (.iconst 0, 1) := by decide +kernel
theorem dX9_isRowLike_33 : decode cX9_isRowLike 33 = .ok (.ireturn, 1) := by decide +kernel
theorem dX9_hasPlaces_0 : decode cX9_hasPlaces 0 = .ok (.aload_n 0, 1) := by decide +kernel
theorem dX9_hasPlaces_1 : decode cX9_hasPlaces 1 = .ok (.getfield 13, 3) := by decide +kernel
theorem dX9_hasPlaces_4 : decode cX9_hasPlaces 4 = .ok (.ifnull 11, 3) := by decide +kernel
theorem dX9_hasPlaces_7 : decode cX9_hasPlaces 7 = .ok (.aload_n 0, 1) := by decide +kernel
theorem dX9_hasPlaces_8 : decode cX9_hasPlaces 8 = .ok (.getfield 13, 3) := by decide +kernel
theorem dX9_hasPlaces_11 : decode cX9_hasPlaces 11 = .ok (.arraylength, 1) := by decide +kernel
theorem dX9_hasPlaces_12 : decode cX9_hasPlaces 12 = .ok (.goto 19, 3) := by decide +kernel
theorem dX9_hasPlaces_15 : decode cX9_hasPlaces 15 = .ok (.aload_n 0, 1) := by decide +kernel
theorem dX9_hasPlaces_16 : decode cX9_hasPlaces 16 = .ok (.getfield 17, 3) := by decide +kernel
theorem dX9_hasPlaces_19 : decode cX9_hasPlaces 19 = .ok (.ifnull 11, 3) := by decide +kernel
theorem dX9_hasPlaces_22 : decode cX9_hasPlaces 22 = .ok (.aload_n 0, 1) := by decide +kernel
theorem dX9_hasPlaces_23 : decode cX9_hasPlaces 23 = .ok (.getfield 17, 3) := by decide +kernel
theorem dX9_hasPlaces_26 : decode cX9_hasPlaces 26 = .ok (.arraylength, 1) := by decide +kernel
theorem dX9_hasPlaces_27 : decode cX9_hasPlaces 27 = .ok (.goto 4, 3) := by decide +kernel
theorem dX9_hasPlaces_30 : decode cX9_hasPlaces 30 = .ok (.iconst 0, 1) := by decide +kernel
theorem dX9_hasPlaces_31 : decode cX9_hasPlaces 31 = .ok (.istore_n 3, 1) := by decide +kernel
theorem dX9_hasPlaces_32 : decode cX9_hasPlaces 32 = .ok (.iload_n 1, 1) := by decide +kernel
theorem dX9_hasPlaces_33 : decode cX9_hasPlaces 33 = .ok (.ifCond .lt 23, 3) := by decide +kernel
theorem dX9_hasPlaces_36 : decode cX9_hasPlaces 36 = .ok (.iload_n 2, 1) := by decide +kernel
theorem dX9_hasPlaces_37 : decode cX9_hasPlaces 37 = .ok (.ifCond .lt 19, 3) := by decide +kernel
theorem dX9_hasPlaces_40 : decode cX9_hasPlaces 40 = .ok (.iload_n 2, 1) := by decide +kernel
theorem dX9_hasPlaces_41 : decode cX9_hasPlaces 41 = .ok (.iload_n 3, 1) := by decide +kernel
theorem dX9_hasPlaces_42 : decode cX9_hasPlaces 42 = .ok (.if_icmp .gt 14, 3) := by decide +kernel
theorem dX9_hasPlaces_45 : decode cX9_hasPlaces 45 = .ok (.iload_n 1, 1) := by decide +kernel
theorem dX9_hasPlaces_46 : decode cX9_hasPlaces 46 = .ok (.iload_n 3, 1) := by decide +kernel
theorem dX9_hasPlaces_47 : decode cX9_hasPlaces 47 = .ok (.iload_n 2, 1) := by decide +kernel
theorem dX9_hasPlaces_48 : decode cX9_hasPlaces 48 = .ok (.isub, 1) := by decide +kernel
theorem dX9_hasPlaces_49 : decode cX9_hasPlaces 49 = .ok (.if_icmp .gt 7, 3) := by decide +kernel
theorem dX9_hasPlaces_52 : decode cX9_hasPlaces 52 = .ok (.iconst 1, 1) := by decide +kernel
theorem dX9_hasPlaces_53 : decode cX9_hasPlaces 53 = .ok (.goto 4, 3) := by decide +kernel
theorem dX9_hasPlaces_56 : decode cX9_hasPlaces 56 = .ok (.iconst 0, 1) := by decide +kernel
theorem dX9_hasPlaces_57 : decode cX9_hasPlaces 57 = .ok (.ireturn, 1) := by decide +kernel
theorem dX9_valueAt_0 : decode cX9_valueAt 0 = .ok (.aload_n 0, 1) := by decide +kernel
theorem dX9_valueAt_1 : decode cX9_valueAt 1 = .ok (.iload_n 1, 1) := by decide +kernel
theorem dX9_valueAt_2 : decode cX9_valueAt 2 = .ok (.iconst 1, 1) := by decide +kernel
theorem dX9_valueAt_3 : decode cX9_valueAt 3 = .ok (.invokevirtual 24, 3) := by decide +kernel
theorem dX9_valueAt_6 : decode cX9_valueAt 6 = .ok (.ifCond .ne 5, 3) := by decide +kernel
theorem dX9_valueAt_9 : decode cX9_valueAt 9 = .ok (.lconst 0, 1) := by decide +kernel
theorem dX9_valueAt_10 : decode cX9_valueAt 10 = .ok (.lreturn, 1) := by decide +kernel
theorem dX9_valueAt_11 : decode cX9_valueAt 11 = .ok (.aload_n 0, 1) := by decide +kernel
theorem dX9_valueAt_12 : decode cX9_valueAt 12 = .ok (.getfield 13, 3) := by decide +kernel
theorem dX9_valueAt_15 : decode cX9_valueAt 15 = .ok (.ifnull 13, 3) := by decide +kernel
theorem dX9_valueAt_18 : decode cX9_valueAt 18 = .ok (.aload_n 0, 1) := by decide +kernel
theorem dX9_valueAt_19 : decode cX9_valueAt 19 = .ok (.getfield 13, 3) := by decide +kernel
theorem dX9_valueAt_22 : decode cX9_valueAt 22 = .ok (.iload_n 1, 1) := by decide +kernel
theorem dX9_valueAt_23 : decode cX9_valueAt 23 = .ok (.iaload, 1) := by decide +kernel
theorem dX9_valueAt_24 : decode cX9_valueAt 24 = .ok (.i2l, 1) := by decide +kernel
theorem dX9_valueAt_25 : decode cX9_valueAt 25 = .ok (.goto 21, 3) := by decide +kernel
theorem dX9_valueAt_28 : decode cX9_valueAt 28 = .ok (.aload_n 0, 1) := by decide +kernel
theorem dX9_valueAt_29 : decode cX9_valueAt 29 = .ok (.getfield 17, 3) := by decide +kernel
theorem dX9_valueAt_32 : decode cX9_valueAt 32 = .ok (.ifnull 13, 3) := by decide +kernel
theorem dX9_valueAt_35 : decode cX9_valueAt 35 = .ok (.aload_n 0, 1) := by decide +kernel
theorem dX9_valueAt_36 : decode cX9_valueAt 36 = .ok (.getfield 17, 3) := by decide +kernel
theorem dX9_valueAt_39 : decode cX9_valueAt 39 = .ok (.iload_n 1, 1) := by decide +kernel
theorem dX9_valueAt_40 : decode cX9_valueAt 40 = .ok (.baload, 1) := by decide +kernel
theorem dX9_valueAt_41 : decode cX9_valueAt 41 = .ok (.i2l, 1) := by decide +kernel
theorem dX9_valueAt_42 : decode cX9_valueAt 42 = .ok (.goto 4, 3) := by decide +kernel
theorem dX9_valueAt_45 : decode cX9_valueAt 45 = .ok (.lconst 0, 1) := by decide +kernel
theorem dX9_valueAt_46 : decode cX9_valueAt 46 = .ok (.lreturn, 1) := by decide +kernel
theorem dX9_passOn_0 : decode cX9_passOn 0 = .ok (.aload_n 0, 1) := by decide +kernel
theorem dX9_passOn_1 : decode cX9_passOn 1 = .ok (.iload_n 1, 1) := by decide +kernel
theorem dX9_passOn_2 : decode cX9_passOn 2 = .ok (.iload 4, 2) := by decide +kernel
theorem dX9_passOn_4 : decode cX9_passOn 4 = .ok (.invokevirtual 24, 3) := by decide +kernel
theorem dX9_passOn_7 : decode cX9_passOn 7 = .ok (.ifCond .eq 13, 3) := by decide +kernel
theorem dX9_passOn_10 : decode cX9_passOn 10 = .ok (.aload_n 2, 1) := by decide +kernel
theorem dX9_passOn_11 : decode cX9_passOn 11 = .ok (.iload_n 3, 1) := by decide +kernel
theorem dX9_passOn_12 : decode cX9_passOn 12 = .ok (.iload 4, 2) := by decide +kernel
theorem dX9_passOn_14 : decode cX9_passOn 14 = .ok (.invokevirtual 24, 3) := by decide +kernel
theorem dX9_passOn_17 : decode cX9_passOn 17 = .ok (.ifCond .ne 4, 3) := by decide +kernel
theorem dX9_passOn_20 : decode cX9_passOn 20 = .ok (.return_, 1) := by decide +kernel
theorem dX9_passOn_21 : decode cX9_passOn 21 = .ok (.aload_n 0, 1) := by decide +kernel
theorem dX9_passOn_22 : decode cX9_passOn 22 = .ok (.getfield 13, 3) := by decide +kernel
theorem dX9_passOn_25 : decode cX9_passOn 25 = .ok (.ifnull 28, 3) := by decide +kernel
theorem dX9_passOn_28 : decode cX9_passOn 28 = .ok (.aload_n 2, 1) := by decide +kernel
theorem dX9_passOn_29 : decode cX9_passOn 29 = .ok (.getfield 13, 3) := by decide +kernel
theorem dX9_passOn_32 : decode cX9_passOn 32 = .ok (.ifnull 21, 3) := by decide +kernel
theorem dX9_passOn_35 : decode cX9_passOn 35 = .ok (.aload_n 0, 1) := by decide +kernel
theorem dX9_passOn_36 : decode cX9_passOn 36 = .ok (.getfield 13, 3) := by decide +kernel
theorem dX9_passOn_39 : decode cX9_passOn 39 = .ok (.iload_n 1, 1) := by decide +kernel
theorem dX9_passOn_40 : decode cX9_passOn 40 = .ok (.aload_n 2, 1) := by decide +kernel
theorem dX9_passOn_41 : decode cX9_passOn 41 = .ok (.getfield 13, 3) := by decide +kernel
theorem dX9_passOn_44 : decode cX9_passOn 44 = .ok (.iload_n 3, 1) := by decide +kernel
theorem dX9_passOn_45 : decode cX9_passOn 45 = .ok (.iload 4, 2) := by decide +kernel
theorem dX9_passOn_47 : decode cX9_passOn 47 = .ok (.invokestatic 28, 3) := by decide +kernel
theorem dX9_passOn_50 : decode cX9_passOn 50 = .ok (.goto 32, 3) := by decide +kernel
theorem dX9_passOn_53 : decode cX9_passOn 53 = .ok (.aload_n 0, 1) := by decide +kernel
theorem dX9_passOn_54 : decode cX9_passOn 54 = .ok (.getfield 17, 3) := by decide +kernel
theorem dX9_passOn_57 : decode cX9_passOn 57 = .ok (.ifnull 25, 3) := by decide +kernel
theorem dX9_passOn_60 : decode cX9_passOn 60 = .ok (.aload_n 2, 1) := by decide +kernel
theorem dX9_passOn_61 : decode cX9_passOn 61 = .ok (.getfield 17, 3) := by decide +kernel
theorem dX9_passOn_64 : decode cX9_passOn 64 = .ok (.ifnull 18, 3) := by decide +kernel
theorem dX9_passOn_67 : decode cX9_passOn 67 = .ok (.aload_n 0, 1) := by decide +kernel
theorem dX9_passOn_68 : decode cX9_passOn 68 = .ok (.getfield 17, 3) := by decide +kernel
theorem dX9_passOn_71 : decode cX9_passOn 71 = .ok (.iload_n 1, 1) := by decide +kernel
theorem dX9_passOn_72 : decode cX9_passOn 72 = .ok (.aload_n 2, 1) := by decide +kernel
theorem dX9_passOn_73 : decode cX9_passOn 73 = .ok (.getfield 17, 3) := by decide +kernel
theorem dX9_passOn_76 : decode cX9_passOn 76 = .ok (.iload_n 3, 1) := by decide +kernel
theorem dX9_passOn_77 : decode cX9_passOn 77 = .ok (.iload 4, 2) := by decide +kernel
theorem dX9_passOn_79 : decode cX9_passOn 79 = .ok (.invokestatic 28, 3) := by decide +kernel
theorem dX9_passOn_82 : decode cX9_passOn 82 = .ok (.return_, 1) := by decide +kernel
theorem dX10_init_0 : decode cX10_init 0 = .ok (.aload_n 0, 1) := by decide +kernel
theorem dX10_init_1 : decode cX10_init 1 = .ok (.invokespecial 3, 3) := by decide +kernel
theorem dX10_init_4 : decode cX10_init 4 = .ok (.aload_n 0, 1) := by decide +kernel
theorem dX10_init_5 : decode cX10_init 5 = .ok (.bipush 10, 2) := by decide +kernel
theorem dX10_init_7 : decode cX10_init 7 = .ok (.anewarray 9, 3) := by decide +kernel
theorem dX10_init_10 : decode cX10_init 10 = .ok (.putfield 11, 3) := by decide +kernel
theorem dX10_init_13 : decode cX10_init 13 = .ok (.aload_n 0, 1) := by decide +kernel
theorem dX10_init_14 : decode cX10_init 14 = .ok (.iconst 0, 1) := by decide +kernel
theorem dX10_init_15 : decode cX10_init 15 = .ok (.putfield 15, 3) := by decide +kernel
theorem dX10_init_18 : decode cX10_init 18 = .ok (.aload_n 0, 1) := by decide +kernel
theorem dX10_init_19 : decode cX10_init 19 = .ok (.new 19, 3) := by decide +kernel
theorem dX10_init_22 : decode cX10_init 22 = .ok (.dup, 1) := by decide +kernel
theorem dX10_init_23 : decode cX10_init 23 = .ok (.invokespecial 21, 3) := by decide +kernel
theorem dX10_init_26 : decode cX10_init 26 = .ok (.putfield 22, 3) := by decide +kernel
theorem dX10_init_29 : decode cX10_init 29 = .ok (.aload_n 0, 1) := by decide +kernel
theorem dX10_init_30 : decode cX10_init 30 = .ok (.new 19, 3) := by decide +kernel
theorem dX10_init_33 : decode cX10_init 33 = .ok (.dup, 1) := by decide +kernel
theorem dX10_init_34 : decode cX10_init 34 = .ok (.invokespecial 21, 3) := by decide +kernel
theorem dX10_init_37 : decode cX10_init 37 = .ok (.putfield 26, 3) := by decide +kernel
theorem dX10_init_40 : decode cX10_init 40 = .ok (.aload_n 0, 1) := by decide +kernel
theorem dX10_init_41 : decode cX10_init 41 = .ok (.iconst 3, 1) := by decide +kernel
theorem dX10_init_42 : decode cX10_init 42 = .ok (.newarray .long, 2) := by decide +kernel
theorem dX10_init_44 : decode cX10_init 44 = .ok (.putfield 29, 3) := by decide +kernel
theorem dX10_init_47 : decode cX10_init 47 = .ok (.aload_n 0, 1) := by decide +kernel
theorem dX10_init_48 : decode cX10_init 48 = .ok (.iconst 1, 1) := by decide +kernel
theorem dX10_init_49 : decode cX10_init 49 = .ok (.putfield 33, 3) := by decide +kernel
theorem dX10_init_52 : decode cX10_init 52 = .ok (.aload_n 0, 1) := by decide +kernel
theorem dX10_init_53 : decode cX10_init 53 = .ok (.new 37, 3) := by decide +kernel
theorem dX10_init_56 : decode cX10_init 56 = .ok (.dup, 1) := by decide +kernel
theorem dX10_init_57 : decode cX10_init 57 = .ok (.invokespecial 39, 3) := by decide +kernel
theorem dX10_init_60 : decode cX10_init 60 = .ok (.putfield 40, 3) := by decide +kernel
theorem dX10_init_63 : decode cX10_init 63 = .ok (.aload_n 0, 1) := by decide +kernel
theorem dX10_init_64 : decode cX10_init 64 = .ok (.new 44, 3) := by decide +kernel
theorem dX10_init_67 : decode cX10_init 67 = .ok (.dup, 1) := by decide +kernel
theorem dX10_init_68 : decode cX10_init 68 = .ok (.invokespecial 46, 3) := by decide +kernel
theorem dX10_init_71 : decode cX10_init 71 = .ok (.putfield 47, 3) := by decide +kernel
theorem dX10_init_74 : decode cX10_init 74 = .ok (.aload_n 0, 1) := by decide +kernel
theorem dX10_init_75 : decode cX10_init 75 = .ok (.new 51, 3) := by decide +kernel
theorem dX10_init_78 : decode cX10_init 78 = .ok (.dup, 1) := by decide +kernel
theorem dX10_init_79 : decode cX10_init 79 = .ok (.invokespecial 53, 3) := by decide +kernel
theorem dX10_init_82 : decode cX10_init 82 = .ok (.putfield 54, 3) := by decide +kernel
theorem dX10_init_85 : decode cX10_init 85 = .ok (.aload_n 0, 1) := by decide +kernel
theorem dX10_init_86 : decode cX10_init 86 = .ok (.new 58, 3) := by decide +kernel
theorem dX10_init_89 : decode cX10_init 89 = .ok (.dup, 1) := by decide +kernel
theorem dX10_init_90 : decode cX10_init 90 = .ok (.invokespecial 60, 3) := by decide +kernel
theorem dX10_init_93 : decode cX10_init 93 = .ok (.putfield 61, 3) := by decide +kernel
theorem dX10_init_96 : decode cX10_init 96 = .ok (.aload_n 0, 1) := by decide +kernel
theorem dX10_init_97 : decode cX10_init 97 = .ok (.bipush 8, 2) := by decide +kernel
theorem dX10_init_99 : decode cX10_init 99 = .ok (.anewarray 65, 3) := by decide +kernel
theorem dX10_init_102 : decode cX10_init 102 = .ok (.putfield 67, 3) := by decide +kernel
theorem dX10_init_105 : decode cX10_init 105 = .ok (.iconst 0, 1) := by decide +kernel
theorem dX10_init_106 : decode cX10_init 106 = .ok (.istore_n 1, 1) := by decide +kernel
theorem dX10_init_107 : decode cX10_init 107 = .ok (.iload_n 1, 1) := by decide +kernel
theorem dX10_init_108 : decode cX10_init 108 = .ok (.bipush 8, 2) := by decide +kernel
theorem dX10_init_110 : decode cX10_init 110 = .ok (.if_icmp .ge 22, 3) := by decide +kernel
theorem dX10_init_113 : decode cX10_init 113 = .ok (.aload_n 0, 1) := by decide +kernel
theorem dX10_init_114 : decode cX10_init 114 = .ok (.getfield 67, 3) := by decide +kernel
theorem dX10_init_117 : decode cX10_init 117 = .ok (.iload_n 1, 1) := by decide +kernel
theorem dX10_init_118 : decode cX10_init 118 = .ok (.new 65, 3) := by decide +kernel
theorem dX10_init_121 : decode cX10_init 121 = .ok (.dup, 1) := by decide +kernel
theorem dX10_init_122 : decode cX10_init 122 = .ok (.invokespecial 71, 3) := by decide +kernel
theorem dX10_init_125 : decode cX10_init 125 = .ok (.aastore, 1) := by decide +kernel
theorem dX10_init_126 : decode cX10_init 126 = .ok (.iinc 1 1, 3) := by decide +kernel
theorem dX10_init_129 : decode cX10_init 129 = .ok (.goto (-22), 3) := by decide +kernel
theorem dX10_init_132 : decode cX10_init 132 = .ok (.return_, 1) := by decide +kernel
theorem dX10_contact_0 : decode cX10_contact 0 = .ok (.iload_n 1, 1) := by decide +kernel
theorem dX10_contact_1 : decode cX10_contact 1 = .ok (.ifCond .lt 16, 3) := by decide +kernel
theorem dX10_contact_4 : decode cX10_contact 4 = .ok (.iload 4, 2) := by decide +kernel
theorem dX10_contact_6 : decode cX10_contact 6 = .ok (.ifCond .lt 11, 3) := by decide +kernel
theorem dX10_contact_9 : decode cX10_contact 9 = .ok (.iload_n 2, 1) := by decide +kernel
theorem dX10_contact_10 : decode cX10_contact 10 = .ok (.iload_n 3, 1) := by decide +kernel
theorem dX10_contact_11 : decode cX10_contact 11 = .ok (.invokestatic 72, 3) := by decide +kernel
theorem dX10_contact_14 : decode cX10_contact 14 = .ok (.ifCond .ne 5, 3) := by decide +kernel
theorem dX10_contact_17 : decode cX10_contact 17 = .ok (.iconst (-1), 1) := by decide +kernel
theorem dX10_contact_18 : decode cX10_contact 18 = .ok (.ireturn, 1) := by decide +kernel
theorem dX10_contact_19 : decode cX10_contact 19 = .ok (.iload_n 1, 1) := by decide +kernel
theorem dX10_contact_20 : decode cX10_contact 20 = .ok (.bipush 10, 2) := by decide +kernel
theorem dX10_contact_22 : decode cX10_contact 22 = .ok (.idiv, 1) := by decide +kernel
theorem dX10_contact_23 : decode cX10_contact 23 = .ok (.istore 5, 2) := by decide +kernel
theorem dX10_contact_25 : decode cX10_contact 25 = .ok (.iload_n 1, 1) := by decide +kernel
theorem dX10_contact_26 : decode cX10_contact 26 = .ok (.bipush 10, 2) := by decide +kernel
theorem dX10_contact_28 : decode cX10_contact 28 = .ok (.irem, 1) := by decide +kernel
theorem dX10_contact_29 : decode cX10_contact 29 = .ok (.istore 6, 2) := by decide +kernel
theorem dX10_contact_31 : decode cX10_contact 31 = .ok (.iload 4, 2) := by decide +kernel
theorem dX10_contact_33 : decode cX10_contact 33 = .ok (.bipush 100, 2) := by decide +kernel
theorem dX10_contact_35 : decode cX10_contact 35 = .ok (.idiv, 1) := by decide +kernel
theorem dX10_contact_36 : decode cX10_contact 36 = .ok (.istore 7, 2) := by decide +kernel
theorem dX10_contact_38 : decode cX10_contact 38 = .ok (.iload 4, 2) := by decide +kernel
theorem dX10_contact_40 : decode cX10_contact 40 = .ok (.bipush 100, 2) := by decide +kernel
theorem dX10_contact_42 : decode cX10_contact 42 = .ok (.irem, 1) := by decide +kernel
theorem dX10_contact_43 : decode cX10_contact 43 = .ok (.istore 8, 2) := by decide +kernel
theorem dX10_contact_45 : decode cX10_contact 45 = .ok (.iload 5, 2) := by decide +kernel
theorem dX10_contact_47 : decode cX10_contact 47 = .ok (.iconst 3, 1) := by decide +kernel
theorem dX10_contact_48 : decode cX10_contact 48 = .ok (.if_icmp .gt 28, 3) := by decide +kernel
theorem dX10_contact_51 : decode cX10_contact 51 = .ok (.iload 6, 2) := by decide +kernel
theorem dX10_contact_53 : decode cX10_contact 53 = .ok (.invokestatic 76, 3) := by decide +kernel
theorem dX10_contact_56 : decode cX10_contact 56 = .ok (.ifCond .eq 20, 3) := by decide +kernel
theorem dX10_contact_59 : decode cX10_contact 59 = .ok (.iload 5, 2) := by decide +kernel
theorem dX10_contact_61 : decode cX10_contact 61 = .ok (.iload 7, 2) := by decide +kernel
theorem dX10_contact_63 : decode cX10_contact 63 = .ok (.invokestatic 80, 3) := by decide +kernel
theorem dX10_contact_66 : decode cX10_contact 66 = .ok (.ifCond .eq 10, 3) := by decide +kernel
theorem dX10_contact_69 : decode cX10_contact 69 = .ok (.iload 8, 2) := by decide +kernel
theorem dX10_contact_71 : decode cX10_contact 71 = .ok (.bipush 20, 2) := by decide +kernel
theorem dX10_contact_73 : decode cX10_contact 73 = .ok (.if_icmp .le 5, 3) := by decide +kernel
theorem dX10_contact_76 : decode cX10_contact 76 = .ok (.iconst (-1), 1) := by decide +kernel
theorem dX10_contact_77 : decode cX10_contact 77 = .ok (.ireturn, 1) := by decide +kernel
theorem dX10_contact_78 : decode cX10_contact 78 = .ok (.aload_n 0, 1) := by decide +kernel
theorem dX10_contact_79 : decode cX10_contact 79 = .ok (.getfield 15, 3) := by decide +kernel
theorem dX10_contact_82 : decode cX10_contact 82 = .ok (.bipush 10, 2) := by decide +kernel
theorem dX10_contact_84 : decode cX10_contact 84 = .ok (.if_icmp .lt 6, 3) := by decide +kernel
theorem dX10_contact_87 : decode cX10_contact 87 = .ok (.bipush (-2), 2) := by decide +kernel
theorem dX10_contact_89 : decode cX10_contact 89 = .ok (.ireturn, 1) := by decide +kernel
theorem dX10_contact_90 : decode cX10_contact 90 = .ok (.iload 5, 2) := by decide +kernel
theorem dX10_contact_92 : decode cX10_contact 92 = .ok (.iload 6, 2) := by decide +kernel
theorem dX10_contact_94 : decode cX10_contact 94 = .ok (.iload_n 2, 1) := by decide +kernel
theorem dX10_contact_95 : decode cX10_contact 95 = .ok (.iload_n 3, 1) := by decide +kernel
theorem dX10_contact_96 : decode cX10_contact 96 = .ok (.iload 7, 2) := by decide +kernel
theorem dX10_contact_98 : decode cX10_contact 98 = .ok (.iload 8, 2) := by decide +kernel
theorem dX10_contact_100 : decode cX10_contact 100 = .ok (.invokestatic 83, 3) := by decide +kernel
theorem dX10_contact_103 : decode cX10_contact 103 = .ok (.astore 9, 2) := by decide +kernel
theorem dX10_contact_105 : decode cX10_contact 105 = .ok (.aload 9, 2) := by decide +kernel
theorem dX10_contact_107 : decode cX10_contact 107 = .ok (.aload_n 0, 1) := by decide +kernel
theorem dX10_contact_108 : decode cX10_contact 108 = .ok (.getfield 15, 3) := by decide +kernel
theorem dX10_contact_111 : decode cX10_contact 111 = .ok (.putfield 87, 3) := by decide +kernel
theorem dX10_contact_114 : decode cX10_contact 114 = .ok (.aload_n 0, 1) := by decide +kernel
theorem dX10_contact_115 : decode cX10_contact 115 = .ok (.getfield 11, 3) := by decide +kernel
theorem dX10_contact_118 : decode cX10_contact 118 = .ok (.aload_n 0, 1) := by decide +kernel
theorem dX10_contact_119 : decode cX10_contact 119 = .ok (.getfield 15, 3) := by decide +kernel
theorem dX10_contact_122 : decode cX10_contact 122 = .ok (.aload 9, 2) := by decide +kernel
theorem dX10_contact_124 : decode cX10_contact 124 = .ok (.aastore, 1) := by decide +kernel
theorem dX10_contact_125 : decode cX10_contact 125 = .ok (.aload_n 0, 1) := by decide +kernel
theorem dX10_contact_126 : decode cX10_contact 126 = .ok (.dup, 1) := by decide +kernel
theorem dX10_contact_127 : decode cX10_contact 127 = .ok (.getfield 15, 3) := by decide +kernel
theorem dX10_contact_130 : decode cX10_contact 130 = .ok (.iconst 1, 1) := by decide +kernel
theorem dX10_contact_131 : decode cX10_contact 131 = .ok (.iadd, 1) := by decide +kernel
theorem dX10_contact_132 : decode cX10_contact 132 = .ok (.putfield 15, 3) := by decide +kernel
theorem dX10_contact_135 : decode cX10_contact 135 = .ok (.aload_n 0, 1) := by decide +kernel
theorem dX10_contact_136 : decode cX10_contact 136 = .ok (.iconst 1, 1) := by decide +kernel
theorem dX10_contact_137 : decode cX10_contact 137 = .ok (.putfield 33, 3) := by decide +kernel
theorem dX10_contact_140 : decode cX10_contact 140 = .ok (.aload_n 0, 1) := by decide +kernel
theorem dX10_contact_141 : decode cX10_contact 141 = .ok (.getfield 15, 3) := by decide +kernel
theorem dX10_contact_144 : decode cX10_contact 144 = .ok (.iconst 1, 1) := by decide +kernel
theorem dX10_contact_145 : decode cX10_contact 145 = .ok (.isub, 1) := by decide +kernel
theorem dX10_contact_146 : decode cX10_contact 146 = .ok (.ireturn, 1) := by decide +kernel
theorem dX10_undo_0 : decode cX10_undo 0 = .ok (.aload_n 0, 1) := by decide +kernel
theorem dX10_undo_1 : decode cX10_undo 1 = .ok (.getfield 15, 3) := by decide +kernel
theorem dX10_undo_4 : decode cX10_undo 4 = .ok (.ifCond .gt 6, 3) := by decide +kernel
theorem dX10_undo_7 : decode cX10_undo 7 = .ok (.bipush (-3), 2) := by decide +kernel
theorem dX10_undo_9 : decode cX10_undo 9 = .ok (.ireturn, 1) := by decide +kernel
theorem dX10_undo_10 : decode cX10_undo 10 = .ok (.aload_n 0, 1) := by decide +kernel
theorem dX10_undo_11 : decode cX10_undo 11 = .ok (.dup, 1) := by decide +kernel
theorem dX10_undo_12 : decode cX10_undo 12 = .ok (.getfield 15, 3) := by decide +kernel
theorem dX10_undo_15 : decode cX10_undo 15 = .ok (.iconst 1, 1) := by decide +kernel
theorem dX10_undo_16 : decode cX10_undo 16 = .ok (.isub, 1) := by decide +kernel
theorem dX10_undo_17 : decode cX10_undo 17 = .ok (.putfield 15, 3) := by decide +kernel
theorem dX10_undo_20 : decode cX10_undo 20 = .ok (.aload_n 0, 1) := by decide +kernel
theorem dX10_undo_21 : decode cX10_undo 21 = .ok (.getfield 11, 3) := by decide +kernel
theorem dX10_undo_24 : decode cX10_undo 24 = .ok (.aload_n 0, 1) := by decide +kernel
theorem dX10_undo_25 : decode cX10_undo 25 = .ok (.getfield 15, 3) := by decide +kernel
theorem dX10_undo_28 : decode cX10_undo 28 = .ok (.aconst_null, 1) := by decide +kernel
theorem dX10_undo_29 : decode cX10_undo 29 = .ok (.aastore, 1) := by decide +kernel
theorem dX10_undo_30 : decode cX10_undo 30 = .ok (.aload_n 0, 1) := by decide +kernel
theorem dX10_undo_31 : decode cX10_undo 31 = .ok (.iconst 1, 1) := by decide +kernel
theorem dX10_undo_32 : decode cX10_undo 32 = .ok (.putfield 33, 3) := by decide +kernel
theorem dX10_undo_35 : decode cX10_undo 35 = .ok (.aload_n 0, 1) := by decide +kernel
theorem dX10_undo_36 : decode cX10_undo 36 = .ok (.getfield 15, 3) := by decide +kernel
theorem dX10_undo_39 : decode cX10_undo 39 = .ok (.ireturn, 1) := by decide +kernel
theorem dX10_move_0 : decode cX10_move 0 = .ok (.aload_n 0, 1) := by decide +kernel
theorem dX10_move_1 : decode cX10_move 1 = .ok (.iload_n 1, 1) := by decide +kernel
theorem dX10_move_2 : decode cX10_move 2 = .ok (.invokevirtual 90, 3) := by decide +kernel
theorem dX10_move_5 : decode cX10_move 5 = .ok (.astore 4, 2) := by decide +kernel
theorem dX10_move_7 : decode cX10_move 7 = .ok (.aload 4, 2) := by decide +kernel
theorem dX10_move_9 : decode cX10_move 9 = .ok (.ifnull 11, 3) := by decide +kernel
theorem dX10_move_12 : decode cX10_move 12 = .ok (.iload_n 2, 1) := by decide +kernel
theorem dX10_move_13 : decode cX10_move 13 = .ok (.iload_n 3, 1) := by decide +kernel
theorem dX10_move_14 : decode cX10_move 14 = .ok (.invokestatic 72, 3) := by decide +kernel
theorem dX10_move_17 : decode cX10_move 17 = .ok (.ifCond .ne 5, 3) := by decide +kernel
theorem dX10_move_20 : decode cX10_move 20 = .ok (.iconst (-1), 1) := by decide +kernel
theorem dX10_move_21 : decode cX10_move 21 = .ok (.ireturn, 1) := by decide +kernel
theorem dX10_move_22 : decode cX10_move 22 = .ok (.aload 4, 2) := by decide +kernel
theorem dX10_move_24 : decode cX10_move 24 = .ok (.getfield 94, 3) := by decide +kernel
theorem dX10_move_27 : decode cX10_move 27 = .ok (.iload_n 2, 1) := by decide +kernel
theorem dX10_move_28 : decode cX10_move 28 = .ok (.if_icmp .ne 14, 3) := by decide +kernel
theorem dX10_move_31 : decode cX10_move 31 = .ok (.aload 4, 2) := by decide +kernel
theorem dX10_move_33 : decode cX10_move 33 = .ok (.getfield 97, 3) := by decide +kernel
theorem dX10_move_36 : decode cX10_move 36 = .ok (.iload_n 3, 1) := by decide +kernel
theorem dX10_move_37 : decode cX10_move 37 = .ok (.if_icmp .ne 5, 3) := by decide +kernel
theorem dX10_move_40 : decode cX10_move 40 = .ok (.iconst 0, 1) := by decide +kernel
theorem dX10_move_41 : decode cX10_move 41 = .ok (.ireturn, 1) := by decide +kernel
theorem dX10_move_42 : decode cX10_move 42 = .ok (.aload 4, 2) := by decide +kernel
theorem dX10_move_44 : decode cX10_move 44 = .ok (.iload_n 2, 1) := by decide +kernel
theorem dX10_move_45 : decode cX10_move 45 = .ok (.putfield 94, 3) := by decide +kernel
theorem dX10_move_48 : decode cX10_move 48 = .ok (.aload 4, 2) := by decide +kernel
theorem dX10_move_50 : decode cX10_move 50 = .ok (.iload_n 3, 1) := by decide +kernel
theorem dX10_move_51 : decode cX10_move 51 = .ok (.putfield 97, 3) := by decide +kernel
theorem dX10_move_54 : decode cX10_move 54 = .ok (.aload_n 0, 1) := by decide +kernel
theorem dX10_move_55 : decode cX10_move 55 = .ok (.iconst 1, 1) := by decide +kernel
theorem dX10_move_56 : decode cX10_move 56 = .ok (.putfield 33, 3) := by decide +kernel
theorem dX10_move_59 : decode cX10_move 59 = .ok (.iconst 1, 1) := by decide +kernel
theorem dX10_move_60 : decode cX10_move 60 = .ok (.ireturn, 1) := by decide +kernel
theorem dX10_miss_0 : decode cX10_miss 0 = .ok (.aload_n 0, 1) := by decide +kernel
theorem dX10_miss_1 : decode cX10_miss 1 = .ok (.iload_n 1, 1) := by decide +kernel
theorem dX10_miss_2 : decode cX10_miss 2 = .ok (.invokevirtual 90, 3) := by decide +kernel
theorem dX10_miss_5 : decode cX10_miss 5 = .ok (.astore_n 3, 1) := by decide +kernel
theorem dX10_miss_6 : decode cX10_miss 6 = .ok (.aload_n 3, 1) := by decide +kernel
theorem dX10_miss_7 : decode cX10_miss 7 = .ok (.ifnull 13, 3) := by decide +kernel
theorem dX10_miss_10 : decode cX10_miss 10 = .ok (.iload_n 2, 1) := by decide +kernel
theorem dX10_miss_11 : decode cX10_miss 11 = .ok (.ifCond .lt 9, 3) := by decide +kernel
theorem dX10_miss_14 : decode cX10_miss 14 = .ok (.iload_n 2, 1) := by decide +kernel
theorem dX10_miss_15 : decode cX10_miss 15 = .ok (.bipush 50, 2) := by decide +kernel
theorem dX10_miss_17 : decode cX10_miss 17 = .ok (.if_icmp .le 5, 3) := by decide +kernel
theorem dX10_miss_20 : decode cX10_miss 20 = .ok (.iconst (-1), 1) := by decide +kernel
theorem dX10_miss_21 : decode cX10_miss 21 = .ok (.ireturn, 1) := by decide +kernel
theorem dX10_miss_22 : decode cX10_miss 22 = .ok (.aload_n 3, 1) := by decide +kernel
theorem dX10_miss_23 : decode cX10_miss 23 = .ok (.invokevirtual 100, 3) := by decide +kernel
theorem dX10_miss_26 : decode cX10_miss 26 = .ok (.ifCond .ne 6, 3) := by decide +kernel
theorem dX10_miss_29 : decode cX10_miss 29 = .ok (.bipush (-4), 2) := by decide +kernel
theorem dX10_miss_31 : decode cX10_miss 31 = .ok (.ireturn, 1) := by decide +kernel
theorem dX10_miss_32 : decode cX10_miss 32 = .ok (.aload_n 3, 1) := by decide +kernel
theorem dX10_miss_33 : decode cX10_miss 33 = .ok (.getfield 104, 3) := by decide +kernel
theorem dX10_miss_36 : decode cX10_miss 36 = .ok (.istore 4, 2) := by decide +kernel
theorem dX10_miss_38 : decode cX10_miss 38 = .ok (.aload_n 3, 1) := by decide +kernel
theorem dX10_miss_39 : decode cX10_miss 39 = .ok (.iload_n 2, 1) := by decide +kernel
theorem dX10_miss_40 : decode cX10_miss 40 = .ok (.putfield 104, 3) := by decide +kernel
theorem dX10_miss_43 : decode cX10_miss 43 = .ok (.iload 4, 2) := by decide +kernel
theorem dX10_miss_45 : decode cX10_miss 45 = .ok (.ireturn, 1) := by decide +kernel
theorem dX10_look_0 : decode cX10_look 0 = .ok (.aload_n 0, 1) := by decide +kernel
theorem dX10_look_1 : decode cX10_look 1 = .ok (.iload_n 1, 1) := by decide +kernel
theorem dX10_look_2 : decode cX10_look 2 = .ok (.invokevirtual 90, 3) := by decide +kernel
theorem dX10_look_5 : decode cX10_look 5 = .ok (.astore_n 3, 1) := by decide +kernel
theorem dX10_look_6 : decode cX10_look 6 = .ok (.aload_n 3, 1) := by decide +kernel
theorem dX10_look_7 : decode cX10_look 7 = .ok (.ifnonnull 5, 3) := by decide +kernel
theorem dX10_look_10 : decode cX10_look 10 = .ok (.iconst (-1), 1) := by decide +kernel
theorem dX10_look_11 : decode cX10_look 11 = .ok (.ireturn, 1) := by decide +kernel
theorem dX10_look_12 : decode cX10_look 12 = .ok (.iload_n 2, 1) := by decide +kernel
theorem dX10_look_13 : decode cX10_look 13 = .ok (.tableswitch 81 0 5 #[39, 44, 49, 54, 59, 76], 39) := by decide +kernel
theorem dX10_look_52 : decode cX10_look 52 = .ok (.aload_n 3, 1) := by decide +kernel
theorem dX10_look_53 : decode cX10_look 53 = .ok (.invokevirtual 107, 3) := by decide +kernel
theorem dX10_look_56 : decode cX10_look 56 = .ok (.ireturn, 1) := by decide +kernel
theorem dX10_look_57 : decode cX10_look 57 = .ok (.aload_n 3, 1) := by decide +kernel
theorem dX10_look_58 : decode cX10_look 58 = .ok (.getfield 111, 3) := by decide +kernel
theorem dX10_look_61 : decode cX10_look 61 = .ok (.ireturn, 1) := by decide +kernel
theorem dX10_look_62 : decode cX10_look 62 = .ok (.aload_n 3, 1) := by decide +kernel
theorem dX10_look_63 : decode cX10_look 63 = .ok (.invokevirtual 114, 3) := by decide +kernel
theorem dX10_look_66 : decode cX10_look 66 = .ok (.ireturn, 1) := by decide +kernel
theorem dX10_look_67 : decode cX10_look 67 = .ok (.aload_n 3, 1) := by decide +kernel
theorem dX10_look_68 : decode cX10_look 68 = .ok (.getfield 117, 3) := by decide +kernel
theorem dX10_look_71 : decode cX10_look 71 = .ok (.ireturn, 1) := by decide +kernel
theorem dX10_look_72 : decode cX10_look 72 = .ok (.aload_n 3, 1) := by decide +kernel
theorem dX10_look_73 : decode cX10_look 73 = .ok (.invokevirtual 100, 3) := by decide +kernel
theorem dX10_look_76 : decode cX10_look 76 = .ok (.ifCond .eq 10, 3) := by decide +kernel
theorem dX10_look_79 : decode cX10_look 79 = .ok (.aload_n 3, 1) := by decide +kernel
theorem dX10_look_80 : decode cX10_look 80 = .ok (.getfield 104, 3) := by decide +kernel
theorem dX10_look_83 : decode cX10_look 83 = .ok (.goto 5, 3) := by decide +kernel
theorem dX10_look_86 : decode cX10_look 86 = .ok (.bipush (-2), 2) := by decide +kernel
theorem dX10_look_88 : decode cX10_look 88 = .ok (.ireturn, 1) := by decide +kernel
theorem dX10_look_89 : decode cX10_look 89 = .ok (.aload_n 3, 1) := by decide +kernel
theorem dX10_look_90 : decode cX10_look 90 = .ok (.invokevirtual 120, 3) := by decide +kernel
theorem dX10_look_93 : decode cX10_look 93 = .ok (.ireturn, 1) := by decide +kernel
theorem dX10_look_94 : decode cX10_look 94 = .ok (.iconst (-1), 1) := by decide +kernel
theorem dX10_look_95 : decode cX10_look 95 = .ok (.ireturn, 1) := by decide +kernel
theorem dX10_wrench_0 : decode cX10_wrench 0 = .ok (.aload_n 0, 1) := by decide +kernel
theorem dX10_wrench_1 : decode cX10_wrench 1 = .ok (.iload_n 1, 1) := by decide +kernel
theorem dX10_wrench_2 : decode cX10_wrench 2 = .ok (.invokevirtual 90, 3) := by decide +kernel
theorem dX10_wrench_5 : decode cX10_wrench 5 = .ok (.astore 4, 2) := by decide +kernel
theorem dX10_wrench_7 : decode cX10_wrench 7 = .ok (.aload 4, 2) := by decide +kernel
theorem dX10_wrench_9 : decode cX10_wrench 9 = .ok (.ifnull 26, 3) := by decide +kernel
theorem dX10_wrench_12 : decode cX10_wrench 12 = .ok (.iload_n 2, 1) := by decide +kernel
theorem dX10_wrench_13 : decode cX10_wrench 13 = .ok (.iconst (-1), 1) := by decide +kernel
theorem dX10_wrench_14 : decode cX10_wrench 14 = .ok (.if_icmp .lt 21, 3) := by decide +kernel
theorem dX10_wrench_17 : decode cX10_wrench 17 = .ok (.iload_n 2, 1) := by decide +kernel
theorem dX10_wrench_18 : decode cX10_wrench 18 = .ok (.aload 4, 2) := by decide +kernel
theorem dX10_wrench_20 : decode cX10_wrench 20 = .ok (.invokevirtual 120, 3) := by decide +kernel
theorem dX10_wrench_23 : decode cX10_wrench 23 = .ok (.if_icmp .ge 12, 3) := by decide +kernel
theorem dX10_wrench_26 : decode cX10_wrench 26 = .ok (.iload_n 3, 1) := by decide +kernel
theorem dX10_wrench_27 : decode cX10_wrench 27 = .ok (.ifCond .lt 8, 3) := by decide +kernel
theorem dX10_wrench_30 : decode cX10_wrench 30 = .ok (.iload_n 3, 1) := by decide +kernel
theorem dX10_wrench_31 : decode cX10_wrench 31 = .ok (.iconst 2, 1) := by decide +kernel
theorem dX10_wrench_32 : decode cX10_wrench 32 = .ok (.if_icmp .le 13, 3) := by decide +kernel
theorem dX10_wrench_35 : decode cX10_wrench 35 = .ok (.new 123, 3) := by decide +kernel
theorem dX10_wrench_38 : decode cX10_wrench 38 = .ok (.dup, 1) := by decide +kernel
theorem dX10_wrench_39 : decode cX10_wrench 39 = .ok (.ldc 125, 2) := by decide +kernel
theorem dX10_wrench_41 : decode cX10_wrench 41 = .ok (.invokespecial 127, 3) := by decide +kernel
theorem dX10_wrench_44 : decode cX10_wrench 44 = .ok (.athrow, 1) := by decide +kernel
theorem dX10_wrench_45 : decode cX10_wrench 45 = .ok (.iload_n 3, 1) := by decide +kernel
theorem dX10_wrench_46 : decode cX10_wrench 46 = .ok (.ifCond .ne 13, 3) := by decide +kernel
theorem dX10_wrench_49 : decode cX10_wrench 49 = .ok (.aload 4, 2) := by decide +kernel
theorem dX10_wrench_51 : decode cX10_wrench 51 = .ok (.iload_n 2, 1) := by decide +kernel
theorem dX10_wrench_52 : decode cX10_wrench 52 = .ok (.invokevirtual 130, 3) := by decide +kernel
theorem dX10_wrench_55 : decode cX10_wrench 55 = .ok (.i2l, 1) := by decide +kernel
theorem dX10_wrench_56 : decode cX10_wrench 56 = .ok (.goto 25, 3) := by decide +kernel
theorem dX10_wrench_59 : decode cX10_wrench 59 = .ok (.iload_n 3, 1) := by decide +kernel
theorem dX10_wrench_60 : decode cX10_wrench 60 = .ok (.iconst 1, 1) := by decide +kernel
theorem dX10_wrench_61 : decode cX10_wrench 61 = .ok (.if_icmp .ne 13, 3) := by decide +kernel
theorem dX10_wrench_64 : decode cX10_wrench 64 = .ok (.aload 4, 2) := by decide +kernel
theorem dX10_wrench_66 : decode cX10_wrench 66 = .ok (.iload_n 2, 1) := by decide +kernel
theorem dX10_wrench_67 : decode cX10_wrench 67 = .ok (.invokevirtual 134, 3) := by decide +kernel
theorem dX10_wrench_70 : decode cX10_wrench 70 = .ok (.i2l, 1) := by decide +kernel
theorem dX10_wrench_71 : decode cX10_wrench 71 = .ok (.goto 10, 3) := by decide +kernel
theorem dX10_wrench_74 : decode cX10_wrench 74 = .ok (.aload 4, 2) := by decide +kernel
theorem dX10_wrench_76 : decode cX10_wrench 76 = .ok (.iload_n 2, 1) := by decide +kernel
theorem dX10_wrench_77 : decode cX10_wrench 77 = .ok (.invokevirtual 137, 3) := by decide +kernel
theorem dX10_wrench_80 : decode cX10_wrench 80 = .ok (.i2l, 1) := by decide +kernel
theorem dX10_wrench_81 : decode cX10_wrench 81 = .ok (.lreturn, 1) := by decide +kernel
theorem dX10_rank_0 : decode cX10_rank 0 = .ok (.aload_n 0, 1) := by decide +kernel
theorem dX10_rank_1 : decode cX10_rank 1 = .ok (.invokevirtual 140, 3) := by decide +kernel
theorem dX10_rank_4 : decode cX10_rank 4 = .ok (.aload_n 0, 1) := by decide +kernel
theorem dX10_rank_5 : decode cX10_rank 5 = .ok (.getfield 22, 3) := by decide +kernel
theorem dX10_rank_8 : decode cX10_rank 8 = .ok (.invokevirtual 143, 3) := by decide +kernel
theorem dX10_rank_11 : decode cX10_rank 11 = .ok (.ireturn, 1) := by decide +kernel
theorem dX10_hidden_0 : decode cX10_hidden 0 = .ok (.iload_n 1, 1) := by decide +kernel
theorem dX10_hidden_1 : decode cX10_hidden 1 = .ok (.ifCond .lt 8, 3) := by decide +kernel
theorem dX10_hidden_4 : decode cX10_hidden 4 = .ok (.iload_n 1, 1) := by decide +kernel
theorem dX10_hidden_5 : decode cX10_hidden 5 = .ok (.iconst 2, 1) := by decide +kernel
theorem dX10_hidden_6 : decode cX10_hidden 6 = .ok (.if_icmp .le 13, 3) := by decide +kernel
theorem dX10_hidden_9 : decode cX10_hidden 9 = .ok (.new 123, 3) := by decide +kernel
theorem dX10_hidden_12 : decode cX10_hidden 12 = .ok (.dup, 1) := by decide +kernel
theorem dX10_hidden_13 : decode cX10_hidden 13 = .ok (.ldc 146, 2) := by decide +kernel
theorem dX10_hidden_15 : decode cX10_hidden 15 = .ok (.invokespecial 127, 3) := by decide +kernel
theorem dX10_hidden_18 : decode cX10_hidden 18 = .ok (.athrow, 1) := by decide +kernel
theorem dX10_hidden_19 : decode cX10_hidden 19 = .ok (.aload_n 0, 1) := by decide +kernel
theorem dX10_hidden_20 : decode cX10_hidden 20 = .ok (.invokevirtual 140, 3) := by decide +kernel
theorem dX10_hidden_23 : decode cX10_hidden 23 = .ok (.aload_n 0, 1) := by decide +kernel
theorem dX10_hidden_24 : decode cX10_hidden 24 = .ok (.getfield 22, 3) := by decide +kernel
theorem dX10_hidden_27 : decode cX10_hidden 27 = .ok (.invokevirtual 143, 3) := by decide +kernel
theorem dX10_hidden_30 : decode cX10_hidden 30 = .ok (.iconst 2, 1) := by decide +kernel
theorem dX10_hidden_31 : decode cX10_hidden 31 = .ok (.if_icmp .eq 13, 3) := by decide +kernel
theorem dX10_hidden_34 : decode cX10_hidden 34 = .ok (.new 148, 3) := by decide +kernel
theorem dX10_hidden_37 : decode cX10_hidden 37 = .ok (.dup, 1) := by decide +kernel
theorem dX10_hidden_38 : decode cX10_hidden 38 = .ok (.ldc 150, 2) := by decide +kernel
theorem dX10_hidden_40 : decode cX10_hidden 40 = .ok (.invokespecial 152, 3) := by decide +kernel
theorem dX10_hidden_43 : decode cX10_hidden 43 = .ok (.athrow, 1) := by decide +kernel
theorem dX10_hidden_44 : decode cX10_hidden 44 = .ok (.aload_n 0, 1) := by decide +kernel
theorem dX10_hidden_45 : decode cX10_hidden 45 = .ok (.getfield 22, 3) := by decide +kernel
theorem dX10_hidden_48 : decode cX10_hidden 48 = .ok (.invokevirtual 153, 3) := by decide +kernel
theorem dX10_hidden_51 : decode cX10_hidden 51 = .ok (.iload_n 1, 1) := by decide +kernel
theorem dX10_hidden_52 : decode cX10_hidden 52 = .ok (.ifCond .ne 13, 3) := by decide +kernel
theorem dX10_hidden_55 : decode cX10_hidden 55 = .ok (.aload_n 0, 1) := by decide +kernel
theorem dX10_hidden_56 : decode cX10_hidden 56 = .ok (.getfield 22, 3) := by decide +kernel
theorem dX10_hidden_59 : decode cX10_hidden 59 = .ok (.getfield 156, 3) := by decide +kernel
theorem dX10_hidden_62 : decode cX10_hidden 62 = .ok (.goto 25, 3) := by decide +kernel
theorem dX10_hidden_65 : decode cX10_hidden 65 = .ok (.iload_n 1, 1) := by decide +kernel
theorem dX10_hidden_66 : decode cX10_hidden 66 = .ok (.iconst 1, 1) := by decide +kernel
theorem dX10_hidden_67 : decode cX10_hidden 67 = .ok (.if_icmp .ne 13, 3) := by decide +kernel
theorem dX10_hidden_70 : decode cX10_hidden 70 = .ok (.aload_n 0, 1) := by decide +kernel
theorem dX10_hidden_71 : decode cX10_hidden 71 = .ok (.getfield 22, 3) := by decide +kernel
theorem dX10_hidden_74 : decode cX10_hidden 74 = .ok (.getfield 160, 3) := by decide +kernel
theorem dX10_hidden_77 : decode cX10_hidden 77 = .ok (.goto 10, 3) := by decide +kernel
theorem dX10_hidden_80 : decode cX10_hidden 80 = .ok (.aload_n 0, 1) := by decide +kernel
theorem dX10_hidden_81 : decode cX10_hidden 81 = .ok (.getfield 22, 3) := by decide +kernel
theorem dX10_hidden_84 : decode cX10_hidden 84 = .ok (.getfield 163, 3) := by decide +kernel
theorem dX10_hidden_87 : decode cX10_hidden 87 = .ok (.lreturn, 1) := by decide +kernel
theorem dX10_form_0 : decode cX10_form 0 = .ok (.aload_n 0, 1) := by decide +kernel
theorem dX10_form_1 : decode cX10_form 1 = .ok (.bipush 10, 2) := by decide +kernel
theorem dX10_form_3 : decode cX10_form 3 = .ok (.invokevirtual 166, 3) := by decide +kernel
theorem dX10_form_6 : decode cX10_form 6 = .ok (.ifCond .eq 7, 3) := by decide +kernel
theorem dX10_form_9 : decode cX10_form 9 = .ok (.iconst 1, 1) := by decide +kernel
theorem dX10_form_10 : decode cX10_form 10 = .ok (.goto 4, 3) := by decide +kernel
theorem dX10_form_13 : decode cX10_form 13 = .ok (.iconst 0, 1) := by decide +kernel
theorem dX10_form_14 : decode cX10_form 14 = .ok (.ireturn, 1) := by decide +kernel
theorem dX10_without_0 : decode cX10_without 0 = .ok (.aload_n 0, 1) := by decide +kernel
theorem dX10_without_1 : decode cX10_without 1 = .ok (.iload_n 1, 1) := by decide +kernel
theorem dX10_without_2 : decode cX10_without 2 = .ok (.invokevirtual 90, 3) := by decide +kernel
theorem dX10_without_5 : decode cX10_without 5 = .ok (.ifnonnull 5, 3) := by decide +kernel
theorem dX10_without_8 : decode cX10_without 8 = .ok (.iconst (-1), 1) := by decide +kernel
theorem dX10_without_9 : decode cX10_without 9 = .ok (.ireturn, 1) := by decide +kernel
theorem dX10_without_10 : decode cX10_without 10 = .ok (.aload_n 0, 1) := by decide +kernel
theorem dX10_without_11 : decode cX10_without 11 = .ok (.iload_n 1, 1) := by decide +kernel
theorem dX10_without_12 : decode cX10_without 12 = .ok (.invokevirtual 166, 3) := by decide +kernel
theorem dX10_without_15 : decode cX10_without 15 = .ok (.ifCond .eq 7, 3) := by decide +kernel
theorem dX10_without_18 : decode cX10_without 18 = .ok (.iconst 1, 1) := by decide +kernel
theorem dX10_without_19 : decode cX10_without 19 = .ok (.goto 4, 3) := by decide +kernel
theorem dX10_without_22 : decode cX10_without 22 = .ok (.iconst 0, 1) := by decide +kernel
theorem dX10_without_23 : decode cX10_without 23 = .ok (.ireturn, 1) := by decide +kernel
theorem dX10_held_0 : decode cX10_held 0 = .ok (.iload_n 1, 1) := by decide +kernel
theorem dX10_held_1 : decode cX10_held 1 = .ok (.iload_n 2, 1) := by decide +kernel
theorem dX10_held_2 : decode cX10_held 2 = .ok (.iload_n 3, 1) := by decide +kernel
theorem dX10_held_3 : decode cX10_held 3 = .ok (.invokestatic 169, 3) := by decide +kernel
theorem dX10_held_6 : decode cX10_held 6 = .ok (.ifCond .eq 11, 3) := by decide +kernel
theorem dX10_held_9 : decode cX10_held 9 = .ok (.iload 4, 2) := by decide +kernel
theorem dX10_held_11 : decode cX10_held 11 = .ok (.invokestatic 173, 3) := by decide +kernel
theorem dX10_held_14 : decode cX10_held 14 = .ok (.ifCond .ne 5, 3) := by decide +kernel
theorem dX10_held_17 : decode cX10_held 17 = .ok (.iconst (-1), 1) := by decide +kernel
theorem dX10_held_18 : decode cX10_held 18 = .ok (.ireturn, 1) := by decide +kernel
theorem dX10_held_19 : decode cX10_held 19 = .ok (.aload_n 0, 1) := by decide +kernel
theorem dX10_held_20 : decode cX10_held 20 = .ok (.invokevirtual 176, 3) := by decide +kernel
theorem dX10_held_23 : decode cX10_held 23 = .ok (.aload_n 0, 1) := by decide +kernel
theorem dX10_held_24 : decode cX10_held 24 = .ok (.iload_n 1, 1) := by decide +kernel
theorem dX10_held_25 : decode cX10_held 25 = .ok (.i2l, 1) := by decide +kernel
theorem dX10_held_26 : decode cX10_held 26 = .ok (.iload_n 2, 1) := by decide +kernel
theorem dX10_held_27 : decode cX10_held 27 = .ok (.i2l, 1) := by decide +kernel
theorem dX10_held_28 : decode cX10_held 28 = .ok (.iload_n 3, 1) := by decide +kernel
theorem dX10_held_29 : decode cX10_held 29 = .ok (.i2l, 1) := by decide +kernel
theorem dX10_held_30 : decode cX10_held 30 = .ok (.iload 4, 2) := by decide +kernel
theorem dX10_held_32 : decode cX10_held 32 = .ok (.i2l, 1) := by decide +kernel
theorem dX10_held_33 : decode cX10_held 33 = .ok (.invokevirtual 179, 3) := by decide +kernel
theorem dX10_held_36 : decode cX10_held 36 = .ok (.ifCond .eq 7, 3) := by decide +kernel
theorem dX10_held_39 : decode cX10_held 39 = .ok (.iconst 1, 1) := by decide +kernel
theorem dX10_held_40 : decode cX10_held 40 = .ok (.goto 4, 3) := by decide +kernel
theorem dX10_held_43 : decode cX10_held 43 = .ok (.iconst 0, 1) := by decide +kernel
theorem dX10_held_44 : decode cX10_held 44 = .ok (.ireturn, 1) := by decide +kernel
theorem dX10_load_0 : decode cX10_load 0 = .ok (.iload_n 1, 1) := by decide +kernel
theorem dX10_load_1 : decode cX10_load 1 = .ok (.iload_n 2, 1) := by decide +kernel
theorem dX10_load_2 : decode cX10_load 2 = .ok (.iload_n 3, 1) := by decide +kernel
theorem dX10_load_3 : decode cX10_load 3 = .ok (.invokestatic 169, 3) := by decide +kernel
theorem dX10_load_6 : decode cX10_load 6 = .ok (.ifCond .ne 5, 3) := by decide +kernel
theorem dX10_load_9 : decode cX10_load 9 = .ok (.iconst (-1), 1) := by decide +kernel
theorem dX10_load_10 : decode cX10_load 10 = .ok (.ireturn, 1) := by decide +kernel
theorem dX10_load_11 : decode cX10_load 11 = .ok (.aload_n 0, 1) := by decide +kernel
theorem dX10_load_12 : decode cX10_load 12 = .ok (.getfield 40, 3) := by decide +kernel
theorem dX10_load_15 : decode cX10_load 15 = .ok (.iload_n 1, 1) := by decide +kernel
theorem dX10_load_16 : decode cX10_load 16 = .ok (.iload_n 2, 1) := by decide +kernel
theorem dX10_load_17 : decode cX10_load 17 = .ok (.iload_n 3, 1) := by decide +kernel
theorem dX10_load_18 : decode cX10_load 18 = .ok (.invokevirtual 183, 3) := by decide +kernel
theorem dX10_load_21 : decode cX10_load 21 = .ok (.ifCond .eq 15, 3) := by decide +kernel
theorem dX10_load_24 : decode cX10_load 24 = .ok (.aload_n 0, 1) := by decide +kernel
theorem dX10_load_25 : decode cX10_load 25 = .ok (.getfield 40, 3) := by decide +kernel
theorem dX10_load_28 : decode cX10_load 28 = .ok (.getfield 186, 3) := by decide +kernel
theorem dX10_load_31 : decode cX10_load 31 = .ok (.iconst 1, 1) := by decide +kernel
theorem dX10_load_32 : decode cX10_load 32 = .ok (.isub, 1) := by decide +kernel
theorem dX10_load_33 : decode cX10_load 33 = .ok (.goto 5, 3) := by decide +kernel
theorem dX10_load_36 : decode cX10_load 36 = .ok (.bipush (-2), 2) := by decide +kernel
theorem dX10_load_38 : decode cX10_load 38 = .ok (.ireturn, 1) := by decide +kernel
theorem dX10_unload_0 : decode cX10_unload 0 = .ok (.aload_n 0, 1) := by decide +kernel
theorem dX10_unload_1 : decode cX10_unload 1 = .ok (.getfield 40, 3) := by decide +kernel
theorem dX10_unload_4 : decode cX10_unload 4 = .ok (.getfield 186, 3) := by decide +kernel
theorem dX10_unload_7 : decode cX10_unload 7 = .ok (.istore_n 1, 1) := by decide +kernel
theorem dX10_unload_8 : decode cX10_unload 8 = .ok (.aload_n 0, 1) := by decide +kernel
theorem dX10_unload_9 : decode cX10_unload 9 = .ok (.getfield 40, 3) := by decide +kernel
theorem dX10_unload_12 : decode cX10_unload 12 = .ok (.iconst 0, 1) := by decide +kernel
theorem dX10_unload_13 : decode cX10_unload 13 = .ok (.putfield 186, 3) := by decide +kernel
theorem dX10_unload_16 : decode cX10_unload 16 = .ok (.iload_n 1, 1) := by decide +kernel
theorem dX10_unload_17 : decode cX10_unload 17 = .ok (.ireturn, 1) := by decide +kernel
theorem dX10_loads_0 : decode cX10_loads 0 = .ok (.iload_n 1, 1) := by decide +kernel
theorem dX10_loads_1 : decode cX10_loads 1 = .ok (.invokestatic 173, 3) := by decide +kernel
theorem dX10_loads_4 : decode cX10_loads 4 = .ok (.ifCond .ne 5, 3) := by decide +kernel
theorem dX10_loads_7 : decode cX10_loads 7 = .ok (.iconst (-1), 1) := by decide +kernel
theorem dX10_loads_8 : decode cX10_loads 8 = .ok (.ireturn, 1) := by decide +kernel
theorem dX10_loads_9 : decode cX10_loads 9 = .ok (.aload_n 0, 1) := by decide +kernel
theorem dX10_loads_10 : decode cX10_loads 10 = .ok (.invokevirtual 176, 3) := by decide +kernel
theorem dX10_loads_13 : decode cX10_loads 13 = .ok (.iconst 0, 1) := by decide +kernel
theorem dX10_loads_14 : decode cX10_loads 14 = .ok (.istore_n 2, 1) := by decide +kernel
theorem dX10_loads_15 : decode cX10_loads 15 = .ok (.iconst 0, 1) := by decide +kernel
theorem dX10_loads_16 : decode cX10_loads 16 = .ok (.istore_n 3, 1) := by decide +kernel
theorem dX10_loads_17 : decode cX10_loads 17 = .ok (.iload_n 3, 1) := by decide +kernel
theorem dX10_loads_18 : decode cX10_loads 18 = .ok (.aload_n 0, 1) := by decide +kernel
theorem dX10_loads_19 : decode cX10_loads 19 = .ok (.getfield 40, 3) := by decide +kernel
theorem dX10_loads_22 : decode cX10_loads 22 = .ok (.getfield 186, 3) := by decide +kernel
theorem dX10_loads_25 : decode cX10_loads 25 = .ok (.if_icmp .ge 60, 3) := by decide +kernel
theorem dX10_loads_28 : decode cX10_loads 28 = .ok (.iload_n 3, 1) := by decide +kernel
theorem dX10_loads_29 : decode cX10_loads 29 = .ok (.bipush 16, 2) := by decide +kernel
theorem dX10_loads_31 : decode cX10_loads 31 = .ok (.if_icmp .ge 54, 3) := by decide +kernel
theorem dX10_loads_34 : decode cX10_loads 34 = .ok (.aload_n 0, 1) := by decide +kernel
theorem dX10_loads_35 : decode cX10_loads 35 = .ok (.aload_n 0, 1) := by decide +kernel
theorem dX10_loads_36 : decode cX10_loads 36 = .ok (.getfield 40, 3) := by decide +kernel
theorem dX10_loads_39 : decode cX10_loads 39 = .ok (.getfield 189, 3) := by decide +kernel
theorem dX10_loads_42 : decode cX10_loads 42 = .ok (.iload_n 3, 1) := by decide +kernel
theorem dX10_loads_43 : decode cX10_loads 43 = .ok (.iaload, 1) := by decide +kernel
theorem dX10_loads_44 : decode cX10_loads 44 = .ok (.i2l, 1) := by decide +kernel
theorem dX10_loads_45 : decode cX10_loads 45 = .ok (.aload_n 0, 1) := by decide +kernel
theorem dX10_loads_46 : decode cX10_loads 46 = .ok (.getfield 40, 3) := by decide +kernel
theorem dX10_loads_49 : decode cX10_loads 49 = .ok (.getfield 193, 3) := by decide +kernel
theorem dX10_loads_52 : decode cX10_loads 52 = .ok (.iload_n 3, 1) := by decide +kernel
theorem dX10_loads_53 : decode cX10_loads 53 = .ok (.iaload, 1) := by decide +kernel
theorem dX10_loads_54 : decode cX10_loads 54 = .ok (.i2l, 1) := by decide +kernel
theorem dX10_loads_55 : decode cX10_loads 55 = .ok (.aload_n 0, 1) := by decide +kernel
theorem dX10_loads_56 : decode cX10_loads 56 = .ok (.getfield 40, 3) := by decide +kernel
theorem dX10_loads_59 : decode cX10_loads 59 = .ok (.getfield 196, 3) := by decide +kernel
theorem dX10_loads_62 : decode cX10_loads 62 = .ok (.iload_n 3, 1) := by decide +kernel
theorem dX10_loads_63 : decode cX10_loads 63 = .ok (.iaload, 1) := by decide +kernel
theorem dX10_loads_64 : decode cX10_loads 64 = .ok (.i2l, 1) := by decide +kernel
theorem dX10_loads_65 : decode cX10_loads 65 = .ok (.iload_n 1, 1) := by decide +kernel
theorem dX10_loads_66 : decode cX10_loads 66 = .ok (.i2l, 1) := by decide +kernel
theorem dX10_loads_67 : decode cX10_loads 67 = .ok (.invokevirtual 179, 3) := by decide +kernel
theorem dX10_loads_70 : decode cX10_loads 70 = .ok (.ifCond .eq 9, 3) := by decide +kernel
theorem dX10_loads_73 : decode cX10_loads 73 = .ok (.iload_n 2, 1) := by decide +kernel
theorem dX10_loads_74 : decode cX10_loads 74 = .ok (.iconst 1, 1) := by decide +kernel
theorem dX10_loads_75 : decode cX10_loads 75 = .ok (.iload_n 3, 1) := by decide +kernel
theorem dX10_loads_76 : decode cX10_loads 76 = .ok (.ishl, 1) := by decide +kernel
theorem dX10_loads_77 : decode cX10_loads 77 = .ok (.ior, 1) := by decide +kernel
theorem dX10_loads_78 : decode cX10_loads 78 = .ok (.istore_n 2, 1) := by decide +kernel
theorem dX10_loads_79 : decode cX10_loads 79 = .ok (.iinc 3 1, 3) := by decide +kernel
theorem dX10_loads_82 : decode cX10_loads 82 = .ok (.goto (-65), 3) := by decide +kernel
theorem dX10_loads_85 : decode cX10_loads 85 = .ok (.iload_n 2, 1) := by decide +kernel
theorem dX10_loads_86 : decode cX10_loads 86 = .ok (.ireturn, 1) := by decide +kernel
theorem dX10_pull_0 : decode cX10_pull 0 = .ok (.aload_n 0, 1) := by decide +kernel
theorem dX10_pull_1 : decode cX10_pull 1 = .ok (.invokevirtual 176, 3) := by decide +kernel
theorem dX10_pull_4 : decode cX10_pull 4 = .ok (.aload_n 0, 1) := by decide +kernel
theorem dX10_pull_5 : decode cX10_pull 5 = .ok (.getfield 40, 3) := by decide +kernel
theorem dX10_pull_8 : decode cX10_pull 8 = .ok (.aload_n 0, 1) := by decide +kernel
theorem dX10_pull_9 : decode cX10_pull 9 = .ok (.getfield 26, 3) := by decide +kernel
theorem dX10_pull_12 : decode cX10_pull 12 = .ok (.aload_n 0, 1) := by decide +kernel
theorem dX10_pull_13 : decode cX10_pull 13 = .ok (.getfield 29, 3) := by decide +kernel
theorem dX10_pull_16 : decode cX10_pull 16 = .ok (.invokevirtual 199, 3) := by decide +kernel
theorem dX10_pull_19 : decode cX10_pull 19 = .ok (.istore_n 1, 1) := by decide +kernel
theorem dX10_pull_20 : decode cX10_pull 20 = .ok (.iload_n 1, 1) := by decide +kernel
theorem dX10_pull_21 : decode cX10_pull 21 = .ok (.ifCond .ge 8, 3) := by decide +kernel
theorem dX10_pull_24 : decode cX10_pull 24 = .ok (.bipush (-4), 2) := by decide +kernel
theorem dX10_pull_26 : decode cX10_pull 26 = .ok (.goto 4, 3) := by decide +kernel
theorem dX10_pull_29 : decode cX10_pull 29 = .ok (.iload_n 1, 1) := by decide +kernel
theorem dX10_pull_30 : decode cX10_pull 30 = .ok (.ireturn, 1) := by decide +kernel
theorem dX10_worst_0 : decode cX10_worst 0 = .ok (.iload_n 1, 1) := by decide +kernel
theorem dX10_worst_1 : decode cX10_worst 1 = .ok (.iload_n 2, 1) := by decide +kernel
theorem dX10_worst_2 : decode cX10_worst 2 = .ok (.invokestatic 72, 3) := by decide +kernel
theorem dX10_worst_5 : decode cX10_worst 5 = .ok (.ifCond .eq 23, 3) := by decide +kernel
theorem dX10_worst_8 : decode cX10_worst 8 = .ok (.iload_n 3, 1) := by decide +kernel
theorem dX10_worst_9 : decode cX10_worst 9 = .ok (.invokestatic 76, 3) := by decide +kernel
theorem dX10_worst_12 : decode cX10_worst 12 = .ok (.ifCond .eq 16, 3) := by decide +kernel
theorem dX10_worst_15 : decode cX10_worst 15 = .ok (.iload 4, 2) := by decide +kernel
theorem dX10_worst_17 : decode cX10_worst 17 = .ok (.ifCond .lt 11, 3) := by decide +kernel
theorem dX10_worst_20 : decode cX10_worst 20 = .ok (.iload 4, 2) := by decide +kernel
theorem dX10_worst_22 : decode cX10_worst 22 = .ok (.sipush 999, 3) := by decide +kernel
theorem dX10_worst_25 : decode cX10_worst 25 = .ok (.if_icmp .le 13, 3) := by decide +kernel
theorem dX10_worst_28 : decode cX10_worst 28 = .ok (.new 123, 3) := by decide +kernel
theorem dX10_worst_31 : decode cX10_worst 31 = .ok (.dup, 1) := by decide +kernel
theorem dX10_worst_32 : decode cX10_worst 32 = .ok (.ldc 203, 2) := by decide +kernel
theorem dX10_worst_34 : decode cX10_worst 34 = .ok (.invokespecial 127, 3) := by decide +kernel
theorem dX10_worst_37 : decode cX10_worst 37 = .ok (.athrow, 1) := by decide +kernel
theorem dX10_worst_38 : decode cX10_worst 38 = .ok (.aload_n 0, 1) := by decide +kernel
theorem dX10_worst_39 : decode cX10_worst 39 = .ok (.iload 4, 2) := by decide +kernel
theorem dX10_worst_41 : decode cX10_worst 41 = .ok (.bipush 10, 2) := by decide +kernel
theorem dX10_worst_43 : decode cX10_worst 43 = .ok (.irem, 1) := by decide +kernel
theorem dX10_worst_44 : decode cX10_worst 44 = .ok (.invokevirtual 205, 3) := by decide +kernel
theorem dX10_worst_47 : decode cX10_worst 47 = .ok (.astore 6, 2) := by decide +kernel
theorem dX10_worst_49 : decode cX10_worst 49 = .ok (.aload_n 0, 1) := by decide +kernel
theorem dX10_worst_50 : decode cX10_worst 50 = .ok (.iload 4, 2) := by decide +kernel
theorem dX10_worst_52 : decode cX10_worst 52 = .ok (.bipush 10, 2) := by decide +kernel
theorem dX10_worst_54 : decode cX10_worst 54 = .ok (.idiv, 1) := by decide +kernel
theorem dX10_worst_55 : decode cX10_worst 55 = .ok (.bipush 10, 2) := by decide +kernel
theorem dX10_worst_57 : decode cX10_worst 57 = .ok (.irem, 1) := by decide +kernel
theorem dX10_worst_58 : decode cX10_worst 58 = .ok (.invokevirtual 205, 3) := by decide +kernel
theorem dX10_worst_61 : decode cX10_worst 61 = .ok (.astore 7, 2) := by decide +kernel
theorem dX10_worst_63 : decode cX10_worst 63 = .ok (.aload_n 0, 1) := by decide +kernel
theorem dX10_worst_64 : decode cX10_worst 64 = .ok (.iload 4, 2) := by decide +kernel
theorem dX10_worst_66 : decode cX10_worst 66 = .ok (.bipush 100, 2) := by decide +kernel
theorem dX10_worst_68 : decode cX10_worst 68 = .ok (.idiv, 1) := by decide +kernel
theorem dX10_worst_69 : decode cX10_worst 69 = .ok (.invokevirtual 205, 3) := by decide +kernel
theorem dX10_worst_72 : decode cX10_worst 72 = .ok (.astore 8, 2) := by decide +kernel
theorem dX10_worst_74 : decode cX10_worst 74 = .ok (.aload 6, 2) := by decide +kernel
theorem dX10_worst_76 : decode cX10_worst 76 = .ok (.ifnull 34, 3) := by decide +kernel
theorem dX10_worst_79 : decode cX10_worst 79 = .ok (.aload 7, 2) := by decide +kernel
theorem dX10_worst_81 : decode cX10_worst 81 = .ok (.ifnull 29, 3) := by decide +kernel
theorem dX10_worst_84 : decode cX10_worst 84 = .ok (.aload 8, 2) := by decide +kernel
theorem dX10_worst_86 : decode cX10_worst 86 = .ok (.ifnull 24, 3) := by decide +kernel
theorem dX10_worst_89 : decode cX10_worst 89 = .ok (.aload 6, 2) := by decide +kernel
theorem dX10_worst_91 : decode cX10_worst 91 = .ok (.aload 7, 2) := by decide +kernel
theorem dX10_worst_93 : decode cX10_worst 93 = .ok (.if_acmp .eq 17, 3) := by decide +kernel
theorem dX10_worst_96 : decode cX10_worst 96 = .ok (.aload 6, 2) := by decide +kernel
theorem dX10_worst_98 : decode cX10_worst 98 = .ok (.aload 8, 2) := by decide +kernel
theorem dX10_worst_100 : decode cX10_worst 100 = .ok (.if_acmp .eq 10, 3) := by decide +kernel
theorem dX10_worst_103 : decode cX10_worst 103 = .ok (.aload 7, 2) := by decide +kernel
theorem dX10_worst_105 : decode cX10_worst 105 = .ok (.aload 8, 2) := by decide +kernel
theorem dX10_worst_107 : decode cX10_worst 107 = .ok (.if_acmp .ne 13, 3) := by decide +kernel
theorem dX10_worst_110 : decode cX10_worst 110 = .ok (.new 123, 3) := by decide +kernel
theorem dX10_worst_113 : decode cX10_worst 113 = .ok (.dup, 1) := by decide +kernel
theorem dX10_worst_114 : decode cX10_worst 114 = .ok (.ldc 208, 2) := by decide +kernel
theorem dX10_worst_116 : decode cX10_worst 116 = .ok (.invokespecial 127, 3) := by decide +kernel
theorem dX10_worst_119 : decode cX10_worst 119 = .ok (.athrow, 1) := by decide +kernel
theorem dX10_worst_120 : decode cX10_worst 120 = .ok (.aload_n 0, 1) := by decide +kernel
theorem dX10_worst_121 : decode cX10_worst 121 = .ok (.getfield 47, 3) := by decide +kernel
theorem dX10_worst_124 : decode cX10_worst 124 = .ok (.iload_n 1, 1) := by decide +kernel
theorem dX10_worst_125 : decode cX10_worst 125 = .ok (.iload_n 2, 1) := by decide +kernel
theorem dX10_worst_126 : decode cX10_worst 126 = .ok (.iload_n 3, 1) := by decide +kernel
theorem dX10_worst_127 : decode cX10_worst 127 = .ok (.invokevirtual 210, 3) := by decide +kernel
theorem dX10_worst_130 : decode cX10_worst 130 = .ok (.aload_n 0, 1) := by decide +kernel
theorem dX10_worst_131 : decode cX10_worst 131 = .ok (.getfield 47, 3) := by decide +kernel
theorem dX10_worst_134 : decode cX10_worst 134 = .ok (.aload 6, 2) := by decide +kernel
theorem dX10_worst_136 : decode cX10_worst 136 = .ok (.aload 7, 2) := by decide +kernel
theorem dX10_worst_138 : decode cX10_worst 138 = .ok (.aload 8, 2) := by decide +kernel
theorem dX10_worst_140 : decode cX10_worst 140 = .ok (.invokevirtual 214, 3) := by decide +kernel
theorem dX10_worst_143 : decode cX10_worst 143 = .ok (.ifCond .ne 13, 3) := by decide +kernel
theorem dX10_worst_146 : decode cX10_worst 146 = .ok (.new 148, 3) := by decide +kernel
theorem dX10_worst_149 : decode cX10_worst 149 = .ok (.dup, 1) := by decide +kernel
theorem dX10_worst_150 : decode cX10_worst 150 = .ok (.ldc 218, 2) := by decide +kernel
theorem dX10_worst_152 : decode cX10_worst 152 = .ok (.invokespecial 152, 3) := by decide +kernel
theorem dX10_worst_155 : decode cX10_worst 155 = .ok (.athrow, 1) := by decide +kernel
theorem dX10_worst_156 : decode cX10_worst 156 = .ok (.aload_n 0, 1) := by decide +kernel
theorem dX10_worst_157 : decode cX10_worst 157 = .ok (.getfield 47, 3) := by decide +kernel
theorem dX10_worst_160 : decode cX10_worst 160 = .ok (.getfield 220, 3) := by decide +kernel
theorem dX10_worst_163 : decode cX10_worst 163 = .ok (.aload_n 0, 1) := by decide +kernel
theorem dX10_worst_164 : decode cX10_worst 164 = .ok (.getfield 47, 3) := by decide +kernel
theorem dX10_worst_167 : decode cX10_worst 167 = .ok (.getfield 223, 3) := by decide +kernel
theorem dX10_worst_170 : decode cX10_worst 170 = .ok (.invokestatic 226, 3) := by decide +kernel
theorem dX10_worst_173 : decode cX10_worst 173 = .ok (.lstore 9, 2) := by decide +kernel
theorem dX10_worst_175 : decode cX10_worst 175 = .ok (.lload 9, 2) := by decide +kernel
theorem dX10_worst_177 : decode cX10_worst 177 = .ok (.lconst 0, 1) := by decide +kernel
theorem dX10_worst_178 : decode cX10_worst 178 = .ok (.lcmp, 1) := by decide +kernel
theorem dX10_worst_179 : decode cX10_worst 179 = .ok (.ifCond .ne 5, 3) := by decide +kernel
theorem dX10_worst_182 : decode cX10_worst 182 = .ok (.lconst 0, 1) := by decide +kernel
theorem dX10_worst_183 : decode cX10_worst 183 = .ok (.lreturn, 1) := by decide +kernel
theorem dX10_worst_184 : decode cX10_worst 184 = .ok (.iload 5, 2) := by decide +kernel
theorem dX10_worst_186 : decode cX10_worst 186 = .ok (.ifCond .eq 13, 3) := by decide +kernel
theorem dX10_worst_189 : decode cX10_worst 189 = .ok (.aload_n 0, 1) := by decide +kernel
theorem dX10_worst_190 : decode cX10_worst 190 = .ok (.getfield 47, 3) := by decide +kernel
theorem dX10_worst_193 : decode cX10_worst 193 = .ok (.getfield 223, 3) := by decide +kernel
theorem dX10_worst_196 : decode cX10_worst 196 = .ok (.goto 10, 3) := by decide +kernel
theorem dX10_worst_199 : decode cX10_worst 199 = .ok (.aload_n 0, 1) := by decide +kernel
theorem dX10_worst_200 : decode cX10_worst 200 = .ok (.getfield 47, 3) := by decide +kernel
theorem dX10_worst_203 : decode cX10_worst 203 = .ok (.getfield 220, 3) := by decide +kernel
theorem dX10_worst_206 : decode cX10_worst 206 = .ok (.lload 9, 2) := by decide +kernel
theorem dX10_worst_208 : decode cX10_worst 208 = .ok (.ldiv, 1) := by decide +kernel
theorem dX10_worst_209 : decode cX10_worst 209 = .ok (.lreturn, 1) := by decide +kernel
theorem dX10_best_0 : decode cX10_best 0 = .ok (.iload_n 1, 1) := by decide +kernel
theorem dX10_best_1 : decode cX10_best 1 = .ok (.iload_n 2, 1) := by decide +kernel
theorem dX10_best_2 : decode cX10_best 2 = .ok (.invokestatic 72, 3) := by decide +kernel
theorem dX10_best_5 : decode cX10_best 5 = .ok (.ifCond .eq 10, 3) := by decide +kernel
theorem dX10_best_8 : decode cX10_best 8 = .ok (.iload_n 3, 1) := by decide +kernel
theorem dX10_best_9 : decode cX10_best 9 = .ok (.invokestatic 76, 3) := by decide +kernel
theorem dX10_best_12 : decode cX10_best 12 = .ok (.ifCond .ne 5, 3) := by decide +kernel
theorem dX10_best_15 : decode cX10_best 15 = .ok (.iconst (-1), 1) := by decide +kernel
theorem dX10_best_16 : decode cX10_best 16 = .ok (.ireturn, 1) := by decide +kernel
theorem dX10_best_17 : decode cX10_best 17 = .ok (.aload_n 0, 1) := by decide +kernel
theorem dX10_best_18 : decode cX10_best 18 = .ok (.getfield 47, 3) := by decide +kernel
theorem dX10_best_21 : decode cX10_best 21 = .ok (.iload_n 1, 1) := by decide +kernel
theorem dX10_best_22 : decode cX10_best 22 = .ok (.iload_n 2, 1) := by decide +kernel
theorem dX10_best_23 : decode cX10_best 23 = .ok (.iload_n 3, 1) := by decide +kernel
theorem dX10_best_24 : decode cX10_best 24 = .ok (.invokevirtual 210, 3) := by decide +kernel
theorem dX10_best_27 : decode cX10_best 27 = .ok (.aload_n 0, 1) := by decide +kernel
theorem dX10_best_28 : decode cX10_best 28 = .ok (.getfield 47, 3) := by decide +kernel
theorem dX10_best_31 : decode cX10_best 31 = .ok (.invokevirtual 230, 3) := by decide +kernel
theorem dX10_best_34 : decode cX10_best 34 = .ok (.iconst 0, 1) := by decide +kernel
theorem dX10_best_35 : decode cX10_best 35 = .ok (.istore 4, 2) := by decide +kernel
theorem dX10_best_37 : decode cX10_best 37 = .ok (.iload 4, 2) := by decide +kernel
theorem dX10_best_39 : decode cX10_best 39 = .ok (.aload_n 0, 1) := by decide +kernel
theorem dX10_best_40 : decode cX10_best 40 = .ok (.getfield 15, 3) := by decide +kernel
theorem dX10_best_43 : decode cX10_best 43 = .ok (.if_icmp .ge 61, 3) := by decide +kernel
theorem dX10_best_46 : decode cX10_best 46 = .ok (.iload 4, 2) := by decide +kernel
theorem dX10_best_48 : decode cX10_best 48 = .ok (.iconst 1, 1) := by decide +kernel
theorem dX10_best_49 : decode cX10_best 49 = .ok (.iadd, 1) := by decide +kernel
theorem dX10_best_50 : decode cX10_best 50 = .ok (.istore 5, 2) := by decide +kernel
theorem dX10_best_52 : decode cX10_best 52 = .ok (.iload 5, 2) := by decide +kernel
theorem dX10_best_54 : decode cX10_best 54 = .ok (.aload_n 0, 1) := by decide +kernel
theorem dX10_best_55 : decode cX10_best 55 = .ok (.getfield 15, 3) := by decide +kernel
theorem dX10_best_58 : decode cX10_best 58 = .ok (.if_icmp .ge 40, 3) := by decide +kernel
theorem dX10_best_61 : decode cX10_best 61 = .ok (.iload 5, 2) := by decide +kernel
theorem dX10_best_63 : decode cX10_best 63 = .ok (.iconst 1, 1) := by decide +kernel
theorem dX10_best_64 : decode cX10_best 64 = .ok (.iadd, 1) := by decide +kernel
theorem dX10_best_65 : decode cX10_best 65 = .ok (.istore 6, 2) := by decide +kernel
theorem dX10_best_67 : decode cX10_best 67 = .ok (.iload 6, 2) := by decide +kernel
theorem dX10_best_69 : decode cX10_best 69 = .ok (.aload_n 0, 1) := by decide +kernel
theorem dX10_best_70 : decode cX10_best 70 = .ok (.getfield 15, 3) := by decide +kernel
theorem dX10_best_73 : decode cX10_best 73 = .ok (.if_icmp .ge 19, 3) := by decide +kernel
theorem dX10_best_76 : decode cX10_best 76 = .ok (.aload_n 0, 1) := by decide +kernel
theorem dX10_best_77 : decode cX10_best 77 = .ok (.iload 4, 2) := by decide +kernel
theorem dX10_best_79 : decode cX10_best 79 = .ok (.iload 5, 2) := by decide +kernel
theorem dX10_best_81 : decode cX10_best 81 = .ok (.iload 6, 2) := by decide +kernel
theorem dX10_best_83 : decode cX10_best 83 = .ok (.invokevirtual 233, 3) := by decide +kernel
theorem dX10_best_86 : decode cX10_best 86 = .ok (.iinc 6 1, 3) := by decide +kernel
theorem dX10_best_89 : decode cX10_best 89 = .ok (.goto (-22), 3) := by decide +kernel
theorem dX10_best_92 : decode cX10_best 92 = .ok (.iinc 5 1, 3) := by decide +kernel
theorem dX10_best_95 : decode cX10_best 95 = .ok (.goto (-43), 3) := by decide +kernel
theorem dX10_best_98 : decode cX10_best 98 = .ok (.iinc 4 1, 3) := by decide +kernel
theorem dX10_best_101 : decode cX10_best 101 = .ok (.goto (-64), 3) := by decide +kernel
theorem dX10_best_104 : decode cX10_best 104 = .ok (.aload_n 0, 1) := by decide +kernel
theorem dX10_best_105 : decode cX10_best 105 = .ok (.getfield 47, 3) := by decide +kernel
theorem dX10_best_108 : decode cX10_best 108 = .ok (.getfield 236, 3) := by decide +kernel
theorem dX10_best_111 : decode cX10_best 111 = .ok (.ifCond .ge 8, 3) := by decide +kernel
theorem dX10_best_114 : decode cX10_best 114 = .ok (.bipush (-4), 2) := by decide +kernel
theorem dX10_best_116 : decode cX10_best 116 = .ok (.goto 10, 3) := by decide +kernel
theorem dX10_best_119 : decode cX10_best 119 = .ok (.aload_n 0, 1) := by decide +kernel
theorem dX10_best_120 : decode cX10_best 120 = .ok (.getfield 47, 3) := by decide +kernel
theorem dX10_best_123 : decode cX10_best 123 = .ok (.getfield 236, 3) := by decide +kernel
theorem dX10_best_126 : decode cX10_best 126 = .ok (.ireturn, 1) := by decide +kernel
theorem dX10_step_0 : decode cX10_step 0 = .ok (.iload_n 1, 1) := by decide +kernel
theorem dX10_step_1 : decode cX10_step 1 = .ok (.iconst 1, 1) := by decide +kernel
theorem dX10_step_2 : decode cX10_step 2 = .ok (.if_icmp .lt 26, 3) := by decide +kernel
theorem dX10_step_5 : decode cX10_step 5 = .ok (.iload_n 1, 1) := by decide +kernel
theorem dX10_step_6 : decode cX10_step 6 = .ok (.bipush 64, 2) := by decide +kernel
theorem dX10_step_8 : decode cX10_step 8 = .ok (.if_icmp .ge 20, 3) := by decide +kernel
theorem dX10_step_11 : decode cX10_step 11 = .ok (.iload_n 2, 1) := by decide +kernel
theorem dX10_step_12 : decode cX10_step 12 = .ok (.ifCond .lt 16, 3) := by decide +kernel
theorem dX10_step_15 : decode cX10_step 15 = .ok (.iload_n 2, 1) := by decide +kernel
theorem dX10_step_16 : decode cX10_step 16 = .ok (.iconst 1, 1) := by decide +kernel
theorem dX10_step_17 : decode cX10_step 17 = .ok (.aload_n 0, 1) := by decide +kernel
theorem dX10_step_18 : decode cX10_step 18 = .ok (.getfield 54, 3) := by decide +kernel
theorem dX10_step_21 : decode cX10_step 21 = .ok (.getfield 239, 3) := by decide +kernel
theorem dX10_step_24 : decode cX10_step 24 = .ok (.ishl, 1) := by decide +kernel
end
section
theorem dX10_step_25 : decode cX10_step 25 = .ok (.if_icmp .lt 5, 3) := by decide +kernel
theorem dX10_step_28 : decode cX10_step 28 = .ok (.iconst (-1), 1) := by decide +kernel
theorem dX10_step_29 : decode cX10_step 29 = .ok (.ireturn, 1) := by decide +kernel
theorem dX10_step_30 : decode cX10_step 30 = .ok (.aload_n 0, 1) := by decide +kernel
theorem dX10_step_31 : decode cX10_step 31 = .ok (.getfield 54, 3) := by decide +kernel
theorem dX10_step_34 : decode cX10_step 34 = .ok (.iload_n 1, 1) := by decide +kernel
theorem dX10_step_35 : decode cX10_step 35 = .ok (.iload_n 2, 1) := by decide +kernel
theorem dX10_step_36 : decode cX10_step 36 = .ok (.invokevirtual 240, 3) := by decide +kernel
theorem dX10_step_39 : decode cX10_step 39 = .ok (.ifCond .eq 15, 3) := by decide +kernel
theorem dX10_step_42 : decode cX10_step 42 = .ok (.aload_n 0, 1) := by decide +kernel
theorem dX10_step_43 : decode cX10_step 43 = .ok (.getfield 54, 3) := by decide +kernel
theorem dX10_step_46 : decode cX10_step 46 = .ok (.getfield 239, 3) := by decide +kernel
theorem dX10_step_49 : decode cX10_step 49 = .ok (.iconst 1, 1) := by decide +kernel
theorem dX10_step_50 : decode cX10_step 50 = .ok (.isub, 1) := by decide +kernel
theorem dX10_step_51 : decode cX10_step 51 = .ok (.goto 5, 3) := by decide +kernel
theorem dX10_step_54 : decode cX10_step 54 = .ok (.bipush (-2), 2) := by decide +kernel
theorem dX10_step_56 : decode cX10_step 56 = .ok (.ireturn, 1) := by decide +kernel
theorem dX10_setups_0 : decode cX10_setups 0 = .ok (.aload_n 0, 1) := by decide +kernel
theorem dX10_setups_1 : decode cX10_setups 1 = .ok (.getfield 54, 3) := by decide +kernel
theorem dX10_setups_4 : decode cX10_setups 4 = .ok (.invokevirtual 242, 3) := by decide +kernel
theorem dX10_setups_7 : decode cX10_setups 7 = .ok (.aload_n 0, 1) := by decide +kernel
theorem dX10_setups_8 : decode cX10_setups 8 = .ok (.getfield 54, 3) := by decide +kernel
theorem dX10_setups_11 : decode cX10_setups 11 = .ok (.getfield 245, 3) := by decide +kernel
theorem dX10_setups_14 : decode cX10_setups 14 = .ok (.ireturn, 1) := by decide +kernel
theorem dX10_setup_0 : decode cX10_setup 0 = .ok (.iload_n 1, 1) := by decide +kernel
theorem dX10_setup_1 : decode cX10_setup 1 = .ok (.ifCond .lt 12, 3) := by decide +kernel
theorem dX10_setup_4 : decode cX10_setup 4 = .ok (.iload_n 2, 1) := by decide +kernel
theorem dX10_setup_5 : decode cX10_setup 5 = .ok (.ifCond .lt 8, 3) := by decide +kernel
theorem dX10_setup_8 : decode cX10_setup 8 = .ok (.iload_n 2, 1) := by decide +kernel
theorem dX10_setup_9 : decode cX10_setup 9 = .ok (.iconst 1, 1) := by decide +kernel
theorem dX10_setup_10 : decode cX10_setup 10 = .ok (.if_icmp .le 5, 3) := by decide +kernel
theorem dX10_setup_13 : decode cX10_setup 13 = .ok (.iconst (-1), 1) := by decide +kernel
theorem dX10_setup_14 : decode cX10_setup 14 = .ok (.ireturn, 1) := by decide +kernel
theorem dX10_setup_15 : decode cX10_setup 15 = .ok (.aload_n 0, 1) := by decide +kernel
theorem dX10_setup_16 : decode cX10_setup 16 = .ok (.getfield 54, 3) := by decide +kernel
theorem dX10_setup_19 : decode cX10_setup 19 = .ok (.invokevirtual 242, 3) := by decide +kernel
theorem dX10_setup_22 : decode cX10_setup 22 = .ok (.iload_n 1, 1) := by decide +kernel
theorem dX10_setup_23 : decode cX10_setup 23 = .ok (.aload_n 0, 1) := by decide +kernel
theorem dX10_setup_24 : decode cX10_setup 24 = .ok (.getfield 54, 3) := by decide +kernel
theorem dX10_setup_27 : decode cX10_setup 27 = .ok (.getfield 245, 3) := by decide +kernel
theorem dX10_setup_30 : decode cX10_setup 30 = .ok (.if_icmp .ge 9, 3) := by decide +kernel
theorem dX10_setup_33 : decode cX10_setup 33 = .ok (.iload_n 1, 1) := by decide +kernel
theorem dX10_setup_34 : decode cX10_setup 34 = .ok (.bipush 12, 2) := by decide +kernel
theorem dX10_setup_36 : decode cX10_setup 36 = .ok (.if_icmp .lt 6, 3) := by decide +kernel
theorem dX10_setup_39 : decode cX10_setup 39 = .ok (.bipush (-3), 2) := by decide +kernel
theorem dX10_setup_41 : decode cX10_setup 41 = .ok (.ireturn, 1) := by decide +kernel
theorem dX10_setup_42 : decode cX10_setup 42 = .ok (.iload_n 2, 1) := by decide +kernel
theorem dX10_setup_43 : decode cX10_setup 43 = .ok (.ifCond .ne 15, 3) := by decide +kernel
theorem dX10_setup_46 : decode cX10_setup 46 = .ok (.aload_n 0, 1) := by decide +kernel
theorem dX10_setup_47 : decode cX10_setup 47 = .ok (.getfield 54, 3) := by decide +kernel
theorem dX10_setup_50 : decode cX10_setup 50 = .ok (.getfield 248, 3) := by decide +kernel
theorem dX10_setup_53 : decode cX10_setup 53 = .ok (.iload_n 1, 1) := by decide +kernel
theorem dX10_setup_54 : decode cX10_setup 54 = .ok (.iaload, 1) := by decide +kernel
theorem dX10_setup_55 : decode cX10_setup 55 = .ok (.goto 12, 3) := by decide +kernel
theorem dX10_setup_58 : decode cX10_setup 58 = .ok (.aload_n 0, 1) := by decide +kernel
theorem dX10_setup_59 : decode cX10_setup 59 = .ok (.getfield 54, 3) := by decide +kernel
theorem dX10_setup_62 : decode cX10_setup 62 = .ok (.getfield 251, 3) := by decide +kernel
theorem dX10_setup_65 : decode cX10_setup 65 = .ok (.iload_n 1, 1) := by decide +kernel
theorem dX10_setup_66 : decode cX10_setup 66 = .ok (.iaload, 1) := by decide +kernel
theorem dX10_setup_67 : decode cX10_setup 67 = .ok (.ireturn, 1) := by decide +kernel
theorem dX10_told_0 : decode cX10_told 0 = .ok (.iload_n 1, 1) := by decide +kernel
theorem dX10_told_1 : decode cX10_told 1 = .ok (.ifCond .lt 14, 3) := by decide +kernel
theorem dX10_told_4 : decode cX10_told 4 = .ok (.iload_n 2, 1) := by decide +kernel
theorem dX10_told_5 : decode cX10_told 5 = .ok (.iconst 1, 1) := by decide +kernel
theorem dX10_told_6 : decode cX10_told 6 = .ok (.if_icmp .lt 9, 3) := by decide +kernel
theorem dX10_told_9 : decode cX10_told 9 = .ok (.iload_n 2, 1) := by decide +kernel
theorem dX10_told_10 : decode cX10_told 10 = .ok (.bipush 10, 2) := by decide +kernel
theorem dX10_told_12 : decode cX10_told 12 = .ok (.if_icmp .le 5, 3) := by decide +kernel
theorem dX10_told_15 : decode cX10_told 15 = .ok (.iconst (-1), 1) := by decide +kernel
theorem dX10_told_16 : decode cX10_told 16 = .ok (.ireturn, 1) := by decide +kernel
theorem dX10_told_17 : decode cX10_told 17 = .ok (.iload_n 1, 1) := by decide +kernel
theorem dX10_told_18 : decode cX10_told 18 = .ok (.istore_n 3, 1) := by decide +kernel
theorem dX10_told_19 : decode cX10_told 19 = .ok (.iconst 0, 1) := by decide +kernel
theorem dX10_told_20 : decode cX10_told 20 = .ok (.istore 4, 2) := by decide +kernel
theorem dX10_told_22 : decode cX10_told 22 = .ok (.iload 4, 2) := by decide +kernel
theorem dX10_told_24 : decode cX10_told 24 = .ok (.iload_n 2, 1) := by decide +kernel
theorem dX10_told_25 : decode cX10_told 25 = .ok (.if_icmp .ge 14, 3) := by decide +kernel
theorem dX10_told_28 : decode cX10_told 28 = .ok (.iload_n 3, 1) := by decide +kernel
theorem dX10_told_29 : decode cX10_told 29 = .ok (.bipush 6, 2) := by decide +kernel
theorem dX10_told_31 : decode cX10_told 31 = .ok (.idiv, 1) := by decide +kernel
theorem dX10_told_32 : decode cX10_told 32 = .ok (.istore_n 3, 1) := by decide +kernel
theorem dX10_told_33 : decode cX10_told 33 = .ok (.iinc 4 1, 3) := by decide +kernel
theorem dX10_told_36 : decode cX10_told 36 = .ok (.goto (-14), 3) := by decide +kernel
theorem dX10_told_39 : decode cX10_told 39 = .ok (.iload_n 3, 1) := by decide +kernel
theorem dX10_told_40 : decode cX10_told 40 = .ok (.ifCond .eq 5, 3) := by decide +kernel
theorem dX10_told_43 : decode cX10_told 43 = .ok (.iconst (-1), 1) := by decide +kernel
theorem dX10_told_44 : decode cX10_told 44 = .ok (.ireturn, 1) := by decide +kernel
theorem dX10_told_45 : decode cX10_told 45 = .ok (.aload_n 0, 1) := by decide +kernel
theorem dX10_told_46 : decode cX10_told 46 = .ok (.getfield 54, 3) := by decide +kernel
theorem dX10_told_49 : decode cX10_told 49 = .ok (.iload_n 1, 1) := by decide +kernel
theorem dX10_told_50 : decode cX10_told 50 = .ok (.iload_n 2, 1) := by decide +kernel
theorem dX10_told_51 : decode cX10_told 51 = .ok (.invokevirtual 254, 3) := by decide +kernel
theorem dX10_told_54 : decode cX10_told 54 = .ok (.istore 4, 2) := by decide +kernel
theorem dX10_told_56 : decode cX10_told 56 = .ok (.iload 4, 2) := by decide +kernel
theorem dX10_told_58 : decode cX10_told 58 = .ok (.ifCond .ge 8, 3) := by decide +kernel
theorem dX10_told_61 : decode cX10_told 61 = .ok (.bipush (-4), 2) := by decide +kernel
theorem dX10_told_63 : decode cX10_told 63 = .ok (.goto 5, 3) := by decide +kernel
theorem dX10_told_66 : decode cX10_told 66 = .ok (.iload 4, 2) := by decide +kernel
theorem dX10_told_68 : decode cX10_told 68 = .ok (.ireturn, 1) := by decide +kernel
theorem dX10_point_0 : decode cX10_point 0 = .ok (.iload_n 1, 1) := by decide +kernel
theorem dX10_point_1 : decode cX10_point 1 = .ok (.sipush 200, 3) := by decide +kernel
theorem dX10_point_4 : decode cX10_point 4 = .ok (.invokestatic 258, 3) := by decide +kernel
theorem dX10_point_7 : decode cX10_point 7 = .ok (.ifCond .eq 13, 3) := by decide +kernel
theorem dX10_point_10 : decode cX10_point 10 = .ok (.iload_n 2, 1) := by decide +kernel
theorem dX10_point_11 : decode cX10_point 11 = .ok (.sipush 200, 3) := by decide +kernel
theorem dX10_point_14 : decode cX10_point 14 = .ok (.invokestatic 258, 3) := by decide +kernel
theorem dX10_point_17 : decode cX10_point 17 = .ok (.ifCond .ne 5, 3) := by decide +kernel
theorem dX10_point_20 : decode cX10_point 20 = .ok (.iconst (-1), 1) := by decide +kernel
theorem dX10_point_21 : decode cX10_point 21 = .ok (.ireturn, 1) := by decide +kernel
theorem dX10_point_22 : decode cX10_point 22 = .ok (.aload_n 0, 1) := by decide +kernel
theorem dX10_point_23 : decode cX10_point 23 = .ok (.getfield 61, 3) := by decide +kernel
theorem dX10_point_26 : decode cX10_point 26 = .ok (.iload_n 1, 1) := by decide +kernel
theorem dX10_point_27 : decode cX10_point 27 = .ok (.iload_n 2, 1) := by decide +kernel
theorem dX10_point_28 : decode cX10_point 28 = .ok (.invokevirtual 261, 3) := by decide +kernel
theorem dX10_point_31 : decode cX10_point 31 = .ok (.ifCond .eq 13, 3) := by decide +kernel
theorem dX10_point_34 : decode cX10_point 34 = .ok (.aload_n 0, 1) := by decide +kernel
theorem dX10_point_35 : decode cX10_point 35 = .ok (.getfield 61, 3) := by decide +kernel
theorem dX10_point_38 : decode cX10_point 38 = .ok (.getfield 262, 3) := by decide +kernel
theorem dX10_point_41 : decode cX10_point 41 = .ok (.goto 5, 3) := by decide +kernel
theorem dX10_point_44 : decode cX10_point 44 = .ok (.bipush (-2), 2) := by decide +kernel
theorem dX10_point_46 : decode cX10_point 46 = .ok (.ireturn, 1) := by decide +kernel
theorem dX10_tool_0 : decode cX10_tool 0 = .ok (.iload_n 1, 1) := by decide +kernel
theorem dX10_tool_1 : decode cX10_tool 1 = .ok (.ifCond .lt 9, 3) := by decide +kernel
theorem dX10_tool_4 : decode cX10_tool 4 = .ok (.iload_n 1, 1) := by decide +kernel
theorem dX10_tool_5 : decode cX10_tool 5 = .ok (.bipush 20, 2) := by decide +kernel
theorem dX10_tool_7 : decode cX10_tool 7 = .ok (.if_icmp .le 5, 3) := by decide +kernel
theorem dX10_tool_10 : decode cX10_tool 10 = .ok (.iconst (-1), 1) := by decide +kernel
theorem dX10_tool_11 : decode cX10_tool 11 = .ok (.ireturn, 1) := by decide +kernel
theorem dX10_tool_12 : decode cX10_tool 12 = .ok (.aload_n 0, 1) := by decide +kernel
theorem dX10_tool_13 : decode cX10_tool 13 = .ok (.getfield 61, 3) := by decide +kernel
theorem dX10_tool_16 : decode cX10_tool 16 = .ok (.getfield 262, 3) := by decide +kernel
theorem dX10_tool_19 : decode cX10_tool 19 = .ok (.istore_n 2, 1) := by decide +kernel
theorem dX10_tool_20 : decode cX10_tool 20 = .ok (.aload_n 0, 1) := by decide +kernel
theorem dX10_tool_21 : decode cX10_tool 21 = .ok (.getfield 61, 3) := by decide +kernel
theorem dX10_tool_24 : decode cX10_tool 24 = .ok (.iconst 0, 1) := by decide +kernel
theorem dX10_tool_25 : decode cX10_tool 25 = .ok (.putfield 262, 3) := by decide +kernel
theorem dX10_tool_28 : decode cX10_tool 28 = .ok (.aload_n 0, 1) := by decide +kernel
theorem dX10_tool_29 : decode cX10_tool 29 = .ok (.getfield 61, 3) := by decide +kernel
theorem dX10_tool_32 : decode cX10_tool 32 = .ok (.iload_n 1, 1) := by decide +kernel
theorem dX10_tool_33 : decode cX10_tool 33 = .ok (.putfield 263, 3) := by decide +kernel
theorem dX10_tool_36 : decode cX10_tool 36 = .ok (.iload_n 2, 1) := by decide +kernel
theorem dX10_tool_37 : decode cX10_tool 37 = .ok (.ireturn, 1) := by decide +kernel
theorem dX10_meets_0 : decode cX10_meets 0 = .ok (.aload_n 0, 1) := by decide +kernel
theorem dX10_meets_1 : decode cX10_meets 1 = .ok (.iload_n 1, 1) := by decide +kernel
theorem dX10_meets_2 : decode cX10_meets 2 = .ok (.invokevirtual 90, 3) := by decide +kernel
theorem dX10_meets_5 : decode cX10_meets 5 = .ok (.astore_n 2, 1) := by decide +kernel
theorem dX10_meets_6 : decode cX10_meets 6 = .ok (.aload_n 2, 1) := by decide +kernel
theorem dX10_meets_7 : decode cX10_meets 7 = .ok (.ifnonnull 5, 3) := by decide +kernel
theorem dX10_meets_10 : decode cX10_meets 10 = .ok (.iconst (-1), 1) := by decide +kernel
theorem dX10_meets_11 : decode cX10_meets 11 = .ok (.ireturn, 1) := by decide +kernel
theorem dX10_meets_12 : decode cX10_meets 12 = .ok (.aload_n 0, 1) := by decide +kernel
theorem dX10_meets_13 : decode cX10_meets 13 = .ok (.getfield 61, 3) := by decide +kernel
theorem dX10_meets_16 : decode cX10_meets 16 = .ok (.getfield 262, 3) := by decide +kernel
theorem dX10_meets_19 : decode cX10_meets 19 = .ok (.ifCond .ne 6, 3) := by decide +kernel
theorem dX10_meets_22 : decode cX10_meets 22 = .ok (.bipush (-3), 2) := by decide +kernel
theorem dX10_meets_24 : decode cX10_meets 24 = .ok (.ireturn, 1) := by decide +kernel
theorem dX10_meets_25 : decode cX10_meets 25 = .ok (.aload_n 0, 1) := by decide +kernel
theorem dX10_meets_26 : decode cX10_meets 26 = .ok (.getfield 61, 3) := by decide +kernel
theorem dX10_meets_29 : decode cX10_meets 29 = .ok (.aload_n 2, 1) := by decide +kernel
theorem dX10_meets_30 : decode cX10_meets 30 = .ok (.invokevirtual 266, 3) := by decide +kernel
theorem dX10_meets_33 : decode cX10_meets 33 = .ok (.istore_n 3, 1) := by decide +kernel
theorem dX10_meets_34 : decode cX10_meets 34 = .ok (.iload_n 3, 1) := by decide +kernel
theorem dX10_meets_35 : decode cX10_meets 35 = .ok (.ifCond .ge 8, 3) := by decide +kernel
theorem dX10_meets_38 : decode cX10_meets 38 = .ok (.bipush (-2), 2) := by decide +kernel
theorem dX10_meets_40 : decode cX10_meets 40 = .ok (.goto 4, 3) := by decide +kernel
theorem dX10_meets_43 : decode cX10_meets 43 = .ok (.iload_n 3, 1) := by decide +kernel
theorem dX10_meets_44 : decode cX10_meets 44 = .ok (.ireturn, 1) := by decide +kernel
theorem dX10_met_0 : decode cX10_met 0 = .ok (.aload_n 0, 1) := by decide +kernel
theorem dX10_met_1 : decode cX10_met 1 = .ok (.getfield 61, 3) := by decide +kernel
theorem dX10_met_4 : decode cX10_met 4 = .ok (.getfield 262, 3) := by decide +kernel
theorem dX10_met_7 : decode cX10_met 7 = .ok (.ifCond .ne 6, 3) := by decide +kernel
theorem dX10_met_10 : decode cX10_met 10 = .ok (.bipush (-3), 2) := by decide +kernel
theorem dX10_met_12 : decode cX10_met 12 = .ok (.ireturn, 1) := by decide +kernel
theorem dX10_met_13 : decode cX10_met 13 = .ok (.iconst 0, 1) := by decide +kernel
theorem dX10_met_14 : decode cX10_met 14 = .ok (.istore_n 1, 1) := by decide +kernel
theorem dX10_met_15 : decode cX10_met 15 = .ok (.iconst 0, 1) := by decide +kernel
theorem dX10_met_16 : decode cX10_met 16 = .ok (.istore_n 2, 1) := by decide +kernel
theorem dX10_met_17 : decode cX10_met 17 = .ok (.iload_n 2, 1) := by decide +kernel
theorem dX10_met_18 : decode cX10_met 18 = .ok (.aload_n 0, 1) := by decide +kernel
theorem dX10_met_19 : decode cX10_met 19 = .ok (.getfield 15, 3) := by decide +kernel
theorem dX10_met_22 : decode cX10_met 22 = .ok (.if_icmp .ge 36, 3) := by decide +kernel
theorem dX10_met_25 : decode cX10_met 25 = .ok (.aload_n 0, 1) := by decide +kernel
theorem dX10_met_26 : decode cX10_met 26 = .ok (.iload_n 2, 1) := by decide +kernel
theorem dX10_met_27 : decode cX10_met 27 = .ok (.invokevirtual 90, 3) := by decide +kernel
theorem dX10_met_30 : decode cX10_met 30 = .ok (.astore_n 3, 1) := by decide +kernel
theorem dX10_met_31 : decode cX10_met 31 = .ok (.aload_n 3, 1) := by decide +kernel
theorem dX10_met_32 : decode cX10_met 32 = .ok (.ifnull 20, 3) := by decide +kernel
theorem dX10_met_35 : decode cX10_met 35 = .ok (.aload_n 0, 1) := by decide +kernel
theorem dX10_met_36 : decode cX10_met 36 = .ok (.getfield 61, 3) := by decide +kernel
theorem dX10_met_39 : decode cX10_met 39 = .ok (.aload_n 3, 1) := by decide +kernel
theorem dX10_met_40 : decode cX10_met 40 = .ok (.invokevirtual 266, 3) := by decide +kernel
theorem dX10_met_43 : decode cX10_met 43 = .ok (.ifCond .lt 9, 3) := by decide +kernel
theorem dX10_met_46 : decode cX10_met 46 = .ok (.iload_n 1, 1) := by decide +kernel
theorem dX10_met_47 : decode cX10_met 47 = .ok (.iconst 1, 1) := by decide +kernel
theorem dX10_met_48 : decode cX10_met 48 = .ok (.iload_n 2, 1) := by decide +kernel
theorem dX10_met_49 : decode cX10_met 49 = .ok (.ishl, 1) := by decide +kernel
theorem dX10_met_50 : decode cX10_met 50 = .ok (.ior, 1) := by decide +kernel
theorem dX10_met_51 : decode cX10_met 51 = .ok (.istore_n 1, 1) := by decide +kernel
theorem dX10_met_52 : decode cX10_met 52 = .ok (.iinc 2 1, 3) := by decide +kernel
theorem dX10_met_55 : decode cX10_met 55 = .ok (.goto (-38), 3) := by decide +kernel
theorem dX10_met_58 : decode cX10_met 58 = .ok (.iload_n 1, 1) := by decide +kernel
theorem dX10_met_59 : decode cX10_met 59 = .ok (.ireturn, 1) := by decide +kernel
theorem dX10_count_0 : decode cX10_count 0 = .ok (.iload_n 1, 1) := by decide +kernel
theorem dX10_count_1 : decode cX10_count 1 = .ok (.tableswitch 72 0 4 #[35, 40, 48, 56, 64], 35) := by decide +kernel
theorem dX10_count_36 : decode cX10_count 36 = .ok (.aload_n 0, 1) := by decide +kernel
theorem dX10_count_37 : decode cX10_count 37 = .ok (.getfield 15, 3) := by decide +kernel
theorem dX10_count_40 : decode cX10_count 40 = .ok (.ireturn, 1) := by decide +kernel
theorem dX10_count_41 : decode cX10_count 41 = .ok (.aload_n 0, 1) := by decide +kernel
theorem dX10_count_42 : decode cX10_count 42 = .ok (.getfield 40, 3) := by decide +kernel
theorem dX10_count_45 : decode cX10_count 45 = .ok (.getfield 186, 3) := by decide +kernel
theorem dX10_count_48 : decode cX10_count 48 = .ok (.ireturn, 1) := by decide +kernel
theorem dX10_count_49 : decode cX10_count 49 = .ok (.aload_n 0, 1) := by decide +kernel
theorem dX10_count_50 : decode cX10_count 50 = .ok (.getfield 54, 3) := by decide +kernel
theorem dX10_count_53 : decode cX10_count 53 = .ok (.getfield 239, 3) := by decide +kernel
theorem dX10_count_56 : decode cX10_count 56 = .ok (.ireturn, 1) := by decide +kernel
theorem dX10_count_57 : decode cX10_count 57 = .ok (.aload_n 0, 1) := by decide +kernel
theorem dX10_count_58 : decode cX10_count 58 = .ok (.getfield 61, 3) := by decide +kernel
theorem dX10_count_61 : decode cX10_count 61 = .ok (.getfield 262, 3) := by decide +kernel
theorem dX10_count_64 : decode cX10_count 64 = .ok (.ireturn, 1) := by decide +kernel
theorem dX10_count_65 : decode cX10_count 65 = .ok (.aload_n 0, 1) := by decide +kernel
theorem dX10_count_66 : decode cX10_count 66 = .ok (.getfield 61, 3) := by decide +kernel
theorem dX10_count_69 : decode cX10_count 69 = .ok (.getfield 263, 3) := by decide +kernel
theorem dX10_count_72 : decode cX10_count 72 = .ok (.ireturn, 1) := by decide +kernel
theorem dX10_count_73 : decode cX10_count 73 = .ok (.iconst (-1), 1) := by decide +kernel
theorem dX10_count_74 : decode cX10_count 74 = .ok (.ireturn, 1) := by decide +kernel
theorem dX10_keep_0 : decode cX10_keep 0 = .ok (.aload_n 0, 1) := by decide +kernel
theorem dX10_keep_1 : decode cX10_keep 1 = .ok (.iload_n 1, 1) := by decide +kernel
theorem dX10_keep_2 : decode cX10_keep 2 = .ok (.invokevirtual 270, 3) := by decide +kernel
theorem dX10_keep_5 : decode cX10_keep 5 = .ok (.astore 4, 2) := by decide +kernel
theorem dX10_keep_7 : decode cX10_keep 7 = .ok (.aload 4, 2) := by decide +kernel
theorem dX10_keep_9 : decode cX10_keep 9 = .ok (.ifnonnull 5, 3) := by decide +kernel
theorem dX10_keep_12 : decode cX10_keep 12 = .ok (.iconst (-1), 1) := by decide +kernel
theorem dX10_keep_13 : decode cX10_keep 13 = .ok (.ireturn, 1) := by decide +kernel
theorem dX10_keep_14 : decode cX10_keep 14 = .ok (.iload_n 2, 1) := by decide +kernel
theorem dX10_keep_15 : decode cX10_keep 15 = .ok (.tableswitch 98 0 4 #[33, 40, 98, 66, 77], 33) := by decide +kernel
theorem dX10_keep_48 : decode cX10_keep 48 = .ok (.aload 4, 2) := by decide +kernel
theorem dX10_keep_50 : decode cX10_keep 50 = .ok (.invokevirtual 274, 3) := by decide +kernel
theorem dX10_keep_53 : decode cX10_keep 53 = .ok (.iconst 0, 1) := by decide +kernel
theorem dX10_keep_54 : decode cX10_keep 54 = .ok (.ireturn, 1) := by decide +kernel
theorem dX10_keep_55 : decode cX10_keep 55 = .ok (.aload_n 0, 1) := by decide +kernel
theorem dX10_keep_56 : decode cX10_keep 56 = .ok (.iload_n 3, 1) := by decide +kernel
theorem dX10_keep_57 : decode cX10_keep 57 = .ok (.invokevirtual 90, 3) := by decide +kernel
theorem dX10_keep_60 : decode cX10_keep 60 = .ok (.astore 5, 2) := by decide +kernel
theorem dX10_keep_62 : decode cX10_keep 62 = .ok (.aload 5, 2) := by decide +kernel
theorem dX10_keep_64 : decode cX10_keep 64 = .ok (.ifnonnull 5, 3) := by decide +kernel
theorem dX10_keep_67 : decode cX10_keep 67 = .ok (.iconst (-1), 1) := by decide +kernel
theorem dX10_keep_68 : decode cX10_keep 68 = .ok (.ireturn, 1) := by decide +kernel
theorem dX10_keep_69 : decode cX10_keep 69 = .ok (.aload 4, 2) := by decide +kernel
theorem dX10_keep_71 : decode cX10_keep 71 = .ok (.aload 5, 2) := by decide +kernel
theorem dX10_keep_73 : decode cX10_keep 73 = .ok (.invokestatic 277, 3) := by decide +kernel
theorem dX10_keep_76 : decode cX10_keep 76 = .ok (.invokevirtual 281, 3) := by decide +kernel
theorem dX10_keep_79 : decode cX10_keep 79 = .ok (.iconst 0, 1) := by decide +kernel
theorem dX10_keep_80 : decode cX10_keep 80 = .ok (.ireturn, 1) := by decide +kernel
theorem dX10_keep_81 : decode cX10_keep 81 = .ok (.aload 4, 2) := by decide +kernel
theorem dX10_keep_83 : decode cX10_keep 83 = .ok (.aload_n 0, 1) := by decide +kernel
theorem dX10_keep_84 : decode cX10_keep 84 = .ok (.invokevirtual 285, 3) := by decide +kernel
theorem dX10_keep_87 : decode cX10_keep 87 = .ok (.invokevirtual 289, 3) := by decide +kernel
theorem dX10_keep_90 : decode cX10_keep 90 = .ok (.iconst 0, 1) := by decide +kernel
theorem dX10_keep_91 : decode cX10_keep 91 = .ok (.ireturn, 1) := by decide +kernel
theorem dX10_keep_92 : decode cX10_keep 92 = .ok (.aload_n 0, 1) := by decide +kernel
theorem dX10_keep_93 : decode cX10_keep 93 = .ok (.getfield 54, 3) := by decide +kernel
theorem dX10_keep_96 : decode cX10_keep 96 = .ok (.invokevirtual 242, 3) := by decide +kernel
theorem dX10_keep_99 : decode cX10_keep 99 = .ok (.aload 4, 2) := by decide +kernel
theorem dX10_keep_101 : decode cX10_keep 101 = .ok (.aload_n 0, 1) := by decide +kernel
theorem dX10_keep_102 : decode cX10_keep 102 = .ok (.getfield 54, 3) := by decide +kernel
theorem dX10_keep_105 : decode cX10_keep 105 = .ok (.invokevirtual 293, 3) := by decide +kernel
theorem dX10_keep_108 : decode cX10_keep 108 = .ok (.invokevirtual 297, 3) := by decide +kernel
theorem dX10_keep_111 : decode cX10_keep 111 = .ok (.iconst 0, 1) := by decide +kernel
theorem dX10_keep_112 : decode cX10_keep 112 = .ok (.ireturn, 1) := by decide +kernel
theorem dX10_keep_113 : decode cX10_keep 113 = .ok (.iconst (-1), 1) := by decide +kernel
theorem dX10_keep_114 : decode cX10_keep 114 = .ok (.ireturn, 1) := by decide +kernel
theorem dX10_make_0 : decode cX10_make 0 = .ok (.aload_n 0, 1) := by decide +kernel
theorem dX10_make_1 : decode cX10_make 1 = .ok (.iload_n 1, 1) := by decide +kernel
theorem dX10_make_2 : decode cX10_make 2 = .ok (.invokevirtual 270, 3) := by decide +kernel
theorem dX10_make_5 : decode cX10_make 5 = .ok (.astore 4, 2) := by decide +kernel
theorem dX10_make_7 : decode cX10_make 7 = .ok (.aload 4, 2) := by decide +kernel
theorem dX10_make_9 : decode cX10_make 9 = .ok (.ifnull 19, 3) := by decide +kernel
theorem dX10_make_12 : decode cX10_make 12 = .ok (.iload_n 2, 1) := by decide +kernel
theorem dX10_make_13 : decode cX10_make 13 = .ok (.iconst 3, 1) := by decide +kernel
theorem dX10_make_14 : decode cX10_make 14 = .ok (.if_icmp .eq 8, 3) := by decide +kernel
theorem dX10_make_17 : decode cX10_make 17 = .ok (.iload_n 2, 1) := by decide +kernel
theorem dX10_make_18 : decode cX10_make 18 = .ok (.iconst 4, 1) := by decide +kernel
theorem dX10_make_19 : decode cX10_make 19 = .ok (.if_icmp .ne 9, 3) := by decide +kernel
theorem dX10_make_22 : decode cX10_make 22 = .ok (.iload_n 3, 1) := by decide +kernel
theorem dX10_make_23 : decode cX10_make 23 = .ok (.bipush 60, 2) := by decide +kernel
theorem dX10_make_25 : decode cX10_make 25 = .ok (.if_icmp .le 5, 3) := by decide +kernel
theorem dX10_make_28 : decode cX10_make 28 = .ok (.iconst (-1), 1) := by decide +kernel
theorem dX10_make_29 : decode cX10_make 29 = .ok (.ireturn, 1) := by decide +kernel
theorem dX10_make_30 : decode cX10_make 30 = .ok (.iload_n 3, 1) := by decide +kernel
theorem dX10_make_31 : decode cX10_make 31 = .ok (.ifCond .ge 6, 3) := by decide +kernel
theorem dX10_make_34 : decode cX10_make 34 = .ok (.bipush (-14), 2) := by decide +kernel
theorem dX10_make_36 : decode cX10_make 36 = .ok (.ireturn, 1) := by decide +kernel
theorem dX10_make_37 : decode cX10_make 37 = .ok (.iload_n 2, 1) := by decide +kernel
theorem dX10_make_38 : decode cX10_make 38 = .ok (.iconst 3, 1) := by decide +kernel
theorem dX10_make_39 : decode cX10_make 39 = .ok (.if_icmp .ne 14, 3) := by decide +kernel
theorem dX10_make_42 : decode cX10_make 42 = .ok (.aload 4, 2) := by decide +kernel
theorem dX10_make_44 : decode cX10_make 44 = .ok (.iload_n 3, 1) := by decide +kernel
theorem dX10_make_45 : decode cX10_make 45 = .ok (.newarray .int, 2) := by decide +kernel
theorem dX10_make_47 : decode cX10_make 47 = .ok (.invokevirtual 289, 3) := by decide +kernel
theorem dX10_make_50 : decode cX10_make 50 = .ok (.goto 11, 3) := by decide +kernel
theorem dX10_make_53 : decode cX10_make 53 = .ok (.aload 4, 2) := by decide +kernel
theorem dX10_make_55 : decode cX10_make 55 = .ok (.iload_n 3, 1) := by decide +kernel
theorem dX10_make_56 : decode cX10_make 56 = .ok (.newarray .byte, 2) := by decide +kernel
theorem dX10_make_58 : decode cX10_make 58 = .ok (.invokevirtual 297, 3) := by decide +kernel
theorem dX10_make_61 : decode cX10_make 61 = .ok (.iconst 0, 1) := by decide +kernel
theorem dX10_make_62 : decode cX10_make 62 = .ok (.ireturn, 1) := by decide +kernel
theorem dX10_element_0 : decode cX10_element 0 = .ok (.aload_n 0, 1) := by decide +kernel
theorem dX10_element_1 : decode cX10_element 1 = .ok (.iload_n 1, 1) := by decide +kernel
theorem dX10_element_2 : decode cX10_element 2 = .ok (.invokevirtual 270, 3) := by decide +kernel
theorem dX10_element_5 : decode cX10_element 5 = .ok (.astore_n 3, 1) := by decide +kernel
theorem dX10_element_6 : decode cX10_element 6 = .ok (.aload_n 3, 1) := by decide +kernel
theorem dX10_element_7 : decode cX10_element 7 = .ok (.ifnonnull 14, 3) := by decide +kernel
theorem dX10_element_10 : decode cX10_element 10 = .ok (.new 123, 3) := by decide +kernel
theorem dX10_element_13 : decode cX10_element 13 = .ok (.dup, 1) := by decide +kernel
theorem dX10_element_14 : decode cX10_element 14 = .ok (.ldc_w 301, 3) := by decide +kernel
theorem dX10_element_17 : decode cX10_element 17 = .ok (.invokespecial 127, 3) := by decide +kernel
theorem dX10_element_20 : decode cX10_element 20 = .ok (.athrow, 1) := by decide +kernel
theorem dX10_element_21 : decode cX10_element 21 = .ok (.aload_n 3, 1) := by decide +kernel
theorem dX10_element_22 : decode cX10_element 22 = .ok (.iload_n 2, 1) := by decide +kernel
theorem dX10_element_23 : decode cX10_element 23 = .ok (.iconst 1, 1) := by decide +kernel
theorem dX10_element_24 : decode cX10_element 24 = .ok (.invokevirtual 303, 3) := by decide +kernel
theorem dX10_element_27 : decode cX10_element 27 = .ok (.ifCond .ne 14, 3) := by decide +kernel
theorem dX10_element_30 : decode cX10_element 30 = .ok (.new 148, 3) := by decide +kernel
theorem dX10_element_33 : decode cX10_element 33 = .ok (.dup, 1) := by decide +kernel
theorem dX10_element_34 : decode cX10_element 34 = .ok (.ldc_w 306, 3) := by decide +kernel
theorem dX10_element_37 : decode cX10_element 37 = .ok (.invokespecial 152, 3) := by decide +kernel
theorem dX10_element_40 : decode cX10_element 40 = .ok (.athrow, 1) := by decide +kernel
theorem dX10_element_41 : decode cX10_element 41 = .ok (.aload_n 3, 1) := by decide +kernel
theorem dX10_element_42 : decode cX10_element 42 = .ok (.iload_n 2, 1) := by decide +kernel
theorem dX10_element_43 : decode cX10_element 43 = .ok (.invokevirtual 308, 3) := by decide +kernel
theorem dX10_element_46 : decode cX10_element 46 = .ok (.lreturn, 1) := by decide +kernel
theorem dX10_copy_0 : decode cX10_copy 0 = .ok (.aload_n 0, 1) := by decide +kernel
theorem dX10_copy_1 : decode cX10_copy 1 = .ok (.iload_n 1, 1) := by decide +kernel
theorem dX10_copy_2 : decode cX10_copy 2 = .ok (.invokevirtual 270, 3) := by decide +kernel
theorem dX10_copy_5 : decode cX10_copy 5 = .ok (.astore 6, 2) := by decide +kernel
theorem dX10_copy_7 : decode cX10_copy 7 = .ok (.aload_n 0, 1) := by decide +kernel
theorem dX10_copy_8 : decode cX10_copy 8 = .ok (.iload_n 3, 1) := by decide +kernel
theorem dX10_copy_9 : decode cX10_copy 9 = .ok (.invokevirtual 270, 3) := by decide +kernel
theorem dX10_copy_12 : decode cX10_copy 12 = .ok (.astore 7, 2) := by decide +kernel
theorem dX10_copy_14 : decode cX10_copy 14 = .ok (.aload 6, 2) := by decide +kernel
theorem dX10_copy_16 : decode cX10_copy 16 = .ok (.ifnull 8, 3) := by decide +kernel
theorem dX10_copy_19 : decode cX10_copy 19 = .ok (.aload 7, 2) := by decide +kernel
theorem dX10_copy_21 : decode cX10_copy 21 = .ok (.ifnonnull 5, 3) := by decide +kernel
theorem dX10_copy_24 : decode cX10_copy 24 = .ok (.iconst (-1), 1) := by decide +kernel
theorem dX10_copy_25 : decode cX10_copy 25 = .ok (.ireturn, 1) := by decide +kernel
theorem dX10_copy_26 : decode cX10_copy 26 = .ok (.aload 6, 2) := by decide +kernel
theorem dX10_copy_28 : decode cX10_copy 28 = .ok (.invokevirtual 312, 3) := by decide +kernel
theorem dX10_copy_31 : decode cX10_copy 31 = .ok (.ifCond .ne 11, 3) := by decide +kernel
theorem dX10_copy_34 : decode cX10_copy 34 = .ok (.aload 7, 2) := by decide +kernel
theorem dX10_copy_36 : decode cX10_copy 36 = .ok (.invokevirtual 312, 3) := by decide +kernel
theorem dX10_copy_39 : decode cX10_copy 39 = .ok (.ifCond .eq 6, 3) := by decide +kernel
theorem dX10_copy_42 : decode cX10_copy 42 = .ok (.bipush (-11), 2) := by decide +kernel
theorem dX10_copy_44 : decode cX10_copy 44 = .ok (.ireturn, 1) := by decide +kernel
theorem dX10_copy_45 : decode cX10_copy 45 = .ok (.aload 6, 2) := by decide +kernel
theorem dX10_copy_47 : decode cX10_copy 47 = .ok (.aload 7, 2) := by decide +kernel
theorem dX10_copy_49 : decode cX10_copy 49 = .ok (.invokevirtual 315, 3) := by decide +kernel
theorem dX10_copy_52 : decode cX10_copy 52 = .ok (.ifCond .ne 6, 3) := by decide +kernel
theorem dX10_copy_55 : decode cX10_copy 55 = .ok (.bipush (-12), 2) := by decide +kernel
theorem dX10_copy_57 : decode cX10_copy 57 = .ok (.ireturn, 1) := by decide +kernel
theorem dX10_copy_58 : decode cX10_copy 58 = .ok (.aload 6, 2) := by decide +kernel
theorem dX10_copy_60 : decode cX10_copy 60 = .ok (.iload_n 2, 1) := by decide +kernel
theorem dX10_copy_61 : decode cX10_copy 61 = .ok (.iload 5, 2) := by decide +kernel
theorem dX10_copy_63 : decode cX10_copy 63 = .ok (.invokevirtual 303, 3) := by decide +kernel
theorem dX10_copy_66 : decode cX10_copy 66 = .ok (.ifCond .eq 15, 3) := by decide +kernel
theorem dX10_copy_69 : decode cX10_copy 69 = .ok (.aload 7, 2) := by decide +kernel
theorem dX10_copy_71 : decode cX10_copy 71 = .ok (.iload 4, 2) := by decide +kernel
theorem dX10_copy_73 : decode cX10_copy 73 = .ok (.iload 5, 2) := by decide +kernel
theorem dX10_copy_75 : decode cX10_copy 75 = .ok (.invokevirtual 303, 3) := by decide +kernel
theorem dX10_copy_78 : decode cX10_copy 78 = .ok (.ifCond .ne 6, 3) := by decide +kernel
theorem dX10_copy_81 : decode cX10_copy 81 = .ok (.bipush (-13), 2) := by decide +kernel
theorem dX10_copy_83 : decode cX10_copy 83 = .ok (.ireturn, 1) := by decide +kernel
theorem dX10_copy_84 : decode cX10_copy 84 = .ok (.aload 6, 2) := by decide +kernel
theorem dX10_copy_86 : decode cX10_copy 86 = .ok (.iload_n 2, 1) := by decide +kernel
theorem dX10_copy_87 : decode cX10_copy 87 = .ok (.aload 7, 2) := by decide +kernel
theorem dX10_copy_89 : decode cX10_copy 89 = .ok (.iload 4, 2) := by decide +kernel
theorem dX10_copy_91 : decode cX10_copy 91 = .ok (.iload 5, 2) := by decide +kernel
theorem dX10_copy_93 : decode cX10_copy 93 = .ok (.invokevirtual 319, 3) := by decide +kernel
theorem dX10_copy_96 : decode cX10_copy 96 = .ok (.iload 5, 2) := by decide +kernel
theorem dX10_copy_98 : decode cX10_copy 98 = .ok (.ireturn, 1) := by decide +kernel
theorem dX10_weight_0 : decode cX10_weight 0 = .ok (.aload_n 0, 1) := by decide +kernel
theorem dX10_weight_1 : decode cX10_weight 1 = .ok (.iload_n 1, 1) := by decide +kernel
theorem dX10_weight_2 : decode cX10_weight 2 = .ok (.invokevirtual 270, 3) := by decide +kernel
theorem dX10_weight_5 : decode cX10_weight 5 = .ok (.astore_n 2, 1) := by decide +kernel
theorem dX10_weight_6 : decode cX10_weight 6 = .ok (.aload_n 2, 1) := by decide +kernel
theorem dX10_weight_7 : decode cX10_weight 7 = .ok (.ifnonnull 5, 3) := by decide +kernel
theorem dX10_weight_10 : decode cX10_weight 10 = .ok (.iconst (-1), 1) := by decide +kernel
theorem dX10_weight_11 : decode cX10_weight 11 = .ok (.ireturn, 1) := by decide +kernel
theorem dX10_weight_12 : decode cX10_weight 12 = .ok (.aload_n 2, 1) := by decide +kernel
theorem dX10_weight_13 : decode cX10_weight 13 = .ok (.invokevirtual 312, 3) := by decide +kernel
theorem dX10_weight_16 : decode cX10_weight 16 = .ok (.ifCond .eq 6, 3) := by decide +kernel
theorem dX10_weight_19 : decode cX10_weight 19 = .ok (.bipush (-11), 2) := by decide +kernel
theorem dX10_weight_21 : decode cX10_weight 21 = .ok (.ireturn, 1) := by decide +kernel
theorem dX10_weight_22 : decode cX10_weight 22 = .ok (.aload_n 2, 1) := by decide +kernel
theorem dX10_weight_23 : decode cX10_weight 23 = .ok (.getfield 323, 3) := by decide +kernel
theorem dX10_weight_26 : decode cX10_weight 26 = .ok (.astore_n 3, 1) := by decide +kernel
theorem dX10_weight_27 : decode cX10_weight 27 = .ok (.aload_n 3, 1) := by decide +kernel
theorem dX10_weight_28 : decode cX10_weight 28 = .ok (.ifnonnull 8, 3) := by decide +kernel
theorem dX10_weight_31 : decode cX10_weight 31 = .ok (.bipush (-12), 2) := by decide +kernel
theorem dX10_weight_33 : decode cX10_weight 33 = .ok (.goto 7, 3) := by decide +kernel
theorem dX10_weight_36 : decode cX10_weight 36 = .ok (.aload_n 3, 1) := by decide +kernel
theorem dX10_weight_37 : decode cX10_weight 37 = .ok (.invokevirtual 327, 3) := by decide +kernel
theorem dX10_weight_40 : decode cX10_weight 40 = .ok (.ireturn, 1) := by decide +kernel
theorem dX10_toss_0 : decode cX10_toss 0 = .ok (.aload_n 0, 1) := by decide +kernel
theorem dX10_toss_1 : decode cX10_toss 1 = .ok (.iload_n 1, 1) := by decide +kernel
theorem dX10_toss_2 : decode cX10_toss 2 = .ok (.invokevirtual 270, 3) := by decide +kernel
theorem dX10_toss_5 : decode cX10_toss 5 = .ok (.astore_n 2, 1) := by decide +kernel
theorem dX10_toss_6 : decode cX10_toss 6 = .ok (.aload_n 2, 1) := by decide +kernel
theorem dX10_toss_7 : decode cX10_toss 7 = .ok (.ifnonnull 5, 3) := by decide +kernel
theorem dX10_toss_10 : decode cX10_toss 10 = .ok (.iconst (-1), 1) := by decide +kernel
theorem dX10_toss_11 : decode cX10_toss 11 = .ok (.ireturn, 1) := by decide +kernel
theorem dX10_toss_12 : decode cX10_toss 12 = .ok (.aload_n 2, 1) := by decide +kernel
theorem dX10_toss_13 : decode cX10_toss 13 = .ok (.invokevirtual 312, 3) := by decide +kernel
theorem dX10_toss_16 : decode cX10_toss 16 = .ok (.ifCond .eq 6, 3) := by decide +kernel
theorem dX10_toss_19 : decode cX10_toss 19 = .ok (.bipush (-11), 2) := by decide +kernel
theorem dX10_toss_21 : decode cX10_toss 21 = .ok (.ireturn, 1) := by decide +kernel
theorem dX10_toss_22 : decode cX10_toss 22 = .ok (.aload_n 2, 1) := by decide +kernel
theorem dX10_toss_23 : decode cX10_toss 23 = .ok (.getfield 323, 3) := by decide +kernel
theorem dX10_toss_26 : decode cX10_toss 26 = .ok (.astore_n 3, 1) := by decide +kernel
theorem dX10_toss_27 : decode cX10_toss 27 = .ok (.aload_n 3, 1) := by decide +kernel
theorem dX10_toss_28 : decode cX10_toss 28 = .ok (.ifnonnull 8, 3) := by decide +kernel
theorem dX10_toss_31 : decode cX10_toss 31 = .ok (.bipush (-12), 2) := by decide +kernel
theorem dX10_toss_33 : decode cX10_toss 33 = .ok (.goto 7, 3) := by decide +kernel
theorem dX10_toss_36 : decode cX10_toss 36 = .ok (.aload_n 3, 1) := by decide +kernel
theorem dX10_toss_37 : decode cX10_toss 37 = .ok (.invokestatic 330, 3) := by decide +kernel
theorem dX10_toss_40 : decode cX10_toss 40 = .ok (.ireturn, 1) := by decide +kernel
theorem dX10_isWithin_0 : decode cX10_isWithin 0 = .ok (.iload_n 0, 1) := by decide +kernel
theorem dX10_isWithin_1 : decode cX10_isWithin 1 = .ok (.iload_n 1, 1) := by decide +kernel
theorem dX10_isWithin_2 : decode cX10_isWithin 2 = .ok (.ineg, 1) := by decide +kernel
theorem dX10_isWithin_3 : decode cX10_isWithin 3 = .ok (.if_icmp .lt 12, 3) := by decide +kernel
theorem dX10_isWithin_6 : decode cX10_isWithin 6 = .ok (.iload_n 0, 1) := by decide +kernel
theorem dX10_isWithin_7 : decode cX10_isWithin 7 = .ok (.iload_n 1, 1) := by decide +kernel
theorem dX10_isWithin_8 : decode cX10_isWithin 8 = .ok (.if_icmp .gt 7, 3) := by decide +kernel
theorem dX10_isWithin_11 : decode cX10_isWithin 11 = .ok (.iconst 1, 1) := by decide +kernel
theorem dX10_isWithin_12 : decode cX10_isWithin 12 = .ok (.goto 4, 3) := by decide +kernel
theorem dX10_isWithin_15 : decode cX10_isWithin 15 = .ok (.iconst 0, 1) := by decide +kernel
theorem dX10_isWithin_16 : decode cX10_isWithin 16 = .ok (.ireturn, 1) := by decide +kernel
theorem dX10_isPlace_0 : decode cX10_isPlace 0 = .ok (.iload_n 0, 1) := by decide +kernel
theorem dX10_isPlace_1 : decode cX10_isPlace 1 = .ok (.bipush 100, 2) := by decide +kernel
theorem dX10_isPlace_3 : decode cX10_isPlace 3 = .ok (.invokestatic 258, 3) := by decide +kernel
theorem dX10_isPlace_6 : decode cX10_isPlace 6 = .ok (.ifCond .eq 16, 3) := by decide +kernel
theorem dX10_isPlace_9 : decode cX10_isPlace 9 = .ok (.iload_n 1, 1) := by decide +kernel
theorem dX10_isPlace_10 : decode cX10_isPlace 10 = .ok (.bipush 100, 2) := by decide +kernel
theorem dX10_isPlace_12 : decode cX10_isPlace 12 = .ok (.invokestatic 258, 3) := by decide +kernel
theorem dX10_isPlace_15 : decode cX10_isPlace 15 = .ok (.ifCond .eq 7, 3) := by decide +kernel
theorem dX10_isPlace_18 : decode cX10_isPlace 18 = .ok (.iconst 1, 1) := by decide +kernel
theorem dX10_isPlace_19 : decode cX10_isPlace 19 = .ok (.goto 4, 3) := by decide +kernel
theorem dX10_isPlace_22 : decode cX10_isPlace 22 = .ok (.iconst 0, 1) := by decide +kernel
theorem dX10_isPlace_23 : decode cX10_isPlace 23 = .ok (.ireturn, 1) := by decide +kernel
theorem dX10_isDirection_0 : decode cX10_isDirection 0 = .ok (.iload_n 0, 1) := by decide +kernel
theorem dX10_isDirection_1 : decode cX10_isDirection 1 = .ok (.ifCond .lt 23, 3) := by decide +kernel
theorem dX10_isDirection_4 : decode cX10_isDirection 4 = .ok (.iload_n 0, 1) := by decide +kernel
theorem dX10_isDirection_5 : decode cX10_isDirection 5 = .ok (.getstatic 333, 3) := by decide +kernel
theorem dX10_isDirection_8 : decode cX10_isDirection 8 = .ok (.arraylength, 1) := by decide +kernel
theorem dX10_isDirection_9 : decode cX10_isDirection 9 = .ok (.if_icmp .ge 15, 3) := by decide +kernel
theorem dX10_isDirection_12 : decode cX10_isDirection 12 = .ok (.iload_n 0, 1) := by decide +kernel
theorem dX10_isDirection_13 : decode cX10_isDirection 13 = .ok (.getstatic 336, 3) := by decide +kernel
theorem dX10_isDirection_16 : decode cX10_isDirection 16 = .ok (.arraylength, 1) := by decide +kernel
theorem dX10_isDirection_17 : decode cX10_isDirection 17 = .ok (.if_icmp .ge 7, 3) := by decide +kernel
theorem dX10_isDirection_20 : decode cX10_isDirection 20 = .ok (.iconst 1, 1) := by decide +kernel
theorem dX10_isDirection_21 : decode cX10_isDirection 21 = .ok (.goto 4, 3) := by decide +kernel
theorem dX10_isDirection_24 : decode cX10_isDirection 24 = .ok (.iconst 0, 1) := by decide +kernel
theorem dX10_isDirection_25 : decode cX10_isDirection 25 = .ok (.ireturn, 1) := by decide +kernel
theorem dX10_isGrip_0 : decode cX10_isGrip 0 = .ok (.iload_n 0, 1) := by decide +kernel
theorem dX10_isGrip_1 : decode cX10_isGrip 1 = .ok (.iconst 1, 1) := by decide +kernel
theorem dX10_isGrip_2 : decode cX10_isGrip 2 = .ok (.if_icmp .eq 8, 3) := by decide +kernel
theorem dX10_isGrip_5 : decode cX10_isGrip 5 = .ok (.iload_n 0, 1) := by decide +kernel
theorem dX10_isGrip_6 : decode cX10_isGrip 6 = .ok (.iconst 3, 1) := by decide +kernel
theorem dX10_isGrip_7 : decode cX10_isGrip 7 = .ok (.if_icmp .ne 7, 3) := by decide +kernel
theorem dX10_isGrip_10 : decode cX10_isGrip 10 = .ok (.iconst 1, 1) := by decide +kernel
theorem dX10_isGrip_11 : decode cX10_isGrip 11 = .ok (.goto 4, 3) := by decide +kernel
theorem dX10_isGrip_14 : decode cX10_isGrip 14 = .ok (.iconst 0, 1) := by decide +kernel
theorem dX10_isGrip_15 : decode cX10_isGrip 15 = .ok (.istore_n 2, 1) := by decide +kernel
theorem dX10_isGrip_16 : decode cX10_isGrip 16 = .ok (.iload_n 1, 1) := by decide +kernel
theorem dX10_isGrip_17 : decode cX10_isGrip 17 = .ok (.iload_n 2, 1) := by decide +kernel
theorem dX10_isGrip_18 : decode cX10_isGrip 18 = .ok (.if_icmp .lt 13, 3) := by decide +kernel
theorem dX10_isGrip_21 : decode cX10_isGrip 21 = .ok (.iload_n 1, 1) := by decide +kernel
theorem dX10_isGrip_22 : decode cX10_isGrip 22 = .ok (.bipush 20, 2) := by decide +kernel
theorem dX10_isGrip_24 : decode cX10_isGrip 24 = .ok (.if_icmp .gt 7, 3) := by decide +kernel
theorem dX10_isGrip_27 : decode cX10_isGrip 27 = .ok (.iconst 1, 1) := by decide +kernel
theorem dX10_isGrip_28 : decode cX10_isGrip 28 = .ok (.goto 4, 3) := by decide +kernel
theorem dX10_isGrip_31 : decode cX10_isGrip 31 = .ok (.iconst 0, 1) := by decide +kernel
theorem dX10_isGrip_32 : decode cX10_isGrip 32 = .ok (.ireturn, 1) := by decide +kernel
theorem dX10_isLoad_0 : decode cX10_isLoad 0 = .ok (.iload_n 0, 1) := by decide +kernel
theorem dX10_isLoad_1 : decode cX10_isLoad 1 = .ok (.sipush 1000, 3) := by decide +kernel
theorem dX10_isLoad_4 : decode cX10_isLoad 4 = .ok (.invokestatic 258, 3) := by decide +kernel
theorem dX10_isLoad_7 : decode cX10_isLoad 7 = .ok (.ifCond .eq 27, 3) := by decide +kernel
theorem dX10_isLoad_10 : decode cX10_isLoad 10 = .ok (.iload_n 1, 1) := by decide +kernel
theorem dX10_isLoad_11 : decode cX10_isLoad 11 = .ok (.sipush 1000, 3) := by decide +kernel
theorem dX10_isLoad_14 : decode cX10_isLoad 14 = .ok (.invokestatic 258, 3) := by decide +kernel
theorem dX10_isLoad_17 : decode cX10_isLoad 17 = .ok (.ifCond .eq 17, 3) := by decide +kernel
theorem dX10_isLoad_20 : decode cX10_isLoad 20 = .ok (.iload_n 2, 1) := by decide +kernel
theorem dX10_isLoad_21 : decode cX10_isLoad 21 = .ok (.sipush 1000, 3) := by decide +kernel
theorem dX10_isLoad_24 : decode cX10_isLoad 24 = .ok (.invokestatic 258, 3) := by decide +kernel
theorem dX10_isLoad_27 : decode cX10_isLoad 27 = .ok (.ifCond .eq 7, 3) := by decide +kernel
theorem dX10_isLoad_30 : decode cX10_isLoad 30 = .ok (.iconst 1, 1) := by decide +kernel
theorem dX10_isLoad_31 : decode cX10_isLoad 31 = .ok (.goto 4, 3) := by decide +kernel
theorem dX10_isLoad_34 : decode cX10_isLoad 34 = .ok (.iconst 0, 1) := by decide +kernel
theorem dX10_isLoad_35 : decode cX10_isLoad 35 = .ok (.ireturn, 1) := by decide +kernel
theorem dX10_isPull_0 : decode cX10_isPull 0 = .ok (.iload_n 0, 1) := by decide +kernel
theorem dX10_isPull_1 : decode cX10_isPull 1 = .ok (.ifCond .lt 14, 3) := by decide +kernel
theorem dX10_isPull_4 : decode cX10_isPull 4 = .ok (.iload_n 0, 1) := by decide +kernel
theorem dX10_isPull_5 : decode cX10_isPull 5 = .ok (.sipush 200, 3) := by decide +kernel
theorem dX10_isPull_8 : decode cX10_isPull 8 = .ok (.if_icmp .gt 7, 3) := by decide +kernel
theorem dX10_isPull_11 : decode cX10_isPull 11 = .ok (.iconst 1, 1) := by decide +kernel
theorem dX10_isPull_12 : decode cX10_isPull 12 = .ok (.goto 4, 3) := by decide +kernel
theorem dX10_isPull_15 : decode cX10_isPull 15 = .ok (.iconst 0, 1) := by decide +kernel
theorem dX10_isPull_16 : decode cX10_isPull 16 = .ok (.ireturn, 1) := by decide +kernel
theorem dX10_contactAt_0 : decode cX10_contactAt 0 = .ok (.iload_n 1, 1) := by decide +kernel
theorem dX10_contactAt_1 : decode cX10_contactAt 1 = .ok (.ifCond .lt 29, 3) := by decide +kernel
theorem dX10_contactAt_4 : decode cX10_contactAt 4 = .ok (.iload_n 1, 1) := by decide +kernel
theorem dX10_contactAt_5 : decode cX10_contactAt 5 = .ok (.aload_n 0, 1) := by decide +kernel
theorem dX10_contactAt_6 : decode cX10_contactAt 6 = .ok (.getfield 15, 3) := by decide +kernel
theorem dX10_contactAt_9 : decode cX10_contactAt 9 = .ok (.if_icmp .ge 21, 3) := by decide +kernel
theorem dX10_contactAt_12 : decode cX10_contactAt 12 = .ok (.iload_n 1, 1) := by decide +kernel
theorem dX10_contactAt_13 : decode cX10_contactAt 13 = .ok (.aload_n 0, 1) := by decide +kernel
theorem dX10_contactAt_14 : decode cX10_contactAt 14 = .ok (.getfield 11, 3) := by decide +kernel
theorem dX10_contactAt_17 : decode cX10_contactAt 17 = .ok (.arraylength, 1) := by decide +kernel
theorem dX10_contactAt_18 : decode cX10_contactAt 18 = .ok (.if_icmp .ge 12, 3) := by decide +kernel
theorem dX10_contactAt_21 : decode cX10_contactAt 21 = .ok (.aload_n 0, 1) := by decide +kernel
theorem dX10_contactAt_22 : decode cX10_contactAt 22 = .ok (.getfield 11, 3) := by decide +kernel
theorem dX10_contactAt_25 : decode cX10_contactAt 25 = .ok (.iload_n 1, 1) := by decide +kernel
theorem dX10_contactAt_26 : decode cX10_contactAt 26 = .ok (.aaload, 1) := by decide +kernel
theorem dX10_contactAt_27 : decode cX10_contactAt 27 = .ok (.goto 4, 3) := by decide +kernel
theorem dX10_contactAt_30 : decode cX10_contactAt 30 = .ok (.aconst_null, 1) := by decide +kernel
theorem dX10_contactAt_31 : decode cX10_contactAt 31 = .ok (.areturn, 1) := by decide +kernel
theorem dX10_placerAt_0 : decode cX10_placerAt 0 = .ok (.aload_n 0, 1) := by decide +kernel
theorem dX10_placerAt_1 : decode cX10_placerAt 1 = .ok (.iload_n 1, 1) := by decide +kernel
theorem dX10_placerAt_2 : decode cX10_placerAt 2 = .ok (.invokevirtual 90, 3) := by decide +kernel
theorem dX10_placerAt_5 : decode cX10_placerAt 5 = .ok (.astore_n 2, 1) := by decide +kernel
theorem dX10_placerAt_6 : decode cX10_placerAt 6 = .ok (.aload_n 2, 1) := by decide +kernel
theorem dX10_placerAt_7 : decode cX10_placerAt 7 = .ok (.ifnull 14, 3) := by decide +kernel
theorem dX10_placerAt_10 : decode cX10_placerAt 10 = .ok (.aload_n 2, 1) := by decide +kernel
theorem dX10_placerAt_11 : decode cX10_placerAt 11 = .ok (.invokevirtual 100, 3) := by decide +kernel
theorem dX10_placerAt_14 : decode cX10_placerAt 14 = .ok (.ifCond .eq 7, 3) := by decide +kernel
theorem dX10_placerAt_17 : decode cX10_placerAt 17 = .ok (.aload_n 2, 1) := by decide +kernel
theorem dX10_placerAt_18 : decode cX10_placerAt 18 = .ok (.goto 4, 3) := by decide +kernel
theorem dX10_placerAt_21 : decode cX10_placerAt 21 = .ok (.aconst_null, 1) := by decide +kernel
theorem dX10_placerAt_22 : decode cX10_placerAt 22 = .ok (.areturn, 1) := by decide +kernel
theorem dX10_shelfAt_0 : decode cX10_shelfAt 0 = .ok (.iload_n 1, 1) := by decide +kernel
theorem dX10_shelfAt_1 : decode cX10_shelfAt 1 = .ok (.ifCond .lt 21, 3) := by decide +kernel
theorem dX10_shelfAt_4 : decode cX10_shelfAt 4 = .ok (.iload_n 1, 1) := by decide +kernel
theorem dX10_shelfAt_5 : decode cX10_shelfAt 5 = .ok (.aload_n 0, 1) := by decide +kernel
theorem dX10_shelfAt_6 : decode cX10_shelfAt 6 = .ok (.getfield 67, 3) := by decide +kernel
theorem dX10_shelfAt_9 : decode cX10_shelfAt 9 = .ok (.arraylength, 1) := by decide +kernel
theorem dX10_shelfAt_10 : decode cX10_shelfAt 10 = .ok (.if_icmp .ge 12, 3) := by decide +kernel
theorem dX10_shelfAt_13 : decode cX10_shelfAt 13 = .ok (.aload_n 0, 1) := by decide +kernel
theorem dX10_shelfAt_14 : decode cX10_shelfAt 14 = .ok (.getfield 67, 3) := by decide +kernel
theorem dX10_shelfAt_17 : decode cX10_shelfAt 17 = .ok (.iload_n 1, 1) := by decide +kernel
theorem dX10_shelfAt_18 : decode cX10_shelfAt 18 = .ok (.aaload, 1) := by decide +kernel
theorem dX10_shelfAt_19 : decode cX10_shelfAt 19 = .ok (.goto 4, 3) := by decide +kernel
theorem dX10_shelfAt_22 : decode cX10_shelfAt 22 = .ok (.aconst_null, 1) := by decide +kernel
theorem dX10_shelfAt_23 : decode cX10_shelfAt 23 = .ok (.areturn, 1) := by decide +kernel
theorem dX10_made_0 : decode cX10_made 0 = .ok (.iload_n 0, 1) := by decide +kernel
theorem dX10_made_1 : decode cX10_made 1 = .ok (.tableswitch 70 1 3 #[27, 42, 55], 27) := by decide +kernel
theorem dX10_made_28 : decode cX10_made 28 = .ok (.new 339, 3) := by decide +kernel
theorem dX10_made_31 : decode cX10_made 31 = .ok (.dup, 1) := by decide +kernel
theorem dX10_made_32 : decode cX10_made 32 = .ok (.iload_n 1, 1) := by decide +kernel
theorem dX10_made_33 : decode cX10_made 33 = .ok (.iload_n 2, 1) := by decide +kernel
theorem dX10_made_34 : decode cX10_made 34 = .ok (.iload_n 3, 1) := by decide +kernel
theorem dX10_made_35 : decode cX10_made 35 = .ok (.iload 4, 2) := by decide +kernel
theorem dX10_made_37 : decode cX10_made 37 = .ok (.iload 5, 2) := by decide +kernel
theorem dX10_made_39 : decode cX10_made 39 = .ok (.invokespecial 341, 3) := by decide +kernel
theorem dX10_made_42 : decode cX10_made 42 = .ok (.areturn, 1) := by decide +kernel
theorem dX10_made_43 : decode cX10_made 43 = .ok (.new 344, 3) := by decide +kernel
theorem dX10_made_46 : decode cX10_made 46 = .ok (.dup, 1) := by decide +kernel
theorem dX10_made_47 : decode cX10_made 47 = .ok (.iload_n 1, 1) := by decide +kernel
theorem dX10_made_48 : decode cX10_made 48 = .ok (.iload_n 2, 1) := by decide +kernel
theorem dX10_made_49 : decode cX10_made 49 = .ok (.iload_n 3, 1) := by decide +kernel
theorem dX10_made_50 : decode cX10_made 50 = .ok (.iload 5, 2) := by decide +kernel
theorem dX10_made_52 : decode cX10_made 52 = .ok (.invokespecial 346, 3) := by decide +kernel
theorem dX10_made_55 : decode cX10_made 55 = .ok (.areturn, 1) := by decide +kernel
theorem dX10_made_56 : decode cX10_made 56 = .ok (.new 349, 3) := by decide +kernel
theorem dX10_made_59 : decode cX10_made 59 = .ok (.dup, 1) := by decide +kernel
theorem dX10_made_60 : decode cX10_made 60 = .ok (.iload_n 1, 1) := by decide +kernel
theorem dX10_made_61 : decode cX10_made 61 = .ok (.iload_n 2, 1) := by decide +kernel
theorem dX10_made_62 : decode cX10_made 62 = .ok (.iload_n 3, 1) := by decide +kernel
theorem dX10_made_63 : decode cX10_made 63 = .ok (.iload 4, 2) := by decide +kernel
theorem dX10_made_65 : decode cX10_made 65 = .ok (.iload 5, 2) := by decide +kernel
theorem dX10_made_67 : decode cX10_made 67 = .ok (.invokespecial 351, 3) := by decide +kernel
theorem dX10_made_70 : decode cX10_made 70 = .ok (.areturn, 1) := by decide +kernel
theorem dX10_made_71 : decode cX10_made 71 = .ok (.new 9, 3) := by decide +kernel
theorem dX10_made_74 : decode cX10_made 74 = .ok (.dup, 1) := by decide +kernel
theorem dX10_made_75 : decode cX10_made 75 = .ok (.iload_n 1, 1) := by decide +kernel
theorem dX10_made_76 : decode cX10_made 76 = .ok (.iload_n 2, 1) := by decide +kernel
theorem dX10_made_77 : decode cX10_made 77 = .ok (.iload_n 3, 1) := by decide +kernel
theorem dX10_made_78 : decode cX10_made 78 = .ok (.iload 5, 2) := by decide +kernel
theorem dX10_made_80 : decode cX10_made 80 = .ok (.invokespecial 352, 3) := by decide +kernel
theorem dX10_made_83 : decode cX10_made 83 = .ok (.areturn, 1) := by decide +kernel
theorem dX10_twinOf_0 : decode cX10_twinOf 0 = .ok (.aload_n 0, 1) := by decide +kernel
theorem dX10_twinOf_1 : decode cX10_twinOf 1 = .ok (.invokevirtual 107, 3) := by decide +kernel
theorem dX10_twinOf_4 : decode cX10_twinOf 4 = .ok (.aload_n 0, 1) := by decide +kernel
theorem dX10_twinOf_5 : decode cX10_twinOf 5 = .ok (.getfield 111, 3) := by decide +kernel
theorem dX10_twinOf_8 : decode cX10_twinOf 8 = .ok (.aload_n 0, 1) := by decide +kernel
theorem dX10_twinOf_9 : decode cX10_twinOf 9 = .ok (.getfield 94, 3) := by decide +kernel
theorem dX10_twinOf_12 : decode cX10_twinOf 12 = .ok (.aload_n 0, 1) := by decide +kernel
theorem dX10_twinOf_13 : decode cX10_twinOf 13 = .ok (.getfield 97, 3) := by decide +kernel
theorem dX10_twinOf_16 : decode cX10_twinOf 16 = .ok (.aload_n 0, 1) := by decide +kernel
theorem dX10_twinOf_17 : decode cX10_twinOf 17 = .ok (.invokevirtual 114, 3) := by decide +kernel
theorem dX10_twinOf_20 : decode cX10_twinOf 20 = .ok (.aload_n 0, 1) := by decide +kernel
theorem dX10_twinOf_21 : decode cX10_twinOf 21 = .ok (.getfield 117, 3) := by decide +kernel
theorem dX10_twinOf_24 : decode cX10_twinOf 24 = .ok (.invokestatic 83, 3) := by decide +kernel
theorem dX10_twinOf_27 : decode cX10_twinOf 27 = .ok (.astore_n 1, 1) := by decide +kernel
theorem dX10_twinOf_28 : decode cX10_twinOf 28 = .ok (.aload_n 1, 1) := by decide +kernel
theorem dX10_twinOf_29 : decode cX10_twinOf 29 = .ok (.aload_n 0, 1) := by decide +kernel
theorem dX10_twinOf_30 : decode cX10_twinOf 30 = .ok (.getfield 87, 3) := by decide +kernel
theorem dX10_twinOf_33 : decode cX10_twinOf 33 = .ok (.putfield 87, 3) := by decide +kernel
theorem dX10_twinOf_36 : decode cX10_twinOf 36 = .ok (.aload_n 1, 1) := by decide +kernel
theorem dX10_twinOf_37 : decode cX10_twinOf 37 = .ok (.aload_n 0, 1) := by decide +kernel
theorem dX10_twinOf_38 : decode cX10_twinOf 38 = .ok (.getfield 104, 3) := by decide +kernel
theorem dX10_twinOf_41 : decode cX10_twinOf 41 = .ok (.putfield 104, 3) := by decide +kernel
theorem dX10_twinOf_44 : decode cX10_twinOf 44 = .ok (.aload_n 1, 1) := by decide +kernel
theorem dX10_twinOf_45 : decode cX10_twinOf 45 = .ok (.areturn, 1) := by decide +kernel
theorem dX10_failureOf_0 : decode cX10_failureOf 0 = .ok (.aload_n 0, 1) := by decide +kernel
theorem dX10_failureOf_1 : decode cX10_failureOf 1 = .ok (.invokevirtual 353, 3) := by decide +kernel
theorem dX10_failureOf_4 : decode cX10_failureOf 4 = .ok (.goto 9, 3) := by decide +kernel
theorem dX10_failureOf_7 : decode cX10_failureOf 7 = .ok (.astore_n 1, 1) := by decide +kernel
theorem dX10_failureOf_8 : decode cX10_failureOf 8 = .ok (.aload_n 0, 1) := by decide +kernel
theorem dX10_failureOf_9 : decode cX10_failureOf 9 = .ok (.getfield 87, 3) := by decide +kernel
theorem dX10_failureOf_12 : decode cX10_failureOf 12 = .ok (.ireturn, 1) := by decide +kernel
theorem dX10_failureOf_13 : decode cX10_failureOf 13 = .ok (.bipush (-15), 2) := by decide +kernel
theorem dX10_failureOf_15 : decode cX10_failureOf 15 = .ok (.ireturn, 1) := by decide +kernel
theorem dX10_wrenchRow_0 : decode cX10_wrenchRow 0 = .ok (.iconst 3, 1) := by decide +kernel
theorem dX10_wrenchRow_1 : decode cX10_wrenchRow 1 = .ok (.aload_n 0, 1) := by decide +kernel
theorem dX10_wrenchRow_2 : decode cX10_wrenchRow 2 = .ok (.getfield 15, 3) := by decide +kernel
theorem dX10_wrenchRow_5 : decode cX10_wrenchRow 5 = .ok (.imul, 1) := by decide +kernel
theorem dX10_wrenchRow_6 : decode cX10_wrenchRow 6 = .ok (.newarray .int, 2) := by decide +kernel
theorem dX10_wrenchRow_8 : decode cX10_wrenchRow 8 = .ok (.astore_n 1, 1) := by decide +kernel
theorem dX10_wrenchRow_9 : decode cX10_wrenchRow 9 = .ok (.iconst 0, 1) := by decide +kernel
theorem dX10_wrenchRow_10 : decode cX10_wrenchRow 10 = .ok (.istore_n 2, 1) := by decide +kernel
theorem dX10_wrenchRow_11 : decode cX10_wrenchRow 11 = .ok (.iload_n 2, 1) := by decide +kernel
theorem dX10_wrenchRow_12 : decode cX10_wrenchRow 12 = .ok (.aload_n 0, 1) := by decide +kernel
theorem dX10_wrenchRow_13 : decode cX10_wrenchRow 13 = .ok (.getfield 15, 3) := by decide +kernel
theorem dX10_wrenchRow_16 : decode cX10_wrenchRow 16 = .ok (.if_icmp .ge 64, 3) := by decide +kernel
theorem dX10_wrenchRow_19 : decode cX10_wrenchRow 19 = .ok (.aload_n 0, 1) := by decide +kernel
theorem dX10_wrenchRow_20 : decode cX10_wrenchRow 20 = .ok (.iload_n 2, 1) := by decide +kernel
theorem dX10_wrenchRow_21 : decode cX10_wrenchRow 21 = .ok (.invokevirtual 90, 3) := by decide +kernel
theorem dX10_wrenchRow_24 : decode cX10_wrenchRow 24 = .ok (.astore_n 3, 1) := by decide +kernel
theorem dX10_wrenchRow_25 : decode cX10_wrenchRow 25 = .ok (.iconst 3, 1) := by decide +kernel
theorem dX10_wrenchRow_26 : decode cX10_wrenchRow 26 = .ok (.iload_n 2, 1) := by decide +kernel
theorem dX10_wrenchRow_27 : decode cX10_wrenchRow 27 = .ok (.imul, 1) := by decide +kernel
theorem dX10_wrenchRow_28 : decode cX10_wrenchRow 28 = .ok (.istore 4, 2) := by decide +kernel
theorem dX10_wrenchRow_30 : decode cX10_wrenchRow 30 = .ok (.aload_n 3, 1) := by decide +kernel
theorem dX10_wrenchRow_31 : decode cX10_wrenchRow 31 = .ok (.ifnull 43, 3) := by decide +kernel
theorem dX10_wrenchRow_34 : decode cX10_wrenchRow 34 = .ok (.iload 4, 2) := by decide +kernel
theorem dX10_wrenchRow_36 : decode cX10_wrenchRow 36 = .ok (.iconst 2, 1) := by decide +kernel
theorem dX10_wrenchRow_37 : decode cX10_wrenchRow 37 = .ok (.iadd, 1) := by decide +kernel
theorem dX10_wrenchRow_38 : decode cX10_wrenchRow 38 = .ok (.aload_n 1, 1) := by decide +kernel
theorem dX10_wrenchRow_39 : decode cX10_wrenchRow 39 = .ok (.arraylength, 1) := by decide +kernel
theorem dX10_wrenchRow_40 : decode cX10_wrenchRow 40 = .ok (.if_icmp .ge 34, 3) := by decide +kernel
theorem dX10_wrenchRow_43 : decode cX10_wrenchRow 43 = .ok (.aload_n 1, 1) := by decide +kernel
theorem dX10_wrenchRow_44 : decode cX10_wrenchRow 44 = .ok (.iload 4, 2) := by decide +kernel
theorem dX10_wrenchRow_46 : decode cX10_wrenchRow 46 = .ok (.aload_n 3, 1) := by decide +kernel
theorem dX10_wrenchRow_47 : decode cX10_wrenchRow 47 = .ok (.iconst (-1), 1) := by decide +kernel
theorem dX10_wrenchRow_48 : decode cX10_wrenchRow 48 = .ok (.invokevirtual 130, 3) := by decide +kernel
theorem dX10_wrenchRow_51 : decode cX10_wrenchRow 51 = .ok (.iastore, 1) := by decide +kernel
theorem dX10_wrenchRow_52 : decode cX10_wrenchRow 52 = .ok (.aload_n 1, 1) := by decide +kernel
theorem dX10_wrenchRow_53 : decode cX10_wrenchRow 53 = .ok (.iload 4, 2) := by decide +kernel
theorem dX10_wrenchRow_55 : decode cX10_wrenchRow 55 = .ok (.iconst 1, 1) := by decide +kernel
theorem dX10_wrenchRow_56 : decode cX10_wrenchRow 56 = .ok (.iadd, 1) := by decide +kernel
theorem dX10_wrenchRow_57 : decode cX10_wrenchRow 57 = .ok (.aload_n 3, 1) := by decide +kernel
theorem dX10_wrenchRow_58 : decode cX10_wrenchRow 58 = .ok (.iconst (-1), 1) := by decide +kernel
theorem dX10_wrenchRow_59 : decode cX10_wrenchRow 59 = .ok (.invokevirtual 134, 3) := by decide +kernel
theorem dX10_wrenchRow_62 : decode cX10_wrenchRow 62 = .ok (.iastore, 1) := by decide +kernel
theorem dX10_wrenchRow_63 : decode cX10_wrenchRow 63 = .ok (.aload_n 1, 1) := by decide +kernel
theorem dX10_wrenchRow_64 : decode cX10_wrenchRow 64 = .ok (.iload 4, 2) := by decide +kernel
theorem dX10_wrenchRow_66 : decode cX10_wrenchRow 66 = .ok (.iconst 2, 1) := by decide +kernel
theorem dX10_wrenchRow_67 : decode cX10_wrenchRow 67 = .ok (.iadd, 1) := by decide +kernel
theorem dX10_wrenchRow_68 : decode cX10_wrenchRow 68 = .ok (.aload_n 3, 1) := by decide +kernel
theorem dX10_wrenchRow_69 : decode cX10_wrenchRow 69 = .ok (.iconst (-1), 1) := by decide +kernel
theorem dX10_wrenchRow_70 : decode cX10_wrenchRow 70 = .ok (.invokevirtual 137, 3) := by decide +kernel
theorem dX10_wrenchRow_73 : decode cX10_wrenchRow 73 = .ok (.iastore, 1) := by decide +kernel
theorem dX10_wrenchRow_74 : decode cX10_wrenchRow 74 = .ok (.iinc 2 1, 3) := by decide +kernel
theorem dX10_wrenchRow_77 : decode cX10_wrenchRow 77 = .ok (.goto (-66), 3) := by decide +kernel
theorem dX10_wrenchRow_80 : decode cX10_wrenchRow 80 = .ok (.aload_n 1, 1) := by decide +kernel
theorem dX10_wrenchRow_81 : decode cX10_wrenchRow 81 = .ok (.areturn, 1) := by decide +kernel
theorem dX10_takePlacing_0 : decode cX10_takePlacing 0 = .ok (.aload_n 0, 1) := by decide +kernel
theorem dX10_takePlacing_1 : decode cX10_takePlacing 1 = .ok (.getfield 22, 3) := by decide +kernel
theorem dX10_takePlacing_4 : decode cX10_takePlacing 4 = .ok (.invokevirtual 356, 3) := by decide +kernel
theorem dX10_takePlacing_7 : decode cX10_takePlacing 7 = .ok (.iconst 0, 1) := by decide +kernel
theorem dX10_takePlacing_8 : decode cX10_takePlacing 8 = .ok (.istore_n 1, 1) := by decide +kernel
theorem dX10_takePlacing_9 : decode cX10_takePlacing 9 = .ok (.iload_n 1, 1) := by decide +kernel
theorem dX10_takePlacing_10 : decode cX10_takePlacing 10 = .ok (.aload_n 0, 1) := by decide +kernel
theorem dX10_takePlacing_11 : decode cX10_takePlacing 11 = .ok (.getfield 15, 3) := by decide +kernel
theorem dX10_takePlacing_14 : decode cX10_takePlacing 14 = .ok (.if_icmp .ge 28, 3) := by decide +kernel
theorem dX10_takePlacing_17 : decode cX10_takePlacing 17 = .ok (.aload_n 0, 1) := by decide +kernel
theorem dX10_takePlacing_18 : decode cX10_takePlacing 18 = .ok (.iload_n 1, 1) := by decide +kernel
theorem dX10_takePlacing_19 : decode cX10_takePlacing 19 = .ok (.invokevirtual 205, 3) := by decide +kernel
theorem dX10_takePlacing_22 : decode cX10_takePlacing 22 = .ok (.astore_n 2, 1) := by decide +kernel
theorem dX10_takePlacing_23 : decode cX10_takePlacing 23 = .ok (.aload_n 2, 1) := by decide +kernel
theorem dX10_takePlacing_24 : decode cX10_takePlacing 24 = .ok (.ifnull 12, 3) := by decide +kernel
theorem dX10_takePlacing_27 : decode cX10_takePlacing 27 = .ok (.aload_n 0, 1) := by decide +kernel
theorem dX10_takePlacing_28 : decode cX10_takePlacing 28 = .ok (.getfield 22, 3) := by decide +kernel
theorem dX10_takePlacing_31 : decode cX10_takePlacing 31 = .ok (.aload_n 2, 1) := by decide +kernel
theorem dX10_takePlacing_32 : decode cX10_takePlacing 32 = .ok (.iconst (-1), 1) := by decide +kernel
theorem dX10_takePlacing_33 : decode cX10_takePlacing 33 = .ok (.invokevirtual 357, 3) := by decide +kernel
theorem dX10_takePlacing_36 : decode cX10_takePlacing 36 = .ok (.iinc 1 1, 3) := by decide +kernel
theorem dX10_takePlacing_39 : decode cX10_takePlacing 39 = .ok (.goto (-30), 3) := by decide +kernel
theorem dX10_takePlacing_42 : decode cX10_takePlacing 42 = .ok (.return_, 1) := by decide +kernel
theorem dX10_isFormHeld_0 : decode cX10_isFormHeld 0 = .ok (.aload_n 0, 1) := by decide +kernel
theorem dX10_isFormHeld_1 : decode cX10_isFormHeld 1 = .ok (.getfield 22, 3) := by decide +kernel
theorem dX10_isFormHeld_4 : decode cX10_isFormHeld 4 = .ok (.invokevirtual 356, 3) := by decide +kernel
theorem dX10_isFormHeld_7 : decode cX10_isFormHeld 7 = .ok (.iconst 0, 1) := by decide +kernel
theorem dX10_isFormHeld_8 : decode cX10_isFormHeld 8 = .ok (.istore_n 2, 1) := by decide +kernel
theorem dX10_isFormHeld_9 : decode cX10_isFormHeld 9 = .ok (.iload_n 2, 1) := by decide +kernel
theorem dX10_isFormHeld_10 : decode cX10_isFormHeld 10 = .ok (.aload_n 0, 1) := by decide +kernel
theorem dX10_isFormHeld_11 : decode cX10_isFormHeld 11 = .ok (.getfield 15, 3) := by decide +kernel
theorem dX10_isFormHeld_14 : decode cX10_isFormHeld 14 = .ok (.if_icmp .ge 33, 3) := by decide +kernel
theorem dX10_isFormHeld_17 : decode cX10_isFormHeld 17 = .ok (.aload_n 0, 1) := by decide +kernel
theorem dX10_isFormHeld_18 : decode cX10_isFormHeld 18 = .ok (.iload_n 2, 1) := by decide +kernel
theorem dX10_isFormHeld_19 : decode cX10_isFormHeld 19 = .ok (.invokevirtual 90, 3) := by decide +kernel
theorem dX10_isFormHeld_22 : decode cX10_isFormHeld 22 = .ok (.astore_n 3, 1) := by decide +kernel
theorem dX10_isFormHeld_23 : decode cX10_isFormHeld 23 = .ok (.aload_n 3, 1) := by decide +kernel
theorem dX10_isFormHeld_24 : decode cX10_isFormHeld 24 = .ok (.ifnull 17, 3) := by decide +kernel
theorem dX10_isFormHeld_27 : decode cX10_isFormHeld 27 = .ok (.iload_n 2, 1) := by decide +kernel
theorem dX10_isFormHeld_28 : decode cX10_isFormHeld 28 = .ok (.iload_n 1, 1) := by decide +kernel
theorem dX10_isFormHeld_29 : decode cX10_isFormHeld 29 = .ok (.if_icmp .eq 12, 3) := by decide +kernel
theorem dX10_isFormHeld_32 : decode cX10_isFormHeld 32 = .ok (.aload_n 0, 1) := by decide +kernel
theorem dX10_isFormHeld_33 : decode cX10_isFormHeld 33 = .ok (.getfield 22, 3) := by decide +kernel
theorem dX10_isFormHeld_36 : decode cX10_isFormHeld 36 = .ok (.aload_n 3, 1) := by decide +kernel
theorem dX10_isFormHeld_37 : decode cX10_isFormHeld 37 = .ok (.iconst (-1), 1) := by decide +kernel
theorem dX10_isFormHeld_38 : decode cX10_isFormHeld 38 = .ok (.invokevirtual 357, 3) := by decide +kernel
theorem dX10_isFormHeld_41 : decode cX10_isFormHeld 41 = .ok (.iinc 2 1, 3) := by decide +kernel
theorem dX10_isFormHeld_44 : decode cX10_isFormHeld 44 = .ok (.goto (-35), 3) := by decide +kernel
theorem dX10_isFormHeld_47 : decode cX10_isFormHeld 47 = .ok (.aload_n 0, 1) := by decide +kernel
theorem dX10_isFormHeld_48 : decode cX10_isFormHeld 48 = .ok (.getfield 22, 3) := by decide +kernel
theorem dX10_isFormHeld_51 : decode cX10_isFormHeld 51 = .ok (.invokevirtual 361, 3) := by decide +kernel
theorem dX10_isFormHeld_54 : decode cX10_isFormHeld 54 = .ok (.aload_n 0, 1) := by decide +kernel
theorem dX10_isFormHeld_55 : decode cX10_isFormHeld 55 = .ok (.getfield 22, 3) := by decide +kernel
theorem dX10_isFormHeld_58 : decode cX10_isFormHeld 58 = .ok (.getfield 364, 3) := by decide +kernel
theorem dX10_isFormHeld_61 : decode cX10_isFormHeld 61 = .ok (.ifCond .ne 7, 3) := by decide +kernel
theorem dX10_isFormHeld_64 : decode cX10_isFormHeld 64 = .ok (.iconst 1, 1) := by decide +kernel
theorem dX10_isFormHeld_65 : decode cX10_isFormHeld 65 = .ok (.goto 4, 3) := by decide +kernel
theorem dX10_isFormHeld_68 : decode cX10_isFormHeld 68 = .ok (.iconst 0, 1) := by decide +kernel
theorem dX10_isFormHeld_69 : decode cX10_isFormHeld 69 = .ok (.ireturn, 1) := by decide +kernel
theorem dX10_refreshPushes_0 : decode cX10_refreshPushes 0 = .ok (.aload_n 0, 1) := by decide +kernel
theorem dX10_refreshPushes_1 : decode cX10_refreshPushes 1 = .ok (.getfield 33, 3) := by decide +kernel
theorem dX10_refreshPushes_4 : decode cX10_refreshPushes 4 = .ok (.ifCond .ne 4, 3) := by decide +kernel
theorem dX10_refreshPushes_7 : decode cX10_refreshPushes 7 = .ok (.return_, 1) := by decide +kernel
theorem dX10_refreshPushes_8 : decode cX10_refreshPushes 8 = .ok (.aload_n 0, 1) := by decide +kernel
theorem dX10_refreshPushes_9 : decode cX10_refreshPushes 9 = .ok (.getfield 26, 3) := by decide +kernel
theorem dX10_refreshPushes_12 : decode cX10_refreshPushes 12 = .ok (.invokevirtual 356, 3) := by decide +kernel
theorem dX10_refreshPushes_15 : decode cX10_refreshPushes 15 = .ok (.aload_n 0, 1) := by decide +kernel
theorem dX10_refreshPushes_16 : decode cX10_refreshPushes 16 = .ok (.getfield 29, 3) := by decide +kernel
theorem dX10_refreshPushes_19 : decode cX10_refreshPushes 19 = .ok (.iconst 0, 1) := by decide +kernel
theorem dX10_refreshPushes_20 : decode cX10_refreshPushes 20 = .ok (.lconst 0, 1) := by decide +kernel
theorem dX10_refreshPushes_21 : decode cX10_refreshPushes 21 = .ok (.lastore, 1) := by decide +kernel
theorem dX10_refreshPushes_22 : decode cX10_refreshPushes 22 = .ok (.aload_n 0, 1) := by decide +kernel
theorem dX10_refreshPushes_23 : decode cX10_refreshPushes 23 = .ok (.getfield 29, 3) := by decide +kernel
theorem dX10_refreshPushes_26 : decode cX10_refreshPushes 26 = .ok (.iconst 1, 1) := by decide +kernel
theorem dX10_refreshPushes_27 : decode cX10_refreshPushes 27 = .ok (.lconst 0, 1) := by decide +kernel
theorem dX10_refreshPushes_28 : decode cX10_refreshPushes 28 = .ok (.lastore, 1) := by decide +kernel
theorem dX10_refreshPushes_29 : decode cX10_refreshPushes 29 = .ok (.aload_n 0, 1) := by decide +kernel
theorem dX10_refreshPushes_30 : decode cX10_refreshPushes 30 = .ok (.getfield 29, 3) := by decide +kernel
theorem dX10_refreshPushes_33 : decode cX10_refreshPushes 33 = .ok (.iconst 2, 1) := by decide +kernel
theorem dX10_refreshPushes_34 : decode cX10_refreshPushes 34 = .ok (.lconst 0, 1) := by decide +kernel
theorem dX10_refreshPushes_35 : decode cX10_refreshPushes 35 = .ok (.lastore, 1) := by decide +kernel
theorem dX10_refreshPushes_36 : decode cX10_refreshPushes 36 = .ok (.iconst 0, 1) := by decide +kernel
theorem dX10_refreshPushes_37 : decode cX10_refreshPushes 37 = .ok (.istore_n 1, 1) := by decide +kernel
theorem dX10_refreshPushes_38 : decode cX10_refreshPushes 38 = .ok (.iload_n 1, 1) := by decide +kernel
theorem dX10_refreshPushes_39 : decode cX10_refreshPushes 39 = .ok (.aload_n 0, 1) := by decide +kernel
theorem dX10_refreshPushes_40 : decode cX10_refreshPushes 40 = .ok (.getfield 15, 3) := by decide +kernel
theorem dX10_refreshPushes_43 : decode cX10_refreshPushes 43 = .ok (.if_icmp .ge 83, 3) := by decide +kernel
theorem dX10_refreshPushes_46 : decode cX10_refreshPushes 46 = .ok (.aload_n 0, 1) := by decide +kernel
theorem dX10_refreshPushes_47 : decode cX10_refreshPushes 47 = .ok (.iload_n 1, 1) := by decide +kernel
theorem dX10_refreshPushes_48 : decode cX10_refreshPushes 48 = .ok (.invokevirtual 90, 3) := by decide +kernel
theorem dX10_refreshPushes_51 : decode cX10_refreshPushes 51 = .ok (.astore_n 2, 1) := by decide +kernel
theorem dX10_refreshPushes_52 : decode cX10_refreshPushes 52 = .ok (.aload_n 2, 1) := by decide +kernel
theorem dX10_refreshPushes_53 : decode cX10_refreshPushes 53 = .ok (.ifnull 18, 3) := by decide +kernel
theorem dX10_refreshPushes_56 : decode cX10_refreshPushes 56 = .ok (.aload_n 2, 1) := by decide +kernel
theorem dX10_refreshPushes_57 : decode cX10_refreshPushes 57 = .ok (.invokevirtual 100, 3) := by decide +kernel
theorem dX10_refreshPushes_60 : decode cX10_refreshPushes 60 = .ok (.ifCond .eq 11, 3) := by decide +kernel
theorem dX10_refreshPushes_63 : decode cX10_refreshPushes 63 = .ok (.aload_n 0, 1) := by decide +kernel
theorem dX10_refreshPushes_64 : decode cX10_refreshPushes 64 = .ok (.aload_n 2, 1) := by decide +kernel
theorem dX10_refreshPushes_65 : decode cX10_refreshPushes 65 = .ok (.invokevirtual 367, 3) := by decide +kernel
theorem dX10_refreshPushes_68 : decode cX10_refreshPushes 68 = .ok (.goto 52, 3) := by decide +kernel
theorem dX10_refreshPushes_71 : decode cX10_refreshPushes 71 = .ok (.aload_n 2, 1) := by decide +kernel
theorem dX10_refreshPushes_72 : decode cX10_refreshPushes 72 = .ok (.ifnull 48, 3) := by decide +kernel
theorem dX10_refreshPushes_75 : decode cX10_refreshPushes 75 = .ok (.aload_n 0, 1) := by decide +kernel
theorem dX10_refreshPushes_76 : decode cX10_refreshPushes 76 = .ok (.getfield 29, 3) := by decide +kernel
theorem dX10_refreshPushes_79 : decode cX10_refreshPushes 79 = .ok (.iconst 0, 1) := by decide +kernel
theorem dX10_refreshPushes_80 : decode cX10_refreshPushes 80 = .ok (.dup2, 1) := by decide +kernel
theorem dX10_refreshPushes_81 : decode cX10_refreshPushes 81 = .ok (.laload, 1) := by decide +kernel
theorem dX10_refreshPushes_82 : decode cX10_refreshPushes 82 = .ok (.aload_n 2, 1) := by decide +kernel
theorem dX10_refreshPushes_83 : decode cX10_refreshPushes 83 = .ok (.iconst (-1), 1) := by decide +kernel
theorem dX10_refreshPushes_84 : decode cX10_refreshPushes 84 = .ok (.invokevirtual 130, 3) := by decide +kernel
theorem dX10_refreshPushes_87 : decode cX10_refreshPushes 87 = .ok (.i2l, 1) := by decide +kernel
theorem dX10_refreshPushes_88 : decode cX10_refreshPushes 88 = .ok (.ladd, 1) := by decide +kernel
theorem dX10_refreshPushes_89 : decode cX10_refreshPushes 89 = .ok (.lastore, 1) := by decide +kernel
theorem dX10_refreshPushes_90 : decode cX10_refreshPushes 90 = .ok (.aload_n 0, 1) := by decide +kernel
theorem dX10_refreshPushes_91 : decode cX10_refreshPushes 91 = .ok (.getfield 29, 3) := by decide +kernel
theorem dX10_refreshPushes_94 : decode cX10_refreshPushes 94 = .ok (.iconst 1, 1) := by decide +kernel
theorem dX10_refreshPushes_95 : decode cX10_refreshPushes 95 = .ok (.dup2, 1) := by decide +kernel
theorem dX10_refreshPushes_96 : decode cX10_refreshPushes 96 = .ok (.laload, 1) := by decide +kernel
theorem dX10_refreshPushes_97 : decode cX10_refreshPushes 97 = .ok (.aload_n 2, 1) := by decide +kernel
theorem dX10_refreshPushes_98 : decode cX10_refreshPushes 98 = .ok (.iconst (-1), 1) := by decide +kernel
theorem dX10_refreshPushes_99 : decode cX10_refreshPushes 99 = .ok (.invokevirtual 134, 3) := by decide +kernel
theorem dX10_refreshPushes_102 : decode cX10_refreshPushes 102 = .ok (.i2l, 1) := by decide +kernel
theorem dX10_refreshPushes_103 : decode cX10_refreshPushes 103 = .ok (.ladd, 1) := by decide +kernel
theorem dX10_refreshPushes_104 : decode cX10_refreshPushes 104 = .ok (.lastore, 1) := by decide +kernel
theorem dX10_refreshPushes_105 : decode cX10_refreshPushes 105 = .ok (.aload_n 0, 1) := by decide +kernel
theorem dX10_refreshPushes_106 : decode cX10_refreshPushes 106 = .ok (.getfield 29, 3) := by decide +kernel
theorem dX10_refreshPushes_109 : decode cX10_refreshPushes 109 = .ok (.iconst 2, 1) := by decide +kernel
theorem dX10_refreshPushes_110 : decode cX10_refreshPushes 110 = .ok (.dup2, 1) := by decide +kernel
theorem dX10_refreshPushes_111 : decode cX10_refreshPushes 111 = .ok (.laload, 1) := by decide +kernel
theorem dX10_refreshPushes_112 : decode cX10_refreshPushes 112 = .ok (.aload_n 2, 1) := by decide +kernel
theorem dX10_refreshPushes_113 : decode cX10_refreshPushes 113 = .ok (.iconst (-1), 1) := by decide +kernel
theorem dX10_refreshPushes_114 : decode cX10_refreshPushes 114 = .ok (.invokevirtual 137, 3) := by decide +kernel
theorem dX10_refreshPushes_117 : decode cX10_refreshPushes 117 = .ok (.i2l, 1) := by decide +kernel
theorem dX10_refreshPushes_118 : decode cX10_refreshPushes 118 = .ok (.ladd, 1) := by decide +kernel
theorem dX10_refreshPushes_119 : decode cX10_refreshPushes 119 = .ok (.lastore, 1) := by decide +kernel
theorem dX10_refreshPushes_120 : decode cX10_refreshPushes 120 = .ok (.iinc 1 1, 3) := by decide +kernel
theorem dX10_refreshPushes_123 : decode cX10_refreshPushes 123 = .ok (.goto (-85), 3) := by decide +kernel
theorem dX10_refreshPushes_126 : decode cX10_refreshPushes 126 = .ok (.aload_n 0, 1) := by decide +kernel
theorem dX10_refreshPushes_127 : decode cX10_refreshPushes 127 = .ok (.getfield 26, 3) := by decide +kernel
theorem dX10_refreshPushes_130 : decode cX10_refreshPushes 130 = .ok (.invokevirtual 361, 3) := by decide +kernel
theorem dX10_refreshPushes_133 : decode cX10_refreshPushes 133 = .ok (.aload_n 0, 1) := by decide +kernel
theorem dX10_refreshPushes_134 : decode cX10_refreshPushes 134 = .ok (.iconst 0, 1) := by decide +kernel
theorem dX10_refreshPushes_135 : decode cX10_refreshPushes 135 = .ok (.putfield 33, 3) := by decide +kernel
theorem dX10_refreshPushes_138 : decode cX10_refreshPushes 138 = .ok (.return_, 1) := by decide +kernel
theorem dX10_addPushes_0 : decode cX10_addPushes 0 = .ok (.iconst 0, 1) := by decide +kernel
theorem dX10_addPushes_1 : decode cX10_addPushes 1 = .ok (.istore_n 2, 1) := by decide +kernel
theorem dX10_addPushes_2 : decode cX10_addPushes 2 = .ok (.iload_n 2, 1) := by decide +kernel
theorem dX10_addPushes_3 : decode cX10_addPushes 3 = .ok (.aload_n 1, 1) := by decide +kernel
theorem dX10_addPushes_4 : decode cX10_addPushes 4 = .ok (.invokevirtual 120, 3) := by decide +kernel
theorem dX10_addPushes_7 : decode cX10_addPushes 7 = .ok (.if_icmp .ge 18, 3) := by decide +kernel
theorem dX10_addPushes_10 : decode cX10_addPushes 10 = .ok (.aload_n 0, 1) := by decide +kernel
theorem dX10_addPushes_11 : decode cX10_addPushes 11 = .ok (.getfield 26, 3) := by decide +kernel
theorem dX10_addPushes_14 : decode cX10_addPushes 14 = .ok (.aload_n 1, 1) := by decide +kernel
theorem dX10_addPushes_15 : decode cX10_addPushes 15 = .ok (.iload_n 2, 1) := by decide +kernel
theorem dX10_addPushes_16 : decode cX10_addPushes 16 = .ok (.invokevirtual 357, 3) := by decide +kernel
theorem dX10_addPushes_19 : decode cX10_addPushes 19 = .ok (.iinc 2 1, 3) := by decide +kernel
theorem dX10_addPushes_22 : decode cX10_addPushes 22 = .ok (.goto (-20), 3) := by decide +kernel
theorem dX10_addPushes_25 : decode cX10_addPushes 25 = .ok (.return_, 1) := by decide +kernel
theorem dX10_isHeld_0 : decode cX10_isHeld 0 = .ok (.aload_n 0, 1) := by decide +kernel
theorem dX10_isHeld_1 : decode cX10_isHeld 1 = .ok (.getfield 26, 3) := by decide +kernel
theorem dX10_isHeld_4 : decode cX10_isHeld 4 = .ok (.lload_n 1, 1) := by decide +kernel
theorem dX10_isHeld_5 : decode cX10_isHeld 5 = .ok (.lneg, 1) := by decide +kernel
theorem dX10_isHeld_6 : decode cX10_isHeld 6 = .ok (.lload 7, 2) := by decide +kernel
theorem dX10_isHeld_8 : decode cX10_isHeld 8 = .ok (.aload_n 0, 1) := by decide +kernel
theorem dX10_isHeld_9 : decode cX10_isHeld 9 = .ok (.getfield 29, 3) := by decide +kernel
theorem dX10_isHeld_12 : decode cX10_isHeld 12 = .ok (.iconst 0, 1) := by decide +kernel
theorem dX10_isHeld_13 : decode cX10_isHeld 13 = .ok (.laload, 1) := by decide +kernel
theorem dX10_isHeld_14 : decode cX10_isHeld 14 = .ok (.lmul, 1) := by decide +kernel
theorem dX10_isHeld_15 : decode cX10_isHeld 15 = .ok (.lsub, 1) := by decide +kernel
theorem dX10_isHeld_16 : decode cX10_isHeld 16 = .ok (.lload_n 3, 1) := by decide +kernel
theorem dX10_isHeld_17 : decode cX10_isHeld 17 = .ok (.lneg, 1) := by decide +kernel
theorem dX10_isHeld_18 : decode cX10_isHeld 18 = .ok (.lload 7, 2) := by decide +kernel
theorem dX10_isHeld_20 : decode cX10_isHeld 20 = .ok (.aload_n 0, 1) := by decide +kernel
theorem dX10_isHeld_21 : decode cX10_isHeld 21 = .ok (.getfield 29, 3) := by decide +kernel
theorem dX10_isHeld_24 : decode cX10_isHeld 24 = .ok (.iconst 1, 1) := by decide +kernel
theorem dX10_isHeld_25 : decode cX10_isHeld 25 = .ok (.laload, 1) := by decide +kernel
theorem dX10_isHeld_26 : decode cX10_isHeld 26 = .ok (.lmul, 1) := by decide +kernel
theorem dX10_isHeld_27 : decode cX10_isHeld 27 = .ok (.lsub, 1) := by decide +kernel
theorem dX10_isHeld_28 : decode cX10_isHeld 28 = .ok (.lload 5, 2) := by decide +kernel
theorem dX10_isHeld_30 : decode cX10_isHeld 30 = .ok (.lneg, 1) := by decide +kernel
theorem dX10_isHeld_31 : decode cX10_isHeld 31 = .ok (.lload 7, 2) := by decide +kernel
theorem dX10_isHeld_33 : decode cX10_isHeld 33 = .ok (.aload_n 0, 1) := by decide +kernel
theorem dX10_isHeld_34 : decode cX10_isHeld 34 = .ok (.getfield 29, 3) := by decide +kernel
theorem dX10_isHeld_37 : decode cX10_isHeld 37 = .ok (.iconst 2, 1) := by decide +kernel
theorem dX10_isHeld_38 : decode cX10_isHeld 38 = .ok (.laload, 1) := by decide +kernel
theorem dX10_isHeld_39 : decode cX10_isHeld 39 = .ok (.lmul, 1) := by decide +kernel
theorem dX10_isHeld_40 : decode cX10_isHeld 40 = .ok (.lsub, 1) := by decide +kernel
theorem dX10_isHeld_41 : decode cX10_isHeld 41 = .ok (.invokevirtual 370, 3) := by decide +kernel
theorem dX10_isHeld_44 : decode cX10_isHeld 44 = .ok (.ireturn, 1) := by decide +kernel
theorem dX10_tryThree_0 : decode cX10_tryThree 0 = .ok (.aload_n 0, 1) := by decide +kernel
theorem dX10_tryThree_1 : decode cX10_tryThree 1 = .ok (.iload_n 1, 1) := by decide +kernel
theorem dX10_tryThree_2 : decode cX10_tryThree 2 = .ok (.invokevirtual 205, 3) := by decide +kernel
theorem dX10_tryThree_5 : decode cX10_tryThree 5 = .ok (.astore 4, 2) := by decide +kernel
theorem dX10_tryThree_7 : decode cX10_tryThree 7 = .ok (.aload_n 0, 1) := by decide +kernel
theorem dX10_tryThree_8 : decode cX10_tryThree 8 = .ok (.iload_n 2, 1) := by decide +kernel
theorem dX10_tryThree_9 : decode cX10_tryThree 9 = .ok (.invokevirtual 205, 3) := by decide +kernel
theorem dX10_tryThree_12 : decode cX10_tryThree 12 = .ok (.astore 5, 2) := by decide +kernel
theorem dX10_tryThree_14 : decode cX10_tryThree 14 = .ok (.aload_n 0, 1) := by decide +kernel
theorem dX10_tryThree_15 : decode cX10_tryThree 15 = .ok (.iload_n 3, 1) := by decide +kernel
theorem dX10_tryThree_16 : decode cX10_tryThree 16 = .ok (.invokevirtual 205, 3) := by decide +kernel
theorem dX10_tryThree_19 : decode cX10_tryThree 19 = .ok (.astore 6, 2) := by decide +kernel
theorem dX10_tryThree_21 : decode cX10_tryThree 21 = .ok (.aload 4, 2) := by decide +kernel
theorem dX10_tryThree_23 : decode cX10_tryThree 23 = .ok (.ifnull 13, 3) := by decide +kernel
theorem dX10_tryThree_26 : decode cX10_tryThree 26 = .ok (.aload 5, 2) := by decide +kernel
theorem dX10_tryThree_28 : decode cX10_tryThree 28 = .ok (.ifnull 8, 3) := by decide +kernel
theorem dX10_tryThree_31 : decode cX10_tryThree 31 = .ok (.aload 6, 2) := by decide +kernel
theorem dX10_tryThree_33 : decode cX10_tryThree 33 = .ok (.ifnonnull 4, 3) := by decide +kernel
theorem dX10_tryThree_36 : decode cX10_tryThree 36 = .ok (.return_, 1) := by decide +kernel
theorem dX10_tryThree_37 : decode cX10_tryThree 37 = .ok (.aload_n 0, 1) := by decide +kernel
theorem dX10_tryThree_38 : decode cX10_tryThree 38 = .ok (.getfield 47, 3) := by decide +kernel
theorem dX10_tryThree_41 : decode cX10_tryThree 41 = .ok (.aload 4, 2) := by decide +kernel
theorem dX10_tryThree_43 : decode cX10_tryThree 43 = .ok (.aload 5, 2) := by decide +kernel
theorem dX10_tryThree_45 : decode cX10_tryThree 45 = .ok (.aload 6, 2) := by decide +kernel
theorem dX10_tryThree_47 : decode cX10_tryThree 47 = .ok (.invokevirtual 214, 3) := by decide +kernel
theorem dX10_tryThree_50 : decode cX10_tryThree 50 = .ok (.ifCond .eq 21, 3) := by decide +kernel
theorem dX10_tryThree_53 : decode cX10_tryThree 53 = .ok (.aload_n 0, 1) := by decide +kernel
theorem dX10_tryThree_54 : decode cX10_tryThree 54 = .ok (.getfield 47, 3) := by decide +kernel
theorem dX10_tryThree_57 : decode cX10_tryThree 57 = .ok (.iload_n 1, 1) := by decide +kernel
theorem dX10_tryThree_58 : decode cX10_tryThree 58 = .ok (.bipush 10, 2) := by decide +kernel
theorem dX10_tryThree_60 : decode cX10_tryThree 60 = .ok (.iload_n 2, 1) := by decide +kernel
theorem dX10_tryThree_61 : decode cX10_tryThree 61 = .ok (.imul, 1) := by decide +kernel
theorem dX10_tryThree_62 : decode cX10_tryThree 62 = .ok (.iadd, 1) := by decide +kernel
theorem dX10_tryThree_63 : decode cX10_tryThree 63 = .ok (.bipush 100, 2) := by decide +kernel
theorem dX10_tryThree_65 : decode cX10_tryThree 65 = .ok (.iload_n 3, 1) := by decide +kernel
theorem dX10_tryThree_66 : decode cX10_tryThree 66 = .ok (.imul, 1) := by decide +kernel
theorem dX10_tryThree_67 : decode cX10_tryThree 67 = .ok (.iadd, 1) := by decide +kernel
theorem dX10_tryThree_68 : decode cX10_tryThree 68 = .ok (.invokevirtual 374, 3) := by decide +kernel
theorem dX10_tryThree_71 : decode cX10_tryThree 71 = .ok (.return_, 1) := by decide +kernel
theorem dX10_commonDivisor_0 : decode cX10_commonDivisor 0 = .ok (.lload_n 0, 1) := by decide +kernel
theorem dX10_commonDivisor_1 : decode cX10_commonDivisor 1 = .ok (.invokestatic 378, 3) := by decide +kernel
theorem dX10_commonDivisor_4 : decode cX10_commonDivisor 4 = .ok (.lstore 4, 2) := by decide +kernel
theorem dX10_commonDivisor_6 : decode cX10_commonDivisor 6 = .ok (.lload_n 2, 1) := by decide +kernel
theorem dX10_commonDivisor_7 : decode cX10_commonDivisor 7 = .ok (.invokestatic 378, 3) := by decide +kernel
theorem dX10_commonDivisor_10 : decode cX10_commonDivisor 10 = .ok (.lstore 6, 2) := by decide +kernel
theorem dX10_commonDivisor_12 : decode cX10_commonDivisor 12 = .ok (.iconst 0, 1) := by decide +kernel
theorem dX10_commonDivisor_13 : decode cX10_commonDivisor 13 = .ok (.istore 8, 2) := by decide +kernel
theorem dX10_commonDivisor_15 : decode cX10_commonDivisor 15 = .ok (.iload 8, 2) := by decide +kernel
theorem dX10_commonDivisor_17 : decode cX10_commonDivisor 17 = .ok (.bipush 100, 2) := by decide +kernel
theorem dX10_commonDivisor_19 : decode cX10_commonDivisor 19 = .ok (.if_icmp .ge 31, 3) := by decide +kernel
theorem dX10_commonDivisor_22 : decode cX10_commonDivisor 22 = .ok (.lload 6, 2) := by decide +kernel
theorem dX10_commonDivisor_24 : decode cX10_commonDivisor 24 = .ok (.lconst 0, 1) := by decide +kernel
theorem dX10_commonDivisor_25 : decode cX10_commonDivisor 25 = .ok (.lcmp, 1) := by decide +kernel
theorem dX10_commonDivisor_26 : decode cX10_commonDivisor 26 = .ok (.ifCond .eq 24, 3) := by decide +kernel
theorem dX10_commonDivisor_29 : decode cX10_commonDivisor 29 = .ok (.lload 4, 2) := by decide +kernel
theorem dX10_commonDivisor_31 : decode cX10_commonDivisor 31 = .ok (.lload 6, 2) := by decide +kernel
theorem dX10_commonDivisor_33 : decode cX10_commonDivisor 33 = .ok (.lrem, 1) := by decide +kernel
theorem dX10_commonDivisor_34 : decode cX10_commonDivisor 34 = .ok (.lstore 9, 2) := by decide +kernel
theorem dX10_commonDivisor_36 : decode cX10_commonDivisor 36 = .ok (.lload 6, 2) := by decide +kernel
theorem dX10_commonDivisor_38 : decode cX10_commonDivisor 38 = .ok (.lstore 4, 2) := by decide +kernel
theorem dX10_commonDivisor_40 : decode cX10_commonDivisor 40 = .ok (.lload 9, 2) := by decide +kernel
theorem dX10_commonDivisor_42 : decode cX10_commonDivisor 42 = .ok (.lstore 6, 2) := by decide +kernel
theorem dX10_commonDivisor_44 : decode cX10_commonDivisor 44 = .ok (.iinc 8 1, 3) := by decide +kernel
theorem dX10_commonDivisor_47 : decode cX10_commonDivisor 47 = .ok (.goto (-32), 3) := by decide +kernel
theorem dX10_commonDivisor_50 : decode cX10_commonDivisor 50 = .ok (.lload 4, 2) := by decide +kernel
theorem dX10_commonDivisor_52 : decode cX10_commonDivisor 52 = .ok (.lreturn, 1) := by decide +kernel
theorem dX11_init_0 : decode cX11_init 0 = .ok (.aload_n 0, 1) := by decide +kernel
theorem dX11_init_1 : decode cX11_init 1 = .ok (.invokespecial 1, 3) := by decide +kernel
theorem dX11_init_4 : decode cX11_init 4 = .ok (.aload_n 0, 1) := by decide +kernel
theorem dX11_init_5 : decode cX11_init 5 = .ok (.iconst 0, 1) := by decide +kernel
theorem dX11_init_6 : decode cX11_init 6 = .ok (.putfield 7, 3) := by decide +kernel
theorem dX11_init_9 : decode cX11_init 9 = .ok (.aload_n 0, 1) := by decide +kernel
theorem dX11_init_10 : decode cX11_init 10 = .ok (.iconst 0, 1) := by decide +kernel
theorem dX11_init_11 : decode cX11_init 11 = .ok (.putfield 13, 3) := by decide +kernel
theorem dX11_init_14 : decode cX11_init 14 = .ok (.aload_n 0, 1) := by decide +kernel
theorem dX11_init_15 : decode cX11_init 15 = .ok (.bipush 10, 2) := by decide +kernel
theorem dX11_init_17 : decode cX11_init 17 = .ok (.newarray .int, 2) := by decide +kernel
theorem dX11_init_19 : decode cX11_init 19 = .ok (.putfield 16, 3) := by decide +kernel
theorem dX11_init_22 : decode cX11_init 22 = .ok (.aload_n 0, 1) := by decide +kernel
theorem dX11_init_23 : decode cX11_init 23 = .ok (.bipush 10, 2) := by decide +kernel
theorem dX11_init_25 : decode cX11_init 25 = .ok (.newarray .int, 2) := by decide +kernel
theorem dX11_init_27 : decode cX11_init 27 = .ok (.putfield 20, 3) := by decide +kernel
theorem dX11_init_30 : decode cX11_init 30 = .ok (.aload_n 0, 1) := by decide +kernel
theorem dX11_init_31 : decode cX11_init 31 = .ok (.bipush 10, 2) := by decide +kernel
theorem dX11_init_33 : decode cX11_init 33 = .ok (.newarray .int, 2) := by decide +kernel
theorem dX11_init_35 : decode cX11_init 35 = .ok (.putfield 23, 3) := by decide +kernel
theorem dX11_init_38 : decode cX11_init 38 = .ok (.aload_n 0, 1) := by decide +kernel
theorem dX11_init_39 : decode cX11_init 39 = .ok (.bipush 10, 2) := by decide +kernel
theorem dX11_init_41 : decode cX11_init 41 = .ok (.newarray .int, 2) := by decide +kernel
theorem dX11_init_43 : decode cX11_init 43 = .ok (.putfield 26, 3) := by decide +kernel
theorem dX11_init_46 : decode cX11_init 46 = .ok (.aload_n 0, 1) := by decide +kernel
theorem dX11_init_47 : decode cX11_init 47 = .ok (.bipush 10, 2) := by decide +kernel
theorem dX11_init_49 : decode cX11_init 49 = .ok (.newarray .int, 2) := by decide +kernel
theorem dX11_init_51 : decode cX11_init 51 = .ok (.putfield 29, 3) := by decide +kernel
theorem dX11_init_54 : decode cX11_init 54 = .ok (.aload_n 0, 1) := by decide +kernel
theorem dX11_init_55 : decode cX11_init 55 = .ok (.bipush 10, 2) := by decide +kernel
theorem dX11_init_57 : decode cX11_init 57 = .ok (.newarray .int, 2) := by decide +kernel
theorem dX11_init_59 : decode cX11_init 59 = .ok (.putfield 32, 3) := by decide +kernel
theorem dX11_init_62 : decode cX11_init 62 = .ok (.aload_n 0, 1) := by decide +kernel
theorem dX11_init_63 : decode cX11_init 63 = .ok (.bipush 10, 2) := by decide +kernel
theorem dX11_init_65 : decode cX11_init 65 = .ok (.newarray .int, 2) := by decide +kernel
theorem dX11_init_67 : decode cX11_init 67 = .ok (.putfield 35, 3) := by decide +kernel
theorem dX11_init_70 : decode cX11_init 70 = .ok (.aload_n 0, 1) := by decide +kernel
theorem dX11_init_71 : decode cX11_init 71 = .ok (.iconst 0, 1) := by decide +kernel
theorem dX11_init_72 : decode cX11_init 72 = .ok (.putfield 38, 3) := by decide +kernel
theorem dX11_init_75 : decode cX11_init 75 = .ok (.aload_n 0, 1) := by decide +kernel
theorem dX11_init_76 : decode cX11_init 76 = .ok (.bipush 90, 2) := by decide +kernel
theorem dX11_init_78 : decode cX11_init 78 = .ok (.newarray .long, 2) := by decide +kernel
theorem dX11_init_80 : decode cX11_init 80 = .ok (.putfield 41, 3) := by decide +kernel
theorem dX11_init_83 : decode cX11_init 83 = .ok (.aload_n 0, 1) := by decide +kernel
theorem dX11_init_84 : decode cX11_init 84 = .ok (.iconst 3, 1) := by decide +kernel
theorem dX11_init_85 : decode cX11_init 85 = .ok (.newarray .long, 2) := by decide +kernel
theorem dX11_init_87 : decode cX11_init 87 = .ok (.putfield 45, 3) := by decide +kernel
theorem dX11_init_90 : decode cX11_init 90 = .ok (.aload_n 0, 1) := by decide +kernel
theorem dX11_init_91 : decode cX11_init 91 = .ok (.iconst 0, 1) := by decide +kernel
theorem dX11_init_92 : decode cX11_init 92 = .ok (.putfield 48, 3) := by decide +kernel
theorem dX11_init_95 : decode cX11_init 95 = .ok (.aload_n 0, 1) := by decide +kernel
theorem dX11_init_96 : decode cX11_init 96 = .ok (.iconst 0, 1) := by decide +kernel
theorem dX11_init_97 : decode cX11_init 97 = .ok (.putfield 51, 3) := by decide +kernel
theorem dX11_init_100 : decode cX11_init 100 = .ok (.aload_n 0, 1) := by decide +kernel
theorem dX11_init_101 : decode cX11_init 101 = .ok (.sipush 2700, 3) := by decide +kernel
theorem dX11_init_104 : decode cX11_init 104 = .ok (.newarray .long, 2) := by decide +kernel
theorem dX11_init_106 : decode cX11_init 106 = .ok (.putfield 54, 3) := by decide +kernel
theorem dX11_init_109 : decode cX11_init 109 = .ok (.aload_n 0, 1) := by decide +kernel
theorem dX11_init_110 : decode cX11_init 110 = .ok (.iconst 3, 1) := by decide +kernel
theorem dX11_init_111 : decode cX11_init 111 = .ok (.newarray .long, 2) := by decide +kernel
theorem dX11_init_113 : decode cX11_init 113 = .ok (.putfield 57, 3) := by decide +kernel
theorem dX11_init_116 : decode cX11_init 116 = .ok (.aload_n 0, 1) := by decide +kernel
theorem dX11_init_117 : decode cX11_init 117 = .ok (.iconst 3, 1) := by decide +kernel
theorem dX11_init_118 : decode cX11_init 118 = .ok (.newarray .long, 2) := by decide +kernel
theorem dX11_init_120 : decode cX11_init 120 = .ok (.putfield 60, 3) := by decide +kernel
theorem dX11_init_123 : decode cX11_init 123 = .ok (.aload_n 0, 1) := by decide +kernel
theorem dX11_init_124 : decode cX11_init 124 = .ok (.iconst 0, 1) := by decide +kernel
theorem dX11_init_125 : decode cX11_init 125 = .ok (.putfield 63, 3) := by decide +kernel
theorem dX11_init_128 : decode cX11_init 128 = .ok (.aload_n 0, 1) := by decide +kernel
theorem dX11_init_129 : decode cX11_init 129 = .ok (.bipush 48, 2) := by decide +kernel
theorem dX11_init_131 : decode cX11_init 131 = .ok (.newarray .int, 2) := by decide +kernel
theorem dX11_init_133 : decode cX11_init 133 = .ok (.putfield 66, 3) := by decide +kernel
theorem dX11_init_136 : decode cX11_init 136 = .ok (.aload_n 0, 1) := by decide +kernel
theorem dX11_init_137 : decode cX11_init 137 = .ok (.bipush 9, 2) := by decide +kernel
theorem dX11_init_139 : decode cX11_init 139 = .ok (.newarray .long, 2) := by decide +kernel
theorem dX11_init_141 : decode cX11_init 141 = .ok (.putfield 69, 3) := by decide +kernel
theorem dX11_init_144 : decode cX11_init 144 = .ok (.aload_n 0, 1) := by decide +kernel
theorem dX11_init_145 : decode cX11_init 145 = .ok (.iconst 3, 1) := by decide +kernel
theorem dX11_init_146 : decode cX11_init 146 = .ok (.newarray .long, 2) := by decide +kernel
theorem dX11_init_148 : decode cX11_init 148 = .ok (.putfield 72, 3) := by decide +kernel
theorem dX11_init_151 : decode cX11_init 151 = .ok (.aload_n 0, 1) := by decide +kernel
theorem dX11_init_152 : decode cX11_init 152 = .ok (.lconst 0, 1) := by decide +kernel
theorem dX11_init_153 : decode cX11_init 153 = .ok (.putfield 75, 3) := by decide +kernel
theorem dX11_init_156 : decode cX11_init 156 = .ok (.aload_n 0, 1) := by decide +kernel
theorem dX11_init_157 : decode cX11_init 157 = .ok (.lconst 1, 1) := by decide +kernel
theorem dX11_init_158 : decode cX11_init 158 = .ok (.putfield 79, 3) := by decide +kernel
theorem dX11_init_161 : decode cX11_init 161 = .ok (.aload_n 0, 1) := by decide +kernel
theorem dX11_init_162 : decode cX11_init 162 = .ok (.iconst 0, 1) := by decide +kernel
theorem dX11_init_163 : decode cX11_init 163 = .ok (.putfield 82, 3) := by decide +kernel
theorem dX11_init_166 : decode cX11_init 166 = .ok (.aload_n 0, 1) := by decide +kernel
theorem dX11_init_167 : decode cX11_init 167 = .ok (.bipush 12, 2) := by decide +kernel
theorem dX11_init_169 : decode cX11_init 169 = .ok (.newarray .int, 2) := by decide +kernel
theorem dX11_init_171 : decode cX11_init 171 = .ok (.putfield 85, 3) := by decide +kernel
theorem dX11_init_174 : decode cX11_init 174 = .ok (.aload_n 0, 1) := by decide +kernel
theorem dX11_init_175 : decode cX11_init 175 = .ok (.bipush 12, 2) := by decide +kernel
theorem dX11_init_177 : decode cX11_init 177 = .ok (.newarray .int, 2) := by decide +kernel
theorem dX11_init_179 : decode cX11_init 179 = .ok (.putfield 88, 3) := by decide +kernel
theorem dX11_init_182 : decode cX11_init 182 = .ok (.aload_n 0, 1) := by decide +kernel
theorem dX11_init_183 : decode cX11_init 183 = .ok (.sipush 4096, 3) := by decide +kernel
theorem dX11_init_186 : decode cX11_init 186 = .ok (.newarray .int, 2) := by decide +kernel
theorem dX11_init_188 : decode cX11_init 188 = .ok (.putfield 91, 3) := by decide +kernel
theorem dX11_init_191 : decode cX11_init 191 = .ok (.aload_n 0, 1) := by decide +kernel
theorem dX11_init_192 : decode cX11_init 192 = .ok (.iconst 0, 1) := by decide +kernel
theorem dX11_init_193 : decode cX11_init 193 = .ok (.putfield 94, 3) := by decide +kernel
theorem dX11_init_196 : decode cX11_init 196 = .ok (.aload_n 0, 1) := by decide +kernel
theorem dX11_init_197 : decode cX11_init 197 = .ok (.iconst 0, 1) := by decide +kernel
theorem dX11_init_198 : decode cX11_init 198 = .ok (.putfield 97, 3) := by decide +kernel
theorem dX11_init_201 : decode cX11_init 201 = .ok (.aload_n 0, 1) := by decide +kernel
theorem dX11_init_202 : decode cX11_init 202 = .ok (.bipush 40, 2) := by decide +kernel
theorem dX11_init_204 : decode cX11_init 204 = .ok (.newarray .int, 2) := by decide +kernel
theorem dX11_init_206 : decode cX11_init 206 = .ok (.putfield 100, 3) := by decide +kernel
theorem dX11_init_209 : decode cX11_init 209 = .ok (.aload_n 0, 1) := by decide +kernel
theorem dX11_init_210 : decode cX11_init 210 = .ok (.bipush 40, 2) := by decide +kernel
theorem dX11_init_212 : decode cX11_init 212 = .ok (.newarray .int, 2) := by decide +kernel
theorem dX11_init_214 : decode cX11_init 214 = .ok (.putfield 103, 3) := by decide +kernel
theorem dX11_init_217 : decode cX11_init 217 = .ok (.aload_n 0, 1) := by decide +kernel
theorem dX11_init_218 : decode cX11_init 218 = .ok (.bipush 8, 2) := by decide +kernel
theorem dX11_init_220 : decode cX11_init 220 = .ok (.newarray .int, 2) := by decide +kernel
theorem dX11_init_222 : decode cX11_init 222 = .ok (.putfield 106, 3) := by decide +kernel
theorem dX11_init_225 : decode cX11_init 225 = .ok (.aload_n 0, 1) := by decide +kernel
theorem dX11_init_226 : decode cX11_init 226 = .ok (.bipush 8, 2) := by decide +kernel
theorem dX11_init_228 : decode cX11_init 228 = .ok (.newarray .int, 2) := by decide +kernel
theorem dX11_init_230 : decode cX11_init 230 = .ok (.putfield 109, 3) := by decide +kernel
theorem dX11_init_233 : decode cX11_init 233 = .ok (.aload_n 0, 1) := by decide +kernel
theorem dX11_init_234 : decode cX11_init 234 = .ok (.bipush 8, 2) := by decide +kernel
theorem dX11_init_236 : decode cX11_init 236 = .ok (.newarray .int, 2) := by decide +kernel
theorem dX11_init_238 : decode cX11_init 238 = .ok (.putfield 112, 3) := by decide +kernel
theorem dX11_init_241 : decode cX11_init 241 = .ok (.aload_n 0, 1) := by decide +kernel
theorem dX11_init_242 : decode cX11_init 242 = .ok (.bipush 8, 2) := by decide +kernel
theorem dX11_init_244 : decode cX11_init 244 = .ok (.newarray .int, 2) := by decide +kernel
theorem dX11_init_246 : decode cX11_init 246 = .ok (.putfield 115, 3) := by decide +kernel
theorem dX11_init_249 : decode cX11_init 249 = .ok (.aload_n 0, 1) := by decide +kernel
theorem dX11_init_250 : decode cX11_init 250 = .ok (.bipush 8, 2) := by decide +kernel
theorem dX11_init_252 : decode cX11_init 252 = .ok (.newarray .int, 2) := by decide +kernel
theorem dX11_init_254 : decode cX11_init 254 = .ok (.putfield 118, 3) := by decide +kernel
theorem dX11_init_257 : decode cX11_init 257 = .ok (.aload_n 0, 1) := by decide +kernel
theorem dX11_init_258 : decode cX11_init 258 = .ok (.bipush 8, 2) := by decide +kernel
theorem dX11_init_260 : decode cX11_init 260 = .ok (.newarray .int, 2) := by decide +kernel
theorem dX11_init_262 : decode cX11_init 262 = .ok (.putfield 121, 3) := by decide +kernel
theorem dX11_init_265 : decode cX11_init 265 = .ok (.aload_n 0, 1) := by decide +kernel
theorem dX11_init_266 : decode cX11_init 266 = .ok (.sipush 480, 3) := by decide +kernel
theorem dX11_init_269 : decode cX11_init 269 = .ok (.newarray .int, 2) := by decide +kernel
theorem dX11_init_271 : decode cX11_init 271 = .ok (.putfield 124, 3) := by decide +kernel
theorem dX11_init_274 : decode cX11_init 274 = .ok (.aload_n 0, 1) := by decide +kernel
theorem dX11_init_275 : decode cX11_init 275 = .ok (.bipush 60, 2) := by decide +kernel
theorem dX11_init_277 : decode cX11_init 277 = .ok (.newarray .int, 2) := by decide +kernel
theorem dX11_init_279 : decode cX11_init 279 = .ok (.putfield 127, 3) := by decide +kernel
theorem dX11_init_282 : decode cX11_init 282 = .ok (.return_, 1) := by decide +kernel
theorem dX11_thrown_0 : decode cX11_thrown 0 = .ok (.aload_n 0, 1) := by decide +kernel
theorem dX11_thrown_1 : decode cX11_thrown 1 = .ok (.getfield 7, 3) := by decide +kernel
theorem dX11_thrown_4 : decode cX11_thrown 4 = .ok (.ireturn, 1) := by decide +kernel
theorem dX11_in_0 : decode cX11_in 0 = .ok (.iload_n 1, 1) := by decide +kernel
theorem dX11_in_1 : decode cX11_in 1 = .ok (.iload_n 2, 1) := by decide +kernel
theorem dX11_in_2 : decode cX11_in 2 = .ok (.if_icmp .lt 12, 3) := by decide +kernel
theorem dX11_in_5 : decode cX11_in 5 = .ok (.iload_n 1, 1) := by decide +kernel
theorem dX11_in_6 : decode cX11_in 6 = .ok (.iload_n 3, 1) := by decide +kernel
theorem dX11_in_7 : decode cX11_in 7 = .ok (.if_icmp .gt 7, 3) := by decide +kernel
theorem dX11_in_10 : decode cX11_in 10 = .ok (.iconst 1, 1) := by decide +kernel
theorem dX11_in_11 : decode cX11_in 11 = .ok (.goto 4, 3) := by decide +kernel
theorem dX11_in_14 : decode cX11_in 14 = .ok (.iconst 0, 1) := by decide +kernel
theorem dX11_in_15 : decode cX11_in 15 = .ok (.ireturn, 1) := by decide +kernel
theorem dX11_abs_0 : decode cX11_abs 0 = .ok (.lload_n 1, 1) := by decide +kernel
theorem dX11_abs_1 : decode cX11_abs 1 = .ok (.lconst 0, 1) := by decide +kernel
theorem dX11_abs_2 : decode cX11_abs 2 = .ok (.lcmp, 1) := by decide +kernel
theorem dX11_abs_3 : decode cX11_abs 3 = .ok (.ifCond .ge 8, 3) := by decide +kernel
theorem dX11_abs_6 : decode cX11_abs 6 = .ok (.lload_n 1, 1) := by decide +kernel
theorem dX11_abs_7 : decode cX11_abs 7 = .ok (.lneg, 1) := by decide +kernel
theorem dX11_abs_8 : decode cX11_abs 8 = .ok (.goto 4, 3) := by decide +kernel
theorem dX11_abs_11 : decode cX11_abs 11 = .ok (.lload_n 1, 1) := by decide +kernel
theorem dX11_abs_12 : decode cX11_abs 12 = .ok (.lreturn, 1) := by decide +kernel
theorem dX11_isContact_0 : decode cX11_isContact 0 = .ok (.aload_n 0, 1) := by decide +kernel
theorem dX11_isContact_1 : decode cX11_isContact 1 = .ok (.iload_n 1, 1) := by decide +kernel
theorem dX11_isContact_2 : decode cX11_isContact 2 = .ok (.iconst 0, 1) := by decide +kernel
theorem dX11_isContact_3 : decode cX11_isContact 3 = .ok (.aload_n 0, 1) := by decide +kernel
theorem dX11_isContact_4 : decode cX11_isContact 4 = .ok (.getfield 13, 3) := by decide +kernel
theorem dX11_isContact_7 : decode cX11_isContact 7 = .ok (.iconst 1, 1) := by decide +kernel
theorem dX11_isContact_8 : decode cX11_isContact 8 = .ok (.isub, 1) := by decide +kernel
theorem dX11_isContact_9 : decode cX11_isContact 9 = .ok (.invokevirtual 130, 3) := by decide +kernel
theorem dX11_isContact_12 : decode cX11_isContact 12 = .ok (.ireturn, 1) := by decide +kernel
theorem dX11_isPlace_0 : decode cX11_isPlace 0 = .ok (.aload_n 0, 1) := by decide +kernel
theorem dX11_isPlace_1 : decode cX11_isPlace 1 = .ok (.iload_n 1, 1) := by decide +kernel
theorem dX11_isPlace_2 : decode cX11_isPlace 2 = .ok (.bipush (-100), 2) := by decide +kernel
theorem dX11_isPlace_4 : decode cX11_isPlace 4 = .ok (.bipush 100, 2) := by decide +kernel
theorem dX11_isPlace_6 : decode cX11_isPlace 6 = .ok (.invokevirtual 130, 3) := by decide +kernel
theorem dX11_isPlace_9 : decode cX11_isPlace 9 = .ok (.ifCond .eq 19, 3) := by decide +kernel
theorem dX11_isPlace_12 : decode cX11_isPlace 12 = .ok (.aload_n 0, 1) := by decide +kernel
theorem dX11_isPlace_13 : decode cX11_isPlace 13 = .ok (.iload_n 2, 1) := by decide +kernel
theorem dX11_isPlace_14 : decode cX11_isPlace 14 = .ok (.bipush (-100), 2) := by decide +kernel
theorem dX11_isPlace_16 : decode cX11_isPlace 16 = .ok (.bipush 100, 2) := by decide +kernel
theorem dX11_isPlace_18 : decode cX11_isPlace 18 = .ok (.invokevirtual 130, 3) := by decide +kernel
theorem dX11_isPlace_21 : decode cX11_isPlace 21 = .ok (.ifCond .eq 7, 3) := by decide +kernel
theorem dX11_isPlace_24 : decode cX11_isPlace 24 = .ok (.iconst 1, 1) := by decide +kernel
theorem dX11_isPlace_25 : decode cX11_isPlace 25 = .ok (.goto 4, 3) := by decide +kernel
theorem dX11_isPlace_28 : decode cX11_isPlace 28 = .ok (.iconst 0, 1) := by decide +kernel
theorem dX11_isPlace_29 : decode cX11_isPlace 29 = .ok (.ireturn, 1) := by decide +kernel
theorem dX11_hasGrip_0 : decode cX11_hasGrip 0 = .ok (.iload_n 1, 1) := by decide +kernel
theorem dX11_hasGrip_1 : decode cX11_hasGrip 1 = .ok (.iconst 1, 1) := by decide +kernel
theorem dX11_hasGrip_2 : decode cX11_hasGrip 2 = .ok (.if_icmp .eq 8, 3) := by decide +kernel
theorem dX11_hasGrip_5 : decode cX11_hasGrip 5 = .ok (.iload_n 1, 1) := by decide +kernel
theorem dX11_hasGrip_6 : decode cX11_hasGrip 6 = .ok (.iconst 3, 1) := by decide +kernel
theorem dX11_hasGrip_7 : decode cX11_hasGrip 7 = .ok (.if_icmp .ne 7, 3) := by decide +kernel
theorem dX11_hasGrip_10 : decode cX11_hasGrip 10 = .ok (.iconst 1, 1) := by decide +kernel
theorem dX11_hasGrip_11 : decode cX11_hasGrip 11 = .ok (.goto 4, 3) := by decide +kernel
theorem dX11_hasGrip_14 : decode cX11_hasGrip 14 = .ok (.iconst 0, 1) := by decide +kernel
theorem dX11_hasGrip_15 : decode cX11_hasGrip 15 = .ok (.ireturn, 1) := by decide +kernel
theorem dX11_contact_0 : decode cX11_contact 0 = .ok (.iload_n 1, 1) := by decide +kernel
theorem dX11_contact_1 : decode cX11_contact 1 = .ok (.bipush 10, 2) := by decide +kernel
theorem dX11_contact_3 : decode cX11_contact 3 = .ok (.idiv, 1) := by decide +kernel
theorem dX11_contact_4 : decode cX11_contact 4 = .ok (.istore 5, 2) := by decide +kernel
theorem dX11_contact_6 : decode cX11_contact 6 = .ok (.iload_n 1, 1) := by decide +kernel
theorem dX11_contact_7 : decode cX11_contact 7 = .ok (.ifCond .lt 74, 3) := by decide +kernel
theorem dX11_contact_10 : decode cX11_contact 10 = .ok (.iload 5, 2) := by decide +kernel
theorem dX11_contact_12 : decode cX11_contact 12 = .ok (.iconst 4, 1) := by decide +kernel
theorem dX11_contact_13 : decode cX11_contact 13 = .ok (.if_icmp .ge 68, 3) := by decide +kernel
theorem dX11_contact_16 : decode cX11_contact 16 = .ok (.iload_n 1, 1) := by decide +kernel
theorem dX11_contact_17 : decode cX11_contact 17 = .ok (.bipush 10, 2) := by decide +kernel
theorem dX11_contact_19 : decode cX11_contact 19 = .ok (.irem, 1) := by decide +kernel
theorem dX11_contact_20 : decode cX11_contact 20 = .ok (.bipush 8, 2) := by decide +kernel
theorem dX11_contact_22 : decode cX11_contact 22 = .ok (.if_icmp .ge 59, 3) := by decide +kernel
theorem dX11_contact_25 : decode cX11_contact 25 = .ok (.aload_n 0, 1) := by decide +kernel
theorem dX11_contact_26 : decode cX11_contact 26 = .ok (.iload_n 2, 1) := by decide +kernel
theorem dX11_contact_27 : decode cX11_contact 27 = .ok (.iload_n 3, 1) := by decide +kernel
theorem dX11_contact_28 : decode cX11_contact 28 = .ok (.invokevirtual 134, 3) := by decide +kernel
theorem dX11_contact_31 : decode cX11_contact 31 = .ok (.ifCond .eq 50, 3) := by decide +kernel
theorem dX11_contact_34 : decode cX11_contact 34 = .ok (.iload 4, 2) := by decide +kernel
theorem dX11_contact_36 : decode cX11_contact 36 = .ok (.ifCond .lt 45, 3) := by decide +kernel
theorem dX11_contact_39 : decode cX11_contact 39 = .ok (.iload 4, 2) := by decide +kernel
theorem dX11_contact_41 : decode cX11_contact 41 = .ok (.bipush 100, 2) := by decide +kernel
theorem dX11_contact_43 : decode cX11_contact 43 = .ok (.irem, 1) := by decide +kernel
theorem dX11_contact_44 : decode cX11_contact 44 = .ok (.bipush 21, 2) := by decide +kernel
theorem dX11_contact_46 : decode cX11_contact 46 = .ok (.if_icmp .ge 35, 3) := by decide +kernel
theorem dX11_contact_49 : decode cX11_contact 49 = .ok (.aload_n 0, 1) := by decide +kernel
theorem dX11_contact_50 : decode cX11_contact 50 = .ok (.iload 4, 2) := by decide +kernel
theorem dX11_contact_52 : decode cX11_contact 52 = .ok (.bipush 100, 2) := by decide +kernel
theorem dX11_contact_54 : decode cX11_contact 54 = .ok (.idiv, 1) := by decide +kernel
theorem dX11_contact_55 : decode cX11_contact 55 = .ok (.aload_n 0, 1) := by decide +kernel
theorem dX11_contact_56 : decode cX11_contact 56 = .ok (.iload 5, 2) := by decide +kernel
theorem dX11_contact_58 : decode cX11_contact 58 = .ok (.invokevirtual 138, 3) := by decide +kernel
theorem dX11_contact_61 : decode cX11_contact 61 = .ok (.ifCond .eq 7, 3) := by decide +kernel
theorem dX11_contact_64 : decode cX11_contact 64 = .ok (.iconst 1, 1) := by decide +kernel
theorem dX11_contact_65 : decode cX11_contact 65 = .ok (.goto 4, 3) := by decide +kernel
theorem dX11_contact_68 : decode cX11_contact 68 = .ok (.iconst 0, 1) := by decide +kernel
theorem dX11_contact_69 : decode cX11_contact 69 = .ok (.bipush 20, 2) := by decide +kernel
theorem dX11_contact_71 : decode cX11_contact 71 = .ok (.invokevirtual 130, 3) := by decide +kernel
theorem dX11_contact_74 : decode cX11_contact 74 = .ok (.ifCond .eq 7, 3) := by decide +kernel
theorem dX11_contact_77 : decode cX11_contact 77 = .ok (.iconst 1, 1) := by decide +kernel
theorem dX11_contact_78 : decode cX11_contact 78 = .ok (.goto 4, 3) := by decide +kernel
theorem dX11_contact_81 : decode cX11_contact 81 = .ok (.iconst 0, 1) := by decide +kernel
theorem dX11_contact_82 : decode cX11_contact 82 = .ok (.istore 6, 2) := by decide +kernel
theorem dX11_contact_84 : decode cX11_contact 84 = .ok (.iload 6, 2) := by decide +kernel
theorem dX11_contact_86 : decode cX11_contact 86 = .ok (.ifCond .ne 5, 3) := by decide +kernel
theorem dX11_contact_89 : decode cX11_contact 89 = .ok (.iconst (-1), 1) := by decide +kernel
theorem dX11_contact_90 : decode cX11_contact 90 = .ok (.ireturn, 1) := by decide +kernel
theorem dX11_contact_91 : decode cX11_contact 91 = .ok (.aload_n 0, 1) := by decide +kernel
theorem dX11_contact_92 : decode cX11_contact 92 = .ok (.getfield 13, 3) := by decide +kernel
theorem dX11_contact_95 : decode cX11_contact 95 = .ok (.bipush 10, 2) := by decide +kernel
theorem dX11_contact_97 : decode cX11_contact 97 = .ok (.if_icmp .ne 6, 3) := by decide +kernel
theorem dX11_contact_100 : decode cX11_contact 100 = .ok (.bipush (-2), 2) := by decide +kernel
theorem dX11_contact_102 : decode cX11_contact 102 = .ok (.ireturn, 1) := by decide +kernel
theorem dX11_contact_103 : decode cX11_contact 103 = .ok (.aload_n 0, 1) := by decide +kernel
theorem dX11_contact_104 : decode cX11_contact 104 = .ok (.getfield 16, 3) := by decide +kernel
theorem dX11_contact_107 : decode cX11_contact 107 = .ok (.aload_n 0, 1) := by decide +kernel
theorem dX11_contact_108 : decode cX11_contact 108 = .ok (.getfield 13, 3) := by decide +kernel
theorem dX11_contact_111 : decode cX11_contact 111 = .ok (.iload 5, 2) := by decide +kernel
theorem dX11_contact_113 : decode cX11_contact 113 = .ok (.iastore, 1) := by decide +kernel
theorem dX11_contact_114 : decode cX11_contact 114 = .ok (.aload_n 0, 1) := by decide +kernel
theorem dX11_contact_115 : decode cX11_contact 115 = .ok (.getfield 20, 3) := by decide +kernel
theorem dX11_contact_118 : decode cX11_contact 118 = .ok (.aload_n 0, 1) := by decide +kernel
theorem dX11_contact_119 : decode cX11_contact 119 = .ok (.getfield 13, 3) := by decide +kernel
theorem dX11_contact_122 : decode cX11_contact 122 = .ok (.iload_n 1, 1) := by decide +kernel
theorem dX11_contact_123 : decode cX11_contact 123 = .ok (.bipush 10, 2) := by decide +kernel
theorem dX11_contact_125 : decode cX11_contact 125 = .ok (.irem, 1) := by decide +kernel
theorem dX11_contact_126 : decode cX11_contact 126 = .ok (.iastore, 1) := by decide +kernel
theorem dX11_contact_127 : decode cX11_contact 127 = .ok (.aload_n 0, 1) := by decide +kernel
theorem dX11_contact_128 : decode cX11_contact 128 = .ok (.getfield 23, 3) := by decide +kernel
theorem dX11_contact_131 : decode cX11_contact 131 = .ok (.aload_n 0, 1) := by decide +kernel
theorem dX11_contact_132 : decode cX11_contact 132 = .ok (.getfield 13, 3) := by decide +kernel
theorem dX11_contact_135 : decode cX11_contact 135 = .ok (.iload_n 2, 1) := by decide +kernel
theorem dX11_contact_136 : decode cX11_contact 136 = .ok (.iastore, 1) := by decide +kernel
theorem dX11_contact_137 : decode cX11_contact 137 = .ok (.aload_n 0, 1) := by decide +kernel
theorem dX11_contact_138 : decode cX11_contact 138 = .ok (.getfield 26, 3) := by decide +kernel
theorem dX11_contact_141 : decode cX11_contact 141 = .ok (.aload_n 0, 1) := by decide +kernel
theorem dX11_contact_142 : decode cX11_contact 142 = .ok (.getfield 13, 3) := by decide +kernel
theorem dX11_contact_145 : decode cX11_contact 145 = .ok (.iload_n 3, 1) := by decide +kernel
theorem dX11_contact_146 : decode cX11_contact 146 = .ok (.iastore, 1) := by decide +kernel
theorem dX11_contact_147 : decode cX11_contact 147 = .ok (.aload_n 0, 1) := by decide +kernel
theorem dX11_contact_148 : decode cX11_contact 148 = .ok (.getfield 29, 3) := by decide +kernel
theorem dX11_contact_151 : decode cX11_contact 151 = .ok (.aload_n 0, 1) := by decide +kernel
theorem dX11_contact_152 : decode cX11_contact 152 = .ok (.getfield 13, 3) := by decide +kernel
theorem dX11_contact_155 : decode cX11_contact 155 = .ok (.aload_n 0, 1) := by decide +kernel
theorem dX11_contact_156 : decode cX11_contact 156 = .ok (.iload 5, 2) := by decide +kernel
theorem dX11_contact_158 : decode cX11_contact 158 = .ok (.invokevirtual 138, 3) := by decide +kernel
theorem dX11_contact_161 : decode cX11_contact 161 = .ok (.ifCond .eq 11, 3) := by decide +kernel
theorem dX11_contact_164 : decode cX11_contact 164 = .ok (.iload 4, 2) := by decide +kernel
theorem dX11_contact_166 : decode cX11_contact 166 = .ok (.bipush 100, 2) := by decide +kernel
theorem dX11_contact_168 : decode cX11_contact 168 = .ok (.idiv, 1) := by decide +kernel
theorem dX11_contact_169 : decode cX11_contact 169 = .ok (.goto 4, 3) := by decide +kernel
theorem dX11_contact_172 : decode cX11_contact 172 = .ok (.iconst 0, 1) := by decide +kernel
theorem dX11_contact_173 : decode cX11_contact 173 = .ok (.iastore, 1) := by decide +kernel
theorem dX11_contact_174 : decode cX11_contact 174 = .ok (.aload_n 0, 1) := by decide +kernel
theorem dX11_contact_175 : decode cX11_contact 175 = .ok (.getfield 32, 3) := by decide +kernel
theorem dX11_contact_178 : decode cX11_contact 178 = .ok (.aload_n 0, 1) := by decide +kernel
theorem dX11_contact_179 : decode cX11_contact 179 = .ok (.getfield 13, 3) := by decide +kernel
theorem dX11_contact_182 : decode cX11_contact 182 = .ok (.iload 4, 2) := by decide +kernel
theorem dX11_contact_184 : decode cX11_contact 184 = .ok (.bipush 100, 2) := by decide +kernel
theorem dX11_contact_186 : decode cX11_contact 186 = .ok (.irem, 1) := by decide +kernel
theorem dX11_contact_187 : decode cX11_contact 187 = .ok (.iastore, 1) := by decide +kernel
theorem dX11_contact_188 : decode cX11_contact 188 = .ok (.aload_n 0, 1) := by decide +kernel
theorem dX11_contact_189 : decode cX11_contact 189 = .ok (.getfield 35, 3) := by decide +kernel
theorem dX11_contact_192 : decode cX11_contact 192 = .ok (.aload_n 0, 1) := by decide +kernel
theorem dX11_contact_193 : decode cX11_contact 193 = .ok (.getfield 13, 3) := by decide +kernel
theorem dX11_contact_196 : decode cX11_contact 196 = .ok (.iconst 0, 1) := by decide +kernel
theorem dX11_contact_197 : decode cX11_contact 197 = .ok (.iastore, 1) := by decide +kernel
theorem dX11_contact_198 : decode cX11_contact 198 = .ok (.aload_n 0, 1) := by decide +kernel
theorem dX11_contact_199 : decode cX11_contact 199 = .ok (.dup, 1) := by decide +kernel
theorem dX11_contact_200 : decode cX11_contact 200 = .ok (.getfield 13, 3) := by decide +kernel
theorem dX11_contact_203 : decode cX11_contact 203 = .ok (.iconst 1, 1) := by decide +kernel
theorem dX11_contact_204 : decode cX11_contact 204 = .ok (.iadd, 1) := by decide +kernel
theorem dX11_contact_205 : decode cX11_contact 205 = .ok (.putfield 13, 3) := by decide +kernel
theorem dX11_contact_208 : decode cX11_contact 208 = .ok (.aload_n 0, 1) := by decide +kernel
theorem dX11_contact_209 : decode cX11_contact 209 = .ok (.getfield 13, 3) := by decide +kernel
theorem dX11_contact_212 : decode cX11_contact 212 = .ok (.iconst 1, 1) := by decide +kernel
theorem dX11_contact_213 : decode cX11_contact 213 = .ok (.isub, 1) := by decide +kernel
theorem dX11_contact_214 : decode cX11_contact 214 = .ok (.ireturn, 1) := by decide +kernel
theorem dX11_undo_0 : decode cX11_undo 0 = .ok (.aload_n 0, 1) := by decide +kernel
theorem dX11_undo_1 : decode cX11_undo 1 = .ok (.getfield 13, 3) := by decide +kernel
theorem dX11_undo_4 : decode cX11_undo 4 = .ok (.ifCond .ne 6, 3) := by decide +kernel
theorem dX11_undo_7 : decode cX11_undo 7 = .ok (.bipush (-3), 2) := by decide +kernel
theorem dX11_undo_9 : decode cX11_undo 9 = .ok (.ireturn, 1) := by decide +kernel
theorem dX11_undo_10 : decode cX11_undo 10 = .ok (.aload_n 0, 1) := by decide +kernel
theorem dX11_undo_11 : decode cX11_undo 11 = .ok (.dup, 1) := by decide +kernel
theorem dX11_undo_12 : decode cX11_undo 12 = .ok (.getfield 13, 3) := by decide +kernel
theorem dX11_undo_15 : decode cX11_undo 15 = .ok (.iconst 1, 1) := by decide +kernel
theorem dX11_undo_16 : decode cX11_undo 16 = .ok (.isub, 1) := by decide +kernel
theorem dX11_undo_17 : decode cX11_undo 17 = .ok (.putfield 13, 3) := by decide +kernel
theorem dX11_undo_20 : decode cX11_undo 20 = .ok (.aload_n 0, 1) := by decide +kernel
theorem dX11_undo_21 : decode cX11_undo 21 = .ok (.getfield 13, 3) := by decide +kernel
theorem dX11_undo_24 : decode cX11_undo 24 = .ok (.ireturn, 1) := by decide +kernel
theorem dX11_move_0 : decode cX11_move 0 = .ok (.aload_n 0, 1) := by decide +kernel
theorem dX11_move_1 : decode cX11_move 1 = .ok (.iload_n 1, 1) := by decide +kernel
theorem dX11_move_2 : decode cX11_move 2 = .ok (.invokevirtual 142, 3) := by decide +kernel
theorem dX11_move_5 : decode cX11_move 5 = .ok (.ifCond .eq 12, 3) := by decide +kernel
theorem dX11_move_8 : decode cX11_move 8 = .ok (.aload_n 0, 1) := by decide +kernel
theorem dX11_move_9 : decode cX11_move 9 = .ok (.iload_n 2, 1) := by decide +kernel
theorem dX11_move_10 : decode cX11_move 10 = .ok (.iload_n 3, 1) := by decide +kernel
theorem dX11_move_11 : decode cX11_move 11 = .ok (.invokevirtual 134, 3) := by decide +kernel
theorem dX11_move_14 : decode cX11_move 14 = .ok (.ifCond .ne 5, 3) := by decide +kernel
theorem dX11_move_17 : decode cX11_move 17 = .ok (.iconst (-1), 1) := by decide +kernel
theorem dX11_move_18 : decode cX11_move 18 = .ok (.ireturn, 1) := by decide +kernel
theorem dX11_move_19 : decode cX11_move 19 = .ok (.aload_n 0, 1) := by decide +kernel
theorem dX11_move_20 : decode cX11_move 20 = .ok (.getfield 23, 3) := by decide +kernel
theorem dX11_move_23 : decode cX11_move 23 = .ok (.iload_n 1, 1) := by decide +kernel
theorem dX11_move_24 : decode cX11_move 24 = .ok (.iaload, 1) := by decide +kernel
theorem dX11_move_25 : decode cX11_move 25 = .ok (.iload_n 2, 1) := by decide +kernel
theorem dX11_move_26 : decode cX11_move 26 = .ok (.if_icmp .ne 17, 3) := by decide +kernel
theorem dX11_move_29 : decode cX11_move 29 = .ok (.aload_n 0, 1) := by decide +kernel
theorem dX11_move_30 : decode cX11_move 30 = .ok (.getfield 26, 3) := by decide +kernel
theorem dX11_move_33 : decode cX11_move 33 = .ok (.iload_n 1, 1) := by decide +kernel
theorem dX11_move_34 : decode cX11_move 34 = .ok (.iaload, 1) := by decide +kernel
theorem dX11_move_35 : decode cX11_move 35 = .ok (.iload_n 3, 1) := by decide +kernel
theorem dX11_move_36 : decode cX11_move 36 = .ok (.if_icmp .ne 7, 3) := by decide +kernel
theorem dX11_move_39 : decode cX11_move 39 = .ok (.iconst 0, 1) := by decide +kernel
theorem dX11_move_40 : decode cX11_move 40 = .ok (.goto 4, 3) := by decide +kernel
theorem dX11_move_43 : decode cX11_move 43 = .ok (.iconst 1, 1) := by decide +kernel
theorem dX11_move_44 : decode cX11_move 44 = .ok (.istore 4, 2) := by decide +kernel
theorem dX11_move_46 : decode cX11_move 46 = .ok (.aload_n 0, 1) := by decide +kernel
theorem dX11_move_47 : decode cX11_move 47 = .ok (.getfield 23, 3) := by decide +kernel
theorem dX11_move_50 : decode cX11_move 50 = .ok (.iload_n 1, 1) := by decide +kernel
theorem dX11_move_51 : decode cX11_move 51 = .ok (.iload_n 2, 1) := by decide +kernel
theorem dX11_move_52 : decode cX11_move 52 = .ok (.iastore, 1) := by decide +kernel
theorem dX11_move_53 : decode cX11_move 53 = .ok (.aload_n 0, 1) := by decide +kernel
theorem dX11_move_54 : decode cX11_move 54 = .ok (.getfield 26, 3) := by decide +kernel
theorem dX11_move_57 : decode cX11_move 57 = .ok (.iload_n 1, 1) := by decide +kernel
theorem dX11_move_58 : decode cX11_move 58 = .ok (.iload_n 3, 1) := by decide +kernel
theorem dX11_move_59 : decode cX11_move 59 = .ok (.iastore, 1) := by decide +kernel
theorem dX11_move_60 : decode cX11_move 60 = .ok (.iload 4, 2) := by decide +kernel
theorem dX11_move_62 : decode cX11_move 62 = .ok (.ireturn, 1) := by decide +kernel
theorem dX11_miss_0 : decode cX11_miss 0 = .ok (.aload_n 0, 1) := by decide +kernel
theorem dX11_miss_1 : decode cX11_miss 1 = .ok (.iload_n 1, 1) := by decide +kernel
theorem dX11_miss_2 : decode cX11_miss 2 = .ok (.invokevirtual 142, 3) := by decide +kernel
theorem dX11_miss_5 : decode cX11_miss 5 = .ok (.ifCond .eq 14, 3) := by decide +kernel
theorem dX11_miss_8 : decode cX11_miss 8 = .ok (.aload_n 0, 1) := by decide +kernel
theorem dX11_miss_9 : decode cX11_miss 9 = .ok (.iload_n 2, 1) := by decide +kernel
theorem dX11_miss_10 : decode cX11_miss 10 = .ok (.iconst 0, 1) := by decide +kernel
theorem dX11_miss_11 : decode cX11_miss 11 = .ok (.bipush 50, 2) := by decide +kernel
theorem dX11_miss_13 : decode cX11_miss 13 = .ok (.invokevirtual 130, 3) := by decide +kernel
theorem dX11_miss_16 : decode cX11_miss 16 = .ok (.ifCond .ne 5, 3) := by decide +kernel
theorem dX11_miss_19 : decode cX11_miss 19 = .ok (.iconst (-1), 1) := by decide +kernel
theorem dX11_miss_20 : decode cX11_miss 20 = .ok (.ireturn, 1) := by decide +kernel
theorem dX11_miss_21 : decode cX11_miss 21 = .ok (.aload_n 0, 1) := by decide +kernel
theorem dX11_miss_22 : decode cX11_miss 22 = .ok (.getfield 16, 3) := by decide +kernel
theorem dX11_miss_25 : decode cX11_miss 25 = .ok (.iload_n 1, 1) := by decide +kernel
theorem dX11_miss_26 : decode cX11_miss 26 = .ok (.iaload, 1) := by decide +kernel
theorem dX11_miss_27 : decode cX11_miss 27 = .ok (.iconst 2, 1) := by decide +kernel
theorem dX11_miss_28 : decode cX11_miss 28 = .ok (.if_icmp .ne 6, 3) := by decide +kernel
theorem dX11_miss_31 : decode cX11_miss 31 = .ok (.bipush (-4), 2) := by decide +kernel
theorem dX11_miss_33 : decode cX11_miss 33 = .ok (.ireturn, 1) := by decide +kernel
theorem dX11_miss_34 : decode cX11_miss 34 = .ok (.aload_n 0, 1) := by decide +kernel
theorem dX11_miss_35 : decode cX11_miss 35 = .ok (.getfield 35, 3) := by decide +kernel
theorem dX11_miss_38 : decode cX11_miss 38 = .ok (.iload_n 1, 1) := by decide +kernel
theorem dX11_miss_39 : decode cX11_miss 39 = .ok (.iaload, 1) := by decide +kernel
theorem dX11_miss_40 : decode cX11_miss 40 = .ok (.istore_n 3, 1) := by decide +kernel
theorem dX11_miss_41 : decode cX11_miss 41 = .ok (.aload_n 0, 1) := by decide +kernel
theorem dX11_miss_42 : decode cX11_miss 42 = .ok (.getfield 35, 3) := by decide +kernel
theorem dX11_miss_45 : decode cX11_miss 45 = .ok (.iload_n 1, 1) := by decide +kernel
theorem dX11_miss_46 : decode cX11_miss 46 = .ok (.iload_n 2, 1) := by decide +kernel
theorem dX11_miss_47 : decode cX11_miss 47 = .ok (.iastore, 1) := by decide +kernel
theorem dX11_miss_48 : decode cX11_miss 48 = .ok (.iload_n 3, 1) := by decide +kernel
theorem dX11_miss_49 : decode cX11_miss 49 = .ok (.ireturn, 1) := by decide +kernel
theorem dX11_pushesOf_0 : decode cX11_pushesOf 0 = .ok (.aload_n 0, 1) := by decide +kernel
theorem dX11_pushesOf_1 : decode cX11_pushesOf 1 = .ok (.getfield 16, 3) := by decide +kernel
theorem dX11_pushesOf_4 : decode cX11_pushesOf 4 = .ok (.iload_n 1, 1) := by decide +kernel
theorem dX11_pushesOf_5 : decode cX11_pushesOf 5 = .ok (.iaload, 1) := by decide +kernel
theorem dX11_pushesOf_6 : decode cX11_pushesOf 6 = .ok (.iconst 1, 1) := by decide +kernel
theorem dX11_pushesOf_7 : decode cX11_pushesOf 7 = .ok (.if_icmp .ne 7, 3) := by decide +kernel
theorem dX11_pushesOf_10 : decode cX11_pushesOf 10 = .ok (.iconst 2, 1) := by decide +kernel
theorem dX11_pushesOf_11 : decode cX11_pushesOf 11 = .ok (.goto 18, 3) := by decide +kernel
theorem dX11_pushesOf_14 : decode cX11_pushesOf 14 = .ok (.aload_n 0, 1) := by decide +kernel
theorem dX11_pushesOf_15 : decode cX11_pushesOf 15 = .ok (.getfield 16, 3) := by decide +kernel
theorem dX11_pushesOf_18 : decode cX11_pushesOf 18 = .ok (.iload_n 1, 1) := by decide +kernel
theorem dX11_pushesOf_19 : decode cX11_pushesOf 19 = .ok (.iaload, 1) := by decide +kernel
theorem dX11_pushesOf_20 : decode cX11_pushesOf 20 = .ok (.iconst 3, 1) := by decide +kernel
theorem dX11_pushesOf_21 : decode cX11_pushesOf 21 = .ok (.if_icmp .ne 7, 3) := by decide +kernel
theorem dX11_pushesOf_24 : decode cX11_pushesOf 24 = .ok (.iconst 3, 1) := by decide +kernel
theorem dX11_pushesOf_25 : decode cX11_pushesOf 25 = .ok (.goto 4, 3) := by decide +kernel
theorem dX11_pushesOf_28 : decode cX11_pushesOf 28 = .ok (.iconst 1, 1) := by decide +kernel
theorem dX11_pushesOf_29 : decode cX11_pushesOf 29 = .ok (.ireturn, 1) := by decide +kernel
theorem dX11_look_0 : decode cX11_look 0 = .ok (.aload_n 0, 1) := by decide +kernel
theorem dX11_look_1 : decode cX11_look 1 = .ok (.iload_n 1, 1) := by decide +kernel
theorem dX11_look_2 : decode cX11_look 2 = .ok (.invokevirtual 142, 3) := by decide +kernel
theorem dX11_look_5 : decode cX11_look 5 = .ok (.ifCond .eq 13, 3) := by decide +kernel
theorem dX11_look_8 : decode cX11_look 8 = .ok (.aload_n 0, 1) := by decide +kernel
theorem dX11_look_9 : decode cX11_look 9 = .ok (.iload_n 2, 1) := by decide +kernel
theorem dX11_look_10 : decode cX11_look 10 = .ok (.iconst 0, 1) := by decide +kernel
theorem dX11_look_11 : decode cX11_look 11 = .ok (.iconst 5, 1) := by decide +kernel
theorem dX11_look_12 : decode cX11_look 12 = .ok (.invokevirtual 130, 3) := by decide +kernel
theorem dX11_look_15 : decode cX11_look 15 = .ok (.ifCond .ne 5, 3) := by decide +kernel
theorem dX11_look_18 : decode cX11_look 18 = .ok (.iconst (-1), 1) := by decide +kernel
theorem dX11_look_19 : decode cX11_look 19 = .ok (.ireturn, 1) := by decide +kernel
theorem dX11_look_20 : decode cX11_look 20 = .ok (.iload_n 2, 1) := by decide +kernel
theorem dX11_look_21 : decode cX11_look 21 = .ok (.tableswitch 85 0 4 #[35, 42, 49, 56, 63], 35) := by decide +kernel
theorem dX11_look_56 : decode cX11_look 56 = .ok (.aload_n 0, 1) := by decide +kernel
theorem dX11_look_57 : decode cX11_look 57 = .ok (.getfield 16, 3) := by decide +kernel
theorem dX11_look_60 : decode cX11_look 60 = .ok (.iload_n 1, 1) := by decide +kernel
theorem dX11_look_61 : decode cX11_look 61 = .ok (.iaload, 1) := by decide +kernel
theorem dX11_look_62 : decode cX11_look 62 = .ok (.ireturn, 1) := by decide +kernel
theorem dX11_look_63 : decode cX11_look 63 = .ok (.aload_n 0, 1) := by decide +kernel
theorem dX11_look_64 : decode cX11_look 64 = .ok (.getfield 20, 3) := by decide +kernel
theorem dX11_look_67 : decode cX11_look 67 = .ok (.iload_n 1, 1) := by decide +kernel
theorem dX11_look_68 : decode cX11_look 68 = .ok (.iaload, 1) := by decide +kernel
theorem dX11_look_69 : decode cX11_look 69 = .ok (.ireturn, 1) := by decide +kernel
theorem dX11_look_70 : decode cX11_look 70 = .ok (.aload_n 0, 1) := by decide +kernel
theorem dX11_look_71 : decode cX11_look 71 = .ok (.getfield 29, 3) := by decide +kernel
theorem dX11_look_74 : decode cX11_look 74 = .ok (.iload_n 1, 1) := by decide +kernel
theorem dX11_look_75 : decode cX11_look 75 = .ok (.iaload, 1) := by decide +kernel
theorem dX11_look_76 : decode cX11_look 76 = .ok (.ireturn, 1) := by decide +kernel
theorem dX11_look_77 : decode cX11_look 77 = .ok (.aload_n 0, 1) := by decide +kernel
theorem dX11_look_78 : decode cX11_look 78 = .ok (.getfield 32, 3) := by decide +kernel
theorem dX11_look_81 : decode cX11_look 81 = .ok (.iload_n 1, 1) := by decide +kernel
theorem dX11_look_82 : decode cX11_look 82 = .ok (.iaload, 1) := by decide +kernel
theorem dX11_look_83 : decode cX11_look 83 = .ok (.ireturn, 1) := by decide +kernel
theorem dX11_look_84 : decode cX11_look 84 = .ok (.aload_n 0, 1) := by decide +kernel
theorem dX11_look_85 : decode cX11_look 85 = .ok (.getfield 16, 3) := by decide +kernel
theorem dX11_look_88 : decode cX11_look 88 = .ok (.iload_n 1, 1) := by decide +kernel
theorem dX11_look_89 : decode cX11_look 89 = .ok (.iaload, 1) := by decide +kernel
theorem dX11_look_90 : decode cX11_look 90 = .ok (.iconst 2, 1) := by decide +kernel
theorem dX11_look_91 : decode cX11_look 91 = .ok (.if_icmp .ne 8, 3) := by decide +kernel
theorem dX11_look_94 : decode cX11_look 94 = .ok (.bipush (-2), 2) := by decide +kernel
theorem dX11_look_96 : decode cX11_look 96 = .ok (.goto 9, 3) := by decide +kernel
theorem dX11_look_99 : decode cX11_look 99 = .ok (.aload_n 0, 1) := by decide +kernel
theorem dX11_look_100 : decode cX11_look 100 = .ok (.getfield 35, 3) := by decide +kernel
theorem dX11_look_103 : decode cX11_look 103 = .ok (.iload_n 1, 1) := by decide +kernel
theorem dX11_look_104 : decode cX11_look 104 = .ok (.iaload, 1) := by decide +kernel
theorem dX11_look_105 : decode cX11_look 105 = .ok (.ireturn, 1) := by decide +kernel
theorem dX11_look_106 : decode cX11_look 106 = .ok (.aload_n 0, 1) := by decide +kernel
theorem dX11_look_107 : decode cX11_look 107 = .ok (.iload_n 1, 1) := by decide +kernel
theorem dX11_look_108 : decode cX11_look 108 = .ok (.invokevirtual 145, 3) := by decide +kernel
theorem dX11_look_111 : decode cX11_look 111 = .ok (.ireturn, 1) := by decide +kernel
theorem dX11_along_0 : decode cX11_along 0 = .ok (.iload_n 1, 1) := by decide +kernel
theorem dX11_along_1 : decode cX11_along 1 = .ok (.ifCond .eq 14, 3) := by decide +kernel
theorem dX11_along_4 : decode cX11_along 4 = .ok (.iload_n 1, 1) := by decide +kernel
theorem dX11_along_5 : decode cX11_along 5 = .ok (.iconst 1, 1) := by decide +kernel
theorem dX11_along_6 : decode cX11_along 6 = .ok (.if_icmp .eq 9, 3) := by decide +kernel
theorem dX11_along_9 : decode cX11_along 9 = .ok (.iload_n 1, 1) := by decide +kernel
theorem dX11_along_10 : decode cX11_along 10 = .ok (.bipush 7, 2) := by decide +kernel
theorem dX11_along_12 : decode cX11_along 12 = .ok (.if_icmp .ne 7, 3) := by decide +kernel
theorem dX11_along_15 : decode cX11_along 15 = .ok (.iconst 1, 1) := by decide +kernel
theorem dX11_along_16 : decode cX11_along 16 = .ok (.goto 19, 3) := by decide +kernel
theorem dX11_along_19 : decode cX11_along 19 = .ok (.iload_n 1, 1) := by decide +kernel
theorem dX11_along_20 : decode cX11_along 20 = .ok (.iconst 2, 1) := by decide +kernel
theorem dX11_along_21 : decode cX11_along 21 = .ok (.if_icmp .le 13, 3) := by decide +kernel
theorem dX11_along_24 : decode cX11_along 24 = .ok (.iload_n 1, 1) := by decide +kernel
theorem dX11_along_25 : decode cX11_along 25 = .ok (.bipush 6, 2) := by decide +kernel
theorem dX11_along_27 : decode cX11_along 27 = .ok (.if_icmp .ge 7, 3) := by decide +kernel
theorem dX11_along_30 : decode cX11_along 30 = .ok (.iconst (-1), 1) := by decide +kernel
theorem dX11_along_31 : decode cX11_along 31 = .ok (.goto 4, 3) := by decide +kernel
theorem dX11_along_34 : decode cX11_along 34 = .ok (.iconst 0, 1) := by decide +kernel
theorem dX11_along_35 : decode cX11_along 35 = .ok (.ireturn, 1) := by decide +kernel
theorem dX11_up_0 : decode cX11_up 0 = .ok (.iload_n 1, 1) := by decide +kernel
theorem dX11_up_1 : decode cX11_up 1 = .ok (.ifCond .le 12, 3) := by decide +kernel
theorem dX11_up_4 : decode cX11_up 4 = .ok (.iload_n 1, 1) := by decide +kernel
theorem dX11_up_5 : decode cX11_up 5 = .ok (.iconst 4, 1) := by decide +kernel
theorem dX11_up_6 : decode cX11_up 6 = .ok (.if_icmp .ge 7, 3) := by decide +kernel
theorem dX11_up_9 : decode cX11_up 9 = .ok (.iconst 1, 1) := by decide +kernel
theorem dX11_up_10 : decode cX11_up 10 = .ok (.goto 13, 3) := by decide +kernel
theorem dX11_up_13 : decode cX11_up 13 = .ok (.iload_n 1, 1) := by decide +kernel
theorem dX11_up_14 : decode cX11_up 14 = .ok (.iconst 4, 1) := by decide +kernel
theorem dX11_up_15 : decode cX11_up 15 = .ok (.if_icmp .le 7, 3) := by decide +kernel
theorem dX11_up_18 : decode cX11_up 18 = .ok (.iconst (-1), 1) := by decide +kernel
theorem dX11_up_19 : decode cX11_up 19 = .ok (.goto 4, 3) := by decide +kernel
theorem dX11_up_22 : decode cX11_up 22 = .ok (.iconst 0, 1) := by decide +kernel
theorem dX11_up_23 : decode cX11_up 23 = .ok (.ireturn, 1) := by decide +kernel
theorem dX11_part_0 : decode cX11_part 0 = .ok (.iload 7, 2) := by decide +kernel
theorem dX11_part_2 : decode cX11_part 2 = .ok (.ifCond .ne 7, 3) := by decide +kernel
theorem dX11_part_5 : decode cX11_part 5 = .ok (.lload_n 1, 1) := by decide +kernel
theorem dX11_part_6 : decode cX11_part 6 = .ok (.goto 24, 3) := by decide +kernel
theorem dX11_part_9 : decode cX11_part 9 = .ok (.iload 7, 2) := by decide +kernel
theorem dX11_part_11 : decode cX11_part 11 = .ok (.iconst 1, 1) := by decide +kernel
theorem dX11_part_12 : decode cX11_part 12 = .ok (.if_icmp .ne 7, 3) := by decide +kernel
theorem dX11_part_15 : decode cX11_part 15 = .ok (.lload_n 3, 1) := by decide +kernel
theorem dX11_part_16 : decode cX11_part 16 = .ok (.goto 14, 3) := by decide +kernel
theorem dX11_part_19 : decode cX11_part 19 = .ok (.iload 5, 2) := by decide +kernel
theorem dX11_part_21 : decode cX11_part 21 = .ok (.i2l, 1) := by decide +kernel
theorem dX11_part_22 : decode cX11_part 22 = .ok (.lload_n 3, 1) := by decide +kernel
theorem dX11_part_23 : decode cX11_part 23 = .ok (.lmul, 1) := by decide +kernel
theorem dX11_part_24 : decode cX11_part 24 = .ok (.iload 6, 2) := by decide +kernel
theorem dX11_part_26 : decode cX11_part 26 = .ok (.i2l, 1) := by decide +kernel
theorem dX11_part_27 : decode cX11_part 27 = .ok (.lload_n 1, 1) := by decide +kernel
theorem dX11_part_28 : decode cX11_part 28 = .ok (.lmul, 1) := by decide +kernel
theorem dX11_part_29 : decode cX11_part 29 = .ok (.lsub, 1) := by decide +kernel
theorem dX11_part_30 : decode cX11_part 30 = .ok (.lreturn, 1) := by decide +kernel
theorem dX11_direct_0 : decode cX11_direct 0 = .ok (.aload_n 0, 1) := by decide +kernel
theorem dX11_direct_1 : decode cX11_direct 1 = .ok (.aload_n 0, 1) := by decide +kernel
theorem dX11_direct_2 : decode cX11_direct 2 = .ok (.aload_n 0, 1) := by decide +kernel
theorem dX11_direct_3 : decode cX11_direct 3 = .ok (.getfield 20, 3) := by decide +kernel
theorem dX11_direct_6 : decode cX11_direct 6 = .ok (.iload_n 1, 1) := by decide +kernel
theorem dX11_direct_7 : decode cX11_direct 7 = .ok (.iaload, 1) := by decide +kernel
theorem dX11_direct_8 : decode cX11_direct 8 = .ok (.invokevirtual 149, 3) := by decide +kernel
theorem dX11_direct_11 : decode cX11_direct 11 = .ok (.i2l, 1) := by decide +kernel
theorem dX11_direct_12 : decode cX11_direct 12 = .ok (.aload_n 0, 1) := by decide +kernel
theorem dX11_direct_13 : decode cX11_direct 13 = .ok (.aload_n 0, 1) := by decide +kernel
theorem dX11_direct_14 : decode cX11_direct 14 = .ok (.getfield 20, 3) := by decide +kernel
theorem dX11_direct_17 : decode cX11_direct 17 = .ok (.iload_n 1, 1) := by decide +kernel
theorem dX11_direct_18 : decode cX11_direct 18 = .ok (.iaload, 1) := by decide +kernel
theorem dX11_direct_19 : decode cX11_direct 19 = .ok (.invokevirtual 152, 3) := by decide +kernel
theorem dX11_direct_22 : decode cX11_direct 22 = .ok (.i2l, 1) := by decide +kernel
theorem dX11_direct_23 : decode cX11_direct 23 = .ok (.aload_n 0, 1) := by decide +kernel
theorem dX11_direct_24 : decode cX11_direct 24 = .ok (.getfield 23, 3) := by decide +kernel
theorem dX11_direct_27 : decode cX11_direct 27 = .ok (.iload_n 1, 1) := by decide +kernel
theorem dX11_direct_28 : decode cX11_direct 28 = .ok (.iaload, 1) := by decide +kernel
theorem dX11_direct_29 : decode cX11_direct 29 = .ok (.aload_n 0, 1) := by decide +kernel
theorem dX11_direct_30 : decode cX11_direct 30 = .ok (.getfield 26, 3) := by decide +kernel
theorem dX11_direct_33 : decode cX11_direct 33 = .ok (.iload_n 1, 1) := by decide +kernel
theorem dX11_direct_34 : decode cX11_direct 34 = .ok (.iaload, 1) := by decide +kernel
theorem dX11_direct_35 : decode cX11_direct 35 = .ok (.iload_n 2, 1) := by decide +kernel
theorem dX11_direct_36 : decode cX11_direct 36 = .ok (.invokevirtual 155, 3) := by decide +kernel
theorem dX11_direct_39 : decode cX11_direct 39 = .ok (.lreturn, 1) := by decide +kernel
theorem dX11_pushed_0 : decode cX11_pushed 0 = .ok (.aload_n 0, 1) := by decide +kernel
theorem dX11_pushed_1 : decode cX11_pushed 1 = .ok (.getfield 16, 3) := by decide +kernel
theorem dX11_pushed_4 : decode cX11_pushed 4 = .ok (.iload_n 1, 1) := by decide +kernel
theorem dX11_pushed_5 : decode cX11_pushed 5 = .ok (.iaload, 1) := by decide +kernel
theorem dX11_pushed_6 : decode cX11_pushed 6 = .ok (.iconst 1, 1) := by decide +kernel
theorem dX11_pushed_7 : decode cX11_pushed 7 = .ok (.if_icmp .ne 11, 3) := by decide +kernel
theorem dX11_pushed_10 : decode cX11_pushed 10 = .ok (.iconst 2, 1) := by decide +kernel
theorem dX11_pushed_11 : decode cX11_pushed 11 = .ok (.iload_n 2, 1) := by decide +kernel
theorem dX11_pushed_12 : decode cX11_pushed 12 = .ok (.imul, 1) := by decide +kernel
theorem dX11_pushed_13 : decode cX11_pushed 13 = .ok (.iconst 1, 1) := by decide +kernel
theorem dX11_pushed_14 : decode cX11_pushed 14 = .ok (.isub, 1) := by decide +kernel
theorem dX11_pushed_15 : decode cX11_pushed 15 = .ok (.goto 20, 3) := by decide +kernel
theorem dX11_pushed_18 : decode cX11_pushed 18 = .ok (.aload_n 0, 1) := by decide +kernel
theorem dX11_pushed_19 : decode cX11_pushed 19 = .ok (.getfield 16, 3) := by decide +kernel
theorem dX11_pushed_22 : decode cX11_pushed 22 = .ok (.iload_n 1, 1) := by decide +kernel
theorem dX11_pushed_23 : decode cX11_pushed 23 = .ok (.iaload, 1) := by decide +kernel
theorem dX11_pushed_24 : decode cX11_pushed 24 = .ok (.iconst 3, 1) := by decide +kernel
theorem dX11_pushed_25 : decode cX11_pushed 25 = .ok (.if_icmp .ne 9, 3) := by decide +kernel
theorem dX11_pushed_28 : decode cX11_pushed 28 = .ok (.iload_n 2, 1) := by decide +kernel
theorem dX11_pushed_29 : decode cX11_pushed 29 = .ok (.iconst 1, 1) := by decide +kernel
theorem dX11_pushed_30 : decode cX11_pushed 30 = .ok (.isub, 1) := by decide +kernel
theorem dX11_pushed_31 : decode cX11_pushed 31 = .ok (.goto 4, 3) := by decide +kernel
theorem dX11_pushed_34 : decode cX11_pushed 34 = .ok (.iconst 0, 1) := by decide +kernel
theorem dX11_pushed_35 : decode cX11_pushed 35 = .ok (.istore 4, 2) := by decide +kernel
theorem dX11_pushed_37 : decode cX11_pushed 37 = .ok (.aload_n 0, 1) := by decide +kernel
theorem dX11_pushed_38 : decode cX11_pushed 38 = .ok (.aload_n 0, 1) := by decide +kernel
theorem dX11_pushed_39 : decode cX11_pushed 39 = .ok (.getfield 20, 3) := by decide +kernel
theorem dX11_pushed_42 : decode cX11_pushed 42 = .ok (.iload_n 1, 1) := by decide +kernel
theorem dX11_pushed_43 : decode cX11_pushed 43 = .ok (.iaload, 1) := by decide +kernel
theorem dX11_pushed_44 : decode cX11_pushed 44 = .ok (.invokevirtual 149, 3) := by decide +kernel
theorem dX11_pushed_47 : decode cX11_pushed 47 = .ok (.i2l, 1) := by decide +kernel
theorem dX11_pushed_48 : decode cX11_pushed 48 = .ok (.lstore 5, 2) := by decide +kernel
theorem dX11_pushed_50 : decode cX11_pushed 50 = .ok (.aload_n 0, 1) := by decide +kernel
theorem dX11_pushed_51 : decode cX11_pushed 51 = .ok (.aload_n 0, 1) := by decide +kernel
theorem dX11_pushed_52 : decode cX11_pushed 52 = .ok (.getfield 20, 3) := by decide +kernel
theorem dX11_pushed_55 : decode cX11_pushed 55 = .ok (.iload_n 1, 1) := by decide +kernel
theorem dX11_pushed_56 : decode cX11_pushed 56 = .ok (.iaload, 1) := by decide +kernel
theorem dX11_pushed_57 : decode cX11_pushed 57 = .ok (.invokevirtual 152, 3) := by decide +kernel
theorem dX11_pushed_60 : decode cX11_pushed 60 = .ok (.i2l, 1) := by decide +kernel
theorem dX11_pushed_61 : decode cX11_pushed 61 = .ok (.lstore 7, 2) := by decide +kernel
theorem dX11_pushed_63 : decode cX11_pushed 63 = .ok (.aload_n 0, 1) := by decide +kernel
theorem dX11_pushed_64 : decode cX11_pushed 64 = .ok (.ldc2_w 159, 3) := by decide +kernel
theorem dX11_pushed_67 : decode cX11_pushed 67 = .ok (.lload 5, 2) := by decide +kernel
theorem dX11_pushed_69 : decode cX11_pushed 69 = .ok (.lmul, 1) := by decide +kernel
theorem dX11_pushed_70 : decode cX11_pushed 70 = .ok (.iload 4, 2) := by decide +kernel
theorem dX11_pushed_72 : decode cX11_pushed 72 = .ok (.aload_n 0, 1) := by decide +kernel
theorem dX11_pushed_73 : decode cX11_pushed 73 = .ok (.getfield 29, 3) := by decide +kernel
theorem dX11_pushed_76 : decode cX11_pushed 76 = .ok (.iload_n 1, 1) := by decide +kernel
theorem dX11_pushed_77 : decode cX11_pushed 77 = .ok (.iaload, 1) := by decide +kernel
theorem dX11_pushed_78 : decode cX11_pushed 78 = .ok (.imul, 1) := by decide +kernel
theorem dX11_pushed_79 : decode cX11_pushed 79 = .ok (.i2l, 1) := by decide +kernel
theorem dX11_pushed_80 : decode cX11_pushed 80 = .ok (.lload 7, 2) := by decide +kernel
theorem dX11_pushed_82 : decode cX11_pushed 82 = .ok (.lmul, 1) := by decide +kernel
theorem dX11_pushed_83 : decode cX11_pushed 83 = .ok (.ladd, 1) := by decide +kernel
theorem dX11_pushed_84 : decode cX11_pushed 84 = .ok (.ldc2_w 159, 3) := by decide +kernel
theorem dX11_pushed_87 : decode cX11_pushed 87 = .ok (.lload 7, 2) := by decide +kernel
theorem dX11_pushed_89 : decode cX11_pushed 89 = .ok (.lmul, 1) := by decide +kernel
theorem dX11_pushed_90 : decode cX11_pushed 90 = .ok (.iload 4, 2) := by decide +kernel
theorem dX11_pushed_92 : decode cX11_pushed 92 = .ok (.aload_n 0, 1) := by decide +kernel
theorem dX11_pushed_93 : decode cX11_pushed 93 = .ok (.getfield 29, 3) := by decide +kernel
theorem dX11_pushed_96 : decode cX11_pushed 96 = .ok (.iload_n 1, 1) := by decide +kernel
theorem dX11_pushed_97 : decode cX11_pushed 97 = .ok (.iaload, 1) := by decide +kernel
theorem dX11_pushed_98 : decode cX11_pushed 98 = .ok (.imul, 1) := by decide +kernel
theorem dX11_pushed_99 : decode cX11_pushed 99 = .ok (.i2l, 1) := by decide +kernel
theorem dX11_pushed_100 : decode cX11_pushed 100 = .ok (.lload 5, 2) := by decide +kernel
theorem dX11_pushed_102 : decode cX11_pushed 102 = .ok (.lmul, 1) := by decide +kernel
theorem dX11_pushed_103 : decode cX11_pushed 103 = .ok (.lsub, 1) := by decide +kernel
theorem dX11_pushed_104 : decode cX11_pushed 104 = .ok (.aload_n 0, 1) := by decide +kernel
theorem dX11_pushed_105 : decode cX11_pushed 105 = .ok (.getfield 23, 3) := by decide +kernel
theorem dX11_pushed_108 : decode cX11_pushed 108 = .ok (.iload_n 1, 1) := by decide +kernel
theorem dX11_pushed_109 : decode cX11_pushed 109 = .ok (.iaload, 1) := by decide +kernel
theorem dX11_pushed_110 : decode cX11_pushed 110 = .ok (.aload_n 0, 1) := by decide +kernel
theorem dX11_pushed_111 : decode cX11_pushed 111 = .ok (.getfield 26, 3) := by decide +kernel
theorem dX11_pushed_114 : decode cX11_pushed 114 = .ok (.iload_n 1, 1) := by decide +kernel
theorem dX11_pushed_115 : decode cX11_pushed 115 = .ok (.iaload, 1) := by decide +kernel
theorem dX11_pushed_116 : decode cX11_pushed 116 = .ok (.iload_n 3, 1) := by decide +kernel
theorem dX11_pushed_117 : decode cX11_pushed 117 = .ok (.invokevirtual 155, 3) := by decide +kernel
theorem dX11_pushed_120 : decode cX11_pushed 120 = .ok (.lreturn, 1) := by decide +kernel
theorem dX11_wrench_0 : decode cX11_wrench 0 = .ok (.aload_n 0, 1) := by decide +kernel
theorem dX11_wrench_1 : decode cX11_wrench 1 = .ok (.aload_n 0, 1) := by decide +kernel
theorem dX11_wrench_2 : decode cX11_wrench 2 = .ok (.iload_n 1, 1) := by decide +kernel
theorem dX11_wrench_3 : decode cX11_wrench 3 = .ok (.invokevirtual 142, 3) := by decide +kernel
theorem dX11_wrench_6 : decode cX11_wrench 6 = .ok (.ifCond .eq 33, 3) := by decide +kernel
theorem dX11_wrench_9 : decode cX11_wrench 9 = .ok (.aload_n 0, 1) := by decide +kernel
theorem dX11_wrench_10 : decode cX11_wrench 10 = .ok (.iload_n 3, 1) := by decide +kernel
theorem dX11_wrench_11 : decode cX11_wrench 11 = .ok (.iconst 0, 1) := by decide +kernel
theorem dX11_wrench_12 : decode cX11_wrench 12 = .ok (.iconst 2, 1) := by decide +kernel
theorem dX11_wrench_13 : decode cX11_wrench 13 = .ok (.invokevirtual 130, 3) := by decide +kernel
theorem dX11_wrench_16 : decode cX11_wrench 16 = .ok (.ifCond .eq 23, 3) := by decide +kernel
theorem dX11_wrench_19 : decode cX11_wrench 19 = .ok (.aload_n 0, 1) := by decide +kernel
theorem dX11_wrench_20 : decode cX11_wrench 20 = .ok (.iload_n 2, 1) := by decide +kernel
theorem dX11_wrench_21 : decode cX11_wrench 21 = .ok (.iconst (-1), 1) := by decide +kernel
theorem dX11_wrench_22 : decode cX11_wrench 22 = .ok (.aload_n 0, 1) := by decide +kernel
theorem dX11_wrench_23 : decode cX11_wrench 23 = .ok (.iload_n 1, 1) := by decide +kernel
theorem dX11_wrench_24 : decode cX11_wrench 24 = .ok (.invokevirtual 145, 3) := by decide +kernel
theorem dX11_wrench_27 : decode cX11_wrench 27 = .ok (.iconst 1, 1) := by decide +kernel
theorem dX11_wrench_28 : decode cX11_wrench 28 = .ok (.isub, 1) := by decide +kernel
theorem dX11_wrench_29 : decode cX11_wrench 29 = .ok (.invokevirtual 130, 3) := by decide +kernel
theorem dX11_wrench_32 : decode cX11_wrench 32 = .ok (.ifCond .eq 7, 3) := by decide +kernel
theorem dX11_wrench_35 : decode cX11_wrench 35 = .ok (.iconst 0, 1) := by decide +kernel
theorem dX11_wrench_36 : decode cX11_wrench 36 = .ok (.goto 4, 3) := by decide +kernel
theorem dX11_wrench_39 : decode cX11_wrench 39 = .ok (.iconst 1, 1) := by decide +kernel
theorem dX11_wrench_40 : decode cX11_wrench 40 = .ok (.putfield 7, 3) := by decide +kernel
theorem dX11_wrench_43 : decode cX11_wrench 43 = .ok (.aload_n 0, 1) := by decide +kernel
theorem dX11_wrench_44 : decode cX11_wrench 44 = .ok (.getfield 7, 3) := by decide +kernel
theorem dX11_wrench_47 : decode cX11_wrench 47 = .ok (.ifCond .le 7, 3) := by decide +kernel
theorem dX11_wrench_50 : decode cX11_wrench 50 = .ok (.lconst 0, 1) := by decide +kernel
theorem dX11_wrench_51 : decode cX11_wrench 51 = .ok (.goto 23, 3) := by decide +kernel
theorem dX11_wrench_54 : decode cX11_wrench 54 = .ok (.iload_n 2, 1) := by decide +kernel
theorem dX11_wrench_55 : decode cX11_wrench 55 = .ok (.ifCond .ge 12, 3) := by decide +kernel
theorem dX11_wrench_58 : decode cX11_wrench 58 = .ok (.aload_n 0, 1) := by decide +kernel
theorem dX11_wrench_59 : decode cX11_wrench 59 = .ok (.iload_n 1, 1) := by decide +kernel
theorem dX11_wrench_60 : decode cX11_wrench 60 = .ok (.iload_n 3, 1) := by decide +kernel
theorem dX11_wrench_61 : decode cX11_wrench 61 = .ok (.invokevirtual 161, 3) := by decide +kernel
theorem dX11_wrench_64 : decode cX11_wrench 64 = .ok (.goto 10, 3) := by decide +kernel
theorem dX11_wrench_67 : decode cX11_wrench 67 = .ok (.aload_n 0, 1) := by decide +kernel
theorem dX11_wrench_68 : decode cX11_wrench 68 = .ok (.iload_n 1, 1) := by decide +kernel
theorem dX11_wrench_69 : decode cX11_wrench 69 = .ok (.iload_n 2, 1) := by decide +kernel
theorem dX11_wrench_70 : decode cX11_wrench 70 = .ok (.iload_n 3, 1) := by decide +kernel
theorem dX11_wrench_71 : decode cX11_wrench 71 = .ok (.invokevirtual 165, 3) := by decide +kernel
theorem dX11_wrench_74 : decode cX11_wrench 74 = .ok (.lreturn, 1) := by decide +kernel
theorem dX11_add_0 : decode cX11_add 0 = .ok (.aload_n 0, 1) := by decide +kernel
theorem dX11_add_1 : decode cX11_add 1 = .ok (.getfield 41, 3) := by decide +kernel
theorem dX11_add_4 : decode cX11_add 4 = .ok (.iconst 3, 1) := by decide +kernel
theorem dX11_add_5 : decode cX11_add 5 = .ok (.aload_n 0, 1) := by decide +kernel
theorem dX11_add_6 : decode cX11_add 6 = .ok (.getfield 38, 3) := by decide +kernel
theorem dX11_add_9 : decode cX11_add 9 = .ok (.imul, 1) := by decide +kernel
theorem dX11_add_10 : decode cX11_add 10 = .ok (.lload_n 1, 1) := by decide +kernel
theorem dX11_add_11 : decode cX11_add 11 = .ok (.lastore, 1) := by decide +kernel
theorem dX11_add_12 : decode cX11_add 12 = .ok (.aload_n 0, 1) := by decide +kernel
theorem dX11_add_13 : decode cX11_add 13 = .ok (.getfield 41, 3) := by decide +kernel
theorem dX11_add_16 : decode cX11_add 16 = .ok (.iconst 3, 1) := by decide +kernel
theorem dX11_add_17 : decode cX11_add 17 = .ok (.aload_n 0, 1) := by decide +kernel
theorem dX11_add_18 : decode cX11_add 18 = .ok (.getfield 38, 3) := by decide +kernel
theorem dX11_add_21 : decode cX11_add 21 = .ok (.imul, 1) := by decide +kernel
theorem dX11_add_22 : decode cX11_add 22 = .ok (.iconst 1, 1) := by decide +kernel
theorem dX11_add_23 : decode cX11_add 23 = .ok (.iadd, 1) := by decide +kernel
theorem dX11_add_24 : decode cX11_add 24 = .ok (.lload_n 3, 1) := by decide +kernel
theorem dX11_add_25 : decode cX11_add 25 = .ok (.lastore, 1) := by decide +kernel
theorem dX11_add_26 : decode cX11_add 26 = .ok (.aload_n 0, 1) := by decide +kernel
theorem dX11_add_27 : decode cX11_add 27 = .ok (.getfield 41, 3) := by decide +kernel
theorem dX11_add_30 : decode cX11_add 30 = .ok (.iconst 3, 1) := by decide +kernel
theorem dX11_add_31 : decode cX11_add 31 = .ok (.aload_n 0, 1) := by decide +kernel
theorem dX11_add_32 : decode cX11_add 32 = .ok (.getfield 38, 3) := by decide +kernel
theorem dX11_add_35 : decode cX11_add 35 = .ok (.imul, 1) := by decide +kernel
theorem dX11_add_36 : decode cX11_add 36 = .ok (.iconst 2, 1) := by decide +kernel
theorem dX11_add_37 : decode cX11_add 37 = .ok (.iadd, 1) := by decide +kernel
theorem dX11_add_38 : decode cX11_add 38 = .ok (.lload 5, 2) := by decide +kernel
theorem dX11_add_40 : decode cX11_add 40 = .ok (.lastore, 1) := by decide +kernel
theorem dX11_add_41 : decode cX11_add 41 = .ok (.aload_n 0, 1) := by decide +kernel
theorem dX11_add_42 : decode cX11_add 42 = .ok (.dup, 1) := by decide +kernel
theorem dX11_add_43 : decode cX11_add 43 = .ok (.getfield 38, 3) := by decide +kernel
theorem dX11_add_46 : decode cX11_add 46 = .ok (.iconst 1, 1) := by decide +kernel
theorem dX11_add_47 : decode cX11_add 47 = .ok (.iadd, 1) := by decide +kernel
theorem dX11_add_48 : decode cX11_add 48 = .ok (.putfield 38, 3) := by decide +kernel
theorem dX11_add_51 : decode cX11_add 51 = .ok (.return_, 1) := by decide +kernel
theorem dX11_addDirections_0 : decode cX11_addDirections 0 = .ok (.aload_n 0, 1) := by decide +kernel
theorem dX11_addDirections_1 : decode cX11_addDirections 1 = .ok (.iconst 0, 1) := by decide +kernel
theorem dX11_addDirections_2 : decode cX11_addDirections 2 = .ok (.putfield 38, 3) := by decide +kernel
theorem dX11_addDirections_5 : decode cX11_addDirections 5 = .ok (.iconst 0, 1) := by decide +kernel
theorem dX11_addDirections_6 : decode cX11_addDirections 6 = .ok (.istore_n 3, 1) := by decide +kernel
theorem dX11_addDirections_7 : decode cX11_addDirections 7 = .ok (.iload_n 3, 1) := by decide +kernel
theorem dX11_addDirections_8 : decode cX11_addDirections 8 = .ok (.aload_n 0, 1) := by decide +kernel
theorem dX11_addDirections_9 : decode cX11_addDirections 9 = .ok (.getfield 13, 3) := by decide +kernel
theorem dX11_addDirections_12 : decode cX11_addDirections 12 = .ok (.if_icmp .ge 50, 3) := by decide +kernel
theorem dX11_addDirections_15 : decode cX11_addDirections 15 = .ok (.iload_n 3, 1) := by decide +kernel
theorem dX11_addDirections_16 : decode cX11_addDirections 16 = .ok (.iload_n 1, 1) := by decide +kernel
theorem dX11_addDirections_17 : decode cX11_addDirections 17 = .ok (.if_icmp .eq 39, 3) := by decide +kernel
theorem dX11_addDirections_20 : decode cX11_addDirections 20 = .ok (.iload_n 2, 1) := by decide +kernel
theorem dX11_addDirections_21 : decode cX11_addDirections 21 = .ok (.ifCond .ne 13, 3) := by decide +kernel
theorem dX11_addDirections_24 : decode cX11_addDirections 24 = .ok (.aload_n 0, 1) := by decide +kernel
theorem dX11_addDirections_25 : decode cX11_addDirections 25 = .ok (.getfield 16, 3) := by decide +kernel
theorem dX11_addDirections_28 : decode cX11_addDirections 28 = .ok (.iload_n 3, 1) := by decide +kernel
theorem dX11_addDirections_29 : decode cX11_addDirections 29 = .ok (.iaload, 1) := by decide +kernel
theorem dX11_addDirections_30 : decode cX11_addDirections 30 = .ok (.iconst 2, 1) := by decide +kernel
theorem dX11_addDirections_31 : decode cX11_addDirections 31 = .ok (.if_icmp .eq 25, 3) := by decide +kernel
theorem dX11_addDirections_34 : decode cX11_addDirections 34 = .ok (.aload_n 0, 1) := by decide +kernel
theorem dX11_addDirections_35 : decode cX11_addDirections 35 = .ok (.aload_n 0, 1) := by decide +kernel
theorem dX11_addDirections_36 : decode cX11_addDirections 36 = .ok (.iload_n 3, 1) := by decide +kernel
theorem dX11_addDirections_37 : decode cX11_addDirections 37 = .ok (.iconst 0, 1) := by decide +kernel
theorem dX11_addDirections_38 : decode cX11_addDirections 38 = .ok (.invokevirtual 161, 3) := by decide +kernel
theorem dX11_addDirections_41 : decode cX11_addDirections 41 = .ok (.aload_n 0, 1) := by decide +kernel
theorem dX11_addDirections_42 : decode cX11_addDirections 42 = .ok (.iload_n 3, 1) := by decide +kernel
theorem dX11_addDirections_43 : decode cX11_addDirections 43 = .ok (.iconst 1, 1) := by decide +kernel
theorem dX11_addDirections_44 : decode cX11_addDirections 44 = .ok (.invokevirtual 161, 3) := by decide +kernel
theorem dX11_addDirections_47 : decode cX11_addDirections 47 = .ok (.aload_n 0, 1) := by decide +kernel
theorem dX11_addDirections_48 : decode cX11_addDirections 48 = .ok (.iload_n 3, 1) := by decide +kernel
theorem dX11_addDirections_49 : decode cX11_addDirections 49 = .ok (.iconst 2, 1) := by decide +kernel
theorem dX11_addDirections_50 : decode cX11_addDirections 50 = .ok (.invokevirtual 161, 3) := by decide +kernel
theorem dX11_addDirections_53 : decode cX11_addDirections 53 = .ok (.invokevirtual 169, 3) := by decide +kernel
theorem dX11_addDirections_56 : decode cX11_addDirections 56 = .ok (.iinc 3 1, 3) := by decide +kernel
theorem dX11_addDirections_59 : decode cX11_addDirections 59 = .ok (.goto (-52), 3) := by decide +kernel
theorem dX11_addDirections_62 : decode cX11_addDirections 62 = .ok (.return_, 1) := by decide +kernel
theorem dX11_across_0 : decode cX11_across 0 = .ok (.iconst 0, 1) := by decide +kernel
theorem dX11_across_1 : decode cX11_across 1 = .ok (.istore_n 3, 1) := by decide +kernel
theorem dX11_across_2 : decode cX11_across 2 = .ok (.iload_n 3, 1) := by decide +kernel
theorem dX11_across_3 : decode cX11_across 3 = .ok (.iconst 3, 1) := by decide +kernel
theorem dX11_across_4 : decode cX11_across 4 = .ok (.if_icmp .ge 74, 3) := by decide +kernel
theorem dX11_across_7 : decode cX11_across 7 = .ok (.aload_n 0, 1) := by decide +kernel
theorem dX11_across_8 : decode cX11_across 8 = .ok (.getfield 45, 3) := by decide +kernel
theorem dX11_across_11 : decode cX11_across 11 = .ok (.iload_n 3, 1) := by decide +kernel
theorem dX11_across_12 : decode cX11_across 12 = .ok (.aload_n 0, 1) := by decide +kernel
theorem dX11_across_13 : decode cX11_across 13 = .ok (.getfield 41, 3) := by decide +kernel
theorem dX11_across_16 : decode cX11_across 16 = .ok (.iconst 3, 1) := by decide +kernel
theorem dX11_across_17 : decode cX11_across 17 = .ok (.iload_n 1, 1) := by decide +kernel
theorem dX11_across_18 : decode cX11_across 18 = .ok (.imul, 1) := by decide +kernel
theorem dX11_across_19 : decode cX11_across 19 = .ok (.iload_n 3, 1) := by decide +kernel
theorem dX11_across_20 : decode cX11_across 20 = .ok (.iconst 1, 1) := by decide +kernel
theorem dX11_across_21 : decode cX11_across 21 = .ok (.iadd, 1) := by decide +kernel
theorem dX11_across_22 : decode cX11_across 22 = .ok (.iconst 3, 1) := by decide +kernel
theorem dX11_across_23 : decode cX11_across 23 = .ok (.irem, 1) := by decide +kernel
theorem dX11_across_24 : decode cX11_across 24 = .ok (.iadd, 1) := by decide +kernel
theorem dX11_across_25 : decode cX11_across 25 = .ok (.laload, 1) := by decide +kernel
theorem dX11_across_26 : decode cX11_across 26 = .ok (.aload_n 0, 1) := by decide +kernel
theorem dX11_across_27 : decode cX11_across 27 = .ok (.getfield 41, 3) := by decide +kernel
theorem dX11_across_30 : decode cX11_across 30 = .ok (.iconst 3, 1) := by decide +kernel
theorem dX11_across_31 : decode cX11_across 31 = .ok (.iload_n 2, 1) := by decide +kernel
theorem dX11_across_32 : decode cX11_across 32 = .ok (.imul, 1) := by decide +kernel
theorem dX11_across_33 : decode cX11_across 33 = .ok (.iload_n 3, 1) := by decide +kernel
theorem dX11_across_34 : decode cX11_across 34 = .ok (.iconst 2, 1) := by decide +kernel
theorem dX11_across_35 : decode cX11_across 35 = .ok (.iadd, 1) := by decide +kernel
theorem dX11_across_36 : decode cX11_across 36 = .ok (.iconst 3, 1) := by decide +kernel
theorem dX11_across_37 : decode cX11_across 37 = .ok (.irem, 1) := by decide +kernel
theorem dX11_across_38 : decode cX11_across 38 = .ok (.iadd, 1) := by decide +kernel
theorem dX11_across_39 : decode cX11_across 39 = .ok (.laload, 1) := by decide +kernel
theorem dX11_across_40 : decode cX11_across 40 = .ok (.lmul, 1) := by decide +kernel
theorem dX11_across_41 : decode cX11_across 41 = .ok (.aload_n 0, 1) := by decide +kernel
theorem dX11_across_42 : decode cX11_across 42 = .ok (.getfield 41, 3) := by decide +kernel
theorem dX11_across_45 : decode cX11_across 45 = .ok (.iconst 3, 1) := by decide +kernel
theorem dX11_across_46 : decode cX11_across 46 = .ok (.iload_n 1, 1) := by decide +kernel
theorem dX11_across_47 : decode cX11_across 47 = .ok (.imul, 1) := by decide +kernel
theorem dX11_across_48 : decode cX11_across 48 = .ok (.iload_n 3, 1) := by decide +kernel
theorem dX11_across_49 : decode cX11_across 49 = .ok (.iconst 2, 1) := by decide +kernel
theorem dX11_across_50 : decode cX11_across 50 = .ok (.iadd, 1) := by decide +kernel
theorem dX11_across_51 : decode cX11_across 51 = .ok (.iconst 3, 1) := by decide +kernel
theorem dX11_across_52 : decode cX11_across 52 = .ok (.irem, 1) := by decide +kernel
theorem dX11_across_53 : decode cX11_across 53 = .ok (.iadd, 1) := by decide +kernel
theorem dX11_across_54 : decode cX11_across 54 = .ok (.laload, 1) := by decide +kernel
theorem dX11_across_55 : decode cX11_across 55 = .ok (.aload_n 0, 1) := by decide +kernel
theorem dX11_across_56 : decode cX11_across 56 = .ok (.getfield 41, 3) := by decide +kernel
theorem dX11_across_59 : decode cX11_across 59 = .ok (.iconst 3, 1) := by decide +kernel
theorem dX11_across_60 : decode cX11_across 60 = .ok (.iload_n 2, 1) := by decide +kernel
theorem dX11_across_61 : decode cX11_across 61 = .ok (.imul, 1) := by decide +kernel
theorem dX11_across_62 : decode cX11_across 62 = .ok (.iload_n 3, 1) := by decide +kernel
theorem dX11_across_63 : decode cX11_across 63 = .ok (.iconst 1, 1) := by decide +kernel
theorem dX11_across_64 : decode cX11_across 64 = .ok (.iadd, 1) := by decide +kernel
theorem dX11_across_65 : decode cX11_across 65 = .ok (.iconst 3, 1) := by decide +kernel
theorem dX11_across_66 : decode cX11_across 66 = .ok (.irem, 1) := by decide +kernel
theorem dX11_across_67 : decode cX11_across 67 = .ok (.iadd, 1) := by decide +kernel
theorem dX11_across_68 : decode cX11_across 68 = .ok (.laload, 1) := by decide +kernel
theorem dX11_across_69 : decode cX11_across 69 = .ok (.lmul, 1) := by decide +kernel
theorem dX11_across_70 : decode cX11_across 70 = .ok (.lsub, 1) := by decide +kernel
theorem dX11_across_71 : decode cX11_across 71 = .ok (.lastore, 1) := by decide +kernel
theorem dX11_across_72 : decode cX11_across 72 = .ok (.iinc 3 1, 3) := by decide +kernel
theorem dX11_across_75 : decode cX11_across 75 = .ok (.goto (-73), 3) := by decide +kernel
theorem dX11_across_78 : decode cX11_across 78 = .ok (.aload_n 0, 1) := by decide +kernel
theorem dX11_across_79 : decode cX11_across 79 = .ok (.getfield 45, 3) := by decide +kernel
theorem dX11_across_82 : decode cX11_across 82 = .ok (.iconst 0, 1) := by decide +kernel
theorem dX11_across_83 : decode cX11_across 83 = .ok (.laload, 1) := by decide +kernel
theorem dX11_across_84 : decode cX11_across 84 = .ok (.lconst 0, 1) := by decide +kernel
theorem dX11_across_85 : decode cX11_across 85 = .ok (.lcmp, 1) := by decide +kernel
theorem dX11_across_86 : decode cX11_across 86 = .ok (.ifCond .ne 25, 3) := by decide +kernel
theorem dX11_across_89 : decode cX11_across 89 = .ok (.aload_n 0, 1) := by decide +kernel
theorem dX11_across_90 : decode cX11_across 90 = .ok (.getfield 45, 3) := by decide +kernel
theorem dX11_across_93 : decode cX11_across 93 = .ok (.iconst 1, 1) := by decide +kernel
theorem dX11_across_94 : decode cX11_across 94 = .ok (.laload, 1) := by decide +kernel
theorem dX11_across_95 : decode cX11_across 95 = .ok (.lconst 0, 1) := by decide +kernel
theorem dX11_across_96 : decode cX11_across 96 = .ok (.lcmp, 1) := by decide +kernel
theorem dX11_across_97 : decode cX11_across 97 = .ok (.ifCond .ne 14, 3) := by decide +kernel
theorem dX11_across_100 : decode cX11_across 100 = .ok (.aload_n 0, 1) := by decide +kernel
theorem dX11_across_101 : decode cX11_across 101 = .ok (.getfield 45, 3) := by decide +kernel
theorem dX11_across_104 : decode cX11_across 104 = .ok (.iconst 2, 1) := by decide +kernel
theorem dX11_across_105 : decode cX11_across 105 = .ok (.laload, 1) := by decide +kernel
theorem dX11_across_106 : decode cX11_across 106 = .ok (.lconst 0, 1) := by decide +kernel
theorem dX11_across_107 : decode cX11_across 107 = .ok (.lcmp, 1) := by decide +kernel
theorem dX11_across_108 : decode cX11_across 108 = .ok (.ifCond .eq 7, 3) := by decide +kernel
theorem dX11_across_111 : decode cX11_across 111 = .ok (.iconst 1, 1) := by decide +kernel
theorem dX11_across_112 : decode cX11_across 112 = .ok (.goto 4, 3) := by decide +kernel
theorem dX11_across_115 : decode cX11_across 115 = .ok (.iconst 0, 1) := by decide +kernel
theorem dX11_across_116 : decode cX11_across 116 = .ok (.ireturn, 1) := by decide +kernel
theorem dX11_against_0 : decode cX11_against 0 = .ok (.aload_n 0, 1) := by decide +kernel
theorem dX11_against_1 : decode cX11_against 1 = .ok (.getfield 45, 3) := by decide +kernel
theorem dX11_against_4 : decode cX11_against 4 = .ok (.iconst 0, 1) := by decide +kernel
theorem dX11_against_5 : decode cX11_against 5 = .ok (.laload, 1) := by decide +kernel
theorem dX11_against_6 : decode cX11_against 6 = .ok (.aload_n 0, 1) := by decide +kernel
theorem dX11_against_7 : decode cX11_against 7 = .ok (.getfield 41, 3) := by decide +kernel
theorem dX11_against_10 : decode cX11_against 10 = .ok (.iconst 3, 1) := by decide +kernel
theorem dX11_against_11 : decode cX11_against 11 = .ok (.iload_n 1, 1) := by decide +kernel
theorem dX11_against_12 : decode cX11_against 12 = .ok (.imul, 1) := by decide +kernel
theorem dX11_against_13 : decode cX11_against 13 = .ok (.laload, 1) := by decide +kernel
theorem dX11_against_14 : decode cX11_against 14 = .ok (.lmul, 1) := by decide +kernel
theorem dX11_against_15 : decode cX11_against 15 = .ok (.aload_n 0, 1) := by decide +kernel
theorem dX11_against_16 : decode cX11_against 16 = .ok (.getfield 45, 3) := by decide +kernel
theorem dX11_against_19 : decode cX11_against 19 = .ok (.iconst 1, 1) := by decide +kernel
theorem dX11_against_20 : decode cX11_against 20 = .ok (.laload, 1) := by decide +kernel
theorem dX11_against_21 : decode cX11_against 21 = .ok (.aload_n 0, 1) := by decide +kernel
theorem dX11_against_22 : decode cX11_against 22 = .ok (.getfield 41, 3) := by decide +kernel
theorem dX11_against_25 : decode cX11_against 25 = .ok (.iconst 3, 1) := by decide +kernel
theorem dX11_against_26 : decode cX11_against 26 = .ok (.iload_n 1, 1) := by decide +kernel
theorem dX11_against_27 : decode cX11_against 27 = .ok (.imul, 1) := by decide +kernel
theorem dX11_against_28 : decode cX11_against 28 = .ok (.iconst 1, 1) := by decide +kernel
theorem dX11_against_29 : decode cX11_against 29 = .ok (.iadd, 1) := by decide +kernel
theorem dX11_against_30 : decode cX11_against 30 = .ok (.laload, 1) := by decide +kernel
theorem dX11_against_31 : decode cX11_against 31 = .ok (.lmul, 1) := by decide +kernel
theorem dX11_against_32 : decode cX11_against 32 = .ok (.ladd, 1) := by decide +kernel
theorem dX11_against_33 : decode cX11_against 33 = .ok (.aload_n 0, 1) := by decide +kernel
theorem dX11_against_34 : decode cX11_against 34 = .ok (.getfield 45, 3) := by decide +kernel
theorem dX11_against_37 : decode cX11_against 37 = .ok (.iconst 2, 1) := by decide +kernel
theorem dX11_against_38 : decode cX11_against 38 = .ok (.laload, 1) := by decide +kernel
theorem dX11_against_39 : decode cX11_against 39 = .ok (.aload_n 0, 1) := by decide +kernel
theorem dX11_against_40 : decode cX11_against 40 = .ok (.getfield 41, 3) := by decide +kernel
theorem dX11_against_43 : decode cX11_against 43 = .ok (.iconst 3, 1) := by decide +kernel
theorem dX11_against_44 : decode cX11_against 44 = .ok (.iload_n 1, 1) := by decide +kernel
theorem dX11_against_45 : decode cX11_against 45 = .ok (.imul, 1) := by decide +kernel
theorem dX11_against_46 : decode cX11_against 46 = .ok (.iconst 2, 1) := by decide +kernel
theorem dX11_against_47 : decode cX11_against 47 = .ok (.iadd, 1) := by decide +kernel
theorem dX11_against_48 : decode cX11_against 48 = .ok (.laload, 1) := by decide +kernel
theorem dX11_against_49 : decode cX11_against 49 = .ok (.lmul, 1) := by decide +kernel
theorem dX11_against_50 : decode cX11_against 50 = .ok (.ladd, 1) := by decide +kernel
theorem dX11_against_51 : decode cX11_against 51 = .ok (.lreturn, 1) := by decide +kernel
theorem dX11_isNought_0 : decode cX11_isNought 0 = .ok (.aload_n 0, 1) := by decide +kernel
theorem dX11_isNought_1 : decode cX11_isNought 1 = .ok (.getfield 41, 3) := by decide +kernel
theorem dX11_isNought_4 : decode cX11_isNought 4 = .ok (.iconst 3, 1) := by decide +kernel
theorem dX11_isNought_5 : decode cX11_isNought 5 = .ok (.iload_n 1, 1) := by decide +kernel
theorem dX11_isNought_6 : decode cX11_isNought 6 = .ok (.imul, 1) := by decide +kernel
theorem dX11_isNought_7 : decode cX11_isNought 7 = .ok (.laload, 1) := by decide +kernel
theorem dX11_isNought_8 : decode cX11_isNought 8 = .ok (.lconst 0, 1) := by decide +kernel
theorem dX11_isNought_9 : decode cX11_isNought 9 = .ok (.lcmp, 1) := by decide +kernel
theorem dX11_isNought_10 : decode cX11_isNought 10 = .ok (.ifCond .ne 37, 3) := by decide +kernel
theorem dX11_isNought_13 : decode cX11_isNought 13 = .ok (.aload_n 0, 1) := by decide +kernel
theorem dX11_isNought_14 : decode cX11_isNought 14 = .ok (.getfield 41, 3) := by decide +kernel
theorem dX11_isNought_17 : decode cX11_isNought 17 = .ok (.iconst 3, 1) := by decide +kernel
theorem dX11_isNought_18 : decode cX11_isNought 18 = .ok (.iload_n 1, 1) := by decide +kernel
theorem dX11_isNought_19 : decode cX11_isNought 19 = .ok (.imul, 1) := by decide +kernel
theorem dX11_isNought_20 : decode cX11_isNought 20 = .ok (.iconst 1, 1) := by decide +kernel
theorem dX11_isNought_21 : decode cX11_isNought 21 = .ok (.iadd, 1) := by decide +kernel
theorem dX11_isNought_22 : decode cX11_isNought 22 = .ok (.laload, 1) := by decide +kernel
theorem dX11_isNought_23 : decode cX11_isNought 23 = .ok (.lconst 0, 1) := by decide +kernel
theorem dX11_isNought_24 : decode cX11_isNought 24 = .ok (.lcmp, 1) := by decide +kernel
theorem dX11_isNought_25 : decode cX11_isNought 25 = .ok (.ifCond .ne 22, 3) := by decide +kernel
theorem dX11_isNought_28 : decode cX11_isNought 28 = .ok (.aload_n 0, 1) := by decide +kernel
theorem dX11_isNought_29 : decode cX11_isNought 29 = .ok (.getfield 41, 3) := by decide +kernel
theorem dX11_isNought_32 : decode cX11_isNought 32 = .ok (.iconst 3, 1) := by decide +kernel
theorem dX11_isNought_33 : decode cX11_isNought 33 = .ok (.iload_n 1, 1) := by decide +kernel
theorem dX11_isNought_34 : decode cX11_isNought 34 = .ok (.imul, 1) := by decide +kernel
theorem dX11_isNought_35 : decode cX11_isNought 35 = .ok (.iconst 2, 1) := by decide +kernel
theorem dX11_isNought_36 : decode cX11_isNought 36 = .ok (.iadd, 1) := by decide +kernel
theorem dX11_isNought_37 : decode cX11_isNought 37 = .ok (.laload, 1) := by decide +kernel
theorem dX11_isNought_38 : decode cX11_isNought 38 = .ok (.lconst 0, 1) := by decide +kernel
theorem dX11_isNought_39 : decode cX11_isNought 39 = .ok (.lcmp, 1) := by decide +kernel
theorem dX11_isNought_40 : decode cX11_isNought 40 = .ok (.ifCond .ne 7, 3) := by decide +kernel
theorem dX11_isNought_43 : decode cX11_isNought 43 = .ok (.iconst 1, 1) := by decide +kernel
theorem dX11_isNought_44 : decode cX11_isNought 44 = .ok (.goto 4, 3) := by decide +kernel
theorem dX11_isNought_47 : decode cX11_isNought 47 = .ok (.iconst 0, 1) := by decide +kernel
theorem dX11_isNought_48 : decode cX11_isNought 48 = .ok (.ireturn, 1) := by decide +kernel
theorem dX11_rankOf_0 : decode cX11_rankOf 0 = .ok (.iconst 0, 1) := by decide +kernel
theorem dX11_rankOf_1 : decode cX11_rankOf 1 = .ok (.istore_n 1, 1) := by decide +kernel
theorem dX11_rankOf_2 : decode cX11_rankOf 2 = .ok (.iconst 0, 1) := by decide +kernel
theorem dX11_rankOf_3 : decode cX11_rankOf 3 = .ok (.istore_n 2, 1) := by decide +kernel
theorem dX11_rankOf_4 : decode cX11_rankOf 4 = .ok (.iload_n 2, 1) := by decide +kernel
theorem dX11_rankOf_5 : decode cX11_rankOf 5 = .ok (.aload_n 0, 1) := by decide +kernel
theorem dX11_rankOf_6 : decode cX11_rankOf 6 = .ok (.getfield 38, 3) := by decide +kernel
theorem dX11_rankOf_9 : decode cX11_rankOf 9 = .ok (.if_icmp .ge 91, 3) := by decide +kernel
theorem dX11_rankOf_12 : decode cX11_rankOf 12 = .ok (.iload_n 1, 1) := by decide +kernel
theorem dX11_rankOf_13 : decode cX11_rankOf 13 = .ok (.ifCond .ne 15, 3) := by decide +kernel
theorem dX11_rankOf_16 : decode cX11_rankOf 16 = .ok (.aload_n 0, 1) := by decide +kernel
theorem dX11_rankOf_17 : decode cX11_rankOf 17 = .ok (.iload_n 2, 1) := by decide +kernel
theorem dX11_rankOf_18 : decode cX11_rankOf 18 = .ok (.invokevirtual 173, 3) := by decide +kernel
theorem dX11_rankOf_21 : decode cX11_rankOf 21 = .ok (.ifCond .ne 7, 3) := by decide +kernel
theorem dX11_rankOf_24 : decode cX11_rankOf 24 = .ok (.iconst 1, 1) := by decide +kernel
theorem dX11_rankOf_25 : decode cX11_rankOf 25 = .ok (.goto 4, 3) := by decide +kernel
theorem dX11_rankOf_28 : decode cX11_rankOf 28 = .ok (.iload_n 1, 1) := by decide +kernel
theorem dX11_rankOf_29 : decode cX11_rankOf 29 = .ok (.istore_n 1, 1) := by decide +kernel
theorem dX11_rankOf_30 : decode cX11_rankOf 30 = .ok (.iconst 0, 1) := by decide +kernel
theorem dX11_rankOf_31 : decode cX11_rankOf 31 = .ok (.istore_n 3, 1) := by decide +kernel
theorem dX11_rankOf_32 : decode cX11_rankOf 32 = .ok (.iload_n 3, 1) := by decide +kernel
theorem dX11_rankOf_33 : decode cX11_rankOf 33 = .ok (.iload_n 2, 1) := by decide +kernel
theorem dX11_rankOf_34 : decode cX11_rankOf 34 = .ok (.if_icmp .ge 60, 3) := by decide +kernel
theorem dX11_rankOf_37 : decode cX11_rankOf 37 = .ok (.aload_n 0, 1) := by decide +kernel
theorem dX11_rankOf_38 : decode cX11_rankOf 38 = .ok (.iload_n 2, 1) := by decide +kernel
theorem dX11_rankOf_39 : decode cX11_rankOf 39 = .ok (.iload_n 3, 1) := by decide +kernel
theorem dX11_rankOf_40 : decode cX11_rankOf 40 = .ok (.invokevirtual 176, 3) := by decide +kernel
theorem dX11_rankOf_43 : decode cX11_rankOf 43 = .ok (.ifCond .ne 6, 3) := by decide +kernel
theorem dX11_rankOf_46 : decode cX11_rankOf 46 = .ok (.goto 42, 3) := by decide +kernel
theorem dX11_rankOf_49 : decode cX11_rankOf 49 = .ok (.iload_n 1, 1) := by decide +kernel
theorem dX11_rankOf_50 : decode cX11_rankOf 50 = .ok (.iconst 2, 1) := by decide +kernel
theorem dX11_rankOf_51 : decode cX11_rankOf 51 = .ok (.if_icmp .ge 7, 3) := by decide +kernel
theorem dX11_rankOf_54 : decode cX11_rankOf 54 = .ok (.iconst 2, 1) := by decide +kernel
theorem dX11_rankOf_55 : decode cX11_rankOf 55 = .ok (.goto 4, 3) := by decide +kernel
theorem dX11_rankOf_58 : decode cX11_rankOf 58 = .ok (.iload_n 1, 1) := by decide +kernel
theorem dX11_rankOf_59 : decode cX11_rankOf 59 = .ok (.istore_n 1, 1) := by decide +kernel
theorem dX11_rankOf_60 : decode cX11_rankOf 60 = .ok (.iconst 0, 1) := by decide +kernel
theorem dX11_rankOf_61 : decode cX11_rankOf 61 = .ok (.istore 4, 2) := by decide +kernel
theorem dX11_rankOf_63 : decode cX11_rankOf 63 = .ok (.iload 4, 2) := by decide +kernel
theorem dX11_rankOf_65 : decode cX11_rankOf 65 = .ok (.iload_n 3, 1) := by decide +kernel
theorem dX11_rankOf_66 : decode cX11_rankOf 66 = .ok (.if_icmp .ge 22, 3) := by decide +kernel
theorem dX11_rankOf_69 : decode cX11_rankOf 69 = .ok (.aload_n 0, 1) := by decide +kernel
theorem dX11_rankOf_70 : decode cX11_rankOf 70 = .ok (.iload 4, 2) := by decide +kernel
theorem dX11_rankOf_72 : decode cX11_rankOf 72 = .ok (.invokevirtual 179, 3) := by decide +kernel
theorem dX11_rankOf_75 : decode cX11_rankOf 75 = .ok (.lconst 0, 1) := by decide +kernel
theorem dX11_rankOf_76 : decode cX11_rankOf 76 = .ok (.lcmp, 1) := by decide +kernel
theorem dX11_rankOf_77 : decode cX11_rankOf 77 = .ok (.ifCond .eq 5, 3) := by decide +kernel
theorem dX11_rankOf_80 : decode cX11_rankOf 80 = .ok (.iconst 3, 1) := by decide +kernel
theorem dX11_rankOf_81 : decode cX11_rankOf 81 = .ok (.ireturn, 1) := by decide +kernel
theorem dX11_rankOf_82 : decode cX11_rankOf 82 = .ok (.iinc 4 1, 3) := by decide +kernel
theorem dX11_rankOf_85 : decode cX11_rankOf 85 = .ok (.goto (-22), 3) := by decide +kernel
theorem dX11_rankOf_88 : decode cX11_rankOf 88 = .ok (.iinc 3 1, 3) := by decide +kernel
theorem dX11_rankOf_91 : decode cX11_rankOf 91 = .ok (.goto (-59), 3) := by decide +kernel
theorem dX11_rankOf_94 : decode cX11_rankOf 94 = .ok (.iinc 2 1, 3) := by decide +kernel
theorem dX11_rankOf_97 : decode cX11_rankOf 97 = .ok (.goto (-93), 3) := by decide +kernel
theorem dX11_rankOf_100 : decode cX11_rankOf 100 = .ok (.iload_n 1, 1) := by decide +kernel
theorem dX11_rankOf_101 : decode cX11_rankOf 101 = .ok (.ireturn, 1) := by decide +kernel
theorem dX11_rank_0 : decode cX11_rank 0 = .ok (.aload_n 0, 1) := by decide +kernel
theorem dX11_rank_1 : decode cX11_rank 1 = .ok (.iconst (-1), 1) := by decide +kernel
theorem dX11_rank_2 : decode cX11_rank 2 = .ok (.iconst 0, 1) := by decide +kernel
theorem dX11_rank_3 : decode cX11_rank 3 = .ok (.invokevirtual 183, 3) := by decide +kernel
theorem dX11_rank_6 : decode cX11_rank 6 = .ok (.aload_n 0, 1) := by decide +kernel
theorem dX11_rank_7 : decode cX11_rank 7 = .ok (.invokevirtual 187, 3) := by decide +kernel
theorem dX11_rank_10 : decode cX11_rank 10 = .ok (.ireturn, 1) := by decide +kernel
theorem dX11_divisor_0 : decode cX11_divisor 0 = .ok (.aload_n 0, 1) := by decide +kernel
theorem dX11_divisor_1 : decode cX11_divisor 1 = .ok (.lload_n 1, 1) := by decide +kernel
theorem dX11_divisor_2 : decode cX11_divisor 2 = .ok (.invokevirtual 191, 3) := by decide +kernel
theorem dX11_divisor_5 : decode cX11_divisor 5 = .ok (.lstore 5, 2) := by decide +kernel
theorem dX11_divisor_7 : decode cX11_divisor 7 = .ok (.aload_n 0, 1) := by decide +kernel
theorem dX11_divisor_8 : decode cX11_divisor 8 = .ok (.lload_n 3, 1) := by decide +kernel
theorem dX11_divisor_9 : decode cX11_divisor 9 = .ok (.invokevirtual 191, 3) := by decide +kernel
theorem dX11_divisor_12 : decode cX11_divisor 12 = .ok (.lstore 7, 2) := by decide +kernel
theorem dX11_divisor_14 : decode cX11_divisor 14 = .ok (.lload 7, 2) := by decide +kernel
theorem dX11_divisor_16 : decode cX11_divisor 16 = .ok (.lconst 0, 1) := by decide +kernel
theorem dX11_divisor_17 : decode cX11_divisor 17 = .ok (.lcmp, 1) := by decide +kernel
theorem dX11_divisor_18 : decode cX11_divisor 18 = .ok (.ifCond .eq 21, 3) := by decide +kernel
theorem dX11_divisor_21 : decode cX11_divisor 21 = .ok (.lload 5, 2) := by decide +kernel
theorem dX11_divisor_23 : decode cX11_divisor 23 = .ok (.lload 7, 2) := by decide +kernel
theorem dX11_divisor_25 : decode cX11_divisor 25 = .ok (.lrem, 1) := by decide +kernel
theorem dX11_divisor_26 : decode cX11_divisor 26 = .ok (.lstore 9, 2) := by decide +kernel
theorem dX11_divisor_28 : decode cX11_divisor 28 = .ok (.lload 7, 2) := by decide +kernel
theorem dX11_divisor_30 : decode cX11_divisor 30 = .ok (.lstore 5, 2) := by decide +kernel
theorem dX11_divisor_32 : decode cX11_divisor 32 = .ok (.lload 9, 2) := by decide +kernel
theorem dX11_divisor_34 : decode cX11_divisor 34 = .ok (.lstore 7, 2) := by decide +kernel
theorem dX11_divisor_36 : decode cX11_divisor 36 = .ok (.goto (-22), 3) := by decide +kernel
theorem dX11_divisor_39 : decode cX11_divisor 39 = .ok (.lload 5, 2) := by decide +kernel
theorem dX11_divisor_41 : decode cX11_divisor 41 = .ok (.lreturn, 1) := by decide +kernel
theorem dX11_findHidden_0 : decode cX11_findHidden 0 = .ok (.iconst 0, 1) := by decide +kernel
theorem dX11_findHidden_1 : decode cX11_findHidden 1 = .ok (.istore_n 1, 1) := by decide +kernel
theorem dX11_findHidden_2 : decode cX11_findHidden 2 = .ok (.iload_n 1, 1) := by decide +kernel
theorem dX11_findHidden_3 : decode cX11_findHidden 3 = .ok (.aload_n 0, 1) := by decide +kernel
theorem dX11_findHidden_4 : decode cX11_findHidden 4 = .ok (.getfield 38, 3) := by decide +kernel
theorem dX11_findHidden_7 : decode cX11_findHidden 7 = .ok (.if_icmp .ge 32, 3) := by decide +kernel
theorem dX11_findHidden_10 : decode cX11_findHidden 10 = .ok (.iconst 0, 1) := by decide +kernel
theorem dX11_findHidden_11 : decode cX11_findHidden 11 = .ok (.istore_n 2, 1) := by decide +kernel
theorem dX11_findHidden_12 : decode cX11_findHidden 12 = .ok (.iload_n 2, 1) := by decide +kernel
theorem dX11_findHidden_13 : decode cX11_findHidden 13 = .ok (.iload_n 1, 1) := by decide +kernel
theorem dX11_findHidden_14 : decode cX11_findHidden 14 = .ok (.if_icmp .ge 19, 3) := by decide +kernel
theorem dX11_findHidden_17 : decode cX11_findHidden 17 = .ok (.aload_n 0, 1) := by decide +kernel
theorem dX11_findHidden_18 : decode cX11_findHidden 18 = .ok (.iload_n 1, 1) := by decide +kernel
theorem dX11_findHidden_19 : decode cX11_findHidden 19 = .ok (.iload_n 2, 1) := by decide +kernel
theorem dX11_findHidden_20 : decode cX11_findHidden 20 = .ok (.invokevirtual 176, 3) := by decide +kernel
theorem dX11_findHidden_23 : decode cX11_findHidden 23 = .ok (.ifCond .eq 4, 3) := by decide +kernel
theorem dX11_findHidden_26 : decode cX11_findHidden 26 = .ok (.return_, 1) := by decide +kernel
theorem dX11_findHidden_27 : decode cX11_findHidden 27 = .ok (.iinc 2 1, 3) := by decide +kernel
theorem dX11_findHidden_30 : decode cX11_findHidden 30 = .ok (.goto (-18), 3) := by decide +kernel
theorem dX11_findHidden_33 : decode cX11_findHidden 33 = .ok (.iinc 1 1, 3) := by decide +kernel
theorem dX11_findHidden_36 : decode cX11_findHidden 36 = .ok (.goto (-34), 3) := by decide +kernel
theorem dX11_findHidden_39 : decode cX11_findHidden 39 = .ok (.return_, 1) := by decide +kernel
theorem dX11_hidden_0 : decode cX11_hidden 0 = .ok (.aload_n 0, 1) := by decide +kernel
theorem dX11_hidden_1 : decode cX11_hidden 1 = .ok (.aload_n 0, 1) := by decide +kernel
theorem dX11_hidden_2 : decode cX11_hidden 2 = .ok (.iload_n 1, 1) := by decide +kernel
theorem dX11_hidden_3 : decode cX11_hidden 3 = .ok (.iconst 0, 1) := by decide +kernel
theorem dX11_hidden_4 : decode cX11_hidden 4 = .ok (.iconst 2, 1) := by decide +kernel
theorem dX11_hidden_5 : decode cX11_hidden 5 = .ok (.invokevirtual 130, 3) := by decide +kernel
theorem dX11_hidden_8 : decode cX11_hidden 8 = .ok (.ifCond .eq 19, 3) := by decide +kernel
theorem dX11_hidden_11 : decode cX11_hidden 11 = .ok (.aload_n 0, 1) := by decide +kernel
theorem dX11_hidden_12 : decode cX11_hidden 12 = .ok (.invokevirtual 195, 3) := by decide +kernel
theorem dX11_hidden_15 : decode cX11_hidden 15 = .ok (.iconst 2, 1) := by decide +kernel
theorem dX11_hidden_16 : decode cX11_hidden 16 = .ok (.if_icmp .ne 7, 3) := by decide +kernel
theorem dX11_hidden_19 : decode cX11_hidden 19 = .ok (.iconst 0, 1) := by decide +kernel
theorem dX11_hidden_20 : decode cX11_hidden 20 = .ok (.goto 8, 3) := by decide +kernel
theorem dX11_hidden_23 : decode cX11_hidden 23 = .ok (.iconst 2, 1) := by decide +kernel
theorem dX11_hidden_24 : decode cX11_hidden 24 = .ok (.goto 4, 3) := by decide +kernel
theorem dX11_hidden_27 : decode cX11_hidden 27 = .ok (.iconst 1, 1) := by decide +kernel
theorem dX11_hidden_28 : decode cX11_hidden 28 = .ok (.putfield 7, 3) := by decide +kernel
theorem dX11_hidden_31 : decode cX11_hidden 31 = .ok (.aload_n 0, 1) := by decide +kernel
theorem dX11_hidden_32 : decode cX11_hidden 32 = .ok (.getfield 7, 3) := by decide +kernel
theorem dX11_hidden_35 : decode cX11_hidden 35 = .ok (.ifCond .le 5, 3) := by decide +kernel
theorem dX11_hidden_38 : decode cX11_hidden 38 = .ok (.lconst 0, 1) := by decide +kernel
theorem dX11_hidden_39 : decode cX11_hidden 39 = .ok (.lreturn, 1) := by decide +kernel
theorem dX11_hidden_40 : decode cX11_hidden 40 = .ok (.aload_n 0, 1) := by decide +kernel
theorem dX11_hidden_41 : decode cX11_hidden 41 = .ok (.invokevirtual 198, 3) := by decide +kernel
theorem dX11_hidden_44 : decode cX11_hidden 44 = .ok (.aload_n 0, 1) := by decide +kernel
theorem dX11_hidden_45 : decode cX11_hidden 45 = .ok (.aload_n 0, 1) := by decide +kernel
theorem dX11_hidden_46 : decode cX11_hidden 46 = .ok (.aload_n 0, 1) := by decide +kernel
theorem dX11_hidden_47 : decode cX11_hidden 47 = .ok (.getfield 45, 3) := by decide +kernel
theorem dX11_hidden_50 : decode cX11_hidden 50 = .ok (.iconst 0, 1) := by decide +kernel
theorem dX11_hidden_51 : decode cX11_hidden 51 = .ok (.laload, 1) := by decide +kernel
theorem dX11_hidden_52 : decode cX11_hidden 52 = .ok (.aload_n 0, 1) := by decide +kernel
theorem dX11_hidden_53 : decode cX11_hidden 53 = .ok (.getfield 45, 3) := by decide +kernel
theorem dX11_hidden_56 : decode cX11_hidden 56 = .ok (.iconst 1, 1) := by decide +kernel
theorem dX11_hidden_57 : decode cX11_hidden 57 = .ok (.laload, 1) := by decide +kernel
theorem dX11_hidden_58 : decode cX11_hidden 58 = .ok (.invokevirtual 201, 3) := by decide +kernel
theorem dX11_hidden_61 : decode cX11_hidden 61 = .ok (.aload_n 0, 1) := by decide +kernel
theorem dX11_hidden_62 : decode cX11_hidden 62 = .ok (.getfield 45, 3) := by decide +kernel
theorem dX11_hidden_65 : decode cX11_hidden 65 = .ok (.iconst 2, 1) := by decide +kernel
theorem dX11_hidden_66 : decode cX11_hidden 66 = .ok (.laload, 1) := by decide +kernel
theorem dX11_hidden_67 : decode cX11_hidden 67 = .ok (.invokevirtual 201, 3) := by decide +kernel
theorem dX11_hidden_70 : decode cX11_hidden 70 = .ok (.lstore_n 2, 1) := by decide +kernel
theorem dX11_hidden_71 : decode cX11_hidden 71 = .ok (.aload_n 0, 1) := by decide +kernel
theorem dX11_hidden_72 : decode cX11_hidden 72 = .ok (.getfield 45, 3) := by decide +kernel
theorem dX11_hidden_75 : decode cX11_hidden 75 = .ok (.iconst 2, 1) := by decide +kernel
theorem dX11_hidden_76 : decode cX11_hidden 76 = .ok (.laload, 1) := by decide +kernel
theorem dX11_hidden_77 : decode cX11_hidden 77 = .ok (.lconst 0, 1) := by decide +kernel
theorem dX11_hidden_78 : decode cX11_hidden 78 = .ok (.lcmp, 1) := by decide +kernel
theorem dX11_hidden_79 : decode cX11_hidden 79 = .ok (.ifCond .eq 12, 3) := by decide +kernel
theorem dX11_hidden_82 : decode cX11_hidden 82 = .ok (.aload_n 0, 1) := by decide +kernel
theorem dX11_hidden_83 : decode cX11_hidden 83 = .ok (.getfield 45, 3) := by decide +kernel
theorem dX11_hidden_86 : decode cX11_hidden 86 = .ok (.iconst 2, 1) := by decide +kernel
theorem dX11_hidden_87 : decode cX11_hidden 87 = .ok (.laload, 1) := by decide +kernel
theorem dX11_hidden_88 : decode cX11_hidden 88 = .ok (.goto 29, 3) := by decide +kernel
theorem dX11_hidden_91 : decode cX11_hidden 91 = .ok (.aload_n 0, 1) := by decide +kernel
theorem dX11_hidden_92 : decode cX11_hidden 92 = .ok (.getfield 45, 3) := by decide +kernel
theorem dX11_hidden_95 : decode cX11_hidden 95 = .ok (.iconst 0, 1) := by decide +kernel
theorem dX11_hidden_96 : decode cX11_hidden 96 = .ok (.laload, 1) := by decide +kernel
theorem dX11_hidden_97 : decode cX11_hidden 97 = .ok (.lconst 0, 1) := by decide +kernel
theorem dX11_hidden_98 : decode cX11_hidden 98 = .ok (.lcmp, 1) := by decide +kernel
theorem dX11_hidden_99 : decode cX11_hidden 99 = .ok (.ifCond .eq 12, 3) := by decide +kernel
theorem dX11_hidden_102 : decode cX11_hidden 102 = .ok (.aload_n 0, 1) := by decide +kernel
theorem dX11_hidden_103 : decode cX11_hidden 103 = .ok (.getfield 45, 3) := by decide +kernel
theorem dX11_hidden_106 : decode cX11_hidden 106 = .ok (.iconst 0, 1) := by decide +kernel
theorem dX11_hidden_107 : decode cX11_hidden 107 = .ok (.laload, 1) := by decide +kernel
theorem dX11_hidden_108 : decode cX11_hidden 108 = .ok (.goto 9, 3) := by decide +kernel
theorem dX11_hidden_111 : decode cX11_hidden 111 = .ok (.aload_n 0, 1) := by decide +kernel
theorem dX11_hidden_112 : decode cX11_hidden 112 = .ok (.getfield 45, 3) := by decide +kernel
theorem dX11_hidden_115 : decode cX11_hidden 115 = .ok (.iconst 1, 1) := by decide +kernel
theorem dX11_hidden_116 : decode cX11_hidden 116 = .ok (.laload, 1) := by decide +kernel
theorem dX11_hidden_117 : decode cX11_hidden 117 = .ok (.lstore 4, 2) := by decide +kernel
theorem dX11_hidden_119 : decode cX11_hidden 119 = .ok (.aload_n 0, 1) := by decide +kernel
theorem dX11_hidden_120 : decode cX11_hidden 120 = .ok (.getfield 45, 3) := by decide +kernel
theorem dX11_hidden_123 : decode cX11_hidden 123 = .ok (.iload_n 1, 1) := by decide +kernel
theorem dX11_hidden_124 : decode cX11_hidden 124 = .ok (.laload, 1) := by decide +kernel
theorem dX11_hidden_125 : decode cX11_hidden 125 = .ok (.lload 4, 2) := by decide +kernel
theorem dX11_hidden_127 : decode cX11_hidden 127 = .ok (.lconst 0, 1) := by decide +kernel
theorem dX11_hidden_128 : decode cX11_hidden 128 = .ok (.lcmp, 1) := by decide +kernel
theorem dX11_hidden_129 : decode cX11_hidden 129 = .ok (.ifCond .ge 8, 3) := by decide +kernel
theorem dX11_hidden_132 : decode cX11_hidden 132 = .ok (.lload_n 2, 1) := by decide +kernel
theorem dX11_hidden_133 : decode cX11_hidden 133 = .ok (.lneg, 1) := by decide +kernel
theorem dX11_hidden_134 : decode cX11_hidden 134 = .ok (.goto 4, 3) := by decide +kernel
theorem dX11_hidden_137 : decode cX11_hidden 137 = .ok (.lload_n 2, 1) := by decide +kernel
theorem dX11_hidden_138 : decode cX11_hidden 138 = .ok (.ldiv, 1) := by decide +kernel
theorem dX11_hidden_139 : decode cX11_hidden 139 = .ok (.lreturn, 1) := by decide +kernel
theorem dX11_sideOf_0 : decode cX11_sideOf 0 = .ok (.iconst 1, 1) := by decide +kernel
theorem dX11_sideOf_1 : decode cX11_sideOf 1 = .ok (.istore_n 1, 1) := by decide +kernel
theorem dX11_sideOf_2 : decode cX11_sideOf 2 = .ok (.iconst 1, 1) := by decide +kernel
theorem dX11_sideOf_3 : decode cX11_sideOf 3 = .ok (.istore_n 2, 1) := by decide +kernel
theorem dX11_sideOf_4 : decode cX11_sideOf 4 = .ok (.iconst 0, 1) := by decide +kernel
theorem dX11_sideOf_5 : decode cX11_sideOf 5 = .ok (.istore_n 3, 1) := by decide +kernel
theorem dX11_sideOf_6 : decode cX11_sideOf 6 = .ok (.iload_n 3, 1) := by decide +kernel
theorem dX11_sideOf_7 : decode cX11_sideOf 7 = .ok (.aload_n 0, 1) := by decide +kernel
theorem dX11_sideOf_8 : decode cX11_sideOf 8 = .ok (.getfield 38, 3) := by decide +kernel
theorem dX11_sideOf_11 : decode cX11_sideOf 11 = .ok (.if_icmp .ge 50, 3) := by decide +kernel
theorem dX11_sideOf_14 : decode cX11_sideOf 14 = .ok (.aload_n 0, 1) := by decide +kernel
theorem dX11_sideOf_15 : decode cX11_sideOf 15 = .ok (.iload_n 3, 1) := by decide +kernel
theorem dX11_sideOf_16 : decode cX11_sideOf 16 = .ok (.invokevirtual 179, 3) := by decide +kernel
theorem dX11_sideOf_19 : decode cX11_sideOf 19 = .ok (.lstore 4, 2) := by decide +kernel
theorem dX11_sideOf_21 : decode cX11_sideOf 21 = .ok (.iload_n 1, 1) := by decide +kernel
theorem dX11_sideOf_22 : decode cX11_sideOf 22 = .ok (.ifCond .eq 14, 3) := by decide +kernel
theorem dX11_sideOf_25 : decode cX11_sideOf 25 = .ok (.lload 4, 2) := by decide +kernel
theorem dX11_sideOf_27 : decode cX11_sideOf 27 = .ok (.lconst 0, 1) := by decide +kernel
theorem dX11_sideOf_28 : decode cX11_sideOf 28 = .ok (.lcmp, 1) := by decide +kernel
theorem dX11_sideOf_29 : decode cX11_sideOf 29 = .ok (.ifCond .lt 7, 3) := by decide +kernel
theorem dX11_sideOf_32 : decode cX11_sideOf 32 = .ok (.iconst 1, 1) := by decide +kernel
theorem dX11_sideOf_33 : decode cX11_sideOf 33 = .ok (.goto 4, 3) := by decide +kernel
theorem dX11_sideOf_36 : decode cX11_sideOf 36 = .ok (.iconst 0, 1) := by decide +kernel
theorem dX11_sideOf_37 : decode cX11_sideOf 37 = .ok (.istore_n 1, 1) := by decide +kernel
theorem dX11_sideOf_38 : decode cX11_sideOf 38 = .ok (.iload_n 2, 1) := by decide +kernel
theorem dX11_sideOf_39 : decode cX11_sideOf 39 = .ok (.ifCond .eq 14, 3) := by decide +kernel
theorem dX11_sideOf_42 : decode cX11_sideOf 42 = .ok (.lload 4, 2) := by decide +kernel
theorem dX11_sideOf_44 : decode cX11_sideOf 44 = .ok (.lconst 0, 1) := by decide +kernel
theorem dX11_sideOf_45 : decode cX11_sideOf 45 = .ok (.lcmp, 1) := by decide +kernel
theorem dX11_sideOf_46 : decode cX11_sideOf 46 = .ok (.ifCond .gt 7, 3) := by decide +kernel
theorem dX11_sideOf_49 : decode cX11_sideOf 49 = .ok (.iconst 1, 1) := by decide +kernel
theorem dX11_sideOf_50 : decode cX11_sideOf 50 = .ok (.goto 4, 3) := by decide +kernel
theorem dX11_sideOf_53 : decode cX11_sideOf 53 = .ok (.iconst 0, 1) := by decide +kernel
theorem dX11_sideOf_54 : decode cX11_sideOf 54 = .ok (.istore_n 2, 1) := by decide +kernel
theorem dX11_sideOf_55 : decode cX11_sideOf 55 = .ok (.iinc 3 1, 3) := by decide +kernel
theorem dX11_sideOf_58 : decode cX11_sideOf 58 = .ok (.goto (-52), 3) := by decide +kernel
theorem dX11_sideOf_61 : decode cX11_sideOf 61 = .ok (.iload_n 1, 1) := by decide +kernel
theorem dX11_sideOf_62 : decode cX11_sideOf 62 = .ok (.ifCond .eq 7, 3) := by decide +kernel
theorem dX11_sideOf_65 : decode cX11_sideOf 65 = .ok (.iconst 1, 1) := by decide +kernel
theorem dX11_sideOf_66 : decode cX11_sideOf 66 = .ok (.goto 12, 3) := by decide +kernel
theorem dX11_sideOf_69 : decode cX11_sideOf 69 = .ok (.iload_n 2, 1) := by decide +kernel
theorem dX11_sideOf_70 : decode cX11_sideOf 70 = .ok (.ifCond .eq 7, 3) := by decide +kernel
theorem dX11_sideOf_73 : decode cX11_sideOf 73 = .ok (.iconst (-1), 1) := by decide +kernel
theorem dX11_sideOf_74 : decode cX11_sideOf 74 = .ok (.goto 4, 3) := by decide +kernel
theorem dX11_sideOf_77 : decode cX11_sideOf 77 = .ok (.iconst 0, 1) := by decide +kernel
theorem dX11_sideOf_78 : decode cX11_sideOf 78 = .ok (.ireturn, 1) := by decide +kernel
theorem dX11_isForm_0 : decode cX11_isForm 0 = .ok (.aload_n 0, 1) := by decide +kernel
theorem dX11_isForm_1 : decode cX11_isForm 1 = .ok (.invokevirtual 187, 3) := by decide +kernel
theorem dX11_isForm_4 : decode cX11_isForm 4 = .ok (.iconst 3, 1) := by decide +kernel
theorem dX11_isForm_5 : decode cX11_isForm 5 = .ok (.if_icmp .ge 5, 3) := by decide +kernel
theorem dX11_isForm_8 : decode cX11_isForm 8 = .ok (.iconst 0, 1) := by decide +kernel
theorem dX11_isForm_9 : decode cX11_isForm 9 = .ok (.ireturn, 1) := by decide +kernel
theorem dX11_isForm_10 : decode cX11_isForm 10 = .ok (.iconst 0, 1) := by decide +kernel
theorem dX11_isForm_11 : decode cX11_isForm 11 = .ok (.istore_n 1, 1) := by decide +kernel
theorem dX11_isForm_12 : decode cX11_isForm 12 = .ok (.iload_n 1, 1) := by decide +kernel
theorem dX11_isForm_13 : decode cX11_isForm 13 = .ok (.aload_n 0, 1) := by decide +kernel
theorem dX11_isForm_14 : decode cX11_isForm 14 = .ok (.getfield 38, 3) := by decide +kernel
theorem dX11_isForm_17 : decode cX11_isForm 17 = .ok (.if_icmp .ge 40, 3) := by decide +kernel
theorem dX11_isForm_20 : decode cX11_isForm 20 = .ok (.iconst 0, 1) := by decide +kernel
theorem dX11_isForm_21 : decode cX11_isForm 21 = .ok (.istore_n 2, 1) := by decide +kernel
theorem dX11_isForm_22 : decode cX11_isForm 22 = .ok (.iload_n 2, 1) := by decide +kernel
theorem dX11_isForm_23 : decode cX11_isForm 23 = .ok (.iload_n 1, 1) := by decide +kernel
theorem dX11_isForm_24 : decode cX11_isForm 24 = .ok (.if_icmp .ge 27, 3) := by decide +kernel
theorem dX11_isForm_27 : decode cX11_isForm 27 = .ok (.aload_n 0, 1) := by decide +kernel
theorem dX11_isForm_28 : decode cX11_isForm 28 = .ok (.iload_n 1, 1) := by decide +kernel
theorem dX11_isForm_29 : decode cX11_isForm 29 = .ok (.iload_n 2, 1) := by decide +kernel
theorem dX11_isForm_30 : decode cX11_isForm 30 = .ok (.invokevirtual 176, 3) := by decide +kernel
theorem dX11_isForm_33 : decode cX11_isForm 33 = .ok (.ifCond .eq 12, 3) := by decide +kernel
theorem dX11_isForm_36 : decode cX11_isForm 36 = .ok (.aload_n 0, 1) := by decide +kernel
theorem dX11_isForm_37 : decode cX11_isForm 37 = .ok (.invokevirtual 205, 3) := by decide +kernel
theorem dX11_isForm_40 : decode cX11_isForm 40 = .ok (.ifCond .eq 5, 3) := by decide +kernel
theorem dX11_isForm_43 : decode cX11_isForm 43 = .ok (.iconst 0, 1) := by decide +kernel
theorem dX11_isForm_44 : decode cX11_isForm 44 = .ok (.ireturn, 1) := by decide +kernel
theorem dX11_isForm_45 : decode cX11_isForm 45 = .ok (.iinc 2 1, 3) := by decide +kernel
theorem dX11_isForm_48 : decode cX11_isForm 48 = .ok (.goto (-26), 3) := by decide +kernel
theorem dX11_isForm_51 : decode cX11_isForm 51 = .ok (.iinc 1 1, 3) := by decide +kernel
theorem dX11_isForm_54 : decode cX11_isForm 54 = .ok (.goto (-42), 3) := by decide +kernel
theorem dX11_isForm_57 : decode cX11_isForm 57 = .ok (.iconst 1, 1) := by decide +kernel
theorem dX11_isForm_58 : decode cX11_isForm 58 = .ok (.ireturn, 1) := by decide +kernel
theorem dX11_form_0 : decode cX11_form 0 = .ok (.aload_n 0, 1) := by decide +kernel
theorem dX11_form_1 : decode cX11_form 1 = .ok (.iconst (-1), 1) := by decide +kernel
theorem dX11_form_2 : decode cX11_form 2 = .ok (.iconst 1, 1) := by decide +kernel
theorem dX11_form_3 : decode cX11_form 3 = .ok (.invokevirtual 183, 3) := by decide +kernel
theorem dX11_form_6 : decode cX11_form 6 = .ok (.aload_n 0, 1) := by decide +kernel
theorem dX11_form_7 : decode cX11_form 7 = .ok (.invokevirtual 208, 3) := by decide +kernel
theorem dX11_form_10 : decode cX11_form 10 = .ok (.ireturn, 1) := by decide +kernel
theorem dX11_without_0 : decode cX11_without 0 = .ok (.aload_n 0, 1) := by decide +kernel
theorem dX11_without_1 : decode cX11_without 1 = .ok (.iload_n 1, 1) := by decide +kernel
theorem dX11_without_2 : decode cX11_without 2 = .ok (.invokevirtual 142, 3) := by decide +kernel
theorem dX11_without_5 : decode cX11_without 5 = .ok (.ifCond .ne 5, 3) := by decide +kernel
theorem dX11_without_8 : decode cX11_without 8 = .ok (.iconst (-1), 1) := by decide +kernel
theorem dX11_without_9 : decode cX11_without 9 = .ok (.ireturn, 1) := by decide +kernel
theorem dX11_without_10 : decode cX11_without 10 = .ok (.aload_n 0, 1) := by decide +kernel
theorem dX11_without_11 : decode cX11_without 11 = .ok (.iload_n 1, 1) := by decide +kernel
theorem dX11_without_12 : decode cX11_without 12 = .ok (.iconst 1, 1) := by decide +kernel
theorem dX11_without_13 : decode cX11_without 13 = .ok (.invokevirtual 183, 3) := by decide +kernel
theorem dX11_without_16 : decode cX11_without 16 = .ok (.aload_n 0, 1) := by decide +kernel
theorem dX11_without_17 : decode cX11_without 17 = .ok (.invokevirtual 208, 3) := by decide +kernel
theorem dX11_without_20 : decode cX11_without 20 = .ok (.ireturn, 1) := by decide +kernel
theorem dX11_prepare_0 : decode cX11_prepare 0 = .ok (.aload_n 0, 1) := by decide +kernel
theorem dX11_prepare_1 : decode cX11_prepare 1 = .ok (.iconst 0, 1) := by decide +kernel
theorem dX11_prepare_2 : decode cX11_prepare 2 = .ok (.putfield 38, 3) := by decide +kernel
theorem dX11_prepare_5 : decode cX11_prepare 5 = .ok (.iconst 0, 1) := by decide +kernel
theorem dX11_prepare_6 : decode cX11_prepare 6 = .ok (.istore_n 1, 1) := by decide +kernel
theorem dX11_prepare_7 : decode cX11_prepare 7 = .ok (.iload_n 1, 1) := by decide +kernel
theorem dX11_prepare_8 : decode cX11_prepare 8 = .ok (.iconst 3, 1) := by decide +kernel
theorem dX11_prepare_9 : decode cX11_prepare 9 = .ok (.if_icmp .ge 16, 3) := by decide +kernel
theorem dX11_prepare_12 : decode cX11_prepare 12 = .ok (.aload_n 0, 1) := by decide +kernel
theorem dX11_prepare_13 : decode cX11_prepare 13 = .ok (.getfield 57, 3) := by decide +kernel
theorem dX11_prepare_16 : decode cX11_prepare 16 = .ok (.iload_n 1, 1) := by decide +kernel
theorem dX11_prepare_17 : decode cX11_prepare 17 = .ok (.lconst 0, 1) := by decide +kernel
theorem dX11_prepare_18 : decode cX11_prepare 18 = .ok (.lastore, 1) := by decide +kernel
theorem dX11_prepare_19 : decode cX11_prepare 19 = .ok (.iinc 1 1, 3) := by decide +kernel
theorem dX11_prepare_22 : decode cX11_prepare 22 = .ok (.goto (-15), 3) := by decide +kernel
theorem dX11_prepare_25 : decode cX11_prepare 25 = .ok (.iconst 0, 1) := by decide +kernel
theorem dX11_prepare_26 : decode cX11_prepare 26 = .ok (.istore_n 1, 1) := by decide +kernel
theorem dX11_prepare_27 : decode cX11_prepare 27 = .ok (.iload_n 1, 1) := by decide +kernel
theorem dX11_prepare_28 : decode cX11_prepare 28 = .ok (.aload_n 0, 1) := by decide +kernel
theorem dX11_prepare_29 : decode cX11_prepare 29 = .ok (.getfield 13, 3) := by decide +kernel
theorem dX11_prepare_32 : decode cX11_prepare 32 = .ok (.if_icmp .ge 92, 3) := by decide +kernel
theorem dX11_prepare_35 : decode cX11_prepare 35 = .ok (.aload_n 0, 1) := by decide +kernel
theorem dX11_prepare_36 : decode cX11_prepare 36 = .ok (.getfield 16, 3) := by decide +kernel
theorem dX11_prepare_39 : decode cX11_prepare 39 = .ok (.iload_n 1, 1) := by decide +kernel
theorem dX11_prepare_40 : decode cX11_prepare 40 = .ok (.iaload, 1) := by decide +kernel
theorem dX11_prepare_41 : decode cX11_prepare 41 = .ok (.iconst 2, 1) := by decide +kernel
theorem dX11_prepare_42 : decode cX11_prepare 42 = .ok (.if_icmp .ne 34, 3) := by decide +kernel
theorem dX11_prepare_45 : decode cX11_prepare 45 = .ok (.iconst 0, 1) := by decide +kernel
theorem dX11_prepare_46 : decode cX11_prepare 46 = .ok (.istore_n 2, 1) := by decide +kernel
theorem dX11_prepare_47 : decode cX11_prepare 47 = .ok (.iload_n 2, 1) := by decide +kernel
theorem dX11_prepare_48 : decode cX11_prepare 48 = .ok (.iconst 3, 1) := by decide +kernel
theorem dX11_prepare_49 : decode cX11_prepare 49 = .ok (.if_icmp .ge 24, 3) := by decide +kernel
theorem dX11_prepare_52 : decode cX11_prepare 52 = .ok (.aload_n 0, 1) := by decide +kernel
theorem dX11_prepare_53 : decode cX11_prepare 53 = .ok (.getfield 57, 3) := by decide +kernel
theorem dX11_prepare_56 : decode cX11_prepare 56 = .ok (.iload_n 2, 1) := by decide +kernel
theorem dX11_prepare_57 : decode cX11_prepare 57 = .ok (.dup2, 1) := by decide +kernel
theorem dX11_prepare_58 : decode cX11_prepare 58 = .ok (.laload, 1) := by decide +kernel
theorem dX11_prepare_59 : decode cX11_prepare 59 = .ok (.aload_n 0, 1) := by decide +kernel
theorem dX11_prepare_60 : decode cX11_prepare 60 = .ok (.iload_n 1, 1) := by decide +kernel
theorem dX11_prepare_61 : decode cX11_prepare 61 = .ok (.iload_n 2, 1) := by decide +kernel
theorem dX11_prepare_62 : decode cX11_prepare 62 = .ok (.invokevirtual 161, 3) := by decide +kernel
theorem dX11_prepare_65 : decode cX11_prepare 65 = .ok (.ladd, 1) := by decide +kernel
theorem dX11_prepare_66 : decode cX11_prepare 66 = .ok (.lastore, 1) := by decide +kernel
theorem dX11_prepare_67 : decode cX11_prepare 67 = .ok (.iinc 2 1, 3) := by decide +kernel
theorem dX11_prepare_70 : decode cX11_prepare 70 = .ok (.goto (-23), 3) := by decide +kernel
theorem dX11_prepare_73 : decode cX11_prepare 73 = .ok (.goto 45, 3) := by decide +kernel
theorem dX11_prepare_76 : decode cX11_prepare 76 = .ok (.iconst 0, 1) := by decide +kernel
theorem dX11_prepare_77 : decode cX11_prepare 77 = .ok (.istore_n 2, 1) := by decide +kernel
theorem dX11_prepare_78 : decode cX11_prepare 78 = .ok (.iload_n 2, 1) := by decide +kernel
theorem dX11_prepare_79 : decode cX11_prepare 79 = .ok (.aload_n 0, 1) := by decide +kernel
theorem dX11_prepare_80 : decode cX11_prepare 80 = .ok (.iload_n 1, 1) := by decide +kernel
theorem dX11_prepare_81 : decode cX11_prepare 81 = .ok (.invokevirtual 145, 3) := by decide +kernel
theorem dX11_prepare_84 : decode cX11_prepare 84 = .ok (.if_icmp .ge 34, 3) := by decide +kernel
theorem dX11_prepare_87 : decode cX11_prepare 87 = .ok (.aload_n 0, 1) := by decide +kernel
theorem dX11_prepare_88 : decode cX11_prepare 88 = .ok (.aload_n 0, 1) := by decide +kernel
theorem dX11_prepare_89 : decode cX11_prepare 89 = .ok (.iload_n 1, 1) := by decide +kernel
theorem dX11_prepare_90 : decode cX11_prepare 90 = .ok (.iload_n 2, 1) := by decide +kernel
theorem dX11_prepare_91 : decode cX11_prepare 91 = .ok (.iconst 0, 1) := by decide +kernel
theorem dX11_prepare_92 : decode cX11_prepare 92 = .ok (.invokevirtual 165, 3) := by decide +kernel
theorem dX11_prepare_95 : decode cX11_prepare 95 = .ok (.aload_n 0, 1) := by decide +kernel
theorem dX11_prepare_96 : decode cX11_prepare 96 = .ok (.iload_n 1, 1) := by decide +kernel
theorem dX11_prepare_97 : decode cX11_prepare 97 = .ok (.iload_n 2, 1) := by decide +kernel
theorem dX11_prepare_98 : decode cX11_prepare 98 = .ok (.iconst 1, 1) := by decide +kernel
theorem dX11_prepare_99 : decode cX11_prepare 99 = .ok (.invokevirtual 165, 3) := by decide +kernel
theorem dX11_prepare_102 : decode cX11_prepare 102 = .ok (.aload_n 0, 1) := by decide +kernel
theorem dX11_prepare_103 : decode cX11_prepare 103 = .ok (.iload_n 1, 1) := by decide +kernel
theorem dX11_prepare_104 : decode cX11_prepare 104 = .ok (.iload_n 2, 1) := by decide +kernel
theorem dX11_prepare_105 : decode cX11_prepare 105 = .ok (.iconst 2, 1) := by decide +kernel
theorem dX11_prepare_106 : decode cX11_prepare 106 = .ok (.invokevirtual 165, 3) := by decide +kernel
theorem dX11_prepare_109 : decode cX11_prepare 109 = .ok (.invokevirtual 169, 3) := by decide +kernel
theorem dX11_prepare_112 : decode cX11_prepare 112 = .ok (.iinc 2 1, 3) := by decide +kernel
theorem dX11_prepare_115 : decode cX11_prepare 115 = .ok (.goto (-37), 3) := by decide +kernel
theorem dX11_prepare_118 : decode cX11_prepare 118 = .ok (.iinc 1 1, 3) := by decide +kernel
theorem dX11_prepare_121 : decode cX11_prepare 121 = .ok (.goto (-94), 3) := by decide +kernel
theorem dX11_prepare_124 : decode cX11_prepare 124 = .ok (.aload_n 0, 1) := by decide +kernel
theorem dX11_prepare_125 : decode cX11_prepare 125 = .ok (.aload_n 0, 1) := by decide +kernel
theorem dX11_prepare_126 : decode cX11_prepare 126 = .ok (.invokevirtual 187, 3) := by decide +kernel
theorem dX11_prepare_129 : decode cX11_prepare 129 = .ok (.putfield 48, 3) := by decide +kernel
theorem dX11_prepare_132 : decode cX11_prepare 132 = .ok (.aload_n 0, 1) := by decide +kernel
theorem dX11_prepare_133 : decode cX11_prepare 133 = .ok (.iconst 0, 1) := by decide +kernel
theorem dX11_prepare_134 : decode cX11_prepare 134 = .ok (.putfield 51, 3) := by decide +kernel
theorem dX11_prepare_137 : decode cX11_prepare 137 = .ok (.iconst 0, 1) := by decide +kernel
theorem dX11_prepare_138 : decode cX11_prepare 138 = .ok (.istore_n 1, 1) := by decide +kernel
theorem dX11_prepare_139 : decode cX11_prepare 139 = .ok (.iload_n 1, 1) := by decide +kernel
theorem dX11_prepare_140 : decode cX11_prepare 140 = .ok (.aload_n 0, 1) := by decide +kernel
theorem dX11_prepare_141 : decode cX11_prepare 141 = .ok (.getfield 38, 3) := by decide +kernel
theorem dX11_prepare_144 : decode cX11_prepare 144 = .ok (.if_icmp .ge 111, 3) := by decide +kernel
theorem dX11_prepare_147 : decode cX11_prepare 147 = .ok (.aload_n 0, 1) := by decide +kernel
theorem dX11_prepare_148 : decode cX11_prepare 148 = .ok (.getfield 48, 3) := by decide +kernel
theorem dX11_prepare_151 : decode cX11_prepare 151 = .ok (.iconst 3, 1) := by decide +kernel
theorem dX11_prepare_152 : decode cX11_prepare 152 = .ok (.if_icmp .ne 103, 3) := by decide +kernel
theorem dX11_prepare_155 : decode cX11_prepare 155 = .ok (.iconst 0, 1) := by decide +kernel
theorem dX11_prepare_156 : decode cX11_prepare 156 = .ok (.istore_n 2, 1) := by decide +kernel
theorem dX11_prepare_157 : decode cX11_prepare 157 = .ok (.iload_n 2, 1) := by decide +kernel
theorem dX11_prepare_158 : decode cX11_prepare 158 = .ok (.iload_n 1, 1) := by decide +kernel
theorem dX11_prepare_159 : decode cX11_prepare 159 = .ok (.if_icmp .ge 90, 3) := by decide +kernel
theorem dX11_prepare_162 : decode cX11_prepare 162 = .ok (.aload_n 0, 1) := by decide +kernel
theorem dX11_prepare_163 : decode cX11_prepare 163 = .ok (.iload_n 1, 1) := by decide +kernel
theorem dX11_prepare_164 : decode cX11_prepare 164 = .ok (.iload_n 2, 1) := by decide +kernel
theorem dX11_prepare_165 : decode cX11_prepare 165 = .ok (.invokevirtual 176, 3) := by decide +kernel
theorem dX11_prepare_168 : decode cX11_prepare 168 = .ok (.ifCond .ne 6, 3) := by decide +kernel
theorem dX11_prepare_171 : decode cX11_prepare 171 = .ok (.goto 72, 3) := by decide +kernel
theorem dX11_prepare_174 : decode cX11_prepare 174 = .ok (.aload_n 0, 1) := by decide +kernel
theorem dX11_prepare_175 : decode cX11_prepare 175 = .ok (.invokevirtual 205, 3) := by decide +kernel
theorem dX11_prepare_178 : decode cX11_prepare 178 = .ok (.istore_n 3, 1) := by decide +kernel
theorem dX11_prepare_179 : decode cX11_prepare 179 = .ok (.iload_n 3, 1) := by decide +kernel
theorem dX11_prepare_180 : decode cX11_prepare 180 = .ok (.ifCond .eq 63, 3) := by decide +kernel
theorem dX11_prepare_183 : decode cX11_prepare 183 = .ok (.aload_n 0, 1) := by decide +kernel
theorem dX11_prepare_184 : decode cX11_prepare 184 = .ok (.iload_n 3, 1) := by decide +kernel
theorem dX11_prepare_185 : decode cX11_prepare 185 = .ok (.invokevirtual 211, 3) := by decide +kernel
theorem dX11_prepare_188 : decode cX11_prepare 188 = .ok (.ifCond .eq 6, 3) := by decide +kernel
theorem dX11_prepare_191 : decode cX11_prepare 191 = .ok (.goto 52, 3) := by decide +kernel
theorem dX11_prepare_194 : decode cX11_prepare 194 = .ok (.iconst 0, 1) := by decide +kernel
theorem dX11_prepare_195 : decode cX11_prepare 195 = .ok (.istore 4, 2) := by decide +kernel
theorem dX11_prepare_197 : decode cX11_prepare 197 = .ok (.iload 4, 2) := by decide +kernel
theorem dX11_prepare_199 : decode cX11_prepare 199 = .ok (.iconst 3, 1) := by decide +kernel
theorem dX11_prepare_200 : decode cX11_prepare 200 = .ok (.if_icmp .ge 33, 3) := by decide +kernel
theorem dX11_prepare_203 : decode cX11_prepare 203 = .ok (.aload_n 0, 1) := by decide +kernel
theorem dX11_prepare_204 : decode cX11_prepare 204 = .ok (.getfield 54, 3) := by decide +kernel
theorem dX11_prepare_207 : decode cX11_prepare 207 = .ok (.iconst 3, 1) := by decide +kernel
theorem dX11_prepare_208 : decode cX11_prepare 208 = .ok (.aload_n 0, 1) := by decide +kernel
theorem dX11_prepare_209 : decode cX11_prepare 209 = .ok (.getfield 51, 3) := by decide +kernel
theorem dX11_prepare_212 : decode cX11_prepare 212 = .ok (.imul, 1) := by decide +kernel
theorem dX11_prepare_213 : decode cX11_prepare 213 = .ok (.iload 4, 2) := by decide +kernel
theorem dX11_prepare_215 : decode cX11_prepare 215 = .ok (.iadd, 1) := by decide +kernel
theorem dX11_prepare_216 : decode cX11_prepare 216 = .ok (.iload_n 3, 1) := by decide +kernel
theorem dX11_prepare_217 : decode cX11_prepare 217 = .ok (.i2l, 1) := by decide +kernel
theorem dX11_prepare_218 : decode cX11_prepare 218 = .ok (.aload_n 0, 1) := by decide +kernel
theorem dX11_prepare_219 : decode cX11_prepare 219 = .ok (.getfield 45, 3) := by decide +kernel
theorem dX11_prepare_222 : decode cX11_prepare 222 = .ok (.iload 4, 2) := by decide +kernel
theorem dX11_prepare_224 : decode cX11_prepare 224 = .ok (.laload, 1) := by decide +kernel
theorem dX11_prepare_225 : decode cX11_prepare 225 = .ok (.lmul, 1) := by decide +kernel
theorem dX11_prepare_226 : decode cX11_prepare 226 = .ok (.lastore, 1) := by decide +kernel
theorem dX11_prepare_227 : decode cX11_prepare 227 = .ok (.iinc 4 1, 3) := by decide +kernel
theorem dX11_prepare_230 : decode cX11_prepare 230 = .ok (.goto (-33), 3) := by decide +kernel
theorem dX11_prepare_233 : decode cX11_prepare 233 = .ok (.aload_n 0, 1) := by decide +kernel
theorem dX11_prepare_234 : decode cX11_prepare 234 = .ok (.dup, 1) := by decide +kernel
theorem dX11_prepare_235 : decode cX11_prepare 235 = .ok (.getfield 51, 3) := by decide +kernel
theorem dX11_prepare_238 : decode cX11_prepare 238 = .ok (.iconst 1, 1) := by decide +kernel
theorem dX11_prepare_239 : decode cX11_prepare 239 = .ok (.iadd, 1) := by decide +kernel
theorem dX11_prepare_240 : decode cX11_prepare 240 = .ok (.putfield 51, 3) := by decide +kernel
theorem dX11_prepare_243 : decode cX11_prepare 243 = .ok (.iinc 2 1, 3) := by decide +kernel
theorem dX11_prepare_246 : decode cX11_prepare 246 = .ok (.goto (-89), 3) := by decide +kernel
theorem dX11_prepare_249 : decode cX11_prepare 249 = .ok (.iinc 1 1, 3) := by decide +kernel
theorem dX11_prepare_252 : decode cX11_prepare 252 = .ok (.goto (-113), 3) := by decide +kernel
theorem dX11_prepare_255 : decode cX11_prepare 255 = .ok (.return_, 1) := by decide +kernel
theorem dX11_isFace_0 : decode cX11_isFace 0 = .ok (.iconst 0, 1) := by decide +kernel
theorem dX11_isFace_1 : decode cX11_isFace 1 = .ok (.istore_n 2, 1) := by decide +kernel
theorem dX11_isFace_2 : decode cX11_isFace 2 = .ok (.iload_n 2, 1) := by decide +kernel
theorem dX11_isFace_3 : decode cX11_isFace 3 = .ok (.aload_n 0, 1) := by decide +kernel
theorem dX11_isFace_4 : decode cX11_isFace 4 = .ok (.getfield 51, 3) := by decide +kernel
theorem dX11_isFace_7 : decode cX11_isFace 7 = .ok (.if_icmp .ge 139, 3) := by decide +kernel
theorem dX11_isFace_10 : decode cX11_isFace 10 = .ok (.iconst 1, 1) := by decide +kernel
theorem dX11_isFace_11 : decode cX11_isFace 11 = .ok (.istore_n 3, 1) := by decide +kernel
theorem dX11_isFace_12 : decode cX11_isFace 12 = .ok (.lconst 0, 1) := by decide +kernel
theorem dX11_isFace_13 : decode cX11_isFace 13 = .ok (.lstore 4, 2) := by decide +kernel
theorem dX11_isFace_15 : decode cX11_isFace 15 = .ok (.iconst 0, 1) := by decide +kernel
theorem dX11_isFace_16 : decode cX11_isFace 16 = .ok (.istore 6, 2) := by decide +kernel
theorem dX11_isFace_18 : decode cX11_isFace 18 = .ok (.iload 6, 2) := by decide +kernel
theorem dX11_isFace_20 : decode cX11_isFace 20 = .ok (.iconst 3, 1) := by decide +kernel
theorem dX11_isFace_21 : decode cX11_isFace 21 = .ok (.if_icmp .ge 106, 3) := by decide +kernel
theorem dX11_isFace_24 : decode cX11_isFace 24 = .ok (.iload 6, 2) := by decide +kernel
theorem dX11_isFace_26 : decode cX11_isFace 26 = .ok (.iconst 1, 1) := by decide +kernel
theorem dX11_isFace_27 : decode cX11_isFace 27 = .ok (.iadd, 1) := by decide +kernel
theorem dX11_isFace_28 : decode cX11_isFace 28 = .ok (.iconst 3, 1) := by decide +kernel
theorem dX11_isFace_29 : decode cX11_isFace 29 = .ok (.irem, 1) := by decide +kernel
theorem dX11_isFace_30 : decode cX11_isFace 30 = .ok (.istore 7, 2) := by decide +kernel
theorem dX11_isFace_32 : decode cX11_isFace 32 = .ok (.iload_n 3, 1) := by decide +kernel
theorem dX11_isFace_33 : decode cX11_isFace 33 = .ok (.ifCond .eq 49, 3) := by decide +kernel
theorem dX11_isFace_36 : decode cX11_isFace 36 = .ok (.aload_n 0, 1) := by decide +kernel
theorem dX11_isFace_37 : decode cX11_isFace 37 = .ok (.getfield 54, 3) := by decide +kernel
theorem dX11_isFace_40 : decode cX11_isFace 40 = .ok (.iconst 3, 1) := by decide +kernel
theorem dX11_isFace_41 : decode cX11_isFace 41 = .ok (.iload_n 2, 1) := by decide +kernel
theorem dX11_isFace_42 : decode cX11_isFace 42 = .ok (.imul, 1) := by decide +kernel
theorem dX11_isFace_43 : decode cX11_isFace 43 = .ok (.iload 6, 2) := by decide +kernel
theorem dX11_isFace_45 : decode cX11_isFace 45 = .ok (.iadd, 1) := by decide +kernel
theorem dX11_isFace_46 : decode cX11_isFace 46 = .ok (.laload, 1) := by decide +kernel
theorem dX11_isFace_47 : decode cX11_isFace 47 = .ok (.aload_n 0, 1) := by decide +kernel
theorem dX11_isFace_48 : decode cX11_isFace 48 = .ok (.getfield 45, 3) := by decide +kernel
theorem dX11_isFace_51 : decode cX11_isFace 51 = .ok (.iload 7, 2) := by decide +kernel
theorem dX11_isFace_53 : decode cX11_isFace 53 = .ok (.laload, 1) := by decide +kernel
theorem dX11_isFace_54 : decode cX11_isFace 54 = .ok (.lmul, 1) := by decide +kernel
theorem dX11_isFace_55 : decode cX11_isFace 55 = .ok (.aload_n 0, 1) := by decide +kernel
theorem dX11_isFace_56 : decode cX11_isFace 56 = .ok (.getfield 54, 3) := by decide +kernel
theorem dX11_isFace_59 : decode cX11_isFace 59 = .ok (.iconst 3, 1) := by decide +kernel
theorem dX11_isFace_60 : decode cX11_isFace 60 = .ok (.iload_n 2, 1) := by decide +kernel
theorem dX11_isFace_61 : decode cX11_isFace 61 = .ok (.imul, 1) := by decide +kernel
theorem dX11_isFace_62 : decode cX11_isFace 62 = .ok (.iload 7, 2) := by decide +kernel
theorem dX11_isFace_64 : decode cX11_isFace 64 = .ok (.iadd, 1) := by decide +kernel
theorem dX11_isFace_65 : decode cX11_isFace 65 = .ok (.laload, 1) := by decide +kernel
theorem dX11_isFace_66 : decode cX11_isFace 66 = .ok (.aload_n 0, 1) := by decide +kernel
theorem dX11_isFace_67 : decode cX11_isFace 67 = .ok (.getfield 45, 3) := by decide +kernel
theorem dX11_isFace_70 : decode cX11_isFace 70 = .ok (.iload 6, 2) := by decide +kernel
theorem dX11_isFace_72 : decode cX11_isFace 72 = .ok (.laload, 1) := by decide +kernel
theorem dX11_isFace_73 : decode cX11_isFace 73 = .ok (.lmul, 1) := by decide +kernel
theorem dX11_isFace_74 : decode cX11_isFace 74 = .ok (.lcmp, 1) := by decide +kernel
theorem dX11_isFace_75 : decode cX11_isFace 75 = .ok (.ifCond .ne 7, 3) := by decide +kernel
theorem dX11_isFace_78 : decode cX11_isFace 78 = .ok (.iconst 1, 1) := by decide +kernel
theorem dX11_isFace_79 : decode cX11_isFace 79 = .ok (.goto 4, 3) := by decide +kernel
theorem dX11_isFace_82 : decode cX11_isFace 82 = .ok (.iconst 0, 1) := by decide +kernel
theorem dX11_isFace_83 : decode cX11_isFace 83 = .ok (.istore_n 3, 1) := by decide +kernel
theorem dX11_isFace_84 : decode cX11_isFace 84 = .ok (.lload 4, 2) := by decide +kernel
theorem dX11_isFace_86 : decode cX11_isFace 86 = .ok (.aload_n 0, 1) := by decide +kernel
theorem dX11_isFace_87 : decode cX11_isFace 87 = .ok (.getfield 54, 3) := by decide +kernel
theorem dX11_isFace_90 : decode cX11_isFace 90 = .ok (.iconst 3, 1) := by decide +kernel
theorem dX11_isFace_91 : decode cX11_isFace 91 = .ok (.iload_n 2, 1) := by decide +kernel
theorem dX11_isFace_92 : decode cX11_isFace 92 = .ok (.imul, 1) := by decide +kernel
theorem dX11_isFace_93 : decode cX11_isFace 93 = .ok (.iload 6, 2) := by decide +kernel
theorem dX11_isFace_95 : decode cX11_isFace 95 = .ok (.iadd, 1) := by decide +kernel
theorem dX11_isFace_96 : decode cX11_isFace 96 = .ok (.laload, 1) := by decide +kernel
theorem dX11_isFace_97 : decode cX11_isFace 97 = .ok (.iload_n 1, 1) := by decide +kernel
theorem dX11_isFace_98 : decode cX11_isFace 98 = .ok (.i2l, 1) := by decide +kernel
theorem dX11_isFace_99 : decode cX11_isFace 99 = .ok (.lmul, 1) := by decide +kernel
theorem dX11_isFace_100 : decode cX11_isFace 100 = .ok (.aload_n 0, 1) := by decide +kernel
theorem dX11_isFace_101 : decode cX11_isFace 101 = .ok (.getfield 45, 3) := by decide +kernel
theorem dX11_isFace_104 : decode cX11_isFace 104 = .ok (.iload 6, 2) := by decide +kernel
theorem dX11_isFace_106 : decode cX11_isFace 106 = .ok (.laload, 1) := by decide +kernel
theorem dX11_isFace_107 : decode cX11_isFace 107 = .ok (.lmul, 1) := by decide +kernel
theorem dX11_isFace_108 : decode cX11_isFace 108 = .ok (.lconst 0, 1) := by decide +kernel
theorem dX11_isFace_109 : decode cX11_isFace 109 = .ok (.lcmp, 1) := by decide +kernel
theorem dX11_isFace_110 : decode cX11_isFace 110 = .ok (.ifCond .le 7, 3) := by decide +kernel
theorem dX11_isFace_113 : decode cX11_isFace 113 = .ok (.lconst 1, 1) := by decide +kernel
theorem dX11_isFace_114 : decode cX11_isFace 114 = .ok (.goto 4, 3) := by decide +kernel
theorem dX11_isFace_117 : decode cX11_isFace 117 = .ok (.lconst 0, 1) := by decide +kernel
theorem dX11_isFace_118 : decode cX11_isFace 118 = .ok (.ladd, 1) := by decide +kernel
theorem dX11_isFace_119 : decode cX11_isFace 119 = .ok (.lstore 4, 2) := by decide +kernel
theorem dX11_isFace_121 : decode cX11_isFace 121 = .ok (.iinc 6 1, 3) := by decide +kernel
theorem dX11_isFace_124 : decode cX11_isFace 124 = .ok (.goto (-106), 3) := by decide +kernel
theorem dX11_isFace_127 : decode cX11_isFace 127 = .ok (.iload_n 3, 1) := by decide +kernel
theorem dX11_isFace_128 : decode cX11_isFace 128 = .ok (.ifCond .eq 12, 3) := by decide +kernel
theorem dX11_isFace_131 : decode cX11_isFace 131 = .ok (.lload 4, 2) := by decide +kernel
theorem dX11_isFace_133 : decode cX11_isFace 133 = .ok (.lconst 0, 1) := by decide +kernel
theorem dX11_isFace_134 : decode cX11_isFace 134 = .ok (.lcmp, 1) := by decide +kernel
theorem dX11_isFace_135 : decode cX11_isFace 135 = .ok (.ifCond .le 5, 3) := by decide +kernel
theorem dX11_isFace_138 : decode cX11_isFace 138 = .ok (.iconst 1, 1) := by decide +kernel
theorem dX11_isFace_139 : decode cX11_isFace 139 = .ok (.ireturn, 1) := by decide +kernel
theorem dX11_isFace_140 : decode cX11_isFace 140 = .ok (.iinc 2 1, 3) := by decide +kernel
theorem dX11_isFace_143 : decode cX11_isFace 143 = .ok (.goto (-141), 3) := by decide +kernel
theorem dX11_isFace_146 : decode cX11_isFace 146 = .ok (.iconst 0, 1) := by decide +kernel
theorem dX11_isFace_147 : decode cX11_isFace 147 = .ok (.ireturn, 1) := by decide +kernel
theorem dX11_isGoalIn_0 : decode cX11_isGoalIn 0 = .ok (.aload_n 0, 1) := by decide +kernel
theorem dX11_isGoalIn_1 : decode cX11_isGoalIn 1 = .ok (.getfield 60, 3) := by decide +kernel
theorem dX11_isGoalIn_4 : decode cX11_isGoalIn 4 = .ok (.iconst 0, 1) := by decide +kernel
theorem dX11_isGoalIn_5 : decode cX11_isGoalIn 5 = .ok (.laload, 1) := by decide +kernel
theorem dX11_isGoalIn_6 : decode cX11_isGoalIn 6 = .ok (.lconst 0, 1) := by decide +kernel
theorem dX11_isGoalIn_7 : decode cX11_isGoalIn 7 = .ok (.lcmp, 1) := by decide +kernel
theorem dX11_isGoalIn_8 : decode cX11_isGoalIn 8 = .ok (.ifCond .ne 27, 3) := by decide +kernel
theorem dX11_isGoalIn_11 : decode cX11_isGoalIn 11 = .ok (.aload_n 0, 1) := by decide +kernel
theorem dX11_isGoalIn_12 : decode cX11_isGoalIn 12 = .ok (.getfield 60, 3) := by decide +kernel
theorem dX11_isGoalIn_15 : decode cX11_isGoalIn 15 = .ok (.iconst 1, 1) := by decide +kernel
theorem dX11_isGoalIn_16 : decode cX11_isGoalIn 16 = .ok (.laload, 1) := by decide +kernel
theorem dX11_isGoalIn_17 : decode cX11_isGoalIn 17 = .ok (.lconst 0, 1) := by decide +kernel
theorem dX11_isGoalIn_18 : decode cX11_isGoalIn 18 = .ok (.lcmp, 1) := by decide +kernel
theorem dX11_isGoalIn_19 : decode cX11_isGoalIn 19 = .ok (.ifCond .ne 16, 3) := by decide +kernel
theorem dX11_isGoalIn_22 : decode cX11_isGoalIn 22 = .ok (.aload_n 0, 1) := by decide +kernel
theorem dX11_isGoalIn_23 : decode cX11_isGoalIn 23 = .ok (.getfield 60, 3) := by decide +kernel
theorem dX11_isGoalIn_26 : decode cX11_isGoalIn 26 = .ok (.iconst 2, 1) := by decide +kernel
theorem dX11_isGoalIn_27 : decode cX11_isGoalIn 27 = .ok (.laload, 1) := by decide +kernel
theorem dX11_isGoalIn_28 : decode cX11_isGoalIn 28 = .ok (.lconst 0, 1) := by decide +kernel
theorem dX11_isGoalIn_29 : decode cX11_isGoalIn 29 = .ok (.lcmp, 1) := by decide +kernel
theorem dX11_isGoalIn_30 : decode cX11_isGoalIn 30 = .ok (.ifCond .ne 5, 3) := by decide +kernel
theorem dX11_isGoalIn_33 : decode cX11_isGoalIn 33 = .ok (.iconst 1, 1) := by decide +kernel
theorem dX11_isGoalIn_34 : decode cX11_isGoalIn 34 = .ok (.ireturn, 1) := by decide +kernel
theorem dX11_isGoalIn_35 : decode cX11_isGoalIn 35 = .ok (.aload_n 0, 1) := by decide +kernel
theorem dX11_isGoalIn_36 : decode cX11_isGoalIn 36 = .ok (.getfield 48, 3) := by decide +kernel
theorem dX11_isGoalIn_39 : decode cX11_isGoalIn 39 = .ok (.iconst 3, 1) := by decide +kernel
theorem dX11_isGoalIn_40 : decode cX11_isGoalIn 40 = .ok (.if_icmp .ne 89, 3) := by decide +kernel
theorem dX11_isGoalIn_43 : decode cX11_isGoalIn 43 = .ok (.iconst 1, 1) := by decide +kernel
theorem dX11_isGoalIn_44 : decode cX11_isGoalIn 44 = .ok (.istore_n 1, 1) := by decide +kernel
theorem dX11_isGoalIn_45 : decode cX11_isGoalIn 45 = .ok (.iconst 0, 1) := by decide +kernel
theorem dX11_isGoalIn_46 : decode cX11_isGoalIn 46 = .ok (.istore_n 2, 1) := by decide +kernel
theorem dX11_isGoalIn_47 : decode cX11_isGoalIn 47 = .ok (.iload_n 2, 1) := by decide +kernel
theorem dX11_isGoalIn_48 : decode cX11_isGoalIn 48 = .ok (.aload_n 0, 1) := by decide +kernel
theorem dX11_isGoalIn_49 : decode cX11_isGoalIn 49 = .ok (.getfield 51, 3) := by decide +kernel
theorem dX11_isGoalIn_52 : decode cX11_isGoalIn 52 = .ok (.if_icmp .ge 75, 3) := by decide +kernel
theorem dX11_isGoalIn_55 : decode cX11_isGoalIn 55 = .ok (.iload_n 1, 1) := by decide +kernel
theorem dX11_isGoalIn_56 : decode cX11_isGoalIn 56 = .ok (.ifCond .eq 63, 3) := by decide +kernel
theorem dX11_isGoalIn_59 : decode cX11_isGoalIn 59 = .ok (.aload_n 0, 1) := by decide +kernel
theorem dX11_isGoalIn_60 : decode cX11_isGoalIn 60 = .ok (.getfield 54, 3) := by decide +kernel
theorem dX11_isGoalIn_63 : decode cX11_isGoalIn 63 = .ok (.iconst 3, 1) := by decide +kernel
theorem dX11_isGoalIn_64 : decode cX11_isGoalIn 64 = .ok (.iload_n 2, 1) := by decide +kernel
theorem dX11_isGoalIn_65 : decode cX11_isGoalIn 65 = .ok (.imul, 1) := by decide +kernel
theorem dX11_isGoalIn_66 : decode cX11_isGoalIn 66 = .ok (.laload, 1) := by decide +kernel
theorem dX11_isGoalIn_67 : decode cX11_isGoalIn 67 = .ok (.aload_n 0, 1) := by decide +kernel
theorem dX11_isGoalIn_68 : decode cX11_isGoalIn 68 = .ok (.getfield 60, 3) := by decide +kernel
theorem dX11_isGoalIn_71 : decode cX11_isGoalIn 71 = .ok (.iconst 0, 1) := by decide +kernel
theorem dX11_isGoalIn_72 : decode cX11_isGoalIn 72 = .ok (.laload, 1) := by decide +kernel
theorem dX11_isGoalIn_73 : decode cX11_isGoalIn 73 = .ok (.lmul, 1) := by decide +kernel
theorem dX11_isGoalIn_74 : decode cX11_isGoalIn 74 = .ok (.aload_n 0, 1) := by decide +kernel
theorem dX11_isGoalIn_75 : decode cX11_isGoalIn 75 = .ok (.getfield 54, 3) := by decide +kernel
theorem dX11_isGoalIn_78 : decode cX11_isGoalIn 78 = .ok (.iconst 3, 1) := by decide +kernel
theorem dX11_isGoalIn_79 : decode cX11_isGoalIn 79 = .ok (.iload_n 2, 1) := by decide +kernel
theorem dX11_isGoalIn_80 : decode cX11_isGoalIn 80 = .ok (.imul, 1) := by decide +kernel
theorem dX11_isGoalIn_81 : decode cX11_isGoalIn 81 = .ok (.iconst 1, 1) := by decide +kernel
theorem dX11_isGoalIn_82 : decode cX11_isGoalIn 82 = .ok (.iadd, 1) := by decide +kernel
theorem dX11_isGoalIn_83 : decode cX11_isGoalIn 83 = .ok (.laload, 1) := by decide +kernel
theorem dX11_isGoalIn_84 : decode cX11_isGoalIn 84 = .ok (.aload_n 0, 1) := by decide +kernel
theorem dX11_isGoalIn_85 : decode cX11_isGoalIn 85 = .ok (.getfield 60, 3) := by decide +kernel
theorem dX11_isGoalIn_88 : decode cX11_isGoalIn 88 = .ok (.iconst 1, 1) := by decide +kernel
theorem dX11_isGoalIn_89 : decode cX11_isGoalIn 89 = .ok (.laload, 1) := by decide +kernel
theorem dX11_isGoalIn_90 : decode cX11_isGoalIn 90 = .ok (.lmul, 1) := by decide +kernel
theorem dX11_isGoalIn_91 : decode cX11_isGoalIn 91 = .ok (.ladd, 1) := by decide +kernel
theorem dX11_isGoalIn_92 : decode cX11_isGoalIn 92 = .ok (.aload_n 0, 1) := by decide +kernel
theorem dX11_isGoalIn_93 : decode cX11_isGoalIn 93 = .ok (.getfield 54, 3) := by decide +kernel
theorem dX11_isGoalIn_96 : decode cX11_isGoalIn 96 = .ok (.iconst 3, 1) := by decide +kernel
theorem dX11_isGoalIn_97 : decode cX11_isGoalIn 97 = .ok (.iload_n 2, 1) := by decide +kernel
theorem dX11_isGoalIn_98 : decode cX11_isGoalIn 98 = .ok (.imul, 1) := by decide +kernel
theorem dX11_isGoalIn_99 : decode cX11_isGoalIn 99 = .ok (.iconst 2, 1) := by decide +kernel
theorem dX11_isGoalIn_100 : decode cX11_isGoalIn 100 = .ok (.iadd, 1) := by decide +kernel
theorem dX11_isGoalIn_101 : decode cX11_isGoalIn 101 = .ok (.laload, 1) := by decide +kernel
theorem dX11_isGoalIn_102 : decode cX11_isGoalIn 102 = .ok (.aload_n 0, 1) := by decide +kernel
theorem dX11_isGoalIn_103 : decode cX11_isGoalIn 103 = .ok (.getfield 60, 3) := by decide +kernel
theorem dX11_isGoalIn_106 : decode cX11_isGoalIn 106 = .ok (.iconst 2, 1) := by decide +kernel
theorem dX11_isGoalIn_107 : decode cX11_isGoalIn 107 = .ok (.laload, 1) := by decide +kernel
theorem dX11_isGoalIn_108 : decode cX11_isGoalIn 108 = .ok (.lmul, 1) := by decide +kernel
theorem dX11_isGoalIn_109 : decode cX11_isGoalIn 109 = .ok (.ladd, 1) := by decide +kernel
theorem dX11_isGoalIn_110 : decode cX11_isGoalIn 110 = .ok (.lconst 0, 1) := by decide +kernel
theorem dX11_isGoalIn_111 : decode cX11_isGoalIn 111 = .ok (.lcmp, 1) := by decide +kernel
theorem dX11_isGoalIn_112 : decode cX11_isGoalIn 112 = .ok (.ifCond .lt 7, 3) := by decide +kernel
theorem dX11_isGoalIn_115 : decode cX11_isGoalIn 115 = .ok (.iconst 1, 1) := by decide +kernel
theorem dX11_isGoalIn_116 : decode cX11_isGoalIn 116 = .ok (.goto 4, 3) := by decide +kernel
theorem dX11_isGoalIn_119 : decode cX11_isGoalIn 119 = .ok (.iconst 0, 1) := by decide +kernel
theorem dX11_isGoalIn_120 : decode cX11_isGoalIn 120 = .ok (.istore_n 1, 1) := by decide +kernel
theorem dX11_isGoalIn_121 : decode cX11_isGoalIn 121 = .ok (.iinc 2 1, 3) := by decide +kernel
theorem dX11_isGoalIn_124 : decode cX11_isGoalIn 124 = .ok (.goto (-77), 3) := by decide +kernel
theorem dX11_isGoalIn_127 : decode cX11_isGoalIn 127 = .ok (.iload_n 1, 1) := by decide +kernel
theorem dX11_isGoalIn_128 : decode cX11_isGoalIn 128 = .ok (.ireturn, 1) := by decide +kernel
theorem dX11_isGoalIn_129 : decode cX11_isGoalIn 129 = .ok (.iconst 0, 1) := by decide +kernel
theorem dX11_isGoalIn_130 : decode cX11_isGoalIn 130 = .ok (.istore_n 1, 1) := by decide +kernel
theorem dX11_isGoalIn_131 : decode cX11_isGoalIn 131 = .ok (.iload_n 1, 1) := by decide +kernel
theorem dX11_isGoalIn_132 : decode cX11_isGoalIn 132 = .ok (.aload_n 0, 1) := by decide +kernel
theorem dX11_isGoalIn_133 : decode cX11_isGoalIn 133 = .ok (.getfield 38, 3) := by decide +kernel
theorem dX11_isGoalIn_136 : decode cX11_isGoalIn 136 = .ok (.if_icmp .ge 52, 3) := by decide +kernel
theorem dX11_isGoalIn_139 : decode cX11_isGoalIn 139 = .ok (.aload_n 0, 1) := by decide +kernel
theorem dX11_isGoalIn_140 : decode cX11_isGoalIn 140 = .ok (.iload_n 1, 1) := by decide +kernel
theorem dX11_isGoalIn_141 : decode cX11_isGoalIn 141 = .ok (.invokevirtual 214, 3) := by decide +kernel
theorem dX11_isGoalIn_144 : decode cX11_isGoalIn 144 = .ok (.ifCond .eq 5, 3) := by decide +kernel
theorem dX11_isGoalIn_147 : decode cX11_isGoalIn 147 = .ok (.iconst 1, 1) := by decide +kernel
theorem dX11_isGoalIn_148 : decode cX11_isGoalIn 148 = .ok (.ireturn, 1) := by decide +kernel
theorem dX11_isGoalIn_149 : decode cX11_isGoalIn 149 = .ok (.iconst 0, 1) := by decide +kernel
theorem dX11_isGoalIn_150 : decode cX11_isGoalIn 150 = .ok (.istore_n 2, 1) := by decide +kernel
theorem dX11_isGoalIn_151 : decode cX11_isGoalIn 151 = .ok (.iload_n 2, 1) := by decide +kernel
theorem dX11_isGoalIn_152 : decode cX11_isGoalIn 152 = .ok (.iload_n 1, 1) := by decide +kernel
theorem dX11_isGoalIn_153 : decode cX11_isGoalIn 153 = .ok (.if_icmp .ge 29, 3) := by decide +kernel
theorem dX11_isGoalIn_156 : decode cX11_isGoalIn 156 = .ok (.aload_n 0, 1) := by decide +kernel
theorem dX11_isGoalIn_157 : decode cX11_isGoalIn 157 = .ok (.iload_n 1, 1) := by decide +kernel
theorem dX11_isGoalIn_158 : decode cX11_isGoalIn 158 = .ok (.iload_n 2, 1) := by decide +kernel
theorem dX11_isGoalIn_159 : decode cX11_isGoalIn 159 = .ok (.invokevirtual 176, 3) := by decide +kernel
theorem dX11_isGoalIn_162 : decode cX11_isGoalIn 162 = .ok (.ifCond .eq 14, 3) := by decide +kernel
theorem dX11_isGoalIn_165 : decode cX11_isGoalIn 165 = .ok (.aload_n 0, 1) := by decide +kernel
theorem dX11_isGoalIn_166 : decode cX11_isGoalIn 166 = .ok (.iload_n 1, 1) := by decide +kernel
theorem dX11_isGoalIn_167 : decode cX11_isGoalIn 167 = .ok (.iload_n 2, 1) := by decide +kernel
theorem dX11_isGoalIn_168 : decode cX11_isGoalIn 168 = .ok (.invokevirtual 217, 3) := by decide +kernel
theorem dX11_isGoalIn_171 : decode cX11_isGoalIn 171 = .ok (.ifCond .eq 5, 3) := by decide +kernel
theorem dX11_isGoalIn_174 : decode cX11_isGoalIn 174 = .ok (.iconst 1, 1) := by decide +kernel
theorem dX11_isGoalIn_175 : decode cX11_isGoalIn 175 = .ok (.ireturn, 1) := by decide +kernel
theorem dX11_isGoalIn_176 : decode cX11_isGoalIn 176 = .ok (.iinc 2 1, 3) := by decide +kernel
theorem dX11_isGoalIn_179 : decode cX11_isGoalIn 179 = .ok (.goto (-28), 3) := by decide +kernel
theorem dX11_isGoalIn_182 : decode cX11_isGoalIn 182 = .ok (.iinc 1 1, 3) := by decide +kernel
theorem dX11_isGoalIn_185 : decode cX11_isGoalIn 185 = .ok (.goto (-54), 3) := by decide +kernel
theorem dX11_isGoalIn_188 : decode cX11_isGoalIn 188 = .ok (.iconst 0, 1) := by decide +kernel
theorem dX11_isGoalIn_189 : decode cX11_isGoalIn 189 = .ok (.ireturn, 1) := by decide +kernel
theorem dX11_isAlong_0 : decode cX11_isAlong 0 = .ok (.iconst 1, 1) := by decide +kernel
theorem dX11_isAlong_1 : decode cX11_isAlong 1 = .ok (.istore_n 2, 1) := by decide +kernel
theorem dX11_isAlong_2 : decode cX11_isAlong 2 = .ok (.lconst 0, 1) := by decide +kernel
theorem dX11_isAlong_3 : decode cX11_isAlong 3 = .ok (.lstore_n 3, 1) := by decide +kernel
theorem dX11_isAlong_4 : decode cX11_isAlong 4 = .ok (.iconst 0, 1) := by decide +kernel
theorem dX11_isAlong_5 : decode cX11_isAlong 5 = .ok (.istore 5, 2) := by decide +kernel
theorem dX11_isAlong_7 : decode cX11_isAlong 7 = .ok (.iload 5, 2) := by decide +kernel
theorem dX11_isAlong_9 : decode cX11_isAlong 9 = .ok (.iconst 3, 1) := by decide +kernel
theorem dX11_isAlong_10 : decode cX11_isAlong 10 = .ok (.if_icmp .ge 91, 3) := by decide +kernel
theorem dX11_isAlong_13 : decode cX11_isAlong 13 = .ok (.iload 5, 2) := by decide +kernel
theorem dX11_isAlong_15 : decode cX11_isAlong 15 = .ok (.iconst 1, 1) := by decide +kernel
theorem dX11_isAlong_16 : decode cX11_isAlong 16 = .ok (.iadd, 1) := by decide +kernel
theorem dX11_isAlong_17 : decode cX11_isAlong 17 = .ok (.iconst 3, 1) := by decide +kernel
theorem dX11_isAlong_18 : decode cX11_isAlong 18 = .ok (.irem, 1) := by decide +kernel
theorem dX11_isAlong_19 : decode cX11_isAlong 19 = .ok (.istore 6, 2) := by decide +kernel
theorem dX11_isAlong_21 : decode cX11_isAlong 21 = .ok (.iload_n 2, 1) := by decide +kernel
theorem dX11_isAlong_22 : decode cX11_isAlong 22 = .ok (.ifCond .eq 49, 3) := by decide +kernel
theorem dX11_isAlong_25 : decode cX11_isAlong 25 = .ok (.aload_n 0, 1) := by decide +kernel
theorem dX11_isAlong_26 : decode cX11_isAlong 26 = .ok (.getfield 60, 3) := by decide +kernel
theorem dX11_isAlong_29 : decode cX11_isAlong 29 = .ok (.iload 5, 2) := by decide +kernel
theorem dX11_isAlong_31 : decode cX11_isAlong 31 = .ok (.laload, 1) := by decide +kernel
theorem dX11_isAlong_32 : decode cX11_isAlong 32 = .ok (.aload_n 0, 1) := by decide +kernel
theorem dX11_isAlong_33 : decode cX11_isAlong 33 = .ok (.getfield 41, 3) := by decide +kernel
theorem dX11_isAlong_36 : decode cX11_isAlong 36 = .ok (.iconst 3, 1) := by decide +kernel
theorem dX11_isAlong_37 : decode cX11_isAlong 37 = .ok (.iload_n 1, 1) := by decide +kernel
theorem dX11_isAlong_38 : decode cX11_isAlong 38 = .ok (.imul, 1) := by decide +kernel
theorem dX11_isAlong_39 : decode cX11_isAlong 39 = .ok (.iload 6, 2) := by decide +kernel
theorem dX11_isAlong_41 : decode cX11_isAlong 41 = .ok (.iadd, 1) := by decide +kernel
theorem dX11_isAlong_42 : decode cX11_isAlong 42 = .ok (.laload, 1) := by decide +kernel
theorem dX11_isAlong_43 : decode cX11_isAlong 43 = .ok (.lmul, 1) := by decide +kernel
theorem dX11_isAlong_44 : decode cX11_isAlong 44 = .ok (.aload_n 0, 1) := by decide +kernel
theorem dX11_isAlong_45 : decode cX11_isAlong 45 = .ok (.getfield 60, 3) := by decide +kernel
theorem dX11_isAlong_48 : decode cX11_isAlong 48 = .ok (.iload 6, 2) := by decide +kernel
theorem dX11_isAlong_50 : decode cX11_isAlong 50 = .ok (.laload, 1) := by decide +kernel
theorem dX11_isAlong_51 : decode cX11_isAlong 51 = .ok (.aload_n 0, 1) := by decide +kernel
theorem dX11_isAlong_52 : decode cX11_isAlong 52 = .ok (.getfield 41, 3) := by decide +kernel
theorem dX11_isAlong_55 : decode cX11_isAlong 55 = .ok (.iconst 3, 1) := by decide +kernel
theorem dX11_isAlong_56 : decode cX11_isAlong 56 = .ok (.iload_n 1, 1) := by decide +kernel
theorem dX11_isAlong_57 : decode cX11_isAlong 57 = .ok (.imul, 1) := by decide +kernel
theorem dX11_isAlong_58 : decode cX11_isAlong 58 = .ok (.iload 5, 2) := by decide +kernel
theorem dX11_isAlong_60 : decode cX11_isAlong 60 = .ok (.iadd, 1) := by decide +kernel
theorem dX11_isAlong_61 : decode cX11_isAlong 61 = .ok (.laload, 1) := by decide +kernel
theorem dX11_isAlong_62 : decode cX11_isAlong 62 = .ok (.lmul, 1) := by decide +kernel
theorem dX11_isAlong_63 : decode cX11_isAlong 63 = .ok (.lcmp, 1) := by decide +kernel
theorem dX11_isAlong_64 : decode cX11_isAlong 64 = .ok (.ifCond .ne 7, 3) := by decide +kernel
theorem dX11_isAlong_67 : decode cX11_isAlong 67 = .ok (.iconst 1, 1) := by decide +kernel
theorem dX11_isAlong_68 : decode cX11_isAlong 68 = .ok (.goto 4, 3) := by decide +kernel
theorem dX11_isAlong_71 : decode cX11_isAlong 71 = .ok (.iconst 0, 1) := by decide +kernel
theorem dX11_isAlong_72 : decode cX11_isAlong 72 = .ok (.istore_n 2, 1) := by decide +kernel
theorem dX11_isAlong_73 : decode cX11_isAlong 73 = .ok (.lload_n 3, 1) := by decide +kernel
theorem dX11_isAlong_74 : decode cX11_isAlong 74 = .ok (.aload_n 0, 1) := by decide +kernel
theorem dX11_isAlong_75 : decode cX11_isAlong 75 = .ok (.getfield 60, 3) := by decide +kernel
theorem dX11_isAlong_78 : decode cX11_isAlong 78 = .ok (.iload 5, 2) := by decide +kernel
theorem dX11_isAlong_80 : decode cX11_isAlong 80 = .ok (.laload, 1) := by decide +kernel
theorem dX11_isAlong_81 : decode cX11_isAlong 81 = .ok (.aload_n 0, 1) := by decide +kernel
theorem dX11_isAlong_82 : decode cX11_isAlong 82 = .ok (.getfield 41, 3) := by decide +kernel
theorem dX11_isAlong_85 : decode cX11_isAlong 85 = .ok (.iconst 3, 1) := by decide +kernel
theorem dX11_isAlong_86 : decode cX11_isAlong 86 = .ok (.iload_n 1, 1) := by decide +kernel
theorem dX11_isAlong_87 : decode cX11_isAlong 87 = .ok (.imul, 1) := by decide +kernel
theorem dX11_isAlong_88 : decode cX11_isAlong 88 = .ok (.iload 5, 2) := by decide +kernel
theorem dX11_isAlong_90 : decode cX11_isAlong 90 = .ok (.iadd, 1) := by decide +kernel
theorem dX11_isAlong_91 : decode cX11_isAlong 91 = .ok (.laload, 1) := by decide +kernel
theorem dX11_isAlong_92 : decode cX11_isAlong 92 = .ok (.lmul, 1) := by decide +kernel
theorem dX11_isAlong_93 : decode cX11_isAlong 93 = .ok (.ladd, 1) := by decide +kernel
theorem dX11_isAlong_94 : decode cX11_isAlong 94 = .ok (.lstore_n 3, 1) := by decide +kernel
theorem dX11_isAlong_95 : decode cX11_isAlong 95 = .ok (.iinc 5 1, 3) := by decide +kernel
theorem dX11_isAlong_98 : decode cX11_isAlong 98 = .ok (.goto (-91), 3) := by decide +kernel
theorem dX11_isAlong_101 : decode cX11_isAlong 101 = .ok (.iload_n 2, 1) := by decide +kernel
theorem dX11_isAlong_102 : decode cX11_isAlong 102 = .ok (.ifCond .eq 13, 3) := by decide +kernel
theorem dX11_isAlong_105 : decode cX11_isAlong 105 = .ok (.lload_n 3, 1) := by decide +kernel
theorem dX11_isAlong_106 : decode cX11_isAlong 106 = .ok (.lconst 0, 1) := by decide +kernel
theorem dX11_isAlong_107 : decode cX11_isAlong 107 = .ok (.lcmp, 1) := by decide +kernel
theorem dX11_isAlong_108 : decode cX11_isAlong 108 = .ok (.ifCond .le 7, 3) := by decide +kernel
theorem dX11_isAlong_111 : decode cX11_isAlong 111 = .ok (.iconst 1, 1) := by decide +kernel
theorem dX11_isAlong_112 : decode cX11_isAlong 112 = .ok (.goto 4, 3) := by decide +kernel
theorem dX11_isAlong_115 : decode cX11_isAlong 115 = .ok (.iconst 0, 1) := by decide +kernel
theorem dX11_isAlong_116 : decode cX11_isAlong 116 = .ok (.ireturn, 1) := by decide +kernel
theorem dX11_isBetween_0 : decode cX11_isBetween 0 = .ok (.aload_n 0, 1) := by decide +kernel
theorem dX11_isBetween_1 : decode cX11_isBetween 1 = .ok (.getfield 45, 3) := by decide +kernel
theorem dX11_isBetween_4 : decode cX11_isBetween 4 = .ok (.iconst 0, 1) := by decide +kernel
theorem dX11_isBetween_5 : decode cX11_isBetween 5 = .ok (.laload, 1) := by decide +kernel
theorem dX11_isBetween_6 : decode cX11_isBetween 6 = .ok (.aload_n 0, 1) := by decide +kernel
theorem dX11_isBetween_7 : decode cX11_isBetween 7 = .ok (.getfield 60, 3) := by decide +kernel
theorem dX11_isBetween_10 : decode cX11_isBetween 10 = .ok (.iconst 0, 1) := by decide +kernel
theorem dX11_isBetween_11 : decode cX11_isBetween 11 = .ok (.laload, 1) := by decide +kernel
theorem dX11_isBetween_12 : decode cX11_isBetween 12 = .ok (.lmul, 1) := by decide +kernel
theorem dX11_isBetween_13 : decode cX11_isBetween 13 = .ok (.aload_n 0, 1) := by decide +kernel
theorem dX11_isBetween_14 : decode cX11_isBetween 14 = .ok (.getfield 45, 3) := by decide +kernel
theorem dX11_isBetween_17 : decode cX11_isBetween 17 = .ok (.iconst 1, 1) := by decide +kernel
theorem dX11_isBetween_18 : decode cX11_isBetween 18 = .ok (.laload, 1) := by decide +kernel
theorem dX11_isBetween_19 : decode cX11_isBetween 19 = .ok (.aload_n 0, 1) := by decide +kernel
theorem dX11_isBetween_20 : decode cX11_isBetween 20 = .ok (.getfield 60, 3) := by decide +kernel
theorem dX11_isBetween_23 : decode cX11_isBetween 23 = .ok (.iconst 1, 1) := by decide +kernel
theorem dX11_isBetween_24 : decode cX11_isBetween 24 = .ok (.laload, 1) := by decide +kernel
theorem dX11_isBetween_25 : decode cX11_isBetween 25 = .ok (.lmul, 1) := by decide +kernel
theorem dX11_isBetween_26 : decode cX11_isBetween 26 = .ok (.ladd, 1) := by decide +kernel
theorem dX11_isBetween_27 : decode cX11_isBetween 27 = .ok (.aload_n 0, 1) := by decide +kernel
theorem dX11_isBetween_28 : decode cX11_isBetween 28 = .ok (.getfield 45, 3) := by decide +kernel
theorem dX11_isBetween_31 : decode cX11_isBetween 31 = .ok (.iconst 2, 1) := by decide +kernel
theorem dX11_isBetween_32 : decode cX11_isBetween 32 = .ok (.laload, 1) := by decide +kernel
theorem dX11_isBetween_33 : decode cX11_isBetween 33 = .ok (.aload_n 0, 1) := by decide +kernel
theorem dX11_isBetween_34 : decode cX11_isBetween 34 = .ok (.getfield 60, 3) := by decide +kernel
theorem dX11_isBetween_37 : decode cX11_isBetween 37 = .ok (.iconst 2, 1) := by decide +kernel
theorem dX11_isBetween_38 : decode cX11_isBetween 38 = .ok (.laload, 1) := by decide +kernel
theorem dX11_isBetween_39 : decode cX11_isBetween 39 = .ok (.lmul, 1) := by decide +kernel
theorem dX11_isBetween_40 : decode cX11_isBetween 40 = .ok (.ladd, 1) := by decide +kernel
theorem dX11_isBetween_41 : decode cX11_isBetween 41 = .ok (.lconst 0, 1) := by decide +kernel
theorem dX11_isBetween_42 : decode cX11_isBetween 42 = .ok (.lcmp, 1) := by decide +kernel
theorem dX11_isBetween_43 : decode cX11_isBetween 43 = .ok (.ifCond .eq 5, 3) := by decide +kernel
theorem dX11_isBetween_46 : decode cX11_isBetween 46 = .ok (.iconst 0, 1) := by decide +kernel
theorem dX11_isBetween_47 : decode cX11_isBetween 47 = .ok (.ireturn, 1) := by decide +kernel
theorem dX11_isBetween_48 : decode cX11_isBetween 48 = .ok (.lconst 0, 1) := by decide +kernel
theorem dX11_isBetween_49 : decode cX11_isBetween 49 = .ok (.lstore_n 3, 1) := by decide +kernel
theorem dX11_isBetween_50 : decode cX11_isBetween 50 = .ok (.lconst 0, 1) := by decide +kernel
theorem dX11_isBetween_51 : decode cX11_isBetween 51 = .ok (.lstore 5, 2) := by decide +kernel
theorem dX11_isBetween_53 : decode cX11_isBetween 53 = .ok (.iconst 0, 1) := by decide +kernel
theorem dX11_isBetween_54 : decode cX11_isBetween 54 = .ok (.istore 7, 2) := by decide +kernel
theorem dX11_isBetween_56 : decode cX11_isBetween 56 = .ok (.iload 7, 2) := by decide +kernel
theorem dX11_isBetween_58 : decode cX11_isBetween 58 = .ok (.iconst 3, 1) := by decide +kernel
theorem dX11_isBetween_59 : decode cX11_isBetween 59 = .ok (.if_icmp .ge 127, 3) := by decide +kernel
theorem dX11_isBetween_62 : decode cX11_isBetween 62 = .ok (.iload 7, 2) := by decide +kernel
theorem dX11_isBetween_64 : decode cX11_isBetween 64 = .ok (.iconst 1, 1) := by decide +kernel
theorem dX11_isBetween_65 : decode cX11_isBetween 65 = .ok (.iadd, 1) := by decide +kernel
theorem dX11_isBetween_66 : decode cX11_isBetween 66 = .ok (.iconst 3, 1) := by decide +kernel
theorem dX11_isBetween_67 : decode cX11_isBetween 67 = .ok (.irem, 1) := by decide +kernel
theorem dX11_isBetween_68 : decode cX11_isBetween 68 = .ok (.istore 8, 2) := by decide +kernel
theorem dX11_isBetween_70 : decode cX11_isBetween 70 = .ok (.iload 7, 2) := by decide +kernel
theorem dX11_isBetween_72 : decode cX11_isBetween 72 = .ok (.iconst 2, 1) := by decide +kernel
theorem dX11_isBetween_73 : decode cX11_isBetween 73 = .ok (.iadd, 1) := by decide +kernel
theorem dX11_isBetween_74 : decode cX11_isBetween 74 = .ok (.iconst 3, 1) := by decide +kernel
theorem dX11_isBetween_75 : decode cX11_isBetween 75 = .ok (.irem, 1) := by decide +kernel
theorem dX11_isBetween_76 : decode cX11_isBetween 76 = .ok (.istore 9, 2) := by decide +kernel
theorem dX11_isBetween_78 : decode cX11_isBetween 78 = .ok (.lload_n 3, 1) := by decide +kernel
theorem dX11_isBetween_79 : decode cX11_isBetween 79 = .ok (.aload_n 0, 1) := by decide +kernel
theorem dX11_isBetween_80 : decode cX11_isBetween 80 = .ok (.getfield 45, 3) := by decide +kernel
theorem dX11_isBetween_83 : decode cX11_isBetween 83 = .ok (.iload 7, 2) := by decide +kernel
theorem dX11_isBetween_85 : decode cX11_isBetween 85 = .ok (.laload, 1) := by decide +kernel
theorem dX11_isBetween_86 : decode cX11_isBetween 86 = .ok (.aload_n 0, 1) := by decide +kernel
theorem dX11_isBetween_87 : decode cX11_isBetween 87 = .ok (.getfield 60, 3) := by decide +kernel
theorem dX11_isBetween_90 : decode cX11_isBetween 90 = .ok (.iload 8, 2) := by decide +kernel
theorem dX11_isBetween_92 : decode cX11_isBetween 92 = .ok (.laload, 1) := by decide +kernel
theorem dX11_isBetween_93 : decode cX11_isBetween 93 = .ok (.aload_n 0, 1) := by decide +kernel
theorem dX11_isBetween_94 : decode cX11_isBetween 94 = .ok (.getfield 41, 3) := by decide +kernel
theorem dX11_isBetween_97 : decode cX11_isBetween 97 = .ok (.iconst 3, 1) := by decide +kernel
theorem dX11_isBetween_98 : decode cX11_isBetween 98 = .ok (.iload_n 2, 1) := by decide +kernel
theorem dX11_isBetween_99 : decode cX11_isBetween 99 = .ok (.imul, 1) := by decide +kernel
theorem dX11_isBetween_100 : decode cX11_isBetween 100 = .ok (.iload 9, 2) := by decide +kernel
theorem dX11_isBetween_102 : decode cX11_isBetween 102 = .ok (.iadd, 1) := by decide +kernel
theorem dX11_isBetween_103 : decode cX11_isBetween 103 = .ok (.laload, 1) := by decide +kernel
theorem dX11_isBetween_104 : decode cX11_isBetween 104 = .ok (.lmul, 1) := by decide +kernel
theorem dX11_isBetween_105 : decode cX11_isBetween 105 = .ok (.aload_n 0, 1) := by decide +kernel
theorem dX11_isBetween_106 : decode cX11_isBetween 106 = .ok (.getfield 60, 3) := by decide +kernel
theorem dX11_isBetween_109 : decode cX11_isBetween 109 = .ok (.iload 9, 2) := by decide +kernel
theorem dX11_isBetween_111 : decode cX11_isBetween 111 = .ok (.laload, 1) := by decide +kernel
theorem dX11_isBetween_112 : decode cX11_isBetween 112 = .ok (.aload_n 0, 1) := by decide +kernel
theorem dX11_isBetween_113 : decode cX11_isBetween 113 = .ok (.getfield 41, 3) := by decide +kernel
theorem dX11_isBetween_116 : decode cX11_isBetween 116 = .ok (.iconst 3, 1) := by decide +kernel
theorem dX11_isBetween_117 : decode cX11_isBetween 117 = .ok (.iload_n 2, 1) := by decide +kernel
theorem dX11_isBetween_118 : decode cX11_isBetween 118 = .ok (.imul, 1) := by decide +kernel
theorem dX11_isBetween_119 : decode cX11_isBetween 119 = .ok (.iload 8, 2) := by decide +kernel
theorem dX11_isBetween_121 : decode cX11_isBetween 121 = .ok (.iadd, 1) := by decide +kernel
theorem dX11_isBetween_122 : decode cX11_isBetween 122 = .ok (.laload, 1) := by decide +kernel
theorem dX11_isBetween_123 : decode cX11_isBetween 123 = .ok (.lmul, 1) := by decide +kernel
theorem dX11_isBetween_124 : decode cX11_isBetween 124 = .ok (.lsub, 1) := by decide +kernel
theorem dX11_isBetween_125 : decode cX11_isBetween 125 = .ok (.lmul, 1) := by decide +kernel
theorem dX11_isBetween_126 : decode cX11_isBetween 126 = .ok (.ladd, 1) := by decide +kernel
theorem dX11_isBetween_127 : decode cX11_isBetween 127 = .ok (.lstore_n 3, 1) := by decide +kernel
theorem dX11_isBetween_128 : decode cX11_isBetween 128 = .ok (.lload 5, 2) := by decide +kernel
theorem dX11_isBetween_130 : decode cX11_isBetween 130 = .ok (.aload_n 0, 1) := by decide +kernel
theorem dX11_isBetween_131 : decode cX11_isBetween 131 = .ok (.getfield 45, 3) := by decide +kernel
theorem dX11_isBetween_134 : decode cX11_isBetween 134 = .ok (.iload 7, 2) := by decide +kernel
theorem dX11_isBetween_136 : decode cX11_isBetween 136 = .ok (.laload, 1) := by decide +kernel
theorem dX11_isBetween_137 : decode cX11_isBetween 137 = .ok (.aload_n 0, 1) := by decide +kernel
theorem dX11_isBetween_138 : decode cX11_isBetween 138 = .ok (.getfield 41, 3) := by decide +kernel
theorem dX11_isBetween_141 : decode cX11_isBetween 141 = .ok (.iconst 3, 1) := by decide +kernel
theorem dX11_isBetween_142 : decode cX11_isBetween 142 = .ok (.iload_n 1, 1) := by decide +kernel
theorem dX11_isBetween_143 : decode cX11_isBetween 143 = .ok (.imul, 1) := by decide +kernel
theorem dX11_isBetween_144 : decode cX11_isBetween 144 = .ok (.iload 8, 2) := by decide +kernel
theorem dX11_isBetween_146 : decode cX11_isBetween 146 = .ok (.iadd, 1) := by decide +kernel
theorem dX11_isBetween_147 : decode cX11_isBetween 147 = .ok (.laload, 1) := by decide +kernel
theorem dX11_isBetween_148 : decode cX11_isBetween 148 = .ok (.aload_n 0, 1) := by decide +kernel
theorem dX11_isBetween_149 : decode cX11_isBetween 149 = .ok (.getfield 60, 3) := by decide +kernel
theorem dX11_isBetween_152 : decode cX11_isBetween 152 = .ok (.iload 9, 2) := by decide +kernel
theorem dX11_isBetween_154 : decode cX11_isBetween 154 = .ok (.laload, 1) := by decide +kernel
theorem dX11_isBetween_155 : decode cX11_isBetween 155 = .ok (.lmul, 1) := by decide +kernel
theorem dX11_isBetween_156 : decode cX11_isBetween 156 = .ok (.aload_n 0, 1) := by decide +kernel
theorem dX11_isBetween_157 : decode cX11_isBetween 157 = .ok (.getfield 41, 3) := by decide +kernel
theorem dX11_isBetween_160 : decode cX11_isBetween 160 = .ok (.iconst 3, 1) := by decide +kernel
theorem dX11_isBetween_161 : decode cX11_isBetween 161 = .ok (.iload_n 1, 1) := by decide +kernel
theorem dX11_isBetween_162 : decode cX11_isBetween 162 = .ok (.imul, 1) := by decide +kernel
theorem dX11_isBetween_163 : decode cX11_isBetween 163 = .ok (.iload 9, 2) := by decide +kernel
theorem dX11_isBetween_165 : decode cX11_isBetween 165 = .ok (.iadd, 1) := by decide +kernel
theorem dX11_isBetween_166 : decode cX11_isBetween 166 = .ok (.laload, 1) := by decide +kernel
theorem dX11_isBetween_167 : decode cX11_isBetween 167 = .ok (.aload_n 0, 1) := by decide +kernel
theorem dX11_isBetween_168 : decode cX11_isBetween 168 = .ok (.getfield 60, 3) := by decide +kernel
theorem dX11_isBetween_171 : decode cX11_isBetween 171 = .ok (.iload 8, 2) := by decide +kernel
theorem dX11_isBetween_173 : decode cX11_isBetween 173 = .ok (.laload, 1) := by decide +kernel
theorem dX11_isBetween_174 : decode cX11_isBetween 174 = .ok (.lmul, 1) := by decide +kernel
theorem dX11_isBetween_175 : decode cX11_isBetween 175 = .ok (.lsub, 1) := by decide +kernel
theorem dX11_isBetween_176 : decode cX11_isBetween 176 = .ok (.lmul, 1) := by decide +kernel
theorem dX11_isBetween_177 : decode cX11_isBetween 177 = .ok (.ladd, 1) := by decide +kernel
theorem dX11_isBetween_178 : decode cX11_isBetween 178 = .ok (.lstore 5, 2) := by decide +kernel
theorem dX11_isBetween_180 : decode cX11_isBetween 180 = .ok (.iinc 7 1, 3) := by decide +kernel
theorem dX11_isBetween_183 : decode cX11_isBetween 183 = .ok (.goto (-127), 3) := by decide +kernel
theorem dX11_isBetween_186 : decode cX11_isBetween 186 = .ok (.lload_n 3, 1) := by decide +kernel
theorem dX11_isBetween_187 : decode cX11_isBetween 187 = .ok (.lconst 0, 1) := by decide +kernel
theorem dX11_isBetween_188 : decode cX11_isBetween 188 = .ok (.lcmp, 1) := by decide +kernel
theorem dX11_isBetween_189 : decode cX11_isBetween 189 = .ok (.ifCond .lt 14, 3) := by decide +kernel
theorem dX11_isBetween_192 : decode cX11_isBetween 192 = .ok (.lload 5, 2) := by decide +kernel
theorem dX11_isBetween_194 : decode cX11_isBetween 194 = .ok (.lconst 0, 1) := by decide +kernel
theorem dX11_isBetween_195 : decode cX11_isBetween 195 = .ok (.lcmp, 1) := by decide +kernel
theorem dX11_isBetween_196 : decode cX11_isBetween 196 = .ok (.ifCond .lt 7, 3) := by decide +kernel
theorem dX11_isBetween_199 : decode cX11_isBetween 199 = .ok (.iconst 1, 1) := by decide +kernel
theorem dX11_isBetween_200 : decode cX11_isBetween 200 = .ok (.goto 4, 3) := by decide +kernel
theorem dX11_isBetween_203 : decode cX11_isBetween 203 = .ok (.iconst 0, 1) := by decide +kernel
theorem dX11_isBetween_204 : decode cX11_isBetween 204 = .ok (.ireturn, 1) := by decide +kernel
theorem dX11_isHeld_0 : decode cX11_isHeld 0 = .ok (.aload_n 0, 1) := by decide +kernel
theorem dX11_isHeld_1 : decode cX11_isHeld 1 = .ok (.getfield 60, 3) := by decide +kernel
theorem dX11_isHeld_4 : decode cX11_isHeld 4 = .ok (.iconst 0, 1) := by decide +kernel
theorem dX11_isHeld_5 : decode cX11_isHeld 5 = .ok (.iload_n 1, 1) := by decide +kernel
theorem dX11_isHeld_6 : decode cX11_isHeld 6 = .ok (.ineg, 1) := by decide +kernel
theorem dX11_isHeld_7 : decode cX11_isHeld 7 = .ok (.i2l, 1) := by decide +kernel
theorem dX11_isHeld_8 : decode cX11_isHeld 8 = .ok (.iload 4, 2) := by decide +kernel
theorem dX11_isHeld_10 : decode cX11_isHeld 10 = .ok (.i2l, 1) := by decide +kernel
theorem dX11_isHeld_11 : decode cX11_isHeld 11 = .ok (.aload_n 0, 1) := by decide +kernel
theorem dX11_isHeld_12 : decode cX11_isHeld 12 = .ok (.getfield 57, 3) := by decide +kernel
theorem dX11_isHeld_15 : decode cX11_isHeld 15 = .ok (.iconst 0, 1) := by decide +kernel
theorem dX11_isHeld_16 : decode cX11_isHeld 16 = .ok (.laload, 1) := by decide +kernel
theorem dX11_isHeld_17 : decode cX11_isHeld 17 = .ok (.lmul, 1) := by decide +kernel
theorem dX11_isHeld_18 : decode cX11_isHeld 18 = .ok (.lsub, 1) := by decide +kernel
theorem dX11_isHeld_19 : decode cX11_isHeld 19 = .ok (.lastore, 1) := by decide +kernel
theorem dX11_isHeld_20 : decode cX11_isHeld 20 = .ok (.aload_n 0, 1) := by decide +kernel
theorem dX11_isHeld_21 : decode cX11_isHeld 21 = .ok (.getfield 60, 3) := by decide +kernel
theorem dX11_isHeld_24 : decode cX11_isHeld 24 = .ok (.iconst 1, 1) := by decide +kernel
theorem dX11_isHeld_25 : decode cX11_isHeld 25 = .ok (.iload_n 2, 1) := by decide +kernel
theorem dX11_isHeld_26 : decode cX11_isHeld 26 = .ok (.ineg, 1) := by decide +kernel
theorem dX11_isHeld_27 : decode cX11_isHeld 27 = .ok (.i2l, 1) := by decide +kernel
theorem dX11_isHeld_28 : decode cX11_isHeld 28 = .ok (.iload 4, 2) := by decide +kernel
theorem dX11_isHeld_30 : decode cX11_isHeld 30 = .ok (.i2l, 1) := by decide +kernel
theorem dX11_isHeld_31 : decode cX11_isHeld 31 = .ok (.aload_n 0, 1) := by decide +kernel
theorem dX11_isHeld_32 : decode cX11_isHeld 32 = .ok (.getfield 57, 3) := by decide +kernel
theorem dX11_isHeld_35 : decode cX11_isHeld 35 = .ok (.iconst 1, 1) := by decide +kernel
theorem dX11_isHeld_36 : decode cX11_isHeld 36 = .ok (.laload, 1) := by decide +kernel
theorem dX11_isHeld_37 : decode cX11_isHeld 37 = .ok (.lmul, 1) := by decide +kernel
theorem dX11_isHeld_38 : decode cX11_isHeld 38 = .ok (.lsub, 1) := by decide +kernel
theorem dX11_isHeld_39 : decode cX11_isHeld 39 = .ok (.lastore, 1) := by decide +kernel
theorem dX11_isHeld_40 : decode cX11_isHeld 40 = .ok (.aload_n 0, 1) := by decide +kernel
theorem dX11_isHeld_41 : decode cX11_isHeld 41 = .ok (.getfield 60, 3) := by decide +kernel
theorem dX11_isHeld_44 : decode cX11_isHeld 44 = .ok (.iconst 2, 1) := by decide +kernel
theorem dX11_isHeld_45 : decode cX11_isHeld 45 = .ok (.iload_n 3, 1) := by decide +kernel
theorem dX11_isHeld_46 : decode cX11_isHeld 46 = .ok (.ineg, 1) := by decide +kernel
theorem dX11_isHeld_47 : decode cX11_isHeld 47 = .ok (.i2l, 1) := by decide +kernel
theorem dX11_isHeld_48 : decode cX11_isHeld 48 = .ok (.iload 4, 2) := by decide +kernel
theorem dX11_isHeld_50 : decode cX11_isHeld 50 = .ok (.i2l, 1) := by decide +kernel
theorem dX11_isHeld_51 : decode cX11_isHeld 51 = .ok (.aload_n 0, 1) := by decide +kernel
theorem dX11_isHeld_52 : decode cX11_isHeld 52 = .ok (.getfield 57, 3) := by decide +kernel
theorem dX11_isHeld_55 : decode cX11_isHeld 55 = .ok (.iconst 2, 1) := by decide +kernel
theorem dX11_isHeld_56 : decode cX11_isHeld 56 = .ok (.laload, 1) := by decide +kernel
theorem dX11_isHeld_57 : decode cX11_isHeld 57 = .ok (.lmul, 1) := by decide +kernel
theorem dX11_isHeld_58 : decode cX11_isHeld 58 = .ok (.lsub, 1) := by decide +kernel
theorem dX11_isHeld_59 : decode cX11_isHeld 59 = .ok (.lastore, 1) := by decide +kernel
theorem dX11_isHeld_60 : decode cX11_isHeld 60 = .ok (.aload_n 0, 1) := by decide +kernel
theorem dX11_isHeld_61 : decode cX11_isHeld 61 = .ok (.invokevirtual 220, 3) := by decide +kernel
theorem dX11_isHeld_64 : decode cX11_isHeld 64 = .ok (.ireturn, 1) := by decide +kernel
theorem dX11_isLoad_0 : decode cX11_isLoad 0 = .ok (.aload_n 0, 1) := by decide +kernel
theorem dX11_isLoad_1 : decode cX11_isLoad 1 = .ok (.iload_n 1, 1) := by decide +kernel
theorem dX11_isLoad_2 : decode cX11_isLoad 2 = .ok (.sipush (-1000), 3) := by decide +kernel
theorem dX11_isLoad_5 : decode cX11_isLoad 5 = .ok (.sipush 1000, 3) := by decide +kernel
theorem dX11_isLoad_8 : decode cX11_isLoad 8 = .ok (.invokevirtual 130, 3) := by decide +kernel
theorem dX11_isLoad_11 : decode cX11_isLoad 11 = .ok (.ifCond .eq 35, 3) := by decide +kernel
theorem dX11_isLoad_14 : decode cX11_isLoad 14 = .ok (.aload_n 0, 1) := by decide +kernel
theorem dX11_isLoad_15 : decode cX11_isLoad 15 = .ok (.iload_n 2, 1) := by decide +kernel
theorem dX11_isLoad_16 : decode cX11_isLoad 16 = .ok (.sipush (-1000), 3) := by decide +kernel
theorem dX11_isLoad_19 : decode cX11_isLoad 19 = .ok (.sipush 1000, 3) := by decide +kernel
theorem dX11_isLoad_22 : decode cX11_isLoad 22 = .ok (.invokevirtual 130, 3) := by decide +kernel
theorem dX11_isLoad_25 : decode cX11_isLoad 25 = .ok (.ifCond .eq 21, 3) := by decide +kernel
theorem dX11_isLoad_28 : decode cX11_isLoad 28 = .ok (.aload_n 0, 1) := by decide +kernel
theorem dX11_isLoad_29 : decode cX11_isLoad 29 = .ok (.iload_n 3, 1) := by decide +kernel
theorem dX11_isLoad_30 : decode cX11_isLoad 30 = .ok (.sipush (-1000), 3) := by decide +kernel
theorem dX11_isLoad_33 : decode cX11_isLoad 33 = .ok (.sipush 1000, 3) := by decide +kernel
theorem dX11_isLoad_36 : decode cX11_isLoad 36 = .ok (.invokevirtual 130, 3) := by decide +kernel
theorem dX11_isLoad_39 : decode cX11_isLoad 39 = .ok (.ifCond .eq 7, 3) := by decide +kernel
theorem dX11_isLoad_42 : decode cX11_isLoad 42 = .ok (.iconst 1, 1) := by decide +kernel
theorem dX11_isLoad_43 : decode cX11_isLoad 43 = .ok (.goto 4, 3) := by decide +kernel
theorem dX11_isLoad_46 : decode cX11_isLoad 46 = .ok (.iconst 0, 1) := by decide +kernel
theorem dX11_isLoad_47 : decode cX11_isLoad 47 = .ok (.ireturn, 1) := by decide +kernel
theorem dX11_held_0 : decode cX11_held 0 = .ok (.aload_n 0, 1) := by decide +kernel
theorem dX11_held_1 : decode cX11_held 1 = .ok (.iload_n 1, 1) := by decide +kernel
theorem dX11_held_2 : decode cX11_held 2 = .ok (.iload_n 2, 1) := by decide +kernel
theorem dX11_held_3 : decode cX11_held 3 = .ok (.iload_n 3, 1) := by decide +kernel
theorem dX11_held_4 : decode cX11_held 4 = .ok (.invokevirtual 224, 3) := by decide +kernel
theorem dX11_held_7 : decode cX11_held 7 = .ok (.ifCond .eq 16, 3) := by decide +kernel
theorem dX11_held_10 : decode cX11_held 10 = .ok (.aload_n 0, 1) := by decide +kernel
theorem dX11_held_11 : decode cX11_held 11 = .ok (.iload 4, 2) := by decide +kernel
theorem dX11_held_13 : decode cX11_held 13 = .ok (.iconst 0, 1) := by decide +kernel
theorem dX11_held_14 : decode cX11_held 14 = .ok (.sipush 200, 3) := by decide +kernel
theorem dX11_held_17 : decode cX11_held 17 = .ok (.invokevirtual 130, 3) := by decide +kernel
theorem dX11_held_20 : decode cX11_held 20 = .ok (.ifCond .ne 5, 3) := by decide +kernel
theorem dX11_held_23 : decode cX11_held 23 = .ok (.iconst (-1), 1) := by decide +kernel
theorem dX11_held_24 : decode cX11_held 24 = .ok (.ireturn, 1) := by decide +kernel
theorem dX11_held_25 : decode cX11_held 25 = .ok (.aload_n 0, 1) := by decide +kernel
theorem dX11_held_26 : decode cX11_held 26 = .ok (.invokevirtual 227, 3) := by decide +kernel
theorem dX11_held_29 : decode cX11_held 29 = .ok (.aload_n 0, 1) := by decide +kernel
theorem dX11_held_30 : decode cX11_held 30 = .ok (.iload_n 1, 1) := by decide +kernel
end
section
theorem dX11_held_31 : decode cX11_held 31 = .ok (.iload_n 2, 1) := by decide +kernel
theorem dX11_held_32 : decode cX11_held 32 = .ok (.iload_n 3, 1) := by decide +kernel
theorem dX11_held_33 : decode cX11_held 33 = .ok (.iload 4, 2) := by decide +kernel
theorem dX11_held_35 : decode cX11_held 35 = .ok (.invokevirtual 230, 3) := by decide +kernel
theorem dX11_held_38 : decode cX11_held 38 = .ok (.ifCond .eq 7, 3) := by decide +kernel
theorem dX11_held_41 : decode cX11_held 41 = .ok (.iconst 1, 1) := by decide +kernel
theorem dX11_held_42 : decode cX11_held 42 = .ok (.goto 4, 3) := by decide +kernel
theorem dX11_held_45 : decode cX11_held 45 = .ok (.iconst 0, 1) := by decide +kernel
theorem dX11_held_46 : decode cX11_held 46 = .ok (.ireturn, 1) := by decide +kernel
theorem dX11_load_0 : decode cX11_load 0 = .ok (.aload_n 0, 1) := by decide +kernel
theorem dX11_load_1 : decode cX11_load 1 = .ok (.iload_n 1, 1) := by decide +kernel
theorem dX11_load_2 : decode cX11_load 2 = .ok (.iload_n 2, 1) := by decide +kernel
theorem dX11_load_3 : decode cX11_load 3 = .ok (.iload_n 3, 1) := by decide +kernel
theorem dX11_load_4 : decode cX11_load 4 = .ok (.invokevirtual 224, 3) := by decide +kernel
theorem dX11_load_7 : decode cX11_load 7 = .ok (.ifCond .ne 5, 3) := by decide +kernel
theorem dX11_load_10 : decode cX11_load 10 = .ok (.iconst (-1), 1) := by decide +kernel
theorem dX11_load_11 : decode cX11_load 11 = .ok (.ireturn, 1) := by decide +kernel
theorem dX11_load_12 : decode cX11_load 12 = .ok (.aload_n 0, 1) := by decide +kernel
theorem dX11_load_13 : decode cX11_load 13 = .ok (.getfield 63, 3) := by decide +kernel
theorem dX11_load_16 : decode cX11_load 16 = .ok (.bipush 16, 2) := by decide +kernel
theorem dX11_load_18 : decode cX11_load 18 = .ok (.if_icmp .ne 6, 3) := by decide +kernel
theorem dX11_load_21 : decode cX11_load 21 = .ok (.bipush (-2), 2) := by decide +kernel
theorem dX11_load_23 : decode cX11_load 23 = .ok (.ireturn, 1) := by decide +kernel
theorem dX11_load_24 : decode cX11_load 24 = .ok (.aload_n 0, 1) := by decide +kernel
theorem dX11_load_25 : decode cX11_load 25 = .ok (.getfield 66, 3) := by decide +kernel
theorem dX11_load_28 : decode cX11_load 28 = .ok (.iconst 3, 1) := by decide +kernel
theorem dX11_load_29 : decode cX11_load 29 = .ok (.aload_n 0, 1) := by decide +kernel
theorem dX11_load_30 : decode cX11_load 30 = .ok (.getfield 63, 3) := by decide +kernel
theorem dX11_load_33 : decode cX11_load 33 = .ok (.imul, 1) := by decide +kernel
theorem dX11_load_34 : decode cX11_load 34 = .ok (.iload_n 1, 1) := by decide +kernel
theorem dX11_load_35 : decode cX11_load 35 = .ok (.iastore, 1) := by decide +kernel
theorem dX11_load_36 : decode cX11_load 36 = .ok (.aload_n 0, 1) := by decide +kernel
theorem dX11_load_37 : decode cX11_load 37 = .ok (.getfield 66, 3) := by decide +kernel
theorem dX11_load_40 : decode cX11_load 40 = .ok (.iconst 3, 1) := by decide +kernel
theorem dX11_load_41 : decode cX11_load 41 = .ok (.aload_n 0, 1) := by decide +kernel
theorem dX11_load_42 : decode cX11_load 42 = .ok (.getfield 63, 3) := by decide +kernel
theorem dX11_load_45 : decode cX11_load 45 = .ok (.imul, 1) := by decide +kernel
theorem dX11_load_46 : decode cX11_load 46 = .ok (.iconst 1, 1) := by decide +kernel
theorem dX11_load_47 : decode cX11_load 47 = .ok (.iadd, 1) := by decide +kernel
theorem dX11_load_48 : decode cX11_load 48 = .ok (.iload_n 2, 1) := by decide +kernel
theorem dX11_load_49 : decode cX11_load 49 = .ok (.iastore, 1) := by decide +kernel
theorem dX11_load_50 : decode cX11_load 50 = .ok (.aload_n 0, 1) := by decide +kernel
theorem dX11_load_51 : decode cX11_load 51 = .ok (.getfield 66, 3) := by decide +kernel
theorem dX11_load_54 : decode cX11_load 54 = .ok (.iconst 3, 1) := by decide +kernel
theorem dX11_load_55 : decode cX11_load 55 = .ok (.aload_n 0, 1) := by decide +kernel
theorem dX11_load_56 : decode cX11_load 56 = .ok (.getfield 63, 3) := by decide +kernel
theorem dX11_load_59 : decode cX11_load 59 = .ok (.imul, 1) := by decide +kernel
theorem dX11_load_60 : decode cX11_load 60 = .ok (.iconst 2, 1) := by decide +kernel
theorem dX11_load_61 : decode cX11_load 61 = .ok (.iadd, 1) := by decide +kernel
theorem dX11_load_62 : decode cX11_load 62 = .ok (.iload_n 3, 1) := by decide +kernel
theorem dX11_load_63 : decode cX11_load 63 = .ok (.iastore, 1) := by decide +kernel
theorem dX11_load_64 : decode cX11_load 64 = .ok (.aload_n 0, 1) := by decide +kernel
theorem dX11_load_65 : decode cX11_load 65 = .ok (.dup, 1) := by decide +kernel
theorem dX11_load_66 : decode cX11_load 66 = .ok (.getfield 63, 3) := by decide +kernel
theorem dX11_load_69 : decode cX11_load 69 = .ok (.iconst 1, 1) := by decide +kernel
theorem dX11_load_70 : decode cX11_load 70 = .ok (.iadd, 1) := by decide +kernel
theorem dX11_load_71 : decode cX11_load 71 = .ok (.putfield 63, 3) := by decide +kernel
theorem dX11_load_74 : decode cX11_load 74 = .ok (.aload_n 0, 1) := by decide +kernel
theorem dX11_load_75 : decode cX11_load 75 = .ok (.getfield 63, 3) := by decide +kernel
theorem dX11_load_78 : decode cX11_load 78 = .ok (.iconst 1, 1) := by decide +kernel
theorem dX11_load_79 : decode cX11_load 79 = .ok (.isub, 1) := by decide +kernel
theorem dX11_load_80 : decode cX11_load 80 = .ok (.ireturn, 1) := by decide +kernel
theorem dX11_unload_0 : decode cX11_unload 0 = .ok (.aload_n 0, 1) := by decide +kernel
theorem dX11_unload_1 : decode cX11_unload 1 = .ok (.getfield 63, 3) := by decide +kernel
theorem dX11_unload_4 : decode cX11_unload 4 = .ok (.istore_n 1, 1) := by decide +kernel
theorem dX11_unload_5 : decode cX11_unload 5 = .ok (.aload_n 0, 1) := by decide +kernel
theorem dX11_unload_6 : decode cX11_unload 6 = .ok (.iconst 0, 1) := by decide +kernel
theorem dX11_unload_7 : decode cX11_unload 7 = .ok (.putfield 63, 3) := by decide +kernel
theorem dX11_unload_10 : decode cX11_unload 10 = .ok (.iload_n 1, 1) := by decide +kernel
theorem dX11_unload_11 : decode cX11_unload 11 = .ok (.ireturn, 1) := by decide +kernel
theorem dX11_heldLoads_0 : decode cX11_heldLoads 0 = .ok (.iconst 0, 1) := by decide +kernel
theorem dX11_heldLoads_1 : decode cX11_heldLoads 1 = .ok (.istore_n 2, 1) := by decide +kernel
theorem dX11_heldLoads_2 : decode cX11_heldLoads 2 = .ok (.iconst 0, 1) := by decide +kernel
theorem dX11_heldLoads_3 : decode cX11_heldLoads 3 = .ok (.istore_n 3, 1) := by decide +kernel
theorem dX11_heldLoads_4 : decode cX11_heldLoads 4 = .ok (.iload_n 3, 1) := by decide +kernel
theorem dX11_heldLoads_5 : decode cX11_heldLoads 5 = .ok (.aload_n 0, 1) := by decide +kernel
theorem dX11_heldLoads_6 : decode cX11_heldLoads 6 = .ok (.getfield 63, 3) := by decide +kernel
theorem dX11_heldLoads_9 : decode cX11_heldLoads 9 = .ok (.if_icmp .ge 55, 3) := by decide +kernel
theorem dX11_heldLoads_12 : decode cX11_heldLoads 12 = .ok (.iload_n 2, 1) := by decide +kernel
theorem dX11_heldLoads_13 : decode cX11_heldLoads 13 = .ok (.aload_n 0, 1) := by decide +kernel
theorem dX11_heldLoads_14 : decode cX11_heldLoads 14 = .ok (.aload_n 0, 1) := by decide +kernel
theorem dX11_heldLoads_15 : decode cX11_heldLoads 15 = .ok (.getfield 66, 3) := by decide +kernel
theorem dX11_heldLoads_18 : decode cX11_heldLoads 18 = .ok (.iconst 3, 1) := by decide +kernel
theorem dX11_heldLoads_19 : decode cX11_heldLoads 19 = .ok (.iload_n 3, 1) := by decide +kernel
theorem dX11_heldLoads_20 : decode cX11_heldLoads 20 = .ok (.imul, 1) := by decide +kernel
theorem dX11_heldLoads_21 : decode cX11_heldLoads 21 = .ok (.iaload, 1) := by decide +kernel
theorem dX11_heldLoads_22 : decode cX11_heldLoads 22 = .ok (.aload_n 0, 1) := by decide +kernel
theorem dX11_heldLoads_23 : decode cX11_heldLoads 23 = .ok (.getfield 66, 3) := by decide +kernel
theorem dX11_heldLoads_26 : decode cX11_heldLoads 26 = .ok (.iconst 3, 1) := by decide +kernel
theorem dX11_heldLoads_27 : decode cX11_heldLoads 27 = .ok (.iload_n 3, 1) := by decide +kernel
theorem dX11_heldLoads_28 : decode cX11_heldLoads 28 = .ok (.imul, 1) := by decide +kernel
theorem dX11_heldLoads_29 : decode cX11_heldLoads 29 = .ok (.iconst 1, 1) := by decide +kernel
theorem dX11_heldLoads_30 : decode cX11_heldLoads 30 = .ok (.iadd, 1) := by decide +kernel
theorem dX11_heldLoads_31 : decode cX11_heldLoads 31 = .ok (.iaload, 1) := by decide +kernel
theorem dX11_heldLoads_32 : decode cX11_heldLoads 32 = .ok (.aload_n 0, 1) := by decide +kernel
theorem dX11_heldLoads_33 : decode cX11_heldLoads 33 = .ok (.getfield 66, 3) := by decide +kernel
theorem dX11_heldLoads_36 : decode cX11_heldLoads 36 = .ok (.iconst 3, 1) := by decide +kernel
theorem dX11_heldLoads_37 : decode cX11_heldLoads 37 = .ok (.iload_n 3, 1) := by decide +kernel
theorem dX11_heldLoads_38 : decode cX11_heldLoads 38 = .ok (.imul, 1) := by decide +kernel
theorem dX11_heldLoads_39 : decode cX11_heldLoads 39 = .ok (.iconst 2, 1) := by decide +kernel
theorem dX11_heldLoads_40 : decode cX11_heldLoads 40 = .ok (.iadd, 1) := by decide +kernel
theorem dX11_heldLoads_41 : decode cX11_heldLoads 41 = .ok (.iaload, 1) := by decide +kernel
theorem dX11_heldLoads_42 : decode cX11_heldLoads 42 = .ok (.iload_n 1, 1) := by decide +kernel
theorem dX11_heldLoads_43 : decode cX11_heldLoads 43 = .ok (.invokevirtual 230, 3) := by decide +kernel
theorem dX11_heldLoads_46 : decode cX11_heldLoads 46 = .ok (.ifCond .eq 9, 3) := by decide +kernel
theorem dX11_heldLoads_49 : decode cX11_heldLoads 49 = .ok (.iconst 1, 1) := by decide +kernel
theorem dX11_heldLoads_50 : decode cX11_heldLoads 50 = .ok (.iload_n 3, 1) := by decide +kernel
theorem dX11_heldLoads_51 : decode cX11_heldLoads 51 = .ok (.ishl, 1) := by decide +kernel
theorem dX11_heldLoads_52 : decode cX11_heldLoads 52 = .ok (.goto 4, 3) := by decide +kernel
theorem dX11_heldLoads_55 : decode cX11_heldLoads 55 = .ok (.iconst 0, 1) := by decide +kernel
theorem dX11_heldLoads_56 : decode cX11_heldLoads 56 = .ok (.ior, 1) := by decide +kernel
theorem dX11_heldLoads_57 : decode cX11_heldLoads 57 = .ok (.istore_n 2, 1) := by decide +kernel
theorem dX11_heldLoads_58 : decode cX11_heldLoads 58 = .ok (.iinc 3 1, 3) := by decide +kernel
theorem dX11_heldLoads_61 : decode cX11_heldLoads 61 = .ok (.goto (-57), 3) := by decide +kernel
theorem dX11_heldLoads_64 : decode cX11_heldLoads 64 = .ok (.iload_n 2, 1) := by decide +kernel
theorem dX11_heldLoads_65 : decode cX11_heldLoads 65 = .ok (.ireturn, 1) := by decide +kernel
theorem dX11_loads_0 : decode cX11_loads 0 = .ok (.aload_n 0, 1) := by decide +kernel
theorem dX11_loads_1 : decode cX11_loads 1 = .ok (.iload_n 1, 1) := by decide +kernel
theorem dX11_loads_2 : decode cX11_loads 2 = .ok (.iconst 0, 1) := by decide +kernel
theorem dX11_loads_3 : decode cX11_loads 3 = .ok (.sipush 200, 3) := by decide +kernel
theorem dX11_loads_6 : decode cX11_loads 6 = .ok (.invokevirtual 130, 3) := by decide +kernel
theorem dX11_loads_9 : decode cX11_loads 9 = .ok (.ifCond .ne 5, 3) := by decide +kernel
theorem dX11_loads_12 : decode cX11_loads 12 = .ok (.iconst (-1), 1) := by decide +kernel
theorem dX11_loads_13 : decode cX11_loads 13 = .ok (.ireturn, 1) := by decide +kernel
theorem dX11_loads_14 : decode cX11_loads 14 = .ok (.aload_n 0, 1) := by decide +kernel
theorem dX11_loads_15 : decode cX11_loads 15 = .ok (.invokevirtual 227, 3) := by decide +kernel
theorem dX11_loads_18 : decode cX11_loads 18 = .ok (.aload_n 0, 1) := by decide +kernel
theorem dX11_loads_19 : decode cX11_loads 19 = .ok (.iload_n 1, 1) := by decide +kernel
theorem dX11_loads_20 : decode cX11_loads 20 = .ok (.invokevirtual 234, 3) := by decide +kernel
theorem dX11_loads_23 : decode cX11_loads 23 = .ok (.ireturn, 1) := by decide +kernel
theorem dX11_pull_0 : decode cX11_pull 0 = .ok (.aload_n 0, 1) := by decide +kernel
theorem dX11_pull_1 : decode cX11_pull 1 = .ok (.invokevirtual 227, 3) := by decide +kernel
theorem dX11_pull_4 : decode cX11_pull 4 = .ok (.iconst 0, 1) := by decide +kernel
theorem dX11_pull_5 : decode cX11_pull 5 = .ok (.istore_n 1, 1) := by decide +kernel
theorem dX11_pull_6 : decode cX11_pull 6 = .ok (.iload_n 1, 1) := by decide +kernel
theorem dX11_pull_7 : decode cX11_pull 7 = .ok (.sipush 200, 3) := by decide +kernel
theorem dX11_pull_10 : decode cX11_pull 10 = .ok (.if_icmp .gt 27, 3) := by decide +kernel
theorem dX11_pull_13 : decode cX11_pull 13 = .ok (.aload_n 0, 1) := by decide +kernel
theorem dX11_pull_14 : decode cX11_pull 14 = .ok (.iload_n 1, 1) := by decide +kernel
theorem dX11_pull_15 : decode cX11_pull 15 = .ok (.invokevirtual 234, 3) := by decide +kernel
theorem dX11_pull_18 : decode cX11_pull 18 = .ok (.iconst 1, 1) := by decide +kernel
theorem dX11_pull_19 : decode cX11_pull 19 = .ok (.aload_n 0, 1) := by decide +kernel
theorem dX11_pull_20 : decode cX11_pull 20 = .ok (.getfield 63, 3) := by decide +kernel
theorem dX11_pull_23 : decode cX11_pull 23 = .ok (.ishl, 1) := by decide +kernel
theorem dX11_pull_24 : decode cX11_pull 24 = .ok (.iconst 1, 1) := by decide +kernel
theorem dX11_pull_25 : decode cX11_pull 25 = .ok (.isub, 1) := by decide +kernel
theorem dX11_pull_26 : decode cX11_pull 26 = .ok (.if_icmp .ne 5, 3) := by decide +kernel
theorem dX11_pull_29 : decode cX11_pull 29 = .ok (.iload_n 1, 1) := by decide +kernel
theorem dX11_pull_30 : decode cX11_pull 30 = .ok (.ireturn, 1) := by decide +kernel
theorem dX11_pull_31 : decode cX11_pull 31 = .ok (.iinc 1 1, 3) := by decide +kernel
theorem dX11_pull_34 : decode cX11_pull 34 = .ok (.goto (-28), 3) := by decide +kernel
theorem dX11_pull_37 : decode cX11_pull 37 = .ok (.bipush (-4), 2) := by decide +kernel
theorem dX11_pull_39 : decode cX11_pull 39 = .ok (.ireturn, 1) := by decide +kernel
theorem dX11_determinant_0 : decode cX11_determinant 0 = .ok (.lconst 0, 1) := by decide +kernel
theorem dX11_determinant_1 : decode cX11_determinant 1 = .ok (.lstore_n 2, 1) := by decide +kernel
theorem dX11_determinant_2 : decode cX11_determinant 2 = .ok (.iconst 0, 1) := by decide +kernel
theorem dX11_determinant_3 : decode cX11_determinant 3 = .ok (.istore 4, 2) := by decide +kernel
theorem dX11_determinant_5 : decode cX11_determinant 5 = .ok (.iload 4, 2) := by decide +kernel
theorem dX11_determinant_7 : decode cX11_determinant 7 = .ok (.iconst 3, 1) := by decide +kernel
theorem dX11_determinant_8 : decode cX11_determinant 8 = .ok (.if_icmp .ge 72, 3) := by decide +kernel
theorem dX11_determinant_11 : decode cX11_determinant 11 = .ok (.iload 4, 2) := by decide +kernel
theorem dX11_determinant_13 : decode cX11_determinant 13 = .ok (.iconst 1, 1) := by decide +kernel
theorem dX11_determinant_14 : decode cX11_determinant 14 = .ok (.iadd, 1) := by decide +kernel
theorem dX11_determinant_15 : decode cX11_determinant 15 = .ok (.iconst 3, 1) := by decide +kernel
theorem dX11_determinant_16 : decode cX11_determinant 16 = .ok (.irem, 1) := by decide +kernel
theorem dX11_determinant_17 : decode cX11_determinant 17 = .ok (.istore 5, 2) := by decide +kernel
theorem dX11_determinant_19 : decode cX11_determinant 19 = .ok (.iload 4, 2) := by decide +kernel
theorem dX11_determinant_21 : decode cX11_determinant 21 = .ok (.iconst 2, 1) := by decide +kernel
theorem dX11_determinant_22 : decode cX11_determinant 22 = .ok (.iadd, 1) := by decide +kernel
theorem dX11_determinant_23 : decode cX11_determinant 23 = .ok (.iconst 3, 1) := by decide +kernel
theorem dX11_determinant_24 : decode cX11_determinant 24 = .ok (.irem, 1) := by decide +kernel
theorem dX11_determinant_25 : decode cX11_determinant 25 = .ok (.istore 6, 2) := by decide +kernel
theorem dX11_determinant_27 : decode cX11_determinant 27 = .ok (.lload_n 2, 1) := by decide +kernel
theorem dX11_determinant_28 : decode cX11_determinant 28 = .ok (.aload_n 0, 1) := by decide +kernel
theorem dX11_determinant_29 : decode cX11_determinant 29 = .ok (.iconst 0, 1) := by decide +kernel
theorem dX11_determinant_30 : decode cX11_determinant 30 = .ok (.iload 4, 2) := by decide +kernel
theorem dX11_determinant_32 : decode cX11_determinant 32 = .ok (.iload_n 1, 1) := by decide +kernel
theorem dX11_determinant_33 : decode cX11_determinant 33 = .ok (.invokevirtual 237, 3) := by decide +kernel
theorem dX11_determinant_36 : decode cX11_determinant 36 = .ok (.aload_n 0, 1) := by decide +kernel
theorem dX11_determinant_37 : decode cX11_determinant 37 = .ok (.iconst 1, 1) := by decide +kernel
theorem dX11_determinant_38 : decode cX11_determinant 38 = .ok (.iload 5, 2) := by decide +kernel
theorem dX11_determinant_40 : decode cX11_determinant 40 = .ok (.iload_n 1, 1) := by decide +kernel
theorem dX11_determinant_41 : decode cX11_determinant 41 = .ok (.invokevirtual 237, 3) := by decide +kernel
theorem dX11_determinant_44 : decode cX11_determinant 44 = .ok (.aload_n 0, 1) := by decide +kernel
theorem dX11_determinant_45 : decode cX11_determinant 45 = .ok (.iconst 2, 1) := by decide +kernel
theorem dX11_determinant_46 : decode cX11_determinant 46 = .ok (.iload 6, 2) := by decide +kernel
theorem dX11_determinant_48 : decode cX11_determinant 48 = .ok (.iload_n 1, 1) := by decide +kernel
theorem dX11_determinant_49 : decode cX11_determinant 49 = .ok (.invokevirtual 237, 3) := by decide +kernel
theorem dX11_determinant_52 : decode cX11_determinant 52 = .ok (.lmul, 1) := by decide +kernel
theorem dX11_determinant_53 : decode cX11_determinant 53 = .ok (.aload_n 0, 1) := by decide +kernel
theorem dX11_determinant_54 : decode cX11_determinant 54 = .ok (.iconst 1, 1) := by decide +kernel
theorem dX11_determinant_55 : decode cX11_determinant 55 = .ok (.iload 6, 2) := by decide +kernel
theorem dX11_determinant_57 : decode cX11_determinant 57 = .ok (.iload_n 1, 1) := by decide +kernel
theorem dX11_determinant_58 : decode cX11_determinant 58 = .ok (.invokevirtual 237, 3) := by decide +kernel
theorem dX11_determinant_61 : decode cX11_determinant 61 = .ok (.aload_n 0, 1) := by decide +kernel
theorem dX11_determinant_62 : decode cX11_determinant 62 = .ok (.iconst 2, 1) := by decide +kernel
theorem dX11_determinant_63 : decode cX11_determinant 63 = .ok (.iload 5, 2) := by decide +kernel
theorem dX11_determinant_65 : decode cX11_determinant 65 = .ok (.iload_n 1, 1) := by decide +kernel
theorem dX11_determinant_66 : decode cX11_determinant 66 = .ok (.invokevirtual 237, 3) := by decide +kernel
theorem dX11_determinant_69 : decode cX11_determinant 69 = .ok (.lmul, 1) := by decide +kernel
theorem dX11_determinant_70 : decode cX11_determinant 70 = .ok (.lsub, 1) := by decide +kernel
theorem dX11_determinant_71 : decode cX11_determinant 71 = .ok (.lmul, 1) := by decide +kernel
theorem dX11_determinant_72 : decode cX11_determinant 72 = .ok (.ladd, 1) := by decide +kernel
theorem dX11_determinant_73 : decode cX11_determinant 73 = .ok (.lstore_n 2, 1) := by decide +kernel
theorem dX11_determinant_74 : decode cX11_determinant 74 = .ok (.iinc 4 1, 3) := by decide +kernel
theorem dX11_determinant_77 : decode cX11_determinant 77 = .ok (.goto (-72), 3) := by decide +kernel
theorem dX11_determinant_80 : decode cX11_determinant 80 = .ok (.lload_n 2, 1) := by decide +kernel
theorem dX11_determinant_81 : decode cX11_determinant 81 = .ok (.lreturn, 1) := by decide +kernel
theorem dX11_at_0 : decode cX11_at 0 = .ok (.iload_n 1, 1) := by decide +kernel
theorem dX11_at_1 : decode cX11_at 1 = .ok (.iload_n 3, 1) := by decide +kernel
theorem dX11_at_2 : decode cX11_at 2 = .ok (.if_icmp .ne 12, 3) := by decide +kernel
theorem dX11_at_5 : decode cX11_at 5 = .ok (.aload_n 0, 1) := by decide +kernel
theorem dX11_at_6 : decode cX11_at 6 = .ok (.getfield 72, 3) := by decide +kernel
theorem dX11_at_9 : decode cX11_at 9 = .ok (.iload_n 2, 1) := by decide +kernel
theorem dX11_at_10 : decode cX11_at 10 = .ok (.laload, 1) := by decide +kernel
theorem dX11_at_11 : decode cX11_at 11 = .ok (.goto 13, 3) := by decide +kernel
theorem dX11_at_14 : decode cX11_at 14 = .ok (.aload_n 0, 1) := by decide +kernel
theorem dX11_at_15 : decode cX11_at 15 = .ok (.getfield 69, 3) := by decide +kernel
theorem dX11_at_18 : decode cX11_at 18 = .ok (.iconst 3, 1) := by decide +kernel
theorem dX11_at_19 : decode cX11_at 19 = .ok (.iload_n 1, 1) := by decide +kernel
theorem dX11_at_20 : decode cX11_at 20 = .ok (.imul, 1) := by decide +kernel
theorem dX11_at_21 : decode cX11_at 21 = .ok (.iload_n 2, 1) := by decide +kernel
theorem dX11_at_22 : decode cX11_at 22 = .ok (.iadd, 1) := by decide +kernel
theorem dX11_at_23 : decode cX11_at 23 = .ok (.laload, 1) := by decide +kernel
theorem dX11_at_24 : decode cX11_at 24 = .ok (.lreturn, 1) := by decide +kernel
theorem dX11_setFeature_0 : decode cX11_setFeature 0 = .ok (.iconst 0, 1) := by decide +kernel
theorem dX11_setFeature_1 : decode cX11_setFeature 1 = .ok (.istore 4, 2) := by decide +kernel
theorem dX11_setFeature_3 : decode cX11_setFeature 3 = .ok (.iload 4, 2) := by decide +kernel
theorem dX11_setFeature_5 : decode cX11_setFeature 5 = .ok (.iconst 3, 1) := by decide +kernel
theorem dX11_setFeature_6 : decode cX11_setFeature 6 = .ok (.if_icmp .ge 36, 3) := by decide +kernel
theorem dX11_setFeature_9 : decode cX11_setFeature 9 = .ok (.aload_n 0, 1) := by decide +kernel
theorem dX11_setFeature_10 : decode cX11_setFeature 10 = .ok (.getfield 72, 3) := by decide +kernel
theorem dX11_setFeature_13 : decode cX11_setFeature 13 = .ok (.iload 4, 2) := by decide +kernel
theorem dX11_setFeature_15 : decode cX11_setFeature 15 = .ok (.aload_n 0, 1) := by decide +kernel
theorem dX11_setFeature_16 : decode cX11_setFeature 16 = .ok (.aload_n 0, 1) := by decide +kernel
theorem dX11_setFeature_17 : decode cX11_setFeature 17 = .ok (.iload_n 3, 1) := by decide +kernel
theorem dX11_setFeature_18 : decode cX11_setFeature 18 = .ok (.invokevirtual 149, 3) := by decide +kernel
theorem dX11_setFeature_21 : decode cX11_setFeature 21 = .ok (.i2l, 1) := by decide +kernel
theorem dX11_setFeature_22 : decode cX11_setFeature 22 = .ok (.aload_n 0, 1) := by decide +kernel
theorem dX11_setFeature_23 : decode cX11_setFeature 23 = .ok (.iload_n 3, 1) := by decide +kernel
theorem dX11_setFeature_24 : decode cX11_setFeature 24 = .ok (.invokevirtual 152, 3) := by decide +kernel
theorem dX11_setFeature_27 : decode cX11_setFeature 27 = .ok (.i2l, 1) := by decide +kernel
theorem dX11_setFeature_28 : decode cX11_setFeature 28 = .ok (.iload_n 1, 1) := by decide +kernel
theorem dX11_setFeature_29 : decode cX11_setFeature 29 = .ok (.iload_n 2, 1) := by decide +kernel
theorem dX11_setFeature_30 : decode cX11_setFeature 30 = .ok (.iload 4, 2) := by decide +kernel
theorem dX11_setFeature_32 : decode cX11_setFeature 32 = .ok (.invokevirtual 155, 3) := by decide +kernel
theorem dX11_setFeature_35 : decode cX11_setFeature 35 = .ok (.lastore, 1) := by decide +kernel
theorem dX11_setFeature_36 : decode cX11_setFeature 36 = .ok (.iinc 4 1, 3) := by decide +kernel
theorem dX11_setFeature_39 : decode cX11_setFeature 39 = .ok (.goto (-36), 3) := by decide +kernel
theorem dX11_setFeature_42 : decode cX11_setFeature 42 = .ok (.return_, 1) := by decide +kernel
theorem dX11_findWorst_0 : decode cX11_findWorst 0 = .ok (.iconst 0, 1) := by decide +kernel
theorem dX11_findWorst_1 : decode cX11_findWorst 1 = .ok (.istore 4, 2) := by decide +kernel
theorem dX11_findWorst_3 : decode cX11_findWorst 3 = .ok (.iload 4, 2) := by decide +kernel
theorem dX11_findWorst_5 : decode cX11_findWorst 5 = .ok (.iconst 3, 1) := by decide +kernel
theorem dX11_findWorst_6 : decode cX11_findWorst 6 = .ok (.if_icmp .ge 56, 3) := by decide +kernel
theorem dX11_findWorst_9 : decode cX11_findWorst 9 = .ok (.aload_n 0, 1) := by decide +kernel
theorem dX11_findWorst_10 : decode cX11_findWorst 10 = .ok (.getfield 69, 3) := by decide +kernel
theorem dX11_findWorst_13 : decode cX11_findWorst 13 = .ok (.iload 4, 2) := by decide +kernel
theorem dX11_findWorst_15 : decode cX11_findWorst 15 = .ok (.aload_n 0, 1) := by decide +kernel
theorem dX11_findWorst_16 : decode cX11_findWorst 16 = .ok (.iload_n 1, 1) := by decide +kernel
theorem dX11_findWorst_17 : decode cX11_findWorst 17 = .ok (.iload 4, 2) := by decide +kernel
theorem dX11_findWorst_19 : decode cX11_findWorst 19 = .ok (.invokevirtual 161, 3) := by decide +kernel
theorem dX11_findWorst_22 : decode cX11_findWorst 22 = .ok (.lastore, 1) := by decide +kernel
theorem dX11_findWorst_23 : decode cX11_findWorst 23 = .ok (.aload_n 0, 1) := by decide +kernel
theorem dX11_findWorst_24 : decode cX11_findWorst 24 = .ok (.getfield 69, 3) := by decide +kernel
theorem dX11_findWorst_27 : decode cX11_findWorst 27 = .ok (.iconst 3, 1) := by decide +kernel
theorem dX11_findWorst_28 : decode cX11_findWorst 28 = .ok (.iload 4, 2) := by decide +kernel
theorem dX11_findWorst_30 : decode cX11_findWorst 30 = .ok (.iadd, 1) := by decide +kernel
theorem dX11_findWorst_31 : decode cX11_findWorst 31 = .ok (.aload_n 0, 1) := by decide +kernel
theorem dX11_findWorst_32 : decode cX11_findWorst 32 = .ok (.iload_n 2, 1) := by decide +kernel
theorem dX11_findWorst_33 : decode cX11_findWorst 33 = .ok (.iload 4, 2) := by decide +kernel
theorem dX11_findWorst_35 : decode cX11_findWorst 35 = .ok (.invokevirtual 161, 3) := by decide +kernel
theorem dX11_findWorst_38 : decode cX11_findWorst 38 = .ok (.lastore, 1) := by decide +kernel
theorem dX11_findWorst_39 : decode cX11_findWorst 39 = .ok (.aload_n 0, 1) := by decide +kernel
theorem dX11_findWorst_40 : decode cX11_findWorst 40 = .ok (.getfield 69, 3) := by decide +kernel
theorem dX11_findWorst_43 : decode cX11_findWorst 43 = .ok (.bipush 6, 2) := by decide +kernel
theorem dX11_findWorst_45 : decode cX11_findWorst 45 = .ok (.iload 4, 2) := by decide +kernel
theorem dX11_findWorst_47 : decode cX11_findWorst 47 = .ok (.iadd, 1) := by decide +kernel
theorem dX11_findWorst_48 : decode cX11_findWorst 48 = .ok (.aload_n 0, 1) := by decide +kernel
theorem dX11_findWorst_49 : decode cX11_findWorst 49 = .ok (.iload_n 3, 1) := by decide +kernel
theorem dX11_findWorst_50 : decode cX11_findWorst 50 = .ok (.iload 4, 2) := by decide +kernel
theorem dX11_findWorst_52 : decode cX11_findWorst 52 = .ok (.invokevirtual 161, 3) := by decide +kernel
theorem dX11_findWorst_55 : decode cX11_findWorst 55 = .ok (.lastore, 1) := by decide +kernel
theorem dX11_findWorst_56 : decode cX11_findWorst 56 = .ok (.iinc 4 1, 3) := by decide +kernel
theorem dX11_findWorst_59 : decode cX11_findWorst 59 = .ok (.goto (-56), 3) := by decide +kernel
theorem dX11_findWorst_62 : decode cX11_findWorst 62 = .ok (.aload_n 0, 1) := by decide +kernel
theorem dX11_findWorst_63 : decode cX11_findWorst 63 = .ok (.aload_n 0, 1) := by decide +kernel
theorem dX11_findWorst_64 : decode cX11_findWorst 64 = .ok (.aload_n 0, 1) := by decide +kernel
theorem dX11_findWorst_65 : decode cX11_findWorst 65 = .ok (.iconst (-1), 1) := by decide +kernel
theorem dX11_findWorst_66 : decode cX11_findWorst 66 = .ok (.invokevirtual 240, 3) := by decide +kernel
theorem dX11_findWorst_69 : decode cX11_findWorst 69 = .ok (.invokevirtual 191, 3) := by decide +kernel
theorem dX11_findWorst_72 : decode cX11_findWorst 72 = .ok (.putfield 79, 3) := by decide +kernel
theorem dX11_findWorst_75 : decode cX11_findWorst 75 = .ok (.aload_n 0, 1) := by decide +kernel
theorem dX11_findWorst_76 : decode cX11_findWorst 76 = .ok (.aload_n 0, 1) := by decide +kernel
theorem dX11_findWorst_77 : decode cX11_findWorst 77 = .ok (.aload_n 0, 1) := by decide +kernel
theorem dX11_findWorst_78 : decode cX11_findWorst 78 = .ok (.iconst 0, 1) := by decide +kernel
theorem dX11_findWorst_79 : decode cX11_findWorst 79 = .ok (.invokevirtual 240, 3) := by decide +kernel
theorem dX11_findWorst_82 : decode cX11_findWorst 82 = .ok (.invokevirtual 191, 3) := by decide +kernel
theorem dX11_findWorst_85 : decode cX11_findWorst 85 = .ok (.aload_n 0, 1) := by decide +kernel
theorem dX11_findWorst_86 : decode cX11_findWorst 86 = .ok (.getfield 35, 3) := by decide +kernel
theorem dX11_findWorst_89 : decode cX11_findWorst 89 = .ok (.iload_n 1, 1) := by decide +kernel
theorem dX11_findWorst_90 : decode cX11_findWorst 90 = .ok (.iaload, 1) := by decide +kernel
theorem dX11_findWorst_91 : decode cX11_findWorst 91 = .ok (.i2l, 1) := by decide +kernel
theorem dX11_findWorst_92 : decode cX11_findWorst 92 = .ok (.lmul, 1) := by decide +kernel
theorem dX11_findWorst_93 : decode cX11_findWorst 93 = .ok (.aload_n 0, 1) := by decide +kernel
theorem dX11_findWorst_94 : decode cX11_findWorst 94 = .ok (.aload_n 0, 1) := by decide +kernel
theorem dX11_findWorst_95 : decode cX11_findWorst 95 = .ok (.iconst 1, 1) := by decide +kernel
theorem dX11_findWorst_96 : decode cX11_findWorst 96 = .ok (.invokevirtual 240, 3) := by decide +kernel
theorem dX11_findWorst_99 : decode cX11_findWorst 99 = .ok (.invokevirtual 191, 3) := by decide +kernel
theorem dX11_findWorst_102 : decode cX11_findWorst 102 = .ok (.aload_n 0, 1) := by decide +kernel
theorem dX11_findWorst_103 : decode cX11_findWorst 103 = .ok (.getfield 35, 3) := by decide +kernel
theorem dX11_findWorst_106 : decode cX11_findWorst 106 = .ok (.iload_n 2, 1) := by decide +kernel
theorem dX11_findWorst_107 : decode cX11_findWorst 107 = .ok (.iaload, 1) := by decide +kernel
theorem dX11_findWorst_108 : decode cX11_findWorst 108 = .ok (.i2l, 1) := by decide +kernel
theorem dX11_findWorst_109 : decode cX11_findWorst 109 = .ok (.lmul, 1) := by decide +kernel
theorem dX11_findWorst_110 : decode cX11_findWorst 110 = .ok (.ladd, 1) := by decide +kernel
theorem dX11_findWorst_111 : decode cX11_findWorst 111 = .ok (.aload_n 0, 1) := by decide +kernel
theorem dX11_findWorst_112 : decode cX11_findWorst 112 = .ok (.aload_n 0, 1) := by decide +kernel
theorem dX11_findWorst_113 : decode cX11_findWorst 113 = .ok (.iconst 2, 1) := by decide +kernel
theorem dX11_findWorst_114 : decode cX11_findWorst 114 = .ok (.invokevirtual 240, 3) := by decide +kernel
theorem dX11_findWorst_117 : decode cX11_findWorst 117 = .ok (.invokevirtual 191, 3) := by decide +kernel
theorem dX11_findWorst_120 : decode cX11_findWorst 120 = .ok (.aload_n 0, 1) := by decide +kernel
theorem dX11_findWorst_121 : decode cX11_findWorst 121 = .ok (.getfield 35, 3) := by decide +kernel
theorem dX11_findWorst_124 : decode cX11_findWorst 124 = .ok (.iload_n 3, 1) := by decide +kernel
theorem dX11_findWorst_125 : decode cX11_findWorst 125 = .ok (.iaload, 1) := by decide +kernel
theorem dX11_findWorst_126 : decode cX11_findWorst 126 = .ok (.i2l, 1) := by decide +kernel
theorem dX11_findWorst_127 : decode cX11_findWorst 127 = .ok (.lmul, 1) := by decide +kernel
theorem dX11_findWorst_128 : decode cX11_findWorst 128 = .ok (.ladd, 1) := by decide +kernel
theorem dX11_findWorst_129 : decode cX11_findWorst 129 = .ok (.putfield 75, 3) := by decide +kernel
theorem dX11_findWorst_132 : decode cX11_findWorst 132 = .ok (.aload_n 0, 1) := by decide +kernel
theorem dX11_findWorst_133 : decode cX11_findWorst 133 = .ok (.getfield 79, 3) := by decide +kernel
theorem dX11_findWorst_136 : decode cX11_findWorst 136 = .ok (.lconst 0, 1) := by decide +kernel
theorem dX11_findWorst_137 : decode cX11_findWorst 137 = .ok (.lcmp, 1) := by decide +kernel
theorem dX11_findWorst_138 : decode cX11_findWorst 138 = .ok (.ifCond .eq 7, 3) := by decide +kernel
theorem dX11_findWorst_141 : decode cX11_findWorst 141 = .ok (.iconst 1, 1) := by decide +kernel
theorem dX11_findWorst_142 : decode cX11_findWorst 142 = .ok (.goto 4, 3) := by decide +kernel
theorem dX11_findWorst_145 : decode cX11_findWorst 145 = .ok (.iconst 0, 1) := by decide +kernel
theorem dX11_findWorst_146 : decode cX11_findWorst 146 = .ok (.ireturn, 1) := by decide +kernel
theorem dX11_isFeature_0 : decode cX11_isFeature 0 = .ok (.aload_n 0, 1) := by decide +kernel
theorem dX11_isFeature_1 : decode cX11_isFeature 1 = .ok (.iload_n 1, 1) := by decide +kernel
theorem dX11_isFeature_2 : decode cX11_isFeature 2 = .ok (.iload_n 2, 1) := by decide +kernel
theorem dX11_isFeature_3 : decode cX11_isFeature 3 = .ok (.invokevirtual 134, 3) := by decide +kernel
theorem dX11_isFeature_6 : decode cX11_isFeature 6 = .ok (.ifCond .eq 18, 3) := by decide +kernel
theorem dX11_isFeature_9 : decode cX11_isFeature 9 = .ok (.aload_n 0, 1) := by decide +kernel
theorem dX11_isFeature_10 : decode cX11_isFeature 10 = .ok (.iload_n 3, 1) := by decide +kernel
theorem dX11_isFeature_11 : decode cX11_isFeature 11 = .ok (.iconst 0, 1) := by decide +kernel
theorem dX11_isFeature_12 : decode cX11_isFeature 12 = .ok (.bipush 7, 2) := by decide +kernel
theorem dX11_isFeature_14 : decode cX11_isFeature 14 = .ok (.invokevirtual 130, 3) := by decide +kernel
theorem dX11_isFeature_17 : decode cX11_isFeature 17 = .ok (.ifCond .eq 7, 3) := by decide +kernel
theorem dX11_isFeature_20 : decode cX11_isFeature 20 = .ok (.iconst 1, 1) := by decide +kernel
theorem dX11_isFeature_21 : decode cX11_isFeature 21 = .ok (.goto 4, 3) := by decide +kernel
theorem dX11_isFeature_24 : decode cX11_isFeature 24 = .ok (.iconst 0, 1) := by decide +kernel
theorem dX11_isFeature_25 : decode cX11_isFeature 25 = .ok (.ireturn, 1) := by decide +kernel
theorem dX11_canPlace_0 : decode cX11_canPlace 0 = .ok (.aload_n 0, 1) := by decide +kernel
theorem dX11_canPlace_1 : decode cX11_canPlace 1 = .ok (.iload_n 1, 1) := by decide +kernel
theorem dX11_canPlace_2 : decode cX11_canPlace 2 = .ok (.invokevirtual 142, 3) := by decide +kernel
theorem dX11_canPlace_5 : decode cX11_canPlace 5 = .ok (.ifCond .eq 17, 3) := by decide +kernel
theorem dX11_canPlace_8 : decode cX11_canPlace 8 = .ok (.aload_n 0, 1) := by decide +kernel
theorem dX11_canPlace_9 : decode cX11_canPlace 9 = .ok (.getfield 16, 3) := by decide +kernel
theorem dX11_canPlace_12 : decode cX11_canPlace 12 = .ok (.iload_n 1, 1) := by decide +kernel
theorem dX11_canPlace_13 : decode cX11_canPlace 13 = .ok (.iaload, 1) := by decide +kernel
theorem dX11_canPlace_14 : decode cX11_canPlace 14 = .ok (.iconst 2, 1) := by decide +kernel
theorem dX11_canPlace_15 : decode cX11_canPlace 15 = .ok (.if_icmp .eq 7, 3) := by decide +kernel
theorem dX11_canPlace_18 : decode cX11_canPlace 18 = .ok (.iconst 1, 1) := by decide +kernel
theorem dX11_canPlace_19 : decode cX11_canPlace 19 = .ok (.goto 4, 3) := by decide +kernel
theorem dX11_canPlace_22 : decode cX11_canPlace 22 = .ok (.iconst 0, 1) := by decide +kernel
theorem dX11_canPlace_23 : decode cX11_canPlace 23 = .ok (.ireturn, 1) := by decide +kernel
theorem dX11_worst_0 : decode cX11_worst 0 = .ok (.iload 4, 2) := by decide +kernel
theorem dX11_worst_2 : decode cX11_worst 2 = .ok (.bipush 10, 2) := by decide +kernel
theorem dX11_worst_4 : decode cX11_worst 4 = .ok (.irem, 1) := by decide +kernel
theorem dX11_worst_5 : decode cX11_worst 5 = .ok (.istore 6, 2) := by decide +kernel
theorem dX11_worst_7 : decode cX11_worst 7 = .ok (.iload 4, 2) := by decide +kernel
theorem dX11_worst_9 : decode cX11_worst 9 = .ok (.bipush 10, 2) := by decide +kernel
theorem dX11_worst_11 : decode cX11_worst 11 = .ok (.idiv, 1) := by decide +kernel
theorem dX11_worst_12 : decode cX11_worst 12 = .ok (.bipush 10, 2) := by decide +kernel
theorem dX11_worst_14 : decode cX11_worst 14 = .ok (.irem, 1) := by decide +kernel
theorem dX11_worst_15 : decode cX11_worst 15 = .ok (.istore 7, 2) := by decide +kernel
theorem dX11_worst_17 : decode cX11_worst 17 = .ok (.iload 4, 2) := by decide +kernel
theorem dX11_worst_19 : decode cX11_worst 19 = .ok (.bipush 100, 2) := by decide +kernel
theorem dX11_worst_21 : decode cX11_worst 21 = .ok (.idiv, 1) := by decide +kernel
theorem dX11_worst_22 : decode cX11_worst 22 = .ok (.istore 8, 2) := by decide +kernel
theorem dX11_worst_24 : decode cX11_worst 24 = .ok (.aload_n 0, 1) := by decide +kernel
theorem dX11_worst_25 : decode cX11_worst 25 = .ok (.iload_n 1, 1) := by decide +kernel
theorem dX11_worst_26 : decode cX11_worst 26 = .ok (.iload_n 2, 1) := by decide +kernel
theorem dX11_worst_27 : decode cX11_worst 27 = .ok (.iload_n 3, 1) := by decide +kernel
theorem dX11_worst_28 : decode cX11_worst 28 = .ok (.invokevirtual 243, 3) := by decide +kernel
theorem dX11_worst_31 : decode cX11_worst 31 = .ok (.ifCond .eq 60, 3) := by decide +kernel
theorem dX11_worst_34 : decode cX11_worst 34 = .ok (.iload 4, 2) := by decide +kernel
theorem dX11_worst_36 : decode cX11_worst 36 = .ok (.ifCond .lt 55, 3) := by decide +kernel
theorem dX11_worst_39 : decode cX11_worst 39 = .ok (.aload_n 0, 1) := by decide +kernel
theorem dX11_worst_40 : decode cX11_worst 40 = .ok (.iload 6, 2) := by decide +kernel
theorem dX11_worst_42 : decode cX11_worst 42 = .ok (.invokevirtual 246, 3) := by decide +kernel
theorem dX11_worst_45 : decode cX11_worst 45 = .ok (.ifCond .eq 46, 3) := by decide +kernel
theorem dX11_worst_48 : decode cX11_worst 48 = .ok (.aload_n 0, 1) := by decide +kernel
theorem dX11_worst_49 : decode cX11_worst 49 = .ok (.iload 7, 2) := by decide +kernel
theorem dX11_worst_51 : decode cX11_worst 51 = .ok (.invokevirtual 246, 3) := by decide +kernel
theorem dX11_worst_54 : decode cX11_worst 54 = .ok (.ifCond .eq 37, 3) := by decide +kernel
theorem dX11_worst_57 : decode cX11_worst 57 = .ok (.aload_n 0, 1) := by decide +kernel
theorem dX11_worst_58 : decode cX11_worst 58 = .ok (.iload 8, 2) := by decide +kernel
theorem dX11_worst_60 : decode cX11_worst 60 = .ok (.invokevirtual 246, 3) := by decide +kernel
theorem dX11_worst_63 : decode cX11_worst 63 = .ok (.ifCond .eq 28, 3) := by decide +kernel
theorem dX11_worst_66 : decode cX11_worst 66 = .ok (.iload 6, 2) := by decide +kernel
theorem dX11_worst_68 : decode cX11_worst 68 = .ok (.iload 7, 2) := by decide +kernel
theorem dX11_worst_70 : decode cX11_worst 70 = .ok (.if_icmp .eq 21, 3) := by decide +kernel
theorem dX11_worst_73 : decode cX11_worst 73 = .ok (.iload 6, 2) := by decide +kernel
theorem dX11_worst_75 : decode cX11_worst 75 = .ok (.iload 8, 2) := by decide +kernel
theorem dX11_worst_77 : decode cX11_worst 77 = .ok (.if_icmp .eq 14, 3) := by decide +kernel
theorem dX11_worst_80 : decode cX11_worst 80 = .ok (.iload 7, 2) := by decide +kernel
theorem dX11_worst_82 : decode cX11_worst 82 = .ok (.iload 8, 2) := by decide +kernel
theorem dX11_worst_84 : decode cX11_worst 84 = .ok (.if_icmp .eq 7, 3) := by decide +kernel
theorem dX11_worst_87 : decode cX11_worst 87 = .ok (.iconst 1, 1) := by decide +kernel
theorem dX11_worst_88 : decode cX11_worst 88 = .ok (.goto 4, 3) := by decide +kernel
theorem dX11_worst_91 : decode cX11_worst 91 = .ok (.iconst 0, 1) := by decide +kernel
theorem dX11_worst_92 : decode cX11_worst 92 = .ok (.istore 9, 2) := by decide +kernel
theorem dX11_worst_94 : decode cX11_worst 94 = .ok (.aload_n 0, 1) := by decide +kernel
theorem dX11_worst_95 : decode cX11_worst 95 = .ok (.iload 9, 2) := by decide +kernel
theorem dX11_worst_97 : decode cX11_worst 97 = .ok (.ifCond .eq 7, 3) := by decide +kernel
theorem dX11_worst_100 : decode cX11_worst 100 = .ok (.iconst 0, 1) := by decide +kernel
theorem dX11_worst_101 : decode cX11_worst 101 = .ok (.goto 4, 3) := by decide +kernel
theorem dX11_worst_104 : decode cX11_worst 104 = .ok (.iconst 1, 1) := by decide +kernel
theorem dX11_worst_105 : decode cX11_worst 105 = .ok (.putfield 7, 3) := by decide +kernel
theorem dX11_worst_108 : decode cX11_worst 108 = .ok (.iload 9, 2) := by decide +kernel
theorem dX11_worst_110 : decode cX11_worst 110 = .ok (.ifCond .ne 5, 3) := by decide +kernel
theorem dX11_worst_113 : decode cX11_worst 113 = .ok (.lconst 0, 1) := by decide +kernel
theorem dX11_worst_114 : decode cX11_worst 114 = .ok (.lreturn, 1) := by decide +kernel
theorem dX11_worst_115 : decode cX11_worst 115 = .ok (.aload_n 0, 1) := by decide +kernel
theorem dX11_worst_116 : decode cX11_worst 116 = .ok (.iload_n 1, 1) := by decide +kernel
theorem dX11_worst_117 : decode cX11_worst 117 = .ok (.iload_n 2, 1) := by decide +kernel
theorem dX11_worst_118 : decode cX11_worst 118 = .ok (.iload_n 3, 1) := by decide +kernel
theorem dX11_worst_119 : decode cX11_worst 119 = .ok (.invokevirtual 249, 3) := by decide +kernel
theorem dX11_worst_122 : decode cX11_worst 122 = .ok (.aload_n 0, 1) := by decide +kernel
theorem dX11_worst_123 : decode cX11_worst 123 = .ok (.iload 6, 2) := by decide +kernel
theorem dX11_worst_125 : decode cX11_worst 125 = .ok (.iload 7, 2) := by decide +kernel
theorem dX11_worst_127 : decode cX11_worst 127 = .ok (.iload 8, 2) := by decide +kernel
theorem dX11_worst_129 : decode cX11_worst 129 = .ok (.invokevirtual 253, 3) := by decide +kernel
theorem dX11_worst_132 : decode cX11_worst 132 = .ok (.ifCond .ne 10, 3) := by decide +kernel
theorem dX11_worst_135 : decode cX11_worst 135 = .ok (.aload_n 0, 1) := by decide +kernel
theorem dX11_worst_136 : decode cX11_worst 136 = .ok (.iconst 2, 1) := by decide +kernel
theorem dX11_worst_137 : decode cX11_worst 137 = .ok (.putfield 7, 3) := by decide +kernel
theorem dX11_worst_140 : decode cX11_worst 140 = .ok (.lconst 0, 1) := by decide +kernel
theorem dX11_worst_141 : decode cX11_worst 141 = .ok (.lreturn, 1) := by decide +kernel
theorem dX11_worst_142 : decode cX11_worst 142 = .ok (.aload_n 0, 1) := by decide +kernel
theorem dX11_worst_143 : decode cX11_worst 143 = .ok (.aload_n 0, 1) := by decide +kernel
theorem dX11_worst_144 : decode cX11_worst 144 = .ok (.getfield 75, 3) := by decide +kernel
theorem dX11_worst_147 : decode cX11_worst 147 = .ok (.aload_n 0, 1) := by decide +kernel
theorem dX11_worst_148 : decode cX11_worst 148 = .ok (.getfield 79, 3) := by decide +kernel
theorem dX11_worst_151 : decode cX11_worst 151 = .ok (.invokevirtual 201, 3) := by decide +kernel
theorem dX11_worst_154 : decode cX11_worst 154 = .ok (.lstore 10, 2) := by decide +kernel
theorem dX11_worst_156 : decode cX11_worst 156 = .ok (.iload 5, 2) := by decide +kernel
theorem dX11_worst_158 : decode cX11_worst 158 = .ok (.ifCond .eq 13, 3) := by decide +kernel
theorem dX11_worst_161 : decode cX11_worst 161 = .ok (.aload_n 0, 1) := by decide +kernel
theorem dX11_worst_162 : decode cX11_worst 162 = .ok (.getfield 79, 3) := by decide +kernel
theorem dX11_worst_165 : decode cX11_worst 165 = .ok (.lload 10, 2) := by decide +kernel
theorem dX11_worst_167 : decode cX11_worst 167 = .ok (.ldiv, 1) := by decide +kernel
theorem dX11_worst_168 : decode cX11_worst 168 = .ok (.goto 10, 3) := by decide +kernel
theorem dX11_worst_171 : decode cX11_worst 171 = .ok (.aload_n 0, 1) := by decide +kernel
theorem dX11_worst_172 : decode cX11_worst 172 = .ok (.getfield 75, 3) := by decide +kernel
theorem dX11_worst_175 : decode cX11_worst 175 = .ok (.lload 10, 2) := by decide +kernel
theorem dX11_worst_177 : decode cX11_worst 177 = .ok (.ldiv, 1) := by decide +kernel
theorem dX11_worst_178 : decode cX11_worst 178 = .ok (.lreturn, 1) := by decide +kernel
theorem dX11_best_0 : decode cX11_best 0 = .ok (.aload_n 0, 1) := by decide +kernel
theorem dX11_best_1 : decode cX11_best 1 = .ok (.iload_n 1, 1) := by decide +kernel
theorem dX11_best_2 : decode cX11_best 2 = .ok (.iload_n 2, 1) := by decide +kernel
theorem dX11_best_3 : decode cX11_best 3 = .ok (.iload_n 3, 1) := by decide +kernel
theorem dX11_best_4 : decode cX11_best 4 = .ok (.invokevirtual 243, 3) := by decide +kernel
theorem dX11_best_7 : decode cX11_best 7 = .ok (.ifCond .ne 5, 3) := by decide +kernel
theorem dX11_best_10 : decode cX11_best 10 = .ok (.iconst (-1), 1) := by decide +kernel
theorem dX11_best_11 : decode cX11_best 11 = .ok (.ireturn, 1) := by decide +kernel
theorem dX11_best_12 : decode cX11_best 12 = .ok (.aload_n 0, 1) := by decide +kernel
theorem dX11_best_13 : decode cX11_best 13 = .ok (.iload_n 1, 1) := by decide +kernel
theorem dX11_best_14 : decode cX11_best 14 = .ok (.iload_n 2, 1) := by decide +kernel
theorem dX11_best_15 : decode cX11_best 15 = .ok (.iload_n 3, 1) := by decide +kernel
theorem dX11_best_16 : decode cX11_best 16 = .ok (.invokevirtual 249, 3) := by decide +kernel
theorem dX11_best_19 : decode cX11_best 19 = .ok (.bipush (-4), 2) := by decide +kernel
theorem dX11_best_21 : decode cX11_best 21 = .ok (.istore 4, 2) := by decide +kernel
theorem dX11_best_23 : decode cX11_best 23 = .ok (.lconst 0, 1) := by decide +kernel
theorem dX11_best_24 : decode cX11_best 24 = .ok (.lstore 5, 2) := by decide +kernel
theorem dX11_best_26 : decode cX11_best 26 = .ok (.lconst 1, 1) := by decide +kernel
theorem dX11_best_27 : decode cX11_best 27 = .ok (.lstore 7, 2) := by decide +kernel
theorem dX11_best_29 : decode cX11_best 29 = .ok (.iconst 0, 1) := by decide +kernel
theorem dX11_best_30 : decode cX11_best 30 = .ok (.istore 9, 2) := by decide +kernel
theorem dX11_best_32 : decode cX11_best 32 = .ok (.iload 9, 2) := by decide +kernel
theorem dX11_best_34 : decode cX11_best 34 = .ok (.aload_n 0, 1) := by decide +kernel
theorem dX11_best_35 : decode cX11_best 35 = .ok (.getfield 13, 3) := by decide +kernel
theorem dX11_best_38 : decode cX11_best 38 = .ok (.if_icmp .ge 148, 3) := by decide +kernel
theorem dX11_best_41 : decode cX11_best 41 = .ok (.iload 9, 2) := by decide +kernel
theorem dX11_best_43 : decode cX11_best 43 = .ok (.iconst 1, 1) := by decide +kernel
theorem dX11_best_44 : decode cX11_best 44 = .ok (.iadd, 1) := by decide +kernel
theorem dX11_best_45 : decode cX11_best 45 = .ok (.istore 10, 2) := by decide +kernel
theorem dX11_best_47 : decode cX11_best 47 = .ok (.iload 10, 2) := by decide +kernel
theorem dX11_best_49 : decode cX11_best 49 = .ok (.aload_n 0, 1) := by decide +kernel
theorem dX11_best_50 : decode cX11_best 50 = .ok (.getfield 13, 3) := by decide +kernel
theorem dX11_best_53 : decode cX11_best 53 = .ok (.if_icmp .ge 127, 3) := by decide +kernel
theorem dX11_best_56 : decode cX11_best 56 = .ok (.iload 10, 2) := by decide +kernel
theorem dX11_best_58 : decode cX11_best 58 = .ok (.iconst 1, 1) := by decide +kernel
theorem dX11_best_59 : decode cX11_best 59 = .ok (.iadd, 1) := by decide +kernel
theorem dX11_best_60 : decode cX11_best 60 = .ok (.istore 11, 2) := by decide +kernel
theorem dX11_best_62 : decode cX11_best 62 = .ok (.iload 11, 2) := by decide +kernel
theorem dX11_best_64 : decode cX11_best 64 = .ok (.aload_n 0, 1) := by decide +kernel
theorem dX11_best_65 : decode cX11_best 65 = .ok (.getfield 13, 3) := by decide +kernel
theorem dX11_best_68 : decode cX11_best 68 = .ok (.if_icmp .ge 106, 3) := by decide +kernel
theorem dX11_best_71 : decode cX11_best 71 = .ok (.aload_n 0, 1) := by decide +kernel
theorem dX11_best_72 : decode cX11_best 72 = .ok (.iload 9, 2) := by decide +kernel
theorem dX11_best_74 : decode cX11_best 74 = .ok (.invokevirtual 246, 3) := by decide +kernel
theorem dX11_best_77 : decode cX11_best 77 = .ok (.ifCond .eq 91, 3) := by decide +kernel
theorem dX11_best_80 : decode cX11_best 80 = .ok (.aload_n 0, 1) := by decide +kernel
theorem dX11_best_81 : decode cX11_best 81 = .ok (.iload 10, 2) := by decide +kernel
theorem dX11_best_83 : decode cX11_best 83 = .ok (.invokevirtual 246, 3) := by decide +kernel
theorem dX11_best_86 : decode cX11_best 86 = .ok (.ifCond .eq 82, 3) := by decide +kernel
theorem dX11_best_89 : decode cX11_best 89 = .ok (.aload_n 0, 1) := by decide +kernel
theorem dX11_best_90 : decode cX11_best 90 = .ok (.iload 11, 2) := by decide +kernel
theorem dX11_best_92 : decode cX11_best 92 = .ok (.invokevirtual 246, 3) := by decide +kernel
theorem dX11_best_95 : decode cX11_best 95 = .ok (.ifCond .eq 73, 3) := by decide +kernel
theorem dX11_best_98 : decode cX11_best 98 = .ok (.aload_n 0, 1) := by decide +kernel
theorem dX11_best_99 : decode cX11_best 99 = .ok (.iload 9, 2) := by decide +kernel
theorem dX11_best_101 : decode cX11_best 101 = .ok (.iload 10, 2) := by decide +kernel
theorem dX11_best_103 : decode cX11_best 103 = .ok (.iload 11, 2) := by decide +kernel
theorem dX11_best_105 : decode cX11_best 105 = .ok (.invokevirtual 253, 3) := by decide +kernel
theorem dX11_best_108 : decode cX11_best 108 = .ok (.ifCond .ne 6, 3) := by decide +kernel
theorem dX11_best_111 : decode cX11_best 111 = .ok (.goto 57, 3) := by decide +kernel
theorem dX11_best_114 : decode cX11_best 114 = .ok (.iload 4, 2) := by decide +kernel
theorem dX11_best_116 : decode cX11_best 116 = .ok (.ifCond .lt 24, 3) := by decide +kernel
theorem dX11_best_119 : decode cX11_best 119 = .ok (.aload_n 0, 1) := by decide +kernel
theorem dX11_best_120 : decode cX11_best 120 = .ok (.getfield 75, 3) := by decide +kernel
theorem dX11_best_123 : decode cX11_best 123 = .ok (.lload 7, 2) := by decide +kernel
theorem dX11_best_125 : decode cX11_best 125 = .ok (.lmul, 1) := by decide +kernel
theorem dX11_best_126 : decode cX11_best 126 = .ok (.lload 5, 2) := by decide +kernel
theorem dX11_best_128 : decode cX11_best 128 = .ok (.aload_n 0, 1) := by decide +kernel
theorem dX11_best_129 : decode cX11_best 129 = .ok (.getfield 79, 3) := by decide +kernel
theorem dX11_best_132 : decode cX11_best 132 = .ok (.lmul, 1) := by decide +kernel
theorem dX11_best_133 : decode cX11_best 133 = .ok (.lcmp, 1) := by decide +kernel
theorem dX11_best_134 : decode cX11_best 134 = .ok (.ifCond .lt 6, 3) := by decide +kernel
theorem dX11_best_137 : decode cX11_best 137 = .ok (.goto 31, 3) := by decide +kernel
theorem dX11_best_140 : decode cX11_best 140 = .ok (.iload 9, 2) := by decide +kernel
theorem dX11_best_142 : decode cX11_best 142 = .ok (.bipush 10, 2) := by decide +kernel
theorem dX11_best_144 : decode cX11_best 144 = .ok (.iload 10, 2) := by decide +kernel
theorem dX11_best_146 : decode cX11_best 146 = .ok (.imul, 1) := by decide +kernel
theorem dX11_best_147 : decode cX11_best 147 = .ok (.iadd, 1) := by decide +kernel
theorem dX11_best_148 : decode cX11_best 148 = .ok (.bipush 100, 2) := by decide +kernel
theorem dX11_best_150 : decode cX11_best 150 = .ok (.iload 11, 2) := by decide +kernel
theorem dX11_best_152 : decode cX11_best 152 = .ok (.imul, 1) := by decide +kernel
theorem dX11_best_153 : decode cX11_best 153 = .ok (.iadd, 1) := by decide +kernel
theorem dX11_best_154 : decode cX11_best 154 = .ok (.istore 4, 2) := by decide +kernel
theorem dX11_best_156 : decode cX11_best 156 = .ok (.aload_n 0, 1) := by decide +kernel
theorem dX11_best_157 : decode cX11_best 157 = .ok (.getfield 75, 3) := by decide +kernel
theorem dX11_best_160 : decode cX11_best 160 = .ok (.lstore 5, 2) := by decide +kernel
theorem dX11_best_162 : decode cX11_best 162 = .ok (.aload_n 0, 1) := by decide +kernel
theorem dX11_best_163 : decode cX11_best 163 = .ok (.getfield 79, 3) := by decide +kernel
theorem dX11_best_166 : decode cX11_best 166 = .ok (.lstore 7, 2) := by decide +kernel
theorem dX11_best_168 : decode cX11_best 168 = .ok (.iinc 11 1, 3) := by decide +kernel
theorem dX11_best_171 : decode cX11_best 171 = .ok (.goto (-109), 3) := by decide +kernel
theorem dX11_best_174 : decode cX11_best 174 = .ok (.iinc 10 1, 3) := by decide +kernel
theorem dX11_best_177 : decode cX11_best 177 = .ok (.goto (-130), 3) := by decide +kernel
theorem dX11_best_180 : decode cX11_best 180 = .ok (.iinc 9 1, 3) := by decide +kernel
theorem dX11_best_183 : decode cX11_best 183 = .ok (.goto (-151), 3) := by decide +kernel
theorem dX11_best_186 : decode cX11_best 186 = .ok (.iload 4, 2) := by decide +kernel
theorem dX11_best_188 : decode cX11_best 188 = .ok (.ireturn, 1) := by decide +kernel
theorem dX11_step_0 : decode cX11_step 0 = .ok (.aload_n 0, 1) := by decide +kernel
theorem dX11_step_1 : decode cX11_step 1 = .ok (.iload_n 1, 1) := by decide +kernel
theorem dX11_step_2 : decode cX11_step 2 = .ok (.iconst 1, 1) := by decide +kernel
theorem dX11_step_3 : decode cX11_step 3 = .ok (.bipush 63, 2) := by decide +kernel
theorem dX11_step_5 : decode cX11_step 5 = .ok (.invokevirtual 130, 3) := by decide +kernel
theorem dX11_step_8 : decode cX11_step 8 = .ok (.ifCond .eq 20, 3) := by decide +kernel
theorem dX11_step_11 : decode cX11_step 11 = .ok (.aload_n 0, 1) := by decide +kernel
theorem dX11_step_12 : decode cX11_step 12 = .ok (.iload_n 2, 1) := by decide +kernel
theorem dX11_step_13 : decode cX11_step 13 = .ok (.iconst 0, 1) := by decide +kernel
theorem dX11_step_14 : decode cX11_step 14 = .ok (.iconst 1, 1) := by decide +kernel
theorem dX11_step_15 : decode cX11_step 15 = .ok (.aload_n 0, 1) := by decide +kernel
theorem dX11_step_16 : decode cX11_step 16 = .ok (.getfield 82, 3) := by decide +kernel
theorem dX11_step_19 : decode cX11_step 19 = .ok (.ishl, 1) := by decide +kernel
theorem dX11_step_20 : decode cX11_step 20 = .ok (.iconst 1, 1) := by decide +kernel
theorem dX11_step_21 : decode cX11_step 21 = .ok (.isub, 1) := by decide +kernel
theorem dX11_step_22 : decode cX11_step 22 = .ok (.invokevirtual 130, 3) := by decide +kernel
theorem dX11_step_25 : decode cX11_step 25 = .ok (.ifCond .ne 5, 3) := by decide +kernel
theorem dX11_step_28 : decode cX11_step 28 = .ok (.iconst (-1), 1) := by decide +kernel
theorem dX11_step_29 : decode cX11_step 29 = .ok (.ireturn, 1) := by decide +kernel
theorem dX11_step_30 : decode cX11_step 30 = .ok (.aload_n 0, 1) := by decide +kernel
theorem dX11_step_31 : decode cX11_step 31 = .ok (.getfield 82, 3) := by decide +kernel
theorem dX11_step_34 : decode cX11_step 34 = .ok (.bipush 12, 2) := by decide +kernel
theorem dX11_step_36 : decode cX11_step 36 = .ok (.if_icmp .ne 6, 3) := by decide +kernel
theorem dX11_step_39 : decode cX11_step 39 = .ok (.bipush (-2), 2) := by decide +kernel
theorem dX11_step_41 : decode cX11_step 41 = .ok (.ireturn, 1) := by decide +kernel
theorem dX11_step_42 : decode cX11_step 42 = .ok (.aload_n 0, 1) := by decide +kernel
theorem dX11_step_43 : decode cX11_step 43 = .ok (.getfield 85, 3) := by decide +kernel
theorem dX11_step_46 : decode cX11_step 46 = .ok (.aload_n 0, 1) := by decide +kernel
theorem dX11_step_47 : decode cX11_step 47 = .ok (.getfield 82, 3) := by decide +kernel
theorem dX11_step_50 : decode cX11_step 50 = .ok (.iload_n 1, 1) := by decide +kernel
theorem dX11_step_51 : decode cX11_step 51 = .ok (.iastore, 1) := by decide +kernel
theorem dX11_step_52 : decode cX11_step 52 = .ok (.aload_n 0, 1) := by decide +kernel
theorem dX11_step_53 : decode cX11_step 53 = .ok (.getfield 88, 3) := by decide +kernel
theorem dX11_step_56 : decode cX11_step 56 = .ok (.aload_n 0, 1) := by decide +kernel
theorem dX11_step_57 : decode cX11_step 57 = .ok (.getfield 82, 3) := by decide +kernel
theorem dX11_step_60 : decode cX11_step 60 = .ok (.iload_n 2, 1) := by decide +kernel
theorem dX11_step_61 : decode cX11_step 61 = .ok (.iastore, 1) := by decide +kernel
theorem dX11_step_62 : decode cX11_step 62 = .ok (.aload_n 0, 1) := by decide +kernel
theorem dX11_step_63 : decode cX11_step 63 = .ok (.dup, 1) := by decide +kernel
theorem dX11_step_64 : decode cX11_step 64 = .ok (.getfield 82, 3) := by decide +kernel
theorem dX11_step_67 : decode cX11_step 67 = .ok (.iconst 1, 1) := by decide +kernel
theorem dX11_step_68 : decode cX11_step 68 = .ok (.iadd, 1) := by decide +kernel
theorem dX11_step_69 : decode cX11_step 69 = .ok (.putfield 82, 3) := by decide +kernel
theorem dX11_step_72 : decode cX11_step 72 = .ok (.aload_n 0, 1) := by decide +kernel
theorem dX11_step_73 : decode cX11_step 73 = .ok (.getfield 82, 3) := by decide +kernel
theorem dX11_step_76 : decode cX11_step 76 = .ok (.iconst 1, 1) := by decide +kernel
theorem dX11_step_77 : decode cX11_step 77 = .ok (.isub, 1) := by decide +kernel
theorem dX11_step_78 : decode cX11_step 78 = .ok (.ireturn, 1) := by decide +kernel
theorem dX11_work_0 : decode cX11_work 0 = .ok (.iload_n 1, 1) := by decide +kernel
theorem dX11_work_1 : decode cX11_work 1 = .ok (.istore_n 3, 1) := by decide +kernel
theorem dX11_work_2 : decode cX11_work 2 = .ok (.iconst 0, 1) := by decide +kernel
theorem dX11_work_3 : decode cX11_work 3 = .ok (.istore 4, 2) := by decide +kernel
theorem dX11_work_5 : decode cX11_work 5 = .ok (.iload 4, 2) := by decide +kernel
theorem dX11_work_7 : decode cX11_work 7 = .ok (.aload_n 0, 1) := by decide +kernel
theorem dX11_work_8 : decode cX11_work 8 = .ok (.getfield 82, 3) := by decide +kernel
theorem dX11_work_11 : decode cX11_work 11 = .ok (.if_icmp .ge 45, 3) := by decide +kernel
theorem dX11_work_14 : decode cX11_work 14 = .ok (.aload_n 0, 1) := by decide +kernel
theorem dX11_work_15 : decode cX11_work 15 = .ok (.getfield 85, 3) := by decide +kernel
theorem dX11_work_18 : decode cX11_work 18 = .ok (.iload 4, 2) := by decide +kernel
theorem dX11_work_20 : decode cX11_work 20 = .ok (.iaload, 1) := by decide +kernel
theorem dX11_work_21 : decode cX11_work 21 = .ok (.iload_n 2, 1) := by decide +kernel
theorem dX11_work_22 : decode cX11_work 22 = .ok (.ishr, 1) := by decide +kernel
theorem dX11_work_23 : decode cX11_work 23 = .ok (.iconst 1, 1) := by decide +kernel
theorem dX11_work_24 : decode cX11_work 24 = .ok (.iand, 1) := by decide +kernel
theorem dX11_work_25 : decode cX11_work 25 = .ok (.iconst 1, 1) := by decide +kernel
theorem dX11_work_26 : decode cX11_work 26 = .ok (.if_icmp .ne 24, 3) := by decide +kernel
theorem dX11_work_29 : decode cX11_work 29 = .ok (.aload_n 0, 1) := by decide +kernel
theorem dX11_work_30 : decode cX11_work 30 = .ok (.getfield 88, 3) := by decide +kernel
theorem dX11_work_33 : decode cX11_work 33 = .ok (.iload 4, 2) := by decide +kernel
theorem dX11_work_35 : decode cX11_work 35 = .ok (.iaload, 1) := by decide +kernel
theorem dX11_work_36 : decode cX11_work 36 = .ok (.iload_n 3, 1) := by decide +kernel
theorem dX11_work_37 : decode cX11_work 37 = .ok (.iconst (-1), 1) := by decide +kernel
theorem dX11_work_38 : decode cX11_work 38 = .ok (.ixor, 1) := by decide +kernel
theorem dX11_work_39 : decode cX11_work 39 = .ok (.iand, 1) := by decide +kernel
theorem dX11_work_40 : decode cX11_work 40 = .ok (.ifCond .ne 10, 3) := by decide +kernel
theorem dX11_work_43 : decode cX11_work 43 = .ok (.iload_n 3, 1) := by decide +kernel
theorem dX11_work_44 : decode cX11_work 44 = .ok (.iconst 1, 1) := by decide +kernel
theorem dX11_work_45 : decode cX11_work 45 = .ok (.iload 4, 2) := by decide +kernel
theorem dX11_work_47 : decode cX11_work 47 = .ok (.ishl, 1) := by decide +kernel
theorem dX11_work_48 : decode cX11_work 48 = .ok (.ior, 1) := by decide +kernel
theorem dX11_work_49 : decode cX11_work 49 = .ok (.istore_n 3, 1) := by decide +kernel
theorem dX11_work_50 : decode cX11_work 50 = .ok (.iinc 4 1, 3) := by decide +kernel
theorem dX11_work_53 : decode cX11_work 53 = .ok (.goto (-48), 3) := by decide +kernel
theorem dX11_work_56 : decode cX11_work 56 = .ok (.iload_n 3, 1) := by decide +kernel
theorem dX11_work_57 : decode cX11_work 57 = .ok (.ireturn, 1) := by decide +kernel
theorem dX11_findFewest_0 : decode cX11_findFewest 0 = .ok (.iconst 1, 1) := by decide +kernel
theorem dX11_findFewest_1 : decode cX11_findFewest 1 = .ok (.aload_n 0, 1) := by decide +kernel
theorem dX11_findFewest_2 : decode cX11_findFewest 2 = .ok (.getfield 82, 3) := by decide +kernel
theorem dX11_findFewest_5 : decode cX11_findFewest 5 = .ok (.ishl, 1) := by decide +kernel
theorem dX11_findFewest_6 : decode cX11_findFewest 6 = .ok (.iconst 1, 1) := by decide +kernel
theorem dX11_findFewest_7 : decode cX11_findFewest 7 = .ok (.isub, 1) := by decide +kernel
theorem dX11_findFewest_8 : decode cX11_findFewest 8 = .ok (.istore_n 1, 1) := by decide +kernel
theorem dX11_findFewest_9 : decode cX11_findFewest 9 = .ok (.aload_n 0, 1) := by decide +kernel
theorem dX11_findFewest_10 : decode cX11_findFewest 10 = .ok (.getfield 91, 3) := by decide +kernel
theorem dX11_findFewest_13 : decode cX11_findFewest 13 = .ok (.iload_n 1, 1) := by decide +kernel
theorem dX11_findFewest_14 : decode cX11_findFewest 14 = .ok (.iconst 0, 1) := by decide +kernel
theorem dX11_findFewest_15 : decode cX11_findFewest 15 = .ok (.iastore, 1) := by decide +kernel
theorem dX11_findFewest_16 : decode cX11_findFewest 16 = .ok (.iload_n 1, 1) := by decide +kernel
theorem dX11_findFewest_17 : decode cX11_findFewest 17 = .ok (.iconst 1, 1) := by decide +kernel
theorem dX11_findFewest_18 : decode cX11_findFewest 18 = .ok (.isub, 1) := by decide +kernel
theorem dX11_findFewest_19 : decode cX11_findFewest 19 = .ok (.istore_n 2, 1) := by decide +kernel
theorem dX11_findFewest_20 : decode cX11_findFewest 20 = .ok (.iload_n 2, 1) := by decide +kernel
theorem dX11_findFewest_21 : decode cX11_findFewest 21 = .ok (.ifCond .lt 78, 3) := by decide +kernel
theorem dX11_findFewest_24 : decode cX11_findFewest 24 = .ok (.aload_n 0, 1) := by decide +kernel
theorem dX11_findFewest_25 : decode cX11_findFewest 25 = .ok (.getfield 91, 3) := by decide +kernel
theorem dX11_findFewest_28 : decode cX11_findFewest 28 = .ok (.iload_n 2, 1) := by decide +kernel
theorem dX11_findFewest_29 : decode cX11_findFewest 29 = .ok (.bipush 99, 2) := by decide +kernel
theorem dX11_findFewest_31 : decode cX11_findFewest 31 = .ok (.iastore, 1) := by decide +kernel
theorem dX11_findFewest_32 : decode cX11_findFewest 32 = .ok (.iconst 0, 1) := by decide +kernel
theorem dX11_findFewest_33 : decode cX11_findFewest 33 = .ok (.istore_n 3, 1) := by decide +kernel
theorem dX11_findFewest_34 : decode cX11_findFewest 34 = .ok (.iload_n 3, 1) := by decide +kernel
theorem dX11_findFewest_35 : decode cX11_findFewest 35 = .ok (.bipush 6, 2) := by decide +kernel
theorem dX11_findFewest_37 : decode cX11_findFewest 37 = .ok (.if_icmp .ge 56, 3) := by decide +kernel
theorem dX11_findFewest_40 : decode cX11_findFewest 40 = .ok (.aload_n 0, 1) := by decide +kernel
theorem dX11_findFewest_41 : decode cX11_findFewest 41 = .ok (.iload_n 2, 1) := by decide +kernel
theorem dX11_findFewest_42 : decode cX11_findFewest 42 = .ok (.iload_n 3, 1) := by decide +kernel
theorem dX11_findFewest_43 : decode cX11_findFewest 43 = .ok (.invokevirtual 256, 3) := by decide +kernel
theorem dX11_findFewest_46 : decode cX11_findFewest 46 = .ok (.istore 4, 2) := by decide +kernel
theorem dX11_findFewest_48 : decode cX11_findFewest 48 = .ok (.iload 4, 2) := by decide +kernel
theorem dX11_findFewest_50 : decode cX11_findFewest 50 = .ok (.iload_n 2, 1) := by decide +kernel
theorem dX11_findFewest_51 : decode cX11_findFewest 51 = .ok (.if_icmp .eq 36, 3) := by decide +kernel
theorem dX11_findFewest_54 : decode cX11_findFewest 54 = .ok (.aload_n 0, 1) := by decide +kernel
theorem dX11_findFewest_55 : decode cX11_findFewest 55 = .ok (.getfield 91, 3) := by decide +kernel
theorem dX11_findFewest_58 : decode cX11_findFewest 58 = .ok (.iload 4, 2) := by decide +kernel
theorem dX11_findFewest_60 : decode cX11_findFewest 60 = .ok (.iaload, 1) := by decide +kernel
theorem dX11_findFewest_61 : decode cX11_findFewest 61 = .ok (.iconst 1, 1) := by decide +kernel
theorem dX11_findFewest_62 : decode cX11_findFewest 62 = .ok (.iadd, 1) := by decide +kernel
theorem dX11_findFewest_63 : decode cX11_findFewest 63 = .ok (.aload_n 0, 1) := by decide +kernel
theorem dX11_findFewest_64 : decode cX11_findFewest 64 = .ok (.getfield 91, 3) := by decide +kernel
theorem dX11_findFewest_67 : decode cX11_findFewest 67 = .ok (.iload_n 2, 1) := by decide +kernel
theorem dX11_findFewest_68 : decode cX11_findFewest 68 = .ok (.iaload, 1) := by decide +kernel
theorem dX11_findFewest_69 : decode cX11_findFewest 69 = .ok (.if_icmp .ge 18, 3) := by decide +kernel
theorem dX11_findFewest_72 : decode cX11_findFewest 72 = .ok (.aload_n 0, 1) := by decide +kernel
theorem dX11_findFewest_73 : decode cX11_findFewest 73 = .ok (.getfield 91, 3) := by decide +kernel
theorem dX11_findFewest_76 : decode cX11_findFewest 76 = .ok (.iload_n 2, 1) := by decide +kernel
theorem dX11_findFewest_77 : decode cX11_findFewest 77 = .ok (.aload_n 0, 1) := by decide +kernel
theorem dX11_findFewest_78 : decode cX11_findFewest 78 = .ok (.getfield 91, 3) := by decide +kernel
theorem dX11_findFewest_81 : decode cX11_findFewest 81 = .ok (.iload 4, 2) := by decide +kernel
theorem dX11_findFewest_83 : decode cX11_findFewest 83 = .ok (.iaload, 1) := by decide +kernel
theorem dX11_findFewest_84 : decode cX11_findFewest 84 = .ok (.iconst 1, 1) := by decide +kernel
theorem dX11_findFewest_85 : decode cX11_findFewest 85 = .ok (.iadd, 1) := by decide +kernel
theorem dX11_findFewest_86 : decode cX11_findFewest 86 = .ok (.iastore, 1) := by decide +kernel
theorem dX11_findFewest_87 : decode cX11_findFewest 87 = .ok (.iinc 3 1, 3) := by decide +kernel
theorem dX11_findFewest_90 : decode cX11_findFewest 90 = .ok (.goto (-56), 3) := by decide +kernel
theorem dX11_findFewest_93 : decode cX11_findFewest 93 = .ok (.iinc 2 (-1), 3) := by decide +kernel
theorem dX11_findFewest_96 : decode cX11_findFewest 96 = .ok (.goto (-76), 3) := by decide +kernel
theorem dX11_findFewest_99 : decode cX11_findFewest 99 = .ok (.return_, 1) := by decide +kernel
theorem dX11_setups_0 : decode cX11_setups 0 = .ok (.aload_n 0, 1) := by decide +kernel
theorem dX11_setups_1 : decode cX11_setups 1 = .ok (.invokevirtual 260, 3) := by decide +kernel
theorem dX11_setups_4 : decode cX11_setups 4 = .ok (.aload_n 0, 1) := by decide +kernel
theorem dX11_setups_5 : decode cX11_setups 5 = .ok (.getfield 91, 3) := by decide +kernel
theorem dX11_setups_8 : decode cX11_setups 8 = .ok (.iconst 0, 1) := by decide +kernel
theorem dX11_setups_9 : decode cX11_setups 9 = .ok (.iaload, 1) := by decide +kernel
theorem dX11_setups_10 : decode cX11_setups 10 = .ok (.ireturn, 1) := by decide +kernel
theorem dX11_sideFor_0 : decode cX11_sideFor 0 = .ok (.iconst 0, 1) := by decide +kernel
theorem dX11_sideFor_1 : decode cX11_sideFor 1 = .ok (.istore_n 2, 1) := by decide +kernel
theorem dX11_sideFor_2 : decode cX11_sideFor 2 = .ok (.aload_n 0, 1) := by decide +kernel
theorem dX11_sideFor_3 : decode cX11_sideFor 3 = .ok (.iload_n 1, 1) := by decide +kernel
theorem dX11_sideFor_4 : decode cX11_sideFor 4 = .ok (.iload_n 2, 1) := by decide +kernel
theorem dX11_sideFor_5 : decode cX11_sideFor 5 = .ok (.invokevirtual 256, 3) := by decide +kernel
theorem dX11_sideFor_8 : decode cX11_sideFor 8 = .ok (.iload_n 1, 1) := by decide +kernel
theorem dX11_sideFor_9 : decode cX11_sideFor 9 = .ok (.if_icmp .eq 25, 3) := by decide +kernel
theorem dX11_sideFor_12 : decode cX11_sideFor 12 = .ok (.aload_n 0, 1) := by decide +kernel
theorem dX11_sideFor_13 : decode cX11_sideFor 13 = .ok (.getfield 91, 3) := by decide +kernel
theorem dX11_sideFor_16 : decode cX11_sideFor 16 = .ok (.aload_n 0, 1) := by decide +kernel
theorem dX11_sideFor_17 : decode cX11_sideFor 17 = .ok (.iload_n 1, 1) := by decide +kernel
theorem dX11_sideFor_18 : decode cX11_sideFor 18 = .ok (.iload_n 2, 1) := by decide +kernel
theorem dX11_sideFor_19 : decode cX11_sideFor 19 = .ok (.invokevirtual 256, 3) := by decide +kernel
theorem dX11_sideFor_22 : decode cX11_sideFor 22 = .ok (.iaload, 1) := by decide +kernel
theorem dX11_sideFor_23 : decode cX11_sideFor 23 = .ok (.iconst 1, 1) := by decide +kernel
theorem dX11_sideFor_24 : decode cX11_sideFor 24 = .ok (.iadd, 1) := by decide +kernel
theorem dX11_sideFor_25 : decode cX11_sideFor 25 = .ok (.aload_n 0, 1) := by decide +kernel
theorem dX11_sideFor_26 : decode cX11_sideFor 26 = .ok (.getfield 91, 3) := by decide +kernel
theorem dX11_sideFor_29 : decode cX11_sideFor 29 = .ok (.iload_n 1, 1) := by decide +kernel
theorem dX11_sideFor_30 : decode cX11_sideFor 30 = .ok (.iaload, 1) := by decide +kernel
theorem dX11_sideFor_31 : decode cX11_sideFor 31 = .ok (.if_icmp .eq 9, 3) := by decide +kernel
theorem dX11_sideFor_34 : decode cX11_sideFor 34 = .ok (.iinc 2 1, 3) := by decide +kernel
theorem dX11_sideFor_37 : decode cX11_sideFor 37 = .ok (.goto (-35), 3) := by decide +kernel
theorem dX11_sideFor_40 : decode cX11_sideFor 40 = .ok (.iload_n 2, 1) := by decide +kernel
theorem dX11_sideFor_41 : decode cX11_sideFor 41 = .ok (.ireturn, 1) := by decide +kernel
theorem dX11_setup_0 : decode cX11_setup 0 = .ok (.iload_n 1, 1) := by decide +kernel
theorem dX11_setup_1 : decode cX11_setup 1 = .ok (.ifCond .lt 13, 3) := by decide +kernel
theorem dX11_setup_4 : decode cX11_setup 4 = .ok (.aload_n 0, 1) := by decide +kernel
theorem dX11_setup_5 : decode cX11_setup 5 = .ok (.iload_n 2, 1) := by decide +kernel
theorem dX11_setup_6 : decode cX11_setup 6 = .ok (.iconst 0, 1) := by decide +kernel
theorem dX11_setup_7 : decode cX11_setup 7 = .ok (.iconst 1, 1) := by decide +kernel
theorem dX11_setup_8 : decode cX11_setup 8 = .ok (.invokevirtual 130, 3) := by decide +kernel
theorem dX11_setup_11 : decode cX11_setup 11 = .ok (.ifCond .ne 5, 3) := by decide +kernel
theorem dX11_setup_14 : decode cX11_setup 14 = .ok (.iconst (-1), 1) := by decide +kernel
theorem dX11_setup_15 : decode cX11_setup 15 = .ok (.ireturn, 1) := by decide +kernel
theorem dX11_setup_16 : decode cX11_setup 16 = .ok (.aload_n 0, 1) := by decide +kernel
theorem dX11_setup_17 : decode cX11_setup 17 = .ok (.invokevirtual 260, 3) := by decide +kernel
theorem dX11_setup_20 : decode cX11_setup 20 = .ok (.iload_n 1, 1) := by decide +kernel
theorem dX11_setup_21 : decode cX11_setup 21 = .ok (.aload_n 0, 1) := by decide +kernel
theorem dX11_setup_22 : decode cX11_setup 22 = .ok (.getfield 91, 3) := by decide +kernel
theorem dX11_setup_25 : decode cX11_setup 25 = .ok (.iconst 0, 1) := by decide +kernel
theorem dX11_setup_26 : decode cX11_setup 26 = .ok (.iaload, 1) := by decide +kernel
theorem dX11_setup_27 : decode cX11_setup 27 = .ok (.if_icmp .lt 6, 3) := by decide +kernel
theorem dX11_setup_30 : decode cX11_setup 30 = .ok (.bipush (-3), 2) := by decide +kernel
theorem dX11_setup_32 : decode cX11_setup 32 = .ok (.ireturn, 1) := by decide +kernel
theorem dX11_setup_33 : decode cX11_setup 33 = .ok (.iconst 0, 1) := by decide +kernel
theorem dX11_setup_34 : decode cX11_setup 34 = .ok (.istore_n 3, 1) := by decide +kernel
theorem dX11_setup_35 : decode cX11_setup 35 = .ok (.iconst 0, 1) := by decide +kernel
theorem dX11_setup_36 : decode cX11_setup 36 = .ok (.istore 4, 2) := by decide +kernel
theorem dX11_setup_38 : decode cX11_setup 38 = .ok (.iload 4, 2) := by decide +kernel
theorem dX11_setup_40 : decode cX11_setup 40 = .ok (.iload_n 1, 1) := by decide +kernel
theorem dX11_setup_41 : decode cX11_setup 41 = .ok (.if_icmp .ge 20, 3) := by decide +kernel
theorem dX11_setup_44 : decode cX11_setup 44 = .ok (.aload_n 0, 1) := by decide +kernel
theorem dX11_setup_45 : decode cX11_setup 45 = .ok (.iload_n 3, 1) := by decide +kernel
theorem dX11_setup_46 : decode cX11_setup 46 = .ok (.aload_n 0, 1) := by decide +kernel
theorem dX11_setup_47 : decode cX11_setup 47 = .ok (.iload_n 3, 1) := by decide +kernel
theorem dX11_setup_48 : decode cX11_setup 48 = .ok (.invokevirtual 263, 3) := by decide +kernel
theorem dX11_setup_51 : decode cX11_setup 51 = .ok (.invokevirtual 256, 3) := by decide +kernel
theorem dX11_setup_54 : decode cX11_setup 54 = .ok (.istore_n 3, 1) := by decide +kernel
theorem dX11_setup_55 : decode cX11_setup 55 = .ok (.iinc 4 1, 3) := by decide +kernel
theorem dX11_setup_58 : decode cX11_setup 58 = .ok (.goto (-20), 3) := by decide +kernel
theorem dX11_setup_61 : decode cX11_setup 61 = .ok (.iload_n 2, 1) := by decide +kernel
theorem dX11_setup_62 : decode cX11_setup 62 = .ok (.ifCond .ne 11, 3) := by decide +kernel
theorem dX11_setup_65 : decode cX11_setup 65 = .ok (.aload_n 0, 1) := by decide +kernel
theorem dX11_setup_66 : decode cX11_setup 66 = .ok (.iload_n 3, 1) := by decide +kernel
theorem dX11_setup_67 : decode cX11_setup 67 = .ok (.invokevirtual 263, 3) := by decide +kernel
theorem dX11_setup_70 : decode cX11_setup 70 = .ok (.goto 17, 3) := by decide +kernel
theorem dX11_setup_73 : decode cX11_setup 73 = .ok (.aload_n 0, 1) := by decide +kernel
theorem dX11_setup_74 : decode cX11_setup 74 = .ok (.iload_n 3, 1) := by decide +kernel
theorem dX11_setup_75 : decode cX11_setup 75 = .ok (.aload_n 0, 1) := by decide +kernel
theorem dX11_setup_76 : decode cX11_setup 76 = .ok (.iload_n 3, 1) := by decide +kernel
theorem dX11_setup_77 : decode cX11_setup 77 = .ok (.invokevirtual 263, 3) := by decide +kernel
theorem dX11_setup_80 : decode cX11_setup 80 = .ok (.invokevirtual 256, 3) := by decide +kernel
theorem dX11_setup_83 : decode cX11_setup 83 = .ok (.iload_n 3, 1) := by decide +kernel
theorem dX11_setup_84 : decode cX11_setup 84 = .ok (.iconst (-1), 1) := by decide +kernel
theorem dX11_setup_85 : decode cX11_setup 85 = .ok (.ixor, 1) := by decide +kernel
theorem dX11_setup_86 : decode cX11_setup 86 = .ok (.iand, 1) := by decide +kernel
theorem dX11_setup_87 : decode cX11_setup 87 = .ok (.ireturn, 1) := by decide +kernel
theorem dX11_told_0 : decode cX11_told 0 = .ok (.iload_n 1, 1) := by decide +kernel
theorem dX11_told_1 : decode cX11_told 1 = .ok (.ifCond .lt 14, 3) := by decide +kernel
theorem dX11_told_4 : decode cX11_told 4 = .ok (.aload_n 0, 1) := by decide +kernel
theorem dX11_told_5 : decode cX11_told 5 = .ok (.iload_n 2, 1) := by decide +kernel
theorem dX11_told_6 : decode cX11_told 6 = .ok (.iconst 1, 1) := by decide +kernel
theorem dX11_told_7 : decode cX11_told 7 = .ok (.bipush 10, 2) := by decide +kernel
theorem dX11_told_9 : decode cX11_told 9 = .ok (.invokevirtual 130, 3) := by decide +kernel
theorem dX11_told_12 : decode cX11_told 12 = .ok (.ifCond .ne 5, 3) := by decide +kernel
theorem dX11_told_15 : decode cX11_told 15 = .ok (.iconst (-1), 1) := by decide +kernel
theorem dX11_told_16 : decode cX11_told 16 = .ok (.ireturn, 1) := by decide +kernel
theorem dX11_told_17 : decode cX11_told 17 = .ok (.iconst 1, 1) := by decide +kernel
theorem dX11_told_18 : decode cX11_told 18 = .ok (.istore_n 3, 1) := by decide +kernel
theorem dX11_told_19 : decode cX11_told 19 = .ok (.iconst 0, 1) := by decide +kernel
theorem dX11_told_20 : decode cX11_told 20 = .ok (.istore 4, 2) := by decide +kernel
theorem dX11_told_22 : decode cX11_told 22 = .ok (.iload 4, 2) := by decide +kernel
theorem dX11_told_24 : decode cX11_told 24 = .ok (.iload_n 2, 1) := by decide +kernel
theorem dX11_told_25 : decode cX11_told 25 = .ok (.if_icmp .ge 14, 3) := by decide +kernel
theorem dX11_told_28 : decode cX11_told 28 = .ok (.iload_n 3, 1) := by decide +kernel
theorem dX11_told_29 : decode cX11_told 29 = .ok (.bipush 6, 2) := by decide +kernel
theorem dX11_told_31 : decode cX11_told 31 = .ok (.imul, 1) := by decide +kernel
theorem dX11_told_32 : decode cX11_told 32 = .ok (.istore_n 3, 1) := by decide +kernel
theorem dX11_told_33 : decode cX11_told 33 = .ok (.iinc 4 1, 3) := by decide +kernel
theorem dX11_told_36 : decode cX11_told 36 = .ok (.goto (-14), 3) := by decide +kernel
theorem dX11_told_39 : decode cX11_told 39 = .ok (.iload_n 1, 1) := by decide +kernel
theorem dX11_told_40 : decode cX11_told 40 = .ok (.iload_n 3, 1) := by decide +kernel
theorem dX11_told_41 : decode cX11_told 41 = .ok (.if_icmp .lt 5, 3) := by decide +kernel
theorem dX11_told_44 : decode cX11_told 44 = .ok (.iconst (-1), 1) := by decide +kernel
theorem dX11_told_45 : decode cX11_told 45 = .ok (.ireturn, 1) := by decide +kernel
theorem dX11_told_46 : decode cX11_told 46 = .ok (.iconst 1, 1) := by decide +kernel
theorem dX11_told_47 : decode cX11_told 47 = .ok (.aload_n 0, 1) := by decide +kernel
theorem dX11_told_48 : decode cX11_told 48 = .ok (.getfield 82, 3) := by decide +kernel
theorem dX11_told_51 : decode cX11_told 51 = .ok (.ishl, 1) := by decide +kernel
theorem dX11_told_52 : decode cX11_told 52 = .ok (.iconst 1, 1) := by decide +kernel
theorem dX11_told_53 : decode cX11_told 53 = .ok (.isub, 1) := by decide +kernel
theorem dX11_told_54 : decode cX11_told 54 = .ok (.istore 4, 2) := by decide +kernel
theorem dX11_told_56 : decode cX11_told 56 = .ok (.iconst 0, 1) := by decide +kernel
theorem dX11_told_57 : decode cX11_told 57 = .ok (.istore 5, 2) := by decide +kernel
theorem dX11_told_59 : decode cX11_told 59 = .ok (.iload_n 1, 1) := by decide +kernel
theorem dX11_told_60 : decode cX11_told 60 = .ok (.istore 6, 2) := by decide +kernel
theorem dX11_told_62 : decode cX11_told 62 = .ok (.iconst 0, 1) := by decide +kernel
theorem dX11_told_63 : decode cX11_told 63 = .ok (.istore 7, 2) := by decide +kernel
theorem dX11_told_65 : decode cX11_told 65 = .ok (.iload 7, 2) := by decide +kernel
theorem dX11_told_67 : decode cX11_told 67 = .ok (.iload_n 2, 1) := by decide +kernel
theorem dX11_told_68 : decode cX11_told 68 = .ok (.if_icmp .ge 39, 3) := by decide +kernel
theorem dX11_told_71 : decode cX11_told 71 = .ok (.iload 5, 2) := by decide +kernel
theorem dX11_told_73 : decode cX11_told 73 = .ok (.iload 4, 2) := by decide +kernel
theorem dX11_told_75 : decode cX11_told 75 = .ok (.if_icmp .ne 6, 3) := by decide +kernel
theorem dX11_told_78 : decode cX11_told 78 = .ok (.iload 7, 2) := by decide +kernel
theorem dX11_told_80 : decode cX11_told 80 = .ok (.ireturn, 1) := by decide +kernel
theorem dX11_told_81 : decode cX11_told 81 = .ok (.aload_n 0, 1) := by decide +kernel
theorem dX11_told_82 : decode cX11_told 82 = .ok (.iload 5, 2) := by decide +kernel
theorem dX11_told_84 : decode cX11_told 84 = .ok (.iload 6, 2) := by decide +kernel
theorem dX11_told_86 : decode cX11_told 86 = .ok (.bipush 6, 2) := by decide +kernel
theorem dX11_told_88 : decode cX11_told 88 = .ok (.irem, 1) := by decide +kernel
theorem dX11_told_89 : decode cX11_told 89 = .ok (.invokevirtual 256, 3) := by decide +kernel
theorem dX11_told_92 : decode cX11_told 92 = .ok (.istore 5, 2) := by decide +kernel
theorem dX11_told_94 : decode cX11_told 94 = .ok (.iload 6, 2) := by decide +kernel
theorem dX11_told_96 : decode cX11_told 96 = .ok (.bipush 6, 2) := by decide +kernel
theorem dX11_told_98 : decode cX11_told 98 = .ok (.idiv, 1) := by decide +kernel
theorem dX11_told_99 : decode cX11_told 99 = .ok (.istore 6, 2) := by decide +kernel
theorem dX11_told_101 : decode cX11_told 101 = .ok (.iinc 7 1, 3) := by decide +kernel
theorem dX11_told_104 : decode cX11_told 104 = .ok (.goto (-39), 3) := by decide +kernel
theorem dX11_told_107 : decode cX11_told 107 = .ok (.iload 5, 2) := by decide +kernel
theorem dX11_told_109 : decode cX11_told 109 = .ok (.iload 4, 2) := by decide +kernel
theorem dX11_told_111 : decode cX11_told 111 = .ok (.if_icmp .ne 7, 3) := by decide +kernel
theorem dX11_told_114 : decode cX11_told 114 = .ok (.iload_n 2, 1) := by decide +kernel
theorem dX11_told_115 : decode cX11_told 115 = .ok (.goto 5, 3) := by decide +kernel
theorem dX11_told_118 : decode cX11_told 118 = .ok (.bipush (-4), 2) := by decide +kernel
theorem dX11_told_120 : decode cX11_told 120 = .ok (.ireturn, 1) := by decide +kernel
theorem dX11_point_0 : decode cX11_point 0 = .ok (.aload_n 0, 1) := by decide +kernel
theorem dX11_point_1 : decode cX11_point 1 = .ok (.iload_n 1, 1) := by decide +kernel
theorem dX11_point_2 : decode cX11_point 2 = .ok (.sipush (-200), 3) := by decide +kernel
theorem dX11_point_5 : decode cX11_point 5 = .ok (.sipush 200, 3) := by decide +kernel
theorem dX11_point_8 : decode cX11_point 8 = .ok (.invokevirtual 130, 3) := by decide +kernel
theorem dX11_point_11 : decode cX11_point 11 = .ok (.ifCond .eq 17, 3) := by decide +kernel
theorem dX11_point_14 : decode cX11_point 14 = .ok (.aload_n 0, 1) := by decide +kernel
theorem dX11_point_15 : decode cX11_point 15 = .ok (.iload_n 2, 1) := by decide +kernel
theorem dX11_point_16 : decode cX11_point 16 = .ok (.sipush (-200), 3) := by decide +kernel
theorem dX11_point_19 : decode cX11_point 19 = .ok (.sipush 200, 3) := by decide +kernel
theorem dX11_point_22 : decode cX11_point 22 = .ok (.invokevirtual 130, 3) := by decide +kernel
theorem dX11_point_25 : decode cX11_point 25 = .ok (.ifCond .ne 5, 3) := by decide +kernel
theorem dX11_point_28 : decode cX11_point 28 = .ok (.iconst (-1), 1) := by decide +kernel
theorem dX11_point_29 : decode cX11_point 29 = .ok (.ireturn, 1) := by decide +kernel
theorem dX11_point_30 : decode cX11_point 30 = .ok (.aload_n 0, 1) := by decide +kernel
theorem dX11_point_31 : decode cX11_point 31 = .ok (.getfield 94, 3) := by decide +kernel
theorem dX11_point_34 : decode cX11_point 34 = .ok (.bipush 40, 2) := by decide +kernel
theorem dX11_point_36 : decode cX11_point 36 = .ok (.if_icmp .ne 6, 3) := by decide +kernel
theorem dX11_point_39 : decode cX11_point 39 = .ok (.bipush (-2), 2) := by decide +kernel
theorem dX11_point_41 : decode cX11_point 41 = .ok (.ireturn, 1) := by decide +kernel
theorem dX11_point_42 : decode cX11_point 42 = .ok (.aload_n 0, 1) := by decide +kernel
theorem dX11_point_43 : decode cX11_point 43 = .ok (.getfield 100, 3) := by decide +kernel
theorem dX11_point_46 : decode cX11_point 46 = .ok (.aload_n 0, 1) := by decide +kernel
theorem dX11_point_47 : decode cX11_point 47 = .ok (.getfield 94, 3) := by decide +kernel
theorem dX11_point_50 : decode cX11_point 50 = .ok (.iload_n 1, 1) := by decide +kernel
theorem dX11_point_51 : decode cX11_point 51 = .ok (.iastore, 1) := by decide +kernel
theorem dX11_point_52 : decode cX11_point 52 = .ok (.aload_n 0, 1) := by decide +kernel
theorem dX11_point_53 : decode cX11_point 53 = .ok (.getfield 103, 3) := by decide +kernel
theorem dX11_point_56 : decode cX11_point 56 = .ok (.aload_n 0, 1) := by decide +kernel
theorem dX11_point_57 : decode cX11_point 57 = .ok (.getfield 94, 3) := by decide +kernel
theorem dX11_point_60 : decode cX11_point 60 = .ok (.iload_n 2, 1) := by decide +kernel
theorem dX11_point_61 : decode cX11_point 61 = .ok (.iastore, 1) := by decide +kernel
theorem dX11_point_62 : decode cX11_point 62 = .ok (.aload_n 0, 1) := by decide +kernel
theorem dX11_point_63 : decode cX11_point 63 = .ok (.dup, 1) := by decide +kernel
theorem dX11_point_64 : decode cX11_point 64 = .ok (.getfield 94, 3) := by decide +kernel
theorem dX11_point_67 : decode cX11_point 67 = .ok (.iconst 1, 1) := by decide +kernel
theorem dX11_point_68 : decode cX11_point 68 = .ok (.iadd, 1) := by decide +kernel
theorem dX11_point_69 : decode cX11_point 69 = .ok (.putfield 94, 3) := by decide +kernel
theorem dX11_point_72 : decode cX11_point 72 = .ok (.aload_n 0, 1) := by decide +kernel
theorem dX11_point_73 : decode cX11_point 73 = .ok (.getfield 94, 3) := by decide +kernel
theorem dX11_point_76 : decode cX11_point 76 = .ok (.ireturn, 1) := by decide +kernel
theorem dX11_tool_0 : decode cX11_tool 0 = .ok (.aload_n 0, 1) := by decide +kernel
theorem dX11_tool_1 : decode cX11_tool 1 = .ok (.iload_n 1, 1) := by decide +kernel
theorem dX11_tool_2 : decode cX11_tool 2 = .ok (.iconst 0, 1) := by decide +kernel
theorem dX11_tool_3 : decode cX11_tool 3 = .ok (.bipush 20, 2) := by decide +kernel
theorem dX11_tool_5 : decode cX11_tool 5 = .ok (.invokevirtual 130, 3) := by decide +kernel
theorem dX11_tool_8 : decode cX11_tool 8 = .ok (.ifCond .ne 5, 3) := by decide +kernel
theorem dX11_tool_11 : decode cX11_tool 11 = .ok (.iconst (-1), 1) := by decide +kernel
theorem dX11_tool_12 : decode cX11_tool 12 = .ok (.ireturn, 1) := by decide +kernel
theorem dX11_tool_13 : decode cX11_tool 13 = .ok (.aload_n 0, 1) := by decide +kernel
theorem dX11_tool_14 : decode cX11_tool 14 = .ok (.getfield 94, 3) := by decide +kernel
theorem dX11_tool_17 : decode cX11_tool 17 = .ok (.istore_n 2, 1) := by decide +kernel
theorem dX11_tool_18 : decode cX11_tool 18 = .ok (.aload_n 0, 1) := by decide +kernel
theorem dX11_tool_19 : decode cX11_tool 19 = .ok (.iconst 0, 1) := by decide +kernel
theorem dX11_tool_20 : decode cX11_tool 20 = .ok (.putfield 94, 3) := by decide +kernel
theorem dX11_tool_23 : decode cX11_tool 23 = .ok (.aload_n 0, 1) := by decide +kernel
theorem dX11_tool_24 : decode cX11_tool 24 = .ok (.iload_n 1, 1) := by decide +kernel
theorem dX11_tool_25 : decode cX11_tool 25 = .ok (.putfield 97, 3) := by decide +kernel
theorem dX11_tool_28 : decode cX11_tool 28 = .ok (.iload_n 2, 1) := by decide +kernel
theorem dX11_tool_29 : decode cX11_tool 29 = .ok (.ireturn, 1) := by decide +kernel
theorem dX11_isNear_0 : decode cX11_isNear 0 = .ok (.aload_n 0, 1) := by decide +kernel
theorem dX11_isNear_1 : decode cX11_isNear 1 = .ok (.getfield 97, 3) := by decide +kernel
theorem dX11_isNear_4 : decode cX11_isNear 4 = .ok (.aload_n 0, 1) := by decide +kernel
theorem dX11_isNear_5 : decode cX11_isNear 5 = .ok (.getfield 32, 3) := by decide +kernel
theorem dX11_isNear_8 : decode cX11_isNear 8 = .ok (.iload_n 1, 1) := by decide +kernel
theorem dX11_isNear_9 : decode cX11_isNear 9 = .ok (.iaload, 1) := by decide +kernel
theorem dX11_isNear_10 : decode cX11_isNear 10 = .ok (.iadd, 1) := by decide +kernel
theorem dX11_isNear_11 : decode cX11_isNear 11 = .ok (.i2l, 1) := by decide +kernel
theorem dX11_isNear_12 : decode cX11_isNear 12 = .ok (.lstore 4, 2) := by decide +kernel
theorem dX11_isNear_14 : decode cX11_isNear 14 = .ok (.aload_n 0, 1) := by decide +kernel
theorem dX11_isNear_15 : decode cX11_isNear 15 = .ok (.getfield 23, 3) := by decide +kernel
theorem dX11_isNear_18 : decode cX11_isNear 18 = .ok (.iload_n 1, 1) := by decide +kernel
theorem dX11_isNear_19 : decode cX11_isNear 19 = .ok (.iaload, 1) := by decide +kernel
theorem dX11_isNear_20 : decode cX11_isNear 20 = .ok (.aload_n 0, 1) := by decide +kernel
theorem dX11_isNear_21 : decode cX11_isNear 21 = .ok (.getfield 100, 3) := by decide +kernel
theorem dX11_isNear_24 : decode cX11_isNear 24 = .ok (.iload_n 2, 1) := by decide +kernel
theorem dX11_isNear_25 : decode cX11_isNear 25 = .ok (.iaload, 1) := by decide +kernel
theorem dX11_isNear_26 : decode cX11_isNear 26 = .ok (.isub, 1) := by decide +kernel
theorem dX11_isNear_27 : decode cX11_isNear 27 = .ok (.i2l, 1) := by decide +kernel
theorem dX11_isNear_28 : decode cX11_isNear 28 = .ok (.lstore 6, 2) := by decide +kernel
theorem dX11_isNear_30 : decode cX11_isNear 30 = .ok (.aload_n 0, 1) := by decide +kernel
theorem dX11_isNear_31 : decode cX11_isNear 31 = .ok (.getfield 26, 3) := by decide +kernel
theorem dX11_isNear_34 : decode cX11_isNear 34 = .ok (.iload_n 1, 1) := by decide +kernel
theorem dX11_isNear_35 : decode cX11_isNear 35 = .ok (.iaload, 1) := by decide +kernel
theorem dX11_isNear_36 : decode cX11_isNear 36 = .ok (.aload_n 0, 1) := by decide +kernel
theorem dX11_isNear_37 : decode cX11_isNear 37 = .ok (.getfield 103, 3) := by decide +kernel
theorem dX11_isNear_40 : decode cX11_isNear 40 = .ok (.iload_n 2, 1) := by decide +kernel
theorem dX11_isNear_41 : decode cX11_isNear 41 = .ok (.iaload, 1) := by decide +kernel
theorem dX11_isNear_42 : decode cX11_isNear 42 = .ok (.isub, 1) := by decide +kernel
theorem dX11_isNear_43 : decode cX11_isNear 43 = .ok (.i2l, 1) := by decide +kernel
theorem dX11_isNear_44 : decode cX11_isNear 44 = .ok (.lstore 8, 2) := by decide +kernel
theorem dX11_isNear_46 : decode cX11_isNear 46 = .ok (.aload_n 0, 1) := by decide +kernel
theorem dX11_isNear_47 : decode cX11_isNear 47 = .ok (.getfield 100, 3) := by decide +kernel
theorem dX11_isNear_50 : decode cX11_isNear 50 = .ok (.iload_n 3, 1) := by decide +kernel
theorem dX11_isNear_51 : decode cX11_isNear 51 = .ok (.iaload, 1) := by decide +kernel
theorem dX11_isNear_52 : decode cX11_isNear 52 = .ok (.aload_n 0, 1) := by decide +kernel
theorem dX11_isNear_53 : decode cX11_isNear 53 = .ok (.getfield 100, 3) := by decide +kernel
theorem dX11_isNear_56 : decode cX11_isNear 56 = .ok (.iload_n 2, 1) := by decide +kernel
theorem dX11_isNear_57 : decode cX11_isNear 57 = .ok (.iaload, 1) := by decide +kernel
theorem dX11_isNear_58 : decode cX11_isNear 58 = .ok (.isub, 1) := by decide +kernel
theorem dX11_isNear_59 : decode cX11_isNear 59 = .ok (.i2l, 1) := by decide +kernel
theorem dX11_isNear_60 : decode cX11_isNear 60 = .ok (.lstore 10, 2) := by decide +kernel
theorem dX11_isNear_62 : decode cX11_isNear 62 = .ok (.aload_n 0, 1) := by decide +kernel
theorem dX11_isNear_63 : decode cX11_isNear 63 = .ok (.getfield 103, 3) := by decide +kernel
theorem dX11_isNear_66 : decode cX11_isNear 66 = .ok (.iload_n 3, 1) := by decide +kernel
theorem dX11_isNear_67 : decode cX11_isNear 67 = .ok (.iaload, 1) := by decide +kernel
theorem dX11_isNear_68 : decode cX11_isNear 68 = .ok (.aload_n 0, 1) := by decide +kernel
theorem dX11_isNear_69 : decode cX11_isNear 69 = .ok (.getfield 103, 3) := by decide +kernel
theorem dX11_isNear_72 : decode cX11_isNear 72 = .ok (.iload_n 2, 1) := by decide +kernel
theorem dX11_isNear_73 : decode cX11_isNear 73 = .ok (.iaload, 1) := by decide +kernel
theorem dX11_isNear_74 : decode cX11_isNear 74 = .ok (.isub, 1) := by decide +kernel
theorem dX11_isNear_75 : decode cX11_isNear 75 = .ok (.i2l, 1) := by decide +kernel
theorem dX11_isNear_76 : decode cX11_isNear 76 = .ok (.lstore 12, 2) := by decide +kernel
theorem dX11_isNear_78 : decode cX11_isNear 78 = .ok (.lload 6, 2) := by decide +kernel
theorem dX11_isNear_80 : decode cX11_isNear 80 = .ok (.lload 10, 2) := by decide +kernel
theorem dX11_isNear_82 : decode cX11_isNear 82 = .ok (.lmul, 1) := by decide +kernel
theorem dX11_isNear_83 : decode cX11_isNear 83 = .ok (.lload 8, 2) := by decide +kernel
theorem dX11_isNear_85 : decode cX11_isNear 85 = .ok (.lload 12, 2) := by decide +kernel
theorem dX11_isNear_87 : decode cX11_isNear 87 = .ok (.lmul, 1) := by decide +kernel
theorem dX11_isNear_88 : decode cX11_isNear 88 = .ok (.ladd, 1) := by decide +kernel
theorem dX11_isNear_89 : decode cX11_isNear 89 = .ok (.lstore 14, 2) := by decide +kernel
theorem dX11_isNear_91 : decode cX11_isNear 91 = .ok (.lload 10, 2) := by decide +kernel
theorem dX11_isNear_93 : decode cX11_isNear 93 = .ok (.lload 10, 2) := by decide +kernel
theorem dX11_isNear_95 : decode cX11_isNear 95 = .ok (.lmul, 1) := by decide +kernel
theorem dX11_isNear_96 : decode cX11_isNear 96 = .ok (.lload 12, 2) := by decide +kernel
theorem dX11_isNear_98 : decode cX11_isNear 98 = .ok (.lload 12, 2) := by decide +kernel
theorem dX11_isNear_100 : decode cX11_isNear 100 = .ok (.lmul, 1) := by decide +kernel
theorem dX11_isNear_101 : decode cX11_isNear 101 = .ok (.ladd, 1) := by decide +kernel
theorem dX11_isNear_102 : decode cX11_isNear 102 = .ok (.lstore 16, 2) := by decide +kernel
theorem dX11_isNear_104 : decode cX11_isNear 104 = .ok (.lload 14, 2) := by decide +kernel
theorem dX11_isNear_106 : decode cX11_isNear 106 = .ok (.lconst 0, 1) := by decide +kernel
theorem dX11_isNear_107 : decode cX11_isNear 107 = .ok (.lcmp, 1) := by decide +kernel
theorem dX11_isNear_108 : decode cX11_isNear 108 = .ok (.ifCond .gt 29, 3) := by decide +kernel
theorem dX11_isNear_111 : decode cX11_isNear 111 = .ok (.lload 6, 2) := by decide +kernel
theorem dX11_isNear_113 : decode cX11_isNear 113 = .ok (.lload 6, 2) := by decide +kernel
theorem dX11_isNear_115 : decode cX11_isNear 115 = .ok (.lmul, 1) := by decide +kernel
theorem dX11_isNear_116 : decode cX11_isNear 116 = .ok (.lload 8, 2) := by decide +kernel
theorem dX11_isNear_118 : decode cX11_isNear 118 = .ok (.lload 8, 2) := by decide +kernel
theorem dX11_isNear_120 : decode cX11_isNear 120 = .ok (.lmul, 1) := by decide +kernel
theorem dX11_isNear_121 : decode cX11_isNear 121 = .ok (.ladd, 1) := by decide +kernel
theorem dX11_isNear_122 : decode cX11_isNear 122 = .ok (.lload 4, 2) := by decide +kernel
theorem dX11_isNear_124 : decode cX11_isNear 124 = .ok (.lload 4, 2) := by decide +kernel
theorem dX11_isNear_126 : decode cX11_isNear 126 = .ok (.lmul, 1) := by decide +kernel
theorem dX11_isNear_127 : decode cX11_isNear 127 = .ok (.lcmp, 1) := by decide +kernel
theorem dX11_isNear_128 : decode cX11_isNear 128 = .ok (.ifCond .ge 7, 3) := by decide +kernel
theorem dX11_isNear_131 : decode cX11_isNear 131 = .ok (.iconst 1, 1) := by decide +kernel
theorem dX11_isNear_132 : decode cX11_isNear 132 = .ok (.goto 4, 3) := by decide +kernel
theorem dX11_isNear_135 : decode cX11_isNear 135 = .ok (.iconst 0, 1) := by decide +kernel
theorem dX11_isNear_136 : decode cX11_isNear 136 = .ok (.ireturn, 1) := by decide +kernel
theorem dX11_isNear_137 : decode cX11_isNear 137 = .ok (.lload 14, 2) := by decide +kernel
theorem dX11_isNear_139 : decode cX11_isNear 139 = .ok (.lload 16, 2) := by decide +kernel
theorem dX11_isNear_141 : decode cX11_isNear 141 = .ok (.lcmp, 1) := by decide +kernel
theorem dX11_isNear_142 : decode cX11_isNear 142 = .ok (.ifCond .lt 41, 3) := by decide +kernel
theorem dX11_isNear_145 : decode cX11_isNear 145 = .ok (.lload 6, 2) := by decide +kernel
theorem dX11_isNear_147 : decode cX11_isNear 147 = .ok (.lload 10, 2) := by decide +kernel
theorem dX11_isNear_149 : decode cX11_isNear 149 = .ok (.lsub, 1) := by decide +kernel
theorem dX11_isNear_150 : decode cX11_isNear 150 = .ok (.lload 6, 2) := by decide +kernel
theorem dX11_isNear_152 : decode cX11_isNear 152 = .ok (.lload 10, 2) := by decide +kernel
theorem dX11_isNear_154 : decode cX11_isNear 154 = .ok (.lsub, 1) := by decide +kernel
theorem dX11_isNear_155 : decode cX11_isNear 155 = .ok (.lmul, 1) := by decide +kernel
theorem dX11_isNear_156 : decode cX11_isNear 156 = .ok (.lload 8, 2) := by decide +kernel
theorem dX11_isNear_158 : decode cX11_isNear 158 = .ok (.lload 12, 2) := by decide +kernel
theorem dX11_isNear_160 : decode cX11_isNear 160 = .ok (.lsub, 1) := by decide +kernel
theorem dX11_isNear_161 : decode cX11_isNear 161 = .ok (.lload 8, 2) := by decide +kernel
theorem dX11_isNear_163 : decode cX11_isNear 163 = .ok (.lload 12, 2) := by decide +kernel
theorem dX11_isNear_165 : decode cX11_isNear 165 = .ok (.lsub, 1) := by decide +kernel
theorem dX11_isNear_166 : decode cX11_isNear 166 = .ok (.lmul, 1) := by decide +kernel
theorem dX11_isNear_167 : decode cX11_isNear 167 = .ok (.ladd, 1) := by decide +kernel
theorem dX11_isNear_168 : decode cX11_isNear 168 = .ok (.lload 4, 2) := by decide +kernel
theorem dX11_isNear_170 : decode cX11_isNear 170 = .ok (.lload 4, 2) := by decide +kernel
theorem dX11_isNear_172 : decode cX11_isNear 172 = .ok (.lmul, 1) := by decide +kernel
theorem dX11_isNear_173 : decode cX11_isNear 173 = .ok (.lcmp, 1) := by decide +kernel
theorem dX11_isNear_174 : decode cX11_isNear 174 = .ok (.ifCond .ge 7, 3) := by decide +kernel
theorem dX11_isNear_177 : decode cX11_isNear 177 = .ok (.iconst 1, 1) := by decide +kernel
theorem dX11_isNear_178 : decode cX11_isNear 178 = .ok (.goto 4, 3) := by decide +kernel
theorem dX11_isNear_181 : decode cX11_isNear 181 = .ok (.iconst 0, 1) := by decide +kernel
theorem dX11_isNear_182 : decode cX11_isNear 182 = .ok (.ireturn, 1) := by decide +kernel
theorem dX11_isNear_183 : decode cX11_isNear 183 = .ok (.lload 10, 2) := by decide +kernel
theorem dX11_isNear_185 : decode cX11_isNear 185 = .ok (.lload 8, 2) := by decide +kernel
theorem dX11_isNear_187 : decode cX11_isNear 187 = .ok (.lmul, 1) := by decide +kernel
theorem dX11_isNear_188 : decode cX11_isNear 188 = .ok (.lload 12, 2) := by decide +kernel
theorem dX11_isNear_190 : decode cX11_isNear 190 = .ok (.lload 6, 2) := by decide +kernel
theorem dX11_isNear_192 : decode cX11_isNear 192 = .ok (.lmul, 1) := by decide +kernel
theorem dX11_isNear_193 : decode cX11_isNear 193 = .ok (.lsub, 1) := by decide +kernel
theorem dX11_isNear_194 : decode cX11_isNear 194 = .ok (.lstore 18, 2) := by decide +kernel
theorem dX11_isNear_196 : decode cX11_isNear 196 = .ok (.lload 18, 2) := by decide +kernel
theorem dX11_isNear_198 : decode cX11_isNear 198 = .ok (.lload 18, 2) := by decide +kernel
theorem dX11_isNear_200 : decode cX11_isNear 200 = .ok (.lmul, 1) := by decide +kernel
theorem dX11_isNear_201 : decode cX11_isNear 201 = .ok (.lload 4, 2) := by decide +kernel
theorem dX11_isNear_203 : decode cX11_isNear 203 = .ok (.lload 4, 2) := by decide +kernel
theorem dX11_isNear_205 : decode cX11_isNear 205 = .ok (.lmul, 1) := by decide +kernel
theorem dX11_isNear_206 : decode cX11_isNear 206 = .ok (.lload 16, 2) := by decide +kernel
theorem dX11_isNear_208 : decode cX11_isNear 208 = .ok (.lmul, 1) := by decide +kernel
theorem dX11_isNear_209 : decode cX11_isNear 209 = .ok (.lcmp, 1) := by decide +kernel
theorem dX11_isNear_210 : decode cX11_isNear 210 = .ok (.ifCond .ge 7, 3) := by decide +kernel
theorem dX11_isNear_213 : decode cX11_isNear 213 = .ok (.iconst 1, 1) := by decide +kernel
theorem dX11_isNear_214 : decode cX11_isNear 214 = .ok (.goto 4, 3) := by decide +kernel
theorem dX11_isNear_217 : decode cX11_isNear 217 = .ok (.iconst 0, 1) := by decide +kernel
theorem dX11_isNear_218 : decode cX11_isNear 218 = .ok (.ireturn, 1) := by decide +kernel
theorem dX11_firstMeeting_0 : decode cX11_firstMeeting 0 = .ok (.aload_n 0, 1) := by decide +kernel
theorem dX11_firstMeeting_1 : decode cX11_firstMeeting 1 = .ok (.getfield 94, 3) := by decide +kernel
theorem dX11_firstMeeting_4 : decode cX11_firstMeeting 4 = .ok (.iconst 1, 1) := by decide +kernel
theorem dX11_firstMeeting_5 : decode cX11_firstMeeting 5 = .ok (.if_icmp .ne 20, 3) := by decide +kernel
theorem dX11_firstMeeting_8 : decode cX11_firstMeeting 8 = .ok (.aload_n 0, 1) := by decide +kernel
theorem dX11_firstMeeting_9 : decode cX11_firstMeeting 9 = .ok (.iload_n 1, 1) := by decide +kernel
theorem dX11_firstMeeting_10 : decode cX11_firstMeeting 10 = .ok (.iconst 0, 1) := by decide +kernel
theorem dX11_firstMeeting_11 : decode cX11_firstMeeting 11 = .ok (.iconst 0, 1) := by decide +kernel
theorem dX11_firstMeeting_12 : decode cX11_firstMeeting 12 = .ok (.invokevirtual 266, 3) := by decide +kernel
theorem dX11_firstMeeting_15 : decode cX11_firstMeeting 15 = .ok (.ifCond .eq 7, 3) := by decide +kernel
theorem dX11_firstMeeting_18 : decode cX11_firstMeeting 18 = .ok (.iconst 0, 1) := by decide +kernel
theorem dX11_firstMeeting_19 : decode cX11_firstMeeting 19 = .ok (.goto 5, 3) := by decide +kernel
theorem dX11_firstMeeting_22 : decode cX11_firstMeeting 22 = .ok (.bipush (-2), 2) := by decide +kernel
theorem dX11_firstMeeting_24 : decode cX11_firstMeeting 24 = .ok (.ireturn, 1) := by decide +kernel
theorem dX11_firstMeeting_25 : decode cX11_firstMeeting 25 = .ok (.iconst 0, 1) := by decide +kernel
theorem dX11_firstMeeting_26 : decode cX11_firstMeeting 26 = .ok (.istore_n 2, 1) := by decide +kernel
theorem dX11_firstMeeting_27 : decode cX11_firstMeeting 27 = .ok (.iload_n 2, 1) := by decide +kernel
theorem dX11_firstMeeting_28 : decode cX11_firstMeeting 28 = .ok (.aload_n 0, 1) := by decide +kernel
theorem dX11_firstMeeting_29 : decode cX11_firstMeeting 29 = .ok (.getfield 94, 3) := by decide +kernel
theorem dX11_firstMeeting_32 : decode cX11_firstMeeting 32 = .ok (.iconst 1, 1) := by decide +kernel
theorem dX11_firstMeeting_33 : decode cX11_firstMeeting 33 = .ok (.isub, 1) := by decide +kernel
theorem dX11_firstMeeting_34 : decode cX11_firstMeeting 34 = .ok (.if_icmp .ge 23, 3) := by decide +kernel
theorem dX11_firstMeeting_37 : decode cX11_firstMeeting 37 = .ok (.aload_n 0, 1) := by decide +kernel
theorem dX11_firstMeeting_38 : decode cX11_firstMeeting 38 = .ok (.iload_n 1, 1) := by decide +kernel
theorem dX11_firstMeeting_39 : decode cX11_firstMeeting 39 = .ok (.iload_n 2, 1) := by decide +kernel
theorem dX11_firstMeeting_40 : decode cX11_firstMeeting 40 = .ok (.iload_n 2, 1) := by decide +kernel
theorem dX11_firstMeeting_41 : decode cX11_firstMeeting 41 = .ok (.iconst 1, 1) := by decide +kernel
theorem dX11_firstMeeting_42 : decode cX11_firstMeeting 42 = .ok (.iadd, 1) := by decide +kernel
theorem dX11_firstMeeting_43 : decode cX11_firstMeeting 43 = .ok (.invokevirtual 266, 3) := by decide +kernel
theorem dX11_firstMeeting_46 : decode cX11_firstMeeting 46 = .ok (.ifCond .eq 5, 3) := by decide +kernel
theorem dX11_firstMeeting_49 : decode cX11_firstMeeting 49 = .ok (.iload_n 2, 1) := by decide +kernel
theorem dX11_firstMeeting_50 : decode cX11_firstMeeting 50 = .ok (.ireturn, 1) := by decide +kernel
theorem dX11_firstMeeting_51 : decode cX11_firstMeeting 51 = .ok (.iinc 2 1, 3) := by decide +kernel
theorem dX11_firstMeeting_54 : decode cX11_firstMeeting 54 = .ok (.goto (-27), 3) := by decide +kernel
theorem dX11_firstMeeting_57 : decode cX11_firstMeeting 57 = .ok (.bipush (-2), 2) := by decide +kernel
theorem dX11_firstMeeting_59 : decode cX11_firstMeeting 59 = .ok (.ireturn, 1) := by decide +kernel
theorem dX11_meets_0 : decode cX11_meets 0 = .ok (.aload_n 0, 1) := by decide +kernel
theorem dX11_meets_1 : decode cX11_meets 1 = .ok (.iload_n 1, 1) := by decide +kernel
theorem dX11_meets_2 : decode cX11_meets 2 = .ok (.invokevirtual 142, 3) := by decide +kernel
theorem dX11_meets_5 : decode cX11_meets 5 = .ok (.ifCond .ne 5, 3) := by decide +kernel
theorem dX11_meets_8 : decode cX11_meets 8 = .ok (.iconst (-1), 1) := by decide +kernel
theorem dX11_meets_9 : decode cX11_meets 9 = .ok (.ireturn, 1) := by decide +kernel
theorem dX11_meets_10 : decode cX11_meets 10 = .ok (.aload_n 0, 1) := by decide +kernel
theorem dX11_meets_11 : decode cX11_meets 11 = .ok (.getfield 94, 3) := by decide +kernel
theorem dX11_meets_14 : decode cX11_meets 14 = .ok (.ifCond .ne 8, 3) := by decide +kernel
theorem dX11_meets_17 : decode cX11_meets 17 = .ok (.bipush (-3), 2) := by decide +kernel
theorem dX11_meets_19 : decode cX11_meets 19 = .ok (.goto 8, 3) := by decide +kernel
theorem dX11_meets_22 : decode cX11_meets 22 = .ok (.aload_n 0, 1) := by decide +kernel
theorem dX11_meets_23 : decode cX11_meets 23 = .ok (.iload_n 1, 1) := by decide +kernel
theorem dX11_meets_24 : decode cX11_meets 24 = .ok (.invokevirtual 269, 3) := by decide +kernel
theorem dX11_meets_27 : decode cX11_meets 27 = .ok (.ireturn, 1) := by decide +kernel
theorem dX11_met_0 : decode cX11_met 0 = .ok (.aload_n 0, 1) := by decide +kernel
theorem dX11_met_1 : decode cX11_met 1 = .ok (.getfield 94, 3) := by decide +kernel
theorem dX11_met_4 : decode cX11_met 4 = .ok (.ifCond .ne 6, 3) := by decide +kernel
theorem dX11_met_7 : decode cX11_met 7 = .ok (.bipush (-3), 2) := by decide +kernel
theorem dX11_met_9 : decode cX11_met 9 = .ok (.ireturn, 1) := by decide +kernel
theorem dX11_met_10 : decode cX11_met 10 = .ok (.iconst 0, 1) := by decide +kernel
theorem dX11_met_11 : decode cX11_met 11 = .ok (.istore_n 1, 1) := by decide +kernel
theorem dX11_met_12 : decode cX11_met 12 = .ok (.iconst 0, 1) := by decide +kernel
theorem dX11_met_13 : decode cX11_met 13 = .ok (.istore_n 2, 1) := by decide +kernel
theorem dX11_met_14 : decode cX11_met 14 = .ok (.iload_n 2, 1) := by decide +kernel
theorem dX11_met_15 : decode cX11_met 15 = .ok (.aload_n 0, 1) := by decide +kernel
theorem dX11_met_16 : decode cX11_met 16 = .ok (.getfield 13, 3) := by decide +kernel
theorem dX11_met_19 : decode cX11_met 19 = .ok (.if_icmp .ge 27, 3) := by decide +kernel
theorem dX11_met_22 : decode cX11_met 22 = .ok (.iload_n 1, 1) := by decide +kernel
theorem dX11_met_23 : decode cX11_met 23 = .ok (.aload_n 0, 1) := by decide +kernel
theorem dX11_met_24 : decode cX11_met 24 = .ok (.iload_n 2, 1) := by decide +kernel
theorem dX11_met_25 : decode cX11_met 25 = .ok (.invokevirtual 269, 3) := by decide +kernel
theorem dX11_met_28 : decode cX11_met 28 = .ok (.ifCond .lt 9, 3) := by decide +kernel
theorem dX11_met_31 : decode cX11_met 31 = .ok (.iconst 1, 1) := by decide +kernel
theorem dX11_met_32 : decode cX11_met 32 = .ok (.iload_n 2, 1) := by decide +kernel
theorem dX11_met_33 : decode cX11_met 33 = .ok (.ishl, 1) := by decide +kernel
theorem dX11_met_34 : decode cX11_met 34 = .ok (.goto 4, 3) := by decide +kernel
theorem dX11_met_37 : decode cX11_met 37 = .ok (.iconst 0, 1) := by decide +kernel
theorem dX11_met_38 : decode cX11_met 38 = .ok (.ior, 1) := by decide +kernel
theorem dX11_met_39 : decode cX11_met 39 = .ok (.istore_n 1, 1) := by decide +kernel
theorem dX11_met_40 : decode cX11_met 40 = .ok (.iinc 2 1, 3) := by decide +kernel
theorem dX11_met_43 : decode cX11_met 43 = .ok (.goto (-29), 3) := by decide +kernel
theorem dX11_met_46 : decode cX11_met 46 = .ok (.iload_n 1, 1) := by decide +kernel
theorem dX11_met_47 : decode cX11_met 47 = .ok (.ireturn, 1) := by decide +kernel
theorem dX11_count_0 : decode cX11_count 0 = .ok (.iload_n 1, 1) := by decide +kernel
theorem dX11_count_1 : decode cX11_count 1 = .ok (.ifCond .ne 10, 3) := by decide +kernel
theorem dX11_count_4 : decode cX11_count 4 = .ok (.aload_n 0, 1) := by decide +kernel
theorem dX11_count_5 : decode cX11_count 5 = .ok (.getfield 13, 3) := by decide +kernel
theorem dX11_count_8 : decode cX11_count 8 = .ok (.goto 52, 3) := by decide +kernel
theorem dX11_count_11 : decode cX11_count 11 = .ok (.iload_n 1, 1) := by decide +kernel
theorem dX11_count_12 : decode cX11_count 12 = .ok (.iconst 1, 1) := by decide +kernel
theorem dX11_count_13 : decode cX11_count 13 = .ok (.if_icmp .ne 10, 3) := by decide +kernel
theorem dX11_count_16 : decode cX11_count 16 = .ok (.aload_n 0, 1) := by decide +kernel
theorem dX11_count_17 : decode cX11_count 17 = .ok (.getfield 63, 3) := by decide +kernel
theorem dX11_count_20 : decode cX11_count 20 = .ok (.goto 40, 3) := by decide +kernel
theorem dX11_count_23 : decode cX11_count 23 = .ok (.iload_n 1, 1) := by decide +kernel
theorem dX11_count_24 : decode cX11_count 24 = .ok (.iconst 2, 1) := by decide +kernel
theorem dX11_count_25 : decode cX11_count 25 = .ok (.if_icmp .ne 10, 3) := by decide +kernel
theorem dX11_count_28 : decode cX11_count 28 = .ok (.aload_n 0, 1) := by decide +kernel
theorem dX11_count_29 : decode cX11_count 29 = .ok (.getfield 82, 3) := by decide +kernel
theorem dX11_count_32 : decode cX11_count 32 = .ok (.goto 28, 3) := by decide +kernel
theorem dX11_count_35 : decode cX11_count 35 = .ok (.iload_n 1, 1) := by decide +kernel
theorem dX11_count_36 : decode cX11_count 36 = .ok (.iconst 3, 1) := by decide +kernel
theorem dX11_count_37 : decode cX11_count 37 = .ok (.if_icmp .ne 10, 3) := by decide +kernel
theorem dX11_count_40 : decode cX11_count 40 = .ok (.aload_n 0, 1) := by decide +kernel
theorem dX11_count_41 : decode cX11_count 41 = .ok (.getfield 94, 3) := by decide +kernel
theorem dX11_count_44 : decode cX11_count 44 = .ok (.goto 16, 3) := by decide +kernel
theorem dX11_count_47 : decode cX11_count 47 = .ok (.iload_n 1, 1) := by decide +kernel
theorem dX11_count_48 : decode cX11_count 48 = .ok (.iconst 4, 1) := by decide +kernel
theorem dX11_count_49 : decode cX11_count 49 = .ok (.if_icmp .ne 10, 3) := by decide +kernel
theorem dX11_count_52 : decode cX11_count 52 = .ok (.aload_n 0, 1) := by decide +kernel
theorem dX11_count_53 : decode cX11_count 53 = .ok (.getfield 97, 3) := by decide +kernel
theorem dX11_count_56 : decode cX11_count 56 = .ok (.goto 4, 3) := by decide +kernel
theorem dX11_count_59 : decode cX11_count 59 = .ok (.iconst (-1), 1) := by decide +kernel
theorem dX11_count_60 : decode cX11_count 60 = .ok (.ireturn, 1) := by decide +kernel
theorem dX11_isShelf_0 : decode cX11_isShelf 0 = .ok (.aload_n 0, 1) := by decide +kernel
theorem dX11_isShelf_1 : decode cX11_isShelf 1 = .ok (.iload_n 1, 1) := by decide +kernel
theorem dX11_isShelf_2 : decode cX11_isShelf 2 = .ok (.iconst 0, 1) := by decide +kernel
theorem dX11_isShelf_3 : decode cX11_isShelf 3 = .ok (.bipush 7, 2) := by decide +kernel
theorem dX11_isShelf_5 : decode cX11_isShelf 5 = .ok (.invokevirtual 130, 3) := by decide +kernel
theorem dX11_isShelf_8 : decode cX11_isShelf 8 = .ok (.ireturn, 1) := by decide +kernel
theorem dX11_wipe_0 : decode cX11_wipe 0 = .ok (.iconst 0, 1) := by decide +kernel
theorem dX11_wipe_1 : decode cX11_wipe 1 = .ok (.istore_n 2, 1) := by decide +kernel
theorem dX11_wipe_2 : decode cX11_wipe 2 = .ok (.iload_n 2, 1) := by decide +kernel
theorem dX11_wipe_3 : decode cX11_wipe 3 = .ok (.bipush 60, 2) := by decide +kernel
theorem dX11_wipe_5 : decode cX11_wipe 5 = .ok (.if_icmp .ge 21, 3) := by decide +kernel
theorem dX11_wipe_8 : decode cX11_wipe 8 = .ok (.aload_n 0, 1) := by decide +kernel
theorem dX11_wipe_9 : decode cX11_wipe 9 = .ok (.getfield 124, 3) := by decide +kernel
theorem dX11_wipe_12 : decode cX11_wipe 12 = .ok (.bipush 60, 2) := by decide +kernel
theorem dX11_wipe_14 : decode cX11_wipe 14 = .ok (.iload_n 1, 1) := by decide +kernel
theorem dX11_wipe_15 : decode cX11_wipe 15 = .ok (.imul, 1) := by decide +kernel
theorem dX11_wipe_16 : decode cX11_wipe 16 = .ok (.iload_n 2, 1) := by decide +kernel
theorem dX11_wipe_17 : decode cX11_wipe 17 = .ok (.iadd, 1) := by decide +kernel
theorem dX11_wipe_18 : decode cX11_wipe 18 = .ok (.iconst 0, 1) := by decide +kernel
theorem dX11_wipe_19 : decode cX11_wipe 19 = .ok (.iastore, 1) := by decide +kernel
theorem dX11_wipe_20 : decode cX11_wipe 20 = .ok (.iinc 2 1, 3) := by decide +kernel
theorem dX11_wipe_23 : decode cX11_wipe 23 = .ok (.goto (-21), 3) := by decide +kernel
theorem dX11_wipe_26 : decode cX11_wipe 26 = .ok (.return_, 1) := by decide +kernel
theorem dX11_keep_0 : decode cX11_keep 0 = .ok (.aload_n 0, 1) := by decide +kernel
theorem dX11_keep_1 : decode cX11_keep 1 = .ok (.iload_n 1, 1) := by decide +kernel
theorem dX11_keep_2 : decode cX11_keep 2 = .ok (.invokevirtual 272, 3) := by decide +kernel
theorem dX11_keep_5 : decode cX11_keep 5 = .ok (.ifCond .eq 34, 3) := by decide +kernel
theorem dX11_keep_8 : decode cX11_keep 8 = .ok (.iload_n 2, 1) := by decide +kernel
theorem dX11_keep_9 : decode cX11_keep 9 = .ok (.ifCond .eq 26, 3) := by decide +kernel
theorem dX11_keep_12 : decode cX11_keep 12 = .ok (.iload_n 2, 1) := by decide +kernel
theorem dX11_keep_13 : decode cX11_keep 13 = .ok (.iconst 3, 1) := by decide +kernel
theorem dX11_keep_14 : decode cX11_keep 14 = .ok (.if_icmp .eq 21, 3) := by decide +kernel
theorem dX11_keep_17 : decode cX11_keep 17 = .ok (.iload_n 2, 1) := by decide +kernel
theorem dX11_keep_18 : decode cX11_keep 18 = .ok (.iconst 4, 1) := by decide +kernel
theorem dX11_keep_19 : decode cX11_keep 19 = .ok (.if_icmp .eq 16, 3) := by decide +kernel
theorem dX11_keep_22 : decode cX11_keep 22 = .ok (.iload_n 2, 1) := by decide +kernel
theorem dX11_keep_23 : decode cX11_keep 23 = .ok (.iconst 1, 1) := by decide +kernel
theorem dX11_keep_24 : decode cX11_keep 24 = .ok (.if_icmp .ne 15, 3) := by decide +kernel
theorem dX11_keep_27 : decode cX11_keep 27 = .ok (.aload_n 0, 1) := by decide +kernel
theorem dX11_keep_28 : decode cX11_keep 28 = .ok (.iload_n 3, 1) := by decide +kernel
theorem dX11_keep_29 : decode cX11_keep 29 = .ok (.invokevirtual 142, 3) := by decide +kernel
theorem dX11_keep_32 : decode cX11_keep 32 = .ok (.ifCond .eq 7, 3) := by decide +kernel
theorem dX11_keep_35 : decode cX11_keep 35 = .ok (.iconst 1, 1) := by decide +kernel
theorem dX11_keep_36 : decode cX11_keep 36 = .ok (.goto 4, 3) := by decide +kernel
theorem dX11_keep_39 : decode cX11_keep 39 = .ok (.iconst 0, 1) := by decide +kernel
theorem dX11_keep_40 : decode cX11_keep 40 = .ok (.istore 4, 2) := by decide +kernel
theorem dX11_keep_42 : decode cX11_keep 42 = .ok (.iload 4, 2) := by decide +kernel
theorem dX11_keep_44 : decode cX11_keep 44 = .ok (.ifCond .ne 5, 3) := by decide +kernel
theorem dX11_keep_47 : decode cX11_keep 47 = .ok (.iconst (-1), 1) := by decide +kernel
theorem dX11_keep_48 : decode cX11_keep 48 = .ok (.ireturn, 1) := by decide +kernel
theorem dX11_keep_49 : decode cX11_keep 49 = .ok (.aload_n 0, 1) := by decide +kernel
theorem dX11_keep_50 : decode cX11_keep 50 = .ok (.getfield 106, 3) := by decide +kernel
theorem dX11_keep_53 : decode cX11_keep 53 = .ok (.iload_n 1, 1) := by decide +kernel
theorem dX11_keep_54 : decode cX11_keep 54 = .ok (.iload_n 2, 1) := by decide +kernel
theorem dX11_keep_55 : decode cX11_keep 55 = .ok (.iastore, 1) := by decide +kernel
theorem dX11_keep_56 : decode cX11_keep 56 = .ok (.aload_n 0, 1) := by decide +kernel
theorem dX11_keep_57 : decode cX11_keep 57 = .ok (.iload_n 1, 1) := by decide +kernel
theorem dX11_keep_58 : decode cX11_keep 58 = .ok (.invokevirtual 275, 3) := by decide +kernel
theorem dX11_keep_61 : decode cX11_keep 61 = .ok (.iload_n 2, 1) := by decide +kernel
theorem dX11_keep_62 : decode cX11_keep 62 = .ok (.iconst 1, 1) := by decide +kernel
theorem dX11_keep_63 : decode cX11_keep 63 = .ok (.if_icmp .ne 46, 3) := by decide +kernel
theorem dX11_keep_66 : decode cX11_keep 66 = .ok (.aload_n 0, 1) := by decide +kernel
theorem dX11_keep_67 : decode cX11_keep 67 = .ok (.getfield 109, 3) := by decide +kernel
theorem dX11_keep_70 : decode cX11_keep 70 = .ok (.iload_n 1, 1) := by decide +kernel
theorem dX11_keep_71 : decode cX11_keep 71 = .ok (.iload_n 3, 1) := by decide +kernel
theorem dX11_keep_72 : decode cX11_keep 72 = .ok (.iastore, 1) := by decide +kernel
theorem dX11_keep_73 : decode cX11_keep 73 = .ok (.aload_n 0, 1) := by decide +kernel
theorem dX11_keep_74 : decode cX11_keep 74 = .ok (.getfield 112, 3) := by decide +kernel
theorem dX11_keep_77 : decode cX11_keep 77 = .ok (.iload_n 1, 1) := by decide +kernel
theorem dX11_keep_78 : decode cX11_keep 78 = .ok (.aload_n 0, 1) := by decide +kernel
theorem dX11_keep_79 : decode cX11_keep 79 = .ok (.getfield 16, 3) := by decide +kernel
theorem dX11_keep_82 : decode cX11_keep 82 = .ok (.iload_n 3, 1) := by decide +kernel
theorem dX11_keep_83 : decode cX11_keep 83 = .ok (.iaload, 1) := by decide +kernel
theorem dX11_keep_84 : decode cX11_keep 84 = .ok (.iastore, 1) := by decide +kernel
theorem dX11_keep_85 : decode cX11_keep 85 = .ok (.aload_n 0, 1) := by decide +kernel
theorem dX11_keep_86 : decode cX11_keep 86 = .ok (.getfield 115, 3) := by decide +kernel
theorem dX11_keep_89 : decode cX11_keep 89 = .ok (.iload_n 1, 1) := by decide +kernel
theorem dX11_keep_90 : decode cX11_keep 90 = .ok (.aload_n 0, 1) := by decide +kernel
theorem dX11_keep_91 : decode cX11_keep 91 = .ok (.getfield 29, 3) := by decide +kernel
theorem dX11_keep_94 : decode cX11_keep 94 = .ok (.iload_n 3, 1) := by decide +kernel
theorem dX11_keep_95 : decode cX11_keep 95 = .ok (.iaload, 1) := by decide +kernel
theorem dX11_keep_96 : decode cX11_keep 96 = .ok (.iastore, 1) := by decide +kernel
theorem dX11_keep_97 : decode cX11_keep 97 = .ok (.aload_n 0, 1) := by decide +kernel
theorem dX11_keep_98 : decode cX11_keep 98 = .ok (.getfield 118, 3) := by decide +kernel
theorem dX11_keep_101 : decode cX11_keep 101 = .ok (.iload_n 1, 1) := by decide +kernel
theorem dX11_keep_102 : decode cX11_keep 102 = .ok (.aload_n 0, 1) := by decide +kernel
theorem dX11_keep_103 : decode cX11_keep 103 = .ok (.getfield 32, 3) := by decide +kernel
theorem dX11_keep_106 : decode cX11_keep 106 = .ok (.iload_n 3, 1) := by decide +kernel
theorem dX11_keep_107 : decode cX11_keep 107 = .ok (.iaload, 1) := by decide +kernel
theorem dX11_keep_108 : decode cX11_keep 108 = .ok (.iastore, 1) := by decide +kernel
theorem dX11_keep_109 : decode cX11_keep 109 = .ok (.aload_n 0, 1) := by decide +kernel
theorem dX11_keep_110 : decode cX11_keep 110 = .ok (.getfield 121, 3) := by decide +kernel
theorem dX11_keep_113 : decode cX11_keep 113 = .ok (.iload_n 1, 1) := by decide +kernel
theorem dX11_keep_114 : decode cX11_keep 114 = .ok (.iload_n 2, 1) := by decide +kernel
theorem dX11_keep_115 : decode cX11_keep 115 = .ok (.iconst 3, 1) := by decide +kernel
theorem dX11_keep_116 : decode cX11_keep 116 = .ok (.if_icmp .ne 12, 3) := by decide +kernel
theorem dX11_keep_119 : decode cX11_keep 119 = .ok (.iconst 3, 1) := by decide +kernel
theorem dX11_keep_120 : decode cX11_keep 120 = .ok (.aload_n 0, 1) := by decide +kernel
theorem dX11_keep_121 : decode cX11_keep 121 = .ok (.getfield 13, 3) := by decide +kernel
theorem dX11_keep_124 : decode cX11_keep 124 = .ok (.imul, 1) := by decide +kernel
theorem dX11_keep_125 : decode cX11_keep 125 = .ok (.goto 4, 3) := by decide +kernel
theorem dX11_keep_128 : decode cX11_keep 128 = .ok (.iconst 0, 1) := by decide +kernel
theorem dX11_keep_129 : decode cX11_keep 129 = .ok (.iastore, 1) := by decide +kernel
theorem dX11_keep_130 : decode cX11_keep 130 = .ok (.iconst 0, 1) := by decide +kernel
theorem dX11_keep_131 : decode cX11_keep 131 = .ok (.istore 5, 2) := by decide +kernel
theorem dX11_keep_133 : decode cX11_keep 133 = .ok (.iload 5, 2) := by decide +kernel
theorem dX11_keep_135 : decode cX11_keep 135 = .ok (.iconst 3, 1) := by decide +kernel
theorem dX11_keep_136 : decode cX11_keep 136 = .ok (.aload_n 0, 1) := by decide +kernel
theorem dX11_keep_137 : decode cX11_keep 137 = .ok (.getfield 13, 3) := by decide +kernel
theorem dX11_keep_140 : decode cX11_keep 140 = .ok (.imul, 1) := by decide +kernel
theorem dX11_keep_141 : decode cX11_keep 141 = .ok (.if_icmp .ge 39, 3) := by decide +kernel
theorem dX11_keep_144 : decode cX11_keep 144 = .ok (.iload_n 2, 1) := by decide +kernel
theorem dX11_keep_145 : decode cX11_keep 145 = .ok (.iconst 3, 1) := by decide +kernel
theorem dX11_keep_146 : decode cX11_keep 146 = .ok (.if_icmp .ne 34, 3) := by decide +kernel
theorem dX11_keep_149 : decode cX11_keep 149 = .ok (.aload_n 0, 1) := by decide +kernel
theorem dX11_keep_150 : decode cX11_keep 150 = .ok (.getfield 124, 3) := by decide +kernel
theorem dX11_keep_153 : decode cX11_keep 153 = .ok (.bipush 60, 2) := by decide +kernel
theorem dX11_keep_155 : decode cX11_keep 155 = .ok (.iload_n 1, 1) := by decide +kernel
theorem dX11_keep_156 : decode cX11_keep 156 = .ok (.imul, 1) := by decide +kernel
theorem dX11_keep_157 : decode cX11_keep 157 = .ok (.iload 5, 2) := by decide +kernel
theorem dX11_keep_159 : decode cX11_keep 159 = .ok (.iadd, 1) := by decide +kernel
theorem dX11_keep_160 : decode cX11_keep 160 = .ok (.aload_n 0, 1) := by decide +kernel
theorem dX11_keep_161 : decode cX11_keep 161 = .ok (.iload 5, 2) := by decide +kernel
theorem dX11_keep_163 : decode cX11_keep 163 = .ok (.iconst 3, 1) := by decide +kernel
theorem dX11_keep_164 : decode cX11_keep 164 = .ok (.idiv, 1) := by decide +kernel
theorem dX11_keep_165 : decode cX11_keep 165 = .ok (.iload 5, 2) := by decide +kernel
theorem dX11_keep_167 : decode cX11_keep 167 = .ok (.iconst 3, 1) := by decide +kernel
theorem dX11_keep_168 : decode cX11_keep 168 = .ok (.irem, 1) := by decide +kernel
theorem dX11_keep_169 : decode cX11_keep 169 = .ok (.invokevirtual 161, 3) := by decide +kernel
theorem dX11_keep_172 : decode cX11_keep 172 = .ok (.l2i, 1) := by decide +kernel
theorem dX11_keep_173 : decode cX11_keep 173 = .ok (.iastore, 1) := by decide +kernel
theorem dX11_keep_174 : decode cX11_keep 174 = .ok (.iinc 5 1, 3) := by decide +kernel
theorem dX11_keep_177 : decode cX11_keep 177 = .ok (.goto (-44), 3) := by decide +kernel
theorem dX11_keep_180 : decode cX11_keep 180 = .ok (.iload_n 2, 1) := by decide +kernel
theorem dX11_keep_181 : decode cX11_keep 181 = .ok (.iconst 4, 1) := by decide +kernel
theorem dX11_keep_182 : decode cX11_keep 182 = .ok (.if_icmp .eq 5, 3) := by decide +kernel
theorem dX11_keep_185 : decode cX11_keep 185 = .ok (.iconst 0, 1) := by decide +kernel
theorem dX11_keep_186 : decode cX11_keep 186 = .ok (.ireturn, 1) := by decide +kernel
theorem dX11_keep_187 : decode cX11_keep 187 = .ok (.aload_n 0, 1) := by decide +kernel
theorem dX11_keep_188 : decode cX11_keep 188 = .ok (.invokevirtual 260, 3) := by decide +kernel
theorem dX11_keep_191 : decode cX11_keep 191 = .ok (.aload_n 0, 1) := by decide +kernel
theorem dX11_keep_192 : decode cX11_keep 192 = .ok (.getfield 121, 3) := by decide +kernel
theorem dX11_keep_195 : decode cX11_keep 195 = .ok (.iload_n 1, 1) := by decide +kernel
theorem dX11_keep_196 : decode cX11_keep 196 = .ok (.aload_n 0, 1) := by decide +kernel
theorem dX11_keep_197 : decode cX11_keep 197 = .ok (.getfield 91, 3) := by decide +kernel
theorem dX11_keep_200 : decode cX11_keep 200 = .ok (.iconst 0, 1) := by decide +kernel
theorem dX11_keep_201 : decode cX11_keep 201 = .ok (.iaload, 1) := by decide +kernel
theorem dX11_keep_202 : decode cX11_keep 202 = .ok (.iastore, 1) := by decide +kernel
theorem dX11_keep_203 : decode cX11_keep 203 = .ok (.iconst 0, 1) := by decide +kernel
theorem dX11_keep_204 : decode cX11_keep 204 = .ok (.istore 5, 2) := by decide +kernel
theorem dX11_keep_206 : decode cX11_keep 206 = .ok (.iconst 0, 1) := by decide +kernel
theorem dX11_keep_207 : decode cX11_keep 207 = .ok (.istore 6, 2) := by decide +kernel
theorem dX11_keep_209 : decode cX11_keep 209 = .ok (.iload 6, 2) := by decide +kernel
theorem dX11_keep_211 : decode cX11_keep 211 = .ok (.aload_n 0, 1) := by decide +kernel
theorem dX11_keep_212 : decode cX11_keep 212 = .ok (.getfield 91, 3) := by decide +kernel
theorem dX11_keep_215 : decode cX11_keep 215 = .ok (.iconst 0, 1) := by decide +kernel
theorem dX11_keep_216 : decode cX11_keep 216 = .ok (.iaload, 1) := by decide +kernel
theorem dX11_keep_217 : decode cX11_keep 217 = .ok (.if_icmp .ge 41, 3) := by decide +kernel
theorem dX11_keep_220 : decode cX11_keep 220 = .ok (.aload_n 0, 1) := by decide +kernel
theorem dX11_keep_221 : decode cX11_keep 221 = .ok (.getfield 124, 3) := by decide +kernel
theorem dX11_keep_224 : decode cX11_keep 224 = .ok (.bipush 60, 2) := by decide +kernel
theorem dX11_keep_226 : decode cX11_keep 226 = .ok (.iload_n 1, 1) := by decide +kernel
theorem dX11_keep_227 : decode cX11_keep 227 = .ok (.imul, 1) := by decide +kernel
theorem dX11_keep_228 : decode cX11_keep 228 = .ok (.iload 6, 2) := by decide +kernel
theorem dX11_keep_230 : decode cX11_keep 230 = .ok (.iadd, 1) := by decide +kernel
theorem dX11_keep_231 : decode cX11_keep 231 = .ok (.aload_n 0, 1) := by decide +kernel
theorem dX11_keep_232 : decode cX11_keep 232 = .ok (.iload 5, 2) := by decide +kernel
theorem dX11_keep_234 : decode cX11_keep 234 = .ok (.invokevirtual 263, 3) := by decide +kernel
theorem dX11_keep_237 : decode cX11_keep 237 = .ok (.iastore, 1) := by decide +kernel
theorem dX11_keep_238 : decode cX11_keep 238 = .ok (.aload_n 0, 1) := by decide +kernel
theorem dX11_keep_239 : decode cX11_keep 239 = .ok (.iload 5, 2) := by decide +kernel
theorem dX11_keep_241 : decode cX11_keep 241 = .ok (.aload_n 0, 1) := by decide +kernel
theorem dX11_keep_242 : decode cX11_keep 242 = .ok (.iload 5, 2) := by decide +kernel
theorem dX11_keep_244 : decode cX11_keep 244 = .ok (.invokevirtual 263, 3) := by decide +kernel
theorem dX11_keep_247 : decode cX11_keep 247 = .ok (.invokevirtual 256, 3) := by decide +kernel
theorem dX11_keep_250 : decode cX11_keep 250 = .ok (.istore 5, 2) := by decide +kernel
theorem dX11_keep_252 : decode cX11_keep 252 = .ok (.iinc 6 1, 3) := by decide +kernel
theorem dX11_keep_255 : decode cX11_keep 255 = .ok (.goto (-46), 3) := by decide +kernel
theorem dX11_keep_258 : decode cX11_keep 258 = .ok (.iconst 0, 1) := by decide +kernel
theorem dX11_keep_259 : decode cX11_keep 259 = .ok (.ireturn, 1) := by decide +kernel
theorem dX11_make_0 : decode cX11_make 0 = .ok (.aload_n 0, 1) := by decide +kernel
theorem dX11_make_1 : decode cX11_make 1 = .ok (.iload_n 1, 1) := by decide +kernel
theorem dX11_make_2 : decode cX11_make 2 = .ok (.invokevirtual 272, 3) := by decide +kernel
theorem dX11_make_5 : decode cX11_make 5 = .ok (.ifCond .eq 19, 3) := by decide +kernel
theorem dX11_make_8 : decode cX11_make 8 = .ok (.aload_n 0, 1) := by decide +kernel
theorem dX11_make_9 : decode cX11_make 9 = .ok (.iload_n 2, 1) := by decide +kernel
theorem dX11_make_10 : decode cX11_make 10 = .ok (.iconst 3, 1) := by decide +kernel
theorem dX11_make_11 : decode cX11_make 11 = .ok (.iconst 4, 1) := by decide +kernel
theorem dX11_make_12 : decode cX11_make 12 = .ok (.invokevirtual 130, 3) := by decide +kernel
theorem dX11_make_15 : decode cX11_make 15 = .ok (.ifCond .eq 9, 3) := by decide +kernel
theorem dX11_make_18 : decode cX11_make 18 = .ok (.iload_n 3, 1) := by decide +kernel
theorem dX11_make_19 : decode cX11_make 19 = .ok (.bipush 60, 2) := by decide +kernel
theorem dX11_make_21 : decode cX11_make 21 = .ok (.if_icmp .le 5, 3) := by decide +kernel
theorem dX11_make_24 : decode cX11_make 24 = .ok (.iconst (-1), 1) := by decide +kernel
theorem dX11_make_25 : decode cX11_make 25 = .ok (.ireturn, 1) := by decide +kernel
theorem dX11_make_26 : decode cX11_make 26 = .ok (.iload_n 3, 1) := by decide +kernel
theorem dX11_make_27 : decode cX11_make 27 = .ok (.ifCond .ge 6, 3) := by decide +kernel
theorem dX11_make_30 : decode cX11_make 30 = .ok (.bipush (-14), 2) := by decide +kernel
theorem dX11_make_32 : decode cX11_make 32 = .ok (.ireturn, 1) := by decide +kernel
theorem dX11_make_33 : decode cX11_make 33 = .ok (.aload_n 0, 1) := by decide +kernel
theorem dX11_make_34 : decode cX11_make 34 = .ok (.getfield 106, 3) := by decide +kernel
theorem dX11_make_37 : decode cX11_make 37 = .ok (.iload_n 1, 1) := by decide +kernel
theorem dX11_make_38 : decode cX11_make 38 = .ok (.iload_n 2, 1) := by decide +kernel
theorem dX11_make_39 : decode cX11_make 39 = .ok (.iastore, 1) := by decide +kernel
theorem dX11_make_40 : decode cX11_make 40 = .ok (.aload_n 0, 1) := by decide +kernel
theorem dX11_make_41 : decode cX11_make 41 = .ok (.getfield 121, 3) := by decide +kernel
theorem dX11_make_44 : decode cX11_make 44 = .ok (.iload_n 1, 1) := by decide +kernel
theorem dX11_make_45 : decode cX11_make 45 = .ok (.iload_n 3, 1) := by decide +kernel
theorem dX11_make_46 : decode cX11_make 46 = .ok (.iastore, 1) := by decide +kernel
theorem dX11_make_47 : decode cX11_make 47 = .ok (.aload_n 0, 1) := by decide +kernel
theorem dX11_make_48 : decode cX11_make 48 = .ok (.iload_n 1, 1) := by decide +kernel
theorem dX11_make_49 : decode cX11_make 49 = .ok (.invokevirtual 275, 3) := by decide +kernel
theorem dX11_make_52 : decode cX11_make 52 = .ok (.iconst 0, 1) := by decide +kernel
theorem dX11_make_53 : decode cX11_make 53 = .ok (.ireturn, 1) := by decide +kernel
theorem dX11_element_0 : decode cX11_element 0 = .ok (.aload_n 0, 1) := by decide +kernel
theorem dX11_element_1 : decode cX11_element 1 = .ok (.aload_n 0, 1) := by decide +kernel
theorem dX11_element_2 : decode cX11_element 2 = .ok (.iload_n 1, 1) := by decide +kernel
theorem dX11_element_3 : decode cX11_element 3 = .ok (.invokevirtual 272, 3) := by decide +kernel
theorem dX11_element_6 : decode cX11_element 6 = .ok (.ifCond .ne 7, 3) := by decide +kernel
theorem dX11_element_9 : decode cX11_element 9 = .ok (.iconst 1, 1) := by decide +kernel
theorem dX11_element_10 : decode cX11_element 10 = .ok (.goto 35, 3) := by decide +kernel
theorem dX11_element_13 : decode cX11_element 13 = .ok (.aload_n 0, 1) := by decide +kernel
theorem dX11_element_14 : decode cX11_element 14 = .ok (.getfield 106, 3) := by decide +kernel
theorem dX11_element_17 : decode cX11_element 17 = .ok (.iload_n 1, 1) := by decide +kernel
theorem dX11_element_18 : decode cX11_element 18 = .ok (.iaload, 1) := by decide +kernel
theorem dX11_element_19 : decode cX11_element 19 = .ok (.iconst 3, 1) := by decide +kernel
theorem dX11_element_20 : decode cX11_element 20 = .ok (.if_icmp .lt 20, 3) := by decide +kernel
theorem dX11_element_23 : decode cX11_element 23 = .ok (.aload_n 0, 1) := by decide +kernel
theorem dX11_element_24 : decode cX11_element 24 = .ok (.iload_n 2, 1) := by decide +kernel
theorem dX11_element_25 : decode cX11_element 25 = .ok (.iconst 0, 1) := by decide +kernel
theorem dX11_element_26 : decode cX11_element 26 = .ok (.aload_n 0, 1) := by decide +kernel
theorem dX11_element_27 : decode cX11_element 27 = .ok (.getfield 121, 3) := by decide +kernel
theorem dX11_element_30 : decode cX11_element 30 = .ok (.iload_n 1, 1) := by decide +kernel
theorem dX11_element_31 : decode cX11_element 31 = .ok (.iaload, 1) := by decide +kernel
theorem dX11_element_32 : decode cX11_element 32 = .ok (.iconst 1, 1) := by decide +kernel
theorem dX11_element_33 : decode cX11_element 33 = .ok (.isub, 1) := by decide +kernel
theorem dX11_element_34 : decode cX11_element 34 = .ok (.invokevirtual 130, 3) := by decide +kernel
theorem dX11_element_37 : decode cX11_element 37 = .ok (.ifCond .ne 7, 3) := by decide +kernel
theorem dX11_element_40 : decode cX11_element 40 = .ok (.iconst 2, 1) := by decide +kernel
theorem dX11_element_41 : decode cX11_element 41 = .ok (.goto 4, 3) := by decide +kernel
theorem dX11_element_44 : decode cX11_element 44 = .ok (.iconst 0, 1) := by decide +kernel
theorem dX11_element_45 : decode cX11_element 45 = .ok (.putfield 7, 3) := by decide +kernel
theorem dX11_element_48 : decode cX11_element 48 = .ok (.aload_n 0, 1) := by decide +kernel
theorem dX11_element_49 : decode cX11_element 49 = .ok (.getfield 7, 3) := by decide +kernel
theorem dX11_element_52 : decode cX11_element 52 = .ok (.ifCond .le 7, 3) := by decide +kernel
theorem dX11_element_55 : decode cX11_element 55 = .ok (.lconst 0, 1) := by decide +kernel
theorem dX11_element_56 : decode cX11_element 56 = .ok (.goto 15, 3) := by decide +kernel
theorem dX11_element_59 : decode cX11_element 59 = .ok (.aload_n 0, 1) := by decide +kernel
theorem dX11_element_60 : decode cX11_element 60 = .ok (.getfield 124, 3) := by decide +kernel
theorem dX11_element_63 : decode cX11_element 63 = .ok (.bipush 60, 2) := by decide +kernel
theorem dX11_element_65 : decode cX11_element 65 = .ok (.iload_n 1, 1) := by decide +kernel
theorem dX11_element_66 : decode cX11_element 66 = .ok (.imul, 1) := by decide +kernel
theorem dX11_element_67 : decode cX11_element 67 = .ok (.iload_n 2, 1) := by decide +kernel
theorem dX11_element_68 : decode cX11_element 68 = .ok (.iadd, 1) := by decide +kernel
theorem dX11_element_69 : decode cX11_element 69 = .ok (.iaload, 1) := by decide +kernel
theorem dX11_element_70 : decode cX11_element 70 = .ok (.i2l, 1) := by decide +kernel
theorem dX11_element_71 : decode cX11_element 71 = .ok (.lreturn, 1) := by decide +kernel
theorem dX11_copy_0 : decode cX11_copy 0 = .ok (.aload_n 0, 1) := by decide +kernel
theorem dX11_copy_1 : decode cX11_copy 1 = .ok (.iload_n 1, 1) := by decide +kernel
theorem dX11_copy_2 : decode cX11_copy 2 = .ok (.invokevirtual 272, 3) := by decide +kernel
theorem dX11_copy_5 : decode cX11_copy 5 = .ok (.ifCond .eq 11, 3) := by decide +kernel
theorem dX11_copy_8 : decode cX11_copy 8 = .ok (.aload_n 0, 1) := by decide +kernel
theorem dX11_copy_9 : decode cX11_copy 9 = .ok (.iload_n 3, 1) := by decide +kernel
theorem dX11_copy_10 : decode cX11_copy 10 = .ok (.invokevirtual 272, 3) := by decide +kernel
theorem dX11_copy_13 : decode cX11_copy 13 = .ok (.ifCond .ne 5, 3) := by decide +kernel
theorem dX11_copy_16 : decode cX11_copy 16 = .ok (.iconst (-1), 1) := by decide +kernel
theorem dX11_copy_17 : decode cX11_copy 17 = .ok (.ireturn, 1) := by decide +kernel
theorem dX11_copy_18 : decode cX11_copy 18 = .ok (.aload_n 0, 1) := by decide +kernel
theorem dX11_copy_19 : decode cX11_copy 19 = .ok (.getfield 106, 3) := by decide +kernel
theorem dX11_copy_22 : decode cX11_copy 22 = .ok (.iload_n 1, 1) := by decide +kernel
theorem dX11_copy_23 : decode cX11_copy 23 = .ok (.iaload, 1) := by decide +kernel
theorem dX11_copy_24 : decode cX11_copy 24 = .ok (.ifCond .eq 12, 3) := by decide +kernel
theorem dX11_copy_27 : decode cX11_copy 27 = .ok (.aload_n 0, 1) := by decide +kernel
theorem dX11_copy_28 : decode cX11_copy 28 = .ok (.getfield 106, 3) := by decide +kernel
theorem dX11_copy_31 : decode cX11_copy 31 = .ok (.iload_n 3, 1) := by decide +kernel
theorem dX11_copy_32 : decode cX11_copy 32 = .ok (.iaload, 1) := by decide +kernel
theorem dX11_copy_33 : decode cX11_copy 33 = .ok (.ifCond .ne 6, 3) := by decide +kernel
theorem dX11_copy_36 : decode cX11_copy 36 = .ok (.bipush (-11), 2) := by decide +kernel
theorem dX11_copy_38 : decode cX11_copy 38 = .ok (.ireturn, 1) := by decide +kernel
theorem dX11_copy_39 : decode cX11_copy 39 = .ok (.aload_n 0, 1) := by decide +kernel
theorem dX11_copy_40 : decode cX11_copy 40 = .ok (.getfield 106, 3) := by decide +kernel
theorem dX11_copy_43 : decode cX11_copy 43 = .ok (.iload_n 1, 1) := by decide +kernel
theorem dX11_copy_44 : decode cX11_copy 44 = .ok (.iaload, 1) := by decide +kernel
theorem dX11_copy_45 : decode cX11_copy 45 = .ok (.iconst 3, 1) := by decide +kernel
theorem dX11_copy_46 : decode cX11_copy 46 = .ok (.if_icmp .lt 18, 3) := by decide +kernel
theorem dX11_copy_49 : decode cX11_copy 49 = .ok (.aload_n 0, 1) := by decide +kernel
theorem dX11_copy_50 : decode cX11_copy 50 = .ok (.getfield 106, 3) := by decide +kernel
theorem dX11_copy_53 : decode cX11_copy 53 = .ok (.iload_n 1, 1) := by decide +kernel
theorem dX11_copy_54 : decode cX11_copy 54 = .ok (.iaload, 1) := by decide +kernel
theorem dX11_copy_55 : decode cX11_copy 55 = .ok (.aload_n 0, 1) := by decide +kernel
theorem dX11_copy_56 : decode cX11_copy 56 = .ok (.getfield 106, 3) := by decide +kernel
theorem dX11_copy_59 : decode cX11_copy 59 = .ok (.iload_n 3, 1) := by decide +kernel
theorem dX11_copy_60 : decode cX11_copy 60 = .ok (.iaload, 1) := by decide +kernel
theorem dX11_copy_61 : decode cX11_copy 61 = .ok (.if_icmp .eq 6, 3) := by decide +kernel
theorem dX11_copy_64 : decode cX11_copy 64 = .ok (.bipush (-12), 2) := by decide +kernel
theorem dX11_copy_66 : decode cX11_copy 66 = .ok (.ireturn, 1) := by decide +kernel
theorem dX11_copy_67 : decode cX11_copy 67 = .ok (.iload 5, 2) := by decide +kernel
theorem dX11_copy_69 : decode cX11_copy 69 = .ok (.ifCond .lt 39, 3) := by decide +kernel
theorem dX11_copy_72 : decode cX11_copy 72 = .ok (.iload_n 2, 1) := by decide +kernel
theorem dX11_copy_73 : decode cX11_copy 73 = .ok (.ifCond .lt 35, 3) := by decide +kernel
theorem dX11_copy_76 : decode cX11_copy 76 = .ok (.iload 4, 2) := by decide +kernel
theorem dX11_copy_78 : decode cX11_copy 78 = .ok (.ifCond .lt 30, 3) := by decide +kernel
theorem dX11_copy_81 : decode cX11_copy 81 = .ok (.iload_n 2, 1) := by decide +kernel
theorem dX11_copy_82 : decode cX11_copy 82 = .ok (.aload_n 0, 1) := by decide +kernel
theorem dX11_copy_83 : decode cX11_copy 83 = .ok (.getfield 121, 3) := by decide +kernel
theorem dX11_copy_86 : decode cX11_copy 86 = .ok (.iload_n 1, 1) := by decide +kernel
theorem dX11_copy_87 : decode cX11_copy 87 = .ok (.iaload, 1) := by decide +kernel
theorem dX11_copy_88 : decode cX11_copy 88 = .ok (.iload 5, 2) := by decide +kernel
theorem dX11_copy_90 : decode cX11_copy 90 = .ok (.isub, 1) := by decide +kernel
theorem dX11_copy_91 : decode cX11_copy 91 = .ok (.if_icmp .gt 17, 3) := by decide +kernel
theorem dX11_copy_94 : decode cX11_copy 94 = .ok (.iload 4, 2) := by decide +kernel
theorem dX11_copy_96 : decode cX11_copy 96 = .ok (.aload_n 0, 1) := by decide +kernel
theorem dX11_copy_97 : decode cX11_copy 97 = .ok (.getfield 121, 3) := by decide +kernel
theorem dX11_copy_100 : decode cX11_copy 100 = .ok (.iload_n 3, 1) := by decide +kernel
theorem dX11_copy_101 : decode cX11_copy 101 = .ok (.iaload, 1) := by decide +kernel
theorem dX11_copy_102 : decode cX11_copy 102 = .ok (.iload 5, 2) := by decide +kernel
theorem dX11_copy_104 : decode cX11_copy 104 = .ok (.isub, 1) := by decide +kernel
theorem dX11_copy_105 : decode cX11_copy 105 = .ok (.if_icmp .le 6, 3) := by decide +kernel
theorem dX11_copy_108 : decode cX11_copy 108 = .ok (.bipush (-13), 2) := by decide +kernel
theorem dX11_copy_110 : decode cX11_copy 110 = .ok (.ireturn, 1) := by decide +kernel
theorem dX11_copy_111 : decode cX11_copy 111 = .ok (.iconst 0, 1) := by decide +kernel
theorem dX11_copy_112 : decode cX11_copy 112 = .ok (.istore 6, 2) := by decide +kernel
theorem dX11_copy_114 : decode cX11_copy 114 = .ok (.iload 6, 2) := by decide +kernel
theorem dX11_copy_116 : decode cX11_copy 116 = .ok (.iload 5, 2) := by decide +kernel
theorem dX11_copy_118 : decode cX11_copy 118 = .ok (.if_icmp .ge 30, 3) := by decide +kernel
theorem dX11_copy_121 : decode cX11_copy 121 = .ok (.aload_n 0, 1) := by decide +kernel
theorem dX11_copy_122 : decode cX11_copy 122 = .ok (.getfield 127, 3) := by decide +kernel
theorem dX11_copy_125 : decode cX11_copy 125 = .ok (.iload 6, 2) := by decide +kernel
theorem dX11_copy_127 : decode cX11_copy 127 = .ok (.aload_n 0, 1) := by decide +kernel
theorem dX11_copy_128 : decode cX11_copy 128 = .ok (.getfield 124, 3) := by decide +kernel
theorem dX11_copy_131 : decode cX11_copy 131 = .ok (.bipush 60, 2) := by decide +kernel
theorem dX11_copy_133 : decode cX11_copy 133 = .ok (.iload_n 1, 1) := by decide +kernel
theorem dX11_copy_134 : decode cX11_copy 134 = .ok (.imul, 1) := by decide +kernel
theorem dX11_copy_135 : decode cX11_copy 135 = .ok (.iload_n 2, 1) := by decide +kernel
theorem dX11_copy_136 : decode cX11_copy 136 = .ok (.iadd, 1) := by decide +kernel
theorem dX11_copy_137 : decode cX11_copy 137 = .ok (.iload 6, 2) := by decide +kernel
theorem dX11_copy_139 : decode cX11_copy 139 = .ok (.iadd, 1) := by decide +kernel
theorem dX11_copy_140 : decode cX11_copy 140 = .ok (.iaload, 1) := by decide +kernel
theorem dX11_copy_141 : decode cX11_copy 141 = .ok (.iastore, 1) := by decide +kernel
theorem dX11_copy_142 : decode cX11_copy 142 = .ok (.iinc 6 1, 3) := by decide +kernel
theorem dX11_copy_145 : decode cX11_copy 145 = .ok (.goto (-31), 3) := by decide +kernel
theorem dX11_copy_148 : decode cX11_copy 148 = .ok (.iconst 0, 1) := by decide +kernel
theorem dX11_copy_149 : decode cX11_copy 149 = .ok (.istore 6, 2) := by decide +kernel
theorem dX11_copy_151 : decode cX11_copy 151 = .ok (.iload 6, 2) := by decide +kernel
theorem dX11_copy_153 : decode cX11_copy 153 = .ok (.iload 5, 2) := by decide +kernel
theorem dX11_copy_155 : decode cX11_copy 155 = .ok (.if_icmp .ge 31, 3) := by decide +kernel
theorem dX11_copy_158 : decode cX11_copy 158 = .ok (.aload_n 0, 1) := by decide +kernel
theorem dX11_copy_159 : decode cX11_copy 159 = .ok (.getfield 124, 3) := by decide +kernel
theorem dX11_copy_162 : decode cX11_copy 162 = .ok (.bipush 60, 2) := by decide +kernel
theorem dX11_copy_164 : decode cX11_copy 164 = .ok (.iload_n 3, 1) := by decide +kernel
theorem dX11_copy_165 : decode cX11_copy 165 = .ok (.imul, 1) := by decide +kernel
theorem dX11_copy_166 : decode cX11_copy 166 = .ok (.iload 4, 2) := by decide +kernel
theorem dX11_copy_168 : decode cX11_copy 168 = .ok (.iadd, 1) := by decide +kernel
theorem dX11_copy_169 : decode cX11_copy 169 = .ok (.iload 6, 2) := by decide +kernel
theorem dX11_copy_171 : decode cX11_copy 171 = .ok (.iadd, 1) := by decide +kernel
theorem dX11_copy_172 : decode cX11_copy 172 = .ok (.aload_n 0, 1) := by decide +kernel
theorem dX11_copy_173 : decode cX11_copy 173 = .ok (.getfield 127, 3) := by decide +kernel
theorem dX11_copy_176 : decode cX11_copy 176 = .ok (.iload 6, 2) := by decide +kernel
theorem dX11_copy_178 : decode cX11_copy 178 = .ok (.iaload, 1) := by decide +kernel
theorem dX11_copy_179 : decode cX11_copy 179 = .ok (.iastore, 1) := by decide +kernel
theorem dX11_copy_180 : decode cX11_copy 180 = .ok (.iinc 6 1, 3) := by decide +kernel
theorem dX11_copy_183 : decode cX11_copy 183 = .ok (.goto (-32), 3) := by decide +kernel
theorem dX11_copy_186 : decode cX11_copy 186 = .ok (.iload 5, 2) := by decide +kernel
theorem dX11_copy_188 : decode cX11_copy 188 = .ok (.ireturn, 1) := by decide +kernel
theorem dX11_lacksContact_0 : decode cX11_lacksContact 0 = .ok (.aload_n 0, 1) := by decide +kernel
theorem dX11_lacksContact_1 : decode cX11_lacksContact 1 = .ok (.iload_n 1, 1) := by decide +kernel
theorem dX11_lacksContact_2 : decode cX11_lacksContact 2 = .ok (.invokevirtual 272, 3) := by decide +kernel
theorem dX11_lacksContact_5 : decode cX11_lacksContact 5 = .ok (.ifCond .ne 7, 3) := by decide +kernel
theorem dX11_lacksContact_8 : decode cX11_lacksContact 8 = .ok (.iconst (-1), 1) := by decide +kernel
theorem dX11_lacksContact_9 : decode cX11_lacksContact 9 = .ok (.goto 33, 3) := by decide +kernel
theorem dX11_lacksContact_12 : decode cX11_lacksContact 12 = .ok (.aload_n 0, 1) := by decide +kernel
theorem dX11_lacksContact_13 : decode cX11_lacksContact 13 = .ok (.getfield 106, 3) := by decide +kernel
theorem dX11_lacksContact_16 : decode cX11_lacksContact 16 = .ok (.iload_n 1, 1) := by decide +kernel
theorem dX11_lacksContact_17 : decode cX11_lacksContact 17 = .ok (.iaload, 1) := by decide +kernel
theorem dX11_lacksContact_18 : decode cX11_lacksContact 18 = .ok (.ifCond .ne 8, 3) := by decide +kernel
theorem dX11_lacksContact_21 : decode cX11_lacksContact 21 = .ok (.bipush (-11), 2) := by decide +kernel
theorem dX11_lacksContact_23 : decode cX11_lacksContact 23 = .ok (.goto 19, 3) := by decide +kernel
theorem dX11_lacksContact_26 : decode cX11_lacksContact 26 = .ok (.aload_n 0, 1) := by decide +kernel
theorem dX11_lacksContact_27 : decode cX11_lacksContact 27 = .ok (.getfield 106, 3) := by decide +kernel
theorem dX11_lacksContact_30 : decode cX11_lacksContact 30 = .ok (.iload_n 1, 1) := by decide +kernel
theorem dX11_lacksContact_31 : decode cX11_lacksContact 31 = .ok (.iaload, 1) := by decide +kernel
theorem dX11_lacksContact_32 : decode cX11_lacksContact 32 = .ok (.iconst 1, 1) := by decide +kernel
theorem dX11_lacksContact_33 : decode cX11_lacksContact 33 = .ok (.if_icmp .eq 8, 3) := by decide +kernel
theorem dX11_lacksContact_36 : decode cX11_lacksContact 36 = .ok (.bipush (-12), 2) := by decide +kernel
theorem dX11_lacksContact_38 : decode cX11_lacksContact 38 = .ok (.goto 4, 3) := by decide +kernel
theorem dX11_lacksContact_41 : decode cX11_lacksContact 41 = .ok (.iconst 0, 1) := by decide +kernel
theorem dX11_lacksContact_42 : decode cX11_lacksContact 42 = .ok (.ireturn, 1) := by decide +kernel
theorem dX11_weight_0 : decode cX11_weight 0 = .ok (.aload_n 0, 1) := by decide +kernel
theorem dX11_weight_1 : decode cX11_weight 1 = .ok (.iload_n 1, 1) := by decide +kernel
theorem dX11_weight_2 : decode cX11_weight 2 = .ok (.invokevirtual 279, 3) := by decide +kernel
theorem dX11_weight_5 : decode cX11_weight 5 = .ok (.ifCond .eq 9, 3) := by decide +kernel
theorem dX11_weight_8 : decode cX11_weight 8 = .ok (.aload_n 0, 1) := by decide +kernel
theorem dX11_weight_9 : decode cX11_weight 9 = .ok (.iload_n 1, 1) := by decide +kernel
theorem dX11_weight_10 : decode cX11_weight 10 = .ok (.invokevirtual 279, 3) := by decide +kernel
theorem dX11_weight_13 : decode cX11_weight 13 = .ok (.ireturn, 1) := by decide +kernel
theorem dX11_weight_14 : decode cX11_weight 14 = .ok (.aload_n 0, 1) := by decide +kernel
theorem dX11_weight_15 : decode cX11_weight 15 = .ok (.getfield 112, 3) := by decide +kernel
theorem dX11_weight_18 : decode cX11_weight 18 = .ok (.iload_n 1, 1) := by decide +kernel
theorem dX11_weight_19 : decode cX11_weight 19 = .ok (.iaload, 1) := by decide +kernel
theorem dX11_weight_20 : decode cX11_weight 20 = .ok (.istore_n 2, 1) := by decide +kernel
theorem dX11_weight_21 : decode cX11_weight 21 = .ok (.bipush 10, 2) := by decide +kernel
theorem dX11_weight_23 : decode cX11_weight 23 = .ok (.aload_n 0, 1) := by decide +kernel
theorem dX11_weight_24 : decode cX11_weight 24 = .ok (.getfield 118, 3) := by decide +kernel
theorem dX11_weight_27 : decode cX11_weight 27 = .ok (.iload_n 1, 1) := by decide +kernel
theorem dX11_weight_28 : decode cX11_weight 28 = .ok (.iaload, 1) := by decide +kernel
theorem dX11_weight_29 : decode cX11_weight 29 = .ok (.iadd, 1) := by decide +kernel
theorem dX11_weight_30 : decode cX11_weight 30 = .ok (.aload_n 0, 1) := by decide +kernel
theorem dX11_weight_31 : decode cX11_weight 31 = .ok (.iload_n 2, 1) := by decide +kernel
theorem dX11_weight_32 : decode cX11_weight 32 = .ok (.invokevirtual 138, 3) := by decide +kernel
theorem dX11_weight_35 : decode cX11_weight 35 = .ok (.ifCond .eq 15, 3) := by decide +kernel
theorem dX11_weight_38 : decode cX11_weight 38 = .ok (.aload_n 0, 1) := by decide +kernel
theorem dX11_weight_39 : decode cX11_weight 39 = .ok (.getfield 115, 3) := by decide +kernel
theorem dX11_weight_42 : decode cX11_weight 42 = .ok (.iload_n 1, 1) := by decide +kernel
theorem dX11_weight_43 : decode cX11_weight 43 = .ok (.iaload, 1) := by decide +kernel
theorem dX11_weight_44 : decode cX11_weight 44 = .ok (.bipush 100, 2) := by decide +kernel
theorem dX11_weight_46 : decode cX11_weight 46 = .ok (.iadd, 1) := by decide +kernel
theorem dX11_weight_47 : decode cX11_weight 47 = .ok (.goto 4, 3) := by decide +kernel
theorem dX11_weight_50 : decode cX11_weight 50 = .ok (.iconst 0, 1) := by decide +kernel
theorem dX11_weight_51 : decode cX11_weight 51 = .ok (.iadd, 1) := by decide +kernel
theorem dX11_weight_52 : decode cX11_weight 52 = .ok (.iload_n 2, 1) := by decide +kernel
theorem dX11_weight_53 : decode cX11_weight 53 = .ok (.iconst 2, 1) := by decide +kernel
theorem dX11_weight_54 : decode cX11_weight 54 = .ok (.if_icmp .ne 9, 3) := by decide +kernel
theorem dX11_weight_57 : decode cX11_weight 57 = .ok (.sipush 1000, 3) := by decide +kernel
theorem dX11_weight_60 : decode cX11_weight 60 = .ok (.goto 4, 3) := by decide +kernel
theorem dX11_weight_63 : decode cX11_weight 63 = .ok (.iconst 0, 1) := by decide +kernel
theorem dX11_weight_64 : decode cX11_weight 64 = .ok (.iadd, 1) := by decide +kernel
theorem dX11_weight_65 : decode cX11_weight 65 = .ok (.istore_n 3, 1) := by decide +kernel
theorem dX11_weight_66 : decode cX11_weight 66 = .ok (.iload_n 2, 1) := by decide +kernel
theorem dX11_weight_67 : decode cX11_weight 67 = .ok (.iconst 3, 1) := by decide +kernel
theorem dX11_weight_68 : decode cX11_weight 68 = .ok (.if_icmp .ne 9, 3) := by decide +kernel
theorem dX11_weight_71 : decode cX11_weight 71 = .ok (.iconst 2, 1) := by decide +kernel
theorem dX11_weight_72 : decode cX11_weight 72 = .ok (.iload_n 3, 1) := by decide +kernel
theorem dX11_weight_73 : decode cX11_weight 73 = .ok (.imul, 1) := by decide +kernel
theorem dX11_weight_74 : decode cX11_weight 74 = .ok (.goto 4, 3) := by decide +kernel
theorem dX11_weight_77 : decode cX11_weight 77 = .ok (.iload_n 3, 1) := by decide +kernel
theorem dX11_weight_78 : decode cX11_weight 78 = .ok (.ireturn, 1) := by decide +kernel
theorem dX11_toss_0 : decode cX11_toss 0 = .ok (.aload_n 0, 1) := by decide +kernel
theorem dX11_toss_1 : decode cX11_toss 1 = .ok (.iload_n 1, 1) := by decide +kernel
theorem dX11_toss_2 : decode cX11_toss 2 = .ok (.invokevirtual 279, 3) := by decide +kernel
theorem dX11_toss_5 : decode cX11_toss 5 = .ok (.ifCond .eq 9, 3) := by decide +kernel
theorem dX11_toss_8 : decode cX11_toss 8 = .ok (.aload_n 0, 1) := by decide +kernel
theorem dX11_toss_9 : decode cX11_toss 9 = .ok (.iload_n 1, 1) := by decide +kernel
theorem dX11_toss_10 : decode cX11_toss 10 = .ok (.invokevirtual 279, 3) := by decide +kernel
theorem dX11_toss_13 : decode cX11_toss 13 = .ok (.ireturn, 1) := by decide +kernel
theorem dX11_toss_14 : decode cX11_toss 14 = .ok (.aload_n 0, 1) := by decide +kernel
theorem dX11_toss_15 : decode cX11_toss 15 = .ok (.aload_n 0, 1) := by decide +kernel
theorem dX11_toss_16 : decode cX11_toss 16 = .ok (.getfield 112, 3) := by decide +kernel
theorem dX11_toss_19 : decode cX11_toss 19 = .ok (.iload_n 1, 1) := by decide +kernel
theorem dX11_toss_20 : decode cX11_toss 20 = .ok (.iaload, 1) := by decide +kernel
theorem dX11_toss_21 : decode cX11_toss 21 = .ok (.invokevirtual 138, 3) := by decide +kernel
theorem dX11_toss_24 : decode cX11_toss 24 = .ok (.ifCond .eq 12, 3) := by decide +kernel
theorem dX11_toss_27 : decode cX11_toss 27 = .ok (.aload_n 0, 1) := by decide +kernel
theorem dX11_toss_28 : decode cX11_toss 28 = .ok (.getfield 109, 3) := by decide +kernel
theorem dX11_toss_31 : decode cX11_toss 31 = .ok (.iload_n 1, 1) := by decide +kernel
theorem dX11_toss_32 : decode cX11_toss 32 = .ok (.iaload, 1) := by decide +kernel
theorem dX11_toss_33 : decode cX11_toss 33 = .ok (.goto 5, 3) := by decide +kernel
theorem dX11_toss_36 : decode cX11_toss 36 = .ok (.bipush (-15), 2) := by decide +kernel
theorem dX11_toss_38 : decode cX11_toss 38 = .ok (.ireturn, 1) := by decide +kernel
theorem dJ9_floorDiv_f86c9_0 : decode cJ9_floorDiv_f86c9 0 = .ok (.lload_n 0, 1) := by decide +kernel
theorem dJ9_floorDiv_f86c9_1 : decode cJ9_floorDiv_f86c9 1 = .ok (.lload_n 2, 1) := by decide +kernel
theorem dJ9_floorDiv_f86c9_2 : decode cJ9_floorDiv_f86c9 2 = .ok (.ldiv, 1) := by decide +kernel
theorem dJ9_floorDiv_f86c9_3 : decode cJ9_floorDiv_f86c9 3 = .ok (.lstore 4, 2) := by decide +kernel
theorem dJ9_floorDiv_f86c9_5 : decode cJ9_floorDiv_f86c9 5 = .ok (.lload_n 0, 1) := by decide +kernel
theorem dJ9_floorDiv_f86c9_6 : decode cJ9_floorDiv_f86c9 6 = .ok (.lload_n 2, 1) := by decide +kernel
theorem dJ9_floorDiv_f86c9_7 : decode cJ9_floorDiv_f86c9 7 = .ok (.lxor, 1) := by decide +kernel
theorem dJ9_floorDiv_f86c9_8 : decode cJ9_floorDiv_f86c9 8 = .ok (.lconst 0, 1) := by decide +kernel
theorem dJ9_floorDiv_f86c9_9 : decode cJ9_floorDiv_f86c9 9 = .ok (.lcmp, 1) := by decide +kernel
theorem dJ9_floorDiv_f86c9_10 : decode cJ9_floorDiv_f86c9 10 = .ok (.ifCond .ge 17, 3) := by decide +kernel
theorem dJ9_floorDiv_f86c9_13 : decode cJ9_floorDiv_f86c9 13 = .ok (.lload 4, 2) := by decide +kernel
theorem dJ9_floorDiv_f86c9_15 : decode cJ9_floorDiv_f86c9 15 = .ok (.lload_n 2, 1) := by decide +kernel
theorem dJ9_floorDiv_f86c9_16 : decode cJ9_floorDiv_f86c9 16 = .ok (.lmul, 1) := by decide +kernel
theorem dJ9_floorDiv_f86c9_17 : decode cJ9_floorDiv_f86c9 17 = .ok (.lload_n 0, 1) := by decide +kernel
theorem dJ9_floorDiv_f86c9_18 : decode cJ9_floorDiv_f86c9 18 = .ok (.lcmp, 1) := by decide +kernel
theorem dJ9_floorDiv_f86c9_19 : decode cJ9_floorDiv_f86c9 19 = .ok (.ifCond .eq 8, 3) := by decide +kernel
theorem dJ9_floorDiv_f86c9_22 : decode cJ9_floorDiv_f86c9 22 = .ok (.lload 4, 2) := by decide +kernel
theorem dJ9_floorDiv_f86c9_24 : decode cJ9_floorDiv_f86c9 24 = .ok (.lconst 1, 1) := by decide +kernel
theorem dJ9_floorDiv_f86c9_25 : decode cJ9_floorDiv_f86c9 25 = .ok (.lsub, 1) := by decide +kernel
theorem dJ9_floorDiv_f86c9_26 : decode cJ9_floorDiv_f86c9 26 = .ok (.lreturn, 1) := by decide +kernel
theorem dJ9_floorDiv_f86c9_27 : decode cJ9_floorDiv_f86c9 27 = .ok (.lload 4, 2) := by decide +kernel
theorem dJ9_floorDiv_f86c9_29 : decode cJ9_floorDiv_f86c9 29 = .ok (.lreturn, 1) := by decide +kernel
theorem dJ9_abs_067f4_0 : decode cJ9_abs_067f4 0 = .ok (.lload_n 0, 1) := by decide +kernel
theorem dJ9_abs_067f4_1 : decode cJ9_abs_067f4 1 = .ok (.lconst 0, 1) := by decide +kernel
theorem dJ9_abs_067f4_2 : decode cJ9_abs_067f4 2 = .ok (.lcmp, 1) := by decide +kernel
theorem dJ9_abs_067f4_3 : decode cJ9_abs_067f4 3 = .ok (.ifCond .ge 8, 3) := by decide +kernel
theorem dJ9_abs_067f4_6 : decode cJ9_abs_067f4 6 = .ok (.lload_n 0, 1) := by decide +kernel
theorem dJ9_abs_067f4_7 : decode cJ9_abs_067f4 7 = .ok (.lneg, 1) := by decide +kernel
theorem dJ9_abs_067f4_8 : decode cJ9_abs_067f4 8 = .ok (.goto 4, 3) := by decide +kernel
theorem dJ9_abs_067f4_11 : decode cJ9_abs_067f4 11 = .ok (.lload_n 0, 1) := by decide +kernel
theorem dJ9_abs_067f4_12 : decode cJ9_abs_067f4 12 = .ok (.lreturn, 1) := by decide +kernel
theorem dJ9_max_f86c9_0 : decode cJ9_max_f86c9 0 = .ok (.lload_n 0, 1) := by decide +kernel
theorem dJ9_max_f86c9_1 : decode cJ9_max_f86c9 1 = .ok (.lload_n 2, 1) := by decide +kernel
theorem dJ9_max_f86c9_2 : decode cJ9_max_f86c9 2 = .ok (.lcmp, 1) := by decide +kernel
theorem dJ9_max_f86c9_3 : decode cJ9_max_f86c9 3 = .ok (.ifCond .lt 7, 3) := by decide +kernel
theorem dJ9_max_f86c9_6 : decode cJ9_max_f86c9 6 = .ok (.lload_n 0, 1) := by decide +kernel
theorem dJ9_max_f86c9_7 : decode cJ9_max_f86c9 7 = .ok (.goto 4, 3) := by decide +kernel
theorem dJ9_max_f86c9_10 : decode cJ9_max_f86c9 10 = .ok (.lload_n 2, 1) := by decide +kernel
theorem dJ9_max_f86c9_11 : decode cJ9_max_f86c9 11 = .ok (.lreturn, 1) := by decide +kernel
theorem dJ9_min_7cf53_0 : decode cJ9_min_7cf53 0 = .ok (.iload_n 0, 1) := by decide +kernel
theorem dJ9_min_7cf53_1 : decode cJ9_min_7cf53 1 = .ok (.iload_n 1, 1) := by decide +kernel
theorem dJ9_min_7cf53_2 : decode cJ9_min_7cf53 2 = .ok (.if_icmp .gt 7, 3) := by decide +kernel
theorem dJ9_min_7cf53_5 : decode cJ9_min_7cf53 5 = .ok (.iload_n 0, 1) := by decide +kernel
theorem dJ9_min_7cf53_6 : decode cJ9_min_7cf53 6 = .ok (.goto 4, 3) := by decide +kernel
theorem dJ9_min_7cf53_9 : decode cJ9_min_7cf53 9 = .ok (.iload_n 1, 1) := by decide +kernel
theorem dJ9_min_7cf53_10 : decode cJ9_min_7cf53 10 = .ok (.ireturn, 1) := by decide +kernel
theorem dJ9_min_f86c9_0 : decode cJ9_min_f86c9 0 = .ok (.lload_n 0, 1) := by decide +kernel
theorem dJ9_min_f86c9_1 : decode cJ9_min_f86c9 1 = .ok (.lload_n 2, 1) := by decide +kernel
theorem dJ9_min_f86c9_2 : decode cJ9_min_f86c9 2 = .ok (.lcmp, 1) := by decide +kernel
theorem dJ9_min_f86c9_3 : decode cJ9_min_f86c9 3 = .ok (.ifCond .gt 7, 3) := by decide +kernel
theorem dJ9_min_f86c9_6 : decode cJ9_min_f86c9 6 = .ok (.lload_n 0, 1) := by decide +kernel
theorem dJ9_min_f86c9_7 : decode cJ9_min_f86c9 7 = .ok (.goto 4, 3) := by decide +kernel
theorem dJ9_min_f86c9_10 : decode cJ9_min_f86c9 10 = .ok (.lload_n 2, 1) := by decide +kernel
theorem dJ9_min_f86c9_11 : decode cJ9_min_f86c9 11 = .ok (.lreturn, 1) := by decide +kernel
theorem dL_wrench_0 : decode cL_wrench 0 = .ok (.aload 4, 2) := by decide +kernel
theorem dL_wrench_2 : decode cL_wrench 2 = .ok (.iconst 0, 1) := by decide +kernel
theorem dL_wrench_3 : decode cL_wrench 3 = .ok (.aload_n 0, 1) := by decide +kernel
theorem dL_wrench_4 : decode cL_wrench 4 = .ok (.iload_n 1, 1) := by decide +kernel
theorem dL_wrench_5 : decode cL_wrench 5 = .ok (.iload_n 2, 1) := by decide +kernel
theorem dL_wrench_6 : decode cL_wrench 6 = .ok (.iload_n 3, 1) := by decide +kernel
theorem dL_wrench_7 : decode cL_wrench 7 = .ok (.invokevirtual 7, 3) := by decide +kernel
theorem dL_wrench_10 : decode cL_wrench 10 = .ok (.lastore, 1) := by decide +kernel
theorem dL_wrench_11 : decode cL_wrench 11 = .ok (.goto 7, 3) := by decide +kernel
theorem dL_wrench_14 : decode cL_wrench 14 = .ok (.astore 5, 2) := by decide +kernel
theorem dL_wrench_16 : decode cL_wrench 16 = .ok (.iconst 1, 1) := by decide +kernel
theorem dL_wrench_17 : decode cL_wrench 17 = .ok (.ireturn, 1) := by decide +kernel
theorem dL_wrench_18 : decode cL_wrench 18 = .ok (.iconst 0, 1) := by decide +kernel
theorem dL_wrench_19 : decode cL_wrench 19 = .ok (.ireturn, 1) := by decide +kernel
theorem dL_hidden_0 : decode cL_hidden 0 = .ok (.aload_n 2, 1) := by decide +kernel
theorem dL_hidden_1 : decode cL_hidden 1 = .ok (.iconst 0, 1) := by decide +kernel
theorem dL_hidden_2 : decode cL_hidden 2 = .ok (.aload_n 0, 1) := by decide +kernel
theorem dL_hidden_3 : decode cL_hidden 3 = .ok (.iload_n 1, 1) := by decide +kernel
theorem dL_hidden_4 : decode cL_hidden 4 = .ok (.invokevirtual 15, 3) := by decide +kernel
theorem dL_hidden_7 : decode cL_hidden 7 = .ok (.lastore, 1) := by decide +kernel
theorem dL_hidden_8 : decode cL_hidden 8 = .ok (.goto 9, 3) := by decide +kernel
theorem dL_hidden_11 : decode cL_hidden 11 = .ok (.astore_n 3, 1) := by decide +kernel
theorem dL_hidden_12 : decode cL_hidden 12 = .ok (.iconst 1, 1) := by decide +kernel
theorem dL_hidden_13 : decode cL_hidden 13 = .ok (.ireturn, 1) := by decide +kernel
theorem dL_hidden_14 : decode cL_hidden 14 = .ok (.astore_n 3, 1) := by decide +kernel
theorem dL_hidden_15 : decode cL_hidden 15 = .ok (.iconst 2, 1) := by decide +kernel
theorem dL_hidden_16 : decode cL_hidden 16 = .ok (.ireturn, 1) := by decide +kernel
theorem dL_hidden_17 : decode cL_hidden 17 = .ok (.iconst 0, 1) := by decide +kernel
theorem dL_hidden_18 : decode cL_hidden 18 = .ok (.ireturn, 1) := by decide +kernel
theorem dL_worst_0 : decode cL_worst 0 = .ok (.aload 6, 2) := by decide +kernel
theorem dL_worst_2 : decode cL_worst 2 = .ok (.iconst 0, 1) := by decide +kernel
theorem dL_worst_3 : decode cL_worst 3 = .ok (.aload_n 0, 1) := by decide +kernel
theorem dL_worst_4 : decode cL_worst 4 = .ok (.iload_n 1, 1) := by decide +kernel
theorem dL_worst_5 : decode cL_worst 5 = .ok (.iload_n 2, 1) := by decide +kernel
theorem dL_worst_6 : decode cL_worst 6 = .ok (.iload_n 3, 1) := by decide +kernel
theorem dL_worst_7 : decode cL_worst 7 = .ok (.iload 4, 2) := by decide +kernel
theorem dL_worst_9 : decode cL_worst 9 = .ok (.iload 5, 2) := by decide +kernel
theorem dL_worst_11 : decode cL_worst 11 = .ok (.invokevirtual 21, 3) := by decide +kernel
theorem dL_worst_14 : decode cL_worst 14 = .ok (.lastore, 1) := by decide +kernel
theorem dL_worst_15 : decode cL_worst 15 = .ok (.goto 11, 3) := by decide +kernel
theorem dL_worst_18 : decode cL_worst 18 = .ok (.astore 7, 2) := by decide +kernel
theorem dL_worst_20 : decode cL_worst 20 = .ok (.iconst 1, 1) := by decide +kernel
theorem dL_worst_21 : decode cL_worst 21 = .ok (.ireturn, 1) := by decide +kernel
theorem dL_worst_22 : decode cL_worst 22 = .ok (.astore 7, 2) := by decide +kernel
theorem dL_worst_24 : decode cL_worst 24 = .ok (.iconst 2, 1) := by decide +kernel
theorem dL_worst_25 : decode cL_worst 25 = .ok (.ireturn, 1) := by decide +kernel
theorem dL_worst_26 : decode cL_worst 26 = .ok (.iconst 0, 1) := by decide +kernel
theorem dL_worst_27 : decode cL_worst 27 = .ok (.ireturn, 1) := by decide +kernel
theorem dL_element_0 : decode cL_element 0 = .ok (.aload_n 3, 1) := by decide +kernel
theorem dL_element_1 : decode cL_element 1 = .ok (.iconst 0, 1) := by decide +kernel
theorem dL_element_2 : decode cL_element 2 = .ok (.aload_n 0, 1) := by decide +kernel
theorem dL_element_3 : decode cL_element 3 = .ok (.iload_n 1, 1) := by decide +kernel
theorem dL_element_4 : decode cL_element 4 = .ok (.iload_n 2, 1) := by decide +kernel
theorem dL_element_5 : decode cL_element 5 = .ok (.invokevirtual 25, 3) := by decide +kernel
theorem dL_element_8 : decode cL_element 8 = .ok (.lastore, 1) := by decide +kernel
theorem dL_element_9 : decode cL_element 9 = .ok (.goto 11, 3) := by decide +kernel
theorem dL_element_12 : decode cL_element 12 = .ok (.astore 4, 2) := by decide +kernel
theorem dL_element_14 : decode cL_element 14 = .ok (.iconst 1, 1) := by decide +kernel
theorem dL_element_15 : decode cL_element 15 = .ok (.ireturn, 1) := by decide +kernel
theorem dL_element_16 : decode cL_element 16 = .ok (.astore 4, 2) := by decide +kernel
theorem dL_element_18 : decode cL_element 18 = .ok (.iconst 2, 1) := by decide +kernel
theorem dL_element_19 : decode cL_element 19 = .ok (.ireturn, 1) := by decide +kernel
theorem dL_element_20 : decode cL_element 20 = .ok (.iconst 0, 1) := by decide +kernel
theorem dL_element_21 : decode cL_element 21 = .ok (.ireturn, 1) := by decide +kernel
theorem dL_law_0 : decode cL_law 0 = .ok (.new 8, 3) := by decide +kernel
theorem dL_law_3 : decode cL_law 3 = .ok (.dup, 1) := by decide +kernel
theorem dL_law_4 : decode cL_law 4 = .ok (.invokespecial 29, 3) := by decide +kernel
theorem dL_law_7 : decode cL_law 7 = .ok (.astore_n 1, 1) := by decide +kernel
theorem dL_law_8 : decode cL_law 8 = .ok (.new 30, 3) := by decide +kernel
theorem dL_law_11 : decode cL_law 11 = .ok (.dup, 1) := by decide +kernel
theorem dL_law_12 : decode cL_law 12 = .ok (.invokespecial 32, 3) := by decide +kernel
theorem dL_law_15 : decode cL_law 15 = .ok (.astore_n 2, 1) := by decide +kernel
theorem dL_law_16 : decode cL_law 16 = .ok (.iconst 1, 1) := by decide +kernel
theorem dL_law_17 : decode cL_law 17 = .ok (.newarray .long, 2) := by decide +kernel
theorem dL_law_19 : decode cL_law 19 = .ok (.astore_n 3, 1) := by decide +kernel
theorem dL_law_20 : decode cL_law 20 = .ok (.iconst 0, 1) := by decide +kernel
theorem dL_law_21 : decode cL_law 21 = .ok (.istore 4, 2) := by decide +kernel
theorem dL_law_23 : decode cL_law 23 = .ok (.iload 4, 2) := by decide +kernel
theorem dL_law_25 : decode cL_law 25 = .ok (.aload_n 0, 1) := by decide +kernel
theorem dL_law_26 : decode cL_law 26 = .ok (.arraylength, 1) := by decide +kernel
theorem dL_law_27 : decode cL_law 27 = .ok (.bipush 6, 2) := by decide +kernel
theorem dL_law_29 : decode cL_law 29 = .ok (.isub, 1) := by decide +kernel
theorem dL_law_30 : decode cL_law 30 = .ok (.if_icmp .gt 1408, 3) := by decide +kernel
theorem dL_law_33 : decode cL_law 33 = .ok (.aload_n 0, 1) := by decide +kernel
theorem dL_law_34 : decode cL_law 34 = .ok (.iload 4, 2) := by decide +kernel
theorem dL_law_36 : decode cL_law 36 = .ok (.iaload, 1) := by decide +kernel
theorem dL_law_37 : decode cL_law 37 = .ok (.bipush 31, 2) := by decide +kernel
theorem dL_law_39 : decode cL_law 39 = .ok (.iand, 1) := by decide +kernel
theorem dL_law_40 : decode cL_law 40 = .ok (.tableswitch 1392 0 31 #[144, 205, 218, 267, 304, 341, 420, 433, 488, 501, 526, 587, 636, 649, 674, 687, 806, 855, 892, 905, 942, 979, 1016, 1041, 1066, 1079, 1104, 1153, 1202, 1269, 1342, 1367], 144) := by decide +kernel
theorem dL_law_184 : decode cL_law 184 = .ok (.aload_n 1, 1) := by decide +kernel
theorem dL_law_185 : decode cL_law 185 = .ok (.aload_n 0, 1) := by decide +kernel
theorem dL_law_186 : decode cL_law 186 = .ok (.iload 4, 2) := by decide +kernel
theorem dL_law_188 : decode cL_law 188 = .ok (.iconst 1, 1) := by decide +kernel
theorem dL_law_189 : decode cL_law 189 = .ok (.iadd, 1) := by decide +kernel
theorem dL_law_190 : decode cL_law 190 = .ok (.iaload, 1) := by decide +kernel
theorem dL_law_191 : decode cL_law 191 = .ok (.aload_n 0, 1) := by decide +kernel
theorem dL_law_192 : decode cL_law 192 = .ok (.iload 4, 2) := by decide +kernel
theorem dL_law_194 : decode cL_law 194 = .ok (.iconst 2, 1) := by decide +kernel
theorem dL_law_195 : decode cL_law 195 = .ok (.iadd, 1) := by decide +kernel
theorem dL_law_196 : decode cL_law 196 = .ok (.iaload, 1) := by decide +kernel
theorem dL_law_197 : decode cL_law 197 = .ok (.aload_n 0, 1) := by decide +kernel
theorem dL_law_198 : decode cL_law 198 = .ok (.iload 4, 2) := by decide +kernel
theorem dL_law_200 : decode cL_law 200 = .ok (.iconst 3, 1) := by decide +kernel
theorem dL_law_201 : decode cL_law 201 = .ok (.iadd, 1) := by decide +kernel
theorem dL_law_202 : decode cL_law 202 = .ok (.iaload, 1) := by decide +kernel
theorem dL_law_203 : decode cL_law 203 = .ok (.aload_n 0, 1) := by decide +kernel
theorem dL_law_204 : decode cL_law 204 = .ok (.iload 4, 2) := by decide +kernel
theorem dL_law_206 : decode cL_law 206 = .ok (.iconst 4, 1) := by decide +kernel
theorem dL_law_207 : decode cL_law 207 = .ok (.iadd, 1) := by decide +kernel
theorem dL_law_208 : decode cL_law 208 = .ok (.iaload, 1) := by decide +kernel
theorem dL_law_209 : decode cL_law 209 = .ok (.invokevirtual 33, 3) := by decide +kernel
theorem dL_law_212 : decode cL_law 212 = .ok (.aload_n 2, 1) := by decide +kernel
theorem dL_law_213 : decode cL_law 213 = .ok (.aload_n 0, 1) := by decide +kernel
theorem dL_law_214 : decode cL_law 214 = .ok (.iload 4, 2) := by decide +kernel
theorem dL_law_216 : decode cL_law 216 = .ok (.iconst 1, 1) := by decide +kernel
theorem dL_law_217 : decode cL_law 217 = .ok (.iadd, 1) := by decide +kernel
theorem dL_law_218 : decode cL_law 218 = .ok (.iaload, 1) := by decide +kernel
theorem dL_law_219 : decode cL_law 219 = .ok (.aload_n 0, 1) := by decide +kernel
theorem dL_law_220 : decode cL_law 220 = .ok (.iload 4, 2) := by decide +kernel
theorem dL_law_222 : decode cL_law 222 = .ok (.iconst 2, 1) := by decide +kernel
theorem dL_law_223 : decode cL_law 223 = .ok (.iadd, 1) := by decide +kernel
theorem dL_law_224 : decode cL_law 224 = .ok (.iaload, 1) := by decide +kernel
theorem dL_law_225 : decode cL_law 225 = .ok (.aload_n 0, 1) := by decide +kernel
theorem dL_law_226 : decode cL_law 226 = .ok (.iload 4, 2) := by decide +kernel
theorem dL_law_228 : decode cL_law 228 = .ok (.iconst 3, 1) := by decide +kernel
theorem dL_law_229 : decode cL_law 229 = .ok (.iadd, 1) := by decide +kernel
theorem dL_law_230 : decode cL_law 230 = .ok (.iaload, 1) := by decide +kernel
theorem dL_law_231 : decode cL_law 231 = .ok (.aload_n 0, 1) := by decide +kernel
theorem dL_law_232 : decode cL_law 232 = .ok (.iload 4, 2) := by decide +kernel
theorem dL_law_234 : decode cL_law 234 = .ok (.iconst 4, 1) := by decide +kernel
theorem dL_law_235 : decode cL_law 235 = .ok (.iadd, 1) := by decide +kernel
theorem dL_law_236 : decode cL_law 236 = .ok (.iaload, 1) := by decide +kernel
theorem dL_law_237 : decode cL_law 237 = .ok (.invokevirtual 37, 3) := by decide +kernel
theorem dL_law_240 : decode cL_law 240 = .ok (.if_icmp .eq 1192, 3) := by decide +kernel
theorem dL_law_243 : decode cL_law 243 = .ok (.iconst 0, 1) := by decide +kernel
theorem dL_law_244 : decode cL_law 244 = .ok (.ireturn, 1) := by decide +kernel
theorem dL_law_245 : decode cL_law 245 = .ok (.aload_n 1, 1) := by decide +kernel
theorem dL_law_246 : decode cL_law 246 = .ok (.invokevirtual 38, 3) := by decide +kernel
theorem dL_law_249 : decode cL_law 249 = .ok (.aload_n 2, 1) := by decide +kernel
theorem dL_law_250 : decode cL_law 250 = .ok (.invokevirtual 42, 3) := by decide +kernel
theorem dL_law_253 : decode cL_law 253 = .ok (.if_icmp .eq 1179, 3) := by decide +kernel
theorem dL_law_256 : decode cL_law 256 = .ok (.iconst 0, 1) := by decide +kernel
theorem dL_law_257 : decode cL_law 257 = .ok (.ireturn, 1) := by decide +kernel
theorem dL_law_258 : decode cL_law 258 = .ok (.aload_n 1, 1) := by decide +kernel
theorem dL_law_259 : decode cL_law 259 = .ok (.aload_n 0, 1) := by decide +kernel
theorem dL_law_260 : decode cL_law 260 = .ok (.iload 4, 2) := by decide +kernel
theorem dL_law_262 : decode cL_law 262 = .ok (.iconst 1, 1) := by decide +kernel
theorem dL_law_263 : decode cL_law 263 = .ok (.iadd, 1) := by decide +kernel
theorem dL_law_264 : decode cL_law 264 = .ok (.iaload, 1) := by decide +kernel
theorem dL_law_265 : decode cL_law 265 = .ok (.aload_n 0, 1) := by decide +kernel
theorem dL_law_266 : decode cL_law 266 = .ok (.iload 4, 2) := by decide +kernel
theorem dL_law_268 : decode cL_law 268 = .ok (.iconst 2, 1) := by decide +kernel
theorem dL_law_269 : decode cL_law 269 = .ok (.iadd, 1) := by decide +kernel
theorem dL_law_270 : decode cL_law 270 = .ok (.iaload, 1) := by decide +kernel
theorem dL_law_271 : decode cL_law 271 = .ok (.aload_n 0, 1) := by decide +kernel
theorem dL_law_272 : decode cL_law 272 = .ok (.iload 4, 2) := by decide +kernel
theorem dL_law_274 : decode cL_law 274 = .ok (.iconst 3, 1) := by decide +kernel
theorem dL_law_275 : decode cL_law 275 = .ok (.iadd, 1) := by decide +kernel
theorem dL_law_276 : decode cL_law 276 = .ok (.iaload, 1) := by decide +kernel
theorem dL_law_277 : decode cL_law 277 = .ok (.invokevirtual 43, 3) := by decide +kernel
theorem dL_law_280 : decode cL_law 280 = .ok (.aload_n 2, 1) := by decide +kernel
theorem dL_law_281 : decode cL_law 281 = .ok (.aload_n 0, 1) := by decide +kernel
theorem dL_law_282 : decode cL_law 282 = .ok (.iload 4, 2) := by decide +kernel
theorem dL_law_284 : decode cL_law 284 = .ok (.iconst 1, 1) := by decide +kernel
theorem dL_law_285 : decode cL_law 285 = .ok (.iadd, 1) := by decide +kernel
theorem dL_law_286 : decode cL_law 286 = .ok (.iaload, 1) := by decide +kernel
theorem dL_law_287 : decode cL_law 287 = .ok (.aload_n 0, 1) := by decide +kernel
theorem dL_law_288 : decode cL_law 288 = .ok (.iload 4, 2) := by decide +kernel
theorem dL_law_290 : decode cL_law 290 = .ok (.iconst 2, 1) := by decide +kernel
theorem dL_law_291 : decode cL_law 291 = .ok (.iadd, 1) := by decide +kernel
theorem dL_law_292 : decode cL_law 292 = .ok (.iaload, 1) := by decide +kernel
theorem dL_law_293 : decode cL_law 293 = .ok (.aload_n 0, 1) := by decide +kernel
theorem dL_law_294 : decode cL_law 294 = .ok (.iload 4, 2) := by decide +kernel
theorem dL_law_296 : decode cL_law 296 = .ok (.iconst 3, 1) := by decide +kernel
theorem dL_law_297 : decode cL_law 297 = .ok (.iadd, 1) := by decide +kernel
theorem dL_law_298 : decode cL_law 298 = .ok (.iaload, 1) := by decide +kernel
theorem dL_law_299 : decode cL_law 299 = .ok (.invokevirtual 47, 3) := by decide +kernel
theorem dL_law_302 : decode cL_law 302 = .ok (.if_icmp .eq 1130, 3) := by decide +kernel
theorem dL_law_305 : decode cL_law 305 = .ok (.iconst 0, 1) := by decide +kernel
theorem dL_law_306 : decode cL_law 306 = .ok (.ireturn, 1) := by decide +kernel
theorem dL_law_307 : decode cL_law 307 = .ok (.aload_n 1, 1) := by decide +kernel
theorem dL_law_308 : decode cL_law 308 = .ok (.aload_n 0, 1) := by decide +kernel
theorem dL_law_309 : decode cL_law 309 = .ok (.iload 4, 2) := by decide +kernel
theorem dL_law_311 : decode cL_law 311 = .ok (.iconst 1, 1) := by decide +kernel
theorem dL_law_312 : decode cL_law 312 = .ok (.iadd, 1) := by decide +kernel
theorem dL_law_313 : decode cL_law 313 = .ok (.iaload, 1) := by decide +kernel
theorem dL_law_314 : decode cL_law 314 = .ok (.aload_n 0, 1) := by decide +kernel
theorem dL_law_315 : decode cL_law 315 = .ok (.iload 4, 2) := by decide +kernel
theorem dL_law_317 : decode cL_law 317 = .ok (.iconst 2, 1) := by decide +kernel
theorem dL_law_318 : decode cL_law 318 = .ok (.iadd, 1) := by decide +kernel
theorem dL_law_319 : decode cL_law 319 = .ok (.iaload, 1) := by decide +kernel
theorem dL_law_320 : decode cL_law 320 = .ok (.invokevirtual 48, 3) := by decide +kernel
theorem dL_law_323 : decode cL_law 323 = .ok (.aload_n 2, 1) := by decide +kernel
theorem dL_law_324 : decode cL_law 324 = .ok (.aload_n 0, 1) := by decide +kernel
theorem dL_law_325 : decode cL_law 325 = .ok (.iload 4, 2) := by decide +kernel
theorem dL_law_327 : decode cL_law 327 = .ok (.iconst 1, 1) := by decide +kernel
theorem dL_law_328 : decode cL_law 328 = .ok (.iadd, 1) := by decide +kernel
theorem dL_law_329 : decode cL_law 329 = .ok (.iaload, 1) := by decide +kernel
theorem dL_law_330 : decode cL_law 330 = .ok (.aload_n 0, 1) := by decide +kernel
theorem dL_law_331 : decode cL_law 331 = .ok (.iload 4, 2) := by decide +kernel
theorem dL_law_333 : decode cL_law 333 = .ok (.iconst 2, 1) := by decide +kernel
theorem dL_law_334 : decode cL_law 334 = .ok (.iadd, 1) := by decide +kernel
theorem dL_law_335 : decode cL_law 335 = .ok (.iaload, 1) := by decide +kernel
theorem dL_law_336 : decode cL_law 336 = .ok (.invokevirtual 52, 3) := by decide +kernel
theorem dL_law_339 : decode cL_law 339 = .ok (.if_icmp .eq 1093, 3) := by decide +kernel
theorem dL_law_342 : decode cL_law 342 = .ok (.iconst 0, 1) := by decide +kernel
theorem dL_law_343 : decode cL_law 343 = .ok (.ireturn, 1) := by decide +kernel
theorem dL_law_344 : decode cL_law 344 = .ok (.aload_n 1, 1) := by decide +kernel
theorem dL_law_345 : decode cL_law 345 = .ok (.aload_n 0, 1) := by decide +kernel
theorem dL_law_346 : decode cL_law 346 = .ok (.iload 4, 2) := by decide +kernel
theorem dL_law_348 : decode cL_law 348 = .ok (.iconst 1, 1) := by decide +kernel
theorem dL_law_349 : decode cL_law 349 = .ok (.iadd, 1) := by decide +kernel
theorem dL_law_350 : decode cL_law 350 = .ok (.iaload, 1) := by decide +kernel
theorem dL_law_351 : decode cL_law 351 = .ok (.aload_n 0, 1) := by decide +kernel
theorem dL_law_352 : decode cL_law 352 = .ok (.iload 4, 2) := by decide +kernel
theorem dL_law_354 : decode cL_law 354 = .ok (.iconst 2, 1) := by decide +kernel
theorem dL_law_355 : decode cL_law 355 = .ok (.iadd, 1) := by decide +kernel
theorem dL_law_356 : decode cL_law 356 = .ok (.iaload, 1) := by decide +kernel
theorem dL_law_357 : decode cL_law 357 = .ok (.invokevirtual 53, 3) := by decide +kernel
theorem dL_law_360 : decode cL_law 360 = .ok (.aload_n 2, 1) := by decide +kernel
theorem dL_law_361 : decode cL_law 361 = .ok (.aload_n 0, 1) := by decide +kernel
theorem dL_law_362 : decode cL_law 362 = .ok (.iload 4, 2) := by decide +kernel
theorem dL_law_364 : decode cL_law 364 = .ok (.iconst 1, 1) := by decide +kernel
theorem dL_law_365 : decode cL_law 365 = .ok (.iadd, 1) := by decide +kernel
theorem dL_law_366 : decode cL_law 366 = .ok (.iaload, 1) := by decide +kernel
theorem dL_law_367 : decode cL_law 367 = .ok (.aload_n 0, 1) := by decide +kernel
theorem dL_law_368 : decode cL_law 368 = .ok (.iload 4, 2) := by decide +kernel
theorem dL_law_370 : decode cL_law 370 = .ok (.iconst 2, 1) := by decide +kernel
theorem dL_law_371 : decode cL_law 371 = .ok (.iadd, 1) := by decide +kernel
theorem dL_law_372 : decode cL_law 372 = .ok (.iaload, 1) := by decide +kernel
theorem dL_law_373 : decode cL_law 373 = .ok (.invokevirtual 56, 3) := by decide +kernel
theorem dL_law_376 : decode cL_law 376 = .ok (.if_icmp .eq 1056, 3) := by decide +kernel
theorem dL_law_379 : decode cL_law 379 = .ok (.iconst 0, 1) := by decide +kernel
theorem dL_law_380 : decode cL_law 380 = .ok (.ireturn, 1) := by decide +kernel
theorem dL_law_381 : decode cL_law 381 = .ok (.aload_n 1, 1) := by decide +kernel
theorem dL_law_382 : decode cL_law 382 = .ok (.aload_n 0, 1) := by decide +kernel
theorem dL_law_383 : decode cL_law 383 = .ok (.iload 4, 2) := by decide +kernel
theorem dL_law_385 : decode cL_law 385 = .ok (.iconst 1, 1) := by decide +kernel
theorem dL_law_386 : decode cL_law 386 = .ok (.iadd, 1) := by decide +kernel
theorem dL_law_387 : decode cL_law 387 = .ok (.iaload, 1) := by decide +kernel
theorem dL_law_388 : decode cL_law 388 = .ok (.aload_n 0, 1) := by decide +kernel
theorem dL_law_389 : decode cL_law 389 = .ok (.iload 4, 2) := by decide +kernel
theorem dL_law_391 : decode cL_law 391 = .ok (.iconst 2, 1) := by decide +kernel
theorem dL_law_392 : decode cL_law 392 = .ok (.iadd, 1) := by decide +kernel
theorem dL_law_393 : decode cL_law 393 = .ok (.iaload, 1) := by decide +kernel
theorem dL_law_394 : decode cL_law 394 = .ok (.aload_n 0, 1) := by decide +kernel
theorem dL_law_395 : decode cL_law 395 = .ok (.iload 4, 2) := by decide +kernel
theorem dL_law_397 : decode cL_law 397 = .ok (.iconst 3, 1) := by decide +kernel
theorem dL_law_398 : decode cL_law 398 = .ok (.iadd, 1) := by decide +kernel
theorem dL_law_399 : decode cL_law 399 = .ok (.iaload, 1) := by decide +kernel
theorem dL_law_400 : decode cL_law 400 = .ok (.aload_n 3, 1) := by decide +kernel
theorem dL_law_401 : decode cL_law 401 = .ok (.invokestatic 57, 3) := by decide +kernel
theorem dL_law_404 : decode cL_law 404 = .ok (.istore 5, 2) := by decide +kernel
theorem dL_law_406 : decode cL_law 406 = .ok (.aload_n 2, 1) := by decide +kernel
theorem dL_law_407 : decode cL_law 407 = .ok (.aload_n 0, 1) := by decide +kernel
theorem dL_law_408 : decode cL_law 408 = .ok (.iload 4, 2) := by decide +kernel
theorem dL_law_410 : decode cL_law 410 = .ok (.iconst 1, 1) := by decide +kernel
theorem dL_law_411 : decode cL_law 411 = .ok (.iadd, 1) := by decide +kernel
theorem dL_law_412 : decode cL_law 412 = .ok (.iaload, 1) := by decide +kernel
theorem dL_law_413 : decode cL_law 413 = .ok (.aload_n 0, 1) := by decide +kernel
theorem dL_law_414 : decode cL_law 414 = .ok (.iload 4, 2) := by decide +kernel
theorem dL_law_416 : decode cL_law 416 = .ok (.iconst 2, 1) := by decide +kernel
theorem dL_law_417 : decode cL_law 417 = .ok (.iadd, 1) := by decide +kernel
theorem dL_law_418 : decode cL_law 418 = .ok (.iaload, 1) := by decide +kernel
theorem dL_law_419 : decode cL_law 419 = .ok (.aload_n 0, 1) := by decide +kernel
theorem dL_law_420 : decode cL_law 420 = .ok (.iload 4, 2) := by decide +kernel
theorem dL_law_422 : decode cL_law 422 = .ok (.iconst 3, 1) := by decide +kernel
theorem dL_law_423 : decode cL_law 423 = .ok (.iadd, 1) := by decide +kernel
theorem dL_law_424 : decode cL_law 424 = .ok (.iaload, 1) := by decide +kernel
theorem dL_law_425 : decode cL_law 425 = .ok (.invokevirtual 62, 3) := by decide +kernel
theorem dL_law_428 : decode cL_law 428 = .ok (.lstore 6, 2) := by decide +kernel
theorem dL_law_430 : decode cL_law 430 = .ok (.aload_n 2, 1) := by decide +kernel
theorem dL_law_431 : decode cL_law 431 = .ok (.invokevirtual 63, 3) := by decide +kernel
theorem dL_law_434 : decode cL_law 434 = .ok (.iload 5, 2) := by decide +kernel
theorem dL_law_436 : decode cL_law 436 = .ok (.if_icmp .eq 5, 3) := by decide +kernel
theorem dL_law_439 : decode cL_law 439 = .ok (.iconst 0, 1) := by decide +kernel
theorem dL_law_440 : decode cL_law 440 = .ok (.ireturn, 1) := by decide +kernel
theorem dL_law_441 : decode cL_law 441 = .ok (.iload 5, 2) := by decide +kernel
theorem dL_law_443 : decode cL_law 443 = .ok (.ifCond .ne 14, 3) := by decide +kernel
theorem dL_law_446 : decode cL_law 446 = .ok (.aload_n 3, 1) := by decide +kernel
theorem dL_law_447 : decode cL_law 447 = .ok (.iconst 0, 1) := by decide +kernel
theorem dL_law_448 : decode cL_law 448 = .ok (.laload, 1) := by decide +kernel
theorem dL_law_449 : decode cL_law 449 = .ok (.lload 6, 2) := by decide +kernel
theorem dL_law_451 : decode cL_law 451 = .ok (.lcmp, 1) := by decide +kernel
theorem dL_law_452 : decode cL_law 452 = .ok (.ifCond .eq 5, 3) := by decide +kernel
theorem dL_law_455 : decode cL_law 455 = .ok (.iconst 0, 1) := by decide +kernel
theorem dL_law_456 : decode cL_law 456 = .ok (.ireturn, 1) := by decide +kernel
theorem dL_law_457 : decode cL_law 457 = .ok (.goto 975, 3) := by decide +kernel
theorem dL_law_460 : decode cL_law 460 = .ok (.aload_n 1, 1) := by decide +kernel
theorem dL_law_461 : decode cL_law 461 = .ok (.invokevirtual 66, 3) := by decide +kernel
theorem dL_law_464 : decode cL_law 464 = .ok (.aload_n 2, 1) := by decide +kernel
theorem dL_law_465 : decode cL_law 465 = .ok (.invokevirtual 69, 3) := by decide +kernel
theorem dL_law_468 : decode cL_law 468 = .ok (.if_icmp .eq 964, 3) := by decide +kernel
theorem dL_law_471 : decode cL_law 471 = .ok (.iconst 0, 1) := by decide +kernel
theorem dL_law_472 : decode cL_law 472 = .ok (.ireturn, 1) := by decide +kernel
theorem dL_law_473 : decode cL_law 473 = .ok (.aload_n 1, 1) := by decide +kernel
theorem dL_law_474 : decode cL_law 474 = .ok (.aload_n 0, 1) := by decide +kernel
theorem dL_law_475 : decode cL_law 475 = .ok (.iload 4, 2) := by decide +kernel
theorem dL_law_477 : decode cL_law 477 = .ok (.iconst 1, 1) := by decide +kernel
theorem dL_law_478 : decode cL_law 478 = .ok (.iadd, 1) := by decide +kernel
theorem dL_law_479 : decode cL_law 479 = .ok (.iaload, 1) := by decide +kernel
theorem dL_law_480 : decode cL_law 480 = .ok (.aload_n 3, 1) := by decide +kernel
theorem dL_law_481 : decode cL_law 481 = .ok (.invokestatic 70, 3) := by decide +kernel
theorem dL_law_484 : decode cL_law 484 = .ok (.istore 5, 2) := by decide +kernel
theorem dL_law_486 : decode cL_law 486 = .ok (.aload_n 2, 1) := by decide +kernel
theorem dL_law_487 : decode cL_law 487 = .ok (.aload_n 0, 1) := by decide +kernel
theorem dL_law_488 : decode cL_law 488 = .ok (.iload 4, 2) := by decide +kernel
theorem dL_law_490 : decode cL_law 490 = .ok (.iconst 1, 1) := by decide +kernel
theorem dL_law_491 : decode cL_law 491 = .ok (.iadd, 1) := by decide +kernel
theorem dL_law_492 : decode cL_law 492 = .ok (.iaload, 1) := by decide +kernel
theorem dL_law_493 : decode cL_law 493 = .ok (.invokevirtual 73, 3) := by decide +kernel
theorem dL_law_496 : decode cL_law 496 = .ok (.lstore 6, 2) := by decide +kernel
theorem dL_law_498 : decode cL_law 498 = .ok (.aload_n 2, 1) := by decide +kernel
theorem dL_law_499 : decode cL_law 499 = .ok (.invokevirtual 63, 3) := by decide +kernel
theorem dL_law_502 : decode cL_law 502 = .ok (.iload 5, 2) := by decide +kernel
theorem dL_law_504 : decode cL_law 504 = .ok (.if_icmp .eq 5, 3) := by decide +kernel
theorem dL_law_507 : decode cL_law 507 = .ok (.iconst 0, 1) := by decide +kernel
theorem dL_law_508 : decode cL_law 508 = .ok (.ireturn, 1) := by decide +kernel
theorem dL_law_509 : decode cL_law 509 = .ok (.iload 5, 2) := by decide +kernel
theorem dL_law_511 : decode cL_law 511 = .ok (.ifCond .ne 14, 3) := by decide +kernel
theorem dL_law_514 : decode cL_law 514 = .ok (.aload_n 3, 1) := by decide +kernel
theorem dL_law_515 : decode cL_law 515 = .ok (.iconst 0, 1) := by decide +kernel
theorem dL_law_516 : decode cL_law 516 = .ok (.laload, 1) := by decide +kernel
theorem dL_law_517 : decode cL_law 517 = .ok (.lload 6, 2) := by decide +kernel
theorem dL_law_519 : decode cL_law 519 = .ok (.lcmp, 1) := by decide +kernel
theorem dL_law_520 : decode cL_law 520 = .ok (.ifCond .eq 5, 3) := by decide +kernel
theorem dL_law_523 : decode cL_law 523 = .ok (.iconst 0, 1) := by decide +kernel
theorem dL_law_524 : decode cL_law 524 = .ok (.ireturn, 1) := by decide +kernel
theorem dL_law_525 : decode cL_law 525 = .ok (.goto 907, 3) := by decide +kernel
theorem dL_law_528 : decode cL_law 528 = .ok (.aload_n 1, 1) := by decide +kernel
theorem dL_law_529 : decode cL_law 529 = .ok (.invokevirtual 74, 3) := by decide +kernel
theorem dL_law_532 : decode cL_law 532 = .ok (.aload_n 2, 1) := by decide +kernel
theorem dL_law_533 : decode cL_law 533 = .ok (.invokevirtual 77, 3) := by decide +kernel
theorem dL_law_536 : decode cL_law 536 = .ok (.if_icmp .eq 896, 3) := by decide +kernel
theorem dL_law_539 : decode cL_law 539 = .ok (.iconst 0, 1) := by decide +kernel
theorem dL_law_540 : decode cL_law 540 = .ok (.ireturn, 1) := by decide +kernel
theorem dL_law_541 : decode cL_law 541 = .ok (.aload_n 1, 1) := by decide +kernel
theorem dL_law_542 : decode cL_law 542 = .ok (.aload_n 0, 1) := by decide +kernel
theorem dL_law_543 : decode cL_law 543 = .ok (.iload 4, 2) := by decide +kernel
theorem dL_law_545 : decode cL_law 545 = .ok (.iconst 1, 1) := by decide +kernel
theorem dL_law_546 : decode cL_law 546 = .ok (.iadd, 1) := by decide +kernel
theorem dL_law_547 : decode cL_law 547 = .ok (.iaload, 1) := by decide +kernel
theorem dL_law_548 : decode cL_law 548 = .ok (.invokevirtual 78, 3) := by decide +kernel
theorem dL_law_551 : decode cL_law 551 = .ok (.aload_n 2, 1) := by decide +kernel
theorem dL_law_552 : decode cL_law 552 = .ok (.aload_n 0, 1) := by decide +kernel
theorem dL_law_553 : decode cL_law 553 = .ok (.iload 4, 2) := by decide +kernel
theorem dL_law_555 : decode cL_law 555 = .ok (.iconst 1, 1) := by decide +kernel
theorem dL_law_556 : decode cL_law 556 = .ok (.iadd, 1) := by decide +kernel
theorem dL_law_557 : decode cL_law 557 = .ok (.iaload, 1) := by decide +kernel
theorem dL_law_558 : decode cL_law 558 = .ok (.invokevirtual 82, 3) := by decide +kernel
theorem dL_law_561 : decode cL_law 561 = .ok (.if_icmp .eq 871, 3) := by decide +kernel
theorem dL_law_564 : decode cL_law 564 = .ok (.iconst 0, 1) := by decide +kernel
theorem dL_law_565 : decode cL_law 565 = .ok (.ireturn, 1) := by decide +kernel
theorem dL_law_566 : decode cL_law 566 = .ok (.aload_n 1, 1) := by decide +kernel
theorem dL_law_567 : decode cL_law 567 = .ok (.aload_n 0, 1) := by decide +kernel
theorem dL_law_568 : decode cL_law 568 = .ok (.iload 4, 2) := by decide +kernel
theorem dL_law_570 : decode cL_law 570 = .ok (.iconst 1, 1) := by decide +kernel
theorem dL_law_571 : decode cL_law 571 = .ok (.iadd, 1) := by decide +kernel
theorem dL_law_572 : decode cL_law 572 = .ok (.iaload, 1) := by decide +kernel
theorem dL_law_573 : decode cL_law 573 = .ok (.aload_n 0, 1) := by decide +kernel
theorem dL_law_574 : decode cL_law 574 = .ok (.iload 4, 2) := by decide +kernel
theorem dL_law_576 : decode cL_law 576 = .ok (.iconst 2, 1) := by decide +kernel
theorem dL_law_577 : decode cL_law 577 = .ok (.iadd, 1) := by decide +kernel
theorem dL_law_578 : decode cL_law 578 = .ok (.iaload, 1) := by decide +kernel
theorem dL_law_579 : decode cL_law 579 = .ok (.aload_n 0, 1) := by decide +kernel
theorem dL_law_580 : decode cL_law 580 = .ok (.iload 4, 2) := by decide +kernel
theorem dL_law_582 : decode cL_law 582 = .ok (.iconst 3, 1) := by decide +kernel
theorem dL_law_583 : decode cL_law 583 = .ok (.iadd, 1) := by decide +kernel
theorem dL_law_584 : decode cL_law 584 = .ok (.iaload, 1) := by decide +kernel
theorem dL_law_585 : decode cL_law 585 = .ok (.aload_n 0, 1) := by decide +kernel
theorem dL_law_586 : decode cL_law 586 = .ok (.iload 4, 2) := by decide +kernel
theorem dL_law_588 : decode cL_law 588 = .ok (.iconst 4, 1) := by decide +kernel
theorem dL_law_589 : decode cL_law 589 = .ok (.iadd, 1) := by decide +kernel
theorem dL_law_590 : decode cL_law 590 = .ok (.iaload, 1) := by decide +kernel
theorem dL_law_591 : decode cL_law 591 = .ok (.invokevirtual 83, 3) := by decide +kernel
theorem dL_law_594 : decode cL_law 594 = .ok (.aload_n 2, 1) := by decide +kernel
theorem dL_law_595 : decode cL_law 595 = .ok (.aload_n 0, 1) := by decide +kernel
theorem dL_law_596 : decode cL_law 596 = .ok (.iload 4, 2) := by decide +kernel
theorem dL_law_598 : decode cL_law 598 = .ok (.iconst 1, 1) := by decide +kernel
theorem dL_law_599 : decode cL_law 599 = .ok (.iadd, 1) := by decide +kernel
theorem dL_law_600 : decode cL_law 600 = .ok (.iaload, 1) := by decide +kernel
theorem dL_law_601 : decode cL_law 601 = .ok (.aload_n 0, 1) := by decide +kernel
theorem dL_law_602 : decode cL_law 602 = .ok (.iload 4, 2) := by decide +kernel
theorem dL_law_604 : decode cL_law 604 = .ok (.iconst 2, 1) := by decide +kernel
theorem dL_law_605 : decode cL_law 605 = .ok (.iadd, 1) := by decide +kernel
theorem dL_law_606 : decode cL_law 606 = .ok (.iaload, 1) := by decide +kernel
theorem dL_law_607 : decode cL_law 607 = .ok (.aload_n 0, 1) := by decide +kernel
theorem dL_law_608 : decode cL_law 608 = .ok (.iload 4, 2) := by decide +kernel
theorem dL_law_610 : decode cL_law 610 = .ok (.iconst 3, 1) := by decide +kernel
theorem dL_law_611 : decode cL_law 611 = .ok (.iadd, 1) := by decide +kernel
theorem dL_law_612 : decode cL_law 612 = .ok (.iaload, 1) := by decide +kernel
theorem dL_law_613 : decode cL_law 613 = .ok (.aload_n 0, 1) := by decide +kernel
theorem dL_law_614 : decode cL_law 614 = .ok (.iload 4, 2) := by decide +kernel
theorem dL_law_616 : decode cL_law 616 = .ok (.iconst 4, 1) := by decide +kernel
theorem dL_law_617 : decode cL_law 617 = .ok (.iadd, 1) := by decide +kernel
theorem dL_law_618 : decode cL_law 618 = .ok (.iaload, 1) := by decide +kernel
theorem dL_law_619 : decode cL_law 619 = .ok (.invokevirtual 86, 3) := by decide +kernel
theorem dL_law_622 : decode cL_law 622 = .ok (.if_icmp .eq 810, 3) := by decide +kernel
theorem dL_law_625 : decode cL_law 625 = .ok (.iconst 0, 1) := by decide +kernel
theorem dL_law_626 : decode cL_law 626 = .ok (.ireturn, 1) := by decide +kernel
theorem dL_law_627 : decode cL_law 627 = .ok (.aload_n 1, 1) := by decide +kernel
theorem dL_law_628 : decode cL_law 628 = .ok (.aload_n 0, 1) := by decide +kernel
theorem dL_law_629 : decode cL_law 629 = .ok (.iload 4, 2) := by decide +kernel
theorem dL_law_631 : decode cL_law 631 = .ok (.iconst 1, 1) := by decide +kernel
theorem dL_law_632 : decode cL_law 632 = .ok (.iadd, 1) := by decide +kernel
theorem dL_law_633 : decode cL_law 633 = .ok (.iaload, 1) := by decide +kernel
theorem dL_law_634 : decode cL_law 634 = .ok (.aload_n 0, 1) := by decide +kernel
theorem dL_law_635 : decode cL_law 635 = .ok (.iload 4, 2) := by decide +kernel
theorem dL_law_637 : decode cL_law 637 = .ok (.iconst 2, 1) := by decide +kernel
theorem dL_law_638 : decode cL_law 638 = .ok (.iadd, 1) := by decide +kernel
theorem dL_law_639 : decode cL_law 639 = .ok (.iaload, 1) := by decide +kernel
theorem dL_law_640 : decode cL_law 640 = .ok (.aload_n 0, 1) := by decide +kernel
theorem dL_law_641 : decode cL_law 641 = .ok (.iload 4, 2) := by decide +kernel
theorem dL_law_643 : decode cL_law 643 = .ok (.iconst 3, 1) := by decide +kernel
theorem dL_law_644 : decode cL_law 644 = .ok (.iadd, 1) := by decide +kernel
theorem dL_law_645 : decode cL_law 645 = .ok (.iaload, 1) := by decide +kernel
theorem dL_law_646 : decode cL_law 646 = .ok (.invokevirtual 87, 3) := by decide +kernel
theorem dL_law_649 : decode cL_law 649 = .ok (.aload_n 2, 1) := by decide +kernel
theorem dL_law_650 : decode cL_law 650 = .ok (.aload_n 0, 1) := by decide +kernel
theorem dL_law_651 : decode cL_law 651 = .ok (.iload 4, 2) := by decide +kernel
theorem dL_law_653 : decode cL_law 653 = .ok (.iconst 1, 1) := by decide +kernel
theorem dL_law_654 : decode cL_law 654 = .ok (.iadd, 1) := by decide +kernel
theorem dL_law_655 : decode cL_law 655 = .ok (.iaload, 1) := by decide +kernel
theorem dL_law_656 : decode cL_law 656 = .ok (.aload_n 0, 1) := by decide +kernel
theorem dL_law_657 : decode cL_law 657 = .ok (.iload 4, 2) := by decide +kernel
theorem dL_law_659 : decode cL_law 659 = .ok (.iconst 2, 1) := by decide +kernel
theorem dL_law_660 : decode cL_law 660 = .ok (.iadd, 1) := by decide +kernel
theorem dL_law_661 : decode cL_law 661 = .ok (.iaload, 1) := by decide +kernel
theorem dL_law_662 : decode cL_law 662 = .ok (.aload_n 0, 1) := by decide +kernel
theorem dL_law_663 : decode cL_law 663 = .ok (.iload 4, 2) := by decide +kernel
theorem dL_law_665 : decode cL_law 665 = .ok (.iconst 3, 1) := by decide +kernel
theorem dL_law_666 : decode cL_law 666 = .ok (.iadd, 1) := by decide +kernel
theorem dL_law_667 : decode cL_law 667 = .ok (.iaload, 1) := by decide +kernel
theorem dL_law_668 : decode cL_law 668 = .ok (.invokevirtual 90, 3) := by decide +kernel
theorem dL_law_671 : decode cL_law 671 = .ok (.if_icmp .eq 761, 3) := by decide +kernel
theorem dL_law_674 : decode cL_law 674 = .ok (.iconst 0, 1) := by decide +kernel
theorem dL_law_675 : decode cL_law 675 = .ok (.ireturn, 1) := by decide +kernel
theorem dL_law_676 : decode cL_law 676 = .ok (.aload_n 1, 1) := by decide +kernel
theorem dL_law_677 : decode cL_law 677 = .ok (.invokevirtual 91, 3) := by decide +kernel
theorem dL_law_680 : decode cL_law 680 = .ok (.aload_n 2, 1) := by decide +kernel
theorem dL_law_681 : decode cL_law 681 = .ok (.invokevirtual 94, 3) := by decide +kernel
theorem dL_law_684 : decode cL_law 684 = .ok (.if_icmp .eq 748, 3) := by decide +kernel
theorem dL_law_687 : decode cL_law 687 = .ok (.iconst 0, 1) := by decide +kernel
theorem dL_law_688 : decode cL_law 688 = .ok (.ireturn, 1) := by decide +kernel
theorem dL_law_689 : decode cL_law 689 = .ok (.aload_n 1, 1) := by decide +kernel
theorem dL_law_690 : decode cL_law 690 = .ok (.aload_n 0, 1) := by decide +kernel
theorem dL_law_691 : decode cL_law 691 = .ok (.iload 4, 2) := by decide +kernel
theorem dL_law_693 : decode cL_law 693 = .ok (.iconst 1, 1) := by decide +kernel
theorem dL_law_694 : decode cL_law 694 = .ok (.iadd, 1) := by decide +kernel
theorem dL_law_695 : decode cL_law 695 = .ok (.iaload, 1) := by decide +kernel
theorem dL_law_696 : decode cL_law 696 = .ok (.invokevirtual 95, 3) := by decide +kernel
theorem dL_law_699 : decode cL_law 699 = .ok (.aload_n 2, 1) := by decide +kernel
theorem dL_law_700 : decode cL_law 700 = .ok (.aload_n 0, 1) := by decide +kernel
theorem dL_law_701 : decode cL_law 701 = .ok (.iload 4, 2) := by decide +kernel
theorem dL_law_703 : decode cL_law 703 = .ok (.iconst 1, 1) := by decide +kernel
theorem dL_law_704 : decode cL_law 704 = .ok (.iadd, 1) := by decide +kernel
theorem dL_law_705 : decode cL_law 705 = .ok (.iaload, 1) := by decide +kernel
theorem dL_law_706 : decode cL_law 706 = .ok (.invokevirtual 98, 3) := by decide +kernel
theorem dL_law_709 : decode cL_law 709 = .ok (.if_icmp .eq 723, 3) := by decide +kernel
theorem dL_law_712 : decode cL_law 712 = .ok (.iconst 0, 1) := by decide +kernel
theorem dL_law_713 : decode cL_law 713 = .ok (.ireturn, 1) := by decide +kernel
theorem dL_law_714 : decode cL_law 714 = .ok (.aload_n 1, 1) := by decide +kernel
theorem dL_law_715 : decode cL_law 715 = .ok (.invokevirtual 99, 3) := by decide +kernel
theorem dL_law_718 : decode cL_law 718 = .ok (.aload_n 2, 1) := by decide +kernel
theorem dL_law_719 : decode cL_law 719 = .ok (.invokevirtual 102, 3) := by decide +kernel
theorem dL_law_722 : decode cL_law 722 = .ok (.if_icmp .eq 710, 3) := by decide +kernel
theorem dL_law_725 : decode cL_law 725 = .ok (.iconst 0, 1) := by decide +kernel
theorem dL_law_726 : decode cL_law 726 = .ok (.ireturn, 1) := by decide +kernel
theorem dL_law_727 : decode cL_law 727 = .ok (.aload_n 1, 1) := by decide +kernel
theorem dL_law_728 : decode cL_law 728 = .ok (.aload_n 0, 1) := by decide +kernel
theorem dL_law_729 : decode cL_law 729 = .ok (.iload 4, 2) := by decide +kernel
theorem dL_law_731 : decode cL_law 731 = .ok (.iconst 1, 1) := by decide +kernel
theorem dL_law_732 : decode cL_law 732 = .ok (.iadd, 1) := by decide +kernel
theorem dL_law_733 : decode cL_law 733 = .ok (.iaload, 1) := by decide +kernel
theorem dL_law_734 : decode cL_law 734 = .ok (.aload_n 0, 1) := by decide +kernel
theorem dL_law_735 : decode cL_law 735 = .ok (.iload 4, 2) := by decide +kernel
theorem dL_law_737 : decode cL_law 737 = .ok (.iconst 2, 1) := by decide +kernel
theorem dL_law_738 : decode cL_law 738 = .ok (.iadd, 1) := by decide +kernel
theorem dL_law_739 : decode cL_law 739 = .ok (.iaload, 1) := by decide +kernel
theorem dL_law_740 : decode cL_law 740 = .ok (.aload_n 0, 1) := by decide +kernel
theorem dL_law_741 : decode cL_law 741 = .ok (.iload 4, 2) := by decide +kernel
theorem dL_law_743 : decode cL_law 743 = .ok (.iconst 3, 1) := by decide +kernel
theorem dL_law_744 : decode cL_law 744 = .ok (.iadd, 1) := by decide +kernel
theorem dL_law_745 : decode cL_law 745 = .ok (.iaload, 1) := by decide +kernel
theorem dL_law_746 : decode cL_law 746 = .ok (.aload_n 0, 1) := by decide +kernel
theorem dL_law_747 : decode cL_law 747 = .ok (.iload 4, 2) := by decide +kernel
theorem dL_law_749 : decode cL_law 749 = .ok (.iconst 4, 1) := by decide +kernel
theorem dL_law_750 : decode cL_law 750 = .ok (.iadd, 1) := by decide +kernel
theorem dL_law_751 : decode cL_law 751 = .ok (.iaload, 1) := by decide +kernel
theorem dL_law_752 : decode cL_law 752 = .ok (.aload_n 0, 1) := by decide +kernel
theorem dL_law_753 : decode cL_law 753 = .ok (.iload 4, 2) := by decide +kernel
theorem dL_law_755 : decode cL_law 755 = .ok (.iconst 5, 1) := by decide +kernel
theorem dL_law_756 : decode cL_law 756 = .ok (.iadd, 1) := by decide +kernel
theorem dL_law_757 : decode cL_law 757 = .ok (.iaload, 1) := by decide +kernel
theorem dL_law_758 : decode cL_law 758 = .ok (.ifCond .eq 7, 3) := by decide +kernel
theorem dL_law_761 : decode cL_law 761 = .ok (.iconst 1, 1) := by decide +kernel
theorem dL_law_762 : decode cL_law 762 = .ok (.goto 4, 3) := by decide +kernel
theorem dL_law_765 : decode cL_law 765 = .ok (.iconst 0, 1) := by decide +kernel
theorem dL_law_766 : decode cL_law 766 = .ok (.aload_n 3, 1) := by decide +kernel
theorem dL_law_767 : decode cL_law 767 = .ok (.invokestatic 103, 3) := by decide +kernel
theorem dL_law_770 : decode cL_law 770 = .ok (.istore 5, 2) := by decide +kernel
theorem dL_law_772 : decode cL_law 772 = .ok (.aload_n 2, 1) := by decide +kernel
theorem dL_law_773 : decode cL_law 773 = .ok (.aload_n 0, 1) := by decide +kernel
theorem dL_law_774 : decode cL_law 774 = .ok (.iload 4, 2) := by decide +kernel
theorem dL_law_776 : decode cL_law 776 = .ok (.iconst 1, 1) := by decide +kernel
theorem dL_law_777 : decode cL_law 777 = .ok (.iadd, 1) := by decide +kernel
theorem dL_law_778 : decode cL_law 778 = .ok (.iaload, 1) := by decide +kernel
theorem dL_law_779 : decode cL_law 779 = .ok (.aload_n 0, 1) := by decide +kernel
theorem dL_law_780 : decode cL_law 780 = .ok (.iload 4, 2) := by decide +kernel
theorem dL_law_782 : decode cL_law 782 = .ok (.iconst 2, 1) := by decide +kernel
theorem dL_law_783 : decode cL_law 783 = .ok (.iadd, 1) := by decide +kernel
theorem dL_law_784 : decode cL_law 784 = .ok (.iaload, 1) := by decide +kernel
theorem dL_law_785 : decode cL_law 785 = .ok (.aload_n 0, 1) := by decide +kernel
theorem dL_law_786 : decode cL_law 786 = .ok (.iload 4, 2) := by decide +kernel
theorem dL_law_788 : decode cL_law 788 = .ok (.iconst 3, 1) := by decide +kernel
theorem dL_law_789 : decode cL_law 789 = .ok (.iadd, 1) := by decide +kernel
theorem dL_law_790 : decode cL_law 790 = .ok (.iaload, 1) := by decide +kernel
theorem dL_law_791 : decode cL_law 791 = .ok (.aload_n 0, 1) := by decide +kernel
theorem dL_law_792 : decode cL_law 792 = .ok (.iload 4, 2) := by decide +kernel
theorem dL_law_794 : decode cL_law 794 = .ok (.iconst 4, 1) := by decide +kernel
theorem dL_law_795 : decode cL_law 795 = .ok (.iadd, 1) := by decide +kernel
theorem dL_law_796 : decode cL_law 796 = .ok (.iaload, 1) := by decide +kernel
theorem dL_law_797 : decode cL_law 797 = .ok (.aload_n 0, 1) := by decide +kernel
theorem dL_law_798 : decode cL_law 798 = .ok (.iload 4, 2) := by decide +kernel
theorem dL_law_800 : decode cL_law 800 = .ok (.iconst 5, 1) := by decide +kernel
theorem dL_law_801 : decode cL_law 801 = .ok (.iadd, 1) := by decide +kernel
theorem dL_law_802 : decode cL_law 802 = .ok (.iaload, 1) := by decide +kernel
theorem dL_law_803 : decode cL_law 803 = .ok (.ifCond .eq 7, 3) := by decide +kernel
theorem dL_law_806 : decode cL_law 806 = .ok (.iconst 1, 1) := by decide +kernel
theorem dL_law_807 : decode cL_law 807 = .ok (.goto 4, 3) := by decide +kernel
theorem dL_law_810 : decode cL_law 810 = .ok (.iconst 0, 1) := by decide +kernel
theorem dL_law_811 : decode cL_law 811 = .ok (.invokevirtual 106, 3) := by decide +kernel
theorem dL_law_814 : decode cL_law 814 = .ok (.lstore 6, 2) := by decide +kernel
theorem dL_law_816 : decode cL_law 816 = .ok (.aload_n 2, 1) := by decide +kernel
theorem dL_law_817 : decode cL_law 817 = .ok (.invokevirtual 63, 3) := by decide +kernel
theorem dL_law_820 : decode cL_law 820 = .ok (.iload 5, 2) := by decide +kernel
theorem dL_law_822 : decode cL_law 822 = .ok (.if_icmp .eq 5, 3) := by decide +kernel
theorem dL_law_825 : decode cL_law 825 = .ok (.iconst 0, 1) := by decide +kernel
theorem dL_law_826 : decode cL_law 826 = .ok (.ireturn, 1) := by decide +kernel
theorem dL_law_827 : decode cL_law 827 = .ok (.iload 5, 2) := by decide +kernel
theorem dL_law_829 : decode cL_law 829 = .ok (.ifCond .ne 14, 3) := by decide +kernel
theorem dL_law_832 : decode cL_law 832 = .ok (.aload_n 3, 1) := by decide +kernel
theorem dL_law_833 : decode cL_law 833 = .ok (.iconst 0, 1) := by decide +kernel
theorem dL_law_834 : decode cL_law 834 = .ok (.laload, 1) := by decide +kernel
theorem dL_law_835 : decode cL_law 835 = .ok (.lload 6, 2) := by decide +kernel
theorem dL_law_837 : decode cL_law 837 = .ok (.lcmp, 1) := by decide +kernel
theorem dL_law_838 : decode cL_law 838 = .ok (.ifCond .eq 5, 3) := by decide +kernel
theorem dL_law_841 : decode cL_law 841 = .ok (.iconst 0, 1) := by decide +kernel
theorem dL_law_842 : decode cL_law 842 = .ok (.ireturn, 1) := by decide +kernel
theorem dL_law_843 : decode cL_law 843 = .ok (.goto 589, 3) := by decide +kernel
theorem dL_law_846 : decode cL_law 846 = .ok (.aload_n 1, 1) := by decide +kernel
theorem dL_law_847 : decode cL_law 847 = .ok (.aload_n 0, 1) := by decide +kernel
theorem dL_law_848 : decode cL_law 848 = .ok (.iload 4, 2) := by decide +kernel
theorem dL_law_850 : decode cL_law 850 = .ok (.iconst 1, 1) := by decide +kernel
theorem dL_law_851 : decode cL_law 851 = .ok (.iadd, 1) := by decide +kernel
theorem dL_law_852 : decode cL_law 852 = .ok (.iaload, 1) := by decide +kernel
theorem dL_law_853 : decode cL_law 853 = .ok (.aload_n 0, 1) := by decide +kernel
theorem dL_law_854 : decode cL_law 854 = .ok (.iload 4, 2) := by decide +kernel
theorem dL_law_856 : decode cL_law 856 = .ok (.iconst 2, 1) := by decide +kernel
theorem dL_law_857 : decode cL_law 857 = .ok (.iadd, 1) := by decide +kernel
theorem dL_law_858 : decode cL_law 858 = .ok (.iaload, 1) := by decide +kernel
theorem dL_law_859 : decode cL_law 859 = .ok (.aload_n 0, 1) := by decide +kernel
theorem dL_law_860 : decode cL_law 860 = .ok (.iload 4, 2) := by decide +kernel
theorem dL_law_862 : decode cL_law 862 = .ok (.iconst 3, 1) := by decide +kernel
theorem dL_law_863 : decode cL_law 863 = .ok (.iadd, 1) := by decide +kernel
theorem dL_law_864 : decode cL_law 864 = .ok (.iaload, 1) := by decide +kernel
theorem dL_law_865 : decode cL_law 865 = .ok (.invokevirtual 107, 3) := by decide +kernel
theorem dL_law_868 : decode cL_law 868 = .ok (.aload_n 2, 1) := by decide +kernel
theorem dL_law_869 : decode cL_law 869 = .ok (.aload_n 0, 1) := by decide +kernel
theorem dL_law_870 : decode cL_law 870 = .ok (.iload 4, 2) := by decide +kernel
theorem dL_law_872 : decode cL_law 872 = .ok (.iconst 1, 1) := by decide +kernel
theorem dL_law_873 : decode cL_law 873 = .ok (.iadd, 1) := by decide +kernel
theorem dL_law_874 : decode cL_law 874 = .ok (.iaload, 1) := by decide +kernel
theorem dL_law_875 : decode cL_law 875 = .ok (.aload_n 0, 1) := by decide +kernel
theorem dL_law_876 : decode cL_law 876 = .ok (.iload 4, 2) := by decide +kernel
theorem dL_law_878 : decode cL_law 878 = .ok (.iconst 2, 1) := by decide +kernel
theorem dL_law_879 : decode cL_law 879 = .ok (.iadd, 1) := by decide +kernel
theorem dL_law_880 : decode cL_law 880 = .ok (.iaload, 1) := by decide +kernel
theorem dL_law_881 : decode cL_law 881 = .ok (.aload_n 0, 1) := by decide +kernel
theorem dL_law_882 : decode cL_law 882 = .ok (.iload 4, 2) := by decide +kernel
theorem dL_law_884 : decode cL_law 884 = .ok (.iconst 3, 1) := by decide +kernel
theorem dL_law_885 : decode cL_law 885 = .ok (.iadd, 1) := by decide +kernel
theorem dL_law_886 : decode cL_law 886 = .ok (.iaload, 1) := by decide +kernel
theorem dL_law_887 : decode cL_law 887 = .ok (.invokevirtual 110, 3) := by decide +kernel
theorem dL_law_890 : decode cL_law 890 = .ok (.if_icmp .eq 542, 3) := by decide +kernel
theorem dL_law_893 : decode cL_law 893 = .ok (.iconst 0, 1) := by decide +kernel
theorem dL_law_894 : decode cL_law 894 = .ok (.ireturn, 1) := by decide +kernel
theorem dL_law_895 : decode cL_law 895 = .ok (.aload_n 1, 1) := by decide +kernel
theorem dL_law_896 : decode cL_law 896 = .ok (.aload_n 0, 1) := by decide +kernel
theorem dL_law_897 : decode cL_law 897 = .ok (.iload 4, 2) := by decide +kernel
theorem dL_law_899 : decode cL_law 899 = .ok (.iconst 1, 1) := by decide +kernel
theorem dL_law_900 : decode cL_law 900 = .ok (.iadd, 1) := by decide +kernel
theorem dL_law_901 : decode cL_law 901 = .ok (.iaload, 1) := by decide +kernel
theorem dL_law_902 : decode cL_law 902 = .ok (.aload_n 0, 1) := by decide +kernel
theorem dL_law_903 : decode cL_law 903 = .ok (.iload 4, 2) := by decide +kernel
theorem dL_law_905 : decode cL_law 905 = .ok (.iconst 2, 1) := by decide +kernel
theorem dL_law_906 : decode cL_law 906 = .ok (.iadd, 1) := by decide +kernel
theorem dL_law_907 : decode cL_law 907 = .ok (.iaload, 1) := by decide +kernel
theorem dL_law_908 : decode cL_law 908 = .ok (.invokevirtual 111, 3) := by decide +kernel
theorem dL_law_911 : decode cL_law 911 = .ok (.aload_n 2, 1) := by decide +kernel
theorem dL_law_912 : decode cL_law 912 = .ok (.aload_n 0, 1) := by decide +kernel
theorem dL_law_913 : decode cL_law 913 = .ok (.iload 4, 2) := by decide +kernel
theorem dL_law_915 : decode cL_law 915 = .ok (.iconst 1, 1) := by decide +kernel
theorem dL_law_916 : decode cL_law 916 = .ok (.iadd, 1) := by decide +kernel
theorem dL_law_917 : decode cL_law 917 = .ok (.iaload, 1) := by decide +kernel
theorem dL_law_918 : decode cL_law 918 = .ok (.aload_n 0, 1) := by decide +kernel
theorem dL_law_919 : decode cL_law 919 = .ok (.iload 4, 2) := by decide +kernel
theorem dL_law_921 : decode cL_law 921 = .ok (.iconst 2, 1) := by decide +kernel
theorem dL_law_922 : decode cL_law 922 = .ok (.iadd, 1) := by decide +kernel
theorem dL_law_923 : decode cL_law 923 = .ok (.iaload, 1) := by decide +kernel
theorem dL_law_924 : decode cL_law 924 = .ok (.invokevirtual 114, 3) := by decide +kernel
theorem dL_law_927 : decode cL_law 927 = .ok (.if_icmp .eq 505, 3) := by decide +kernel
theorem dL_law_930 : decode cL_law 930 = .ok (.iconst 0, 1) := by decide +kernel
theorem dL_law_931 : decode cL_law 931 = .ok (.ireturn, 1) := by decide +kernel
theorem dL_law_932 : decode cL_law 932 = .ok (.aload_n 1, 1) := by decide +kernel
theorem dL_law_933 : decode cL_law 933 = .ok (.invokevirtual 115, 3) := by decide +kernel
theorem dL_law_936 : decode cL_law 936 = .ok (.aload_n 2, 1) := by decide +kernel
theorem dL_law_937 : decode cL_law 937 = .ok (.invokevirtual 118, 3) := by decide +kernel
theorem dL_law_940 : decode cL_law 940 = .ok (.if_icmp .eq 492, 3) := by decide +kernel
theorem dL_law_943 : decode cL_law 943 = .ok (.iconst 0, 1) := by decide +kernel
theorem dL_law_944 : decode cL_law 944 = .ok (.ireturn, 1) := by decide +kernel
theorem dL_law_945 : decode cL_law 945 = .ok (.aload_n 1, 1) := by decide +kernel
theorem dL_law_946 : decode cL_law 946 = .ok (.aload_n 0, 1) := by decide +kernel
theorem dL_law_947 : decode cL_law 947 = .ok (.iload 4, 2) := by decide +kernel
theorem dL_law_949 : decode cL_law 949 = .ok (.iconst 1, 1) := by decide +kernel
theorem dL_law_950 : decode cL_law 950 = .ok (.iadd, 1) := by decide +kernel
theorem dL_law_951 : decode cL_law 951 = .ok (.iaload, 1) := by decide +kernel
theorem dL_law_952 : decode cL_law 952 = .ok (.aload_n 0, 1) := by decide +kernel
theorem dL_law_953 : decode cL_law 953 = .ok (.iload 4, 2) := by decide +kernel
theorem dL_law_955 : decode cL_law 955 = .ok (.iconst 2, 1) := by decide +kernel
theorem dL_law_956 : decode cL_law 956 = .ok (.iadd, 1) := by decide +kernel
theorem dL_law_957 : decode cL_law 957 = .ok (.iaload, 1) := by decide +kernel
theorem dL_law_958 : decode cL_law 958 = .ok (.invokevirtual 119, 3) := by decide +kernel
theorem dL_law_961 : decode cL_law 961 = .ok (.aload_n 2, 1) := by decide +kernel
theorem dL_law_962 : decode cL_law 962 = .ok (.aload_n 0, 1) := by decide +kernel
theorem dL_law_963 : decode cL_law 963 = .ok (.iload 4, 2) := by decide +kernel
theorem dL_law_965 : decode cL_law 965 = .ok (.iconst 1, 1) := by decide +kernel
theorem dL_law_966 : decode cL_law 966 = .ok (.iadd, 1) := by decide +kernel
theorem dL_law_967 : decode cL_law 967 = .ok (.iaload, 1) := by decide +kernel
theorem dL_law_968 : decode cL_law 968 = .ok (.aload_n 0, 1) := by decide +kernel
theorem dL_law_969 : decode cL_law 969 = .ok (.iload 4, 2) := by decide +kernel
theorem dL_law_971 : decode cL_law 971 = .ok (.iconst 2, 1) := by decide +kernel
theorem dL_law_972 : decode cL_law 972 = .ok (.iadd, 1) := by decide +kernel
theorem dL_law_973 : decode cL_law 973 = .ok (.iaload, 1) := by decide +kernel
theorem dL_law_974 : decode cL_law 974 = .ok (.invokevirtual 122, 3) := by decide +kernel
theorem dL_law_977 : decode cL_law 977 = .ok (.if_icmp .eq 455, 3) := by decide +kernel
theorem dL_law_980 : decode cL_law 980 = .ok (.iconst 0, 1) := by decide +kernel
theorem dL_law_981 : decode cL_law 981 = .ok (.ireturn, 1) := by decide +kernel
theorem dL_law_982 : decode cL_law 982 = .ok (.aload_n 1, 1) := by decide +kernel
theorem dL_law_983 : decode cL_law 983 = .ok (.aload_n 0, 1) := by decide +kernel
theorem dL_law_984 : decode cL_law 984 = .ok (.iload 4, 2) := by decide +kernel
theorem dL_law_986 : decode cL_law 986 = .ok (.iconst 1, 1) := by decide +kernel
theorem dL_law_987 : decode cL_law 987 = .ok (.iadd, 1) := by decide +kernel
theorem dL_law_988 : decode cL_law 988 = .ok (.iaload, 1) := by decide +kernel
theorem dL_law_989 : decode cL_law 989 = .ok (.aload_n 0, 1) := by decide +kernel
theorem dL_law_990 : decode cL_law 990 = .ok (.iload 4, 2) := by decide +kernel
theorem dL_law_992 : decode cL_law 992 = .ok (.iconst 2, 1) := by decide +kernel
theorem dL_law_993 : decode cL_law 993 = .ok (.iadd, 1) := by decide +kernel
theorem dL_law_994 : decode cL_law 994 = .ok (.iaload, 1) := by decide +kernel
theorem dL_law_995 : decode cL_law 995 = .ok (.invokevirtual 123, 3) := by decide +kernel
theorem dL_law_998 : decode cL_law 998 = .ok (.aload_n 2, 1) := by decide +kernel
theorem dL_law_999 : decode cL_law 999 = .ok (.aload_n 0, 1) := by decide +kernel
theorem dL_law_1000 : decode cL_law 1000 = .ok (.iload 4, 2) := by decide +kernel
theorem dL_law_1002 : decode cL_law 1002 = .ok (.iconst 1, 1) := by decide +kernel
theorem dL_law_1003 : decode cL_law 1003 = .ok (.iadd, 1) := by decide +kernel
theorem dL_law_1004 : decode cL_law 1004 = .ok (.iaload, 1) := by decide +kernel
theorem dL_law_1005 : decode cL_law 1005 = .ok (.aload_n 0, 1) := by decide +kernel
theorem dL_law_1006 : decode cL_law 1006 = .ok (.iload 4, 2) := by decide +kernel
theorem dL_law_1008 : decode cL_law 1008 = .ok (.iconst 2, 1) := by decide +kernel
theorem dL_law_1009 : decode cL_law 1009 = .ok (.iadd, 1) := by decide +kernel
theorem dL_law_1010 : decode cL_law 1010 = .ok (.iaload, 1) := by decide +kernel
theorem dL_law_1011 : decode cL_law 1011 = .ok (.invokevirtual 126, 3) := by decide +kernel
theorem dL_law_1014 : decode cL_law 1014 = .ok (.if_icmp .eq 418, 3) := by decide +kernel
theorem dL_law_1017 : decode cL_law 1017 = .ok (.iconst 0, 1) := by decide +kernel
theorem dL_law_1018 : decode cL_law 1018 = .ok (.ireturn, 1) := by decide +kernel
theorem dL_law_1019 : decode cL_law 1019 = .ok (.aload_n 1, 1) := by decide +kernel
theorem dL_law_1020 : decode cL_law 1020 = .ok (.aload_n 0, 1) := by decide +kernel
theorem dL_law_1021 : decode cL_law 1021 = .ok (.iload 4, 2) := by decide +kernel
theorem dL_law_1023 : decode cL_law 1023 = .ok (.iconst 1, 1) := by decide +kernel
theorem dL_law_1024 : decode cL_law 1024 = .ok (.iadd, 1) := by decide +kernel
theorem dL_law_1025 : decode cL_law 1025 = .ok (.iaload, 1) := by decide +kernel
theorem dL_law_1026 : decode cL_law 1026 = .ok (.aload_n 0, 1) := by decide +kernel
theorem dL_law_1027 : decode cL_law 1027 = .ok (.iload 4, 2) := by decide +kernel
theorem dL_law_1029 : decode cL_law 1029 = .ok (.iconst 2, 1) := by decide +kernel
theorem dL_law_1030 : decode cL_law 1030 = .ok (.iadd, 1) := by decide +kernel
theorem dL_law_1031 : decode cL_law 1031 = .ok (.iaload, 1) := by decide +kernel
theorem dL_law_1032 : decode cL_law 1032 = .ok (.invokevirtual 127, 3) := by decide +kernel
theorem dL_law_1035 : decode cL_law 1035 = .ok (.aload_n 2, 1) := by decide +kernel
theorem dL_law_1036 : decode cL_law 1036 = .ok (.aload_n 0, 1) := by decide +kernel
theorem dL_law_1037 : decode cL_law 1037 = .ok (.iload 4, 2) := by decide +kernel
theorem dL_law_1039 : decode cL_law 1039 = .ok (.iconst 1, 1) := by decide +kernel
theorem dL_law_1040 : decode cL_law 1040 = .ok (.iadd, 1) := by decide +kernel
theorem dL_law_1041 : decode cL_law 1041 = .ok (.iaload, 1) := by decide +kernel
theorem dL_law_1042 : decode cL_law 1042 = .ok (.aload_n 0, 1) := by decide +kernel
theorem dL_law_1043 : decode cL_law 1043 = .ok (.iload 4, 2) := by decide +kernel
theorem dL_law_1045 : decode cL_law 1045 = .ok (.iconst 2, 1) := by decide +kernel
theorem dL_law_1046 : decode cL_law 1046 = .ok (.iadd, 1) := by decide +kernel
theorem dL_law_1047 : decode cL_law 1047 = .ok (.iaload, 1) := by decide +kernel
theorem dL_law_1048 : decode cL_law 1048 = .ok (.invokevirtual 130, 3) := by decide +kernel
theorem dL_law_1051 : decode cL_law 1051 = .ok (.if_icmp .eq 381, 3) := by decide +kernel
theorem dL_law_1054 : decode cL_law 1054 = .ok (.iconst 0, 1) := by decide +kernel
theorem dL_law_1055 : decode cL_law 1055 = .ok (.ireturn, 1) := by decide +kernel
theorem dL_law_1056 : decode cL_law 1056 = .ok (.aload_n 1, 1) := by decide +kernel
theorem dL_law_1057 : decode cL_law 1057 = .ok (.aload_n 0, 1) := by decide +kernel
theorem dL_law_1058 : decode cL_law 1058 = .ok (.iload 4, 2) := by decide +kernel
theorem dL_law_1060 : decode cL_law 1060 = .ok (.iconst 1, 1) := by decide +kernel
theorem dL_law_1061 : decode cL_law 1061 = .ok (.iadd, 1) := by decide +kernel
theorem dL_law_1062 : decode cL_law 1062 = .ok (.iaload, 1) := by decide +kernel
theorem dL_law_1063 : decode cL_law 1063 = .ok (.invokevirtual 131, 3) := by decide +kernel
theorem dL_law_1066 : decode cL_law 1066 = .ok (.aload_n 2, 1) := by decide +kernel
theorem dL_law_1067 : decode cL_law 1067 = .ok (.aload_n 0, 1) := by decide +kernel
theorem dL_law_1068 : decode cL_law 1068 = .ok (.iload 4, 2) := by decide +kernel
theorem dL_law_1070 : decode cL_law 1070 = .ok (.iconst 1, 1) := by decide +kernel
theorem dL_law_1071 : decode cL_law 1071 = .ok (.iadd, 1) := by decide +kernel
theorem dL_law_1072 : decode cL_law 1072 = .ok (.iaload, 1) := by decide +kernel
theorem dL_law_1073 : decode cL_law 1073 = .ok (.invokevirtual 134, 3) := by decide +kernel
theorem dL_law_1076 : decode cL_law 1076 = .ok (.if_icmp .eq 356, 3) := by decide +kernel
theorem dL_law_1079 : decode cL_law 1079 = .ok (.iconst 0, 1) := by decide +kernel
theorem dL_law_1080 : decode cL_law 1080 = .ok (.ireturn, 1) := by decide +kernel
theorem dL_law_1081 : decode cL_law 1081 = .ok (.aload_n 1, 1) := by decide +kernel
theorem dL_law_1082 : decode cL_law 1082 = .ok (.aload_n 0, 1) := by decide +kernel
theorem dL_law_1083 : decode cL_law 1083 = .ok (.iload 4, 2) := by decide +kernel
theorem dL_law_1085 : decode cL_law 1085 = .ok (.iconst 1, 1) := by decide +kernel
theorem dL_law_1086 : decode cL_law 1086 = .ok (.iadd, 1) := by decide +kernel
theorem dL_law_1087 : decode cL_law 1087 = .ok (.iaload, 1) := by decide +kernel
theorem dL_law_1088 : decode cL_law 1088 = .ok (.invokevirtual 135, 3) := by decide +kernel
theorem dL_law_1091 : decode cL_law 1091 = .ok (.aload_n 2, 1) := by decide +kernel
theorem dL_law_1092 : decode cL_law 1092 = .ok (.aload_n 0, 1) := by decide +kernel
theorem dL_law_1093 : decode cL_law 1093 = .ok (.iload 4, 2) := by decide +kernel
theorem dL_law_1095 : decode cL_law 1095 = .ok (.iconst 1, 1) := by decide +kernel
theorem dL_law_1096 : decode cL_law 1096 = .ok (.iadd, 1) := by decide +kernel
theorem dL_law_1097 : decode cL_law 1097 = .ok (.iaload, 1) := by decide +kernel
theorem dL_law_1098 : decode cL_law 1098 = .ok (.invokevirtual 138, 3) := by decide +kernel
theorem dL_law_1101 : decode cL_law 1101 = .ok (.if_icmp .eq 331, 3) := by decide +kernel
theorem dL_law_1104 : decode cL_law 1104 = .ok (.iconst 0, 1) := by decide +kernel
theorem dL_law_1105 : decode cL_law 1105 = .ok (.ireturn, 1) := by decide +kernel
theorem dL_law_1106 : decode cL_law 1106 = .ok (.aload_n 1, 1) := by decide +kernel
theorem dL_law_1107 : decode cL_law 1107 = .ok (.invokevirtual 139, 3) := by decide +kernel
theorem dL_law_1110 : decode cL_law 1110 = .ok (.aload_n 2, 1) := by decide +kernel
theorem dL_law_1111 : decode cL_law 1111 = .ok (.invokevirtual 142, 3) := by decide +kernel
theorem dL_law_1114 : decode cL_law 1114 = .ok (.if_icmp .eq 318, 3) := by decide +kernel
theorem dL_law_1117 : decode cL_law 1117 = .ok (.iconst 0, 1) := by decide +kernel
theorem dL_law_1118 : decode cL_law 1118 = .ok (.ireturn, 1) := by decide +kernel
theorem dL_law_1119 : decode cL_law 1119 = .ok (.aload_n 1, 1) := by decide +kernel
theorem dL_law_1120 : decode cL_law 1120 = .ok (.aload_n 0, 1) := by decide +kernel
theorem dL_law_1121 : decode cL_law 1121 = .ok (.iload 4, 2) := by decide +kernel
theorem dL_law_1123 : decode cL_law 1123 = .ok (.iconst 1, 1) := by decide +kernel
theorem dL_law_1124 : decode cL_law 1124 = .ok (.iadd, 1) := by decide +kernel
theorem dL_law_1125 : decode cL_law 1125 = .ok (.iaload, 1) := by decide +kernel
theorem dL_law_1126 : decode cL_law 1126 = .ok (.invokevirtual 143, 3) := by decide +kernel
theorem dL_law_1129 : decode cL_law 1129 = .ok (.aload_n 2, 1) := by decide +kernel
theorem dL_law_1130 : decode cL_law 1130 = .ok (.aload_n 0, 1) := by decide +kernel
theorem dL_law_1131 : decode cL_law 1131 = .ok (.iload 4, 2) := by decide +kernel
theorem dL_law_1133 : decode cL_law 1133 = .ok (.iconst 1, 1) := by decide +kernel
theorem dL_law_1134 : decode cL_law 1134 = .ok (.iadd, 1) := by decide +kernel
theorem dL_law_1135 : decode cL_law 1135 = .ok (.iaload, 1) := by decide +kernel
theorem dL_law_1136 : decode cL_law 1136 = .ok (.invokevirtual 146, 3) := by decide +kernel
theorem dL_law_1139 : decode cL_law 1139 = .ok (.if_icmp .eq 293, 3) := by decide +kernel
theorem dL_law_1142 : decode cL_law 1142 = .ok (.iconst 0, 1) := by decide +kernel
theorem dL_law_1143 : decode cL_law 1143 = .ok (.ireturn, 1) := by decide +kernel
theorem dL_law_1144 : decode cL_law 1144 = .ok (.aload_n 1, 1) := by decide +kernel
theorem dL_law_1145 : decode cL_law 1145 = .ok (.aload_n 0, 1) := by decide +kernel
theorem dL_law_1146 : decode cL_law 1146 = .ok (.iload 4, 2) := by decide +kernel
theorem dL_law_1148 : decode cL_law 1148 = .ok (.iconst 1, 1) := by decide +kernel
theorem dL_law_1149 : decode cL_law 1149 = .ok (.iadd, 1) := by decide +kernel
theorem dL_law_1150 : decode cL_law 1150 = .ok (.iaload, 1) := by decide +kernel
theorem dL_law_1151 : decode cL_law 1151 = .ok (.aload_n 0, 1) := by decide +kernel
theorem dL_law_1152 : decode cL_law 1152 = .ok (.iload 4, 2) := by decide +kernel
theorem dL_law_1154 : decode cL_law 1154 = .ok (.iconst 2, 1) := by decide +kernel
theorem dL_law_1155 : decode cL_law 1155 = .ok (.iadd, 1) := by decide +kernel
theorem dL_law_1156 : decode cL_law 1156 = .ok (.iaload, 1) := by decide +kernel
theorem dL_law_1157 : decode cL_law 1157 = .ok (.aload_n 0, 1) := by decide +kernel
theorem dL_law_1158 : decode cL_law 1158 = .ok (.iload 4, 2) := by decide +kernel
theorem dL_law_1160 : decode cL_law 1160 = .ok (.iconst 3, 1) := by decide +kernel
theorem dL_law_1161 : decode cL_law 1161 = .ok (.iadd, 1) := by decide +kernel
theorem dL_law_1162 : decode cL_law 1162 = .ok (.iaload, 1) := by decide +kernel
theorem dL_law_1163 : decode cL_law 1163 = .ok (.invokevirtual 147, 3) := by decide +kernel
theorem dL_law_1166 : decode cL_law 1166 = .ok (.aload_n 2, 1) := by decide +kernel
theorem dL_law_1167 : decode cL_law 1167 = .ok (.aload_n 0, 1) := by decide +kernel
theorem dL_law_1168 : decode cL_law 1168 = .ok (.iload 4, 2) := by decide +kernel
theorem dL_law_1170 : decode cL_law 1170 = .ok (.iconst 1, 1) := by decide +kernel
theorem dL_law_1171 : decode cL_law 1171 = .ok (.iadd, 1) := by decide +kernel
theorem dL_law_1172 : decode cL_law 1172 = .ok (.iaload, 1) := by decide +kernel
theorem dL_law_1173 : decode cL_law 1173 = .ok (.aload_n 0, 1) := by decide +kernel
theorem dL_law_1174 : decode cL_law 1174 = .ok (.iload 4, 2) := by decide +kernel
theorem dL_law_1176 : decode cL_law 1176 = .ok (.iconst 2, 1) := by decide +kernel
theorem dL_law_1177 : decode cL_law 1177 = .ok (.iadd, 1) := by decide +kernel
theorem dL_law_1178 : decode cL_law 1178 = .ok (.iaload, 1) := by decide +kernel
theorem dL_law_1179 : decode cL_law 1179 = .ok (.aload_n 0, 1) := by decide +kernel
theorem dL_law_1180 : decode cL_law 1180 = .ok (.iload 4, 2) := by decide +kernel
theorem dL_law_1182 : decode cL_law 1182 = .ok (.iconst 3, 1) := by decide +kernel
theorem dL_law_1183 : decode cL_law 1183 = .ok (.iadd, 1) := by decide +kernel
theorem dL_law_1184 : decode cL_law 1184 = .ok (.iaload, 1) := by decide +kernel
theorem dL_law_1185 : decode cL_law 1185 = .ok (.invokevirtual 150, 3) := by decide +kernel
theorem dL_law_1188 : decode cL_law 1188 = .ok (.if_icmp .eq 244, 3) := by decide +kernel
theorem dL_law_1191 : decode cL_law 1191 = .ok (.iconst 0, 1) := by decide +kernel
theorem dL_law_1192 : decode cL_law 1192 = .ok (.ireturn, 1) := by decide +kernel
theorem dL_law_1193 : decode cL_law 1193 = .ok (.aload_n 1, 1) := by decide +kernel
theorem dL_law_1194 : decode cL_law 1194 = .ok (.aload_n 0, 1) := by decide +kernel
theorem dL_law_1195 : decode cL_law 1195 = .ok (.iload 4, 2) := by decide +kernel
theorem dL_law_1197 : decode cL_law 1197 = .ok (.iconst 1, 1) := by decide +kernel
theorem dL_law_1198 : decode cL_law 1198 = .ok (.iadd, 1) := by decide +kernel
theorem dL_law_1199 : decode cL_law 1199 = .ok (.iaload, 1) := by decide +kernel
theorem dL_law_1200 : decode cL_law 1200 = .ok (.aload_n 0, 1) := by decide +kernel
theorem dL_law_1201 : decode cL_law 1201 = .ok (.iload 4, 2) := by decide +kernel
theorem dL_law_1203 : decode cL_law 1203 = .ok (.iconst 2, 1) := by decide +kernel
theorem dL_law_1204 : decode cL_law 1204 = .ok (.iadd, 1) := by decide +kernel
theorem dL_law_1205 : decode cL_law 1205 = .ok (.iaload, 1) := by decide +kernel
theorem dL_law_1206 : decode cL_law 1206 = .ok (.aload_n 0, 1) := by decide +kernel
theorem dL_law_1207 : decode cL_law 1207 = .ok (.iload 4, 2) := by decide +kernel
theorem dL_law_1209 : decode cL_law 1209 = .ok (.iconst 3, 1) := by decide +kernel
theorem dL_law_1210 : decode cL_law 1210 = .ok (.iadd, 1) := by decide +kernel
theorem dL_law_1211 : decode cL_law 1211 = .ok (.iaload, 1) := by decide +kernel
theorem dL_law_1212 : decode cL_law 1212 = .ok (.invokevirtual 151, 3) := by decide +kernel
theorem dL_law_1215 : decode cL_law 1215 = .ok (.aload_n 2, 1) := by decide +kernel
theorem dL_law_1216 : decode cL_law 1216 = .ok (.aload_n 0, 1) := by decide +kernel
theorem dL_law_1217 : decode cL_law 1217 = .ok (.iload 4, 2) := by decide +kernel
theorem dL_law_1219 : decode cL_law 1219 = .ok (.iconst 1, 1) := by decide +kernel
theorem dL_law_1220 : decode cL_law 1220 = .ok (.iadd, 1) := by decide +kernel
theorem dL_law_1221 : decode cL_law 1221 = .ok (.iaload, 1) := by decide +kernel
theorem dL_law_1222 : decode cL_law 1222 = .ok (.aload_n 0, 1) := by decide +kernel
theorem dL_law_1223 : decode cL_law 1223 = .ok (.iload 4, 2) := by decide +kernel
theorem dL_law_1225 : decode cL_law 1225 = .ok (.iconst 2, 1) := by decide +kernel
theorem dL_law_1226 : decode cL_law 1226 = .ok (.iadd, 1) := by decide +kernel
theorem dL_law_1227 : decode cL_law 1227 = .ok (.iaload, 1) := by decide +kernel
theorem dL_law_1228 : decode cL_law 1228 = .ok (.aload_n 0, 1) := by decide +kernel
theorem dL_law_1229 : decode cL_law 1229 = .ok (.iload 4, 2) := by decide +kernel
theorem dL_law_1231 : decode cL_law 1231 = .ok (.iconst 3, 1) := by decide +kernel
theorem dL_law_1232 : decode cL_law 1232 = .ok (.iadd, 1) := by decide +kernel
theorem dL_law_1233 : decode cL_law 1233 = .ok (.iaload, 1) := by decide +kernel
theorem dL_law_1234 : decode cL_law 1234 = .ok (.invokevirtual 154, 3) := by decide +kernel
theorem dL_law_1237 : decode cL_law 1237 = .ok (.if_icmp .eq 195, 3) := by decide +kernel
theorem dL_law_1240 : decode cL_law 1240 = .ok (.iconst 0, 1) := by decide +kernel
theorem dL_law_1241 : decode cL_law 1241 = .ok (.ireturn, 1) := by decide +kernel
theorem dL_law_1242 : decode cL_law 1242 = .ok (.aload_n 1, 1) := by decide +kernel
theorem dL_law_1243 : decode cL_law 1243 = .ok (.aload_n 0, 1) := by decide +kernel
theorem dL_law_1244 : decode cL_law 1244 = .ok (.iload 4, 2) := by decide +kernel
theorem dL_law_1246 : decode cL_law 1246 = .ok (.iconst 1, 1) := by decide +kernel
theorem dL_law_1247 : decode cL_law 1247 = .ok (.iadd, 1) := by decide +kernel
theorem dL_law_1248 : decode cL_law 1248 = .ok (.iaload, 1) := by decide +kernel
theorem dL_law_1249 : decode cL_law 1249 = .ok (.aload_n 0, 1) := by decide +kernel
theorem dL_law_1250 : decode cL_law 1250 = .ok (.iload 4, 2) := by decide +kernel
theorem dL_law_1252 : decode cL_law 1252 = .ok (.iconst 2, 1) := by decide +kernel
theorem dL_law_1253 : decode cL_law 1253 = .ok (.iadd, 1) := by decide +kernel
theorem dL_law_1254 : decode cL_law 1254 = .ok (.iaload, 1) := by decide +kernel
theorem dL_law_1255 : decode cL_law 1255 = .ok (.aload_n 3, 1) := by decide +kernel
theorem dL_law_1256 : decode cL_law 1256 = .ok (.invokestatic 155, 3) := by decide +kernel
theorem dL_law_1259 : decode cL_law 1259 = .ok (.istore 5, 2) := by decide +kernel
theorem dL_law_1261 : decode cL_law 1261 = .ok (.aload_n 2, 1) := by decide +kernel
theorem dL_law_1262 : decode cL_law 1262 = .ok (.aload_n 0, 1) := by decide +kernel
theorem dL_law_1263 : decode cL_law 1263 = .ok (.iload 4, 2) := by decide +kernel
theorem dL_law_1265 : decode cL_law 1265 = .ok (.iconst 1, 1) := by decide +kernel
theorem dL_law_1266 : decode cL_law 1266 = .ok (.iadd, 1) := by decide +kernel
theorem dL_law_1267 : decode cL_law 1267 = .ok (.iaload, 1) := by decide +kernel
theorem dL_law_1268 : decode cL_law 1268 = .ok (.aload_n 0, 1) := by decide +kernel
theorem dL_law_1269 : decode cL_law 1269 = .ok (.iload 4, 2) := by decide +kernel
theorem dL_law_1271 : decode cL_law 1271 = .ok (.iconst 2, 1) := by decide +kernel
theorem dL_law_1272 : decode cL_law 1272 = .ok (.iadd, 1) := by decide +kernel
theorem dL_law_1273 : decode cL_law 1273 = .ok (.iaload, 1) := by decide +kernel
theorem dL_law_1274 : decode cL_law 1274 = .ok (.invokevirtual 158, 3) := by decide +kernel
theorem dL_law_1277 : decode cL_law 1277 = .ok (.lstore 6, 2) := by decide +kernel
theorem dL_law_1279 : decode cL_law 1279 = .ok (.aload_n 2, 1) := by decide +kernel
theorem dL_law_1280 : decode cL_law 1280 = .ok (.invokevirtual 63, 3) := by decide +kernel
theorem dL_law_1283 : decode cL_law 1283 = .ok (.iload 5, 2) := by decide +kernel
theorem dL_law_1285 : decode cL_law 1285 = .ok (.if_icmp .eq 5, 3) := by decide +kernel
theorem dL_law_1288 : decode cL_law 1288 = .ok (.iconst 0, 1) := by decide +kernel
theorem dL_law_1289 : decode cL_law 1289 = .ok (.ireturn, 1) := by decide +kernel
theorem dL_law_1290 : decode cL_law 1290 = .ok (.iload 5, 2) := by decide +kernel
theorem dL_law_1292 : decode cL_law 1292 = .ok (.ifCond .ne 14, 3) := by decide +kernel
theorem dL_law_1295 : decode cL_law 1295 = .ok (.aload_n 3, 1) := by decide +kernel
theorem dL_law_1296 : decode cL_law 1296 = .ok (.iconst 0, 1) := by decide +kernel
theorem dL_law_1297 : decode cL_law 1297 = .ok (.laload, 1) := by decide +kernel
theorem dL_law_1298 : decode cL_law 1298 = .ok (.lload 6, 2) := by decide +kernel
theorem dL_law_1300 : decode cL_law 1300 = .ok (.lcmp, 1) := by decide +kernel
theorem dL_law_1301 : decode cL_law 1301 = .ok (.ifCond .eq 5, 3) := by decide +kernel
theorem dL_law_1304 : decode cL_law 1304 = .ok (.iconst 0, 1) := by decide +kernel
theorem dL_law_1305 : decode cL_law 1305 = .ok (.ireturn, 1) := by decide +kernel
theorem dL_law_1306 : decode cL_law 1306 = .ok (.goto 126, 3) := by decide +kernel
theorem dL_law_1309 : decode cL_law 1309 = .ok (.aload_n 1, 1) := by decide +kernel
theorem dL_law_1310 : decode cL_law 1310 = .ok (.aload_n 0, 1) := by decide +kernel
theorem dL_law_1311 : decode cL_law 1311 = .ok (.iload 4, 2) := by decide +kernel
theorem dL_law_1313 : decode cL_law 1313 = .ok (.iconst 1, 1) := by decide +kernel
theorem dL_law_1314 : decode cL_law 1314 = .ok (.iadd, 1) := by decide +kernel
theorem dL_law_1315 : decode cL_law 1315 = .ok (.iaload, 1) := by decide +kernel
theorem dL_law_1316 : decode cL_law 1316 = .ok (.aload_n 0, 1) := by decide +kernel
theorem dL_law_1317 : decode cL_law 1317 = .ok (.iload 4, 2) := by decide +kernel
theorem dL_law_1319 : decode cL_law 1319 = .ok (.iconst 2, 1) := by decide +kernel
theorem dL_law_1320 : decode cL_law 1320 = .ok (.iadd, 1) := by decide +kernel
theorem dL_law_1321 : decode cL_law 1321 = .ok (.iaload, 1) := by decide +kernel
theorem dL_law_1322 : decode cL_law 1322 = .ok (.aload_n 0, 1) := by decide +kernel
theorem dL_law_1323 : decode cL_law 1323 = .ok (.iload 4, 2) := by decide +kernel
theorem dL_law_1325 : decode cL_law 1325 = .ok (.iconst 3, 1) := by decide +kernel
theorem dL_law_1326 : decode cL_law 1326 = .ok (.iadd, 1) := by decide +kernel
theorem dL_law_1327 : decode cL_law 1327 = .ok (.iaload, 1) := by decide +kernel
theorem dL_law_1328 : decode cL_law 1328 = .ok (.aload_n 0, 1) := by decide +kernel
theorem dL_law_1329 : decode cL_law 1329 = .ok (.iload 4, 2) := by decide +kernel
theorem dL_law_1331 : decode cL_law 1331 = .ok (.iconst 4, 1) := by decide +kernel
theorem dL_law_1332 : decode cL_law 1332 = .ok (.iadd, 1) := by decide +kernel
theorem dL_law_1333 : decode cL_law 1333 = .ok (.iaload, 1) := by decide +kernel
theorem dL_law_1334 : decode cL_law 1334 = .ok (.aload_n 0, 1) := by decide +kernel
theorem dL_law_1335 : decode cL_law 1335 = .ok (.iload 4, 2) := by decide +kernel
theorem dL_law_1337 : decode cL_law 1337 = .ok (.iconst 5, 1) := by decide +kernel
theorem dL_law_1338 : decode cL_law 1338 = .ok (.iadd, 1) := by decide +kernel
theorem dL_law_1339 : decode cL_law 1339 = .ok (.iaload, 1) := by decide +kernel
theorem dL_law_1340 : decode cL_law 1340 = .ok (.invokevirtual 159, 3) := by decide +kernel
theorem dL_law_1343 : decode cL_law 1343 = .ok (.aload_n 2, 1) := by decide +kernel
theorem dL_law_1344 : decode cL_law 1344 = .ok (.aload_n 0, 1) := by decide +kernel
theorem dL_law_1345 : decode cL_law 1345 = .ok (.iload 4, 2) := by decide +kernel
theorem dL_law_1347 : decode cL_law 1347 = .ok (.iconst 1, 1) := by decide +kernel
theorem dL_law_1348 : decode cL_law 1348 = .ok (.iadd, 1) := by decide +kernel
theorem dL_law_1349 : decode cL_law 1349 = .ok (.iaload, 1) := by decide +kernel
theorem dL_law_1350 : decode cL_law 1350 = .ok (.aload_n 0, 1) := by decide +kernel
theorem dL_law_1351 : decode cL_law 1351 = .ok (.iload 4, 2) := by decide +kernel
theorem dL_law_1353 : decode cL_law 1353 = .ok (.iconst 2, 1) := by decide +kernel
theorem dL_law_1354 : decode cL_law 1354 = .ok (.iadd, 1) := by decide +kernel
theorem dL_law_1355 : decode cL_law 1355 = .ok (.iaload, 1) := by decide +kernel
theorem dL_law_1356 : decode cL_law 1356 = .ok (.aload_n 0, 1) := by decide +kernel
theorem dL_law_1357 : decode cL_law 1357 = .ok (.iload 4, 2) := by decide +kernel
theorem dL_law_1359 : decode cL_law 1359 = .ok (.iconst 3, 1) := by decide +kernel
theorem dL_law_1360 : decode cL_law 1360 = .ok (.iadd, 1) := by decide +kernel
theorem dL_law_1361 : decode cL_law 1361 = .ok (.iaload, 1) := by decide +kernel
theorem dL_law_1362 : decode cL_law 1362 = .ok (.aload_n 0, 1) := by decide +kernel
theorem dL_law_1363 : decode cL_law 1363 = .ok (.iload 4, 2) := by decide +kernel
theorem dL_law_1365 : decode cL_law 1365 = .ok (.iconst 4, 1) := by decide +kernel
theorem dL_law_1366 : decode cL_law 1366 = .ok (.iadd, 1) := by decide +kernel
theorem dL_law_1367 : decode cL_law 1367 = .ok (.iaload, 1) := by decide +kernel
theorem dL_law_1368 : decode cL_law 1368 = .ok (.aload_n 0, 1) := by decide +kernel
theorem dL_law_1369 : decode cL_law 1369 = .ok (.iload 4, 2) := by decide +kernel
theorem dL_law_1371 : decode cL_law 1371 = .ok (.iconst 5, 1) := by decide +kernel
theorem dL_law_1372 : decode cL_law 1372 = .ok (.iadd, 1) := by decide +kernel
theorem dL_law_1373 : decode cL_law 1373 = .ok (.iaload, 1) := by decide +kernel
theorem dL_law_1374 : decode cL_law 1374 = .ok (.invokevirtual 163, 3) := by decide +kernel
theorem dL_law_1377 : decode cL_law 1377 = .ok (.if_icmp .eq 55, 3) := by decide +kernel
theorem dL_law_1380 : decode cL_law 1380 = .ok (.iconst 0, 1) := by decide +kernel
theorem dL_law_1381 : decode cL_law 1381 = .ok (.ireturn, 1) := by decide +kernel
theorem dL_law_1382 : decode cL_law 1382 = .ok (.aload_n 1, 1) := by decide +kernel
theorem dL_law_1383 : decode cL_law 1383 = .ok (.aload_n 0, 1) := by decide +kernel
theorem dL_law_1384 : decode cL_law 1384 = .ok (.iload 4, 2) := by decide +kernel
theorem dL_law_1386 : decode cL_law 1386 = .ok (.iconst 1, 1) := by decide +kernel
theorem dL_law_1387 : decode cL_law 1387 = .ok (.iadd, 1) := by decide +kernel
theorem dL_law_1388 : decode cL_law 1388 = .ok (.iaload, 1) := by decide +kernel
theorem dL_law_1389 : decode cL_law 1389 = .ok (.invokevirtual 164, 3) := by decide +kernel
theorem dL_law_1392 : decode cL_law 1392 = .ok (.aload_n 2, 1) := by decide +kernel
theorem dL_law_1393 : decode cL_law 1393 = .ok (.aload_n 0, 1) := by decide +kernel
theorem dL_law_1394 : decode cL_law 1394 = .ok (.iload 4, 2) := by decide +kernel
theorem dL_law_1396 : decode cL_law 1396 = .ok (.iconst 1, 1) := by decide +kernel
theorem dL_law_1397 : decode cL_law 1397 = .ok (.iadd, 1) := by decide +kernel
theorem dL_law_1398 : decode cL_law 1398 = .ok (.iaload, 1) := by decide +kernel
theorem dL_law_1399 : decode cL_law 1399 = .ok (.invokevirtual 167, 3) := by decide +kernel
theorem dL_law_1402 : decode cL_law 1402 = .ok (.if_icmp .eq 30, 3) := by decide +kernel
theorem dL_law_1405 : decode cL_law 1405 = .ok (.iconst 0, 1) := by decide +kernel
theorem dL_law_1406 : decode cL_law 1406 = .ok (.ireturn, 1) := by decide +kernel
theorem dL_law_1407 : decode cL_law 1407 = .ok (.aload_n 1, 1) := by decide +kernel
theorem dL_law_1408 : decode cL_law 1408 = .ok (.aload_n 0, 1) := by decide +kernel
theorem dL_law_1409 : decode cL_law 1409 = .ok (.iload 4, 2) := by decide +kernel
theorem dL_law_1411 : decode cL_law 1411 = .ok (.iconst 1, 1) := by decide +kernel
theorem dL_law_1412 : decode cL_law 1412 = .ok (.iadd, 1) := by decide +kernel
theorem dL_law_1413 : decode cL_law 1413 = .ok (.iaload, 1) := by decide +kernel
theorem dL_law_1414 : decode cL_law 1414 = .ok (.invokevirtual 168, 3) := by decide +kernel
theorem dL_law_1417 : decode cL_law 1417 = .ok (.aload_n 2, 1) := by decide +kernel
theorem dL_law_1418 : decode cL_law 1418 = .ok (.aload_n 0, 1) := by decide +kernel
theorem dL_law_1419 : decode cL_law 1419 = .ok (.iload 4, 2) := by decide +kernel
theorem dL_law_1421 : decode cL_law 1421 = .ok (.iconst 1, 1) := by decide +kernel
theorem dL_law_1422 : decode cL_law 1422 = .ok (.iadd, 1) := by decide +kernel
theorem dL_law_1423 : decode cL_law 1423 = .ok (.iaload, 1) := by decide +kernel
theorem dL_law_1424 : decode cL_law 1424 = .ok (.invokevirtual 171, 3) := by decide +kernel
theorem dL_law_1427 : decode cL_law 1427 = .ok (.if_icmp .eq 5, 3) := by decide +kernel
theorem dL_law_1430 : decode cL_law 1430 = .ok (.iconst 0, 1) := by decide +kernel
theorem dL_law_1431 : decode cL_law 1431 = .ok (.ireturn, 1) := by decide +kernel
theorem dL_law_1432 : decode cL_law 1432 = .ok (.iinc 4 6, 3) := by decide +kernel
theorem dL_law_1435 : decode cL_law 1435 = .ok (.goto (-1412), 3) := by decide +kernel
theorem dL_law_1438 : decode cL_law 1438 = .ok (.iconst 1, 1) := by decide +kernel
theorem dL_law_1439 : decode cL_law 1439 = .ok (.ireturn, 1) := by decide +kernel
end
section
/-! ===== the store, and the heap that holds it ===== -/
/-- the store: whole numbers, long numbers, references by address and place; kind and length of each cell; the number of cells -/
abbrev ha_St : Type := (Nat → Nat → Int32) × (Nat → Nat → Int64) × (Nat → Nat → Option Nat) × (Nat → Nat × Nat) × Nat
def gI (σ : ha_St) : Nat → Nat → Int32 := σ.1
def gL (σ : ha_St) : Nat → Nat → Int64 := σ.2.1
def gR (σ : ha_St) : Nat → Nat → Option Nat := σ.2.2.1
def gT (σ : ha_St) : Nat → Nat × Nat := σ.2.2.2.1
def gn (σ : ha_St) : Nat := σ.2.2.2.2
def sI (σ : ha_St) (a j : Nat) (v : Int32) : ha_St := (fun x y => if x = a ∧ y = j then v else σ.1 x y, σ.2)
def sL (σ : ha_St) (a j : Nat) (v : Int64) : ha_St := (σ.1, fun x y => if x = a ∧ y = j then v else σ.2.1 x y, σ.2.2)
def sR (σ : ha_St) (a j : Nat) (v : Option Nat) : ha_St := (σ.1, σ.2.1, fun x y => if x = a ∧ y = j then v else σ.2.2.1 x y, σ.2.2.2)
/-- a new cell of kind t, length n -/
def sN (σ : ha_St) (t n : Nat) : ha_St := (fun x y => if x = gn σ then 0 else σ.1 x y, fun x y => if x = gn σ then 0 else σ.2.1 x y, fun x y => if x = gn σ then none else σ.2.2.1 x y, fun x => if x = gn σ then (t, n) else σ.2.2.2.1 x, gn σ + 1)
/-- a stretch of an array of whole numbers copied -/
def sC (σ : ha_St) (a b sp dp n : Nat) : ha_St := (fun x y => if x = b then va_cpy (σ.1 a) (σ.1 b) sp dp n y else σ.1 x y, σ.2)
theorem gI_sI (σ : ha_St) (a j : Nat) (v : Int32) (x y : Nat) : gI (sI σ a j v) x y = if x = a ∧ y = j then v else gI σ x y := rfl
theorem gL_sI (σ : ha_St) (a j : Nat) (v : Int32) : gL (sI σ a j v) = gL σ := rfl
theorem gR_sI (σ : ha_St) (a j : Nat) (v : Int32) : gR (sI σ a j v) = gR σ := rfl
theorem gT_sI (σ : ha_St) (a j : Nat) (v : Int32) : gT (sI σ a j v) = gT σ := rfl
theorem gn_sI (σ : ha_St) (a j : Nat) (v : Int32) : gn (sI σ a j v) = gn σ := rfl
theorem gI_sL (σ : ha_St) (a j : Nat) (v : Int64) : gI (sL σ a j v) = gI σ := rfl
theorem gL_sL (σ : ha_St) (a j : Nat) (v : Int64) (x y : Nat) : gL (sL σ a j v) x y = if x = a ∧ y = j then v else gL σ x y := rfl
theorem gR_sL (σ : ha_St) (a j : Nat) (v : Int64) : gR (sL σ a j v) = gR σ := rfl
theorem gT_sL (σ : ha_St) (a j : Nat) (v : Int64) : gT (sL σ a j v) = gT σ := rfl
theorem gn_sL (σ : ha_St) (a j : Nat) (v : Int64) : gn (sL σ a j v) = gn σ := rfl
theorem gI_sR (σ : ha_St) (a j : Nat) (v : Option Nat) : gI (sR σ a j v) = gI σ := rfl
theorem gL_sR (σ : ha_St) (a j : Nat) (v : Option Nat) : gL (sR σ a j v) = gL σ := rfl
theorem gR_sR (σ : ha_St) (a j : Nat) (v : Option Nat) (x y : Nat) : gR (sR σ a j v) x y = if x = a ∧ y = j then v else gR σ x y := rfl
theorem gT_sR (σ : ha_St) (a j : Nat) (v : Option Nat) : gT (sR σ a j v) = gT σ := rfl
theorem gn_sR (σ : ha_St) (a j : Nat) (v : Option Nat) : gn (sR σ a j v) = gn σ := rfl
theorem gI_sN (σ : ha_St) (t n x y : Nat) : gI (sN σ t n) x y = if x = gn σ then 0 else gI σ x y := rfl
theorem gL_sN (σ : ha_St) (t n x y : Nat) : gL (sN σ t n) x y = if x = gn σ then 0 else gL σ x y := rfl
theorem gR_sN (σ : ha_St) (t n x y : Nat) : gR (sN σ t n) x y = if x = gn σ then none else gR σ x y := rfl
theorem gT_sN (σ : ha_St) (t n x : Nat) : gT (sN σ t n) x = if x = gn σ then (t, n) else gT σ x := rfl
theorem gn_sN (σ : ha_St) (t n : Nat) : gn (sN σ t n) = gn σ + 1 := rfl
theorem gI_sC (σ : ha_St) (a b sp dp n x y : Nat) : gI (sC σ a b sp dp n) x y = if x = b then va_cpy (gI σ a) (gI σ b) sp dp n y else gI σ x y := rfl
theorem gL_sC (σ : ha_St) (a b sp dp n : Nat) : gL (sC σ a b sp dp n) = gL σ := rfl
theorem gR_sC (σ : ha_St) (a b sp dp n : Nat) : gR (sC σ a b sp dp n) = gR σ := rfl
theorem gT_sC (σ : ha_St) (a b sp dp n : Nat) : gT (sC σ a b sp dp n) = gT σ := rfl
theorem gn_sC (σ : ha_St) (a b sp dp n : Nat) : gn (sC σ a b sp dp n) = gn σ := rfl
/-- the launch's numbers: classes and places; where the store begins; the classes of arrays (int, long, byte, Pin, Shelf); the two rows of directions -/
abbrev ha_G : Type := va_G × Nat × (Nat → ClassId) × Nat × Nat
def ad (G : ha_G) (a : Nat) : Nat := G.2.1 + a
def rf (G : ha_G) (r : Option Nat) : Value := va_rf (r.map (ad G))
theorem rf_some (G : ha_G) (a : Nat) : rf G (some a) = .ref (ad G a) := rfl
theorem rf_none (G : ha_G) : rf G none = .null := rfl
theorem ad_inj {G : ha_G} {a b : Nat} : ad G a = ad G b ↔ a = b := by unfold ad; omega
/-- own cells -/
def gA (G : ha_G) : Nat → Prop := fun q => G.2.1 ≤ q
def fkT : List (List (Nat × Nat)) := [[(0, 8), (0, 0), (0, 1), (0, 2), (0, 3), (0, 4), (0, 5), (0, 6), (0, 7)], [(0, 0), (0, 1), (0, 2), (0, 3), (0, 4), (0, 5), (0, 6), (0, 7)], [(2, 0), (2, 1), (2, 2), (0, 3), (2, 4), (2, 5), (2, 6), (0, 7), (1, 8), (1, 9), (1, 10)], [(2, 0), (2, 1), (2, 2), (0, 3), (1, 4), (1, 5)], [(2, 0), (2, 1), (2, 2), (2, 3), (1, 4), (1, 5), (1, 6), (1, 7), (0, 8)], [(0, 0), (0, 1), (0, 2), (0, 3), (0, 4), (0, 5), (0, 6), (0, 7), (0, 8)], [(2, 0), (2, 1), (0, 2), (0, 3)], [(0, 0), (0, 1), (0, 2), (0, 3), (0, 4), (0, 5), (0, 6), (0, 7)], [(2, 0), (2, 1), (0, 2), (2, 3), (2, 4), (2, 5), (0, 6), (3, 7)], [(2, 0), (2, 1), (2, 2)], [(2, 0), (0, 1), (2, 2), (2, 3), (2, 4), (3, 5), (2, 6), (2, 7), (2, 8), (2, 9), (2, 10)], [(0, 0), (0, 1), (2, 2), (2, 3), (2, 4), (2, 5), (2, 6), (2, 7), (2, 8), (0, 9), (2, 10), (2, 11), (0, 12), (0, 13), (2, 14), (2, 15), (2, 16), (0, 17), (2, 18), (2, 19), (2, 20), (1, 21), (1, 22), (0, 23), (2, 24), (2, 25), (2, 26), (0, 27), (0, 28), (2, 29), (2, 30), (2, 31), (2, 32), (2, 33), (2, 34), (2, 35), (2, 36), (2, 37), (2, 38)]]
def fk (ci k : Nat) : Nat × Nat := (fkT.getD ci []).getD k (0, 0)
def fN (ci : Nat) : Nat := (fkT.getD ci []).length
def fv (G : ha_G) (σ : ha_St) (a : Nat) (q : Nat × Nat) : Value := if q.1 = 1 then .long (gL σ a q.2) else if q.1 = 2 then rf G (gR σ a q.2) else .int (gI σ a q.2)
def fs (G : ha_G) (σ : ha_St) (a ci : Nat) : List Value := (List.range (fN ci)).map (fun k => fv G σ a (fk ci k))
theorem fs_get {G : ha_G} {σ : ha_St} {a ci k : Nat} (h : k < fN ci) : (fs G σ a ci)[k]? = some (fv G σ a (fk ci k)) := by
  simp [fs, List.getElem?_map, List.getElem?_range h]
theorem fs_len {G : ha_G} {σ : ha_St} {a ci : Nat} : (fs G σ a ci).length = fN ci := by simp [fs]
def hE (G : ha_G) (σ : ha_St) (a : Nat) : va_E :=
  if (gT σ a).1 = 20 then .inl (G.2.2.1 0, (gT σ a).2, .inl (gI σ a)) else if (gT σ a).1 = 21 then .inl (G.2.2.1 1, (gT σ a).2, .inr (.inl (gL σ a)))
  else if (gT σ a).1 = 22 then .inl (G.2.2.1 2, (gT σ a).2, .inl (gI σ a)) else if (gT σ a).1 = 23 then .inl (G.2.2.1 3, (gT σ a).2, .inr (.inr (.inr (.inr (fun j => (gR σ a j).map (ad G))))))
  else if (gT σ a).1 = 24 then .inl (G.2.2.1 4, (gT σ a).2, .inr (.inr (.inr (.inr (fun j => (gR σ a j).map (ad G)))))) else .inr ((gT σ a).1 - 1, fs G σ a ((gT σ a).1 - 1))
theorem hE_o {G : ha_G} {σ : ha_St} {a ci n : Nat} (h : gT σ a = (ci + 1, n)) (hc : ci < 12) : hE G σ a = .inr (ci, fs G σ a ci) := by
  unfold hE
  rw [h]
  simp only [Nat.add_sub_cancel]
  rw [if_neg (by omega), if_neg (by omega), if_neg (by omega), if_neg (by omega), if_neg (by omega)]
theorem hE_i {G : ha_G} {σ : ha_St} {a n : Nat} (h : gT σ a = (20, n)) : hE G σ a = .inl (G.2.2.1 0, n, .inl (gI σ a)) := by simp [hE, h]
theorem hE_l {G : ha_G} {σ : ha_St} {a n : Nat} (h : gT σ a = (21, n)) : hE G σ a = .inl (G.2.2.1 1, n, .inr (.inl (gL σ a))) := by simp [hE, h]
theorem hE_b {G : ha_G} {σ : ha_St} {a n : Nat} (h : gT σ a = (22, n)) : hE G σ a = .inl (G.2.2.1 2, n, .inl (gI σ a)) := by simp [hE, h]
theorem hE_p {G : ha_G} {σ : ha_St} {a n : Nat} (h : gT σ a = (23, n)) : hE G σ a = .inl (G.2.2.1 3, n, .inr (.inr (.inr (.inr (fun j => (gR σ a j).map (ad G)))))) := by simp [hE, h]
theorem hE_s {G : ha_G} {σ : ha_St} {a n : Nat} (h : gT σ a = (24, n)) : hE G σ a = .inl (G.2.2.1 4, n, .inr (.inr (.inr (.inr (fun j => (gR σ a j).map (ad G)))))) := by simp [hE, h]
/-- the heap holds the store -/
def hH (G : ha_G) (σ : ha_St) (H : Heap) : Prop := H.size = G.2.1 + gn σ ∧ ∀ a, (gT σ a).1 ≠ 0 → a < gn σ ∧ va_at G.1 vwCl (ad G a, hE G σ a) H
theorem hH.one {G : ha_G} {σ : ha_St} {H : Heap} (h : hH G σ H) {a : Nat} {e : va_E} (ha : (gT σ a).1 ≠ 0) (he : hE G σ a = e) : va_P G.1 vwCl [(ad G a, e)] H := by
  intro k q hk
  have hz : k < 1 := (List.getElem?_eq_some_iff.mp hk).1
  rw [show k = 0 by omega] at hk
  cases hk
  rw [← he]
  exact (h.2 a ha).2
/-- one cell has changed -/
theorem hH.set {G : ha_G} {σ σ' : ha_St} {H H1 : Heap} (h : hH G σ H) {a : Nat} (hn : gn σ' = gn σ) (hT : gT σ' = gT σ) (hz : H1.size = H.size) (ho : ∀ q : Nat, q ≠ ad G a → H1[q]? = H[q]?)
    (he : ∀ x, x ≠ a → hE G σ' x = hE G σ x) (hat : va_at G.1 vwCl (ad G a, hE G σ' a) H1) : hH G σ' H1 := by
  refine ⟨by rw [hz, hn]; exact h.1, fun x hx => ?_⟩
  rw [hT] at hx
  rw [hn]
  refine ⟨(h.2 x hx).1, ?_⟩
  by_cases hxa : x = a
  · subst hxa; exact hat
  · rw [he x hxa]
    exact ((h.2 x hx).2).kept (ho _ (fun q => hxa (ad_inj.mp q)))
theorem hS_put {G : ha_G} {H0 H H1 : Heap} {locs : List Loc} {a k : Nat} (h : va_S (gA G) H0 H locs) (z : H1.size = H.size) (oq : ∀ q : Nat, q ≠ ad G a → H1[q]? = H[q]?) : va_S (gA G) H0 H1 (locs ++ [⟨ad G a, k⟩]) :=
  h.put z oq (by show G.2.1 ≤ ad G a; unfold ad; omega)
/-! ===== the words: all of the tables that keep ===== -/
def gtbl : List Cond := lw_tbl.filter goodWord
theorem g_at {w : Cond} (i : Nat) (h : lw_tbl[i]? = some w) (hg : goodWord w = true) : w ∈ gtbl := List.mem_filter.mpr ⟨List.mem_of_getElem? h, hg⟩
theorem g_in {ws : List Cond} (ps : List Nat) (h : ps.map (fun i => lw_tbl[i]?) = ws.map some) (hg : ws.all goodWord = true) : ∀ w ∈ ws, w ∈ gtbl := by
  intro w hw
  refine List.mem_filter.mpr ⟨?_, List.all_eq_true.mp hg w hw⟩
  have h1 : some w ∈ ws.map some := List.mem_map.mpr ⟨w, hw, rfl⟩
  rw [← h] at h1
  obtain ⟨i, -, hi⟩ := List.mem_map.mp h1
  exact List.mem_of_getElem? hi
theorem g_good {w : Cond} (h : w ∈ gtbl) : (w.onTables && w.keeps) = true ∨ ∃ ty, w = .arrayClass ty := good_of_word (List.mem_filter.mp h).2
theorem g_goodIn {ws : List Cond} (h : ∀ w ∈ ws, w ∈ gtbl) : GoodIn gtbl ws := fun w hw => ⟨h w hw, g_good (h w hw)⟩
end
section
/-! ===== the judgement: a frame over the store ===== -/
def isN : Cond → Bool
  | .fieldLinkNest _ _ _ _ _ _ => true
  | .methodLinkNest _ _ _ _ => true
  | .castable _ _ => true
  | _ => false
def ntbl : List Cond := lw_tbl.filter isN
theorem n_at {w : Cond} (i : Nat) (h : lw_tbl[i]? = some w) (hg : isN w = true) : w ∈ ntbl := List.mem_filter.mpr ⟨List.mem_of_getElem? h, hg⟩
theorem n_warm {s U : State} (hW : s.WarmedH U.vm) (h : ∀ w ∈ ntbl, va_Nw w s) : ∀ w ∈ ntbl, va_Nw w U := by
  intro w hw
  have h1 := h w hw
  have h2 := (List.mem_filter.mp hw).2
  cases w <;> first | exact va_Nw.warmF hW h1 | exact va_Nw.warmM hW h1 | exact va_Nw.warmC hW h1 | (simp [isN] at h2; done)
theorem n_same {s U : State} (hv : s.vm = U.vm) (h : ∀ w ∈ ntbl, va_Nw w s) : ∀ w ∈ ntbl, va_Nw w U := by
  intro w hw
  have h1 := h w hw
  have h2 := (List.mem_filter.mp hw).2
  cases w <;> first | exact va_Nw.same rfl hv h1 | (simp [isN] at h2; done)
def hTy (G : ha_G) : List (ClassId × FieldType) := [(G.2.2.1 0, .int), (G.2.2.1 1, .long), (G.2.2.1 2, .byte), (G.2.2.1 3, .object "HeldPart$Pin"), (G.2.2.1 4, .object "HeldPart$Shelf")]
def dirX (j : Nat) : Int32 := ([1, 1, 0, -1, -1, -1, 0, 1] : List Int32).getD j 0
def dirY (j : Nat) : Int32 := ([0, 1, 1, 1, 0, -1, -1, -1] : List Int32).getD j 0
/-- what stays of the launch: tables, classes, the two rows of directions -/
def hK (G : ha_G) (U : State) (H : Heap) : Prop :=
  va_K G.1 vwCl (hTy G) U ∧ (∀ w ∈ ntbl, va_Nw w U) ∧ va_AO "HeldPart$Pin" U ∧ va_AO "HeldPart$Shelf" U ∧
  va_Z "HeldPart" "DIRECTION_X" "[I" (.ref G.2.2.2.1) (gA G) U H ∧ va_T .int G.2.2.2.1 8 (fun j => .int (dirX j)) (gA G) U H ∧
  va_Z "HeldPart" "DIRECTION_Y" "[I" (.ref G.2.2.2.2) (gA G) U H ∧ va_T .int G.2.2.2.2 8 (fun j => .int (dirY j)) (gA G) U H
theorem hK.warm {G : ha_G} {s U : State} {H : Heap} (hW : s.WarmedH U.vm) (h : hK G s H) : hK G U H := by
  obtain ⟨h1, h2, h3, h4, h5, h6, h7, h8⟩ := h
  exact ⟨h1.moved hW.alike, n_warm hW h2, h3.moved hW.alike, h4.moved hW.alike, h5.moved hW.alike, h6.moved hW.alike, h7.moved hW.alike, h8.moved hW.alike⟩
theorem hK.same {G : ha_G} {s U : State} {H : Heap} (hv : s.vm = U.vm) (h : hK G s H) : hK G U H := by
  obtain ⟨h1, h2, h3, h4, h5, h6, h7, h8⟩ := h
  have ha : s.vm.Alike U.vm := by rw [hv]; exact Vm.Alike.refl _
  exact ⟨h1.moved ha, n_same hv h2, h3.moved ha, h4.moved ha, h5.moved ha, h6.moved ha, h7.moved ha, h8.moved ha⟩
theorem hK.kept {G : ha_G} {U : State} {H H1 : Heap} (hq : ∀ a : Nat, a < H.size → ¬ gA G a → H1[a]? = H[a]?) (h : hK G U H) : hK G U H1 := by
  obtain ⟨h1, h2, h3, h4, h5, h6, h7, h8⟩ := h
  exact ⟨h1, h2, h3, h4, h5.kept hq, h6.kept hq, h7.kept hq, h8.kept hq⟩
def hW (p : Program) (l : Launch) (e : Env) (R : Room) (s : State) (m : MethodId) (args : Array Value) (below : List Frame) (meth : Method) (c : Code) (Q : State → Prop) (G : ha_G) (nL pc : Nat) (lv : List (Nat × Value)) (st : List Value) (σ : ha_St) (k n : Nat) : Prop :=
  ∀ (H : Heap) (locs : List Loc) (ls : Array Slot), hH G σ H → va_S (gA G) s.heap H locs → lv_has ls nL lv → W p l e R s m args below meth c H locs k n Q (F0 m pc ls st)
/-- what a body knows from its entry on -/
def hX (p : Program) (s : State) (m : MethodId) (args : Array Value) (meth : Method) (c : Code) (G : ha_G) (cc : ByteArray) (own : String) (nL : Nat) (ret : Option FieldType) : Prop :=
  p.tables.exec = Jvm.exec ∧ c.code = cc ∧ c.maxLocals = nL ∧ s.vm.findClass own = some m.cls ∧ (∀ w ∈ gtbl, w.before args s = true) ∧ hK G s s.heap ∧ G.2.1 ≤ s.heap.size ∧ meth.locks = false ∧ meth.sig.returnType = ret
theorem rf_ix {G : ha_G} {rx ry : Option Nat} (h : rx.map (ad G) = ry.map (ad G)) : rx = ry := by
  cases rx with
  | none => cases ry with
    | none => rfl
    | some y => simp at h
  | some x => cases ry with
    | none => simp at h
    | some y =>
      simp only [Option.map_some, Option.some.injEq] at h
      rw [ad_inj.mp h]
section
variable {p : Program} {l : Launch} {e : Env} {R : Room} {s : State} {m : MethodId} {args : Array Value} {below : List Frame} {meth : Method} {c : Code} {Q : State → Prop} {G : ha_G} {cc : ByteArray} {own : String} {ret : Option FieldType} {nL pc : Nat} {lv lv' : List (Nat × Value)} {st : List Value} {σ : ha_St} {k n : Nat}
theorem h_iconst (C : hX p s m args meth c G cc own nL ret) {z : Int} (v : Int32) (hd : decode cc pc = .ok (.iconst z, 1)) (hv : Int32.ofInt z = v) (kk : hW p l e R s m args below meth c Q G nL (pc + 1) lv (.int v :: st) σ k n) : hW p l e R s m args below meth c Q G nL pc lv st σ k n := fun H locs ls h1 h2 h3 => lv_iconst C.1 C.2.1 hd hv (kk H locs ls h1 h2 h3)
theorem h_bipush (C : hX p s m args meth c G cc own nL ret) {z : Int} (v : Int32) (hd : decode cc pc = .ok (.bipush z, 2)) (hv : (Int8.ofInt z).toInt32 = v) (kk : hW p l e R s m args below meth c Q G nL (pc + 2) lv (.int v :: st) σ k n) : hW p l e R s m args below meth c Q G nL pc lv st σ k n := fun H locs ls h1 h2 h3 => lv_bipush C.1 C.2.1 hd hv (kk H locs ls h1 h2 h3)
theorem h_sipush (C : hX p s m args meth c G cc own nL ret) {z : Int} (v : Int32) (hd : decode cc pc = .ok (.sipush z, 3)) (hv : (Int16.ofInt z).toInt32 = v) (kk : hW p l e R s m args below meth c Q G nL (pc + 3) lv (.int v :: st) σ k n) : hW p l e R s m args below meth c Q G nL pc lv st σ k n := fun H locs ls h1 h2 h3 => lv_sipush C.1 C.2.1 hd hv (kk H locs ls h1 h2 h3)
theorem h_lconst (C : hX p s m args meth c G cc own nL ret) {z : Fin 2} (v : Int64) (hd : decode cc pc = .ok (.lconst z, 1)) (hv : Int64.ofNat (z : Nat) = v) (kk : hW p l e R s m args below meth c Q G nL (pc + 1) lv (.long v :: st) σ k n) : hW p l e R s m args below meth c Q G nL pc lv st σ k n := fun H locs ls h1 h2 h3 => lv_lconst C.1 C.2.1 hd hv (kk H locs ls h1 h2 h3)
theorem h_iload_n (C : hX p s m args meth c G cc own nL ret) {q : Fin 4} (j : Nat) {i : Nat} {x : Int32} (hd : decode cc pc = .ok (.iload_n q, 1)) (hi : (q : Nat) = i) (hl : lv[j]? = some (i, .int x)) (kk : hW p l e R s m args below meth c Q G nL (pc + 1) lv (.int x :: st) σ k n) : hW p l e R s m args below meth c Q G nL pc lv st σ k n := fun H locs ls h1 h2 h3 => lv_iload_n C.1 C.2.1 hd hi (lv_at h3 j hl) (kk H locs ls h1 h2 h3)
theorem h_iload (C : hX p s m args meth c G cc own nL ret) (j : Nat) {i : Nat} {x : Int32} (hd : decode cc pc = .ok (.iload i, 2)) (hl : lv[j]? = some (i, .int x)) (kk : hW p l e R s m args below meth c Q G nL (pc + 2) lv (.int x :: st) σ k n) : hW p l e R s m args below meth c Q G nL pc lv st σ k n := fun H locs ls h1 h2 h3 => lv_iload C.1 C.2.1 hd (lv_at h3 j hl) (kk H locs ls h1 h2 h3)
theorem h_lload_n (C : hX p s m args meth c G cc own nL ret) {q : Fin 4} (j : Nat) {i : Nat} {x : Int64} (hd : decode cc pc = .ok (.lload_n q, 1)) (hi : (q : Nat) = i) (hl : lv[j]? = some (i, .long x)) (kk : hW p l e R s m args below meth c Q G nL (pc + 1) lv (.long x :: st) σ k n) : hW p l e R s m args below meth c Q G nL pc lv st σ k n := fun H locs ls h1 h2 h3 => lv_lload_n C.1 C.2.1 hd hi (lv_at h3 j hl) (kk H locs ls h1 h2 h3)
theorem h_lload (C : hX p s m args meth c G cc own nL ret) (j : Nat) {i : Nat} {x : Int64} (hd : decode cc pc = .ok (.lload i, 2)) (hl : lv[j]? = some (i, .long x)) (kk : hW p l e R s m args below meth c Q G nL (pc + 2) lv (.long x :: st) σ k n) : hW p l e R s m args below meth c Q G nL pc lv st σ k n := fun H locs ls h1 h2 h3 => lv_lload C.1 C.2.1 hd (lv_at h3 j hl) (kk H locs ls h1 h2 h3)
theorem h_aload_n (C : hX p s m args meth c G cc own nL ret) {q : Fin 4} (j : Nat) {i : Nat} {x : Nat} (hd : decode cc pc = .ok (.aload_n q, 1)) (hi : (q : Nat) = i) (hl : lv[j]? = some (i, .ref x)) (kk : hW p l e R s m args below meth c Q G nL (pc + 1) lv (.ref x :: st) σ k n) : hW p l e R s m args below meth c Q G nL pc lv st σ k n := fun H locs ls h1 h2 h3 => lv_aload_n C.1 C.2.1 hd hi (lv_at h3 j hl) (kk H locs ls h1 h2 h3)
theorem h_aload (C : hX p s m args meth c G cc own nL ret) (j : Nat) {i : Nat} {x : Nat} (hd : decode cc pc = .ok (.aload i, 2)) (hl : lv[j]? = some (i, .ref x)) (kk : hW p l e R s m args below meth c Q G nL (pc + 2) lv (.ref x :: st) σ k n) : hW p l e R s m args below meth c Q G nL pc lv st σ k n := fun H locs ls h1 h2 h3 => lv_aload C.1 C.2.1 hd (lv_at h3 j hl) (kk H locs ls h1 h2 h3)
theorem h_aload_nN (C : hX p s m args meth c G cc own nL ret) {q : Fin 4} (j : Nat) {i : Nat} (hd : decode cc pc = .ok (.aload_n q, 1)) (hi : (q : Nat) = i) (hl : lv[j]? = some (i, .null)) (kk : hW p l e R s m args below meth c Q G nL (pc + 1) lv (.null :: st) σ k n) : hW p l e R s m args below meth c Q G nL pc lv st σ k n := fun H locs ls h1 h2 h3 => lv_aload_nN C.1 C.2.1 hd hi (lv_at h3 j hl) (kk H locs ls h1 h2 h3)
theorem h_aloadN (C : hX p s m args meth c G cc own nL ret) (j : Nat) {i : Nat} (hd : decode cc pc = .ok (.aload i, 2)) (hl : lv[j]? = some (i, .null)) (kk : hW p l e R s m args below meth c Q G nL (pc + 2) lv (.null :: st) σ k n) : hW p l e R s m args below meth c Q G nL pc lv st σ k n := fun H locs ls h1 h2 h3 => lv_aloadN C.1 C.2.1 hd (lv_at h3 j hl) (kk H locs ls h1 h2 h3)
theorem h_istore_n (C : hX p s m args meth c G cc own nL ret) (lv' : List (Nat × Value)) {q : Fin 4} {i : Nat} {x : Int32} (hd : decode cc pc = .ok (.istore_n q, 1)) (hi : (q : Nat) = i) (hn : i < nL) (hl : (i, Value.int x) :: lv.filter (fun q => !(q.1 == i) && !(q.1 + 1 == i && q.2.category == 2)) = lv') (kk : hW p l e R s m args below meth c Q G nL (pc + 1) lv' st σ k n) : hW p l e R s m args below meth c Q G nL pc lv (.int x :: st) σ k n := fun H locs ls h1 h2 h3 => lv_istore_n C.1 C.2.1 hd hi h3 hn hl (fun ls h3 => kk H locs ls h1 h2 h3)
theorem h_istore (C : hX p s m args meth c G cc own nL ret) (lv' : List (Nat × Value)) {i : Nat} {x : Int32} (hd : decode cc pc = .ok (.istore i, 2)) (hn : i < nL) (hl : (i, Value.int x) :: lv.filter (fun q => !(q.1 == i) && !(q.1 + 1 == i && q.2.category == 2)) = lv') (kk : hW p l e R s m args below meth c Q G nL (pc + 2) lv' st σ k n) : hW p l e R s m args below meth c Q G nL pc lv (.int x :: st) σ k n := fun H locs ls h1 h2 h3 => lv_istore C.1 C.2.1 hd h3 hn hl (fun ls h3 => kk H locs ls h1 h2 h3)
theorem h_lstore_n (C : hX p s m args meth c G cc own nL ret) (lv' : List (Nat × Value)) {q : Fin 4} {i : Nat} {x : Int64} (hd : decode cc pc = .ok (.lstore_n q, 1)) (hi : (q : Nat) = i) (hn : i + 1 < nL) (hl : (i, Value.long x) :: lv.filter (fun q => !(q.1 == i) && (!(q.1 == i + 1) && !(q.1 + 1 == i && q.2.category == 2))) = lv') (kk : hW p l e R s m args below meth c Q G nL (pc + 1) lv' st σ k n) : hW p l e R s m args below meth c Q G nL pc lv (.long x :: st) σ k n := fun H locs ls h1 h2 h3 => lv_lstore_n C.1 C.2.1 hd hi h3 hn hl (fun ls h3 => kk H locs ls h1 h2 h3)
theorem h_lstore (C : hX p s m args meth c G cc own nL ret) (lv' : List (Nat × Value)) {i : Nat} {x : Int64} (hd : decode cc pc = .ok (.lstore i, 2)) (hn : i + 1 < nL) (hl : (i, Value.long x) :: lv.filter (fun q => !(q.1 == i) && (!(q.1 == i + 1) && !(q.1 + 1 == i && q.2.category == 2))) = lv') (kk : hW p l e R s m args below meth c Q G nL (pc + 2) lv' st σ k n) : hW p l e R s m args below meth c Q G nL pc lv (.long x :: st) σ k n := fun H locs ls h1 h2 h3 => lv_lstore C.1 C.2.1 hd h3 hn hl (fun ls h3 => kk H locs ls h1 h2 h3)
theorem h_astore_n (C : hX p s m args meth c G cc own nL ret) (lv' : List (Nat × Value)) {q : Fin 4} {i : Nat} {x : Nat} (hd : decode cc pc = .ok (.astore_n q, 1)) (hi : (q : Nat) = i) (hn : i < nL) (hl : (i, Value.ref x) :: lv.filter (fun q => !(q.1 == i) && !(q.1 + 1 == i && q.2.category == 2)) = lv') (kk : hW p l e R s m args below meth c Q G nL (pc + 1) lv' st σ k n) : hW p l e R s m args below meth c Q G nL pc lv (.ref x :: st) σ k n := fun H locs ls h1 h2 h3 => lv_astore_n C.1 C.2.1 hd hi h3 hn hl (fun ls h3 => kk H locs ls h1 h2 h3)
theorem h_astore (C : hX p s m args meth c G cc own nL ret) (lv' : List (Nat × Value)) {i : Nat} {x : Nat} (hd : decode cc pc = .ok (.astore i, 2)) (hn : i < nL) (hl : (i, Value.ref x) :: lv.filter (fun q => !(q.1 == i) && !(q.1 + 1 == i && q.2.category == 2)) = lv') (kk : hW p l e R s m args below meth c Q G nL (pc + 2) lv' st σ k n) : hW p l e R s m args below meth c Q G nL pc lv (.ref x :: st) σ k n := fun H locs ls h1 h2 h3 => lv_astore C.1 C.2.1 hd h3 hn hl (fun ls h3 => kk H locs ls h1 h2 h3)
theorem h_astore_nN (C : hX p s m args meth c G cc own nL ret) (lv' : List (Nat × Value)) {q : Fin 4} {i : Nat} (hd : decode cc pc = .ok (.astore_n q, 1)) (hi : (q : Nat) = i) (hn : i < nL) (hl : (i, Value.null) :: lv.filter (fun q => !(q.1 == i) && !(q.1 + 1 == i && q.2.category == 2)) = lv') (kk : hW p l e R s m args below meth c Q G nL (pc + 1) lv' st σ k n) : hW p l e R s m args below meth c Q G nL pc lv (.null :: st) σ k n := fun H locs ls h1 h2 h3 => lv_astore_nN C.1 C.2.1 hd hi h3 hn hl (fun ls h3 => kk H locs ls h1 h2 h3)
theorem h_astoreN (C : hX p s m args meth c G cc own nL ret) (lv' : List (Nat × Value)) {i : Nat} (hd : decode cc pc = .ok (.astore i, 2)) (hn : i < nL) (hl : (i, Value.null) :: lv.filter (fun q => !(q.1 == i) && !(q.1 + 1 == i && q.2.category == 2)) = lv') (kk : hW p l e R s m args below meth c Q G nL (pc + 2) lv' st σ k n) : hW p l e R s m args below meth c Q G nL pc lv (.null :: st) σ k n := fun H locs ls h1 h2 h3 => lv_astoreN C.1 C.2.1 hd h3 hn hl (fun ls h3 => kk H locs ls h1 h2 h3)
theorem h_iinc (C : hX p s m args meth c G cc own nL ret) (lv' : List (Nat × Value)) (j : Nat) {i : Nat} {z : Int} {x : Int32} (v : Int32) (hd : decode cc pc = .ok (.iinc i z, 3)) (hj : lv[j]? = some (i, .int x)) (hv : x + Int32.ofInt z = v) (hn : i < nL) (hl : (i, Value.int v) :: lv.filter (fun q => !(q.1 == i) && !(q.1 + 1 == i && q.2.category == 2)) = lv') (kk : hW p l e R s m args below meth c Q G nL (pc + 3) lv' st σ k n) : hW p l e R s m args below meth c Q G nL pc lv st σ k n := fun H locs ls h1 h2 h3 => lv_iinc C.1 C.2.1 hd h3 hj hv hn hl (fun ls h3 => kk H locs ls h1 h2 h3)
theorem h_iadd (C : hX p s m args meth c G cc own nL ret) {x y : Int32} (hd : decode cc pc = .ok (.iadd, 1)) (kk : hW p l e R s m args below meth c Q G nL (pc + 1) lv (.int (x + y) :: st) σ k n) : hW p l e R s m args below meth c Q G nL pc lv (.int y :: .int x :: st) σ k n := fun H locs ls h1 h2 h3 => lv_iadd C.1 C.2.1 hd (kk H locs ls h1 h2 h3)
theorem h_isub (C : hX p s m args meth c G cc own nL ret) {x y : Int32} (hd : decode cc pc = .ok (.isub, 1)) (kk : hW p l e R s m args below meth c Q G nL (pc + 1) lv (.int (x - y) :: st) σ k n) : hW p l e R s m args below meth c Q G nL pc lv (.int y :: .int x :: st) σ k n := fun H locs ls h1 h2 h3 => lv_isub C.1 C.2.1 hd (kk H locs ls h1 h2 h3)
theorem h_imul (C : hX p s m args meth c G cc own nL ret) {x y : Int32} (hd : decode cc pc = .ok (.imul, 1)) (kk : hW p l e R s m args below meth c Q G nL (pc + 1) lv (.int (x * y) :: st) σ k n) : hW p l e R s m args below meth c Q G nL pc lv (.int y :: .int x :: st) σ k n := fun H locs ls h1 h2 h3 => lv_imul C.1 C.2.1 hd (kk H locs ls h1 h2 h3)
theorem h_iand (C : hX p s m args meth c G cc own nL ret) {x y : Int32} (hd : decode cc pc = .ok (.iand, 1)) (kk : hW p l e R s m args below meth c Q G nL (pc + 1) lv (.int (x &&& y) :: st) σ k n) : hW p l e R s m args below meth c Q G nL pc lv (.int y :: .int x :: st) σ k n := fun H locs ls h1 h2 h3 => lv_iand C.1 C.2.1 hd (kk H locs ls h1 h2 h3)
theorem h_ior (C : hX p s m args meth c G cc own nL ret) {x y : Int32} (hd : decode cc pc = .ok (.ior, 1)) (kk : hW p l e R s m args below meth c Q G nL (pc + 1) lv (.int (x ||| y) :: st) σ k n) : hW p l e R s m args below meth c Q G nL pc lv (.int y :: .int x :: st) σ k n := fun H locs ls h1 h2 h3 => lv_ior C.1 C.2.1 hd (kk H locs ls h1 h2 h3)
theorem h_ixor (C : hX p s m args meth c G cc own nL ret) {x y : Int32} (hd : decode cc pc = .ok (.ixor, 1)) (kk : hW p l e R s m args below meth c Q G nL (pc + 1) lv (.int (x ^^^ y) :: st) σ k n) : hW p l e R s m args below meth c Q G nL pc lv (.int y :: .int x :: st) σ k n := fun H locs ls h1 h2 h3 => lv_ixor C.1 C.2.1 hd (kk H locs ls h1 h2 h3)
theorem h_ishl (C : hX p s m args meth c G cc own nL ret) {x y : Int32} (hd : decode cc pc = .ok (.ishl, 1)) (kk : hW p l e R s m args below meth c Q G nL (pc + 1) lv (.int (x <<< (y &&& 31)) :: st) σ k n) : hW p l e R s m args below meth c Q G nL pc lv (.int y :: .int x :: st) σ k n := fun H locs ls h1 h2 h3 => lv_ishl C.1 C.2.1 hd (kk H locs ls h1 h2 h3)
theorem h_ishr (C : hX p s m args meth c G cc own nL ret) {x y : Int32} (hd : decode cc pc = .ok (.ishr, 1)) (kk : hW p l e R s m args below meth c Q G nL (pc + 1) lv (.int (x >>> (y &&& 31)) :: st) σ k n) : hW p l e R s m args below meth c Q G nL pc lv (.int y :: .int x :: st) σ k n := fun H locs ls h1 h2 h3 => lv_ishr C.1 C.2.1 hd (kk H locs ls h1 h2 h3)
theorem h_idiv (C : hX p s m args meth c G cc own nL ret) {x y : Int32} (hd : decode cc pc = .ok (.idiv, 1)) (hne : ¬ y = 0) (kk : hW p l e R s m args below meth c Q G nL (pc + 1) lv (.int (x / y) :: st) σ k n) : hW p l e R s m args below meth c Q G nL pc lv (.int y :: .int x :: st) σ k n := fun H locs ls h1 h2 h3 => lv_idiv C.1 C.2.1 hd hne (kk H locs ls h1 h2 h3)
theorem h_irem (C : hX p s m args meth c G cc own nL ret) {x y : Int32} (hd : decode cc pc = .ok (.irem, 1)) (hne : ¬ y = 0) (kk : hW p l e R s m args below meth c Q G nL (pc + 1) lv (.int (x - x / y * y) :: st) σ k n) : hW p l e R s m args below meth c Q G nL pc lv (.int y :: .int x :: st) σ k n := fun H locs ls h1 h2 h3 => lv_irem C.1 C.2.1 hd hne (kk H locs ls h1 h2 h3)
theorem h_ineg (C : hX p s m args meth c G cc own nL ret) {x : Int32} (hd : decode cc pc = .ok (.ineg, 1)) (kk : hW p l e R s m args below meth c Q G nL (pc + 1) lv (.int (-x) :: st) σ k n) : hW p l e R s m args below meth c Q G nL pc lv (.int x :: st) σ k n := fun H locs ls h1 h2 h3 => lv_ineg C.1 C.2.1 hd (kk H locs ls h1 h2 h3)
theorem h_ladd (C : hX p s m args meth c G cc own nL ret) {x y : Int64} (hd : decode cc pc = .ok (.ladd, 1)) (kk : hW p l e R s m args below meth c Q G nL (pc + 1) lv (.long (x + y) :: st) σ k n) : hW p l e R s m args below meth c Q G nL pc lv (.long y :: .long x :: st) σ k n := fun H locs ls h1 h2 h3 => lv_ladd C.1 C.2.1 hd (kk H locs ls h1 h2 h3)
theorem h_lsub (C : hX p s m args meth c G cc own nL ret) {x y : Int64} (hd : decode cc pc = .ok (.lsub, 1)) (kk : hW p l e R s m args below meth c Q G nL (pc + 1) lv (.long (x - y) :: st) σ k n) : hW p l e R s m args below meth c Q G nL pc lv (.long y :: .long x :: st) σ k n := fun H locs ls h1 h2 h3 => lv_lsub C.1 C.2.1 hd (kk H locs ls h1 h2 h3)
theorem h_lmul (C : hX p s m args meth c G cc own nL ret) {x y : Int64} (hd : decode cc pc = .ok (.lmul, 1)) (kk : hW p l e R s m args below meth c Q G nL (pc + 1) lv (.long (x * y) :: st) σ k n) : hW p l e R s m args below meth c Q G nL pc lv (.long y :: .long x :: st) σ k n := fun H locs ls h1 h2 h3 => lv_lmul C.1 C.2.1 hd (kk H locs ls h1 h2 h3)
theorem h_lxor (C : hX p s m args meth c G cc own nL ret) {x y : Int64} (hd : decode cc pc = .ok (.lxor, 1)) (kk : hW p l e R s m args below meth c Q G nL (pc + 1) lv (.long (x ^^^ y) :: st) σ k n) : hW p l e R s m args below meth c Q G nL pc lv (.long y :: .long x :: st) σ k n := fun H locs ls h1 h2 h3 => lv_lxor C.1 C.2.1 hd (kk H locs ls h1 h2 h3)
theorem h_ldiv (C : hX p s m args meth c G cc own nL ret) {x y : Int64} (hd : decode cc pc = .ok (.ldiv, 1)) (hne : ¬ y = 0) (kk : hW p l e R s m args below meth c Q G nL (pc + 1) lv (.long (x / y) :: st) σ k n) : hW p l e R s m args below meth c Q G nL pc lv (.long y :: .long x :: st) σ k n := fun H locs ls h1 h2 h3 => lv_ldiv C.1 C.2.1 hd hne (kk H locs ls h1 h2 h3)
theorem h_lrem (C : hX p s m args meth c G cc own nL ret) {x y : Int64} (hd : decode cc pc = .ok (.lrem, 1)) (hne : ¬ y = 0) (kk : hW p l e R s m args below meth c Q G nL (pc + 1) lv (.long (x - x / y * y) :: st) σ k n) : hW p l e R s m args below meth c Q G nL pc lv (.long y :: .long x :: st) σ k n := fun H locs ls h1 h2 h3 => lv_lrem C.1 C.2.1 hd hne (kk H locs ls h1 h2 h3)
theorem h_lneg (C : hX p s m args meth c G cc own nL ret) {x : Int64} (hd : decode cc pc = .ok (.lneg, 1)) (kk : hW p l e R s m args below meth c Q G nL (pc + 1) lv (.long (-x) :: st) σ k n) : hW p l e R s m args below meth c Q G nL pc lv (.long x :: st) σ k n := fun H locs ls h1 h2 h3 => lv_lneg C.1 C.2.1 hd (kk H locs ls h1 h2 h3)
theorem h_i2l (C : hX p s m args meth c G cc own nL ret) {x : Int32} (hd : decode cc pc = .ok (.i2l, 1)) (kk : hW p l e R s m args below meth c Q G nL (pc + 1) lv (.long x.toInt64 :: st) σ k n) : hW p l e R s m args below meth c Q G nL pc lv (.int x :: st) σ k n := fun H locs ls h1 h2 h3 => lv_i2l C.1 C.2.1 hd rfl (kk H locs ls h1 h2 h3)
theorem h_l2i (C : hX p s m args meth c G cc own nL ret) {x : Int64} (hd : decode cc pc = .ok (.l2i, 1)) (kk : hW p l e R s m args below meth c Q G nL (pc + 1) lv (.int x.toInt32 :: st) σ k n) : hW p l e R s m args below meth c Q G nL pc lv (.long x :: st) σ k n := fun H locs ls h1 h2 h3 => lv_l2i C.1 C.2.1 hd rfl (kk H locs ls h1 h2 h3)
theorem h_i2b (C : hX p s m args meth c G cc own nL ret) {x : Int32} (hd : decode cc pc = .ok (.i2b, 1)) (kk : hW p l e R s m args below meth c Q G nL (pc + 1) lv (.int x.toInt8.toInt32 :: st) σ k n) : hW p l e R s m args below meth c Q G nL pc lv (.int x :: st) σ k n := fun H locs ls h1 h2 h3 => lv_i2b C.1 C.2.1 hd rfl (kk H locs ls h1 h2 h3)
theorem h_lcmp (C : hX p s m args meth c G cc own nL ret) {x y : Int64} (hd : decode cc pc = .ok (.lcmp, 1)) (kk : hW p l e R s m args below meth c Q G nL (pc + 1) lv (.int (lg_cmp x y) :: st) σ k n) : hW p l e R s m args below meth c Q G nL pc lv (.long y :: .long x :: st) σ k n := fun H locs ls h1 h2 h3 => W.lcmp C.1 C.2.1 hd (kk H locs ls h1 h2 h3)
theorem h_dup (C : hX p s m args meth c G cc own nL ret) {va : Value} (hd : decode cc pc = .ok (.dup, 1)) (hva : va.category = 1) (kk : hW p l e R s m args below meth c Q G nL (pc + 1) lv (va :: va :: st) σ k n) : hW p l e R s m args below meth c Q G nL pc lv (va :: st) σ k n := fun H locs ls h1 h2 h3 => lv_dup C.1 C.2.1 hd hva (kk H locs ls h1 h2 h3)
theorem h_pop (C : hX p s m args meth c G cc own nL ret) {va : Value} (hd : decode cc pc = .ok (.pop, 1)) (hva : va.category = 1) (kk : hW p l e R s m args below meth c Q G nL (pc + 1) lv st σ k n) : hW p l e R s m args below meth c Q G nL pc lv (va :: st) σ k n := fun H locs ls h1 h2 h3 => lv_pop C.1 C.2.1 hd hva (kk H locs ls h1 h2 h3)
theorem h_dup2 (C : hX p s m args meth c G cc own nL ret) {va vb : Value} (hd : decode cc pc = .ok (.dup2, 1)) (hva : va.category = 1) (hvb : vb.category = 1) (kk : hW p l e R s m args below meth c Q G nL (pc + 1) lv (va :: vb :: va :: vb :: st) σ k n) : hW p l e R s m args below meth c Q G nL pc lv (va :: vb :: st) σ k n := fun H locs ls h1 h2 h3 => lv_dup2_11 C.1 C.2.1 hd hva hvb (kk H locs ls h1 h2 h3)
theorem h_dup2l (C : hX p s m args meth c G cc own nL ret) {va : Value} (hd : decode cc pc = .ok (.dup2, 1)) (hva : va.category = 2) (kk : hW p l e R s m args below meth c Q G nL (pc + 1) lv (va :: va :: st) σ k n) : hW p l e R s m args below meth c Q G nL pc lv (va :: st) σ k n := fun H locs ls h1 h2 h3 => lv_dup2_2 C.1 C.2.1 hd hva (kk H locs ls h1 h2 h3)
theorem h_null (C : hX p s m args meth c G cc own nL ret) (hd : decode cc pc = .ok (.aconst_null, 1)) (kk : hW p l e R s m args below meth c Q G nL (pc + 1) lv (.null :: st) σ k n) : hW p l e R s m args below meth c Q G nL pc lv st σ k n := fun H locs ls h1 h2 h3 => lv_null C.1 C.2.1 hd (kk H locs ls h1 h2 h3)
theorem h_ldc2 (C : hX p s m args meth c G cc own nL ret) {index : Nat} (v : Int64) (hd : decode cc pc = .ok (.ldc2_w index, 3)) (hw : Jvm.Cond.constantLong own index v ∈ gtbl) (kk : hW p l e R s m args below meth c Q G nL (pc + 3) lv (.long v :: st) σ k n) : hW p l e R s m args below meth c Q G nL pc lv st σ k n := fun H locs ls h1 h2 h3 => lv_ldc2 C.1 C.2.1 C.2.2.2.1 (C.2.2.2.2.1 _ hw) hd (kk H locs ls h1 h2 h3)
theorem h_goto (C : hX p s m args meth c G cc own nL ret) {off : Int} (tgt : Nat) (hd : decode cc pc = .ok (.goto off, 3)) (ht : (pc : Int) + off = (tgt : Int)) (kk : hW p l e R s m args below meth c Q G nL (tgt) lv st σ k n) : hW p l e R s m args below meth c Q G nL pc lv st σ k n := fun H locs ls h1 h2 h3 => lv_goto C.1 C.2.1 hd ht (kk H locs ls h1 h2 h3)
theorem h_if_eq (C : hX p s m args meth c G cc own nL ret) {x : Int32} {off : Int} (tgt : Nat) (hd : decode cc pc = .ok (.ifCond .eq off, 3)) (ht : (pc : Int) + off = (tgt : Int)) (kt : x = 0 → hW p l e R s m args below meth c Q G nL tgt lv st σ k n) (kf : ¬ x = 0 → hW p l e R s m args below meth c Q G nL (pc + 3) lv st σ k n) : hW p l e R s m args below meth c Q G nL pc lv (.int x :: st) σ k n := fun H locs ls h1 h2 h3 => lv_if_eq C.1 C.2.1 hd ht (fun q => kt q H locs ls h1 h2 h3) (fun q => kf q H locs ls h1 h2 h3)
theorem h_icmp_eq (C : hX p s m args meth c G cc own nL ret) {x y : Int32} {off : Int} (tgt : Nat) (hd : decode cc pc = .ok (.if_icmp .eq off, 3)) (ht : (pc : Int) + off = (tgt : Int)) (kt : x = y → hW p l e R s m args below meth c Q G nL tgt lv st σ k n) (kf : ¬ x = y → hW p l e R s m args below meth c Q G nL (pc + 3) lv st σ k n) : hW p l e R s m args below meth c Q G nL pc lv (.int y :: .int x :: st) σ k n := fun H locs ls h1 h2 h3 => lv_icmp_eq C.1 C.2.1 hd ht (fun q => kt q H locs ls h1 h2 h3) (fun q => kf q H locs ls h1 h2 h3)
theorem h_if_ne (C : hX p s m args meth c G cc own nL ret) {x : Int32} {off : Int} (tgt : Nat) (hd : decode cc pc = .ok (.ifCond .ne off, 3)) (ht : (pc : Int) + off = (tgt : Int)) (kt : ¬ x = 0 → hW p l e R s m args below meth c Q G nL tgt lv st σ k n) (kf : x = 0 → hW p l e R s m args below meth c Q G nL (pc + 3) lv st σ k n) : hW p l e R s m args below meth c Q G nL pc lv (.int x :: st) σ k n := fun H locs ls h1 h2 h3 => lv_if_ne C.1 C.2.1 hd ht (fun q => kt q H locs ls h1 h2 h3) (fun q => kf q H locs ls h1 h2 h3)
theorem h_icmp_ne (C : hX p s m args meth c G cc own nL ret) {x y : Int32} {off : Int} (tgt : Nat) (hd : decode cc pc = .ok (.if_icmp .ne off, 3)) (ht : (pc : Int) + off = (tgt : Int)) (kt : ¬ x = y → hW p l e R s m args below meth c Q G nL tgt lv st σ k n) (kf : x = y → hW p l e R s m args below meth c Q G nL (pc + 3) lv st σ k n) : hW p l e R s m args below meth c Q G nL pc lv (.int y :: .int x :: st) σ k n := fun H locs ls h1 h2 h3 => lv_icmp_ne C.1 C.2.1 hd ht (fun q => kt q H locs ls h1 h2 h3) (fun q => kf q H locs ls h1 h2 h3)
theorem h_if_lt (C : hX p s m args meth c G cc own nL ret) {x : Int32} {off : Int} (tgt : Nat) (hd : decode cc pc = .ok (.ifCond .lt off, 3)) (ht : (pc : Int) + off = (tgt : Int)) (kt : x < 0 → hW p l e R s m args below meth c Q G nL tgt lv st σ k n) (kf : ¬ x < 0 → hW p l e R s m args below meth c Q G nL (pc + 3) lv st σ k n) : hW p l e R s m args below meth c Q G nL pc lv (.int x :: st) σ k n := fun H locs ls h1 h2 h3 => lv_if_lt C.1 C.2.1 hd ht (fun q => kt q H locs ls h1 h2 h3) (fun q => kf q H locs ls h1 h2 h3)
theorem h_icmp_lt (C : hX p s m args meth c G cc own nL ret) {x y : Int32} {off : Int} (tgt : Nat) (hd : decode cc pc = .ok (.if_icmp .lt off, 3)) (ht : (pc : Int) + off = (tgt : Int)) (kt : x < y → hW p l e R s m args below meth c Q G nL tgt lv st σ k n) (kf : ¬ x < y → hW p l e R s m args below meth c Q G nL (pc + 3) lv st σ k n) : hW p l e R s m args below meth c Q G nL pc lv (.int y :: .int x :: st) σ k n := fun H locs ls h1 h2 h3 => lv_icmp_lt C.1 C.2.1 hd ht (fun q => kt q H locs ls h1 h2 h3) (fun q => kf q H locs ls h1 h2 h3)
theorem h_if_ge (C : hX p s m args meth c G cc own nL ret) {x : Int32} {off : Int} (tgt : Nat) (hd : decode cc pc = .ok (.ifCond .ge off, 3)) (ht : (pc : Int) + off = (tgt : Int)) (kt : 0 ≤ x → hW p l e R s m args below meth c Q G nL tgt lv st σ k n) (kf : ¬ 0 ≤ x → hW p l e R s m args below meth c Q G nL (pc + 3) lv st σ k n) : hW p l e R s m args below meth c Q G nL pc lv (.int x :: st) σ k n := fun H locs ls h1 h2 h3 => lv_if_ge C.1 C.2.1 hd ht (fun q => kt q H locs ls h1 h2 h3) (fun q => kf q H locs ls h1 h2 h3)
theorem h_icmp_ge (C : hX p s m args meth c G cc own nL ret) {x y : Int32} {off : Int} (tgt : Nat) (hd : decode cc pc = .ok (.if_icmp .ge off, 3)) (ht : (pc : Int) + off = (tgt : Int)) (kt : y ≤ x → hW p l e R s m args below meth c Q G nL tgt lv st σ k n) (kf : ¬ y ≤ x → hW p l e R s m args below meth c Q G nL (pc + 3) lv st σ k n) : hW p l e R s m args below meth c Q G nL pc lv (.int y :: .int x :: st) σ k n := fun H locs ls h1 h2 h3 => lv_icmp_ge C.1 C.2.1 hd ht (fun q => kt q H locs ls h1 h2 h3) (fun q => kf q H locs ls h1 h2 h3)
theorem h_if_gt (C : hX p s m args meth c G cc own nL ret) {x : Int32} {off : Int} (tgt : Nat) (hd : decode cc pc = .ok (.ifCond .gt off, 3)) (ht : (pc : Int) + off = (tgt : Int)) (kt : 0 < x → hW p l e R s m args below meth c Q G nL tgt lv st σ k n) (kf : ¬ 0 < x → hW p l e R s m args below meth c Q G nL (pc + 3) lv st σ k n) : hW p l e R s m args below meth c Q G nL pc lv (.int x :: st) σ k n := fun H locs ls h1 h2 h3 => lv_if_gt C.1 C.2.1 hd ht (fun q => kt q H locs ls h1 h2 h3) (fun q => kf q H locs ls h1 h2 h3)
theorem h_icmp_gt (C : hX p s m args meth c G cc own nL ret) {x y : Int32} {off : Int} (tgt : Nat) (hd : decode cc pc = .ok (.if_icmp .gt off, 3)) (ht : (pc : Int) + off = (tgt : Int)) (kt : y < x → hW p l e R s m args below meth c Q G nL tgt lv st σ k n) (kf : ¬ y < x → hW p l e R s m args below meth c Q G nL (pc + 3) lv st σ k n) : hW p l e R s m args below meth c Q G nL pc lv (.int y :: .int x :: st) σ k n := fun H locs ls h1 h2 h3 => lv_icmp_gt C.1 C.2.1 hd ht (fun q => kt q H locs ls h1 h2 h3) (fun q => kf q H locs ls h1 h2 h3)
theorem h_if_le (C : hX p s m args meth c G cc own nL ret) {x : Int32} {off : Int} (tgt : Nat) (hd : decode cc pc = .ok (.ifCond .le off, 3)) (ht : (pc : Int) + off = (tgt : Int)) (kt : x ≤ 0 → hW p l e R s m args below meth c Q G nL tgt lv st σ k n) (kf : ¬ x ≤ 0 → hW p l e R s m args below meth c Q G nL (pc + 3) lv st σ k n) : hW p l e R s m args below meth c Q G nL pc lv (.int x :: st) σ k n := fun H locs ls h1 h2 h3 => lv_if_le C.1 C.2.1 hd ht (fun q => kt q H locs ls h1 h2 h3) (fun q => kf q H locs ls h1 h2 h3)
theorem h_icmp_le (C : hX p s m args meth c G cc own nL ret) {x y : Int32} {off : Int} (tgt : Nat) (hd : decode cc pc = .ok (.if_icmp .le off, 3)) (ht : (pc : Int) + off = (tgt : Int)) (kt : x ≤ y → hW p l e R s m args below meth c Q G nL tgt lv st σ k n) (kf : ¬ x ≤ y → hW p l e R s m args below meth c Q G nL (pc + 3) lv st σ k n) : hW p l e R s m args below meth c Q G nL pc lv (.int y :: .int x :: st) σ k n := fun H locs ls h1 h2 h3 => lv_icmp_le C.1 C.2.1 hd ht (fun q => kt q H locs ls h1 h2 h3) (fun q => kf q H locs ls h1 h2 h3)
theorem h_acmp_eq (C : hX p s m args meth c G cc own nL ret) {rx ry : Option Nat} {off : Int} (tgt : Nat) (hd : decode cc pc = .ok (.if_acmp .eq off, 3)) (ht : (pc : Int) + off = (tgt : Int)) (kt : rx = ry → hW p l e R s m args below meth c Q G nL tgt lv st σ k n) (kf : ¬ rx = ry → hW p l e R s m args below meth c Q G nL (pc + 3) lv st σ k n) : hW p l e R s m args below meth c Q G nL pc lv (rf G ry :: rf G rx :: st) σ k n := fun H locs ls h1 h2 h3 => lv_acmp_eq C.1 C.2.1 hd ht (fun q => kt (rf_ix q) H locs ls h1 h2 h3) (fun q => kf (fun z => q (by rw [z])) H locs ls h1 h2 h3)
theorem h_acmp_ne (C : hX p s m args meth c G cc own nL ret) {rx ry : Option Nat} {off : Int} (tgt : Nat) (hd : decode cc pc = .ok (.if_acmp .ne off, 3)) (ht : (pc : Int) + off = (tgt : Int)) (kt : ¬ rx = ry → hW p l e R s m args below meth c Q G nL tgt lv st σ k n) (kf : rx = ry → hW p l e R s m args below meth c Q G nL (pc + 3) lv st σ k n) : hW p l e R s m args below meth c Q G nL pc lv (rf G ry :: rf G rx :: st) σ k n := fun H locs ls h1 h2 h3 => lv_acmp_ne C.1 C.2.1 hd ht (fun q => kt (fun z => q (by rw [z])) H locs ls h1 h2 h3) (fun q => kf (rf_ix q) H locs ls h1 h2 h3)
theorem h_ifnull (C : hX p s m args meth c G cc own nL ret) {x : Nat} {off : Int} (hd : decode cc pc = .ok (.ifnull off, 3)) (kk : hW p l e R s m args below meth c Q G nL (pc + 3) lv st σ k n) : hW p l e R s m args below meth c Q G nL pc lv (.ref x :: st) σ k n := fun H locs ls h1 h2 h3 => lv_ifnull C.1 C.2.1 hd (kk H locs ls h1 h2 h3)
theorem h_ifnullN (C : hX p s m args meth c G cc own nL ret) {off : Int} (tgt : Nat) (hd : decode cc pc = .ok (.ifnull off, 3)) (ht : (pc : Int) + off = (tgt : Int)) (kk : hW p l e R s m args below meth c Q G nL (tgt) lv st σ k n) : hW p l e R s m args below meth c Q G nL pc lv (.null :: st) σ k n := fun H locs ls h1 h2 h3 => lv_ifnullN C.1 C.2.1 hd ht (kk H locs ls h1 h2 h3)
theorem h_ifnonnull (C : hX p s m args meth c G cc own nL ret) {x : Nat} {off : Int} (tgt : Nat) (hd : decode cc pc = .ok (.ifnonnull off, 3)) (ht : (pc : Int) + off = (tgt : Int)) (kk : hW p l e R s m args below meth c Q G nL (tgt) lv st σ k n) : hW p l e R s m args below meth c Q G nL pc lv (.ref x :: st) σ k n := fun H locs ls h1 h2 h3 => lv_ifnonnull C.1 C.2.1 hd ht (kk H locs ls h1 h2 h3)
theorem h_ifnonnullN (C : hX p s m args meth c G cc own nL ret) {off : Int} (hd : decode cc pc = .ok (.ifnonnull off, 3)) (kk : hW p l e R s m args below meth c Q G nL (pc + 3) lv st σ k n) : hW p l e R s m args below meth c Q G nL pc lv (.null :: st) σ k n := fun H locs ls h1 h2 h3 => lv_ifnonnullN C.1 C.2.1 hd (kk H locs ls h1 h2 h3)
theorem h_tableOut (C : hX p s m args meth c G cc own nL ret) {dflt lo hi : Int} {offs : Array Int} {len : Nat} {x : Int32} (tgt : Nat) (hd : decode cc pc = .ok (.tableswitch dflt lo hi offs, len)) (h : x.toInt < lo ∨ hi < x.toInt) (ht : (pc : Int) + dflt = (tgt : Int)) (kk : hW p l e R s m args below meth c Q G nL tgt lv st σ k n) : hW p l e R s m args below meth c Q G nL pc lv (.int x :: st) σ k n := fun H locs ls h1 h2 h3 => lv_tableOut C.1 C.2.1 hd h ht (kk H locs ls h1 h2 h3)
theorem h_tableIn (C : hX p s m args meth c G cc own nL ret) {dflt lo hi : Int} {offs : Array Int} {len : Nat} {x : Int32} {off : Int} (tgt : Nat) (hd : decode cc pc = .ok (.tableswitch dflt lo hi offs, len)) (q1 : ¬ x.toInt < lo) (q2 : ¬ hi < x.toInt) (ho : offs[(x.toInt - lo).toNat]? = some off) (ht : (pc : Int) + off = (tgt : Int)) (kk : hW p l e R s m args below meth c Q G nL tgt lv st σ k n) : hW p l e R s m args below meth c Q G nL pc lv (.int x :: st) σ k n := fun H locs ls h1 h2 h3 => lv_tableIn C.1 C.2.1 hd q1 q2 ho ht (kk H locs ls h1 h2 h3)
theorem h_widen {k' n' : Nat} (a1 : k ≤ k') (a2 : n ≤ n') (kk : hW p l e R s m args below meth c Q G nL pc lv st σ k' n') : hW p l e R s m args below meth c Q G nL pc lv st σ k n := fun H locs ls h1 h2 h3 => W.widen a1 a2 (kk H locs ls h1 h2 h3)
theorem h_sub {lv' : List (Nat × Value)} (ks : List Nat) (hl : lv_pick lv ks = lv') (kk : hW p l e R s m args below meth c Q G nL pc lv' st σ k n) : hW p l e R s m args below meth c Q G nL pc lv st σ k n := fun H locs ls h1 h2 h3 => kk H locs ls h1 h2 (lv_sub h3 ks hl)
end
end
section
section
variable {p : Program} {l : Launch} {e : Env} {R : Room} {s : State} {m : MethodId} {args : Array Value} {below : List Frame} {meth : Method} {c : Code} {Q : State → Prop} {G : ha_G} {cc : ByteArray} {own : String} {ret : Option FieldType} {nL pc : Nat} {lv lv' : List (Nat × Value)} {st : List Value} {σ : ha_St} {k n : Nat}
/-- a class of the store: its row in vwCl, its fields' words -/
def hC (ci : Nat) (Cn : String) (T : u_T) (N : Nat) (ty : Nat → FieldType) : Prop :=
  ci < 12 ∧ fN ci = N ∧ vwCl[ci]? = some (Cn, T, N) ∧ (∀ w ∈ u_ws Cn T N, w ∈ gtbl) ∧ (∀ k, k < N → parseFieldDescriptor (T k).2.2.1 = some (ty k)) ∧ (∀ a, a < N → ∀ b, b < N → a ≠ b → (T a).2.1 ≠ (T b).2.1)
theorem h_getf (C : hX p s m args meth c G cc own nL ret) {ci index i ln : Nat} {ref Cn : String} {T : u_T} {N : Nat} {ty : Nat → FieldType} {a : Nat} (hC0 : hC ci Cn T N ty) (hT : gT σ a = (ci + 1, ln)) (hi : i < N)
    (hlink : Cond.fieldLink own index ref (T i).2.1 (T i).2.2.1 ∈ gtbl) (hsame : ref = (T i).1 ∨ Cond.sameField ref (T i).1 (T i).2.1 (T i).2.2.1 ∈ gtbl)
    (hd : decode cc pc = .ok (.getfield index, 3)) (kk : hW p l e R s m args below meth c Q G nL (pc + 3) lv (fv G σ a (fk ci i) :: st) σ k n) : hW p l e R s m args below meth c Q G nL pc lv (.ref (ad G a) :: st) σ k n := by
  intro H locs ls h1 h2 h3
  obtain ⟨c1, c2, c3, c4, c5, c6⟩ := hC0
  refine va_get C.1 C.2.1 (own := own) (ref := ref) (index := index) C.2.2.2.2.1 c4 C.2.2.2.1 C.2.2.2.2.2.1.1 (h1.one (by rw [hT]; exact Nat.succ_ne_zero _) (hE_o hT c1)) 0 rfl c3 i hi (C.2.2.2.2.1 _ hlink) ?_ (fs_get (by rw [c2]; exact hi)) hd (kk H locs ls h1 h2 h3)
  intro x hx
  rcases hsame with h | h
  · rw [h]; exact hx
  · exact u_same (C.2.2.2.2.1 _ h) x hx
theorem h_getfN (C : hX p s m args meth c G cc own nL ret) {ci index i ln : Nat} {ref Cn host : String} {T : u_T} {N : Nat} {ty : Nat → FieldType} {a : Nat} (hC0 : hC ci Cn T N ty) (hT : gT σ a = (ci + 1, ln)) (hi : i < N)
    (hlink : Cond.fieldLinkNest own index ref (T i).2.1 (T i).2.2.1 host ∈ ntbl) (hsame : ref = (T i).1)
    (hd : decode cc pc = .ok (.getfield index, 3)) (kk : hW p l e R s m args below meth c Q G nL (pc + 3) lv (fv G σ a (fk ci i) :: st) σ k n) : hW p l e R s m args below meth c Q G nL pc lv (.ref (ad G a) :: st) σ k n := by
  intro H locs ls h1 h2 h3
  obtain ⟨c1, c2, c3, c4, c5, c6⟩ := hC0
  refine va_getN C.1 C.2.1 (own := own) (ref := ref) (index := index) C.2.2.2.2.1 c4 C.2.2.2.1 C.2.2.2.2.2.1.1 (h1.one (by rw [hT]; exact Nat.succ_ne_zero _) (hE_o hT c1)) 0 rfl c3 i hi (va_Nw.use rfl (C.2.2.2.2.2.1.2.1 _ hlink)) ?_ (fs_get (by rw [c2]; exact hi)) hd (kk H locs ls h1 h2 h3)
  intro x hx
  rw [hsame]; exact hx
/-- a store whose cell a alone has other fields, and there the i-th alone -/
def hPut (G : ha_G) (σ σ' : ha_St) (a ci i : Nat) (v : Value) : Prop := gn σ' = gn σ ∧ gT σ' = gT σ ∧ (∀ x, x ≠ a → hE G σ' x = hE G σ x) ∧ fs G σ' a ci = (fs G σ a ci).set i v
theorem hE_congr {σ' : ha_St} {x : Nat} (hI : gI σ' x = gI σ x) (hL : gL σ' x = gL σ x) (hR : gR σ' x = gR σ x) (hT : gT σ' x = gT σ x) : hE G σ' x = hE G σ x := by
  have hv : ∀ q, fv G σ' x q = fv G σ x q := fun q => by unfold fv; rw [hI, hL, hR]
  have hf : ∀ ci, fs G σ' x ci = fs G σ x ci := fun ci => by unfold fs; exact List.map_congr_left (fun k _ => hv _)
  unfold hE
  rw [hT, hI, hL, hR, hf]
theorem fs_set {σ' : ha_St} {a ci i : Nat} {v : Value} (hi : i < fN ci) (hv : fv G σ' a (fk ci i) = v) (ho : ∀ j, j < fN ci → j ≠ i → fv G σ' a (fk ci j) = fv G σ a (fk ci j)) : fs G σ' a ci = (fs G σ a ci).set i v := by
  apply List.ext_getElem?
  intro j
  by_cases hj : j < fN ci
  · rw [fs_get hj]
    by_cases hji : j = i
    · subst hji
      rw [List.getElem?_set_self (by rw [fs_len]; exact hi), hv]
    · rw [List.getElem?_set_ne (Ne.symm hji), fs_get hj, ho j hj hji]
  · rw [List.getElem?_eq_none (by rw [fs_len]; omega), List.getElem?_eq_none (by rw [List.length_set, fs_len]; omega)]
theorem hPut_I {a ci i j : Nat} {v : Int32} (hi : i < fN ci) (hk : fk ci i = (0, j) ∨ fk ci i = (3, j)) (ho : ∀ x, x < fN ci → x ≠ i → (fk ci x).1 = 1 ∨ (fk ci x).1 = 2 ∨ (fk ci x).2 ≠ j) : hPut G σ (sI σ a j v) a ci i (.int v) := by
  refine ⟨rfl, rfl, fun x hx => hE_congr (funext fun y => ?_) rfl rfl rfl, fs_set hi ?_ fun x hx hxi => ?_⟩
  · rw [gI_sI, if_neg (fun q => hx q.1)]
  · rcases hk with h | h <;> (unfold fv; rw [h]; simp [gI_sI])
  · unfold fv
    rcases ho x hx hxi with h | h | h
    · rw [if_pos h, if_pos h]; rfl
    · rw [h]; simp only [if_neg (show ¬ (2 = 1) by decide), if_pos]; rfl
    · simp [gL_sI, gR_sI, gI_sI, h]
theorem hPut_L {a ci i j : Nat} {v : Int64} (hi : i < fN ci) (hk : fk ci i = (1, j)) (ho : ∀ x, x < fN ci → x ≠ i → (fk ci x).1 ≠ 1 ∨ (fk ci x).2 ≠ j) : hPut G σ (sL σ a j v) a ci i (.long v) := by
  refine ⟨rfl, rfl, fun x hx => hE_congr rfl (funext fun y => ?_) rfl rfl, fs_set hi ?_ fun x hx hxi => ?_⟩
  · rw [gL_sL, if_neg (fun q => hx q.1)]
  · unfold fv; rw [hk]; simp [gL_sL]
  · unfold fv
    rcases ho x hx hxi with h | h
    · rw [if_neg h, if_neg h]; rfl
    · simp [gL_sL, gR_sL, gI_sL, h]
theorem hPut_R {a ci i j : Nat} {v : Option Nat} (hi : i < fN ci) (hk : fk ci i = (2, j)) (ho : ∀ x, x < fN ci → x ≠ i → (fk ci x).1 ≠ 2 ∨ (fk ci x).2 ≠ j) : hPut G σ (sR σ a j v) a ci i (rf G v) := by
  refine ⟨rfl, rfl, fun x hx => hE_congr rfl rfl (funext fun y => ?_) rfl, fs_set hi ?_ fun x hx hxi => ?_⟩
  · rw [gR_sR, if_neg (fun q => hx q.1)]
  · unfold fv; rw [hk]; simp [gR_sR]
  · unfold fv
    rcases ho x hx hxi with h | h
    · rw [if_neg h, if_neg h]; rfl
    · simp [gR_sR, gL_sR, gI_sR, h]
theorem h_putf (C : hX p s m args meth c G cc own nL ret) {ci index i ln : Nat} {ref Cn : String} {T : u_T} {N : Nat} {ty : Nat → FieldType} {a : Nat} {v : Value} (σ' : ha_St) (hC0 : hC ci Cn T N ty) (hT : gT σ a = (ci + 1, ln)) (hi : i < N)
    (hlink : Cond.fieldLink own index ref (T i).2.1 (T i).2.2.1 ∈ gtbl) (hsame : ref = (T i).1) (hfin : (T i).2.2.2 = false ∨ ((T i).2.2.2 = true ∧ meth.name = "<init>" ∧ (T i).1 = own)) (hn : narrow (ty i) v = v) (hfit : fits (ty i) v = true)
    (hd : decode cc pc = .ok (.putfield index, 3)) (hp : hPut G σ σ' a ci i v) (kk : hW p l e R s m args below meth c Q G nL (pc + 3) lv st σ' k n) : hW p l e R s m args below meth c Q G nL pc lv (v :: .ref (ad G a) :: st) σ k n := by
  intro H locs ls h1 h2 h3
  obtain ⟨c1, c2, c3, c4, c5, c6⟩ := hC0
  have hts := C.2.2.2.2.1
  have hK := C.2.2.2.2.2.1.1
  have hap := va_apart (own := own) hts c4 ty c5 c6 hK c3
  obtain ⟨r, g1, cell, q1, q2, q3, q4⟩ := (h1.one (by rw [hT]; exact Nat.succ_ne_zero _) (hE_o hT c1)) 0 _ rfl
  have hr : r = (Cn, T, N) := Option.some.inj (g1.symm.trans c3)
  subst hr
  obtain ⟨hS, hfc, kC, hkC, hkind⟩ := hK.1 ci _ c3
  obtain ⟨cf, kf, fi, f, hif, hsl⟩ := hS i hi
  have hlay := hts _ (c4 _ (u_in_lay hi))
  have hst := (u_facts hfc hkC (u_lays hts c4 hi) hif).1
  have fin : ∀ H' : Heap, H'[ad G a]? = some (cell.setSlot f.slot v) → H'.size = H.size → (∀ q, q ≠ ad G a → H'[q]? = H[q]?) → W p l e R s m args below meth c H' (locs ++ [⟨ad G a, f.slot⟩]) k n Q (F0 m (pc + 3) ls st) := by
    intro H' e1 e2 e3
    rw [hsl] at e1
    refine kk H' _ ls (h1.set (a := a) hp.1 hp.2.1 e2 e3 hp.2.2.1 ?_) (hS_put h2 e2 e3) h3
    have hT' : gT σ' a = (ci + 1, ln) := by rw [hp.2.1]; exact hT
    rw [hE_o hT' c1, hp.2.2.2]
    exact ⟨_, c3, t_OB.to (V := updV (vp_V (fs G σ a ci)) i v) ⟨_, e1, q2, q3, t_set q4 hap hi v⟩ (fun j _ => vp_updV_set (by rw [fs_len, c2]; exact hi) v j)⟩
  rcases hfin with hfin | ⟨hfin, hin2, hdecl⟩
  · unfold u_lay at hlay
    rw [if_neg (by rw [hfin]; decide)] at hlay
    have h6 := u_store hfc hkC hkind hlay hif (c5 i hi) hn hfit
    exact W.putK C.1 C.2.1 (f := f) ⟨C.2.2.2.1, hts _ hlink, ⟨_, _, _, by rw [hsame]; exact hif⟩, hst⟩ (by rw [q2]; exact h6) q1 q3 (by rw [hsl]; exact k2_hasslot (q4 i hi)) rfl rfl hd fin
  · unfold u_lay at hlay
    rw [if_pos hfin] at hlay
    have hcf : m.cls = cf := by
      obtain ⟨_, _, c', _, _, _, -, -, hf', -, -, -, hown2, -⟩ := Cond.laysFinal_spec hlay
      have e1 : c' = cf := by have := hif.symm.trans hf'; simp at this; exact this.1.symm
      rw [hdecl] at hown2
      rw [← e1]; exact Option.some.inj (C.2.2.2.1.symm.trans hown2)
    have h6 := u_fits hfc hkC hkind (Or.inr hlay) hif (c5 i hi) hn hfit
    exact W.putFinK C.1 C.2.1 C.2.2.2.1 (hts _ hlink) (by rw [hsame]; exact hif) hst hcf hin2 (by rw [q2]; exact h6) q1 q3 (by rw [hsl]; exact k2_hasslot (q4 i hi)) rfl rfl hd fin
theorem h_putfN (C : hX p s m args meth c G cc own nL ret) {ci index i ln : Nat} {ref Cn host : String} {T : u_T} {N : Nat} {ty : Nat → FieldType} {a : Nat} {v : Value} (σ' : ha_St) (hC0 : hC ci Cn T N ty) (hT : gT σ a = (ci + 1, ln)) (hi : i < N)
    (hlink : Cond.fieldLinkNest own index ref (T i).2.1 (T i).2.2.1 host ∈ ntbl) (hsame : ref = (T i).1) (hfin : (T i).2.2.2 = false) (hn : narrow (ty i) v = v) (hfit : fits (ty i) v = true)
    (hd : decode cc pc = .ok (.putfield index, 3)) (hp : hPut G σ σ' a ci i v) (kk : hW p l e R s m args below meth c Q G nL (pc + 3) lv st σ' k n) : hW p l e R s m args below meth c Q G nL pc lv (v :: .ref (ad G a) :: st) σ k n := by
  intro H locs ls h1 h2 h3
  obtain ⟨c1, c2, c3, c4, c5, c6⟩ := hC0
  have hts := C.2.2.2.2.1
  have hK := C.2.2.2.2.2.1.1
  have hap := va_apart (own := own) hts c4 ty c5 c6 hK c3
  obtain ⟨r, g1, cell, q1, q2, q3, q4⟩ := (h1.one (by rw [hT]; exact Nat.succ_ne_zero _) (hE_o hT c1)) 0 _ rfl
  have hr : r = (Cn, T, N) := Option.some.inj (g1.symm.trans c3)
  subst hr
  obtain ⟨hS, hfc, kC, hkC, hkind⟩ := hK.1 ci _ c3
  obtain ⟨cf, kf, fi, f, hif, hsl⟩ := hS i hi
  have hlay := hts _ (c4 _ (u_in_lay hi))
  have hst := (u_facts hfc hkC (u_lays hts c4 hi) hif).1
  unfold u_lay at hlay
  rw [if_neg (by rw [hfin]; decide)] at hlay
  have h6 := u_store hfc hkC hkind hlay hif (c5 i hi) hn hfit
  refine va_WputK C.1 C.2.1 (f := f) C.2.2.2.1 (va_Nw.use rfl (C.2.2.2.2.2.1.2.1 _ hlink)) (by rw [hsame]; exact hif) hst (by rw [q2]; exact h6) q1 q3 (by rw [hsl]; exact k2_hasslot (q4 i hi)) rfl rfl hd ?_
  intro H' e1 e2 e3
  rw [hsl] at e1
  refine kk H' _ ls (h1.set (a := a) hp.1 hp.2.1 e2 e3 hp.2.2.1 ?_) (hS_put h2 e2 e3) h3
  have hT' : gT σ' a = (ci + 1, ln) := by rw [hp.2.1]; exact hT
  rw [hE_o hT' c1, hp.2.2.2]
  exact ⟨_, c3, t_OB.to (V := updV (vp_V (fs G σ a ci)) i v) ⟨_, e1, q2, q3, t_set q4 hap hi v⟩ (fun j _ => vp_updV_set (by rw [fs_len, c2]; exact hi) v j)⟩
/-! arrays -/
theorem h_iald (C : hX p s m args meth c G cc own nL ret) {a ln : Nat} {i : Int32} (hT : gT σ a = (20, ln)) (hi : vp_in i ln) (hd : decode cc pc = .ok (.iaload, 1)) (kk : hW p l e R s m args below meth c Q G nL (pc + 1) lv (.int (gI σ a i.toNatClampNeg) :: st) σ k n) : hW p l e R s m args below meth c Q G nL pc lv (.int i :: .ref (ad G a) :: st) σ k n :=
  fun H locs ls h1 h2 h3 => va_iald C.1 C.2.1 C.2.2.2.2.2.1.1 (h1.one (by rw [hT]; exact Nat.succ_ne_zero _) (hE_i hT)) 0 0 rfl rfl hi hd (kk H locs ls h1 h2 h3)
theorem h_lald (C : hX p s m args meth c G cc own nL ret) {a ln : Nat} {i : Int32} (hT : gT σ a = (21, ln)) (hi : vp_in i ln) (hd : decode cc pc = .ok (.laload, 1)) (kk : hW p l e R s m args below meth c Q G nL (pc + 1) lv (.long (gL σ a i.toNatClampNeg) :: st) σ k n) : hW p l e R s m args below meth c Q G nL pc lv (.int i :: .ref (ad G a) :: st) σ k n :=
  fun H locs ls h1 h2 h3 => va_lald C.1 C.2.1 C.2.2.2.2.2.1.1 (h1.one (by rw [hT]; exact Nat.succ_ne_zero _) (hE_l hT)) 0 1 rfl rfl hi hd (kk H locs ls h1 h2 h3)
theorem h_bald (C : hX p s m args meth c G cc own nL ret) {a ln : Nat} {i : Int32} (hT : gT σ a = (22, ln)) (hi : vp_in i ln) (hd : decode cc pc = .ok (.baload, 1)) (kk : hW p l e R s m args below meth c Q G nL (pc + 1) lv (.int (gI σ a i.toNatClampNeg) :: st) σ k n) : hW p l e R s m args below meth c Q G nL pc lv (.int i :: .ref (ad G a) :: st) σ k n :=
  fun H locs ls h1 h2 h3 => va_bald C.1 C.2.1 C.2.2.2.2.2.1.1 (h1.one (by rw [hT]; exact Nat.succ_ne_zero _) (hE_b hT)) 0 2 rfl rfl hi hd (kk H locs ls h1 h2 h3)
theorem h_pald (C : hX p s m args meth c G cc own nL ret) {a ln : Nat} {i : Int32} (hT : gT σ a = (23, ln)) (hi : vp_in i ln) (hd : decode cc pc = .ok (.aaload, 1)) (kk : hW p l e R s m args below meth c Q G nL (pc + 1) lv (rf G (gR σ a i.toNatClampNeg) :: st) σ k n) : hW p l e R s m args below meth c Q G nL pc lv (.int i :: .ref (ad G a) :: st) σ k n :=
  fun H locs ls h1 h2 h3 => va_aldq C.1 C.2.1 C.2.2.2.2.2.1.1 (h1.one (by rw [hT]; exact Nat.succ_ne_zero _) (hE_p hT)) 0 3 rfl rfl hi hd (kk H locs ls h1 h2 h3)
theorem h_sald (C : hX p s m args meth c G cc own nL ret) {a ln : Nat} {i : Int32} (hT : gT σ a = (24, ln)) (hi : vp_in i ln) (hd : decode cc pc = .ok (.aaload, 1)) (kk : hW p l e R s m args below meth c Q G nL (pc + 1) lv (rf G (gR σ a i.toNatClampNeg) :: st) σ k n) : hW p l e R s m args below meth c Q G nL pc lv (.int i :: .ref (ad G a) :: st) σ k n :=
  fun H locs ls h1 h2 h3 => va_aldq C.1 C.2.1 C.2.2.2.2.2.1.1 (h1.one (by rw [hT]; exact Nat.succ_ne_zero _) (hE_s hT)) 0 4 rfl rfl hi hd (kk H locs ls h1 h2 h3)
theorem h_alen (C : hX p s m args meth c G cc own nL ret) {a t ln : Nat} (hT : gT σ a = (t, ln)) (ht : 20 ≤ t ∧ t ≤ 24) (hd : decode cc pc = .ok (.arraylength, 1)) (kk : hW p l e R s m args below meth c Q G nL (pc + 1) lv (.int (Int32.ofNat ln) :: st) σ k n) : hW p l e R s m args below meth c Q G nL pc lv (.ref (ad G a) :: st) σ k n := by
  intro H locs ls h1 h2 h3
  have h0 : (gT σ a).1 ≠ 0 := by rw [hT]; show t ≠ 0; omega
  rcases (show t = 20 ∨ t = 21 ∨ t = 22 ∨ t = 23 ∨ t = 24 by omega) with rfl | rfl | rfl | rfl | rfl
  · exact va_alen C.1 C.2.1 C.2.2.2.2.2.1.1 (h1.one h0 (hE_i hT)) 0 0 rfl rfl rfl hd (kk H locs ls h1 h2 h3)
  · exact va_alen C.1 C.2.1 C.2.2.2.2.2.1.1 (h1.one h0 (hE_l hT)) 0 1 rfl rfl rfl hd (kk H locs ls h1 h2 h3)
  · exact va_alen C.1 C.2.1 C.2.2.2.2.2.1.1 (h1.one h0 (hE_b hT)) 0 2 rfl rfl rfl hd (kk H locs ls h1 h2 h3)
  · exact va_alen C.1 C.2.1 C.2.2.2.2.2.1.1 (h1.one h0 (hE_p hT)) 0 3 rfl rfl rfl hd (kk H locs ls h1 h2 h3)
  · exact va_alen C.1 C.2.1 C.2.2.2.2.2.1.1 (h1.one h0 (hE_s hT)) 0 4 rfl rfl rfl hd (kk H locs ls h1 h2 h3)
theorem h_iast (C : hX p s m args meth c G cc own nL ret) {a ln : Nat} {i x : Int32} (σ' : ha_St) (hT : gT σ a = (20, ln)) (hi : vp_in i ln) (hd : decode cc pc = .ok (.iastore, 1)) (hσ : sI σ a i.toNatClampNeg x = σ') (kk : hW p l e R s m args below meth c Q G nL (pc + 1) lv st σ' k n) : hW p l e R s m args below meth c Q G nL pc lv (.int x :: .int i :: .ref (ad G a) :: st) σ k n := by
  intro H locs ls h1 h2 h3
  subst hσ
  have hP := h1.one (by rw [hT]; exact Nat.succ_ne_zero _) (hE_i hT)
  refine W.iast C.1 C.2.1 (hP 0 _ rfl) ((C.2.2.2.2.2.1.1.2 0 _ rfl).1 ln (fun j => .int (gI σ a j))) (fun q => by cases q) (by show ¬ (i < 0 ∨ (arrV _ _ _).slots.size ≤ _); rw [arrV_size]; exact hi) rfl rfl hd fun H1 e z oq => ?_
  refine kk H1 _ ls (h1.set (a := a) rfl rfl z oq (fun x hx => hE_congr (funext fun y => ?_) rfl rfl rfl) ?_) (hS_put h2 z oq) h3
  · rw [gI_sI, if_neg (fun q => hx q.1)]
  · rw [hE_i (show gT (sI σ a _ x) a = (20, ln) from hT)]
    show H1[ad G a]? = some (vp_cell _ _)
    rw [e, vp_cell_i, vp_cell_i, arrV_store]
    congr 2
    funext q
    by_cases hq : q = i.toNatClampNeg
    · subst hq; simp [updV, gI_sI]
    · simp [updV, gI_sI, hq]
theorem h_bast (C : hX p s m args meth c G cc own nL ret) {a ln : Nat} {i x : Int32} (σ' : ha_St) (hT : gT σ a = (22, ln)) (hi : vp_in i ln) (hd : decode cc pc = .ok (.bastore, 1)) (hσ : sI σ a i.toNatClampNeg x.toInt8.toInt32 = σ') (kk : hW p l e R s m args below meth c Q G nL (pc + 1) lv st σ' k n) : hW p l e R s m args below meth c Q G nL pc lv (.int x :: .int i :: .ref (ad G a) :: st) σ k n := by
  intro H locs ls h1 h2 h3
  subst hσ
  have hP := h1.one (by rw [hT]; exact Nat.succ_ne_zero _) (hE_b hT)
  refine W.bast C.1 C.2.1 (hP 0 _ rfl) ((C.2.2.2.2.2.1.1.2 2 _ rfl).1 ln (fun j => .int (gI σ a j))) (fun q => by cases q) (by show ¬ (i < 0 ∨ (arrV _ _ _).slots.size ≤ _); rw [arrV_size]; exact hi) rfl rfl hd fun H1 e z oq => ?_
  refine kk H1 _ ls (h1.set (a := a) rfl rfl z oq (fun x hx => hE_congr (funext fun y => ?_) rfl rfl rfl) ?_) (hS_put h2 z oq) h3
  · rw [gI_sI, if_neg (fun q => hx q.1)]
  · rw [hE_b (show gT (sI σ a _ _) a = (22, ln) from hT)]
    show H1[ad G a]? = some (vp_cell _ _)
    rw [e, vp_cell_i, vp_cell_i, arrV_store]
    congr 2
    funext q
    by_cases hq : q = i.toNatClampNeg
    · subst hq; simp [updV, gI_sI]; try rfl
    · simp [updV, gI_sI, hq]
theorem h_last (C : hX p s m args meth c G cc own nL ret) {a ln : Nat} {i : Int32} {x : Int64} (σ' : ha_St) (hT : gT σ a = (21, ln)) (hi : vp_in i ln) (hd : decode cc pc = .ok (.lastore, 1)) (hσ : sL σ a i.toNatClampNeg x = σ') (kk : hW p l e R s m args below meth c Q G nL (pc + 1) lv st σ' k n) : hW p l e R s m args below meth c Q G nL pc lv (.long x :: .int i :: .ref (ad G a) :: st) σ k n := by
  intro H locs ls h1 h2 h3
  subst hσ
  have hP := h1.one (by rw [hT]; exact Nat.succ_ne_zero _) (hE_l hT)
  refine W.last C.1 C.2.1 (hP 0 _ rfl) ((C.2.2.2.2.2.1.1.2 1 _ rfl).1 ln (fun j => .long (gL σ a j))) (fun q => by cases q) (by show ¬ (i < 0 ∨ (arrV _ _ _).slots.size ≤ _); rw [arrV_size]; exact hi) rfl rfl hd fun H1 e z oq => ?_
  refine kk H1 _ ls (h1.set (a := a) rfl rfl z oq (fun x hx => hE_congr rfl (funext fun y => ?_) rfl rfl) ?_) (hS_put h2 z oq) h3
  · rw [gL_sL, if_neg (fun q => hx q.1)]
  · rw [hE_l (show gT (sL σ a _ x) a = (21, ln) from hT)]
    show H1[ad G a]? = some (vp_cell _ _)
    rw [e, vp_cell_l, vp_cell_l, arrV_store]
    congr 2
    funext q
    by_cases hq : q = i.toNatClampNeg
    · subst hq; simp [updV, gL_sL]
    · simp [updV, gL_sL, hq]
end
end
section
/-! ===== contracts over the store ===== -/
def hQ (G : ha_G) (Qr : Option Value → ha_St → Prop) : Array Value → State → Outcome → State → Prop := fun _ s0 oc t => (∃ (v : Option Value) (σ' : ha_St), oc = .returned v ∧ Qr v σ' ∧ hH G σ' t.heap) ∧ va_F (gA G) s0 t
def hPre (G : ha_G) (av : List Value) (σ : ha_St) : Array Value → State → Prop := va_Pc av (fun U => hH G σ U.heap ∧ hK G U U.heap)
/-- y, called with av in the store σ, comes back with Qr -/
def hM (G : ha_G) (l : Launch) (y : MethodName) (cc : ByteArray) (nL : Nat) (ret : Option FieldType) (rm : Room) (av : List Value) (σ : ha_St) (Qr : Option Value → ha_St → Prop) : Prop :=
  Met l y (Cond.code y cc nL ret :: gtbl) rm (hPre G av σ) (hQ G Qr) rm.cells rm.slots (gA G)
theorem hPre_blind {G : ha_G} {av : List Value} {σ : ha_St} : FrameBlind (hPre G av σ) := by
  intro a U g mk h
  obtain ⟨h1, h2, h3⟩ := h
  exact ⟨h1, h2, hK.same (s := U) (U := U.calling g mk a) rfl h3⟩
theorem hM_of {G : ha_G} {l : Launch} {y : MethodName} {cc : ByteArray} {nL : Nat} {ret : Option FieldType} {rm : Room} {av : List Value} {σ : ha_St} {Qr : Option Value → ha_St → Prop} (lv : List (Nat × Value)) (hy : plainName y.cls = true) (hn : (lg_sl av).length ≤ nL) (hlv : lv_args 0 av = lv)
    (body : ∀ (p : Program) (e : Env) (s : State) (m : MethodId) (args : Array Value) (below : List Frame) (meth : Method) (c : Code), hX p s m args meth c G cc y.cls nL ret → meth.name = y.name → hW p l e rm s m args below meth c (MQ below (hQ G Qr) args s rm.cells rm.slots (gA G)) G nL 0 lv [] σ 0 0) : hM G l y cc nL ret rm av σ Qr := by
  refine Met.ofW (cc := cc) (maxL := nL) (ret := ret) hy rfl ?_
  intro p e s m args below meth c s₁ B hml hv
  obtain ⟨rfl, h1, h2⟩ := hv
  have hl := lv_entry av (n := nL) hn
  have hts := atoms_spec (ws := Cond.code y cc nL ret :: gtbl) B.pre
  rw [lg_entry_eq]
  rw [hlv] at hl
  exact body p e s m _ below meth c ⟨B.exec, B.bytes, hml, findClass_of_methodNamed B.named, fun w hw => hts w (List.mem_cons_of_mem _ hw), h2, by rw [h1.1]; exact Nat.le_add_right _ _, B.notSynchronized, B.returns⟩ (name_of_methodNamed B.named B.method).1 s.heap [] _ h1 va_S.rf hl
theorem hM_post {G : ha_G} {l : Launch} {y : MethodName} {cc : ByteArray} {nL : Nat} {ret : Option FieldType} {rm : Room} {av : List Value} {σ : ha_St} {Qr Qr' : Option Value → ha_St → Prop} (hq : ∀ v σ', Qr v σ' → Qr' v σ') (h : hM G l y cc nL ret rm av σ Qr) : hM G l y cc nL ret rm av σ Qr' := by
  have key : ∀ a s0 o t, hQ G Qr a s0 o t → hQ G Qr' a s0 o t := by
    intro a s0 o t ⟨⟨v, σ', e1, e2, e3⟩, e4⟩
    exact ⟨⟨v, σ', e1, hq _ _ e2, e3⟩, e4⟩
  intro p e ha hc hk s m args below hf happ hp hK
  obtain ⟨n, o, h1, h2, h3, hq', hr⟩ := h p e ha hc hk s m args below hf happ hp hK
  exact ⟨n, o, h1, h2, h3, key _ _ _ _ hq', hr⟩
section
variable {p : Program} {l : Launch} {e : Env} {R : Room} {s : State} {m : MethodId} {args : Array Value} {below : List Frame} {meth : Method} {c : Code} {Q : State → Prop} {G : ha_G} {cc : ByteArray} {own : String} {ret : Option FieldType} {nL pc : Nat} {lv lv' : List (Nat × Value)} {st : List Value} {σ : ha_St} {k n : Nat} {Qr : Option Value → ha_St → Prop} {mc ms : Nat}
/-! ends -/
theorem h_iret (C : hX p s m args meth c G cc own nL ret) {v : Int32} (hr : ret = some .int) (hk : k ≤ mc) (hn : n ≤ ms) (hd : decode cc pc = .ok (.ireturn, 1)) (hq : Qr (some (.int v)) σ) : hW p l e R s m args below meth c (MQ below (hQ G Qr) args s mc ms (gA G)) G nL pc lv [.int v] σ k n :=
  fun H locs ls h1 h2 h3 => W.widen hk hn (W.iret C.1 C.2.1 (C.2.2.2.2.2.2.2.2.trans hr) (fun t ht _ => ⟨⟨_, σ, rfl, hq, by rw [ht]; exact h1⟩, h2.F ht⟩) (fun q hq => h2.2.2 q hq) hd C.2.2.2.2.2.2.2.1)
theorem h_zret (C : hX p s m args meth c G cc own nL ret) {v : Int32} (hr : ret = some .boolean) (hv : v = 0 ∨ v = 1) (hk : k ≤ mc) (hn : n ≤ ms) (hd : decode cc pc = .ok (.ireturn, 1)) (hq : Qr (some (.int v)) σ) : hW p l e R s m args below meth c (MQ below (hQ G Qr) args s mc ms (gA G)) G nL pc lv [.int v] σ k n :=
  fun H locs ls h1 h2 h3 => W.widen hk hn (W.zret C.1 C.2.1 (C.2.2.2.2.2.2.2.2.trans hr) (by rcases hv with rfl | rfl <;> rfl) (fun t ht _ => ⟨⟨_, σ, rfl, hq, by rw [ht]; exact h1⟩, h2.F ht⟩) (fun q hq => h2.2.2 q hq) hd C.2.2.2.2.2.2.2.1)
theorem h_lret (C : hX p s m args meth c G cc own nL ret) {v : Int64} (hr : ret = some .long) (hk : k ≤ mc) (hn : n ≤ ms) (hd : decode cc pc = .ok (.lreturn, 1)) (hq : Qr (some (.long v)) σ) : hW p l e R s m args below meth c (MQ below (hQ G Qr) args s mc ms (gA G)) G nL pc lv [.long v] σ k n :=
  fun H locs ls h1 h2 h3 => W.widen hk hn (W.lret C.1 C.2.1 (C.2.2.2.2.2.2.2.2.trans hr) (fun t ht _ => ⟨⟨_, σ, rfl, hq, by rw [ht]; exact h1⟩, h2.F ht⟩) (fun q hq => h2.2.2 q hq) hd C.2.2.2.2.2.2.2.1)
theorem h_vret (C : hX p s m args meth c G cc own nL ret) (hr : ret = none) (hk : k ≤ mc) (hn : n ≤ ms) (hd : decode cc pc = .ok (.return_, 1)) (hq : Qr none σ) : hW p l e R s m args below meth c (MQ below (hQ G Qr) args s mc ms (gA G)) G nL pc lv [] σ k n :=
  fun H locs ls h1 h2 h3 => W.widen hk hn (W.vret C.1 C.2.1 (C.2.2.2.2.2.2.2.2.trans hr) (fun t ht _ => ⟨⟨_, σ, rfl, hq, by rw [ht]; exact h1⟩, h2.F ht⟩) (fun q hq => h2.2.2 q hq) hd C.2.2.2.2.2.2.2.1)
theorem h_aret (C : hX p s m args meth c G cc own nL ret) {rt : FieldType} (r : Option Nat) (hr : ret = some rt) (hrt : (∃ x, rt = .object x) ∨ ∃ x, rt = .array x) (hk : k ≤ mc) (hn : n ≤ ms) (hd : decode cc pc = .ok (.areturn, 1)) (hq : Qr (some (rf G r)) σ) : hW p l e R s m args below meth c (MQ below (hQ G Qr) args s mc ms (gA G)) G nL pc lv [rf G r] σ k n :=
  fun H locs ls h1 h2 h3 => W.widen hk hn (W.aret C.1 C.2.1 (C.2.2.2.2.2.2.2.2.trans hr) hrt (by cases r with | none => exact Or.inl rfl | some x => exact Or.inr ⟨_, rfl⟩) (fun t ht _ => ⟨⟨_, σ, rfl, hq, by rw [ht]; exact h1⟩, h2.F ht⟩) (fun q hq => h2.2.2 q hq) hd C.2.2.2.2.2.2.2.1)
/-! calls -/
theorem h_run {rm : Room} {st0 rest : List Value} {a : Array Value} (hr : ∀ (H : Heap) (locs : List Loc) (ls : Array Slot), hH G σ H → va_S (gA G) s.heap H locs → lv_has ls nL lv → va_Run p l e R s m args below meth c H locs k n rm.cells rm.slots (F0 m pc ls st0) rest (hQ G Qr a) (gA G))
    (kk : ∀ (v : Option Value) (σ' : ha_St), Qr v σ' → hW p l e R s m args below meth c Q G nL (pc + 3) lv (v.toList ++ rest) σ' (k + rm.cells) (n + rm.slots)) : hW p l e R s m args below meth c Q G nL pc lv st0 σ k n := by
  intro H locs ls h1 h2 h3 T hT X
  obtain ⟨v, st₀, t, T', L, h0, X', hL, e1, e2, ⟨⟨v', σ', hv, hp, hb⟩, hz, hk⟩, st⟩ := hr H locs ls h1 h2 h3 T hT X
  cases hv
  rw [h0] at hz hk
  obtain ⟨t2, a1, b1⟩ := kk v σ' hp T'.heap (locs ++ L) ls (by rw [e1]; exact hb)
    ⟨Nat.le_trans h2.1 (by rw [e1]; exact hz), fun q q1 q2 => by rw [e1, hk q (Nat.lt_of_lt_of_le q1 h2.1) q2]; exact h2.2.1 q q1 q2, fun q hq => by
      rcases List.mem_append.mp hq with h | h
      · exact h2.2.2 q h
      · exact hL q h⟩ h3 T' rfl X'
  exact ⟨t2, st t2 a1, b1⟩
theorem hPre_at (C : hX p s m args meth c G cc own nL ret) {av : List Value} {H : Heap} {locs : List Loc} (h1 : hH G σ H) (h2 : va_S (gA G) s.heap H locs) : ∀ U : State, U.heap = H → s.WarmedH U.vm → hPre G av σ av.toArray U := by
  intro U hU hW
  refine ⟨rfl, by rw [hU]; exact h1, ?_⟩
  rw [hU]
  exact (C.2.2.2.2.2.1.kept h2.2.1).warm hW
def hD (y : MethodName) (na : Nat) : Prop := y.cls ≠ "java/lang/invoke/MethodHandle" ∧ y.cls ≠ "java/lang/invoke/VarHandle" ∧ (parseMethodDescriptor y.desc).map (fun d => d.parameters.length) = some na
def hCS (own : String) (index : Nat) (y : MethodName) (cy : ByteArray) (ny : Nat) (ry : Option FieldType) (na : Nat) : Prop :=
  Cond.methodLink own index y ∈ gtbl ∧ Cond.static y ∈ gtbl ∧ Cond.initialized y.cls ∈ gtbl ∧ Cond.code y cy ny ry ∈ gtbl ∧ hD y na
def hCV (own : String) (index : Nat) (y : MethodName) (cy : ByteArray) (ny : Nat) (ry : Option FieldType) (na : Nat) : Prop :=
  Cond.methodLink own index y ∈ gtbl ∧ Cond.instanceMethod y ∈ gtbl ∧ Cond.selects y.cls y y ∈ gtbl ∧ Cond.initialized y.cls ∈ gtbl ∧ Cond.code y cy ny ry ∈ gtbl ∧ hD y na
def hCI (own : String) (index : Nat) (y : MethodName) (cy : ByteArray) (ny : Nat) (na : Nat) : Prop :=
  Cond.methodLink own index y ∈ gtbl ∧ Cond.instanceMethod y ∈ gtbl ∧ Cond.initialized y.cls ∈ gtbl ∧ Cond.code y cy ny none ∈ gtbl ∧ y.name = "<init>" ∧ hD y na
def hCU (own : String) (index : Nat) (Cr owner : String) (x y : MethodName) (cy : ByteArray) (ny : Nat) (ry : Option FieldType) (na : Nat) : Prop :=
  (Cond.methodLink own index x ∈ gtbl ∧ Cond.sameMethod x.cls owner x.name x.desc ∈ gtbl ∧ Cond.selects Cr x y ∈ gtbl ∧ Cond.instanceMethod y ∈ gtbl ∧ Cond.initialized y.cls ∈ gtbl ∧ Cond.code y cy ny ry ∈ gtbl) ∧
  (owner ≠ "java/lang/invoke/MethodHandle" ∧ owner ≠ "java/lang/invoke/VarHandle" ∧ (parseMethodDescriptor x.desc).map (fun d => d.parameters.length) = some na) ∧
  (Cond.instanceMethod ⟨owner, x.name, x.desc⟩ ∈ gtbl ∧ ∃ (b0 : ByteArray) (m0 : Nat) (r0 : Option FieldType), Cond.code ⟨owner, x.name, x.desc⟩ b0 m0 r0 ∈ gtbl)
def hCSN (own : String) (index : Nat) (y : MethodName) (host : String) (cy : ByteArray) (ny : Nat) (ry : Option FieldType) (na : Nat) : Prop :=
  Cond.methodLinkNest own index y host ∈ ntbl ∧ Cond.static y ∈ gtbl ∧ Cond.initialized y.cls ∈ gtbl ∧ Cond.code y cy ny ry ∈ gtbl ∧ hD y na
def hCIN (own : String) (index : Nat) (y : MethodName) (host : String) (cy : ByteArray) (ny : Nat) (na : Nat) : Prop :=
  Cond.methodLinkNest own index y host ∈ ntbl ∧ Cond.instanceMethod y ∈ gtbl ∧ Cond.initialized y.cls ∈ gtbl ∧ Cond.code y cy ny none ∈ gtbl ∧ y.name = "<init>" ∧ hD y na
/-- the room of a call -/
def hRm (R rm : Room) (ny k n : Nat) : Prop := rm.frames + 1 ≤ R.frames ∧ 8 + (ny + 11) + rm.locals ≤ R.locals ∧ k + rm.cells ≤ R.cells ∧ n + rm.slots ≤ R.slots
theorem g_code {y : MethodName} {cy : ByteArray} {ny : Nat} {ry : Option FieldType} (h : Cond.code y cy ny ry ∈ gtbl) : GoodIn gtbl (Cond.code y cy ny ry :: gtbl) := g_goodIn (fun w hw => (List.mem_cons.mp hw).elim (fun e => by rw [e]; exact h) id)
theorem hX_fix (C : hX p s m args meth c G cc own nL ret) : CallFix p m c cc nL s args gtbl own := ⟨C.1, C.2.1, C.2.2.1, C.2.2.2.1, C.2.2.2.2.1⟩
theorem h_callS (C : hX p s m args meth c G cc own nL ret) {index : Nat} {y : MethodName} {cy : ByteArray} {ny na : Nat} {ry : Option FieldType} {rm : Room} {av st0 rest : List Value} (hm : hM G l y cy ny ry rm av σ Qr) (hc : hCS own index y cy ny ry na) (hr : hRm R rm ny k n) (hna : av.length = na) (hst : st0 = av.reverse ++ rest) (hw : (rest.map fun v => v.category).sum ≤ 8) (hd : decode cc pc = .ok (.invokestatic index, 3))
    (kk : ∀ (v : Option Value) (σ' : ha_St), Qr v σ' → hW p l e R s m args below meth c Q G nL (pc + 3) lv (v.toList ++ rest) σ' (k + rm.cells) (n + rm.slots)) : hW p l e R s m args below meth c Q G nL pc lv st0 σ k n := by
  obtain ⟨w1, w2, w3, w4, w5⟩ := hc
  have hts := C.2.2.2.2.1
  refine h_run (a := av.toArray) (fun H locs ls h1 h2 h3 => ?_) kk
  exact va_runS (As := av) (rest := rest) (hX_fix C) hm ⟨callB_of na hts (g_code w4) rfl rfl rfl (hts _ w3) (hts _ w1) w5 ⟨hr.1, hr.2.1⟩, hts _ w2⟩ ⟨hPre_blind, hPre_at C h1 h2⟩ rfl hna h3.1 hst (lv_room hw) hd hr.2.2
theorem h_callSN (C : hX p s m args meth c G cc own nL ret) {index : Nat} {y : MethodName} {host : String} {cy : ByteArray} {ny na : Nat} {ry : Option FieldType} {rm : Room} {av st0 rest : List Value} (hm : hM G l y cy ny ry rm av σ Qr) (hc : hCSN own index y host cy ny ry na) (hr : hRm R rm ny k n) (hna : av.length = na) (hst : st0 = av.reverse ++ rest) (hw : (rest.map fun v => v.category).sum ≤ 8) (hd : decode cc pc = .ok (.invokestatic index, 3))
    (kk : ∀ (v : Option Value) (σ' : ha_St), Qr v σ' → hW p l e R s m args below meth c Q G nL (pc + 3) lv (v.toList ++ rest) σ' (k + rm.cells) (n + rm.slots)) : hW p l e R s m args below meth c Q G nL pc lv st0 σ k n := by
  obtain ⟨w1, w2, w3, w4, w5⟩ := hc
  have hts := C.2.2.2.2.1
  refine h_run (a := av.toArray) (fun H locs ls h1 h2 h3 => ?_) kk
  exact va_runSN (As := av) (rest := rest) (hX_fix C) hm ⟨va_cnB na hts (g_code w4) rfl rfl rfl (C.2.2.2.2.2.1.2.1 _ w1) (hts _ w3) w5 ⟨hr.1, hr.2.1⟩, hts _ w2, trivial⟩ ⟨hPre_blind, hPre_at C h1 h2⟩ rfl hna h3.1 hst (lv_room hw) hd hr.2.2
theorem h_recv (C : hX p s m args meth c G cc own nL ret) {H : Heap} {a ci ln : Nat} {Cn : String} {T : u_T} {N : Nat} {ty : Nat → FieldType} (h1 : hH G σ H) (hC0 : hC ci Cn T N ty) (hT : gT σ a = (ci + 1, ln)) : ∃ cell : Cell, H[ad G a]? = some cell ∧ cell.vm.isStatics = false ∧ s.vm.findClass Cn = some cell.cls :=
  va_recv (q := (Cn, T, N)) C.2.2.2.2.2.1.1 (h1.one (by rw [hT]; exact Nat.succ_ne_zero _) (hE_o hT hC0.1)) hC0.2.2.1 (q0 := 0) rfl
theorem h_callV (C : hX p s m args meth c G cc own nL ret) {index : Nat} {y : MethodName} {cy : ByteArray} {ny na : Nat} {ry : Option FieldType} {rm : Room} {a ci ln : Nat} {T : u_T} {N : Nat} {ty : Nat → FieldType} {av st0 rest : List Value} (hm : hM G l y cy ny ry rm (.ref (ad G a) :: av) σ Qr) (hc : hCV own index y cy ny ry na) (hC0 : hC ci y.cls T N ty) (hT : gT σ a = (ci + 1, ln)) (hr : hRm R rm ny k n) (hna : av.length = na) (hst : st0 = av.reverse ++ .ref (ad G a) :: rest) (hw : (rest.map fun v => v.category).sum ≤ 8) (hd : decode cc pc = .ok (.invokevirtual index, 3))
    (kk : ∀ (v : Option Value) (σ' : ha_St), Qr v σ' → hW p l e R s m args below meth c Q G nL (pc + 3) lv (v.toList ++ rest) σ' (k + rm.cells) (n + rm.slots)) : hW p l e R s m args below meth c Q G nL pc lv st0 σ k n := by
  obtain ⟨w1, w2, w3, w4, w5, w6⟩ := hc
  have hts := C.2.2.2.2.1
  refine h_run (a := (Value.ref (ad G a) :: av).toArray) (fun H locs ls h1 h2 h3 => ?_) kk
  exact va_runV (As := av) (rest := rest) (hX_fix C) hm ⟨callB_of na hts (g_code w5) rfl rfl rfl (hts _ w4) (hts _ w1) w6 ⟨hr.1, hr.2.1⟩, hts _ w2, hts _ w3⟩ ⟨hPre_blind, h_recv C h1 hC0 hT, hPre_at C h1 h2⟩ rfl hna h3.1 hst (lv_room hw) hd hr.2.2
theorem h_callU (C : hX p s m args meth c G cc own nL ret) {index : Nat} {Cr owner : String} {x y : MethodName} {cy : ByteArray} {ny na : Nat} {ry : Option FieldType} {rm : Room} {a ci ln : Nat} {T : u_T} {N : Nat} {ty : Nat → FieldType} {av st0 rest : List Value} (hm : hM G l y cy ny ry rm (.ref (ad G a) :: av) σ Qr) (hc : hCU own index Cr owner x y cy ny ry na) (hC0 : hC ci Cr T N ty) (hT : gT σ a = (ci + 1, ln)) (hr : hRm R rm ny k n) (hna : av.length = na) (hst : st0 = av.reverse ++ .ref (ad G a) :: rest) (hw : (rest.map fun v => v.category).sum ≤ 8) (hd : decode cc pc = .ok (.invokevirtual index, 3))
    (kk : ∀ (v : Option Value) (σ' : ha_St), Qr v σ' → hW p l e R s m args below meth c Q G nL (pc + 3) lv (v.toList ++ rest) σ' (k + rm.cells) (n + rm.slots)) : hW p l e R s m args below meth c Q G nL pc lv st0 σ k n := by
  obtain ⟨⟨w1, w2, w3, w4, w5, w6⟩, w7, w8, b0, m0, r0, w9⟩ := hc
  have hts := C.2.2.2.2.1
  have hg := g_code w6
  have hcw : va_CU R s args own Cr owner index x y cy ny ry (Cond.code y cy ny ry :: gtbl) rm rm.cells rm.slots na := by
    refine ⟨⟨rfl, rfl, hr.1, hr.2.1, pay_in hts hg, List.mem_cons_self⟩, hts _ w6, hts _ w5, ⟨w7.1, w7.2.1⟩, fun sig h => ?_, hts _ w1, hts _ w2, va_Decl.of (hts _ w8) (hts _ w9), hts _ w3, hts _ w4⟩
    have h2 := w7.2.2
    rw [h] at h2
    exact (Option.some.inj h2).symm
  refine h_run (a := (Value.ref (ad G a) :: av).toArray) (fun H locs ls h1 h2 h3 => ?_) kk
  exact va_runU (As := av) (rest := rest) (hX_fix C) hm hcw ⟨hPre_blind, h_recv C h1 hC0 hT, hPre_at C h1 h2⟩ rfl hna h3.1 hst (lv_room hw) hd hr.2.2
theorem h_callI (C : hX p s m args meth c G cc own nL ret) {index : Nat} {y : MethodName} {cy : ByteArray} {ny na : Nat} {rm : Room} {a : Nat} {av st0 rest : List Value} (hm : hM G l y cy ny none rm (.ref (ad G a) :: av) σ Qr) (hc : hCI own index y cy ny na) (hr : hRm R rm ny k n) (hna : av.length = na) (hst : st0 = av.reverse ++ .ref (ad G a) :: rest) (hw : (rest.map fun v => v.category).sum ≤ 8) (hd : decode cc pc = .ok (.invokespecial index, 3))
    (kk : ∀ (v : Option Value) (σ' : ha_St), Qr v σ' → hW p l e R s m args below meth c Q G nL (pc + 3) lv (v.toList ++ rest) σ' (k + rm.cells) (n + rm.slots)) : hW p l e R s m args below meth c Q G nL pc lv st0 σ k n := by
  obtain ⟨w1, w2, w3, w4, w5, w6⟩ := hc
  have hts := C.2.2.2.2.1
  refine h_run (a := (Value.ref (ad G a) :: av).toArray) (fun H locs ls h1 h2 h3 => ?_) kk
  exact va_runI (As := av) (rest := rest) (hX_fix C) hm ⟨callB_of na hts (g_code w4) rfl rfl rfl (hts _ w3) (hts _ w1) w6 ⟨hr.1, hr.2.1⟩, w5, hts _ w2⟩ ⟨hPre_blind, hPre_at C h1 h2⟩ rfl hna h3.1 hst (lv_room hw) hd hr.2.2
theorem h_callIN (C : hX p s m args meth c G cc own nL ret) {index : Nat} {y : MethodName} {host : String} {cy : ByteArray} {ny na : Nat} {rm : Room} {a : Nat} {av st0 rest : List Value} (hm : hM G l y cy ny none rm (.ref (ad G a) :: av) σ Qr) (hc : hCIN own index y host cy ny na) (hr : hRm R rm ny k n) (hna : av.length = na) (hst : st0 = av.reverse ++ .ref (ad G a) :: rest) (hw : (rest.map fun v => v.category).sum ≤ 8) (hd : decode cc pc = .ok (.invokespecial index, 3))
    (kk : ∀ (v : Option Value) (σ' : ha_St), Qr v σ' → hW p l e R s m args below meth c Q G nL (pc + 3) lv (v.toList ++ rest) σ' (k + rm.cells) (n + rm.slots)) : hW p l e R s m args below meth c Q G nL pc lv st0 σ k n := by
  obtain ⟨w1, w2, w3, w4, w5, w6⟩ := hc
  have hts := C.2.2.2.2.1
  refine h_run (a := (Value.ref (ad G a) :: av).toArray) (fun H locs ls h1 h2 h3 => ?_) kk
  exact va_runIN (As := av) (rest := rest) (hX_fix C) hm ⟨va_cnB na hts (g_code w4) rfl rfl rfl (C.2.2.2.2.2.1.2.1 _ w1) (hts _ w3) w6 ⟨hr.1, hr.2.1⟩, w5, hts _ w2⟩ ⟨hPre_blind, hPre_at C h1 h2⟩ rfl hna h3.1 hst (lv_room hw) hd hr.2.2
theorem h_objInit (C : hX p s m args meth c G cc own nL ret) {idx a : Nat} (w1 : Cond.methodLink own idx Lib.objectInit ∈ gtbl) (w2 : Cond.instanceMethod Lib.objectInit ∈ gtbl) (w3 : Cond.code Lib.objectInit ⟨#[0xb1]⟩ 1 none ∈ gtbl) (hf : 1 ≤ R.frames) (hl : (st.map fun v => v.category).sum + 12 ≤ R.locals) (hd : decode cc pc = .ok (.invokespecial idx, 3)) (kk : hW p l e R s m args below meth c Q G nL (pc + 3) lv st σ k n) : hW p l e R s m args below meth c Q G nL pc lv (.ref a :: st) σ k n :=
  fun H locs ls h1 h2 h3 => W.objInit C.1 C.2.1 C.2.2.2.1 (C.2.2.2.2.1 _ w1) (C.2.2.2.2.1 _ w2) (C.2.2.2.2.1 _ w3) rfl (h3.1.trans C.2.2.1.symm) rfl hd hf (by show 2 * 0 + _ + _ ≤ _; omega) (kk H locs ls h1 h2 h3)
/-! statics -/
theorem h_dirX (C : hX p s m args meth c G cc own nL ret) {index : Nat} {ref : String} (w : Cond.fieldLink own index ref "DIRECTION_X" "[I" ∈ gtbl) (hs : ref = "HeldPart") (hd : decode cc pc = .ok (.getstatic index, 3)) (kk : hW p l e R s m args below meth c Q G nL (pc + 3) lv (.ref G.2.2.2.1 :: st) σ k n) : hW p l e R s m args below meth c Q G nL pc lv st σ k n :=
  fun H locs ls h1 h2 h3 => va_gets C.1 C.2.1 C.2.2.2.2.2.1.2.2.2.2.1 h2 C.2.2.2.1 (C.2.2.2.2.1 _ w) (fun x hx => by rw [hs]; exact hx) hd (kk H locs ls h1 h2 h3)
theorem h_dirY (C : hX p s m args meth c G cc own nL ret) {index : Nat} {ref : String} (w : Cond.fieldLink own index ref "DIRECTION_Y" "[I" ∈ gtbl) (hs : ref = "HeldPart") (hd : decode cc pc = .ok (.getstatic index, 3)) (kk : hW p l e R s m args below meth c Q G nL (pc + 3) lv (.ref G.2.2.2.2 :: st) σ k n) : hW p l e R s m args below meth c Q G nL pc lv st σ k n :=
  fun H locs ls h1 h2 h3 => va_gets C.1 C.2.1 C.2.2.2.2.2.1.2.2.2.2.2.2.1 h2 C.2.2.2.1 (C.2.2.2.2.1 _ w) (fun x hx => by rw [hs]; exact hx) hd (kk H locs ls h1 h2 h3)
theorem h_dirXld (C : hX p s m args meth c G cc own nL ret) {i : Int32} (hi : vp_in i 8) (hd : decode cc pc = .ok (.iaload, 1)) (kk : hW p l e R s m args below meth c Q G nL (pc + 1) lv (.int (dirX i.toNatClampNeg) :: st) σ k n) : hW p l e R s m args below meth c Q G nL pc lv (.int i :: .ref G.2.2.2.1 :: st) σ k n :=
  fun H locs ls h1 h2 h3 => va_ti C.1 C.2.1 C.2.2.2.2.2.1.2.2.2.2.2.1 h2 hi rfl hd (kk H locs ls h1 h2 h3)
theorem h_dirYld (C : hX p s m args meth c G cc own nL ret) {i : Int32} (hi : vp_in i 8) (hd : decode cc pc = .ok (.iaload, 1)) (kk : hW p l e R s m args below meth c Q G nL (pc + 1) lv (.int (dirY i.toNatClampNeg) :: st) σ k n) : hW p l e R s m args below meth c Q G nL pc lv (.int i :: .ref G.2.2.2.2 :: st) σ k n :=
  fun H locs ls h1 h2 h3 => va_ti C.1 C.2.1 C.2.2.2.2.2.1.2.2.2.2.2.2.2 h2 hi rfl hd (kk H locs ls h1 h2 h3)
theorem h_dirXlen (C : hX p s m args meth c G cc own nL ret) (hd : decode cc pc = .ok (.arraylength, 1)) (kk : hW p l e R s m args below meth c Q G nL (pc + 1) lv (.int 8 :: st) σ k n) : hW p l e R s m args below meth c Q G nL pc lv (.ref G.2.2.2.1 :: st) σ k n :=
  fun H locs ls h1 h2 h3 => va_tlen C.1 C.2.1 C.2.2.2.2.2.1.2.2.2.2.2.1 h2 rfl hd (kk H locs ls h1 h2 h3)
theorem h_dirYlen (C : hX p s m args meth c G cc own nL ret) (hd : decode cc pc = .ok (.arraylength, 1)) (kk : hW p l e R s m args below meth c Q G nL (pc + 1) lv (.int 8 :: st) σ k n) : hW p l e R s m args below meth c Q G nL pc lv (.ref G.2.2.2.2 :: st) σ k n :=
  fun H locs ls h1 h2 h3 => va_tlen C.1 C.2.1 C.2.2.2.2.2.1.2.2.2.2.2.2.2 h2 rfl hd (kk H locs ls h1 h2 h3)
end
end
section
section
variable {p : Program} {l : Launch} {e : Env} {R : Room} {s : State} {m : MethodId} {args : Array Value} {below : List Frame} {meth : Method} {c : Code} {Q : State → Prop} {G : ha_G} {cc : ByteArray} {own : String} {ret : Option FieldType} {nL pc : Nat} {lv lv' : List (Nat × Value)} {st : List Value} {σ : ha_St} {k n : Nat}
theorem fv_new {a : Nat} {t0 ln : Nat} (ha : a = gn σ) (q : Nat × Nat) : fv G (sN σ t0 ln) a q = if q.1 = 1 then .long 0 else if q.1 = 2 then .null else .int 0 := by
  subst ha
  unfold fv
  simp only [gL_sN, gR_sN, gI_sN, if_true]
  rfl
/-- a cell more -/
theorem hH.new {H H1 : Heap} {t0 ln : Nat} (h : hH G σ H) (hz : H1.size = H.size + 1) (ho : ∀ q : Nat, q < H.size → H1[q]? = H[q]?) (hat : va_at G.1 vwCl (ad G (gn σ), hE G (sN σ t0 ln) (gn σ)) H1) : hH G (sN σ t0 ln) H1 := by
  have hg : H.size = ad G (gn σ) := h.1
  refine ⟨by rw [hz, h.1, gn_sN]; omega, fun x hx => ?_⟩
  by_cases hxn : x = gn σ
  · subst hxn
    exact ⟨by rw [gn_sN]; omega, hat⟩
  · rw [gT_sN, if_neg hxn] at hx
    obtain ⟨q1, q2⟩ := h.2 x hx
    refine ⟨by rw [gn_sN]; omega, ?_⟩
    rw [hE_congr (σ := σ) (funext fun y => by rw [gI_sN, if_neg hxn]) (funext fun y => by rw [gL_sN, if_neg hxn]) (funext fun y => by rw [gR_sN, if_neg hxn]) (by rw [gT_sN, if_neg hxn])]
    exact q2.kept (ho _ q2.lt)
theorem hS_new {H0 H H1 : Heap} {locs : List Loc} (h2 : va_S (gA G) H0 H locs) (hz : H1.size = H.size + 1) (ho : ∀ q : Nat, q < H.size → H1[q]? = H[q]?) : va_S (gA G) H0 H1 locs :=
  ⟨Nat.le_trans h2.1 (by omega), fun x g1 g2 => (ho x (Nat.lt_of_lt_of_le g1 h2.1)).trans (h2.2.1 x g1 g2), h2.2.2⟩
theorem h_new (C : hX p s m args meth c G cc own nL ret) {ci index : Nat} {Cn : String} {T : u_T} {N : Nat} {ty : Nat → FieldType} (hC0 : hC ci Cn T N ty) (w1 : Cond.classLink own index Cn ∈ gtbl) (w2 : Cond.instantiable Cn N ∈ gtbl) (w3 : Cond.initialized Cn ∈ gtbl)
    (hdf : ∀ j, j < N → defaultValue (ty j) = if (fk ci j).1 = 1 then .long 0 else if (fk ci j).1 = 2 then .null else .int 0) (hk : k + 1 ≤ R.cells) (hn : n + N ≤ R.slots) (hd : decode cc pc = .ok (.new index, 3))
    (kk : hW p l e R s m args below meth c Q G nL (pc + 3) lv (.ref (ad G (gn σ)) :: st) (sN σ (ci + 1) 0) (k + 1) (n + N)) : hW p l e R s m args below meth c Q G nL pc lv st σ k n := by
  intro H locs ls h1 h2 h3
  obtain ⟨c1, c2, c3, c4, c5, c6⟩ := hC0
  have hts := C.2.2.2.2.1
  have hKn := C.2.2.2.2.2.1.1.1 ci _ c3
  have hg : H.size = ad G (gn σ) := h1.1
  refine W.newcK C.1 C.2.1 C.2.2.2.1 (hts _ w1) (hts _ w2) (hts _ w3) rfl hd hk hn hKn.2.1 hg fun H1 kC hkC e1 z1 o1 => ?_
  have z2 : H1.size = H.size + 1 := by rw [z1, hg]
  have o2 : ∀ q : Nat, q < H.size → H1[q]? = H[q]? := fun q hq => o1 q (by rw [← hg]; exact hq)
  refine kk H1 locs ls (h1.new z2 o2 ?_) (hS_new h2 z2 o2) h3
  rw [hE_o (ci := ci) (n := 0) (by rw [gT_sN, if_pos rfl]) c1]
  refine ⟨_, c3, (u_born ty hts c4 hKn hkC e1 c5).to (fun j hj => ?_)⟩
  rw [hdf j hj]
  show _ = vp_V _ j
  unfold vp_V
  have hj2 := fs_get (G := G) (σ := sN σ (ci + 1) 0) (a := gn σ) (ci := ci) (k := j) (by rw [c2]; exact hj)
  rw [fv_new rfl] at hj2
  simp [hj2]
/-- the array classes are those of the launch -/
theorem h_newaI (C : hX p s m args meth c G cc own nL ret) {sz : Int32} {N : Nat} (w : Cond.arrayClass .int ∈ gtbl) (hs : ¬ sz < 0) (hN : sz.toNatClampNeg = N) (hb : N * 4 ≤ 536870912) (hk : k + 1 ≤ R.cells) (hn : n + N ≤ R.slots) (hd : decode cc pc = .ok (.newarray .int, 2))
    (kk : hW p l e R s m args below meth c Q G nL (pc + 2) lv (.ref (ad G (gn σ)) :: st) (sN σ 20 N) (k + 1) (n + N)) : hW p l e R s m args below meth c Q G nL pc lv (.int sz :: st) σ k n := by
  intro H locs ls h1 h2 h3
  have hg : H.size = ad G (gn σ) := h1.1
  refine va_newaK C.1 C.2.1 (atype := .int) (C.2.2.2.2.1 _ w) rfl hd rfl hs hN hb hk hn hg fun H1 cA e1 z1 o1 hAr hNm => ?_
  have z2 : H1.size = H.size + 1 := by rw [z1, hg]
  have o2 : ∀ q : Nat, q < H.size → H1[q]? = H[q]? := fun q hq => o1 q (by rw [← hg]; exact hq)
  refine kk H1 locs ls (h1.new z2 o2 ?_) (hS_new h2 z2 o2) h3
  rw [hE_i (n := N) (by rw [gT_sN, if_pos rfl])]
  have hc : cA = G.2.2.1 0 := Option.some.inj (hNm.symm.trans (C.2.2.2.2.2.1.1.2 0 _ rfl).2)
  subst hc
  show H1[ad G (gn σ)]? = some (vp_cell _ _)
  rw [e1, vp_cell_i]
  congr 2
  funext j
  rw [gI_sN, if_pos rfl]
  rfl
theorem h_newaL (C : hX p s m args meth c G cc own nL ret) {sz : Int32} {N : Nat} (w : Cond.arrayClass .long ∈ gtbl) (hs : ¬ sz < 0) (hN : sz.toNatClampNeg = N) (hb : N * 8 ≤ 536870912) (hk : k + 1 ≤ R.cells) (hn : n + N ≤ R.slots) (hd : decode cc pc = .ok (.newarray .long, 2))
    (kk : hW p l e R s m args below meth c Q G nL (pc + 2) lv (.ref (ad G (gn σ)) :: st) (sN σ 21 N) (k + 1) (n + N)) : hW p l e R s m args below meth c Q G nL pc lv (.int sz :: st) σ k n := by
  intro H locs ls h1 h2 h3
  have hg : H.size = ad G (gn σ) := h1.1
  refine va_newaK C.1 C.2.1 (atype := .long) (C.2.2.2.2.1 _ w) rfl hd rfl hs hN hb hk hn hg fun H1 cA e1 z1 o1 hAr hNm => ?_
  have z2 : H1.size = H.size + 1 := by rw [z1, hg]
  have o2 : ∀ q : Nat, q < H.size → H1[q]? = H[q]? := fun q hq => o1 q (by rw [← hg]; exact hq)
  refine kk H1 locs ls (h1.new z2 o2 ?_) (hS_new h2 z2 o2) h3
  rw [hE_l (n := N) (by rw [gT_sN, if_pos rfl])]
  have hc : cA = G.2.2.1 1 := Option.some.inj (hNm.symm.trans (C.2.2.2.2.2.1.1.2 1 _ rfl).2)
  subst hc
  show H1[ad G (gn σ)]? = some (vp_cell _ _)
  rw [e1, vp_cell_l]
  congr 2
  funext j
  rw [gL_sN, if_pos rfl]
  rfl
theorem h_newaB (C : hX p s m args meth c G cc own nL ret) {sz : Int32} {N : Nat} (w : Cond.arrayClass .byte ∈ gtbl) (hs : ¬ sz < 0) (hN : sz.toNatClampNeg = N) (hb : N * 1 ≤ 536870912) (hk : k + 1 ≤ R.cells) (hn : n + N ≤ R.slots) (hd : decode cc pc = .ok (.newarray .byte, 2))
    (kk : hW p l e R s m args below meth c Q G nL (pc + 2) lv (.ref (ad G (gn σ)) :: st) (sN σ 22 N) (k + 1) (n + N)) : hW p l e R s m args below meth c Q G nL pc lv (.int sz :: st) σ k n := by
  intro H locs ls h1 h2 h3
  have hg : H.size = ad G (gn σ) := h1.1
  refine va_newaK C.1 C.2.1 (atype := .byte) (C.2.2.2.2.1 _ w) rfl hd rfl hs hN hb hk hn hg fun H1 cA e1 z1 o1 hAr hNm => ?_
  have z2 : H1.size = H.size + 1 := by rw [z1, hg]
  have o2 : ∀ q : Nat, q < H.size → H1[q]? = H[q]? := fun q hq => o1 q (by rw [← hg]; exact hq)
  refine kk H1 locs ls (h1.new z2 o2 ?_) (hS_new h2 z2 o2) h3
  rw [hE_b (n := N) (by rw [gT_sN, if_pos rfl])]
  have hc : cA = G.2.2.1 2 := Option.some.inj (hNm.symm.trans (C.2.2.2.2.2.1.1.2 2 _ rfl).2)
  subst hc
  show H1[ad G (gn σ)]? = some (vp_cell _ _)
  rw [e1, vp_cell_i]
  congr 2
  funext j
  rw [gI_sN, if_pos rfl]
  rfl
theorem h_anew {cA0 : ClassId} (C : hX p s m args meth c G cc own nL ret) {index : Nat} {Cn : String} {sz : Int32} {N t0 : Nat} (w : Cond.classLink own index Cn ∈ gtbl) (hover : va_AO Cn s) (hcA : s.vm.findClass ("[" ++ (FieldType.object Cn).toString) = some cA0) (hEe : ∀ σ' : ha_St, ∀ a, gT σ' a = (t0, N) → hE G σ' a = .inl (cA0, N, .inr (.inr (.inr (.inr (fun j => (gR σ' a j).map (ad G))))))) (hs : ¬ sz < 0) (hN : sz.toNatClampNeg = N) (hb : N * 4 ≤ 536870912) (hk : k + 1 ≤ R.cells) (hn : n + N ≤ R.slots) (hd : decode cc pc = .ok (.anewarray index, 3))
    (kk : hW p l e R s m args below meth c Q G nL (pc + 3) lv (.ref (ad G (gn σ)) :: st) (sN σ t0 N) (k + 1) (n + N)) : hW p l e R s m args below meth c Q G nL pc lv (.int sz :: st) σ k n := by
  intro H locs ls h1 h2 h3
  have hg : H.size = ad G (gn σ) := h1.1
  subst hN
  refine W.anew C.1 C.2.1 C.2.2.2.1 (C.2.2.2.2.1 _ w) (va_AO.use hover) rfl hd rfl hs hb hk hn fun cA kA comp f1 f2 f3 f4 => ?_
  generalize hH1 : H.push ({ cls := cA, slots := Array.replicate sz.toNatClampNeg .null, vm := .none } : Cell) = H1
  have z1 : H1.size = H.size + 1 := by rw [← hH1, Array.size_push]
  have e1 : H1[H.size]? = some (arrV cA sz.toNatClampNeg (fun _ => .null)) := by rw [← hH1, Array.getElem?_push_size, ← arrV_new]
  have o1 : ∀ q : Nat, q < H.size → H1[q]? = H[q]? := fun q hq => by rw [← hH1, Array.getElem?_push, if_neg (Nat.ne_of_lt hq)]
  show W p l e R s m args below meth c H1 locs (k + 1) _ Q (F0 m (pc + 3) ls (.ref H.size :: st))
  rw [hg]
  refine kk H1 locs ls (h1.new z1 o1 ?_) (hS_new h2 z1 o1) h3
  have hc : cA = cA0 := Option.some.inj (f1.symm.trans hcA)
  subst hc
  rw [hEe (sN σ t0 sz.toNatClampNeg) (gn σ) (by rw [gT_sN, if_pos rfl])]
  show H1[ad G (gn σ)]? = some (vp_cell _ _)
  rw [← hg, e1, vp_cell_q]
  congr 2
  funext j
  rw [gR_sN, if_pos rfl]
  rfl
theorem h_newaP (C : hX p s m args meth c G cc own nL ret) {index : Nat} {sz : Int32} {N : Nat} (w : Cond.classLink own index "HeldPart$Pin" ∈ gtbl) (hs : ¬ sz < 0) (hN : sz.toNatClampNeg = N) (hb : N * 4 ≤ 536870912) (hk : k + 1 ≤ R.cells) (hn : n + N ≤ R.slots) (hd : decode cc pc = .ok (.anewarray index, 3))
    (kk : hW p l e R s m args below meth c Q G nL (pc + 3) lv (.ref (ad G (gn σ)) :: st) (sN σ 23 N) (k + 1) (n + N)) : hW p l e R s m args below meth c Q G nL pc lv (.int sz :: st) σ k n := by
  obtain ⟨kA, comp, q1, q2, q3, q4⟩ := (C.2.2.2.2.2.1.1.2 3 _ rfl).2
  exact h_anew C w C.2.2.2.2.2.1.2.2.1 q4 (fun _ _ h => hE_p h) hs hN hb hk hn hd kk
theorem h_newaS (C : hX p s m args meth c G cc own nL ret) {index : Nat} {sz : Int32} {N : Nat} (w : Cond.classLink own index "HeldPart$Shelf" ∈ gtbl) (hs : ¬ sz < 0) (hN : sz.toNatClampNeg = N) (hb : N * 4 ≤ 536870912) (hk : k + 1 ≤ R.cells) (hn : n + N ≤ R.slots) (hd : decode cc pc = .ok (.anewarray index, 3))
    (kk : hW p l e R s m args below meth c Q G nL (pc + 3) lv (.ref (ad G (gn σ)) :: st) (sN σ 24 N) (k + 1) (n + N)) : hW p l e R s m args below meth c Q G nL pc lv (.int sz :: st) σ k n := by
  obtain ⟨kA, comp, q1, q2, q3, q4⟩ := (C.2.2.2.2.2.1.1.2 4 _ rfl).2
  exact h_anew C w C.2.2.2.2.2.1.2.2.2.1 q4 (fun _ _ h => hE_s h) hs hN hb hk hn hd kk
/-- a reference into an array of contacts -/
theorem h_past (C : hX p s m args meth c G cc own nL ret) {a ln b ci lb : Nat} {i : Int32} {Cn : String} {T : u_T} {N : Nat} {ty : Nat → FieldType} (hT : gT σ a = (23, ln)) (hC0 : hC ci Cn T N ty) (hTb : gT σ b = (ci + 1, lb)) (hca : Cn = "HeldPart$Pin" ∨ Cond.castable Cn "HeldPart$Pin" ∈ ntbl) (hi : vp_in i ln) (hd : decode cc pc = .ok (.aastore, 1))
    (kk : hW p l e R s m args below meth c Q G nL (pc + 1) lv st (sR σ a i.toNatClampNeg (some b)) k n) : hW p l e R s m args below meth c Q G nL pc lv (.ref (ad G b) :: .int i :: .ref (ad G a) :: st) σ k n := by
  intro H locs ls h1 h2 h3
  have hK := C.2.2.2.2.2.1.1
  have hlt : i.toNatClampNeg < ln := Nat.not_le.mp fun q => hi (Or.inr q)
  have h0 : ¬ i < 0 := fun q => hi (Or.inl q)
  have hP := h1.one (by rw [hT]; exact Nat.succ_ne_zero _) (hE_p hT)
  obtain ⟨r', hr', cellV, g1, g2, g3, -⟩ := (h1.one (by rw [hTb]; exact Nat.succ_ne_zero _) (hE_o hTb hC0.1)) 0 _ rfl
  have hcls := (hK.1 ci _ hC0.2.2.1).2
  obtain ⟨kA, comp, k1, k2, k3, -⟩ := (hK.2 3 _ rfl).2
  obtain ⟨kE, hkE, -⟩ := Vm.findClass_spec k3
  obtain ⟨kC, hkC, -⟩ := hcls.2
  have has : s.vm.assignable (G.1.1 ci) comp = true := by
    rcases hca with q | q
    · have e : comp = G.1.1 ci := by
        have e1 := hcls.1
        rw [show ((Cn, T, N) : vw_C).1 = "HeldPart$Pin" from q] at e1
        exact Option.some.inj (k3.symm.trans e1)
      rw [e]
      exact va_assign hcls
    · obtain ⟨c0, t1, f1, f2, f3⟩ := Cond.castable_spec (va_Nw.use (A := args) rfl (C.2.2.2.2.2.1.2.1 _ q))
      cases hcls.1.symm.trans f1
      cases k3.symm.trans f2
      exact f3
  refine W.aast C.1 C.2.1 (hP 0 _ rfl) (fun q h => by cases h) (fun h => by cases h) k1 k2 rfl hkE ⟨h0, by show _ < (arrV _ _ _).slots.size; rw [arrV_size]; exact hlt⟩ g1 (fun q h => by rw [g3] at h; cases h) (by rw [g2]; exact hkC) (by rw [g2]; exact has) rfl rfl hd fun H1 e z oq => ?_
  refine kk H1 _ ls (h1.set (a := a) rfl rfl z oq (fun x hx => hE_congr rfl rfl (funext fun y => ?_) rfl) ?_) (hS_put h2 z oq) h3
  · rw [gR_sR, if_neg (fun q => hx q.1)]
  · rw [hE_p (show gT (sR σ a _ _) a = (23, ln) from hT)]
    show H1[ad G a]? = some (vp_cell _ _)
    rw [e, vp_cell_q, vp_cell_q, arrV_store]
    congr 2
    funext q
    by_cases hq : q = i.toNatClampNeg
    · subst hq; simp [updV, gR_sR, va_rf]
    · simp [updV, gR_sR, hq]
theorem h_sast (C : hX p s m args meth c G cc own nL ret) {a ln b lb : Nat} {i : Int32} {T : u_T} {N : Nat} {ty : Nat → FieldType} (hT : gT σ a = (24, ln)) (hC0 : hC 9 "HeldPart$Shelf" T N ty) (hTb : gT σ b = (10, lb)) (hi : vp_in i ln) (hd : decode cc pc = .ok (.aastore, 1))
    (kk : hW p l e R s m args below meth c Q G nL (pc + 1) lv st (sR σ a i.toNatClampNeg (some b)) k n) : hW p l e R s m args below meth c Q G nL pc lv (.ref (ad G b) :: .int i :: .ref (ad G a) :: st) σ k n := by
  intro H locs ls h1 h2 h3
  have hK := C.2.2.2.2.2.1.1
  have hlt : i.toNatClampNeg < ln := Nat.not_le.mp fun q => hi (Or.inr q)
  have h0 : ¬ i < 0 := fun q => hi (Or.inl q)
  have hP := h1.one (by rw [hT]; exact Nat.succ_ne_zero _) (hE_s hT)
  obtain ⟨r', hr', cellV, g1, g2, g3, -⟩ := (h1.one (by rw [hTb]; exact Nat.succ_ne_zero _) (hE_o (ci := 9) hTb hC0.1)) 0 _ rfl
  have hcls := (hK.1 9 _ hC0.2.2.1).2
  obtain ⟨kA, comp, k1, k2, k3, -⟩ := (hK.2 4 _ rfl).2
  obtain ⟨kE, hkE, -⟩ := Vm.findClass_spec k3
  obtain ⟨kC, hkC, -⟩ := hcls.2
  have e0 : comp = G.1.1 9 := Option.some.inj (k3.symm.trans hcls.1)
  refine W.aast C.1 C.2.1 (hP 0 _ rfl) (fun q h => by cases h) (fun h => by cases h) k1 k2 rfl hkE ⟨h0, by show _ < (arrV _ _ _).slots.size; rw [arrV_size]; exact hlt⟩ g1 (fun q h => by rw [g3] at h; cases h) (by rw [g2]; exact hkC) (by rw [g2, e0]; exact va_assign hcls) rfl rfl hd fun H1 e z oq => ?_
  refine kk H1 _ ls (h1.set (a := a) rfl rfl z oq (fun x hx => hE_congr rfl rfl (funext fun y => ?_) rfl) ?_) (hS_put h2 z oq) h3
  · rw [gR_sR, if_neg (fun q => hx q.1)]
  · rw [hE_s (show gT (sR σ a _ _) a = (24, ln) from hT)]
    show H1[ad G a]? = some (vp_cell _ _)
    rw [e, vp_cell_q, vp_cell_q, arrV_store]
    congr 2
    funext q
    by_cases hq : q = i.toNatClampNeg
    · subst hq; simp [updV, gR_sR, va_rf]
    · simp [updV, gR_sR, hq]
theorem h_pastN (C : hX p s m args meth c G cc own nL ret) {a ln : Nat} {i : Int32} (hT : gT σ a = (23, ln)) (hi : vp_in i ln) (hd : decode cc pc = .ok (.aastore, 1))
    (kk : hW p l e R s m args below meth c Q G nL (pc + 1) lv st (sR σ a i.toNatClampNeg none) k n) : hW p l e R s m args below meth c Q G nL pc lv (.null :: .int i :: .ref (ad G a) :: st) σ k n := by
  intro H locs ls h1 h2 h3
  have hK := C.2.2.2.2.2.1.1
  have hP := h1.one (by rw [hT]; exact Nat.succ_ne_zero _) (hE_p hT)
  refine va_WaastN (C := "HeldPart$Pin") C.1 C.2.1 (hP 0 _ rfl) ((hK.2 3 _ rfl).1 ln (fun j => va_rf ((gR σ a j).map (ad G)))) (fun h => by cases h) (by show ¬ (i < 0 ∨ (arrV _ _ _).slots.size ≤ _); rw [arrV_size]; exact hi) rfl rfl hd fun H1 e z oq => ?_
  refine kk H1 _ ls (h1.set (a := a) rfl rfl z oq (fun x hx => hE_congr rfl rfl (funext fun y => ?_) rfl) ?_) (hS_put h2 z oq) h3
  · rw [gR_sR, if_neg (fun q => hx q.1)]
  · rw [hE_p (show gT (sR σ a _ _) a = (23, ln) from hT)]
    show H1[ad G a]? = some (vp_cell _ _)
    rw [e, vp_cell_q, vp_cell_q, arrV_store]
    congr 2
    funext q
    by_cases hq : q = i.toNatClampNeg
    · subst hq; simp [updV, gR_sR, va_rf]
    · simp [updV, gR_sR, hq]
end
end
