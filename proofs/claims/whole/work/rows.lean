section
-- ===== PART A: goes FIRST, ahead of the names: the tables' words, and 'selects' of the private methods out of them =====
/-- a private method of a class that the tables say can be made, by its rows of tables_1 -/
def lw_okq (q : MethodName × Nat) : Prop := (q.1.cls ≠ "java/lang/invoke/MethodHandle" ∧ q.1.cls ≠ "java/lang/invoke/VarHandle") ∧ Cond.instantiable q.1.cls q.2 ∈ tables_1 ∧ Cond.privateMethod q.1 ∈ tables_1 ∧ Cond.instanceMethod q.1 ∈ tables_1
theorem lw_p0 : lw_okq (⟨"MachineWalks", "lumpCameFromRow", "(IJ)Z"⟩, 8) := ⟨⟨by decide +kernel, by decide +kernel⟩, List.mem_of_getElem? (i := 16) (by decide +kernel), List.mem_of_getElem? (i := 410) (by decide +kernel), List.mem_of_getElem? (i := 411) (by decide +kernel)⟩
theorem lw_p1 : lw_okq (⟨"MachineWalks$Changes", "dropOldest", "()V"⟩, 7) := ⟨⟨by decide +kernel, by decide +kernel⟩, List.mem_of_getElem? (i := 52) (by decide +kernel), List.mem_of_getElem? (i := 442) (by decide +kernel), List.mem_of_getElem? (i := 443) (by decide +kernel)⟩
theorem lw_p2 : lw_okq (⟨"MachineWalks$Machine", "told", "(I)I"⟩, 9) := ⟨⟨by decide +kernel, by decide +kernel⟩, List.mem_of_getElem? (i := 80) (by decide +kernel), List.mem_of_getElem? (i := 473) (by decide +kernel), List.mem_of_getElem? (i := 474) (by decide +kernel)⟩
theorem lw_p3 : lw_okq (⟨"MachineWalks$Machine", "stiffness", "(I)J"⟩, 9) := ⟨⟨by decide +kernel, by decide +kernel⟩, List.mem_of_getElem? (i := 80) (by decide +kernel), List.mem_of_getElem? (i := 553) (by decide +kernel), List.mem_of_getElem? (i := 554) (by decide +kernel)⟩
theorem lw_p4 : lw_okq (⟨"MachineWalks$Tape", "lineIsRead", "()Z"⟩, 4) := ⟨⟨by decide +kernel, by decide +kernel⟩, List.mem_of_getElem? (i := 124) (by decide +kernel), List.mem_of_getElem? (i := 598) (by decide +kernel), List.mem_of_getElem? (i := 599) (by decide +kernel)⟩
theorem lw_p5 : lw_okq (⟨"MachineWalks$Tape", "isRead", "(II)Z"⟩, 4) := ⟨⟨by decide +kernel, by decide +kernel⟩, List.mem_of_getElem? (i := 124) (by decide +kernel), List.mem_of_getElem? (i := 602) (by decide +kernel), List.mem_of_getElem? (i := 603) (by decide +kernel)⟩
theorem lw_p6 : lw_okq (⟨"MachineWalks$Tape", "operandIsRead", "(I)Z"⟩, 4) := ⟨⟨by decide +kernel, by decide +kernel⟩, List.mem_of_getElem? (i := 124) (by decide +kernel), List.mem_of_getElem? (i := 606) (by decide +kernel), List.mem_of_getElem? (i := 607) (by decide +kernel)⟩
theorem lw_p7 : lw_okq (⟨"MachineWalks$Tape", "here", "()I"⟩, 4) := ⟨⟨by decide +kernel, by decide +kernel⟩, List.mem_of_getElem? (i := 124) (by decide +kernel), List.mem_of_getElem? (i := 610) (by decide +kernel), List.mem_of_getElem? (i := 611) (by decide +kernel)⟩
theorem lw_p8 : lw_okq (⟨"MachineWalks$Tape", "numberIsRead", "()Z"⟩, 4) := ⟨⟨by decide +kernel, by decide +kernel⟩, List.mem_of_getElem? (i := 124) (by decide +kernel), List.mem_of_getElem? (i := 617) (by decide +kernel), List.mem_of_getElem? (i := 618) (by decide +kernel)⟩
theorem lw_p9 : lw_okq (⟨"MachineWalks$Tape", "bracketIsRead", "(I)Z"⟩, 4) := ⟨⟨by decide +kernel, by decide +kernel⟩, List.mem_of_getElem? (i := 124) (by decide +kernel), List.mem_of_getElem? (i := 628) (by decide +kernel), List.mem_of_getElem? (i := 629) (by decide +kernel)⟩
theorem lw_p10 : lw_okq (⟨"MachineWalks$Tape", "isHere", "(C)Z"⟩, 4) := ⟨⟨by decide +kernel, by decide +kernel⟩, List.mem_of_getElem? (i := 124) (by decide +kernel), List.mem_of_getElem? (i := 632) (by decide +kernel), List.mem_of_getElem? (i := 633) (by decide +kernel)⟩
theorem lw_p11 : lw_okq (⟨"MachineWalks$Tape", "signedIsRead", "(II)Z"⟩, 4) := ⟨⟨by decide +kernel, by decide +kernel⟩, List.mem_of_getElem? (i := 124) (by decide +kernel), List.mem_of_getElem? (i := 636) (by decide +kernel), List.mem_of_getElem? (i := 637) (by decide +kernel)⟩
theorem lw_p12 : lw_okq (⟨"MachineWalks", "isRuleAndFloor", "(I)Z"⟩, 8) := ⟨⟨by decide +kernel, by decide +kernel⟩, List.mem_of_getElem? (i := 16) (by decide +kernel), List.mem_of_getElem? (i := 667) (by decide +kernel), List.mem_of_getElem? (i := 668) (by decide +kernel)⟩
theorem lw_p13 : lw_okq (⟨"MachineWalks$Walk", "begin", "(LMachineWalks$Drum;I)V"⟩, 17) := ⟨⟨by decide +kernel, by decide +kernel⟩, List.mem_of_getElem? (i := 183) (by decide +kernel), List.mem_of_getElem? (i := 685) (by decide +kernel), List.mem_of_getElem? (i := 686) (by decide +kernel)⟩
theorem lw_p14 : lw_okq (⟨"MachineWalks$Walk", "seenAt", "(I)I"⟩, 17) := ⟨⟨by decide +kernel, by decide +kernel⟩, List.mem_of_getElem? (i := 183) (by decide +kernel), List.mem_of_getElem? (i := 698) (by decide +kernel), List.mem_of_getElem? (i := 699) (by decide +kernel)⟩
theorem lw_p15 : lw_okq (⟨"MachineWalks$Laws", "name", "(IIIIIII)V"⟩, 5) := ⟨⟨by decide +kernel, by decide +kernel⟩, List.mem_of_getElem? (i := 118) (by decide +kernel), List.mem_of_getElem? (i := 706) (by decide +kernel), List.mem_of_getElem? (i := 707) (by decide +kernel)⟩
def lw_privs_1 : List (MethodName × Nat) := [(⟨"MachineWalks", "lumpCameFromRow", "(IJ)Z"⟩, 8), (⟨"MachineWalks$Changes", "dropOldest", "()V"⟩, 7), (⟨"MachineWalks$Machine", "told", "(I)I"⟩, 9), (⟨"MachineWalks$Machine", "stiffness", "(I)J"⟩, 9), (⟨"MachineWalks$Tape", "lineIsRead", "()Z"⟩, 4), (⟨"MachineWalks$Tape", "isRead", "(II)Z"⟩, 4), (⟨"MachineWalks$Tape", "operandIsRead", "(I)Z"⟩, 4), (⟨"MachineWalks$Tape", "here", "()I"⟩, 4), (⟨"MachineWalks$Tape", "numberIsRead", "()Z"⟩, 4), (⟨"MachineWalks$Tape", "bracketIsRead", "(I)Z"⟩, 4), (⟨"MachineWalks$Tape", "isHere", "(C)Z"⟩, 4), (⟨"MachineWalks$Tape", "signedIsRead", "(II)Z"⟩, 4), (⟨"MachineWalks", "isRuleAndFloor", "(I)Z"⟩, 8), (⟨"MachineWalks$Walk", "begin", "(LMachineWalks$Drum;I)V"⟩, 17), (⟨"MachineWalks$Walk", "seenAt", "(I)I"⟩, 17), (⟨"MachineWalks$Laws", "name", "(IIIIIII)V"⟩, 5)]
theorem lw_r1 : ∀ q ∈ lw_privs_1, lw_okq q := List.forall_mem_cons.mpr ⟨lw_p0, List.forall_mem_cons.mpr ⟨lw_p1, List.forall_mem_cons.mpr ⟨lw_p2, List.forall_mem_cons.mpr ⟨lw_p3, List.forall_mem_cons.mpr ⟨lw_p4, List.forall_mem_cons.mpr ⟨lw_p5, List.forall_mem_cons.mpr ⟨lw_p6, List.forall_mem_cons.mpr ⟨lw_p7, List.forall_mem_cons.mpr ⟨lw_p8, List.forall_mem_cons.mpr ⟨lw_p9, List.forall_mem_cons.mpr ⟨lw_p10, List.forall_mem_cons.mpr ⟨lw_p11, List.forall_mem_cons.mpr ⟨lw_p12, List.forall_mem_cons.mpr ⟨lw_p13, List.forall_mem_cons.mpr ⟨lw_p14, List.forall_mem_cons.mpr ⟨lw_p15, fun _ h => absurd h List.not_mem_nil⟩⟩⟩⟩⟩⟩⟩⟩⟩⟩⟩⟩⟩⟩⟩⟩
theorem lw_p16 : lw_okq (⟨"MachineWalks$Law", "pop", "()I"⟩, 4) := ⟨⟨by decide +kernel, by decide +kernel⟩, List.mem_of_getElem? (i := 145) (by decide +kernel), List.mem_of_getElem? (i := 715) (by decide +kernel), List.mem_of_getElem? (i := 716) (by decide +kernel)⟩
theorem lw_p17 : lw_okq (⟨"MachineWalks$Law", "push", "(I)V"⟩, 4) := ⟨⟨by decide +kernel, by decide +kernel⟩, List.mem_of_getElem? (i := 145) (by decide +kernel), List.mem_of_getElem? (i := 719) (by decide +kernel), List.mem_of_getElem? (i := 720) (by decide +kernel)⟩
theorem lw_p18 : lw_okq (⟨"MachineWalks$Law", "workOut", "(I)V"⟩, 4) := ⟨⟨by decide +kernel, by decide +kernel⟩, List.mem_of_getElem? (i := 145) (by decide +kernel), List.mem_of_getElem? (i := 723) (by decide +kernel), List.mem_of_getElem? (i := 724) (by decide +kernel)⟩
theorem lw_p19 : lw_okq (⟨"MachineWalks$Walk", "shakeAndHop", "(III)V"⟩, 17) := ⟨⟨by decide +kernel, by decide +kernel⟩, List.mem_of_getElem? (i := 183) (by decide +kernel), List.mem_of_getElem? (i := 743) (by decide +kernel), List.mem_of_getElem? (i := 744) (by decide +kernel)⟩
theorem lw_p20 : lw_okq (⟨"MachineWalks$Thought", "isBetter", "(III)Z"⟩, 10) := ⟨⟨by decide +kernel, by decide +kernel⟩, List.mem_of_getElem? (i := 253) (by decide +kernel), List.mem_of_getElem? (i := 874) (by decide +kernel), List.mem_of_getElem? (i := 875) (by decide +kernel)⟩
theorem lw_p21 : lw_okq (⟨"MachineWalks$Acts", "acted", "(IIII)I"⟩, 6) := ⟨⟨by decide +kernel, by decide +kernel⟩, List.mem_of_getElem? (i := 294) (by decide +kernel), List.mem_of_getElem? (i := 951) (by decide +kernel), List.mem_of_getElem? (i := 952) (by decide +kernel)⟩
theorem lw_p22 : lw_okq (⟨"MachineWalks$Acts", "worked", "(IIII)I"⟩, 6) := ⟨⟨by decide +kernel, by decide +kernel⟩, List.mem_of_getElem? (i := 294) (by decide +kernel), List.mem_of_getElem? (i := 963) (by decide +kernel), List.mem_of_getElem? (i := 964) (by decide +kernel)⟩
theorem lw_p23 : lw_okq (⟨"MachineWalks", "elementRefusal", "(II)I"⟩, 8) := ⟨⟨by decide +kernel, by decide +kernel⟩, List.mem_of_getElem? (i := 16) (by decide +kernel), List.mem_of_getElem? (i := 1004) (by decide +kernel), List.mem_of_getElem? (i := 1005) (by decide +kernel)⟩
theorem lw_p24 : lw_okq (⟨"MachineWalksModel", "adds", "(IIII)V"⟩, 63) := ⟨⟨by decide +kernel, by decide +kernel⟩, List.mem_of_getElem? (i := 1055) (by decide +kernel), List.mem_of_getElem? (i := 1273) (by decide +kernel), List.mem_of_getElem? (i := 1274) (by decide +kernel)⟩
theorem lw_p25 : lw_okq (⟨"MachineWalksModel", "isLump", "(I)Z"⟩, 63) := ⟨⟨by decide +kernel, by decide +kernel⟩, List.mem_of_getElem? (i := 1055) (by decide +kernel), List.mem_of_getElem? (i := 1290) (by decide +kernel), List.mem_of_getElem? (i := 1291) (by decide +kernel)⟩
theorem lw_p26 : lw_okq (⟨"MachineWalksModel", "becomes", "(II)I"⟩, 63) := ⟨⟨by decide +kernel, by decide +kernel⟩, List.mem_of_getElem? (i := 1055) (by decide +kernel), List.mem_of_getElem? (i := 1295) (by decide +kernel), List.mem_of_getElem? (i := 1296) (by decide +kernel)⟩
theorem lw_p27 : lw_okq (⟨"MachineWalksModel", "lopsided", "()I"⟩, 63) := ⟨⟨by decide +kernel, by decide +kernel⟩, List.mem_of_getElem? (i := 1055) (by decide +kernel), List.mem_of_getElem? (i := 1324) (by decide +kernel), List.mem_of_getElem? (i := 1325) (by decide +kernel)⟩
theorem lw_p28 : lw_okq (⟨"MachineWalksModel", "sumX", "()I"⟩, 63) := ⟨⟨by decide +kernel, by decide +kernel⟩, List.mem_of_getElem? (i := 1055) (by decide +kernel), List.mem_of_getElem? (i := 1328) (by decide +kernel), List.mem_of_getElem? (i := 1329) (by decide +kernel)⟩
theorem lw_p29 : lw_okq (⟨"MachineWalksModel", "sumY", "()I"⟩, 63) := ⟨⟨by decide +kernel, by decide +kernel⟩, List.mem_of_getElem? (i := 1055) (by decide +kernel), List.mem_of_getElem? (i := 1338) (by decide +kernel), List.mem_of_getElem? (i := 1339) (by decide +kernel)⟩
theorem lw_p30 : lw_okq (⟨"MachineWalksModel", "side", "()I"⟩, 63) := ⟨⟨by decide +kernel, by decide +kernel⟩, List.mem_of_getElem? (i := 1055) (by decide +kernel), List.mem_of_getElem? (i := 1345) (by decide +kernel), List.mem_of_getElem? (i := 1346) (by decide +kernel)⟩
theorem lw_p31 : lw_okq (⟨"MachineWalksModel", "allWet", "()I"⟩, 63) := ⟨⟨by decide +kernel, by decide +kernel⟩, List.mem_of_getElem? (i := 1055) (by decide +kernel), List.mem_of_getElem? (i := 1349) (by decide +kernel), List.mem_of_getElem? (i := 1350) (by decide +kernel)⟩
def lw_privs_2 : List (MethodName × Nat) := [(⟨"MachineWalks$Law", "pop", "()I"⟩, 4), (⟨"MachineWalks$Law", "push", "(I)V"⟩, 4), (⟨"MachineWalks$Law", "workOut", "(I)V"⟩, 4), (⟨"MachineWalks$Walk", "shakeAndHop", "(III)V"⟩, 17), (⟨"MachineWalks$Thought", "isBetter", "(III)Z"⟩, 10), (⟨"MachineWalks$Acts", "acted", "(IIII)I"⟩, 6), (⟨"MachineWalks$Acts", "worked", "(IIII)I"⟩, 6), (⟨"MachineWalks", "elementRefusal", "(II)I"⟩, 8), (⟨"MachineWalksModel", "adds", "(IIII)V"⟩, 63), (⟨"MachineWalksModel", "isLump", "(I)Z"⟩, 63), (⟨"MachineWalksModel", "becomes", "(II)I"⟩, 63), (⟨"MachineWalksModel", "lopsided", "()I"⟩, 63), (⟨"MachineWalksModel", "sumX", "()I"⟩, 63), (⟨"MachineWalksModel", "sumY", "()I"⟩, 63), (⟨"MachineWalksModel", "side", "()I"⟩, 63), (⟨"MachineWalksModel", "allWet", "()I"⟩, 63)]
theorem lw_r2 : ∀ q ∈ lw_privs_2, lw_okq q := List.forall_mem_cons.mpr ⟨lw_p16, List.forall_mem_cons.mpr ⟨lw_p17, List.forall_mem_cons.mpr ⟨lw_p18, List.forall_mem_cons.mpr ⟨lw_p19, List.forall_mem_cons.mpr ⟨lw_p20, List.forall_mem_cons.mpr ⟨lw_p21, List.forall_mem_cons.mpr ⟨lw_p22, List.forall_mem_cons.mpr ⟨lw_p23, List.forall_mem_cons.mpr ⟨lw_p24, List.forall_mem_cons.mpr ⟨lw_p25, List.forall_mem_cons.mpr ⟨lw_p26, List.forall_mem_cons.mpr ⟨lw_p27, List.forall_mem_cons.mpr ⟨lw_p28, List.forall_mem_cons.mpr ⟨lw_p29, List.forall_mem_cons.mpr ⟨lw_p30, List.forall_mem_cons.mpr ⟨lw_p31, fun _ h => absurd h List.not_mem_nil⟩⟩⟩⟩⟩⟩⟩⟩⟩⟩⟩⟩⟩⟩⟩⟩
theorem lw_p32 : lw_okq (⟨"MachineWalksModel", "shakeOf", "(II)I"⟩, 63) := ⟨⟨by decide +kernel, by decide +kernel⟩, List.mem_of_getElem? (i := 1055) (by decide +kernel), List.mem_of_getElem? (i := 1359) (by decide +kernel), List.mem_of_getElem? (i := 1360) (by decide +kernel)⟩
theorem lw_p33 : lw_okq (⟨"MachineWalksModel", "workOut", "(II)I"⟩, 63) := ⟨⟨by decide +kernel, by decide +kernel⟩, List.mem_of_getElem? (i := 1055) (by decide +kernel), List.mem_of_getElem? (i := 1374) (by decide +kernel), List.mem_of_getElem? (i := 1375) (by decide +kernel)⟩
theorem lw_p34 : lw_okq (⟨"MachineWalksModel", "either", "()I"⟩, 63) := ⟨⟨by decide +kernel, by decide +kernel⟩, List.mem_of_getElem? (i := 1055) (by decide +kernel), List.mem_of_getElem? (i := 1378) (by decide +kernel), List.mem_of_getElem? (i := 1379) (by decide +kernel)⟩
theorem lw_p35 : lw_okq (⟨"MachineWalksModel", "both", "()I"⟩, 63) := ⟨⟨by decide +kernel, by decide +kernel⟩, List.mem_of_getElem? (i := 1055) (by decide +kernel), List.mem_of_getElem? (i := 1382) (by decide +kernel), List.mem_of_getElem? (i := 1383) (by decide +kernel)⟩
theorem lw_p36 : lw_okq (⟨"MachineWalksModel", "compared", "()I"⟩, 63) := ⟨⟨by decide +kernel, by decide +kernel⟩, List.mem_of_getElem? (i := 1055) (by decide +kernel), List.mem_of_getElem? (i := 1386) (by decide +kernel), List.mem_of_getElem? (i := 1387) (by decide +kernel)⟩
theorem lw_p37 : lw_okq (⟨"MachineWalksModel", "sums", "()I"⟩, 63) := ⟨⟨by decide +kernel, by decide +kernel⟩, List.mem_of_getElem? (i := 1055) (by decide +kernel), List.mem_of_getElem? (i := 1390) (by decide +kernel), List.mem_of_getElem? (i := 1391) (by decide +kernel)⟩
theorem lw_p38 : lw_okq (⟨"MachineWalksModel", "product", "()I"⟩, 63) := ⟨⟨by decide +kernel, by decide +kernel⟩, List.mem_of_getElem? (i := 1055) (by decide +kernel), List.mem_of_getElem? (i := 1394) (by decide +kernel), List.mem_of_getElem? (i := 1395) (by decide +kernel)⟩
theorem lw_p39 : lw_okq (⟨"MachineWalksModel", "one", "()I"⟩, 63) := ⟨⟨by decide +kernel, by decide +kernel⟩, List.mem_of_getElem? (i := 1055) (by decide +kernel), List.mem_of_getElem? (i := 1398) (by decide +kernel), List.mem_of_getElem? (i := 1399) (by decide +kernel)⟩
theorem lw_p40 : lw_okq (⟨"MachineWalksModel", "byteAt", "()I"⟩, 63) := ⟨⟨by decide +kernel, by decide +kernel⟩, List.mem_of_getElem? (i := 1055) (by decide +kernel), List.mem_of_getElem? (i := 1402) (by decide +kernel), List.mem_of_getElem? (i := 1403) (by decide +kernel)⟩
theorem lw_p41 : lw_okq (⟨"MachineWalksModel", "wrong", "()I"⟩, 63) := ⟨⟨by decide +kernel, by decide +kernel⟩, List.mem_of_getElem? (i := 1055) (by decide +kernel), List.mem_of_getElem? (i := 1406) (by decide +kernel), List.mem_of_getElem? (i := 1407) (by decide +kernel)⟩
theorem lw_p42 : lw_okq (⟨"MachineWalksModel", "takes", "(I)Z"⟩, 63) := ⟨⟨by decide +kernel, by decide +kernel⟩, List.mem_of_getElem? (i := 1055) (by decide +kernel), List.mem_of_getElem? (i := 1410) (by decide +kernel), List.mem_of_getElem? (i := 1411) (by decide +kernel)⟩
theorem lw_p43 : lw_okq (⟨"MachineWalksModel", "isLaw", "(I)Z"⟩, 63) := ⟨⟨by decide +kernel, by decide +kernel⟩, List.mem_of_getElem? (i := 1055) (by decide +kernel), List.mem_of_getElem? (i := 1421) (by decide +kernel), List.mem_of_getElem? (i := 1422) (by decide +kernel)⟩
theorem lw_p44 : lw_okq (⟨"MachineWalksModel", "isRf", "(I)Z"⟩, 63) := ⟨⟨by decide +kernel, by decide +kernel⟩, List.mem_of_getElem? (i := 1055) (by decide +kernel), List.mem_of_getElem? (i := 1429) (by decide +kernel), List.mem_of_getElem? (i := 1430) (by decide +kernel)⟩
theorem lw_p45 : lw_okq (⟨"MachineWalksModel", "keepsLoad", "()V"⟩, 63) := ⟨⟨by decide +kernel, by decide +kernel⟩, List.mem_of_getElem? (i := 1055) (by decide +kernel), List.mem_of_getElem? (i := 1437) (by decide +kernel), List.mem_of_getElem? (i := 1438) (by decide +kernel)⟩
theorem lw_p46 : lw_okq (⟨"MachineWalksModel", "goes", "(IIIIIZ)V"⟩, 63) := ⟨⟨by decide +kernel, by decide +kernel⟩, List.mem_of_getElem? (i := 1055) (by decide +kernel), List.mem_of_getElem? (i := 1441) (by decide +kernel), List.mem_of_getElem? (i := 1442) (by decide +kernel)⟩
theorem lw_p47 : lw_okq (⟨"MachineWalksModel", "oneTick", "(IIIIIZ)I"⟩, 63) := ⟨⟨by decide +kernel, by decide +kernel⟩, List.mem_of_getElem? (i := 1055) (by decide +kernel), List.mem_of_getElem? (i := 1445) (by decide +kernel), List.mem_of_getElem? (i := 1446) (by decide +kernel)⟩
def lw_privs_3 : List (MethodName × Nat) := [(⟨"MachineWalksModel", "shakeOf", "(II)I"⟩, 63), (⟨"MachineWalksModel", "workOut", "(II)I"⟩, 63), (⟨"MachineWalksModel", "either", "()I"⟩, 63), (⟨"MachineWalksModel", "both", "()I"⟩, 63), (⟨"MachineWalksModel", "compared", "()I"⟩, 63), (⟨"MachineWalksModel", "sums", "()I"⟩, 63), (⟨"MachineWalksModel", "product", "()I"⟩, 63), (⟨"MachineWalksModel", "one", "()I"⟩, 63), (⟨"MachineWalksModel", "byteAt", "()I"⟩, 63), (⟨"MachineWalksModel", "wrong", "()I"⟩, 63), (⟨"MachineWalksModel", "takes", "(I)Z"⟩, 63), (⟨"MachineWalksModel", "isLaw", "(I)Z"⟩, 63), (⟨"MachineWalksModel", "isRf", "(I)Z"⟩, 63), (⟨"MachineWalksModel", "keepsLoad", "()V"⟩, 63), (⟨"MachineWalksModel", "goes", "(IIIIIZ)V"⟩, 63), (⟨"MachineWalksModel", "oneTick", "(IIIIIZ)I"⟩, 63)]
theorem lw_r3 : ∀ q ∈ lw_privs_3, lw_okq q := List.forall_mem_cons.mpr ⟨lw_p32, List.forall_mem_cons.mpr ⟨lw_p33, List.forall_mem_cons.mpr ⟨lw_p34, List.forall_mem_cons.mpr ⟨lw_p35, List.forall_mem_cons.mpr ⟨lw_p36, List.forall_mem_cons.mpr ⟨lw_p37, List.forall_mem_cons.mpr ⟨lw_p38, List.forall_mem_cons.mpr ⟨lw_p39, List.forall_mem_cons.mpr ⟨lw_p40, List.forall_mem_cons.mpr ⟨lw_p41, List.forall_mem_cons.mpr ⟨lw_p42, List.forall_mem_cons.mpr ⟨lw_p43, List.forall_mem_cons.mpr ⟨lw_p44, List.forall_mem_cons.mpr ⟨lw_p45, List.forall_mem_cons.mpr ⟨lw_p46, List.forall_mem_cons.mpr ⟨lw_p47, fun _ h => absurd h List.not_mem_nil⟩⟩⟩⟩⟩⟩⟩⟩⟩⟩⟩⟩⟩⟩⟩⟩
theorem lw_p48 : lw_okq (⟨"MachineWalksModel", "seenAt", "(I)I"⟩, 63) := ⟨⟨by decide +kernel, by decide +kernel⟩, List.mem_of_getElem? (i := 1055) (by decide +kernel), List.mem_of_getElem? (i := 1449) (by decide +kernel), List.mem_of_getElem? (i := 1450) (by decide +kernel)⟩
theorem lw_p49 : lw_okq (⟨"MachineWalksModel", "drawn", "(I)I"⟩, 63) := ⟨⟨by decide +kernel, by decide +kernel⟩, List.mem_of_getElem? (i := 1055) (by decide +kernel), List.mem_of_getElem? (i := 1453) (by decide +kernel), List.mem_of_getElem? (i := 1454) (by decide +kernel)⟩
theorem lw_p50 : lw_okq (⟨"MachineWalksModel", "ruled", "(IIIIIII)I"⟩, 63) := ⟨⟨by decide +kernel, by decide +kernel⟩, List.mem_of_getElem? (i := 1055) (by decide +kernel), List.mem_of_getElem? (i := 1458) (by decide +kernel), List.mem_of_getElem? (i := 1459) (by decide +kernel)⟩
theorem lw_p51 : lw_okq (⟨"MachineWalksModel", "clearNames", "()V"⟩, 63) := ⟨⟨by decide +kernel, by decide +kernel⟩, List.mem_of_getElem? (i := 1055) (by decide +kernel), List.mem_of_getElem? (i := 1462) (by decide +kernel), List.mem_of_getElem? (i := 1463) (by decide +kernel)⟩
theorem lw_p52 : lw_okq (⟨"MachineWalksModel", "tumbles", "()V"⟩, 63) := ⟨⟨by decide +kernel, by decide +kernel⟩, List.mem_of_getElem? (i := 1055) (by decide +kernel), List.mem_of_getElem? (i := 1466) (by decide +kernel), List.mem_of_getElem? (i := 1467) (by decide +kernel)⟩
theorem lw_p53 : lw_okq (⟨"MachineWalksModel", "waterLeaves", "(IIII)V"⟩, 63) := ⟨⟨by decide +kernel, by decide +kernel⟩, List.mem_of_getElem? (i := 1055) (by decide +kernel), List.mem_of_getElem? (i := 1470) (by decide +kernel), List.mem_of_getElem? (i := 1471) (by decide +kernel)⟩
theorem lw_p54 : lw_okq (⟨"MachineWalksModel", "hopsOn", "(II)V"⟩, 63) := ⟨⟨by decide +kernel, by decide +kernel⟩, List.mem_of_getElem? (i := 1055) (by decide +kernel), List.mem_of_getElem? (i := 1474) (by decide +kernel), List.mem_of_getElem? (i := 1475) (by decide +kernel)⟩
theorem lw_p55 : lw_okq (⟨"MachineWalksModel", "laysBack", "()V"⟩, 63) := ⟨⟨by decide +kernel, by decide +kernel⟩, List.mem_of_getElem? (i := 1055) (by decide +kernel), List.mem_of_getElem? (i := 1481) (by decide +kernel), List.mem_of_getElem? (i := 1482) (by decide +kernel)⟩
theorem lw_p56 : lw_okq (⟨"MachineWalksModel", "findLoads", "(IIIII)V"⟩, 63) := ⟨⟨by decide +kernel, by decide +kernel⟩, List.mem_of_getElem? (i := 1055) (by decide +kernel), List.mem_of_getElem? (i := 1514) (by decide +kernel), List.mem_of_getElem? (i := 1515) (by decide +kernel)⟩
theorem lw_p57 : lw_okq (⟨"MachineWalksModel", "isBody", "(I)Z"⟩, 63) := ⟨⟨by decide +kernel, by decide +kernel⟩, List.mem_of_getElem? (i := 1055) (by decide +kernel), List.mem_of_getElem? (i := 1541) (by decide +kernel), List.mem_of_getElem? (i := 1542) (by decide +kernel)⟩
theorem lw_p58 : lw_okq (⟨"MachineWalksModel", "clingsAs", "(II)I"⟩, 63) := ⟨⟨by decide +kernel, by decide +kernel⟩, List.mem_of_getElem? (i := 1055) (by decide +kernel), List.mem_of_getElem? (i := 1545) (by decide +kernel), List.mem_of_getElem? (i := 1546) (by decide +kernel)⟩
theorem lw_p59 : lw_okq (⟨"MachineWalksModel", "begins", "(I)V"⟩, 63) := ⟨⟨by decide +kernel, by decide +kernel⟩, List.mem_of_getElem? (i := 1055) (by decide +kernel), List.mem_of_getElem? (i := 1549) (by decide +kernel), List.mem_of_getElem? (i := 1550) (by decide +kernel)⟩
theorem lw_p60 : lw_okq (⟨"MachineWalksModel", "shakesAs", "(II)I"⟩, 63) := ⟨⟨by decide +kernel, by decide +kernel⟩, List.mem_of_getElem? (i := 1055) (by decide +kernel), List.mem_of_getElem? (i := 1553) (by decide +kernel), List.mem_of_getElem? (i := 1554) (by decide +kernel)⟩
theorem lw_p61 : lw_okq (⟨"MachineWalksModel", "hopsAs", "(II)I"⟩, 63) := ⟨⟨by decide +kernel, by decide +kernel⟩, List.mem_of_getElem? (i := 1055) (by decide +kernel), List.mem_of_getElem? (i := 1557) (by decide +kernel), List.mem_of_getElem? (i := 1558) (by decide +kernel)⟩
theorem lw_p62 : lw_okq (⟨"MachineWalksModel", "tellsAs", "(II)I"⟩, 63) := ⟨⟨by decide +kernel, by decide +kernel⟩, List.mem_of_getElem? (i := 1055) (by decide +kernel), List.mem_of_getElem? (i := 1561) (by decide +kernel), List.mem_of_getElem? (i := 1562) (by decide +kernel)⟩
theorem lw_p63 : lw_okq (⟨"MachineWalksModel", "refusal", "(II)I"⟩, 63) := ⟨⟨by decide +kernel, by decide +kernel⟩, List.mem_of_getElem? (i := 1055) (by decide +kernel), List.mem_of_getElem? (i := 1581) (by decide +kernel), List.mem_of_getElem? (i := 1582) (by decide +kernel)⟩
def lw_privs_4 : List (MethodName × Nat) := [(⟨"MachineWalksModel", "seenAt", "(I)I"⟩, 63), (⟨"MachineWalksModel", "drawn", "(I)I"⟩, 63), (⟨"MachineWalksModel", "ruled", "(IIIIIII)I"⟩, 63), (⟨"MachineWalksModel", "clearNames", "()V"⟩, 63), (⟨"MachineWalksModel", "tumbles", "()V"⟩, 63), (⟨"MachineWalksModel", "waterLeaves", "(IIII)V"⟩, 63), (⟨"MachineWalksModel", "hopsOn", "(II)V"⟩, 63), (⟨"MachineWalksModel", "laysBack", "()V"⟩, 63), (⟨"MachineWalksModel", "findLoads", "(IIIII)V"⟩, 63), (⟨"MachineWalksModel", "isBody", "(I)Z"⟩, 63), (⟨"MachineWalksModel", "clingsAs", "(II)I"⟩, 63), (⟨"MachineWalksModel", "begins", "(I)V"⟩, 63), (⟨"MachineWalksModel", "shakesAs", "(II)I"⟩, 63), (⟨"MachineWalksModel", "hopsAs", "(II)I"⟩, 63), (⟨"MachineWalksModel", "tellsAs", "(II)I"⟩, 63), (⟨"MachineWalksModel", "refusal", "(II)I"⟩, 63)]
theorem lw_r4 : ∀ q ∈ lw_privs_4, lw_okq q := List.forall_mem_cons.mpr ⟨lw_p48, List.forall_mem_cons.mpr ⟨lw_p49, List.forall_mem_cons.mpr ⟨lw_p50, List.forall_mem_cons.mpr ⟨lw_p51, List.forall_mem_cons.mpr ⟨lw_p52, List.forall_mem_cons.mpr ⟨lw_p53, List.forall_mem_cons.mpr ⟨lw_p54, List.forall_mem_cons.mpr ⟨lw_p55, List.forall_mem_cons.mpr ⟨lw_p56, List.forall_mem_cons.mpr ⟨lw_p57, List.forall_mem_cons.mpr ⟨lw_p58, List.forall_mem_cons.mpr ⟨lw_p59, List.forall_mem_cons.mpr ⟨lw_p60, List.forall_mem_cons.mpr ⟨lw_p61, List.forall_mem_cons.mpr ⟨lw_p62, List.forall_mem_cons.mpr ⟨lw_p63, fun _ h => absurd h List.not_mem_nil⟩⟩⟩⟩⟩⟩⟩⟩⟩⟩⟩⟩⟩⟩⟩⟩
theorem lw_p64 : lw_okq (⟨"MachineWalksModel", "kindOf", "(I)I"⟩, 63) := ⟨⟨by decide +kernel, by decide +kernel⟩, List.mem_of_getElem? (i := 1055) (by decide +kernel), List.mem_of_getElem? (i := 1601) (by decide +kernel), List.mem_of_getElem? (i := 1602) (by decide +kernel)⟩
def lw_privs_5 : List (MethodName × Nat) := [(⟨"MachineWalksModel", "kindOf", "(I)I"⟩, 63)]
theorem lw_r5 : ∀ q ∈ lw_privs_5, lw_okq q := List.forall_mem_cons.mpr ⟨lw_p64, fun _ h => absurd h List.not_mem_nil⟩
def lw_privs : List (MethodName × Nat) := lw_privs_1 ++ (lw_privs_2 ++ (lw_privs_3 ++ (lw_privs_4 ++ (lw_privs_5))))
def lw_tbl : List Cond := k2_sels lw_privs ++ tables_1
theorem lw_privs_ok : ∀ q ∈ lw_privs, lw_okq q := by
  show ∀ q ∈ lw_privs_1 ++ (lw_privs_2 ++ (lw_privs_3 ++ (lw_privs_4 ++ (lw_privs_5)))), lw_okq q
  exact List.forall_mem_append.mpr ⟨lw_r1, List.forall_mem_append.mpr ⟨lw_r2, List.forall_mem_append.mpr ⟨lw_r3, List.forall_mem_append.mpr ⟨lw_r4, lw_r5⟩⟩⟩⟩
end
section
def RX0 : String := "MachineWalks$Acts"
def TX0 : u_T := fun k => match k with
  | 0 => ("MachineWalks$Acts", "kinds", "[I", true)
  | 1 => ("MachineWalks$Acts", "trace", "[I", true)
  | 2 => ("MachineWalks$Acts", "many", "I", false)
  | 3 => ("MachineWalks$Acts", "ran", "I", false)
  | 4 => ("MachineWalks$Acts", "number", "I", false)
  | _ => ("MachineWalks$Acts", "own", "I", false)
def tyX0 : Nat → FieldType := fun k => match k with
  | 0 => .array .int
  | 1 => .array .int
  | 2 => .int
  | 3 => .int
  | 4 => .int
  | _ => .int
abbrev wsX00 : List Cond := u_ws RX0 TX0 6
theorem nmX0 : ∀ a, a < 6 → ∀ b, b < 6 → a ≠ b → (TX0 a).2.1 ≠ (TX0 b).2.1 := by decide +kernel
theorem tyX0_ok : ∀ k, k < 6 → parseFieldDescriptor (TX0 k).2.2.1 = some (tyX0 k) := by decide +kernel
abbrev cX0_init : ByteArray := prog_2_method_1_code
def yX0_init : MethodName := ⟨RX0, "<init>", "()V"⟩
abbrev cX0_isKind : ByteArray := prog_2_method_2_code
def yX0_isKind : MethodName := ⟨RX0, "isKind", "(I)Z"⟩
abbrev cX0_isUnder : ByteArray := prog_2_method_3_code
def yX0_isUnder : MethodName := ⟨RX0, "isUnder", "(II)Z"⟩
abbrev cX0_areFull : ByteArray := prog_2_method_4_code
def yX0_areFull : MethodName := ⟨RX0, "areFull", "()Z"⟩
abbrev cX0_hasLoad : ByteArray := prog_2_method_5_code
def yX0_hasLoad : MethodName := ⟨RX0, "hasLoad", "(I)Z"⟩
abbrev cX0_keepOne : ByteArray := prog_2_method_6_code
def yX0_keepOne : MethodName := ⟨RX0, "keepOne", "(I)I"⟩
abbrev cX0_kindOf : ByteArray := prog_2_method_7_code
def yX0_kindOf : MethodName := ⟨RX0, "kindOf", "(I)I"⟩
abbrev cX0_traced : ByteArray := prog_2_method_8_code
def yX0_traced : MethodName := ⟨RX0, "traced", "()I"⟩
abbrev cX0_traceAt : ByteArray := prog_2_method_9_code
def yX0_traceAt : MethodName := ⟨RX0, "traceAt", "(I)I"⟩
abbrev cX0_begin : ByteArray := prog_2_method_10_code
def yX0_begin : MethodName := ⟨RX0, "begin", "(III)I"⟩
abbrev cX0_bodyOf : ByteArray := prog_2_method_11_code
def yX0_bodyOf : MethodName := ⟨RX0, "bodyOf", "(II)I"⟩
abbrev cX0_acted : ByteArray := prog_2_method_12_code
def yX0_acted : MethodName := ⟨RX0, "acted", "(IIII)I"⟩
abbrev cX0_worked : ByteArray := prog_2_method_13_code
def yX0_worked : MethodName := ⟨RX0, "worked", "(IIII)I"⟩
def RX1 : String := "MachineWalks$Changes"
def TX1 : u_T := fun k => match k with
  | 0 => ("MachineWalks$Changes", "drum", "LMachineWalks$Drum;", true)
  | 1 => ("MachineWalks$Changes", "lump", "[I", true)
  | 2 => ("MachineWalks$Changes", "what", "[I", true)
  | 3 => ("MachineWalks$Changes", "was", "[I", true)
  | 4 => ("MachineWalks$Changes", "now", "[I", true)
  | 5 => ("MachineWalks$Changes", "done", "I", false)
  | _ => ("MachineWalks$Changes", "known", "I", false)
def tyX1 : Nat → FieldType := fun k => match k with
  | 0 => .object "MachineWalks$Drum"
  | 1 => .array .int
  | 2 => .array .int
  | 3 => .array .int
  | 4 => .array .int
  | 5 => .int
  | _ => .int
abbrev wsX10 : List Cond := u_ws RX1 TX1 7
theorem nmX1 : ∀ a, a < 7 → ∀ b, b < 7 → a ≠ b → (TX1 a).2.1 ≠ (TX1 b).2.1 := by decide +kernel
theorem tyX1_ok : ∀ k, k < 7 → parseFieldDescriptor (TX1 k).2.2.1 = some (tyX1 k) := by decide +kernel
abbrev cX1_init : ByteArray := prog_3_method_1_code
def yX1_init : MethodName := ⟨RX1, "<init>", "(LMachineWalks$Drum;)V"⟩
abbrev cX1_tell : ByteArray := prog_3_method_2_code
def yX1_tell : MethodName := ⟨RX1, "tell", "(III)I"⟩
abbrev cX1_dropOldest : ByteArray := prog_3_method_3_code
def yX1_dropOldest : MethodName := ⟨RX1, "dropOldest", "()V"⟩
abbrev cX1_undoable : ByteArray := prog_3_method_4_code
def yX1_undoable : MethodName := ⟨RX1, "undoable", "()I"⟩
abbrev cX1_redoable : ByteArray := prog_3_method_5_code
def yX1_redoable : MethodName := ⟨RX1, "redoable", "()I"⟩
abbrev cX1_takeBack : ByteArray := prog_3_method_6_code
def yX1_takeBack : MethodName := ⟨RX1, "takeBack", "()I"⟩
abbrev cX1_doAgain : ByteArray := prog_3_method_7_code
def yX1_doAgain : MethodName := ⟨RX1, "doAgain", "()I"⟩
abbrev cX1_end : ByteArray := prog_3_method_8_code
def yX1_end : MethodName := ⟨RX1, "end", "()V"⟩
def RX2 : String := "MachineWalks$Drum"
def TX2 : u_T := fun k => match k with
  | 0 => ("MachineWalks$Drum", "dry", "[I", true)
  | 1 => ("MachineWalks$Drum", "wet", "[I", true)
  | 2 => ("MachineWalks$Drum", "angle", "[I", true)
  | 3 => ("MachineWalks$Drum", "holds", "[I", true)
  | 4 => ("MachineWalks$Drum", "many", "I", false)
  | _ => ("MachineWalks$Drum", "counterweight", "I", false)
def tyX2 : Nat → FieldType := fun k => match k with
  | 0 => .array .int
  | 1 => .array .int
  | 2 => .array .int
  | 3 => .array .int
  | 4 => .int
  | _ => .int
abbrev wsX20 : List Cond := u_ws RX2 TX2 6
theorem nmX2 : ∀ a, a < 6 → ∀ b, b < 6 → a ≠ b → (TX2 a).2.1 ≠ (TX2 b).2.1 := by decide +kernel
theorem tyX2_ok : ∀ k, k < 6 → parseFieldDescriptor (TX2 k).2.2.1 = some (tyX2 k) := by decide +kernel
abbrev cX2_init : ByteArray := prog_4_method_1_code
def yX2_init : MethodName := ⟨RX2, "<init>", "()V"⟩
abbrev cX2_cosine : ByteArray := prog_4_method_2_code
def yX2_cosine : MethodName := ⟨RX2, "cosine", "(I)I"⟩
abbrev cX2_sine : ByteArray := prog_4_method_3_code
def yX2_sine : MethodName := ⟨RX2, "sine", "(I)I"⟩
abbrev cX2_isLump : ByteArray := prog_4_method_4_code
def yX2_isLump : MethodName := ⟨RX2, "isLump", "(IIII)Z"⟩
abbrev cX2_isTold : ByteArray := prog_4_method_5_code
def yX2_isTold : MethodName := ⟨RX2, "isTold", "(II)Z"⟩
abbrev cX2_isCounter : ByteArray := prog_4_method_6_code
def yX2_isCounter : MethodName := ⟨RX2, "isCounter", "(I)Z"⟩
abbrev cX2_isFull : ByteArray := prog_4_method_7_code
def yX2_isFull : MethodName := ⟨RX2, "isFull", "()Z"⟩
abbrev cX2_hasLump : ByteArray := prog_4_method_8_code
def yX2_hasLump : MethodName := ⟨RX2, "hasLump", "(I)Z"⟩
abbrev cX2_join : ByteArray := prog_4_method_9_code
def yX2_join : MethodName := ⟨RX2, "join", "(IIII)I"⟩
abbrev cX2_told : ByteArray := prog_4_method_10_code
def yX2_told : MethodName := ⟨RX2, "told", "(II)I"⟩
abbrev cX2_tell : ByteArray := prog_4_method_11_code
def yX2_tell : MethodName := ⟨RX2, "tell", "(III)V"⟩
abbrev cX2_lieAs : ByteArray := prog_4_method_12_code
def yX2_lieAs : MethodName := ⟨RX2, "lieAs", "(LMachineWalks$Drum;)V"⟩
abbrev cX2_tumble : ByteArray := prog_4_method_13_code
def yX2_tumble : MethodName := ⟨RX2, "tumble", "(I)I"⟩
abbrev cX2_drawn : ByteArray := prog_4_method_14_code
def yX2_drawn : MethodName := ⟨RX2, "drawn", "(I)I"⟩
abbrev cX2_across : ByteArray := prog_4_method_15_code
def yX2_across : MethodName := ⟨RX2, "across", "()I"⟩
abbrev cX2_along : ByteArray := prog_4_method_16_code
def yX2_along : MethodName := ⟨RX2, "along", "()I"⟩
abbrev cX2_lopsided : ByteArray := prog_4_method_17_code
def yX2_lopsided : MethodName := ⟨RX2, "lopsided", "()I"⟩
abbrev cX2_lopsidedBy : ByteArray := prog_4_method_18_code
def yX2_lopsidedBy : MethodName := ⟨RX2, "lopsidedBy", "(II)I"⟩
abbrev cX2_side : ByteArray := prog_4_method_19_code
def yX2_side : MethodName := ⟨RX2, "side", "()I"⟩
abbrev cX2_wetOfAll : ByteArray := prog_4_method_20_code
def yX2_wetOfAll : MethodName := ⟨RX2, "wetOfAll", "()I"⟩
def RX3 : String := "MachineWalks$Law"
def TX3 : u_T := fun k => match k with
  | 0 => ("MachineWalks$Law", "code", "[I", true)
  | 1 => ("MachineWalks$Law", "stack", "[I", true)
  | 2 => ("MachineWalks$Law", "length", "I", false)
  | _ => ("MachineWalks$Law", "top", "I", false)
def tyX3 : Nat → FieldType := fun k => match k with
  | 0 => .array .int
  | 1 => .array .int
  | 2 => .int
  | _ => .int
abbrev wsX30 : List Cond := u_ws RX3 TX3 4
theorem nmX3 : ∀ a, a < 4 → ∀ b, b < 4 → a ≠ b → (TX3 a).2.1 ≠ (TX3 b).2.1 := by decide +kernel
theorem tyX3_ok : ∀ k, k < 4 → parseFieldDescriptor (TX3 k).2.2.1 = some (tyX3 k) := by decide +kernel
abbrev cX3_init : ByteArray := prog_5_method_1_code
def yX3_init : MethodName := ⟨RX3, "<init>", "()V"⟩
abbrev cX3_nameOf : ByteArray := prog_5_method_2_code
def yX3_nameOf : MethodName := ⟨RX3, "nameOf", "(I)I"⟩
abbrev cX3_empty : ByteArray := prog_5_method_3_code
def yX3_empty : MethodName := ⟨RX3, "empty", "()V"⟩
abbrev cX3_add : ByteArray := prog_5_method_4_code
def yX3_add : MethodName := ⟨RX3, "add", "(I)V"⟩
abbrev cX3_worth : ByteArray := prog_5_method_5_code
def yX3_worth : MethodName := ⟨RX3, "worth", "([I)I"⟩
abbrev cX3_push : ByteArray := prog_5_method_6_code
def yX3_push : MethodName := ⟨RX3, "push", "(I)V"⟩
abbrev cX3_pop : ByteArray := prog_5_method_7_code
def yX3_pop : MethodName := ⟨RX3, "pop", "()I"⟩
abbrev cX3_workOut : ByteArray := prog_5_method_8_code
def yX3_workOut : MethodName := ⟨RX3, "workOut", "(I)V"⟩
abbrev cX3_joined : ByteArray := prog_5_method_9_code
def yX3_joined : MethodName := ⟨RX3, "joined", "(CII)I"⟩
def RX4 : String := "MachineWalks$Laws"
def TX4 : u_T := fun k => match k with
  | 0 => ("MachineWalks$Laws", "tape", "LMachineWalks$Tape;", true)
  | 1 => ("MachineWalks$Laws", "laws", "[LMachineWalks$Law;", true)
  | 2 => ("MachineWalks$Laws", "names", "[I", true)
  | 3 => ("MachineWalks$Laws", "many", "I", false)
  | _ => ("MachineWalks$Laws", "waters", "I", false)
def tyX4 : Nat → FieldType := fun k => match k with
  | 0 => .object "MachineWalks$Tape"
  | 1 => .array (.object "MachineWalks$Law")
  | 2 => .array .int
  | 3 => .int
  | _ => .int
abbrev wsX40 : List Cond := u_ws RX4 TX4 5
theorem nmX4 : ∀ a, a < 5 → ∀ b, b < 5 → a ≠ b → (TX4 a).2.1 ≠ (TX4 b).2.1 := by decide +kernel
theorem tyX4_ok : ∀ k, k < 5 → parseFieldDescriptor (TX4 k).2.2.1 = some (tyX4 k) := by decide +kernel
abbrev cX4_init : ByteArray := prog_6_method_1_code
def yX4_init : MethodName := ⟨RX4, "<init>", "()V"⟩
abbrev cX4_areFull : ByteArray := prog_6_method_2_code
def yX4_areFull : MethodName := ⟨RX4, "areFull", "()Z"⟩
abbrev cX4_has : ByteArray := prog_6_method_3_code
def yX4_has : MethodName := ⟨RX4, "has", "(I)Z"⟩
abbrev cX4_makeFromTape : ByteArray := prog_6_method_4_code
def yX4_makeFromTape : MethodName := ⟨RX4, "makeFromTape", "()I"⟩
abbrev cX4_giveWater : ByteArray := prog_6_method_5_code
def yX4_giveWater : MethodName := ⟨RX4, "giveWater", "(I)I"⟩
abbrev cX4_paceBy : ByteArray := prog_6_method_6_code
def yX4_paceBy : MethodName := ⟨RX4, "paceBy", "(IIIIIII)I"⟩
abbrev cX4_drain : ByteArray := prog_6_method_7_code
def yX4_drain : MethodName := ⟨RX4, "drain", "(LMachineWalks$Drum;IIIII)V"⟩
abbrev cX4_name : ByteArray := prog_6_method_8_code
def yX4_name : MethodName := ⟨RX4, "name", "(IIIIIII)V"⟩
def RX5 : String := "MachineWalks$Machine"
def TX5 : u_T := fun k => match k with
  | 0 => ("MachineWalks$Machine", "beat", "I", false)
  | 1 => ("MachineWalks$Machine", "damp", "I", false)
  | 2 => ("MachineWalks$Machine", "delay", "I", false)
  | 3 => ("MachineWalks$Machine", "noise", "I", false)
  | 4 => ("MachineWalks$Machine", "wall", "I", false)
  | 5 => ("MachineWalks$Machine", "grips", "[I", true)
  | 6 => ("MachineWalks$Machine", "slopesX", "[I", true)
  | 7 => ("MachineWalks$Machine", "slopesY", "[I", true)
  | _ => ("MachineWalks$Machine", "floors", "I", false)
def tyX5 : Nat → FieldType := fun k => match k with
  | 0 => .int
  | 1 => .int
  | 2 => .int
  | 3 => .int
  | 4 => .int
  | 5 => .array .int
  | 6 => .array .int
  | 7 => .array .int
  | _ => .int
abbrev wsX50 : List Cond := u_ws RX5 TX5 9
theorem nmX5 : ∀ a, a < 9 → ∀ b, b < 9 → a ≠ b → (TX5 a).2.1 ≠ (TX5 b).2.1 := by decide +kernel
theorem tyX5_ok : ∀ k, k < 9 → parseFieldDescriptor (TX5 k).2.2.1 = some (tyX5 k) := by decide +kernel
abbrev cX5_init : ByteArray := prog_7_method_1_code
def yX5_init : MethodName := ⟨RX5, "<init>", "()V"⟩
abbrev cX5_isPace : ByteArray := prog_7_method_2_code
def yX5_isPace : MethodName := ⟨RX5, "isPace", "(I)Z"⟩
abbrev cX5_isGoal : ByteArray := prog_7_method_3_code
def yX5_isGoal : MethodName := ⟨RX5, "isGoal", "(I)Z"⟩
abbrev cX5_isTold : ByteArray := prog_7_method_4_code
def yX5_isTold : MethodName := ⟨RX5, "isTold", "(II)Z"⟩
abbrev cX5_tell : ByteArray := prog_7_method_5_code
def yX5_tell : MethodName := ⟨RX5, "tell", "(II)I"⟩
abbrev cX5_told : ByteArray := prog_7_method_6_code
def yX5_told : MethodName := ⟨RX5, "told", "(I)I"⟩
abbrev cX5_isFloor : ByteArray := prog_7_method_7_code
def yX5_isFloor : MethodName := ⟨RX5, "isFloor", "(III)Z"⟩
abbrev cX5_floorsAreFull : ByteArray := prog_7_method_8_code
def yX5_floorsAreFull : MethodName := ⟨RX5, "floorsAreFull", "()Z"⟩
abbrev cX5_hasFloor : ByteArray := prog_7_method_9_code
def yX5_hasFloor : MethodName := ⟨RX5, "hasFloor", "(I)Z"⟩
abbrev cX5_layFloor : ByteArray := prog_7_method_10_code
def yX5_layFloor : MethodName := ⟨RX5, "layFloor", "(III)I"⟩
abbrev cX5_gripOf : ByteArray := prog_7_method_11_code
def yX5_gripOf : MethodName := ⟨RX5, "gripOf", "(I)I"⟩
abbrev cX5_slopeX : ByteArray := prog_7_method_12_code
def yX5_slopeX : MethodName := ⟨RX5, "slopeX", "(I)I"⟩
abbrev cX5_slopeY : ByteArray := prog_7_method_13_code
def yX5_slopeY : MethodName := ⟨RX5, "slopeY", "(I)I"⟩
abbrev cX5_stiffness : ByteArray := prog_7_method_14_code
def yX5_stiffness : MethodName := ⟨RX5, "stiffness", "(I)J"⟩
abbrev cX5_shakeOf : ByteArray := prog_7_method_15_code
def yX5_shakeOf : MethodName := ⟨RX5, "shakeOf", "(II)I"⟩
abbrev cX5_mostLopsided : ByteArray := prog_7_method_16_code
def yX5_mostLopsided : MethodName := ⟨RX5, "mostLopsided", "(II)I"⟩
def RX6 : String := "MachineWalks$Shelves"
def TX6 : u_T := fun k => match k with
  | 0 => ("MachineWalks$Shelves", "holds", "[I", true)
  | 1 => ("MachineWalks$Shelves", "loads", "[I", true)
  | 2 => ("MachineWalks$Shelves", "sorts", "[I", true)
  | 3 => ("MachineWalks$Shelves", "lengths", "[I", true)
  | _ => ("MachineWalks$Shelves", "rows", "[[J", true)
def tyX6 : Nat → FieldType := fun k => match k with
  | 0 => .array .int
  | 1 => .array .int
  | 2 => .array .int
  | 3 => .array .int
  | _ => .array (.array .long)
abbrev wsX60 : List Cond := u_ws RX6 TX6 5
theorem nmX6 : ∀ a, a < 5 → ∀ b, b < 5 → a ≠ b → (TX6 a).2.1 ≠ (TX6 b).2.1 := by decide +kernel
theorem tyX6_ok : ∀ k, k < 5 → parseFieldDescriptor (TX6 k).2.2.1 = some (tyX6 k) := by decide +kernel
abbrev cX6_init : ByteArray := prog_8_method_1_code
def yX6_init : MethodName := ⟨RX6, "<init>", "()V"⟩
abbrev cX6_isShelf : ByteArray := prog_8_method_2_code
def yX6_isShelf : MethodName := ⟨RX6, "isShelf", "(I)Z"⟩
abbrev cX6_isSort : ByteArray := prog_8_method_3_code
def yX6_isSort : MethodName := ⟨RX6, "isSort", "(I)Z"⟩
abbrev cX6_isEmpty : ByteArray := prog_8_method_4_code
def yX6_isEmpty : MethodName := ⟨RX6, "isEmpty", "(I)Z"⟩
abbrev cX6_holdsRow : ByteArray := prog_8_method_5_code
def yX6_holdsRow : MethodName := ⟨RX6, "holdsRow", "(I)Z"⟩
abbrev cX6_holdsRowOf : ByteArray := prog_8_method_6_code
def yX6_holdsRowOf : MethodName := ⟨RX6, "holdsRowOf", "(II)Z"⟩
abbrev cX6_sortOf : ByteArray := prog_8_method_7_code
def yX6_sortOf : MethodName := ⟨RX6, "sortOf", "(I)I"⟩
abbrev cX6_loadOn : ByteArray := prog_8_method_8_code
def yX6_loadOn : MethodName := ⟨RX6, "loadOn", "(I)I"⟩
abbrev cX6_hold : ByteArray := prog_8_method_9_code
def yX6_hold : MethodName := ⟨RX6, "hold", "(II)V"⟩
abbrev cX6_holdRow : ByteArray := prog_8_method_10_code
def yX6_holdRow : MethodName := ⟨RX6, "holdRow", "(III)V"⟩
abbrev cX6_hasPlaces : ByteArray := prog_8_method_11_code
def yX6_hasPlaces : MethodName := ⟨RX6, "hasPlaces", "(IJI)Z"⟩
abbrev cX6_valueAt : ByteArray := prog_8_method_12_code
def yX6_valueAt : MethodName := ⟨RX6, "valueAt", "(II)J"⟩
abbrev cX6_change : ByteArray := prog_8_method_13_code
def yX6_change : MethodName := ⟨RX6, "change", "(IIJ)V"⟩
abbrev cX6_lowestBits : ByteArray := prog_8_method_14_code
def yX6_lowestBits : MethodName := ⟨RX6, "lowestBits", "(IJ)J"⟩
abbrev cX6_copy : ByteArray := prog_8_method_15_code
def yX6_copy : MethodName := ⟨RX6, "copy", "(IIIII)V"⟩
def RX7 : String := "MachineWalks$Tape"
def TX7 : u_T := fun k => match k with
  | 0 => ("MachineWalks$Tape", "bytes", "[I", true)
  | 1 => ("MachineWalks$Tape", "many", "I", false)
  | 2 => ("MachineWalks$Tape", "place", "I", false)
  | _ => ("MachineWalks$Tape", "law", "LMachineWalks$Law;", false)
def tyX7 : Nat → FieldType := fun k => match k with
  | 0 => .array .int
  | 1 => .int
  | 2 => .int
  | _ => .object "MachineWalks$Law"
abbrev wsX70 : List Cond := u_ws RX7 TX7 4
theorem nmX7 : ∀ a, a < 4 → ∀ b, b < 4 → a ≠ b → (TX7 a).2.1 ≠ (TX7 b).2.1 := by decide +kernel
theorem tyX7_ok : ∀ k, k < 4 → parseFieldDescriptor (TX7 k).2.2.1 = some (tyX7 k) := by decide +kernel
abbrev cX7_init : ByteArray := prog_9_method_1_code
def yX7_init : MethodName := ⟨RX7, "<init>", "()V"⟩
abbrev cX7_hasRoomFor : ByteArray := prog_9_method_2_code
def yX7_hasRoomFor : MethodName := ⟨RX7, "hasRoomFor", "(I)Z"⟩
abbrev cX7_take : ByteArray := prog_9_method_3_code
def yX7_take : MethodName := ⟨RX7, "take", "(II)I"⟩
abbrev cX7_empty : ByteArray := prog_9_method_4_code
def yX7_empty : MethodName := ⟨RX7, "empty", "()V"⟩
abbrev cX7_isReadInto : ByteArray := prog_9_method_5_code
def yX7_isReadInto : MethodName := ⟨RX7, "isReadInto", "(LMachineWalks$Law;)Z"⟩
abbrev cX7_faultPlace : ByteArray := prog_9_method_6_code
def yX7_faultPlace : MethodName := ⟨RX7, "faultPlace", "()I"⟩
abbrev cX7_lineIsRead : ByteArray := prog_9_method_7_code
def yX7_lineIsRead : MethodName := ⟨RX7, "lineIsRead", "()Z"⟩
abbrev cX7_isHere : ByteArray := prog_9_method_8_code
def yX7_isHere : MethodName := ⟨RX7, "isHere", "(C)Z"⟩
abbrev cX7_here : ByteArray := prog_9_method_9_code
def yX7_here : MethodName := ⟨RX7, "here", "()I"⟩
abbrev cX7_isRead : ByteArray := prog_9_method_10_code
def yX7_isRead : MethodName := ⟨RX7, "isRead", "(II)Z"⟩
abbrev cX7_binds : ByteArray := prog_9_method_11_code
def yX7_binds : MethodName := ⟨RX7, "binds", "(II)Z"⟩
abbrev cX7_operandIsRead : ByteArray := prog_9_method_12_code
def yX7_operandIsRead : MethodName := ⟨RX7, "operandIsRead", "(I)Z"⟩
abbrev cX7_bracketIsRead : ByteArray := prog_9_method_13_code
def yX7_bracketIsRead : MethodName := ⟨RX7, "bracketIsRead", "(I)Z"⟩
abbrev cX7_signedIsRead : ByteArray := prog_9_method_14_code
def yX7_signedIsRead : MethodName := ⟨RX7, "signedIsRead", "(II)Z"⟩
abbrev cX7_isDigit : ByteArray := prog_9_method_15_code
def yX7_isDigit : MethodName := ⟨RX7, "isDigit", "(I)Z"⟩
abbrev cX7_numberIsRead : ByteArray := prog_9_method_16_code
def yX7_numberIsRead : MethodName := ⟨RX7, "numberIsRead", "()Z"⟩
def RX8 : String := "MachineWalks$Thought"
def TX8 : u_T := fun k => match k with
  | 0 => ("MachineWalks$Thought", "load", "LMachineWalks$Drum;", true)
  | 1 => ("MachineWalks$Thought", "machine", "LMachineWalks$Machine;", true)
  | 2 => ("MachineWalks$Thought", "laws", "LMachineWalks$Laws;", true)
  | 3 => ("MachineWalks$Thought", "drum", "LMachineWalks$Drum;", true)
  | 4 => ("MachineWalks$Thought", "walk", "LMachineWalks$Walk;", true)
  | 5 => ("MachineWalks$Thought", "times", "I", false)
  | 6 => ("MachineWalks$Thought", "done", "I", false)
  | 7 => ("MachineWalks$Thought", "left", "I", false)
  | 8 => ("MachineWalks$Thought", "walked", "I", false)
  | _ => ("MachineWalks$Thought", "stopped", "I", false)
def tyX8 : Nat → FieldType := fun k => match k with
  | 0 => .object "MachineWalks$Drum"
  | 1 => .object "MachineWalks$Machine"
  | 2 => .object "MachineWalks$Laws"
  | 3 => .object "MachineWalks$Drum"
  | 4 => .object "MachineWalks$Walk"
  | 5 => .int
  | 6 => .int
  | 7 => .int
  | 8 => .int
  | _ => .int
abbrev wsX80 : List Cond := u_ws RX8 TX8 10
theorem nmX8 : ∀ a, a < 10 → ∀ b, b < 10 → a ≠ b → (TX8 a).2.1 ≠ (TX8 b).2.1 := by decide +kernel
theorem tyX8_ok : ∀ k, k < 10 → parseFieldDescriptor (TX8 k).2.2.1 = some (tyX8 k) := by decide +kernel
abbrev cX8_init : ByteArray := prog_10_method_1_code
def yX8_init : MethodName := ⟨RX8, "<init>", "(LMachineWalks$Drum;LMachineWalks$Machine;LMachineWalks$Laws;)V"⟩
abbrev cX8_paceToFear : ByteArray := prog_10_method_2_code
def yX8_paceToFear : MethodName := ⟨RX8, "paceToFear", "()I"⟩
abbrev cX8_bestCounter : ByteArray := prog_10_method_3_code
def yX8_bestCounter : MethodName := ⟨RX8, "bestCounter", "(I)I"⟩
abbrev cX8_spreadBest : ByteArray := prog_10_method_4_code
def yX8_spreadBest : MethodName := ⟨RX8, "spreadBest", "(III)I"⟩
abbrev cX8_meanOf : ByteArray := prog_10_method_5_code
def yX8_meanOf : MethodName := ⟨RX8, "meanOf", "(II)I"⟩
abbrev cX8_walkOften : ByteArray := prog_10_method_6_code
def yX8_walkOften : MethodName := ⟨RX8, "walkOften", "(IIIII)V"⟩
abbrev cX8_tallied : ByteArray := prog_10_method_7_code
def yX8_tallied : MethodName := ⟨RX8, "tallied", "(I)I"⟩
abbrev cX8_bestRule : ByteArray := prog_10_method_8_code
def yX8_bestRule : MethodName := ⟨RX8, "bestRule", "(III)I"⟩
abbrev cX8_isBetter : ByteArray := prog_10_method_9_code
def yX8_isBetter : MethodName := ⟨RX8, "isBetter", "(III)Z"⟩
abbrev cX8_isCalm : ByteArray := prog_10_method_10_code
def yX8_isCalm : MethodName := ⟨RX8, "isCalm", "(III)Z"⟩
abbrev cX8_ticksTillDry : ByteArray := prog_10_method_11_code
def yX8_ticksTillDry : MethodName := ⟨RX8, "ticksTillDry", "(II)I"⟩
def RX9 : String := "MachineWalks$Walk"
def TX9 : u_T := fun k => match k with
  | 0 => ("MachineWalks$Walk", "machine", "LMachineWalks$Machine;", true)
  | 1 => ("MachineWalks$Walk", "laws", "LMachineWalks$Laws;", true)
  | 2 => ("MachineWalks$Walk", "drum", "LMachineWalks$Drum;", true)
  | 3 => ("MachineWalks$Walk", "kept", "[[I", true)
  | 4 => ("MachineWalks$Walk", "z", "I", false)
  | 5 => ("MachineWalks$Walk", "x", "I", false)
  | 6 => ("MachineWalks$Walk", "y", "I", false)
  | 7 => ("MachineWalks$Walk", "atFirst", "I", false)
  | 8 => ("MachineWalks$Walk", "calm", "I", false)
  | 9 => ("MachineWalks$Walk", "anew", "I", false)
  | 10 => ("MachineWalks$Walk", "knocks", "I", false)
  | 11 => ("MachineWalks$Walk", "hops", "I", false)
  | 12 => ("MachineWalks$Walk", "ticks", "I", false)
  | 13 => ("MachineWalks$Walk", "pace", "I", false)
  | 14 => ("MachineWalks$Walk", "done", "I", false)
  | 15 => ("MachineWalks$Walk", "far", "I", false)
  | _ => ("MachineWalks$Walk", "stopped", "Z", false)
def tyX9 : Nat → FieldType := fun k => match k with
  | 0 => .object "MachineWalks$Machine"
  | 1 => .object "MachineWalks$Laws"
  | 2 => .object "MachineWalks$Drum"
  | 3 => .array (.array .int)
  | 4 => .int
  | 5 => .int
  | 6 => .int
  | 7 => .int
  | 8 => .int
  | 9 => .int
  | 10 => .int
  | 11 => .int
  | 12 => .int
  | 13 => .int
  | 14 => .int
  | 15 => .int
  | _ => .boolean
abbrev wsX90 : List Cond := u_ws RX9 TX9 17
theorem nmX9 : ∀ a, a < 17 → ∀ b, b < 17 → a ≠ b → (TX9 a).2.1 ≠ (TX9 b).2.1 := by decide +kernel
theorem tyX9_ok : ∀ k, k < 17 → parseFieldDescriptor (TX9 k).2.2.1 = some (tyX9 k) := by decide +kernel
abbrev cX9_init : ByteArray := prog_11_method_1_code
def yX9_init : MethodName := ⟨RX9, "<init>", "(LMachineWalks$Machine;LMachineWalks$Laws;)V"⟩
abbrev cX9_through : ByteArray := prog_11_method_2_code
def yX9_through : MethodName := ⟨RX9, "through", "(LMachineWalks$Drum;IIIII)V"⟩
abbrev cX9_begin : ByteArray := prog_11_method_3_code
def yX9_begin : MethodName := ⟨RX9, "begin", "(LMachineWalks$Drum;I)V"⟩
abbrev cX9_seenAt : ByteArray := prog_11_method_4_code
def yX9_seenAt : MethodName := ⟨RX9, "seenAt", "(I)I"⟩
abbrev cX9_shakeAndHop : ByteArray := prog_11_method_5_code
def yX9_shakeAndHop : MethodName := ⟨RX9, "shakeAndHop", "(III)V"⟩
abbrev cX9_within : ByteArray := prog_11_method_6_code
def yX9_within : MethodName := ⟨RX9, "within", "(I)I"⟩
abbrev cX9_keptOf : ByteArray := prog_11_method_7_code
def yX9_keptOf : MethodName := ⟨RX9, "keptOf", "(II)I"⟩
abbrev cX9_counted : ByteArray := prog_11_method_8_code
def yX9_counted : MethodName := ⟨RX9, "counted", "(I)I"⟩
abbrev cX9_left : ByteArray := prog_11_method_9_code
def yX9_left : MethodName := ⟨RX9, "left", "()I"⟩
abbrev cX9_walked : ByteArray := prog_11_method_10_code
def yX9_walked : MethodName := ⟨RX9, "walked", "()I"⟩
def RX10 : String := "MachineWalks"
def TX10 : u_T := fun k => match k with
  | 0 => ("MachineWalks", "drum", "LMachineWalks$Drum;", true)
  | 1 => ("MachineWalks", "changes", "LMachineWalks$Changes;", true)
  | 2 => ("MachineWalks", "machine", "LMachineWalks$Machine;", true)
  | 3 => ("MachineWalks", "laws", "LMachineWalks$Laws;", true)
  | 4 => ("MachineWalks", "latest", "LMachineWalks$Walk;", true)
  | 5 => ("MachineWalks", "thought", "LMachineWalks$Thought;", true)
  | 6 => ("MachineWalks", "acts", "LMachineWalks$Acts;", true)
  | _ => ("MachineWalks", "shelves", "LMachineWalks$Shelves;", true)
def tyX10 : Nat → FieldType := fun k => match k with
  | 0 => .object "MachineWalks$Drum"
  | 1 => .object "MachineWalks$Changes"
  | 2 => .object "MachineWalks$Machine"
  | 3 => .object "MachineWalks$Laws"
  | 4 => .object "MachineWalks$Walk"
  | 5 => .object "MachineWalks$Thought"
  | 6 => .object "MachineWalks$Acts"
  | _ => .object "MachineWalks$Shelves"
abbrev wsX100 : List Cond := u_ws RX10 TX10 8
theorem nmX10 : ∀ a, a < 8 → ∀ b, b < 8 → a ≠ b → (TX10 a).2.1 ≠ (TX10 b).2.1 := by decide +kernel
theorem tyX10_ok : ∀ k, k < 8 → parseFieldDescriptor (TX10 k).2.2.1 = some (tyX10 k) := by decide +kernel
abbrev cX10_init : ByteArray := prog_1_method_1_code
def yX10_init : MethodName := ⟨RX10, "<init>", "()V"⟩
abbrev cX10_lump : ByteArray := prog_1_method_2_code
def yX10_lump : MethodName := ⟨RX10, "lump", "(II)I"⟩
abbrev cX10_lumps : ByteArray := prog_1_method_3_code
def yX10_lumps : MethodName := ⟨RX10, "lumps", "(III)I"⟩
abbrev cX10_lumpCameFromRow : ByteArray := prog_1_method_4_code
def yX10_lumpCameFromRow : MethodName := ⟨RX10, "lumpCameFromRow", "(IJ)Z"⟩
abbrev cX10_mend : ByteArray := prog_1_method_5_code
def yX10_mend : MethodName := ⟨RX10, "mend", "(III)I"⟩
abbrev cX10_of : ByteArray := prog_1_method_6_code
def yX10_of : MethodName := ⟨RX10, "of", "(II)I"⟩
abbrev cX10_counter : ByteArray := prog_1_method_7_code
def yX10_counter : MethodName := ⟨RX10, "counter", "(I)I"⟩
abbrev cX10_set : ByteArray := prog_1_method_8_code
def yX10_set : MethodName := ⟨RX10, "set", "(II)I"⟩
abbrev cX10_floor : ByteArray := prog_1_method_9_code
def yX10_floor : MethodName := ⟨RX10, "floor", "(II)I"⟩
abbrev cX10_load : ByteArray := prog_1_method_10_code
def yX10_load : MethodName := ⟨RX10, "load", "(I)I"⟩
abbrev cX10_shake : ByteArray := prog_1_method_11_code
def yX10_shake : MethodName := ⟨RX10, "shake", "(I)I"⟩
abbrev cX10_feed : ByteArray := prog_1_method_12_code
def yX10_feed : MethodName := ⟨RX10, "feed", "(II)I"⟩
abbrev cX10_law : ByteArray := prog_1_method_13_code
def yX10_law : MethodName := ⟨RX10, "law", "()I"⟩
abbrev cX10_water : ByteArray := prog_1_method_14_code
def yX10_water : MethodName := ⟨RX10, "water", "(I)I"⟩
abbrev cX10_run : ByteArray := prog_1_method_15_code
def yX10_run : MethodName := ⟨RX10, "run", "(IIII)I"⟩
abbrev cX10_isRuleAndFloor : ByteArray := prog_1_method_16_code
def yX10_isRuleAndFloor : MethodName := ⟨RX10, "isRuleAndFloor", "(I)Z"⟩
abbrev cX10_isGoalAndCount : ByteArray := prog_1_method_17_code
def yX10_isGoalAndCount : MethodName := ⟨RX10, "isGoalAndCount", "(II)Z"⟩
abbrev cX10_led : ByteArray := prog_1_method_18_code
def yX10_led : MethodName := ⟨RX10, "led", "(II)I"⟩
abbrev cX10_did : ByteArray := prog_1_method_19_code
def yX10_did : MethodName := ⟨RX10, "did", "(I)I"⟩
abbrev cX10_fear : ByteArray := prog_1_method_20_code
def yX10_fear : MethodName := ⟨RX10, "fear", "(I)I"⟩
abbrev cX10_may : ByteArray := prog_1_method_21_code
def yX10_may : MethodName := ⟨RX10, "may", "(II)I"⟩
abbrev cX10_weight : ByteArray := prog_1_method_22_code
def yX10_weight : MethodName := ⟨RX10, "weight", "(I)I"⟩
abbrev cX10_spread : ByteArray := prog_1_method_23_code
def yX10_spread : MethodName := ⟨RX10, "spread", "(III)I"⟩
abbrev cX10_loads : ByteArray := prog_1_method_24_code
def yX10_loads : MethodName := ⟨RX10, "loads", "(IIII)I"⟩
abbrev cX10_best : ByteArray := prog_1_method_25_code
def yX10_best : MethodName := ⟨RX10, "best", "(III)I"⟩
abbrev cX10_never : ByteArray := prog_1_method_26_code
def yX10_never : MethodName := ⟨RX10, "never", "(III)I"⟩
abbrev cX10_beside : ByteArray := prog_1_method_27_code
def yX10_beside : MethodName := ⟨RX10, "beside", "(II)I"⟩
abbrev cX10_undo : ByteArray := prog_1_method_28_code
def yX10_undo : MethodName := ⟨RX10, "undo", "()I"⟩
abbrev cX10_redo : ByteArray := prog_1_method_29_code
def yX10_redo : MethodName := ⟨RX10, "redo", "()I"⟩
abbrev cX10_body : ByteArray := prog_1_method_30_code
def yX10_body : MethodName := ⟨RX10, "body", "(I)I"⟩
abbrev cX10_act : ByteArray := prog_1_method_31_code
def yX10_act : MethodName := ⟨RX10, "act", "(III)I"⟩
abbrev cX10_trace : ByteArray := prog_1_method_32_code
def yX10_trace : MethodName := ⟨RX10, "trace", "(I)I"⟩
abbrev cX10_keep : ByteArray := prog_1_method_33_code
def yX10_keep : MethodName := ⟨RX10, "keep", "(II)I"⟩
abbrev cX10_row : ByteArray := prog_1_method_34_code
def yX10_row : MethodName := ⟨RX10, "row", "(III)I"⟩
abbrev cX10_put : ByteArray := prog_1_method_35_code
def yX10_put : MethodName := ⟨RX10, "put", "(IIJ)I"⟩
abbrev cX10_element : ByteArray := prog_1_method_36_code
def yX10_element : MethodName := ⟨RX10, "element", "(II)J"⟩
abbrev cX10_elementRefusal : ByteArray := prog_1_method_37_code
def yX10_elementRefusal : MethodName := ⟨RX10, "elementRefusal", "(II)I"⟩
abbrev cX10_shift : ByteArray := prog_1_method_38_code
def yX10_shift : MethodName := ⟨RX10, "shift", "(IIIII)I"⟩
abbrev cX10_taken : ByteArray := prog_1_method_39_code
def yX10_taken : MethodName := ⟨RX10, "taken", "(II)I"⟩
abbrev cX10_count : ByteArray := prog_1_method_40_code
def yX10_count : MethodName := ⟨RX10, "count", "(I)I"⟩
def RX11 : String := "MachineWalksModel"
def TX11 : u_T := fun k => match k with
  | 0 => ("MachineWalksModel", "may", "[I", true)
  | 1 => ("MachineWalksModel", "changeAt", "[I", true)
  | 2 => ("MachineWalksModel", "changeWas", "[I", true)
  | 3 => ("MachineWalksModel", "changeIs", "[I", true)
  | 4 => ("MachineWalksModel", "keptMany", "I", false)
  | 5 => ("MachineWalksModel", "done", "I", false)
  | 6 => ("MachineWalksModel", "lumps", "I", false)
  | 7 => ("MachineWalksModel", "holds", "[I", true)
  | 8 => ("MachineWalksModel", "numbers", "[I", true)
  | 9 => ("MachineWalksModel", "floors", "I", false)
  | 10 => ("MachineWalksModel", "grip", "[I", true)
  | 11 => ("MachineWalksModel", "slopeX", "[I", true)
  | 12 => ("MachineWalksModel", "slopeY", "[I", true)
  | 13 => ("MachineWalksModel", "tape", "[I", true)
  | 14 => ("MachineWalksModel", "tapeMany", "I", false)
  | 15 => ("MachineWalksModel", "laws", "I", false)
  | 16 => ("MachineWalksModel", "waterLaw", "I", false)
  | 17 => ("MachineWalksModel", "text", "[I", true)
  | 18 => ("MachineWalksModel", "textMany", "[I", true)
  | 19 => ("MachineWalksModel", "base", "I", false)
  | 20 => ("MachineWalksModel", "at", "I", false)
  | 21 => ("MachineWalksModel", "ends", "I", false)
  | 22 => ("MachineWalksModel", "fault", "I", false)
  | 23 => ("MachineWalksModel", "opened", "I", false)
  | 24 => ("MachineWalksModel", "names", "[I", true)
  | 25 => ("MachineWalksModel", "z", "I", false)
  | 26 => ("MachineWalksModel", "wasLoad", "[I", true)
  | 27 => ("MachineWalksModel", "begunLop", "[I", true)
  | 28 => ("MachineWalksModel", "tickPace", "[I", true)
  | 29 => ("MachineWalksModel", "tickLop", "[I", true)
  | 30 => ("MachineWalksModel", "tickShake", "[I", true)
  | 31 => ("MachineWalksModel", "tickX", "[I", true)
  | 32 => ("MachineWalksModel", "tickY", "[I", true)
  | 33 => ("MachineWalksModel", "knocks", "I", false)
  | 34 => ("MachineWalksModel", "hops", "I", false)
  | 35 => ("MachineWalksModel", "anew", "I", false)
  | 36 => ("MachineWalksModel", "steady", "I", false)
  | 37 => ("MachineWalksModel", "doneTick", "I", false)
  | 38 => ("MachineWalksModel", "farWalk", "I", false)
  | 39 => ("MachineWalksModel", "spotX", "I", false)
  | 40 => ("MachineWalksModel", "spotY", "I", false)
  | 41 => ("MachineWalksModel", "ranTicks", "I", false)
  | 42 => ("MachineWalksModel", "ranKnocks", "I", false)
  | 43 => ("MachineWalksModel", "ranHops", "I", false)
  | 44 => ("MachineWalksModel", "ranAnew", "I", false)
  | 45 => ("MachineWalksModel", "ranDone", "I", false)
  | 46 => ("MachineWalksModel", "ranLeft", "I", false)
  | 47 => ("MachineWalksModel", "ranFar", "I", false)
  | 48 => ("MachineWalksModel", "ranWall", "I", false)
  | 49 => ("MachineWalksModel", "loadsDone", "I", false)
  | 50 => ("MachineWalksModel", "loadsLeft", "I", false)
  | 51 => ("MachineWalksModel", "loadsWalked", "I", false)
  | 52 => ("MachineWalksModel", "loadsStopped", "I", false)
  | 53 => ("MachineWalksModel", "bodies", "I", false)
  | 54 => ("MachineWalksModel", "bodyKind", "[I", true)
  | 55 => ("MachineWalksModel", "trace", "[I", true)
  | 56 => ("MachineWalksModel", "ran", "I", false)
  | 57 => ("MachineWalksModel", "ownKind", "I", false)
  | 58 => ("MachineWalksModel", "ownNumber", "I", false)
  | 59 => ("MachineWalksModel", "shelf", "[I", true)
  | 60 => ("MachineWalksModel", "many", "[I", true)
  | 61 => ("MachineWalksModel", "items", "[J", true)
  | _ => ("MachineWalksModel", "carried", "[J", true)
def tyX11 : Nat → FieldType := fun k => match k with
  | 0 => .array .int
  | 1 => .array .int
  | 2 => .array .int
  | 3 => .array .int
  | 4 => .int
  | 5 => .int
  | 6 => .int
  | 7 => .array .int
  | 8 => .array .int
  | 9 => .int
  | 10 => .array .int
  | 11 => .array .int
  | 12 => .array .int
  | 13 => .array .int
  | 14 => .int
  | 15 => .int
  | 16 => .int
  | 17 => .array .int
  | 18 => .array .int
  | 19 => .int
  | 20 => .int
  | 21 => .int
  | 22 => .int
  | 23 => .int
  | 24 => .array .int
  | 25 => .int
  | 26 => .array .int
  | 27 => .array .int
  | 28 => .array .int
  | 29 => .array .int
  | 30 => .array .int
  | 31 => .array .int
  | 32 => .array .int
  | 33 => .int
  | 34 => .int
  | 35 => .int
  | 36 => .int
  | 37 => .int
  | 38 => .int
  | 39 => .int
  | 40 => .int
  | 41 => .int
  | 42 => .int
  | 43 => .int
  | 44 => .int
  | 45 => .int
  | 46 => .int
  | 47 => .int
  | 48 => .int
  | 49 => .int
  | 50 => .int
  | 51 => .int
  | 52 => .int
  | 53 => .int
  | 54 => .array .int
  | 55 => .array .int
  | 56 => .int
  | 57 => .int
  | 58 => .int
  | 59 => .array .int
  | 60 => .array .int
  | 61 => .array .long
  | _ => .array .long
abbrev wsX110 : List Cond := u_ws RX11 TX11 63
theorem nmX11 : ∀ a, a < 63 → ∀ b, b < 63 → a ≠ b → (TX11 a).2.1 ≠ (TX11 b).2.1 := by decide +kernel
theorem tyX11_ok : ∀ k, k < 63 → parseFieldDescriptor (TX11 k).2.2.1 = some (tyX11 k) := by decide +kernel
abbrev cX11_within : ByteArray := prog_13_method_1_code
def yX11_within : MethodName := ⟨RX11, "within", "(JJJ)Z"⟩
abbrev cX11_size : ByteArray := prog_13_method_2_code
def yX11_size : MethodName := ⟨RX11, "size", "(I)I"⟩
abbrev cX11_init : ByteArray := prog_13_method_3_code
def yX11_init : MethodName := ⟨RX11, "<init>", "()V"⟩
abbrev cX11_becomes : ByteArray := prog_13_method_4_code
def yX11_becomes : MethodName := ⟨RX11, "becomes", "(II)I"⟩
abbrev cX11_undo : ByteArray := prog_13_method_5_code
def yX11_undo : MethodName := ⟨RX11, "undo", "()I"⟩
abbrev cX11_redo : ByteArray := prog_13_method_6_code
def yX11_redo : MethodName := ⟨RX11, "redo", "()I"⟩
abbrev cX11_cosine : ByteArray := prog_13_method_7_code
def yX11_cosine : MethodName := ⟨RX11, "cosine", "(I)I"⟩
abbrev cX11_sine : ByteArray := prog_13_method_8_code
def yX11_sine : MethodName := ⟨RX11, "sine", "(I)I"⟩
abbrev cX11_isLump : ByteArray := prog_13_method_9_code
def yX11_isLump : MethodName := ⟨RX11, "isLump", "(I)Z"⟩
abbrev cX11_isOne : ByteArray := prog_13_method_10_code
def yX11_isOne : MethodName := ⟨RX11, "isOne", "(JJJJ)Z"⟩
abbrev cX11_adds : ByteArray := prog_13_method_11_code
def yX11_adds : MethodName := ⟨RX11, "adds", "(IIII)V"⟩
abbrev cX11_lump : ByteArray := prog_13_method_12_code
def yX11_lump : MethodName := ⟨RX11, "lump", "(II)I"⟩
abbrev cX11_lumps : ByteArray := prog_13_method_13_code
def yX11_lumps : MethodName := ⟨RX11, "lumps", "(III)I"⟩
abbrev cX11_mend : ByteArray := prog_13_method_14_code
def yX11_mend : MethodName := ⟨RX11, "mend", "(III)I"⟩
abbrev cX11_of : ByteArray := prog_13_method_15_code
def yX11_of : MethodName := ⟨RX11, "of", "(II)I"⟩
abbrev cX11_counter : ByteArray := prog_13_method_16_code
def yX11_counter : MethodName := ⟨RX11, "counter", "(I)I"⟩
abbrev cX11_set : ByteArray := prog_13_method_17_code
def yX11_set : MethodName := ⟨RX11, "set", "(II)I"⟩
abbrev cX11_floor : ByteArray := prog_13_method_18_code
def yX11_floor : MethodName := ⟨RX11, "floor", "(II)I"⟩
abbrev cX11_sumX : ByteArray := prog_13_method_19_code
def yX11_sumX : MethodName := ⟨RX11, "sumX", "()I"⟩
abbrev cX11_sumY : ByteArray := prog_13_method_20_code
def yX11_sumY : MethodName := ⟨RX11, "sumY", "()I"⟩
abbrev cX11_lopsided : ByteArray := prog_13_method_21_code
def yX11_lopsided : MethodName := ⟨RX11, "lopsided", "()I"⟩
abbrev cX11_side : ByteArray := prog_13_method_22_code
def yX11_side : MethodName := ⟨RX11, "side", "()I"⟩
abbrev cX11_allWet : ByteArray := prog_13_method_23_code
def yX11_allWet : MethodName := ⟨RX11, "allWet", "()I"⟩
abbrev cX11_load : ByteArray := prog_13_method_24_code
def yX11_load : MethodName := ⟨RX11, "load", "(I)I"⟩
abbrev cX11_shakeOf : ByteArray := prog_13_method_25_code
def yX11_shakeOf : MethodName := ⟨RX11, "shakeOf", "(II)I"⟩
abbrev cX11_shake : ByteArray := prog_13_method_26_code
def yX11_shake : MethodName := ⟨RX11, "shake", "(I)I"⟩
abbrev cX11_feed : ByteArray := prog_13_method_27_code
def yX11_feed : MethodName := ⟨RX11, "feed", "(II)I"⟩
abbrev cX11_byteAt : ByteArray := prog_13_method_28_code
def yX11_byteAt : MethodName := ⟨RX11, "byteAt", "()I"⟩
abbrev cX11_wrong : ByteArray := prog_13_method_29_code
def yX11_wrong : MethodName := ⟨RX11, "wrong", "()I"⟩
abbrev cX11_takes : ByteArray := prog_13_method_30_code
def yX11_takes : MethodName := ⟨RX11, "takes", "(I)Z"⟩
abbrev cX11_either : ByteArray := prog_13_method_31_code
def yX11_either : MethodName := ⟨RX11, "either", "()I"⟩
abbrev cX11_both : ByteArray := prog_13_method_32_code
def yX11_both : MethodName := ⟨RX11, "both", "()I"⟩
abbrev cX11_compared : ByteArray := prog_13_method_33_code
def yX11_compared : MethodName := ⟨RX11, "compared", "()I"⟩
abbrev cX11_sums : ByteArray := prog_13_method_34_code
def yX11_sums : MethodName := ⟨RX11, "sums", "()I"⟩
abbrev cX11_product : ByteArray := prog_13_method_35_code
def yX11_product : MethodName := ⟨RX11, "product", "()I"⟩
abbrev cX11_nameOf : ByteArray := prog_13_method_36_code
def yX11_nameOf : MethodName := ⟨RX11, "nameOf", "(I)I"⟩
abbrev cX11_one : ByteArray := prog_13_method_37_code
def yX11_one : MethodName := ⟨RX11, "one", "()I"⟩
abbrev cX11_workOut : ByteArray := prog_13_method_38_code
def yX11_workOut : MethodName := ⟨RX11, "workOut", "(II)I"⟩
abbrev cX11_law : ByteArray := prog_13_method_39_code
def yX11_law : MethodName := ⟨RX11, "law", "()I"⟩
abbrev cX11_isLaw : ByteArray := prog_13_method_40_code
def yX11_isLaw : MethodName := ⟨RX11, "isLaw", "(I)Z"⟩
abbrev cX11_water : ByteArray := prog_13_method_41_code
def yX11_water : MethodName := ⟨RX11, "water", "(I)I"⟩
abbrev cX11_clearNames : ByteArray := prog_13_method_42_code
def yX11_clearNames : MethodName := ⟨RX11, "clearNames", "()V"⟩
abbrev cX11_ruled : ByteArray := prog_13_method_43_code
def yX11_ruled : MethodName := ⟨RX11, "ruled", "(IIIIIII)I"⟩
abbrev cX11_waterLeaves : ByteArray := prog_13_method_44_code
def yX11_waterLeaves : MethodName := ⟨RX11, "waterLeaves", "(IIII)V"⟩
abbrev cX11_drawn : ByteArray := prog_13_method_45_code
def yX11_drawn : MethodName := ⟨RX11, "drawn", "(I)I"⟩
abbrev cX11_tumbles : ByteArray := prog_13_method_46_code
def yX11_tumbles : MethodName := ⟨RX11, "tumbles", "()V"⟩
abbrev cX11_keepsLoad : ByteArray := prog_13_method_47_code
def yX11_keepsLoad : MethodName := ⟨RX11, "keepsLoad", "()V"⟩
abbrev cX11_laysBack : ByteArray := prog_13_method_48_code
def yX11_laysBack : MethodName := ⟨RX11, "laysBack", "()V"⟩
abbrev cX11_heldSpot : ByteArray := prog_13_method_49_code
def yX11_heldSpot : MethodName := ⟨RX11, "heldSpot", "(I)I"⟩
abbrev cX11_seenAt : ByteArray := prog_13_method_50_code
def yX11_seenAt : MethodName := ⟨RX11, "seenAt", "(I)I"⟩
abbrev cX11_hopsOn : ByteArray := prog_13_method_51_code
def yX11_hopsOn : MethodName := ⟨RX11, "hopsOn", "(II)V"⟩
abbrev cX11_oneTick : ByteArray := prog_13_method_52_code
def yX11_oneTick : MethodName := ⟨RX11, "oneTick", "(IIIIIZ)I"⟩
abbrev cX11_goes : ByteArray := prog_13_method_53_code
def yX11_goes : MethodName := ⟨RX11, "goes", "(IIIIIZ)V"⟩
abbrev cX11_isRf : ByteArray := prog_13_method_54_code
def yX11_isRf : MethodName := ⟨RX11, "isRf", "(I)Z"⟩
abbrev cX11_isGoal : ByteArray := prog_13_method_55_code
def yX11_isGoal : MethodName := ⟨RX11, "isGoal", "(I)Z"⟩
abbrev cX11_run : ByteArray := prog_13_method_56_code
def yX11_run : MethodName := ⟨RX11, "run", "(IIII)I"⟩
abbrev cX11_led : ByteArray := prog_13_method_57_code
def yX11_led : MethodName := ⟨RX11, "led", "(II)I"⟩
abbrev cX11_did : ByteArray := prog_13_method_58_code
def yX11_did : MethodName := ⟨RX11, "did", "(I)I"⟩
abbrev cX11_fear : ByteArray := prog_13_method_59_code
def yX11_fear : MethodName := ⟨RX11, "fear", "(I)I"⟩
abbrev cX11_may : ByteArray := prog_13_method_60_code
def yX11_may : MethodName := ⟨RX11, "may", "(II)I"⟩
abbrev cX11_weight : ByteArray := prog_13_method_61_code
def yX11_weight : MethodName := ⟨RX11, "weight", "(I)I"⟩
abbrev cX11_spread : ByteArray := prog_13_method_62_code
def yX11_spread : MethodName := ⟨RX11, "spread", "(III)I"⟩
abbrev cX11_findLoads : ByteArray := prog_13_method_63_code
def yX11_findLoads : MethodName := ⟨RX11, "findLoads", "(IIIII)V"⟩
abbrev cX11_loads : ByteArray := prog_13_method_64_code
def yX11_loads : MethodName := ⟨RX11, "loads", "(IIII)I"⟩
abbrev cX11_best : ByteArray := prog_13_method_65_code
def yX11_best : MethodName := ⟨RX11, "best", "(III)I"⟩
abbrev cX11_never : ByteArray := prog_13_method_66_code
def yX11_never : MethodName := ⟨RX11, "never", "(III)I"⟩
abbrev cX11_beside : ByteArray := prog_13_method_67_code
def yX11_beside : MethodName := ⟨RX11, "beside", "(II)I"⟩
abbrev cX11_isBody : ByteArray := prog_13_method_68_code
def yX11_isBody : MethodName := ⟨RX11, "isBody", "(I)Z"⟩
abbrev cX11_kindOf : ByteArray := prog_13_method_69_code
def yX11_kindOf : MethodName := ⟨RX11, "kindOf", "(I)I"⟩
abbrev cX11_body : ByteArray := prog_13_method_70_code
def yX11_body : MethodName := ⟨RX11, "body", "(I)I"⟩
abbrev cX11_above : ByteArray := prog_13_method_71_code
def yX11_above : MethodName := ⟨RX11, "above", "(I)I"⟩
abbrev cX11_begins : ByteArray := prog_13_method_72_code
def yX11_begins : MethodName := ⟨RX11, "begins", "(I)V"⟩
abbrev cX11_clingsAs : ByteArray := prog_13_method_73_code
def yX11_clingsAs : MethodName := ⟨RX11, "clingsAs", "(II)I"⟩
abbrev cX11_shakesAs : ByteArray := prog_13_method_74_code
def yX11_shakesAs : MethodName := ⟨RX11, "shakesAs", "(II)I"⟩
abbrev cX11_hopsAs : ByteArray := prog_13_method_75_code
def yX11_hopsAs : MethodName := ⟨RX11, "hopsAs", "(II)I"⟩
abbrev cX11_tellsAs : ByteArray := prog_13_method_76_code
def yX11_tellsAs : MethodName := ⟨RX11, "tellsAs", "(II)I"⟩
abbrev cX11_act : ByteArray := prog_13_method_77_code
def yX11_act : MethodName := ⟨RX11, "act", "(III)I"⟩
abbrev cX11_trace : ByteArray := prog_13_method_78_code
def yX11_trace : MethodName := ⟨RX11, "trace", "(I)I"⟩
abbrev cX11_isShelf : ByteArray := prog_13_method_79_code
def yX11_isShelf : MethodName := ⟨RX11, "isShelf", "(I)Z"⟩
abbrev cX11_keep : ByteArray := prog_13_method_80_code
def yX11_keep : MethodName := ⟨RX11, "keep", "(II)I"⟩
abbrev cX11_row : ByteArray := prog_13_method_81_code
def yX11_row : MethodName := ⟨RX11, "row", "(III)I"⟩
abbrev cX11_refusal : ByteArray := prog_13_method_82_code
def yX11_refusal : MethodName := ⟨RX11, "refusal", "(II)I"⟩
abbrev cX11_asSort : ByteArray := prog_13_method_83_code
def yX11_asSort : MethodName := ⟨RX11, "asSort", "(IJ)J"⟩
abbrev cX11_put : ByteArray := prog_13_method_84_code
def yX11_put : MethodName := ⟨RX11, "put", "(IIJ)I"⟩
abbrev cX11_element : ByteArray := prog_13_method_85_code
def yX11_element : MethodName := ⟨RX11, "element", "(II)J"⟩
abbrev cX11_shift : ByteArray := prog_13_method_86_code
def yX11_shift : MethodName := ⟨RX11, "shift", "(IIIII)I"⟩
abbrev cX11_taken : ByteArray := prog_13_method_87_code
def yX11_taken : MethodName := ⟨RX11, "taken", "(II)I"⟩
abbrev cX11_count : ByteArray := prog_13_method_88_code
def yX11_count : MethodName := ⟨RX11, "count", "(I)I"⟩
def RL : String := "MachineWalksLaw"
abbrev cL_law : ByteArray := code
def yL_law : MethodName := ⟨RL, "law", "([I)Z"⟩
abbrev vwCl : List vw_C := [(RX0, TX0, 6), (RX1, TX1, 7), (RX2, TX2, 6), (RX3, TX3, 4), (RX4, TX4, 5), (RX5, TX5, 9), (RX6, TX6, 5), (RX7, TX7, 4), (RX8, TX8, 10), (RX9, TX9, 17), (RX10, TX10, 8), (RX11, TX11, 63)]
end
section
/-! one flat memory for a world whose shape stays: rows over it -/
abbrev mw_M : Type := (Nat → Nat → Int32) × (Nat → Nat → Int64)
def mw_u {β : Type} (f : Nat → Nat → β) (k j : Nat) (v : β) : Nat → Nat → β := fun a b => if a = k ∧ b = j then v else f a b
def mw_I (μ : mw_M) (k j : Nat) (v : Int32) : mw_M := (mw_u μ.1 k j v, μ.2)
def mw_L (μ : mw_M) (k j : Nat) (v : Int64) : mw_M := (μ.1, mw_u μ.2 k j v)
def mw_cpy (μ : mw_M) (a b sp dp n : Nat) : mw_M := (μ.1, fun k => if k = b then va_cpy (μ.2 a) (μ.2 b) sp dp n else μ.2 k)
abbrev mw_CD : Type := (Nat × List Nat) ⊕ (Nat × Nat × Nat × Nat)
abbrev mw_G : Type := va_G × (Nat → ClassId) × (Nat → Nat) × (Nat → Nat)
def mw_a (G : mw_G) (k : Nat) : Nat := G.2.2.1 k
def mw_t (G : mw_G) (k : Nat) : Nat := G.2.2.2 k
def mw_fv (G : mw_G) (μ : mw_M) (k j : Nat) : Nat → Value
  | 0 => .int (μ.1 k j)
  | 1 => if μ.1 k j = 0 then .null else .ref (mw_a G (μ.1 k j).toNatClampNeg)
  | n + 2 => .ref (mw_a G n)
def mw_fs (G : mw_G) (μ : mw_M) (k : Nat) (ds : List Nat) : List Value := ds.mapIdx (fun j d => mw_fv G μ k j d)
def mw_ac (G : mw_G) (μ : mw_M) (k t st sp : Nat) : (Nat → Int32) ⊕ (Nat → Int64) ⊕ (Nat → UInt32) ⊕ (Nat → UInt64) ⊕ (Nat → Option Nat) := match t with
  | 0 => .inl (μ.1 k)
  | 1 => .inr (.inl (μ.2 k))
  | _ + 2 => .inr (.inr (.inr (.inr (fun i => some (mw_a G (st + sp * i))))))
def mw_e (G : mw_G) (μ : mw_M) (k : Nat) (d : mw_CD) : va_E := match d with
  | .inl o => .inr (o.1, mw_fs G μ k o.2)
  | .inr x => .inl (G.2.1 x.1, x.2.1, mw_ac G μ k x.1 x.2.2.1 x.2.2.2)
def mw_ws (G : mw_G) (kd : List mw_CD) (μ : mw_M) : va_W := kd.mapIdx (fun k d => (mw_a G k, mw_e G μ k d))
def mw_A (G : mw_G) (kd : List mw_CD) : Nat → Prop := fun q => ∃ k, k < kd.length ∧ q = mw_a G k
def mw_tys (G : mw_G) : List (ClassId × FieldType) := [(G.2.1 0, .int), (G.2.1 1, .long), (G.2.1 2, .object "MachineWalks$Law"), (G.2.1 3, .array .int), (G.2.1 4, .array .long)]
def mw_sc : Nat → String × String × List Int32
  | 0 => ("MachineWalks$Drum", "C", [1000, 866, 500, 0, -500, -866, -1000, -866, -500, 0, 500, 866])
  | 1 => ("MachineWalks$Drum", "S", [0, 500, 866, 1000, 866, 500, 0, -500, -866, -1000, -866, -500])
  | 2 => ("MachineWalks$Acts", "ABOVE", [-1, 0, 0, 2, 0, 1, 4, 0])
  | _ => ("MachineWalks$Acts", "BODIES", [1, 10, 11, 2, 20, 0, 0, 0, 0, 30, 0, 0, 0, 41, 40, 0, 0, 0, 50, 0, 0, 0, 0, 60, 70, 0, 0, 0, 0, 80, 0, 81])
def mw_sv (i j : Nat) : Int32 := (mw_sc i).2.2.getD j 0
def mw_ST (G : mw_G) (A : Nat → Prop) (U : State) (H : Heap) : Prop := ∀ i, i < 4 → va_Z (mw_sc i).1 (mw_sc i).2.1 "[I" (.ref (mw_t G i)) A U H ∧ va_T .int (mw_t G i) (mw_sc i).2.2.length (fun j => .int (mw_sv i j)) A U H
def mw_NW (s : State) : Prop := va_Nw (.fieldLinkNest "MachineWalks$Walk" 113 "MachineWalks$Machine" "delay" "I" "MachineWalks") s ∧ va_Nw (.fieldLinkNest "MachineWalks$Walk" 116 "MachineWalks$Machine" "noise" "I" "MachineWalks") s ∧ va_Nw (.fieldLinkNest "MachineWalks$Walk" 87 "MachineWalks$Machine" "wall" "I" "MachineWalks") s
def mw_F (G : mw_G) (kd : List mw_CD) (s : State) : Prop := va_K G.1 vwCl (mw_tys G) s ∧ (∀ i j, i < kd.length → j < kd.length → mw_a G i = mw_a G j → i = j) ∧ mw_ST G (mw_A G kd) s s.heap ∧ mw_NW s
def mw_H (G : mw_G) (kd : List mw_CD) (s : State) (μ : mw_M) (H : Heap) (locs : List Loc) : Prop := va_P G.1 vwCl (mw_ws G kd μ) H ∧ va_S (mw_A G kd) s.heap H locs
theorem mw_ws_len (G : mw_G) (kd : List mw_CD) (μ : mw_M) : (mw_ws G kd μ).length = kd.length := by simp [mw_ws]
theorem mw_ws_at {G : mw_G} {kd : List mw_CD} {μ : mw_M} {k : Nat} {d : mw_CD} (h : kd[k]? = some d) : (mw_ws G kd μ)[k]? = some (mw_a G k, mw_e G μ k d) := by
  unfold mw_ws
  rw [List.getElem?_mapIdx, h]
  rfl
theorem mw_ws_D {G : mw_G} {kd : List mw_CD} {μ : mw_M} (hi : ∀ i j, i < kd.length → j < kd.length → mw_a G i = mw_a G j → i = j) : va_D (mw_A G kd) (mw_ws G kd μ) := by
  have key : ∀ (k : Nat) (q : Nat × va_E), (mw_ws G kd μ)[k]? = some q → k < kd.length ∧ q.1 = mw_a G k := by
    intro k q hk
    unfold mw_ws at hk
    rw [List.getElem?_mapIdx] at hk
    cases hd : kd[k]? with
    | none => rw [hd] at hk; cases hk
    | some d =>
      rw [hd] at hk
      cases hk
      exact ⟨(List.getElem?_eq_some_iff.mp hd).1, rfl⟩
  refine ⟨fun i j x y hx hy hxy => ?_, fun k q hk => ⟨k, (key k q hk).1, (key k q hk).2⟩⟩
  obtain ⟨a1, a2⟩ := key i x hx
  obtain ⟨b1, b2⟩ := key j y hy
  exact hi i j a1 b1 (by rw [← a2, ← b2]; exact hxy)
theorem mw_ws_set {G : mw_G} {kd : List mw_CD} {μ μ' : mw_M} {k : Nat} {d : mw_CD} {e : va_E} (h : kd[k]? = some d) (he : e = mw_e G μ' k d) (ho : ∀ (j : Nat) (d' : mw_CD), j ≠ k → mw_e G μ j d' = mw_e G μ' j d') : (mw_ws G kd μ).set k (mw_a G k, e) = mw_ws G kd μ' := by
  apply List.ext_getElem?
  intro j
  by_cases hj : j = k
  · subst hj
    have hl : j < (mw_ws G kd μ).length := by rw [mw_ws_len]; exact (List.getElem?_eq_some_iff.mp h).1
    rw [List.getElem?_set_self hl, mw_ws_at h, he]
  · rw [List.getElem?_set_ne (Ne.symm hj)]
    unfold mw_ws
    rw [List.getElem?_mapIdx, List.getElem?_mapIdx]
    cases kd[j]? with
    | none => rfl
    | some d' => simp only [Option.map_some, ho j d' hj]
theorem mw_u_ne {β : Type} {f : Nat → Nat → β} {k j a : Nat} {v : β} (h : a ≠ k) : mw_u f k j v a = f a := by
  funext b
  simp [mw_u, h]
theorem mw_u_at {β : Type} (f : Nat → Nat → β) (k j : Nat) (v : β) (b : Nat) : mw_u f k j v k b = if b = j then v else f k b := by simp [mw_u]
theorem mw_fv_ne {G : mw_G} {μ : mw_M} {k j : Nat} {v : Int32} {a : Nat} (h : a ≠ k) (i d : Nat) : mw_fv G (mw_I μ k j v) a i d = mw_fv G μ a i d := by
  have e : (mw_I μ k j v).1 a = μ.1 a := mw_u_ne h
  match d with
  | 0 => show Value.int _ = Value.int _; rw [e]
  | 1 => simp only [mw_fv, e]
  | n + 2 => rfl
theorem mw_ac_ne {G : mw_G} {μ : mw_M} {k j : Nat} {v : Int32} {a : Nat} (h : a ≠ k) (t x y : Nat) : mw_ac G (mw_I μ k j v) a t x y = mw_ac G μ a t x y := by
  have e : (mw_I μ k j v).1 a = μ.1 a := mw_u_ne h
  match t with
  | 0 => show Sum.inl _ = Sum.inl _; rw [e]
  | 1 => rfl
  | n + 2 => rfl
theorem mw_e_ne {G : mw_G} {μ : mw_M} {k j : Nat} {v : Int32} {a : Nat} (h : a ≠ k) (d : mw_CD) : mw_e G μ a d = mw_e G (mw_I μ k j v) a d := by
  cases d with
  | inl o => show Sum.inr (o.1, mw_fs G μ a o.2) = Sum.inr (o.1, mw_fs G (mw_I μ k j v) a o.2); simp only [mw_fs, mw_fv_ne h]
  | inr x => show Sum.inl (_, _, mw_ac G μ a x.1 _ _) = Sum.inl (_, _, mw_ac G (mw_I μ k j v) a x.1 _ _); rw [mw_ac_ne h]
theorem mw_e_neL {G : mw_G} {μ μ' : mw_M} {a : Nat} (h1 : μ'.1 = μ.1) (h2 : μ'.2 a = μ.2 a) (d : mw_CD) : mw_e G μ a d = mw_e G μ' a d := by
  cases d with
  | inl o =>
    show Sum.inr (o.1, mw_fs G μ a o.2) = Sum.inr (o.1, mw_fs G μ' a o.2)
    have e : ∀ j d, mw_fv G μ' a j d = mw_fv G μ a j d := fun j d => by
      match d with
      | 0 => show Value.int _ = Value.int _; rw [h1]
      | 1 => simp only [mw_fv, h1]
      | n + 2 => rfl
    simp only [mw_fs, e]
  | inr x =>
    show Sum.inl (_, _, mw_ac G μ a x.1 _ _) = Sum.inl (_, _, mw_ac G μ' a x.1 _ _)
    have e : ∀ t y z, mw_ac G μ' a t y z = mw_ac G μ a t y z := fun t y z => by
      match t with
      | 0 => show Sum.inl _ = Sum.inl _; rw [h1]
      | 1 => show Sum.inr (Sum.inl _) = Sum.inr (Sum.inl _); rw [h2]
      | n + 2 => rfl
    rw [e]
theorem mw_fs_set {G : mw_G} {μ : mw_M} {k j : Nat} {v : Int32} {ds : List Nat} {w : Value} (hd : ∃ d, ds[j]? = some d ∧ mw_fv G (mw_I μ k j v) k j d = w) : (mw_fs G μ k ds).set j w = mw_fs G (mw_I μ k j v) k ds := by
  obtain ⟨d, hd, hw⟩ := hd
  apply List.ext_getElem?
  intro i
  by_cases hi : i = j
  · subst hi
    have hl : i < (mw_fs G μ k ds).length := by simp only [mw_fs, List.length_mapIdx]; exact (List.getElem?_eq_some_iff.mp hd).1
    rw [List.getElem?_set_self hl]
    unfold mw_fs
    rw [List.getElem?_mapIdx, hd]
    exact congrArg some hw.symm
  · rw [List.getElem?_set_ne (Ne.symm hi)]
    unfold mw_fs
    rw [List.getElem?_mapIdx, List.getElem?_mapIdx]
    cases ds[i]? with
    | none => rfl
    | some d' =>
      have e : (mw_I μ k j v).1 k i = μ.1 k i := by show mw_u _ _ _ _ _ _ = _; rw [mw_u_at, if_neg hi]
      refine congrArg some ?_
      match d' with
      | 0 => show Value.int _ = Value.int _; rw [e]
      | 1 => simp only [mw_fv, e]
      | n + 2 => rfl
theorem mw_fs_at {G : mw_G} {μ : mw_M} {k j d : Nat} {ds : List Nat} (h : ds[j]? = some d) : (mw_fs G μ k ds)[j]? = some (mw_fv G μ k j d) := by
  unfold mw_fs
  rw [List.getElem?_mapIdx, h]
  rfl
/-- the tables' words that may be handed on -/
def mw_T : List Cond := lw_tbl.filter goodWord
theorem mw_good : ∀ w ∈ mw_T, (w.onTables && w.keeps) = true ∨ ∃ ty, w = .arrayClass ty := fun w hw => good_of_word (List.mem_filter.mp hw).2
theorem mw_in {w : Cond} (i : Nat) (h : lw_tbl[i]? = some w) (hg : goodWord w = true) : w ∈ mw_T := List.mem_filter.mpr ⟨List.mem_of_getElem? h, hg⟩
theorem mw_goodIn {y : MethodName} {bytes : ByteArray} {maxL : Nat} {ret : Option FieldType} (h : Cond.code y bytes maxL ret ∈ mw_T) : GoodIn mw_T (Cond.code y bytes maxL ret :: mw_T) := by
  intro w hw
  rcases List.mem_cons.mp hw with rfl | hw
  · exact ⟨h, mw_good _ h⟩
  · exact ⟨hw, mw_good _ hw⟩
def mw_rm (fr lo : Nat) : Room := { frames := fr, cells := 0, slots := 0, locals := lo }
def mw_Pre (G : mw_G) (kd : List mw_CD) (μ : mw_M) (U : State) : Prop := va_P G.1 vwCl (mw_ws G kd μ) U.heap ∧ mw_F G kd U
def mw_B (G : mw_G) (kd : List mw_CD) (u : mw_M) (t : State) : Prop := va_P G.1 vwCl (mw_ws G kd u) t.heap
def mw_Mi (l : Launch) (G : mw_G) (kd : List mw_CD) (y : MethodName) (bytes : ByteArray) (maxL : Nat) (ret : Option FieldType) (fr lo : Nat) (vs : List Value) (μ : mw_M) (Q : Int32 → mw_M → Prop) : Prop :=
  Met l y (.code y bytes maxL ret :: mw_T) (mw_rm fr lo) (va_Pc vs (mw_Pre G kd μ)) (va_Qi Q (mw_B G kd) (mw_A G kd)) 0 0 (mw_A G kd)
def mw_Ml (l : Launch) (G : mw_G) (kd : List mw_CD) (y : MethodName) (bytes : ByteArray) (maxL : Nat) (ret : Option FieldType) (fr lo : Nat) (vs : List Value) (μ : mw_M) (Q : Int64 → mw_M → Prop) : Prop :=
  Met l y (.code y bytes maxL ret :: mw_T) (mw_rm fr lo) (va_Pc vs (mw_Pre G kd μ)) (va_Ql Q (mw_B G kd) (mw_A G kd)) 0 0 (mw_A G kd)
def mw_Mv (l : Launch) (G : mw_G) (kd : List mw_CD) (y : MethodName) (bytes : ByteArray) (maxL : Nat) (ret : Option FieldType) (fr lo : Nat) (vs : List Value) (μ : mw_M) (Q : mw_M → Prop) : Prop :=
  Met l y (.code y bytes maxL ret :: mw_T) (mw_rm fr lo) (va_Pc vs (mw_Pre G kd μ)) (va_Qv Q (mw_B G kd) (mw_A G kd)) 0 0 (mw_A G kd)
/-- of a boolean method: what holds where it answers 1, where 0 -/
def mw_bq (QT QF : mw_M → Prop) : Int32 → mw_M → Prop := fun r u => (r = 1 ∧ QT u) ∨ (r = 0 ∧ QF u)
/-- of a method that writes nothing -/
def mw_pq {β : Type} (μ : mw_M) (Q : β → Prop) : β → mw_M → Prop := fun r u => Q r ∧ u = μ
def mw_pv (μ : mw_M) (Q : Prop) : mw_M → Prop := fun u => Q ∧ u = μ
theorem mw_blind {vs : List Value} {G : mw_G} {kd : List mw_CD} {μ : mw_M} : FrameBlind (va_Pc vs (mw_Pre G kd μ)) := by
  intro a U g mk h
  obtain ⟨h1, h2, h3, h4, h5, h6⟩ := h
  exact ⟨h1, h2, va_K.moved (u := U) (U := U.calling g mk a) (Vm.Alike.refl U.vm) h3, h4, fun i hi => ⟨va_Z.moved (u := U) (U := U.calling g mk a) (Vm.Alike.refl U.vm) (h5 i hi).1, va_T.moved (u := U) (U := U.calling g mk a) (Vm.Alike.refl U.vm) (h5 i hi).2⟩, va_Nw.same (u := U) (U := U.calling g mk a) rfl rfl h6.1, va_Nw.same (u := U) (U := U.calling g mk a) rfl rfl h6.2.1, va_Nw.same (u := U) (U := U.calling g mk a) rfl rfl h6.2.2⟩
theorem mw_pre_of {G : mw_G} {kd : List mw_CD} {s : State} {μ : mw_M} {H : Heap} {locs : List Loc} (hF : mw_F G kd s) (hH : mw_H G kd s μ H locs) {U : State} (hU : U.heap = H) (hW : s.WarmedH U.vm) : mw_Pre G kd μ U := by
  subst hU
  obtain ⟨hK, hi, hs, hn⟩ := hF
  refine ⟨hH.1, va_K.moved hW.alike hK, hi, fun i h => ⟨?_, ?_⟩, hn.1.warmF hW, hn.2.1.warmF hW, hn.2.2.warmF hW⟩
  · exact va_Z.moved hW.alike ((hs i h).1.kept (fun a h1 h2 => hH.2.2.1 a h1 h2))
  · exact va_T.moved hW.alike ((hs i h).2.kept (fun a h1 h2 => hH.2.2.1 a h1 h2))
theorem mw_S_old {G : mw_G} {kd : List mw_CD} {s : State} {μ : mw_M} {H : Heap} {locs : List Loc} (hH : mw_H G kd s μ H locs) {q : Nat} (h : mw_A G kd q) : q < H.size := by
  obtain ⟨k, hk, rfl⟩ := h
  have e : kd[k]? = some kd[k] := List.getElem?_eq_getElem hk
  exact (hH.1 k _ (mw_ws_at e)).lt

def mw_W (p : Program) (l : Launch) (e : Env) (R : Room) (s : State) (m : MethodId) (args : Array Value) (below : List Frame) (meth : Method) (c : Code) (G : mw_G) (kd : List mw_CD) (nL : Nat) (Q : State → Prop) (pc : Nat) (lv : List (Nat × Value)) (st : List Value) (μ : mw_M) : Prop :=
  ∀ (ls : Array Slot) (H : Heap) (locs : List Loc), lv_has ls nL lv → mw_H G kd s μ H locs → W p l e R s m args below meth c H locs 0 0 Q (F0 m pc ls st)
/-- what a method's body stands in -/
def mw_C (p : Program) (R : Room) (s : State) (m : MethodId) (args : Array Value) (meth : Method) (c : Code) (G : mw_G) (kd : List mw_CD) (cc : ByteArray) (nL : Nat) (own : String) (ret : Option FieldType) : Prop :=
  CallFix p m c cc nL s args mw_T own ∧ mw_F G kd s ∧ meth.sig.returnType = ret ∧ meth.locks = false
theorem mw_enter {l : Launch} {G : mw_G} {kd : List mw_CD} {y : MethodName} {bytes : ByteArray} {maxL : Nat} {ret : Option FieldType} {fr lo : Nat} {vs : List Value} {μ : mw_M} {Qc : Array Value → State → Outcome → State → Prop} (lv0 : List (Nat × Value)) (own : String) (hy : plainName y.cls = true) (hC : y.cls = own) (hlen : (lg_sl vs).length ≤ maxL) (hlv : lv_args 0 vs = lv0)
    (body : ∀ (p : Program) (e : Env) (s : State) (m : MethodId) (args : Array Value) (below : List Frame) (meth : Method) (c : Code), mw_C p (mw_rm fr lo) s m args meth c G kd bytes maxL own ret → mw_W p l e (mw_rm fr lo) s m args below meth c G kd maxL (MQ below Qc args s 0 0 (mw_A G kd)) 0 lv0 [] μ) :
    Met l y (.code y bytes maxL ret :: mw_T) (mw_rm fr lo) (va_Pc vs (mw_Pre G kd μ)) Qc 0 0 (mw_A G kd) := by
  refine Met.ofW (cc := bytes) (maxL := maxL) (ret := ret) hy rfl ?_
  intro p e s m args below meth c s₁ B hml hv
  obtain ⟨rfl, hP, hF⟩ := hv
  have hts := atoms_spec (ws := .code y bytes maxL ret :: mw_T) B.pre
  have hown : s.vm.findClass own = some m.cls := by rw [← hC]; exact findClass_of_methodNamed B.named
  have hl := lv_entry vs (n := maxL) hlen
  rw [hlv] at hl
  rw [lg_entry_eq]
  exact body p e s m _ below meth c ⟨⟨B.exec, B.bytes, hml, hown, fun w hw => hts w (List.mem_cons_of_mem _ hw)⟩, hF, B.returns, B.notSynchronized⟩ _ _ _ hl ⟨hP, va_S.rf⟩
def mw_rem (x y : Int32) : Int32 := x - x / y * y
def mw_ushr (x y : Int32) : Int32 := (x.toUInt32 >>> (y.toUInt32 &&& Int32.toUInt32 31)).toInt32
def mw_lshl (x : Int64) (y : Int32) : Int64 := x <<< (y.toInt64 &&& 63)
def mw_i2c (x : Int32) : Int32 := (x.toUInt32 % 65536).toInt32
def mw_max (x y : Int32) : Int32 := if x < y then y else x
def mw_min (x y : Int32) : Int32 := if y < x then y else x
def mw_abs (x : Int32) : Int32 := if 0 ≤ x then x else 0 - x
def mw_maxL (x y : Int64) : Int64 := if y < x then x else y
def mw_minL (x y : Int64) : Int64 := if y < x then y else x
def mw_absL (x : Int64) : Int64 := if 0 < x then x else -x
section MWR
variable {p : Program} {l : Launch} {e : Env} {R : Room} {s : State} {m : MethodId} {args : Array Value} {below : List Frame} {meth : Method} {c : Code} {G : mw_G} {kd : List mw_CD} {cc : ByteArray} {nL : Nat} {own : String} {ret : Option FieldType} {Q : State → Prop} {pc : Nat} {lv : List (Nat × Value)} {st : List Value} {μ : mw_M}
theorem r_iconst (hC : mw_C p R s m args meth c G kd cc nL own ret) {n : Int} (v : Int32) (hdg : decode cc pc = .ok (.iconst n, 1)) (hv : Int32.ofInt n = v) (K : mw_W p l e R s m args below meth c G kd nL Q (pc + 1) lv (.int v :: st) μ) : mw_W p l e R s m args below meth c G kd nL Q pc lv st μ := fun ls H locs hl hH => lv_iconst hC.1.1 hC.1.2.1 hdg hv (K ls H locs hl hH)
theorem r_bipush (hC : mw_C p R s m args meth c G kd cc nL own ret) {n : Int} (v : Int32) (hdg : decode cc pc = .ok (.bipush n, 2)) (hv : (Int8.ofInt n).toInt32 = v) (K : mw_W p l e R s m args below meth c G kd nL Q (pc + 2) lv (.int v :: st) μ) : mw_W p l e R s m args below meth c G kd nL Q pc lv st μ := fun ls H locs hl hH => lv_bipush hC.1.1 hC.1.2.1 hdg hv (K ls H locs hl hH)
theorem r_sipush (hC : mw_C p R s m args meth c G kd cc nL own ret) {n : Int} (v : Int32) (hdg : decode cc pc = .ok (.sipush n, 3)) (hv : (Int16.ofInt n).toInt32 = v) (K : mw_W p l e R s m args below meth c G kd nL Q (pc + 3) lv (.int v :: st) μ) : mw_W p l e R s m args below meth c G kd nL Q pc lv st μ := fun ls H locs hl hH => lv_sipush hC.1.1 hC.1.2.1 hdg hv (K ls H locs hl hH)
theorem r_lconst (hC : mw_C p R s m args meth c G kd cc nL own ret) {n : Fin 2} (v : Int64) (hdg : decode cc pc = .ok (.lconst n, 1)) (hv : Int64.ofNat (n : Nat) = v) (K : mw_W p l e R s m args below meth c G kd nL Q (pc + 1) lv (.long v :: st) μ) : mw_W p l e R s m args below meth c G kd nL Q pc lv st μ := fun ls H locs hl hH => lv_lconst hC.1.1 hC.1.2.1 hdg hv (K ls H locs hl hH)
theorem r_ldc (hC : mw_C p R s m args meth c G kd cc nL own ret) {i : Nat} {v : Int32} (hw : Jvm.Cond.constant own i v ∈ mw_T) (hdg : decode cc pc = .ok (.ldc i, 2)) (K : mw_W p l e R s m args below meth c G kd nL Q (pc + 2) lv (.int v :: st) μ) : mw_W p l e R s m args below meth c G kd nL Q pc lv st μ := fun ls H locs hl hH => lv_ldc hC.1.1 hC.1.2.1 hC.1.2.2.2.1 (hC.1.2.2.2.2 _ hw) hdg (K ls H locs hl hH)
theorem r_ldc2 (hC : mw_C p R s m args meth c G kd cc nL own ret) {i : Nat} {v : Int64} (hw : Jvm.Cond.constantLong own i v ∈ mw_T) (hdg : decode cc pc = .ok (.ldc2_w i, 3)) (K : mw_W p l e R s m args below meth c G kd nL Q (pc + 3) lv (.long v :: st) μ) : mw_W p l e R s m args below meth c G kd nL Q pc lv st μ := fun ls H locs hl hH => lv_ldc2 hC.1.1 hC.1.2.1 hC.1.2.2.2.1 (hC.1.2.2.2.2 _ hw) hdg (K ls H locs hl hH)
theorem r_iload_n (hC : mw_C p R s m args meth c G kd cc nL own ret) {k : Fin 4} {i : Nat} {x : Int32} (t : Nat) (hdg : decode cc pc = .ok (.iload_n k, 1)) (hi : (k : Nat) = i) (ht : lv[t]? = some (i, .int x)) (K : mw_W p l e R s m args below meth c G kd nL Q (pc + 1) lv (.int x :: st) μ) : mw_W p l e R s m args below meth c G kd nL Q (pc) lv st μ := fun ls H locs hl hH => lv_iload_n hC.1.1 hC.1.2.1 hdg hi (lv_at hl t ht) (K ls H locs hl hH)
theorem r_iload (hC : mw_C p R s m args meth c G kd cc nL own ret) {i : Nat} {x : Int32} (t : Nat) (hdg : decode cc pc = .ok (.iload i, 2)) (ht : lv[t]? = some (i, .int x)) (K : mw_W p l e R s m args below meth c G kd nL Q (pc + 2) lv (.int x :: st) μ) : mw_W p l e R s m args below meth c G kd nL Q (pc) lv st μ := fun ls H locs hl hH => lv_iload hC.1.1 hC.1.2.1 hdg (lv_at hl t ht) (K ls H locs hl hH)
theorem r_lload_n (hC : mw_C p R s m args meth c G kd cc nL own ret) {k : Fin 4} {i : Nat} {x : Int64} (t : Nat) (hdg : decode cc pc = .ok (.lload_n k, 1)) (hi : (k : Nat) = i) (ht : lv[t]? = some (i, .long x)) (K : mw_W p l e R s m args below meth c G kd nL Q (pc + 1) lv (.long x :: st) μ) : mw_W p l e R s m args below meth c G kd nL Q (pc) lv st μ := fun ls H locs hl hH => lv_lload_n hC.1.1 hC.1.2.1 hdg hi (lv_at hl t ht) (K ls H locs hl hH)
theorem r_lload (hC : mw_C p R s m args meth c G kd cc nL own ret) {i : Nat} {x : Int64} (t : Nat) (hdg : decode cc pc = .ok (.lload i, 2)) (ht : lv[t]? = some (i, .long x)) (K : mw_W p l e R s m args below meth c G kd nL Q (pc + 2) lv (.long x :: st) μ) : mw_W p l e R s m args below meth c G kd nL Q (pc) lv st μ := fun ls H locs hl hH => lv_lload hC.1.1 hC.1.2.1 hdg (lv_at hl t ht) (K ls H locs hl hH)
theorem r_aload_n (hC : mw_C p R s m args meth c G kd cc nL own ret) {k : Fin 4} {i : Nat} {x : Nat} (t : Nat) (hdg : decode cc pc = .ok (.aload_n k, 1)) (hi : (k : Nat) = i) (ht : lv[t]? = some (i, .ref x)) (K : mw_W p l e R s m args below meth c G kd nL Q (pc + 1) lv (.ref x :: st) μ) : mw_W p l e R s m args below meth c G kd nL Q (pc) lv st μ := fun ls H locs hl hH => lv_aload_n hC.1.1 hC.1.2.1 hdg hi (lv_at hl t ht) (K ls H locs hl hH)
theorem r_aload (hC : mw_C p R s m args meth c G kd cc nL own ret) {i : Nat} {x : Nat} (t : Nat) (hdg : decode cc pc = .ok (.aload i, 2)) (ht : lv[t]? = some (i, .ref x)) (K : mw_W p l e R s m args below meth c G kd nL Q (pc + 2) lv (.ref x :: st) μ) : mw_W p l e R s m args below meth c G kd nL Q (pc) lv st μ := fun ls H locs hl hH => lv_aload hC.1.1 hC.1.2.1 hdg (lv_at hl t ht) (K ls H locs hl hH)
theorem r_istore_n (hC : mw_C p R s m args meth c G kd cc nL own ret) {k : Fin 4} {i : Nat} {x : Int32} (lv' : List (Nat × Value)) (hdg : decode cc pc = .ok (.istore_n k, 1)) (hi : (k : Nat) = i) (hn : i < nL) (he : (i, Value.int x) :: lv.filter (fun q => !(q.1 == i) && !(q.1 + 1 == i && q.2.category == 2)) = lv') (K : mw_W p l e R s m args below meth c G kd nL Q (pc + 1) lv' st μ) : mw_W p l e R s m args below meth c G kd nL Q (pc) lv (.int x :: st) μ := fun ls H locs hl hH => lv_istore_n hC.1.1 hC.1.2.1 hdg hi hl hn he (fun ls h => K ls H locs h hH)
theorem r_istore (hC : mw_C p R s m args meth c G kd cc nL own ret) {i : Nat} {x : Int32} (lv' : List (Nat × Value)) (hdg : decode cc pc = .ok (.istore i, 2)) (hn : i < nL) (he : (i, Value.int x) :: lv.filter (fun q => !(q.1 == i) && !(q.1 + 1 == i && q.2.category == 2)) = lv') (K : mw_W p l e R s m args below meth c G kd nL Q (pc + 2) lv' st μ) : mw_W p l e R s m args below meth c G kd nL Q (pc) lv (.int x :: st) μ := fun ls H locs hl hH => lv_istore hC.1.1 hC.1.2.1 hdg hl hn he (fun ls h => K ls H locs h hH)
theorem r_lstore_n (hC : mw_C p R s m args meth c G kd cc nL own ret) {k : Fin 4} {i : Nat} {x : Int64} (lv' : List (Nat × Value)) (hdg : decode cc pc = .ok (.lstore_n k, 1)) (hi : (k : Nat) = i) (hn : i + 1 < nL) (he : (i, Value.long x) :: lv.filter (fun q => !(q.1 == i) && (!(q.1 == i + 1) && !(q.1 + 1 == i && q.2.category == 2))) = lv') (K : mw_W p l e R s m args below meth c G kd nL Q (pc + 1) lv' st μ) : mw_W p l e R s m args below meth c G kd nL Q (pc) lv (.long x :: st) μ := fun ls H locs hl hH => lv_lstore_n hC.1.1 hC.1.2.1 hdg hi hl hn he (fun ls h => K ls H locs h hH)
theorem r_lstore (hC : mw_C p R s m args meth c G kd cc nL own ret) {i : Nat} {x : Int64} (lv' : List (Nat × Value)) (hdg : decode cc pc = .ok (.lstore i, 2)) (hn : i + 1 < nL) (he : (i, Value.long x) :: lv.filter (fun q => !(q.1 == i) && (!(q.1 == i + 1) && !(q.1 + 1 == i && q.2.category == 2))) = lv') (K : mw_W p l e R s m args below meth c G kd nL Q (pc + 2) lv' st μ) : mw_W p l e R s m args below meth c G kd nL Q (pc) lv (.long x :: st) μ := fun ls H locs hl hH => lv_lstore hC.1.1 hC.1.2.1 hdg hl hn he (fun ls h => K ls H locs h hH)
theorem r_astore_n (hC : mw_C p R s m args meth c G kd cc nL own ret) {k : Fin 4} {i : Nat} {x : Nat} (lv' : List (Nat × Value)) (hdg : decode cc pc = .ok (.astore_n k, 1)) (hi : (k : Nat) = i) (hn : i < nL) (he : (i, Value.ref x) :: lv.filter (fun q => !(q.1 == i) && !(q.1 + 1 == i && q.2.category == 2)) = lv') (K : mw_W p l e R s m args below meth c G kd nL Q (pc + 1) lv' st μ) : mw_W p l e R s m args below meth c G kd nL Q (pc) lv (.ref x :: st) μ := fun ls H locs hl hH => lv_astore_n hC.1.1 hC.1.2.1 hdg hi hl hn he (fun ls h => K ls H locs h hH)
theorem r_astore (hC : mw_C p R s m args meth c G kd cc nL own ret) {i : Nat} {x : Nat} (lv' : List (Nat × Value)) (hdg : decode cc pc = .ok (.astore i, 2)) (hn : i < nL) (he : (i, Value.ref x) :: lv.filter (fun q => !(q.1 == i) && !(q.1 + 1 == i && q.2.category == 2)) = lv') (K : mw_W p l e R s m args below meth c G kd nL Q (pc + 2) lv' st μ) : mw_W p l e R s m args below meth c G kd nL Q (pc) lv (.ref x :: st) μ := fun ls H locs hl hH => lv_astore hC.1.1 hC.1.2.1 hdg hl hn he (fun ls h => K ls H locs h hH)
theorem r_iinc (hC : mw_C p R s m args meth c G kd cc nL own ret) {i : Nat} {n : Int} {x : Int32} (v : Int32) (t : Nat) (lv' : List (Nat × Value)) (hdg : decode cc pc = .ok (.iinc i n, 3)) (hk : lv[t]? = some (i, .int x)) (hv : x + Int32.ofInt n = v) (hn : i < nL) (he : (i, Value.int v) :: lv.filter (fun q => !(q.1 == i) && !(q.1 + 1 == i && q.2.category == 2)) = lv') (K : mw_W p l e R s m args below meth c G kd nL Q (pc + 3) lv' st μ) : mw_W p l e R s m args below meth c G kd nL Q (pc) lv st μ := fun ls H locs hl hH => lv_iinc hC.1.1 hC.1.2.1 hdg hl hk hv hn he (fun ls h => K ls H locs h hH)
theorem r_iadd (hC : mw_C p R s m args meth c G kd cc nL own ret) {x y : Int32} (hdg : decode cc pc = .ok (.iadd, 1)) (K : mw_W p l e R s m args below meth c G kd nL Q (pc + 1) lv (.int (x + y) :: st) μ) : mw_W p l e R s m args below meth c G kd nL Q (pc) lv (.int y :: .int x :: st) μ := fun ls H locs hl hH => lv_iadd hC.1.1 hC.1.2.1 hdg (K ls H locs hl hH)
theorem r_isub (hC : mw_C p R s m args meth c G kd cc nL own ret) {x y : Int32} (hdg : decode cc pc = .ok (.isub, 1)) (K : mw_W p l e R s m args below meth c G kd nL Q (pc + 1) lv (.int (x - y) :: st) μ) : mw_W p l e R s m args below meth c G kd nL Q (pc) lv (.int y :: .int x :: st) μ := fun ls H locs hl hH => lv_isub hC.1.1 hC.1.2.1 hdg (K ls H locs hl hH)
theorem r_imul (hC : mw_C p R s m args meth c G kd cc nL own ret) {x y : Int32} (hdg : decode cc pc = .ok (.imul, 1)) (K : mw_W p l e R s m args below meth c G kd nL Q (pc + 1) lv (.int (x * y) :: st) μ) : mw_W p l e R s m args below meth c G kd nL Q (pc) lv (.int y :: .int x :: st) μ := fun ls H locs hl hH => lv_imul hC.1.1 hC.1.2.1 hdg (K ls H locs hl hH)
theorem r_iand (hC : mw_C p R s m args meth c G kd cc nL own ret) {x y : Int32} (hdg : decode cc pc = .ok (.iand, 1)) (K : mw_W p l e R s m args below meth c G kd nL Q (pc + 1) lv (.int (x &&& y) :: st) μ) : mw_W p l e R s m args below meth c G kd nL Q (pc) lv (.int y :: .int x :: st) μ := fun ls H locs hl hH => lv_iand hC.1.1 hC.1.2.1 hdg (K ls H locs hl hH)
theorem r_ior (hC : mw_C p R s m args meth c G kd cc nL own ret) {x y : Int32} (hdg : decode cc pc = .ok (.ior, 1)) (K : mw_W p l e R s m args below meth c G kd nL Q (pc + 1) lv (.int (x ||| y) :: st) μ) : mw_W p l e R s m args below meth c G kd nL Q (pc) lv (.int y :: .int x :: st) μ := fun ls H locs hl hH => lv_ior hC.1.1 hC.1.2.1 hdg (K ls H locs hl hH)
theorem r_ixor (hC : mw_C p R s m args meth c G kd cc nL own ret) {x y : Int32} (hdg : decode cc pc = .ok (.ixor, 1)) (K : mw_W p l e R s m args below meth c G kd nL Q (pc + 1) lv (.int (x ^^^ y) :: st) μ) : mw_W p l e R s m args below meth c G kd nL Q (pc) lv (.int y :: .int x :: st) μ := fun ls H locs hl hH => lv_ixor hC.1.1 hC.1.2.1 hdg (K ls H locs hl hH)
theorem r_ishl (hC : mw_C p R s m args meth c G kd cc nL own ret) {x y : Int32} (hdg : decode cc pc = .ok (.ishl, 1)) (K : mw_W p l e R s m args below meth c G kd nL Q (pc + 1) lv (.int (x <<< (y &&& 31)) :: st) μ) : mw_W p l e R s m args below meth c G kd nL Q (pc) lv (.int y :: .int x :: st) μ := fun ls H locs hl hH => lv_ishl hC.1.1 hC.1.2.1 hdg (K ls H locs hl hH)
theorem r_ishr (hC : mw_C p R s m args meth c G kd cc nL own ret) {x y : Int32} (hdg : decode cc pc = .ok (.ishr, 1)) (K : mw_W p l e R s m args below meth c G kd nL Q (pc + 1) lv (.int (x >>> (y &&& 31)) :: st) μ) : mw_W p l e R s m args below meth c G kd nL Q (pc) lv (.int y :: .int x :: st) μ := fun ls H locs hl hH => lv_ishr hC.1.1 hC.1.2.1 hdg (K ls H locs hl hH)
theorem r_idiv (hC : mw_C p R s m args meth c G kd cc nL own ret) {x y : Int32} (hdg : decode cc pc = .ok (.idiv, 1)) (hne : ¬ y = 0) (K : mw_W p l e R s m args below meth c G kd nL Q (pc + 1) lv (.int (x / y) :: st) μ) : mw_W p l e R s m args below meth c G kd nL Q (pc) lv (.int y :: .int x :: st) μ := fun ls H locs hl hH => lv_idiv hC.1.1 hC.1.2.1 hdg hne (K ls H locs hl hH)
theorem r_irem (hC : mw_C p R s m args meth c G kd cc nL own ret) {x y : Int32} (hdg : decode cc pc = .ok (.irem, 1)) (hne : ¬ y = 0) (K : mw_W p l e R s m args below meth c G kd nL Q (pc + 1) lv (.int (mw_rem x y) :: st) μ) : mw_W p l e R s m args below meth c G kd nL Q (pc) lv (.int y :: .int x :: st) μ := fun ls H locs hl hH => lv_irem hC.1.1 hC.1.2.1 hdg hne (K ls H locs hl hH)
theorem r_ineg (hC : mw_C p R s m args meth c G kd cc nL own ret) {x : Int32} (hdg : decode cc pc = .ok (.ineg, 1)) (K : mw_W p l e R s m args below meth c G kd nL Q (pc + 1) lv (.int (-x) :: st) μ) : mw_W p l e R s m args below meth c G kd nL Q (pc) lv (.int x :: st) μ := fun ls H locs hl hH => lv_ineg hC.1.1 hC.1.2.1 hdg (K ls H locs hl hH)
theorem r_iushr (hC : mw_C p R s m args meth c G kd cc nL own ret) {x y : Int32} (hdg : decode cc pc = .ok (.iushr, 1)) (K : mw_W p l e R s m args below meth c G kd nL Q (pc + 1) lv (.int (mw_ushr x y) :: st) μ) : mw_W p l e R s m args below meth c G kd nL Q (pc) lv (.int y :: .int x :: st) μ := fun ls H locs hl hH => lv_iushr hC.1.1 hC.1.2.1 hdg rfl (K ls H locs hl hH)
theorem r_ladd (hC : mw_C p R s m args meth c G kd cc nL own ret) {x y : Int64} (hdg : decode cc pc = .ok (.ladd, 1)) (K : mw_W p l e R s m args below meth c G kd nL Q (pc + 1) lv (.long (x + y) :: st) μ) : mw_W p l e R s m args below meth c G kd nL Q (pc) lv (.long y :: .long x :: st) μ := fun ls H locs hl hH => lv_ladd hC.1.1 hC.1.2.1 hdg (K ls H locs hl hH)
theorem r_lsub (hC : mw_C p R s m args meth c G kd cc nL own ret) {x y : Int64} (hdg : decode cc pc = .ok (.lsub, 1)) (K : mw_W p l e R s m args below meth c G kd nL Q (pc + 1) lv (.long (x - y) :: st) μ) : mw_W p l e R s m args below meth c G kd nL Q (pc) lv (.long y :: .long x :: st) μ := fun ls H locs hl hH => lv_lsub hC.1.1 hC.1.2.1 hdg (K ls H locs hl hH)
theorem r_lmul (hC : mw_C p R s m args meth c G kd cc nL own ret) {x y : Int64} (hdg : decode cc pc = .ok (.lmul, 1)) (K : mw_W p l e R s m args below meth c G kd nL Q (pc + 1) lv (.long (x * y) :: st) μ) : mw_W p l e R s m args below meth c G kd nL Q (pc) lv (.long y :: .long x :: st) μ := fun ls H locs hl hH => lv_lmul hC.1.1 hC.1.2.1 hdg (K ls H locs hl hH)
theorem r_land (hC : mw_C p R s m args meth c G kd cc nL own ret) {x y : Int64} (hdg : decode cc pc = .ok (.land, 1)) (K : mw_W p l e R s m args below meth c G kd nL Q (pc + 1) lv (.long (x &&& y) :: st) μ) : mw_W p l e R s m args below meth c G kd nL Q (pc) lv (.long y :: .long x :: st) μ := fun ls H locs hl hH => lv_land hC.1.1 hC.1.2.1 hdg (K ls H locs hl hH)
theorem r_lor (hC : mw_C p R s m args meth c G kd cc nL own ret) {x y : Int64} (hdg : decode cc pc = .ok (.lor, 1)) (K : mw_W p l e R s m args below meth c G kd nL Q (pc + 1) lv (.long (x ||| y) :: st) μ) : mw_W p l e R s m args below meth c G kd nL Q (pc) lv (.long y :: .long x :: st) μ := fun ls H locs hl hH => lv_lor hC.1.1 hC.1.2.1 hdg (K ls H locs hl hH)
theorem r_ldiv (hC : mw_C p R s m args meth c G kd cc nL own ret) {x y : Int64} (hdg : decode cc pc = .ok (.ldiv, 1)) (hne : ¬ y = 0) (K : mw_W p l e R s m args below meth c G kd nL Q (pc + 1) lv (.long (x / y) :: st) μ) : mw_W p l e R s m args below meth c G kd nL Q (pc) lv (.long y :: .long x :: st) μ := fun ls H locs hl hH => lv_ldiv hC.1.1 hC.1.2.1 hdg hne (K ls H locs hl hH)
theorem r_lshl (hC : mw_C p R s m args meth c G kd cc nL own ret) {x : Int64} {y : Int32} (hdg : decode cc pc = .ok (.lshl, 1)) (K : mw_W p l e R s m args below meth c G kd nL Q (pc + 1) lv (.long (mw_lshl x y) :: st) μ) : mw_W p l e R s m args below meth c G kd nL Q (pc) lv (.int y :: .long x :: st) μ := fun ls H locs hl hH => lv_lshl hC.1.1 hC.1.2.1 hdg rfl (K ls H locs hl hH)
theorem r_lcmp (hC : mw_C p R s m args meth c G kd cc nL own ret) {x y : Int64} (hdg : decode cc pc = .ok (.lcmp, 1)) (K : mw_W p l e R s m args below meth c G kd nL Q (pc + 1) lv (.int (lg_cmp x y) :: st) μ) : mw_W p l e R s m args below meth c G kd nL Q (pc) lv (.long y :: .long x :: st) μ := fun ls H locs hl hH => W.lcmp hC.1.1 hC.1.2.1 hdg (K ls H locs hl hH)
theorem r_i2l (hC : mw_C p R s m args meth c G kd cc nL own ret) {x : Int32} (hdg : decode cc pc = .ok (.i2l, 1)) (K : mw_W p l e R s m args below meth c G kd nL Q (pc + 1) lv (.long (x.toInt64) :: st) μ) : mw_W p l e R s m args below meth c G kd nL Q (pc) lv (.int x :: st) μ := fun ls H locs hl hH => lv_i2l hC.1.1 hC.1.2.1 hdg rfl (K ls H locs hl hH)
theorem r_l2i (hC : mw_C p R s m args meth c G kd cc nL own ret) {x : Int64} (hdg : decode cc pc = .ok (.l2i, 1)) (K : mw_W p l e R s m args below meth c G kd nL Q (pc + 1) lv (.int (x.toInt32) :: st) μ) : mw_W p l e R s m args below meth c G kd nL Q (pc) lv (.long x :: st) μ := fun ls H locs hl hH => lv_l2i hC.1.1 hC.1.2.1 hdg rfl (K ls H locs hl hH)
theorem r_i2b (hC : mw_C p R s m args meth c G kd cc nL own ret) {x : Int32} (hdg : decode cc pc = .ok (.i2b, 1)) (K : mw_W p l e R s m args below meth c G kd nL Q (pc + 1) lv (.int (x.toInt8.toInt32) :: st) μ) : mw_W p l e R s m args below meth c G kd nL Q (pc) lv (.int x :: st) μ := fun ls H locs hl hH => lv_i2b hC.1.1 hC.1.2.1 hdg rfl (K ls H locs hl hH)
theorem r_i2s (hC : mw_C p R s m args meth c G kd cc nL own ret) {x : Int32} (hdg : decode cc pc = .ok (.i2s, 1)) (K : mw_W p l e R s m args below meth c G kd nL Q (pc + 1) lv (.int (x.toInt16.toInt32) :: st) μ) : mw_W p l e R s m args below meth c G kd nL Q (pc) lv (.int x :: st) μ := fun ls H locs hl hH => lv_i2s hC.1.1 hC.1.2.1 hdg rfl (K ls H locs hl hH)
theorem r_i2c (hC : mw_C p R s m args meth c G kd cc nL own ret) {x : Int32} (hdg : decode cc pc = .ok (.i2c, 1)) (K : mw_W p l e R s m args below meth c G kd nL Q (pc + 1) lv (.int (mw_i2c x) :: st) μ) : mw_W p l e R s m args below meth c G kd nL Q (pc) lv (.int x :: st) μ := fun ls H locs hl hH => lv_i2c hC.1.1 hC.1.2.1 hdg rfl (K ls H locs hl hH)
theorem r_dup (hC : mw_C p R s m args meth c G kd cc nL own ret) {v : Value} (hdg : decode cc pc = .ok (.dup, 1)) (hv : v.category = 1) (K : mw_W p l e R s m args below meth c G kd nL Q (pc + 1) lv (v :: v :: st) μ) : mw_W p l e R s m args below meth c G kd nL Q (pc) lv (v :: st) μ := fun ls H locs hl hH => lv_dup hC.1.1 hC.1.2.1 hdg hv (K ls H locs hl hH)
theorem r_pop (hC : mw_C p R s m args meth c G kd cc nL own ret) {v : Value} (hdg : decode cc pc = .ok (.pop, 1)) (hv : v.category = 1) (K : mw_W p l e R s m args below meth c G kd nL Q (pc + 1) lv st μ) : mw_W p l e R s m args below meth c G kd nL Q (pc) lv (v :: st) μ := fun ls H locs hl hH => lv_pop hC.1.1 hC.1.2.1 hdg hv (K ls H locs hl hH)
theorem r_icmp_eq (hC : mw_C p R s m args meth c G kd cc nL own ret) {x y : Int32} {off : Int} (tgt : Nat) (hdg : decode cc pc = .ok (.if_icmp .eq off, 3)) (ht : (pc : Int) + off = (tgt : Int)) (kt : x = y → mw_W p l e R s m args below meth c G kd nL Q (tgt) lv st μ) (kf : ¬ x = y → mw_W p l e R s m args below meth c G kd nL Q (pc + 3) lv st μ) : mw_W p l e R s m args below meth c G kd nL Q (pc) lv (.int y :: .int x :: st) μ := fun ls H locs hl hH => lv_icmp_eq hC.1.1 hC.1.2.1 hdg ht (fun h => kt h ls H locs hl hH) (fun h => kf h ls H locs hl hH)
theorem r_icmp_lt (hC : mw_C p R s m args meth c G kd cc nL own ret) {x y : Int32} {off : Int} (tgt : Nat) (hdg : decode cc pc = .ok (.if_icmp .lt off, 3)) (ht : (pc : Int) + off = (tgt : Int)) (kt : x < y → mw_W p l e R s m args below meth c G kd nL Q (tgt) lv st μ) (kf : ¬ x < y → mw_W p l e R s m args below meth c G kd nL Q (pc + 3) lv st μ) : mw_W p l e R s m args below meth c G kd nL Q (pc) lv (.int y :: .int x :: st) μ := fun ls H locs hl hH => lv_icmp_lt hC.1.1 hC.1.2.1 hdg ht (fun h => kt h ls H locs hl hH) (fun h => kf h ls H locs hl hH)
theorem r_icmp_ge (hC : mw_C p R s m args meth c G kd cc nL own ret) {x y : Int32} {off : Int} (tgt : Nat) (hdg : decode cc pc = .ok (.if_icmp .ge off, 3)) (ht : (pc : Int) + off = (tgt : Int)) (kt : y ≤ x → mw_W p l e R s m args below meth c G kd nL Q (tgt) lv st μ) (kf : ¬ y ≤ x → mw_W p l e R s m args below meth c G kd nL Q (pc + 3) lv st μ) : mw_W p l e R s m args below meth c G kd nL Q (pc) lv (.int y :: .int x :: st) μ := fun ls H locs hl hH => lv_icmp_ge hC.1.1 hC.1.2.1 hdg ht (fun h => kt h ls H locs hl hH) (fun h => kf h ls H locs hl hH)
theorem r_icmp_gt (hC : mw_C p R s m args meth c G kd cc nL own ret) {x y : Int32} {off : Int} (tgt : Nat) (hdg : decode cc pc = .ok (.if_icmp .gt off, 3)) (ht : (pc : Int) + off = (tgt : Int)) (kt : y < x → mw_W p l e R s m args below meth c G kd nL Q (tgt) lv st μ) (kf : ¬ y < x → mw_W p l e R s m args below meth c G kd nL Q (pc + 3) lv st μ) : mw_W p l e R s m args below meth c G kd nL Q (pc) lv (.int y :: .int x :: st) μ := fun ls H locs hl hH => lv_icmp_gt hC.1.1 hC.1.2.1 hdg ht (fun h => kt h ls H locs hl hH) (fun h => kf h ls H locs hl hH)
theorem r_icmp_le (hC : mw_C p R s m args meth c G kd cc nL own ret) {x y : Int32} {off : Int} (tgt : Nat) (hdg : decode cc pc = .ok (.if_icmp .le off, 3)) (ht : (pc : Int) + off = (tgt : Int)) (kt : x ≤ y → mw_W p l e R s m args below meth c G kd nL Q (tgt) lv st μ) (kf : ¬ x ≤ y → mw_W p l e R s m args below meth c G kd nL Q (pc + 3) lv st μ) : mw_W p l e R s m args below meth c G kd nL Q (pc) lv (.int y :: .int x :: st) μ := fun ls H locs hl hH => lv_icmp_le hC.1.1 hC.1.2.1 hdg ht (fun h => kt h ls H locs hl hH) (fun h => kf h ls H locs hl hH)
theorem r_if_eq (hC : mw_C p R s m args meth c G kd cc nL own ret) {x : Int32} {off : Int} (tgt : Nat) (hdg : decode cc pc = .ok (.ifCond .eq off, 3)) (ht : (pc : Int) + off = (tgt : Int)) (kt : x = 0 → mw_W p l e R s m args below meth c G kd nL Q (tgt) lv st μ) (kf : ¬ x = 0 → mw_W p l e R s m args below meth c G kd nL Q (pc + 3) lv st μ) : mw_W p l e R s m args below meth c G kd nL Q (pc) lv (.int x :: st) μ := fun ls H locs hl hH => lv_if_eq hC.1.1 hC.1.2.1 hdg ht (fun h => kt h ls H locs hl hH) (fun h => kf h ls H locs hl hH)
theorem r_if_lt (hC : mw_C p R s m args meth c G kd cc nL own ret) {x : Int32} {off : Int} (tgt : Nat) (hdg : decode cc pc = .ok (.ifCond .lt off, 3)) (ht : (pc : Int) + off = (tgt : Int)) (kt : x < 0 → mw_W p l e R s m args below meth c G kd nL Q (tgt) lv st μ) (kf : ¬ x < 0 → mw_W p l e R s m args below meth c G kd nL Q (pc + 3) lv st μ) : mw_W p l e R s m args below meth c G kd nL Q (pc) lv (.int x :: st) μ := fun ls H locs hl hH => lv_if_lt hC.1.1 hC.1.2.1 hdg ht (fun h => kt h ls H locs hl hH) (fun h => kf h ls H locs hl hH)
theorem r_if_ge (hC : mw_C p R s m args meth c G kd cc nL own ret) {x : Int32} {off : Int} (tgt : Nat) (hdg : decode cc pc = .ok (.ifCond .ge off, 3)) (ht : (pc : Int) + off = (tgt : Int)) (kt : 0 ≤ x → mw_W p l e R s m args below meth c G kd nL Q (tgt) lv st μ) (kf : ¬ 0 ≤ x → mw_W p l e R s m args below meth c G kd nL Q (pc + 3) lv st μ) : mw_W p l e R s m args below meth c G kd nL Q (pc) lv (.int x :: st) μ := fun ls H locs hl hH => lv_if_ge hC.1.1 hC.1.2.1 hdg ht (fun h => kt h ls H locs hl hH) (fun h => kf h ls H locs hl hH)
theorem r_if_gt (hC : mw_C p R s m args meth c G kd cc nL own ret) {x : Int32} {off : Int} (tgt : Nat) (hdg : decode cc pc = .ok (.ifCond .gt off, 3)) (ht : (pc : Int) + off = (tgt : Int)) (kt : 0 < x → mw_W p l e R s m args below meth c G kd nL Q (tgt) lv st μ) (kf : ¬ 0 < x → mw_W p l e R s m args below meth c G kd nL Q (pc + 3) lv st μ) : mw_W p l e R s m args below meth c G kd nL Q (pc) lv (.int x :: st) μ := fun ls H locs hl hH => lv_if_gt hC.1.1 hC.1.2.1 hdg ht (fun h => kt h ls H locs hl hH) (fun h => kf h ls H locs hl hH)
theorem r_if_le (hC : mw_C p R s m args meth c G kd cc nL own ret) {x : Int32} {off : Int} (tgt : Nat) (hdg : decode cc pc = .ok (.ifCond .le off, 3)) (ht : (pc : Int) + off = (tgt : Int)) (kt : x ≤ 0 → mw_W p l e R s m args below meth c G kd nL Q (tgt) lv st μ) (kf : ¬ x ≤ 0 → mw_W p l e R s m args below meth c G kd nL Q (pc + 3) lv st μ) : mw_W p l e R s m args below meth c G kd nL Q (pc) lv (.int x :: st) μ := fun ls H locs hl hH => lv_if_le hC.1.1 hC.1.2.1 hdg ht (fun h => kt h ls H locs hl hH) (fun h => kf h ls H locs hl hH)
theorem r_icmp_ne (hC : mw_C p R s m args meth c G kd cc nL own ret) {x y : Int32} {off : Int} (tgt : Nat) (hdg : decode cc pc = .ok (.if_icmp .ne off, 3)) (ht : (pc : Int) + off = (tgt : Int)) (kt : ¬ x = y → mw_W p l e R s m args below meth c G kd nL Q (tgt) lv st μ) (kf : x = y → mw_W p l e R s m args below meth c G kd nL Q (pc + 3) lv st μ) : mw_W p l e R s m args below meth c G kd nL Q (pc) lv (.int y :: .int x :: st) μ := fun ls H locs hl hH => lv_icmp_ne hC.1.1 hC.1.2.1 hdg ht (fun h => kt h ls H locs hl hH) (fun h => kf h ls H locs hl hH)
theorem r_if_ne (hC : mw_C p R s m args meth c G kd cc nL own ret) {x : Int32} {off : Int} (tgt : Nat) (hdg : decode cc pc = .ok (.ifCond .ne off, 3)) (ht : (pc : Int) + off = (tgt : Int)) (kt : ¬ x = 0 → mw_W p l e R s m args below meth c G kd nL Q (tgt) lv st μ) (kf : x = 0 → mw_W p l e R s m args below meth c G kd nL Q (pc + 3) lv st μ) : mw_W p l e R s m args below meth c G kd nL Q (pc) lv (.int x :: st) μ := fun ls H locs hl hH => lv_if_ne hC.1.1 hC.1.2.1 hdg ht (fun h => kt h ls H locs hl hH) (fun h => kf h ls H locs hl hH)
theorem r_goto (hC : mw_C p R s m args meth c G kd cc nL own ret) {off : Int} (tgt : Nat) (hdg : decode cc pc = .ok (.goto off, 3)) (ht : (pc : Int) + off = (tgt : Int)) (K : mw_W p l e R s m args below meth c G kd nL Q (tgt) lv st μ) : mw_W p l e R s m args below meth c G kd nL Q (pc) lv st μ := fun ls H locs hl hH => lv_goto hC.1.1 hC.1.2.1 hdg ht (K ls H locs hl hH)
theorem r_lv (hC : mw_C p R s m args meth c G kd cc nL own ret) (lv' : List (Nat × Value)) (ks : List Nat) (he : lv_pick lv ks = lv') (K : mw_W p l e R s m args below meth c G kd nL Q (pc) lv' st μ) : mw_W p l e R s m args below meth c G kd nL Q (pc) lv st μ := fun ls H locs hl hH => K ls H locs (lv_sub hl ks he) hH
theorem r_tin (hC : mw_C p R s m args meth c G kd cc nL own ret) {dflt lo hi : Int} {offs : Array Int} {len : Nat} {x : Int32} {off : Int} (tgt : Nat) (hdg : decode cc pc = .ok (.tableswitch dflt lo hi offs, len)) (h1 : ¬ x.toInt < lo) (h2 : ¬ hi < x.toInt) (ho : offs[(x.toInt - lo).toNat]? = some off) (ht : (pc : Int) + off = (tgt : Int)) (K : mw_W p l e R s m args below meth c G kd nL Q (tgt) lv st μ) : mw_W p l e R s m args below meth c G kd nL Q (pc) lv (.int x :: st) μ := fun ls H locs hl hH => lv_tableIn hC.1.1 hC.1.2.1 hdg h1 h2 ho ht (K ls H locs hl hH)
theorem r_tout (hC : mw_C p R s m args meth c G kd cc nL own ret) {dflt lo hi : Int} {offs : Array Int} {len : Nat} {x : Int32} (tgt : Nat) (hdg : decode cc pc = .ok (.tableswitch dflt lo hi offs, len)) (h : x.toInt < lo ∨ hi < x.toInt) (ht : (pc : Int) + dflt = (tgt : Int)) (K : mw_W p l e R s m args below meth c G kd nL Q (tgt) lv st μ) : mw_W p l e R s m args below meth c G kd nL Q (pc) lv (.int x :: st) μ := fun ls H locs hl hH => lv_tableOut hC.1.1 hC.1.2.1 hdg h ht (K ls H locs hl hH)
theorem r_lsw (hC : mw_C p R s m args meth c G kd cc nL own ret) {dflt : Int} {ps : Array (Int × Int)} {len : Nat} {x : Int32} {off : Int} (tgt : Nat) (hdg : decode cc pc = .ok (.lookupswitch dflt ps, len)) (hp : (ps.toList.zip (ps.toList.drop 1)).all (fun (a, next) => a.1 < next.1) = true) (ho : Op.lookupswitch.offset ps.toList dflt x.toInt = off) (ht : (pc : Int) + off = (tgt : Int)) (K : mw_W p l e R s m args below meth c G kd nL Q (tgt) lv st μ) : mw_W p l e R s m args below meth c G kd nL Q (pc) lv (.int x :: st) μ := fun ls H locs hl hH => lv_lookup hC.1.1 hC.1.2.1 hdg hp ho ht (K ls H locs hl hH)
end MWR
end
section
/-! rows over the flat memory: fields, arrays, statics, calls, returns -/
def mw_fl (own : String) (idx ci j : Nat) (ty : FieldType) (fin : Bool) : Prop := ∃ (C : String) (T : u_T) (N : Nat) (t0 : Nat → FieldType), vwCl[ci]? = some (C, T, N) ∧ (∀ w ∈ u_ws C T N, w ∈ mw_T) ∧ j < N ∧ Cond.fieldLink own idx C (T j).2.1 (T j).2.2.1 ∈ mw_T ∧ (T j).1 = C ∧ (∀ k, k < N → parseFieldDescriptor (T k).2.2.1 = some (t0 k)) ∧ (∀ a, a < N → ∀ b, b < N → a ≠ b → (T a).2.1 ≠ (T b).2.1) ∧ t0 j = ty ∧ (T j).2.2.2 = fin
theorem mw_I_at (μ : mw_M) (k j : Nat) (v : Int32) : (mw_I μ k j v).1 k j = v := by simp [mw_I, mw_u]
theorem mw_I_get (μ : mw_M) (k j : Nat) (v : Int32) (a b : Nat) : (mw_I μ k j v).1 a b = if a = k ∧ b = j then v else μ.1 a b := rfl
theorem mw_I_long (μ : mw_M) (k j : Nat) (v : Int32) : (mw_I μ k j v).2 = μ.2 := rfl
theorem mw_L_get (μ : mw_M) (k j : Nat) (v : Int64) (a b : Nat) : (mw_L μ k j v).2 a b = if a = k ∧ b = j then v else μ.2 a b := rfl
theorem mw_L_int (μ : mw_M) (k j : Nat) (v : Int64) : (mw_L μ k j v).1 = μ.1 := rfl
section MWH
variable {p : Program} {l : Launch} {e : Env} {R : Room} {s : State} {m : MethodId} {args : Array Value} {below : List Frame} {meth : Method} {c : Code} {G : mw_G} {kd : List mw_CD} {cc : ByteArray} {nL : Nat} {own : String} {ret : Option FieldType} {Q : State → Prop} {pc : Nat} {lv : List (Nat × Value)} {st : List Value} {μ : mw_M}
theorem r_getI (hC : mw_C p R s m args meth c G kd cc nL own ret) {idx ci j b : Nat} {ty : FieldType} {fin : Bool} {ds : List Nat} (hf : mw_fl own idx ci j ty fin) (hb : kd[b]? = some (.inl (ci, ds))) (hd : ds[j]? = some 0) (hdg : decode cc pc = .ok (.getfield idx, 3)) (K : mw_W p l e R s m args below meth c G kd nL Q (pc + 3) lv (.int (μ.1 b j) :: st) μ) : mw_W p l e R s m args below meth c G kd nL Q pc lv (.ref (mw_a G b) :: st) μ := by
  intro ls H locs hl hH
  obtain ⟨C, T, N, t0, h1, h2, h3, h4, h5, h6, h7, h8, h9⟩ := hf
  exact va_get (C := C) (T := T) (N := N) (ref := C) (v := .int (μ.1 b j)) hC.1.1 hC.1.2.1 hC.1.2.2.2.2 h2 hC.1.2.2.2.1 hC.2.1.1 hH.1 b (mw_ws_at hb) h1 j h3 (hC.1.2.2.2.2 _ h4) (fun x h => by rw [h5] at h; exact h) (mw_fs_at hd) hdg (K ls H locs hl hH)
theorem r_getR (hC : mw_C p R s m args meth c G kd cc nL own ret) {idx ci j b : Nat} {ty : FieldType} {fin : Bool} {ds : List Nat} (n : Nat) (hf : mw_fl own idx ci j ty fin) (hb : kd[b]? = some (.inl (ci, ds))) (hd : ds[j]? = some (n + 2)) (hdg : decode cc pc = .ok (.getfield idx, 3)) (K : mw_W p l e R s m args below meth c G kd nL Q (pc + 3) lv (.ref (mw_a G n) :: st) μ) : mw_W p l e R s m args below meth c G kd nL Q pc lv (.ref (mw_a G b) :: st) μ := by
  intro ls H locs hl hH
  obtain ⟨C, T, N, t0, h1, h2, h3, h4, h5, h6, h7, h8, h9⟩ := hf
  exact va_get (C := C) (T := T) (N := N) (ref := C) (v := .ref (mw_a G n)) hC.1.1 hC.1.2.1 hC.1.2.2.2.2 h2 hC.1.2.2.2.1 hC.2.1.1 hH.1 b (mw_ws_at hb) h1 j h3 (hC.1.2.2.2.2 _ h4) (fun x h => by rw [h5] at h; exact h) (mw_fs_at hd) hdg (K ls H locs hl hH)
theorem r_getV (hC : mw_C p R s m args meth c G kd cc nL own ret) {idx ci j b : Nat} {ty : FieldType} {fin : Bool} {ds : List Nat} (hf : mw_fl own idx ci j ty fin) (hb : kd[b]? = some (.inl (ci, ds))) (hd : ds[j]? = some 1) (hn : ¬ μ.1 b j = 0) (hdg : decode cc pc = .ok (.getfield idx, 3)) (K : mw_W p l e R s m args below meth c G kd nL Q (pc + 3) lv (.ref (mw_a G (μ.1 b j).toNatClampNeg) :: st) μ) : mw_W p l e R s m args below meth c G kd nL Q pc lv (.ref (mw_a G b) :: st) μ := by
  intro ls H locs hl hH
  obtain ⟨C, T, N, t0, h1, h2, h3, h4, h5, h6, h7, h8, h9⟩ := hf
  refine va_get (C := C) (T := T) (N := N) (ref := C) (v := .ref (mw_a G (μ.1 b j).toNatClampNeg)) hC.1.1 hC.1.2.1 hC.1.2.2.2.2 h2 hC.1.2.2.2.1 hC.2.1.1 hH.1 b (mw_ws_at hb) h1 j h3 (hC.1.2.2.2.2 _ h4) (fun x h => by rw [h5] at h; exact h) ?_ hdg (K ls H locs hl hH)
  rw [mw_fs_at hd]
  show some (if μ.1 b j = 0 then Value.null else _) = _
  rw [if_neg hn]
theorem r_getN (hC : mw_C p R s m args meth c G kd cc nL own ret) {idx ci j b : Nat} {ds : List Nat} {host C : String} {T : u_T} {N : Nat} (hh : va_Nw (.fieldLinkNest own idx C (T j).2.1 (T j).2.2.1 host) s) (h1 : vwCl[ci]? = some (C, T, N)) (h2 : ∀ w ∈ u_ws C T N, w ∈ mw_T) (h3 : j < N) (h5 : (T j).1 = C) (hb : kd[b]? = some (.inl (ci, ds))) (hd : ds[j]? = some 0) (hdg : decode cc pc = .ok (.getfield idx, 3)) (K : mw_W p l e R s m args below meth c G kd nL Q (pc + 3) lv (.int (μ.1 b j) :: st) μ) : mw_W p l e R s m args below meth c G kd nL Q pc lv (.ref (mw_a G b) :: st) μ := by
  intro ls H locs hl hH
  exact va_getN (C := C) (T := T) (N := N) (ref := C) (host := host) (v := .int (μ.1 b j)) hC.1.1 hC.1.2.1 hC.1.2.2.2.2 h2 hC.1.2.2.2.1 hC.2.1.1 hH.1 b (mw_ws_at hb) h1 j h3 (va_Nw.use rfl hh) (fun x h => by rw [h5] at h; exact h) (mw_fs_at hd) hdg (K ls H locs hl hH)
theorem r_putI (hC : mw_C p R s m args meth c G kd cc nL own ret) {idx ci j b : Nat} {ty : FieldType} {ds : List Nat} {x : Int32} (hf : mw_fl own idx ci j ty false) (hb : kd[b]? = some (.inl (ci, ds))) (hd : ds[j]? = some 0) (hn : narrow ty (.int x) = .int x) (hfit : fits ty (.int x) = true) (hdg : decode cc pc = .ok (.putfield idx, 3)) (K : mw_W p l e R s m args below meth c G kd nL Q (pc + 3) lv st (mw_I μ b j x)) : mw_W p l e R s m args below meth c G kd nL Q pc lv (.int x :: .ref (mw_a G b) :: st) μ := by
  intro ls H locs hl hH
  obtain ⟨C, T, N, t0, h1, h2, h3, h4, h5, h6, h7, h8, h9⟩ := hf
  refine va_put (C := C) (T := T) (N := N) (ref := C) (ty := ty) (v := .int x) hC.1.1 hC.1.2.1 hC.1.2.2.2.2 h2 t0 h6 h7 hC.1.2.2.2.1 hC.2.1.1 hH.1 (mw_ws_D hC.2.1.2.1) hH.2 b (mw_ws_at hb) h1 j h3 (hC.1.2.2.2.2 _ h4) (fun x h => by rw [h5] at h; exact h) h9 (by rw [h6 j h3, h8]) hn hfit (by simp only [mw_fs, List.length_mapIdx]; exact (List.getElem?_eq_some_iff.mp hd).1) hdg (fun H1 locs1 hP hD hS => K ls H1 locs1 hl ⟨?_, hS⟩)
  rw [mw_ws_set (G := G) (μ := μ) (μ' := mw_I μ b j x) hb (by show Sum.inr _ = Sum.inr _; rw [mw_fs_set ⟨0, hd, by show Value.int _ = _; rw [mw_I_at]⟩]) (fun a d h => mw_e_ne h d)] at hP
  exact hP
theorem r_putV (hC : mw_C p R s m args meth c G kd cc nL own ret) {idx ci j b k : Nat} {ty : FieldType} {ds : List Nat} (hf : mw_fl own idx ci j ty false) (hb : kd[b]? = some (.inl (ci, ds))) (hd : ds[j]? = some 1) (hk : 0 < k ∧ k < 2 ^ 31) (hn : ∀ a, narrow ty (.ref a) = .ref a) (hfit : ∀ a, fits ty (.ref a) = true) (hdg : decode cc pc = .ok (.putfield idx, 3)) (K : mw_W p l e R s m args below meth c G kd nL Q (pc + 3) lv st (mw_I μ b j (nI k))) : mw_W p l e R s m args below meth c G kd nL Q pc lv (.ref (mw_a G k) :: .ref (mw_a G b) :: st) μ := by
  intro ls H locs hl hH
  obtain ⟨C, T, N, t0, h1, h2, h3, h4, h5, h6, h7, h8, h9⟩ := hf
  refine va_put (C := C) (T := T) (N := N) (ref := C) (ty := ty) (v := .ref (mw_a G k)) hC.1.1 hC.1.2.1 hC.1.2.2.2.2 h2 t0 h6 h7 hC.1.2.2.2.1 hC.2.1.1 hH.1 (mw_ws_D hC.2.1.2.1) hH.2 b (mw_ws_at hb) h1 j h3 (hC.1.2.2.2.2 _ h4) (fun x h => by rw [h5] at h; exact h) h9 (by rw [h6 j h3, h8]) (hn _) (hfit _) (by simp only [mw_fs, List.length_mapIdx]; exact (List.getElem?_eq_some_iff.mp hd).1) hdg (fun H1 locs1 hP hD hS => K ls H1 locs1 hl ⟨?_, hS⟩)
  rw [mw_ws_set (G := G) (μ := μ) (μ' := mw_I μ b j (nI k)) hb (by show Sum.inr _ = Sum.inr _; rw [mw_fs_set ⟨1, hd, by
    show (if (mw_I μ b j (nI k)).1 b j = 0 then Value.null else Value.ref (mw_a G ((mw_I μ b j (nI k)).1 b j).toNatClampNeg)) = _
    rw [mw_I_at, if_neg (nI_ne0 hk.1 hk.2), nI_clamp hk.2]⟩]) (fun a d h => mw_e_ne h d)] at hP
  exact hP
theorem r_iald (hC : mw_C p R s m args meth c G kd cc nL own ret) {b n x y : Nat} {i : Int32} (hb : kd[b]? = some (.inr (0, n, x, y))) (hin : vp_in i n) (hdg : decode cc pc = .ok (.iaload, 1)) (K : mw_W p l e R s m args below meth c G kd nL Q (pc + 1) lv (.int (μ.1 b i.toNatClampNeg) :: st) μ) : mw_W p l e R s m args below meth c G kd nL Q pc lv (.int i :: .ref (mw_a G b) :: st) μ := fun ls H locs hl hH =>
  va_iald (tys := mw_tys G) (f := μ.1 b) hC.1.1 hC.1.2.1 hC.2.1.1 hH.1 b 0 (mw_ws_at hb) rfl hin hdg (K ls H locs hl hH)
theorem r_lald (hC : mw_C p R s m args meth c G kd cc nL own ret) {b n x y : Nat} {i : Int32} (hb : kd[b]? = some (.inr (1, n, x, y))) (hin : vp_in i n) (hdg : decode cc pc = .ok (.laload, 1)) (K : mw_W p l e R s m args below meth c G kd nL Q (pc + 1) lv (.long (μ.2 b i.toNatClampNeg) :: st) μ) : mw_W p l e R s m args below meth c G kd nL Q pc lv (.int i :: .ref (mw_a G b) :: st) μ := fun ls H locs hl hH =>
  va_lald (tys := mw_tys G) (f := μ.2 b) hC.1.1 hC.1.2.1 hC.2.1.1 hH.1 b 1 (mw_ws_at hb) rfl hin hdg (K ls H locs hl hH)
theorem r_aald (hC : mw_C p R s m args meth c G kd cc nL own ret) {b t n x y : Nat} {i : Int32} (hb : kd[b]? = some (.inr (t + 2, n, x, y))) (ht : t < 3) (hin : vp_in i n) (hdg : decode cc pc = .ok (.aaload, 1)) (K : mw_W p l e R s m args below meth c G kd nL Q (pc + 1) lv (.ref (mw_a G (x + y * i.toNatClampNeg)) :: st) μ) : mw_W p l e R s m args below meth c G kd nL Q pc lv (.int i :: .ref (mw_a G b) :: st) μ := by
  intro ls H locs hl hH
  have hlt : i.toNatClampNeg < n := Nat.not_le.mp fun q => hin (Or.inr q)
  obtain ⟨ty, h1, h2⟩ : ∃ ty : FieldType, (mw_tys G)[t + 2]? = some (G.2.1 (t + 2), ty) ∧ ty.isReference = true := by
    rcases (show t = 0 ∨ t = 1 ∨ t = 2 by omega) with rfl | rfl | rfl
    · exact ⟨_, rfl, rfl⟩
    · exact ⟨_, rfl, rfl⟩
    · exact ⟨_, rfl, rfl⟩
  exact W.aald (v := .ref (mw_a G (x + y * i.toNatClampNeg))) (ty := ty) hC.1.1 hC.1.2.1 (hH.1 b _ (mw_ws_at hb)) ((hC.2.1.1.2 (t + 2) _ h1).1 n (fun j => va_rf (some (mw_a G (x + y * j))))) h2 (fun q => by cases q) (by show ¬ (i < 0 ∨ (arrV _ _ _).slots.size ≤ _); rw [arrV_size]; exact hin) (by show (arrV _ _ _).slots[_]? = _; rw [arrV_read _ _ hlt]; rfl) rfl rfl hdg (K ls H locs hl hH)
theorem r_iast (hC : mw_C p R s m args meth c G kd cc nL own ret) {b n x y : Nat} {i v : Int32} (hb : kd[b]? = some (.inr (0, n, x, y))) (hin : vp_in i n) (hdg : decode cc pc = .ok (.iastore, 1)) (K : mw_W p l e R s m args below meth c G kd nL Q (pc + 1) lv st (mw_I μ b i.toNatClampNeg v)) : mw_W p l e R s m args below meth c G kd nL Q pc lv (.int v :: .int i :: .ref (mw_a G b) :: st) μ := by
  intro ls H locs hl hH
  refine va_iast (tys := mw_tys G) (f := μ.1 b) hC.1.1 hC.1.2.1 hC.2.1.1 hH.1 (mw_ws_D hC.2.1.2.1) hH.2 b 0 (mw_ws_at hb) rfl hin hdg (fun H1 locs1 hP hD hS => K ls H1 locs1 hl ⟨?_, hS⟩)
  rw [mw_ws_set (G := G) (μ := μ) (μ' := mw_I μ b i.toNatClampNeg v) hb (by
    show Sum.inl (_, _, Sum.inl (upd (μ.1 b) i.toNatClampNeg v)) = Sum.inl (_, _, Sum.inl ((mw_I μ b i.toNatClampNeg v).1 b))
    rw [show (mw_I μ b i.toNatClampNeg v).1 b = upd (μ.1 b) i.toNatClampNeg v from by funext j; exact mw_u_at _ _ _ _ _]) (fun a d h => mw_e_ne h d)] at hP
  exact hP
theorem r_last (hC : mw_C p R s m args meth c G kd cc nL own ret) {b n x y : Nat} {i : Int32} {v : Int64} (hb : kd[b]? = some (.inr (1, n, x, y))) (hin : vp_in i n) (hdg : decode cc pc = .ok (.lastore, 1)) (K : mw_W p l e R s m args below meth c G kd nL Q (pc + 1) lv st (mw_L μ b i.toNatClampNeg v)) : mw_W p l e R s m args below meth c G kd nL Q pc lv (.long v :: .int i :: .ref (mw_a G b) :: st) μ := by
  intro ls H locs hl hH
  refine va_last (tys := mw_tys G) (f := μ.2 b) hC.1.1 hC.1.2.1 hC.2.1.1 hH.1 (mw_ws_D hC.2.1.2.1) hH.2 b 1 (mw_ws_at hb) rfl hin hdg (fun H1 locs1 hP hD hS => K ls H1 locs1 hl ⟨?_, hS⟩)
  rw [mw_ws_set (G := G) (μ := μ) (μ' := mw_L μ b i.toNatClampNeg v) hb (by
    show Sum.inl (_, _, Sum.inr (Sum.inl (vp_updL (μ.2 b) i.toNatClampNeg v))) = Sum.inl (_, _, Sum.inr (Sum.inl ((mw_L μ b i.toNatClampNeg v).2 b)))
    rw [show (mw_L μ b i.toNatClampNeg v).2 b = vp_updL (μ.2 b) i.toNatClampNeg v from by funext j; exact mw_u_at _ _ _ _ _]) (fun a d h => mw_e_neL (G := G) (μ := μ) (μ' := mw_L μ b i.toNatClampNeg v) rfl (mw_u_ne h) d)] at hP
  exact hP
theorem r_alen (hC : mw_C p R s m args meth c G kd cc nL own ret) {b n x y : Nat} (hb : kd[b]? = some (.inr (0, n, x, y))) (hdg : decode cc pc = .ok (.arraylength, 1)) (K : mw_W p l e R s m args below meth c G kd nL Q (pc + 1) lv (.int (Int32.ofNat n) :: st) μ) : mw_W p l e R s m args below meth c G kd nL Q pc lv (.ref (mw_a G b) :: st) μ := fun ls H locs hl hH =>
  va_alen (tys := mw_tys G) hC.1.1 hC.1.2.1 hC.2.1.1 hH.1 b 0 (mw_ws_at hb) rfl rfl hdg (K ls H locs hl hH)
theorem r_gets (hC : mw_C p R s m args meth c G kd cc nL own ret) {idx : Nat} (i : Nat) (hi : i < 4) (hw : Cond.fieldLink own idx (mw_sc i).1 (mw_sc i).2.1 "[I" ∈ mw_T) (hdg : decode cc pc = .ok (.getstatic idx, 3)) (K : mw_W p l e R s m args below meth c G kd nL Q (pc + 3) lv (.ref (mw_t G i) :: st) μ) : mw_W p l e R s m args below meth c G kd nL Q pc lv st μ := fun ls H locs hl hH =>
  va_gets (C := (mw_sc i).1) (ref := (mw_sc i).1) hC.1.1 hC.1.2.1 (hC.2.1.2.2.1 i hi).1 hH.2 hC.1.2.2.2.1 (hC.1.2.2.2.2 _ hw) (fun _ h => h) hdg (K ls H locs hl hH)
theorem r_sald (hC : mw_C p R s m args meth c G kd cc nL own ret) {i : Int32} (t : Nat) (ht : t < 4) (hin : vp_in i (mw_sc t).2.2.length) (hdg : decode cc pc = .ok (.iaload, 1)) (K : mw_W p l e R s m args below meth c G kd nL Q (pc + 1) lv (.int (mw_sv t i.toNatClampNeg) :: st) μ) : mw_W p l e R s m args below meth c G kd nL Q pc lv (.int i :: .ref (mw_t G t) :: st) μ := fun ls H locs hl hH =>
  va_ti hC.1.1 hC.1.2.1 (hC.2.1.2.2.1 t ht).2 hH.2 hin rfl hdg (K ls H locs hl hH)
/-- Math -/
def mw_mw (own : String) (idx : Nat) (y : MethodName) (cd : ByteArray) (n : Nat) (r : Option FieldType) : Prop := Cond.methodLink own idx y ∈ mw_T ∧ Cond.static y ∈ mw_T ∧ Cond.initialized "java/lang/Math" ∈ mw_T ∧ Cond.code y cd n r ∈ mw_T
theorem r_max (hC : mw_C p R s m args meth c G kd cc nL own ret) {idx : Nat} {x y : Int32} (hw : mw_mw own idx Lib.Math.max.name Lib.Math.max.code 2 (some .int)) (h1 : 1 ≤ R.frames) (h2 : (st.map fun v => v.category).sum + 13 ≤ R.locals) (hdg : decode cc pc = .ok (.invokestatic idx, 3)) (K : mw_W p l e R s m args below meth c G kd nL Q (pc + 3) lv (.int (mw_max x y) :: st) μ) : mw_W p l e R s m args below meth c G kd nL Q pc lv (.int y :: .int x :: st) μ := fun ls H locs hl hH =>
  va_mmax hC.1.1 hC.1.2.1 (by rw [hC.1.2.2.1]; exact hl.1.symm) hC.1.2.2.2.1 (hC.1.2.2.2.2 _ hw.1) (hC.1.2.2.2.2 _ hw.2.1) (hC.1.2.2.2.2 _ hw.2.2.1) (hC.1.2.2.2.2 _ hw.2.2.2) h1 h2 (Nat.zero_le _) (Nat.zero_le _) hdg (K ls H locs hl hH)
theorem r_min (hC : mw_C p R s m args meth c G kd cc nL own ret) {idx : Nat} {x y : Int32} (hw : mw_mw own idx Lib.Math.min.name Lib.Math.min.code 2 (some .int)) (h1 : 1 ≤ R.frames) (h2 : (st.map fun v => v.category).sum + 13 ≤ R.locals) (hdg : decode cc pc = .ok (.invokestatic idx, 3)) (K : mw_W p l e R s m args below meth c G kd nL Q (pc + 3) lv (.int (mw_min x y) :: st) μ) : mw_W p l e R s m args below meth c G kd nL Q pc lv (.int y :: .int x :: st) μ := fun ls H locs hl hH =>
  va_mmin hC.1.1 hC.1.2.1 (by rw [hC.1.2.2.1]; exact hl.1.symm) hC.1.2.2.2.1 (hC.1.2.2.2.2 _ hw.1) (hC.1.2.2.2.2 _ hw.2.1) (hC.1.2.2.2.2 _ hw.2.2.1) (hC.1.2.2.2.2 _ hw.2.2.2) h1 h2 (Nat.zero_le _) (Nat.zero_le _) hdg (K ls H locs hl hH)
theorem r_abs (hC : mw_C p R s m args meth c G kd cc nL own ret) {idx : Nat} {x : Int32} (hw : mw_mw own idx Lib.Math.abs.name Lib.Math.abs.code 1 (some .int)) (h1 : 1 ≤ R.frames) (h2 : (st.map fun v => v.category).sum + 13 ≤ R.locals) (hdg : decode cc pc = .ok (.invokestatic idx, 3)) (K : mw_W p l e R s m args below meth c G kd nL Q (pc + 3) lv (.int (mw_abs x) :: st) μ) : mw_W p l e R s m args below meth c G kd nL Q pc lv (.int x :: st) μ := fun ls H locs hl hH =>
  va_mabs hC.1.1 hC.1.2.1 (by rw [hC.1.2.2.1]; exact hl.1.symm) hC.1.2.2.2.1 (hC.1.2.2.2.2 _ hw.1) (hC.1.2.2.2.2 _ hw.2.1) (hC.1.2.2.2.2 _ hw.2.2.1) (hC.1.2.2.2.2 _ hw.2.2.2) h1 h2 (Nat.zero_le _) (Nat.zero_le _) hdg (K ls H locs hl hH)
theorem r_maxL (hC : mw_C p R s m args meth c G kd cc nL own ret) {idx : Nat} {x y : Int64} (hw : mw_mw own idx Lib.MathLoose.max_long.x Lib.MathLoose.max_long.code 4 (some .long)) (h1 : 1 ≤ R.frames) (h2 : (st.map fun v => v.category).sum + 15 ≤ R.locals) (hdg : decode cc pc = .ok (.invokestatic idx, 3)) (K : mw_W p l e R s m args below meth c G kd nL Q (pc + 3) lv (.long (mw_maxL x y) :: st) μ) : mw_W p l e R s m args below meth c G kd nL Q pc lv (.long y :: .long x :: st) μ := fun ls H locs hl hH =>
  va_mmax_long hC.1.1 hC.1.2.1 (by rw [hC.1.2.2.1]; exact hl.1.symm) hC.1.2.2.2.1 (hC.1.2.2.2.2 _ hw.1) (hC.1.2.2.2.2 _ hw.2.1) (hC.1.2.2.2.2 _ hw.2.2.1) (hC.1.2.2.2.2 _ hw.2.2.2) h1 h2 (Nat.zero_le _) (Nat.zero_le _) hdg (K ls H locs hl hH)
theorem r_minL (hC : mw_C p R s m args meth c G kd cc nL own ret) {idx : Nat} {x y : Int64} (hw : mw_mw own idx Lib.MathLoose.min_long.x Lib.MathLoose.min_long.code 4 (some .long)) (h1 : 1 ≤ R.frames) (h2 : (st.map fun v => v.category).sum + 15 ≤ R.locals) (hdg : decode cc pc = .ok (.invokestatic idx, 3)) (K : mw_W p l e R s m args below meth c G kd nL Q (pc + 3) lv (.long (mw_minL x y) :: st) μ) : mw_W p l e R s m args below meth c G kd nL Q pc lv (.long y :: .long x :: st) μ := fun ls H locs hl hH =>
  va_mmin_long hC.1.1 hC.1.2.1 (by rw [hC.1.2.2.1]; exact hl.1.symm) hC.1.2.2.2.1 (hC.1.2.2.2.2 _ hw.1) (hC.1.2.2.2.2 _ hw.2.1) (hC.1.2.2.2.2 _ hw.2.2.1) (hC.1.2.2.2.2 _ hw.2.2.2) h1 h2 (Nat.zero_le _) (Nat.zero_le _) hdg (K ls H locs hl hH)
theorem r_absL (hC : mw_C p R s m args meth c G kd cc nL own ret) {idx : Nat} {x : Int64} (hw : mw_mw own idx Lib.MathLoose.abs_long.x Lib.MathLoose.abs_long.code 2 (some .long)) (h1 : 1 ≤ R.frames) (h2 : (st.map fun v => v.category).sum + 13 ≤ R.locals) (hdg : decode cc pc = .ok (.invokestatic idx, 3)) (K : mw_W p l e R s m args below meth c G kd nL Q (pc + 3) lv (.long (mw_absL x) :: st) μ) : mw_W p l e R s m args below meth c G kd nL Q pc lv (.long x :: st) μ := fun ls H locs hl hH =>
  va_mabs_long hC.1.1 hC.1.2.1 (by rw [hC.1.2.2.1]; exact hl.1.symm) hC.1.2.2.2.1 (hC.1.2.2.2.2 _ hw.1) (hC.1.2.2.2.2 _ hw.2.1) (hC.1.2.2.2.2 _ hw.2.2.1) (hC.1.2.2.2.2 _ hw.2.2.2) h1 h2 (Nat.zero_le _) (Nat.zero_le _) hdg (K ls H locs hl hH)
/-- calls: what the tables say of a method, of a link -/
def mw_yV (y : MethodName) (C : String) (bytes : ByteArray) (maxL : Nat) (ret : Option FieldType) (n : Nat) : Prop := y.cls = C ∧ Cond.instanceMethod y ∈ mw_T ∧ Cond.selects C y y ∈ mw_T ∧ Cond.initialized C ∈ mw_T ∧ Cond.code y bytes maxL ret ∈ mw_T ∧ (C ≠ "java/lang/invoke/MethodHandle" ∧ C ≠ "java/lang/invoke/VarHandle") ∧ (parseMethodDescriptor y.desc).map (fun d => d.parameters.length) = some n
def mw_yS (y : MethodName) (C : String) (bytes : ByteArray) (maxL : Nat) (ret : Option FieldType) (n : Nat) : Prop := y.cls = C ∧ Cond.static y ∈ mw_T ∧ Cond.initialized C ∈ mw_T ∧ Cond.code y bytes maxL ret ∈ mw_T ∧ (C ≠ "java/lang/invoke/MethodHandle" ∧ C ≠ "java/lang/invoke/VarHandle") ∧ (parseMethodDescriptor y.desc).map (fun d => d.parameters.length) = some n
theorem mw_cw {args : Array Value} {s : State} (hts : ∀ w ∈ mw_T, w.before args s = true) {y : MethodName} {C : String} {bytes : ByteArray} {maxL n fr lo idx : Nat} {ret' : Option FieldType} (h1 : y.cls = C) (hini : Cond.initialized C ∈ mw_T) (hcode : Cond.code y bytes maxL ret' ∈ mw_T) (hd : C ≠ "java/lang/invoke/MethodHandle" ∧ C ≠ "java/lang/invoke/VarHandle") (hn : (parseMethodDescriptor y.desc).map (fun d => d.parameters.length) = some n) (hlk : Cond.methodLink own idx y ∈ mw_T) (hR : fr + 1 ≤ R.frames ∧ 8 + (maxL + 11) + lo ≤ R.locals) : CallB R s args own idx y bytes maxL ret' (.code y bytes maxL ret' :: mw_T) (mw_rm fr lo) 0 0 n := by
  subst h1
  refine ⟨rfl, rfl, hR.1, hR.2, pay_in hts (mw_goodIn hcode), List.mem_cons_self, hts _ hcode, hts _ hini, hd, fun sig h => ?_, hts _ hlk⟩
  rw [h] at hn
  exact (Option.some.inj hn).symm
theorem mw_recv (hC : mw_C p R s m args meth c G kd cc nL own ret) {H : Heap} {locs : List Loc} (hH : mw_H G kd s μ H locs) {b ci : Nat} {ds : List Nat} {q : vw_C} (hb : kd[b]? = some (.inl (ci, ds))) (hc : vwCl[ci]? = some q) : ∃ cell : Cell, H[mw_a G b]? = some cell ∧ cell.vm.isStatics = false ∧ s.vm.findClass q.1 = some cell.cls := va_recv hC.2.1.1 hH.1 hc (mw_ws_at hb)
theorem mw_preV (hC : mw_C p R s m args meth c G kd cc nL own ret) {H : Heap} {locs : List Loc} (hH : mw_H G kd s μ H locs) {b ci : Nat} {ds : List Nat} {q : vw_C} (hb : kd[b]? = some (.inl (ci, ds))) (hc : vwCl[ci]? = some q) (As : List Value) : PreV s H q.1 (mw_a G b) (va_Pc (.ref (mw_a G b) :: As) (mw_Pre G kd μ)) As := ⟨mw_blind, mw_recv hC hH hb hc, fun U hU hW => ⟨rfl, mw_pre_of hC.2.1 hH hU hW⟩⟩
theorem mw_preS (hC : mw_C p R s m args meth c G kd cc nL own ret) {H : Heap} {locs : List Loc} (hH : mw_H G kd s μ H locs) (As : List Value) : PreS s H (va_Pc As (mw_Pre G kd μ)) As := ⟨mw_blind, fun U hU hW => ⟨rfl, mw_pre_of hC.2.1 hH hU hW⟩⟩
theorem r_callVi (hC : mw_C p R s m args meth c G kd cc nL own ret) {y : MethodName} {C : String} {bytes : ByteArray} {maxL n fr lo idx b ci : Nat} {ret' : Option FieldType} {ds : List Nat} {T : u_T} {N : Nat} {Q1 : Int32 → mw_M → Prop} (As : List Value) (hM : mw_Mi l G kd y bytes maxL ret' fr lo (.ref (mw_a G b) :: As) μ Q1) (hy : mw_yV y C bytes maxL ret' n) (hlk : Cond.methodLink own idx y ∈ mw_T) (hb : kd[b]? = some (.inl (ci, ds))) (hc : vwCl[ci]? = some (C, T, N)) (hR : fr + 1 ≤ R.frames ∧ 8 + (maxL + 11) + lo ≤ R.locals) (hn : As.length = n) {st0 : List Value} (hst : st0 = As.reverse ++ .ref (mw_a G b) :: st) (hcat : (st.map fun v => v.category).sum ≤ 8) (hdg : decode cc pc = .ok (.invokevirtual idx, 3)) (K : ∀ r u, Q1 r u → mw_W p l e R s m args below meth c G kd nL Q (pc + 3) lv (.int r :: st) u) : mw_W p l e R s m args below meth c G kd nL Q (pc) lv st0 μ := by
  intro ls H locs hl hH
  obtain ⟨y1, y2, y3, y4, y5, y6, y7⟩ := hy
  exact va_calli (va_runV (Ts := mw_T) (C := C) (As := As) (rest := st) hC.1 hM ⟨mw_cw hC.1.2.2.2.2 y1 y4 y5 y6 y7 hlk hR, hC.1.2.2.2.2 _ y2, hC.1.2.2.2.2 _ y3⟩ (mw_preV hC hH hb hc As) rfl hn hl.1 hst (lv_room hcat) hdg ⟨Nat.zero_le _, Nat.zero_le _⟩) hH.2 (fun q _ h => h) (fun q h => h) (fun r u t H1 locs1 ht hvm hq hB hz hk hS => K r u hq ls H1 locs1 hl ⟨by rw [← ht]; exact hB, hS⟩)
theorem r_callSi (hC : mw_C p R s m args meth c G kd cc nL own ret) {y : MethodName} {C : String} {bytes : ByteArray} {maxL n fr lo idx : Nat} {ret' : Option FieldType} {Q1 : Int32 → mw_M → Prop} (As : List Value) (hM : mw_Mi l G kd y bytes maxL ret' fr lo As μ Q1) (hy : mw_yS y C bytes maxL ret' n) (hlk : Cond.methodLink own idx y ∈ mw_T) (hR : fr + 1 ≤ R.frames ∧ 8 + (maxL + 11) + lo ≤ R.locals) (hn : As.length = n) {st0 : List Value} (hst : st0 = As.reverse ++ st) (hcat : (st.map fun v => v.category).sum ≤ 8) (hdg : decode cc pc = .ok (.invokestatic idx, 3)) (K : ∀ r u, Q1 r u → mw_W p l e R s m args below meth c G kd nL Q (pc + 3) lv (.int r :: st) u) : mw_W p l e R s m args below meth c G kd nL Q (pc) lv st0 μ := by
  intro ls H locs hl hH
  obtain ⟨y1, y2, y4, y5, y6, y7⟩ := hy
  exact va_calli (va_runS (Ts := mw_T) (As := As) (rest := st) hC.1 hM ⟨mw_cw hC.1.2.2.2.2 y1 y4 y5 y6 y7 hlk hR, hC.1.2.2.2.2 _ y2⟩ (mw_preS hC hH As) rfl hn hl.1 hst (lv_room hcat) hdg ⟨Nat.zero_le _, Nat.zero_le _⟩) hH.2 (fun q _ h => h) (fun q h => h) (fun r u t H1 locs1 ht hvm hq hB hz hk hS => K r u hq ls H1 locs1 hl ⟨by rw [← ht]; exact hB, hS⟩)
theorem r_callVl (hC : mw_C p R s m args meth c G kd cc nL own ret) {y : MethodName} {C : String} {bytes : ByteArray} {maxL n fr lo idx b ci : Nat} {ret' : Option FieldType} {ds : List Nat} {T : u_T} {N : Nat} {Q1 : Int64 → mw_M → Prop} (As : List Value) (hM : mw_Ml l G kd y bytes maxL ret' fr lo (.ref (mw_a G b) :: As) μ Q1) (hy : mw_yV y C bytes maxL ret' n) (hlk : Cond.methodLink own idx y ∈ mw_T) (hb : kd[b]? = some (.inl (ci, ds))) (hc : vwCl[ci]? = some (C, T, N)) (hR : fr + 1 ≤ R.frames ∧ 8 + (maxL + 11) + lo ≤ R.locals) (hn : As.length = n) {st0 : List Value} (hst : st0 = As.reverse ++ .ref (mw_a G b) :: st) (hcat : (st.map fun v => v.category).sum ≤ 8) (hdg : decode cc pc = .ok (.invokevirtual idx, 3)) (K : ∀ r u, Q1 r u → mw_W p l e R s m args below meth c G kd nL Q (pc + 3) lv (.long r :: st) u) : mw_W p l e R s m args below meth c G kd nL Q (pc) lv st0 μ := by
  intro ls H locs hl hH
  obtain ⟨y1, y2, y3, y4, y5, y6, y7⟩ := hy
  exact va_calll (va_runV (Ts := mw_T) (C := C) (As := As) (rest := st) hC.1 hM ⟨mw_cw hC.1.2.2.2.2 y1 y4 y5 y6 y7 hlk hR, hC.1.2.2.2.2 _ y2, hC.1.2.2.2.2 _ y3⟩ (mw_preV hC hH hb hc As) rfl hn hl.1 hst (lv_room hcat) hdg ⟨Nat.zero_le _, Nat.zero_le _⟩) hH.2 (fun q _ h => h) (fun q h => h) (fun r u t H1 locs1 ht hvm hq hB hz hk hS => K r u hq ls H1 locs1 hl ⟨by rw [← ht]; exact hB, hS⟩)
theorem r_callSl (hC : mw_C p R s m args meth c G kd cc nL own ret) {y : MethodName} {C : String} {bytes : ByteArray} {maxL n fr lo idx : Nat} {ret' : Option FieldType} {Q1 : Int64 → mw_M → Prop} (As : List Value) (hM : mw_Ml l G kd y bytes maxL ret' fr lo As μ Q1) (hy : mw_yS y C bytes maxL ret' n) (hlk : Cond.methodLink own idx y ∈ mw_T) (hR : fr + 1 ≤ R.frames ∧ 8 + (maxL + 11) + lo ≤ R.locals) (hn : As.length = n) {st0 : List Value} (hst : st0 = As.reverse ++ st) (hcat : (st.map fun v => v.category).sum ≤ 8) (hdg : decode cc pc = .ok (.invokestatic idx, 3)) (K : ∀ r u, Q1 r u → mw_W p l e R s m args below meth c G kd nL Q (pc + 3) lv (.long r :: st) u) : mw_W p l e R s m args below meth c G kd nL Q (pc) lv st0 μ := by
  intro ls H locs hl hH
  obtain ⟨y1, y2, y4, y5, y6, y7⟩ := hy
  exact va_calll (va_runS (Ts := mw_T) (As := As) (rest := st) hC.1 hM ⟨mw_cw hC.1.2.2.2.2 y1 y4 y5 y6 y7 hlk hR, hC.1.2.2.2.2 _ y2⟩ (mw_preS hC hH As) rfl hn hl.1 hst (lv_room hcat) hdg ⟨Nat.zero_le _, Nat.zero_le _⟩) hH.2 (fun q _ h => h) (fun q h => h) (fun r u t H1 locs1 ht hvm hq hB hz hk hS => K r u hq ls H1 locs1 hl ⟨by rw [← ht]; exact hB, hS⟩)
theorem r_callVv (hC : mw_C p R s m args meth c G kd cc nL own ret) {y : MethodName} {C : String} {bytes : ByteArray} {maxL n fr lo idx b ci : Nat} {ret' : Option FieldType} {ds : List Nat} {T : u_T} {N : Nat} {Q1 : mw_M → Prop} (As : List Value) (hM : mw_Mv l G kd y bytes maxL ret' fr lo (.ref (mw_a G b) :: As) μ Q1) (hy : mw_yV y C bytes maxL ret' n) (hlk : Cond.methodLink own idx y ∈ mw_T) (hb : kd[b]? = some (.inl (ci, ds))) (hc : vwCl[ci]? = some (C, T, N)) (hR : fr + 1 ≤ R.frames ∧ 8 + (maxL + 11) + lo ≤ R.locals) (hn : As.length = n) {st0 : List Value} (hst : st0 = As.reverse ++ .ref (mw_a G b) :: st) (hcat : (st.map fun v => v.category).sum ≤ 8) (hdg : decode cc pc = .ok (.invokevirtual idx, 3)) (K : ∀ u, Q1 u → mw_W p l e R s m args below meth c G kd nL Q (pc + 3) lv st u) : mw_W p l e R s m args below meth c G kd nL Q (pc) lv st0 μ := by
  intro ls H locs hl hH
  obtain ⟨y1, y2, y3, y4, y5, y6, y7⟩ := hy
  exact va_callv (va_runV (Ts := mw_T) (C := C) (As := As) (rest := st) hC.1 hM ⟨mw_cw hC.1.2.2.2.2 y1 y4 y5 y6 y7 hlk hR, hC.1.2.2.2.2 _ y2, hC.1.2.2.2.2 _ y3⟩ (mw_preV hC hH hb hc As) rfl hn hl.1 hst (lv_room hcat) hdg ⟨Nat.zero_le _, Nat.zero_le _⟩) hH.2 (fun q _ h => h) (fun q h => h) (fun u t H1 locs1 ht hvm hq hB hz hk hS => K u hq ls H1 locs1 hl ⟨by rw [← ht]; exact hB, hS⟩)
theorem r_callSv (hC : mw_C p R s m args meth c G kd cc nL own ret) {y : MethodName} {C : String} {bytes : ByteArray} {maxL n fr lo idx : Nat} {ret' : Option FieldType} {Q1 : mw_M → Prop} (As : List Value) (hM : mw_Mv l G kd y bytes maxL ret' fr lo As μ Q1) (hy : mw_yS y C bytes maxL ret' n) (hlk : Cond.methodLink own idx y ∈ mw_T) (hR : fr + 1 ≤ R.frames ∧ 8 + (maxL + 11) + lo ≤ R.locals) (hn : As.length = n) {st0 : List Value} (hst : st0 = As.reverse ++ st) (hcat : (st.map fun v => v.category).sum ≤ 8) (hdg : decode cc pc = .ok (.invokestatic idx, 3)) (K : ∀ u, Q1 u → mw_W p l e R s m args below meth c G kd nL Q (pc + 3) lv st u) : mw_W p l e R s m args below meth c G kd nL Q (pc) lv st0 μ := by
  intro ls H locs hl hH
  obtain ⟨y1, y2, y4, y5, y6, y7⟩ := hy
  exact va_callv (va_runS (Ts := mw_T) (As := As) (rest := st) hC.1 hM ⟨mw_cw hC.1.2.2.2.2 y1 y4 y5 y6 y7 hlk hR, hC.1.2.2.2.2 _ y2⟩ (mw_preS hC hH As) rfl hn hl.1 hst (lv_room hcat) hdg ⟨Nat.zero_le _, Nat.zero_le _⟩) hH.2 (fun q _ h => h) (fun q h => h) (fun u t H1 locs1 ht hvm hq hB hz hk hS => K u hq ls H1 locs1 hl ⟨by rw [← ht]; exact hB, hS⟩)
theorem r_iret (hC : mw_C p R s m args meth c G kd cc nL own ret) {Q1 : Int32 → mw_M → Prop} {x : Int32} (hr : ret = some .int) (hdg : decode cc pc = .ok (.ireturn, 1)) (hq : Q1 x μ) : mw_W p l e R s m args below meth c G kd nL (MQ below (va_Qi Q1 (mw_B G kd) (mw_A G kd)) args s 0 0 (mw_A G kd)) pc lv [.int x] μ := fun ls H locs hl hH =>
  W.iret (v := x) hC.1.1 hC.1.2.1 (hC.2.2.1.trans hr) (fun t ht hW => ⟨⟨x, μ, rfl, hq, by show va_P _ _ _ t.heap; rw [ht]; exact hH.1⟩, hH.2.F ht⟩) hH.2.2.2 hdg hC.2.2.2
theorem r_zret (hC : mw_C p R s m args meth c G kd cc nL own ret) {Q1 : Int32 → mw_M → Prop} {x : Int32} {ty : FieldType} (hr : ret = some ty) (hn : narrow ty (.int x) = .int x) (hdg : decode cc pc = .ok (.ireturn, 1)) (hq : Q1 x μ) : mw_W p l e R s m args below meth c G kd nL (MQ below (va_Qi Q1 (mw_B G kd) (mw_A G kd)) args s 0 0 (mw_A G kd)) pc lv [.int x] μ := fun ls H locs hl hH =>
  W.zret (v := x) (ty := ty) hC.1.1 hC.1.2.1 (hC.2.2.1.trans hr) hn (fun t ht hW => ⟨⟨x, μ, rfl, hq, by show va_P _ _ _ t.heap; rw [ht]; exact hH.1⟩, hH.2.F ht⟩) hH.2.2.2 hdg hC.2.2.2
theorem r_vret (hC : mw_C p R s m args meth c G kd cc nL own ret) {Q1 : mw_M → Prop} (hr : ret = none) (hdg : decode cc pc = .ok (.return_, 1)) (hq : Q1 μ) : mw_W p l e R s m args below meth c G kd nL (MQ below (va_Qv Q1 (mw_B G kd) (mw_A G kd)) args s 0 0 (mw_A G kd)) pc lv [] μ := fun ls H locs hl hH =>
  W.vret hC.1.1 hC.1.2.1 (hC.2.2.1.trans hr) (fun t ht hW => ⟨⟨μ, rfl, hq, by show va_P _ _ _ t.heap; rw [ht]; exact hH.1⟩, hH.2.F ht⟩) hH.2.2.2 hdg hC.2.2.2
theorem r_lret (hC : mw_C p R s m args meth c G kd cc nL own ret) {Q1 : Int64 → mw_M → Prop} {x : Int64} (hr : ret = some .long) (hdg : decode cc pc = .ok (.lreturn, 1)) (hq : Q1 x μ) : mw_W p l e R s m args below meth c G kd nL (MQ below (va_Ql Q1 (mw_B G kd) (mw_A G kd)) args s 0 0 (mw_A G kd)) pc lv [.long x] μ := fun ls H locs hl hH =>
  W.lret (v := x) hC.1.1 hC.1.2.1 (hC.2.2.1.trans hr) (fun t ht hW => ⟨⟨x, μ, rfl, hq, by show va_P _ _ _ t.heap; rw [ht]; exact hH.1⟩, hH.2.F ht⟩) hH.2.2.2 hdg hC.2.2.2
theorem r_copyL (hC : mw_C p R s m args meth c G kd cc nL own ret) {idx a b na nb x y x2 y2 : Nat} {sp dp n : Int32} (hw : Cond.methodLink own idx arraycopyName ∈ mw_T ∧ Cond.native arraycopyName ∈ mw_T ∧ Cond.static arraycopyName ∈ mw_T ∧ Cond.initialized "java/lang/System" ∈ mw_T) (ha : kd[a]? = some (.inr (1, na, x, y))) (hb : kd[b]? = some (.inr (1, nb, x2, y2))) (h1 : ¬ sp < 0) (h2 : ¬ dp < 0) (h3 : ¬ n < 0) (h4 : sp.toNatClampNeg + n.toNatClampNeg ≤ na) (h5 : dp.toNatClampNeg + n.toNatClampNeg ≤ nb) (h6 : 1 ≤ R.frames) (h7 : (st.map fun v => v.category).sum + (nativeFrameWords "java/lang/System" "arraycopy" 5 + 11) ≤ R.locals) (hdg : decode cc pc = .ok (.invokestatic idx, 3)) (K : mw_W p l e R s m args below meth c G kd nL Q (pc + 3) lv st (mw_cpy μ a b sp.toNatClampNeg dp.toNatClampNeg n.toNatClampNeg)) : mw_W p l e R s m args below meth c G kd nL Q (pc) lv (.int n :: .int dp :: .ref (mw_a G b) :: .int sp :: .ref (mw_a G a) :: st) μ := by
  intro ls H locs hl hH
  refine va_copyl (tys := mw_tys G) (f := μ.2 a) (g := μ.2 b) hC.1.1 hC.1.2.1 (by rw [hC.1.2.2.1]; exact hl.1.symm) hC.1.2.2.2.1 (hC.1.2.2.2.2 _ hw.1) (hC.1.2.2.2.2 _ hw.2.1) (hC.1.2.2.2.2 _ hw.2.2.1) (hC.1.2.2.2.2 _ hw.2.2.2) hC.2.1.1 hH.1 (mw_ws_D hC.2.1.2.1) hH.2 a b 1 1 (mw_ws_at ha) (mw_ws_at hb) rfl rfl rfl h1 h2 h3 h4 h5 (fun i hi => rfl) h6 h7 hdg (fun H1 locs1 hP hD hS => K ls H1 locs1 hl ⟨?_, hS⟩)
  rw [mw_ws_set (G := G) (μ := μ) (μ' := mw_cpy μ a b sp.toNatClampNeg dp.toNatClampNeg n.toNatClampNeg) hb (by
    show Sum.inl (_, _, Sum.inr (Sum.inl _)) = Sum.inl (_, _, Sum.inr (Sum.inl ((mw_cpy μ a b sp.toNatClampNeg dp.toNatClampNeg n.toNatClampNeg).2 b)))
    rw [show (mw_cpy μ a b sp.toNatClampNeg dp.toNatClampNeg n.toNatClampNeg).2 b = va_cpy (μ.2 a) (μ.2 b) sp.toNatClampNeg dp.toNatClampNeg n.toNatClampNeg from if_pos rfl]) (fun q d h => mw_e_neL (G := G) (μ := μ) (μ' := mw_cpy μ a b sp.toNatClampNeg dp.toNatClampNeg n.toNatClampNeg) rfl (if_neg h) d)] at hP
  exact hP
end MWH
end
section
theorem mw_zz : True := trivial
end
